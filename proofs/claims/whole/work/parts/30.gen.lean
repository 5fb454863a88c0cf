/-! printed by wip/whole/gen.py: each method as a function of numbers and worlds, and its contract -/
section
variable {l : Launch} {g : pj_G} {n0 : Nat} {o : Option pj_V × pj_W} {ph : Bool}
noncomputable def fInt_bitCount (x0 : Int) (w : pj_W) : Option (Int) :=
  (some ((pj_wr ((pj_and (pj_wr (x0 - (pj_and (pj_ushr x0 1) 1431655765))) 858993459) + (pj_and (pj_ushr (pj_wr (x0 - (pj_and (pj_ushr x0 1) 1431655765))) 2) 858993459))))).bind fun y1 => ((some ((pj_wr ((pj_and (pj_wr (y1 + (pj_ushr y1 4))) 252645135) + (pj_ushr (pj_and (pj_wr (y1 + (pj_ushr y1 4))) 252645135) 8))))).bind fun y2 => (some ((pj_and (pj_wr (y2 + (pj_ushr y2 16))) 63))))
theorem tInt_bitCount {Go : pj_C → Prop} (hM : pj_M l yJ6_bitCount_0f7a4 cJ6_bitCount_0f7a4 1 (some .int) 0 0 ph g n0 o Go) (x0 : Int) (w : pj_W)  (R : Int → Prop) (h0 : ∀ r, R (r) → ((some (0, r) : Option pj_V), w) = o) : pj_TG R (fInt_bitCount x0 w) (Go (0, [(0, x0)], [], w)) := by
  unfold fInt_bitCount
  refine pj_map (fun k => pj_iload_n hM (pc := 0) dJ6_bitCount_0f7a4_0 rfl (pj_iload_n hM (pc := 1) dJ6_bitCount_0f7a4_1 rfl (pj_iconst hM (pc := 2) dJ6_bitCount_0f7a4_2 (by decide) (pj_iushr hM (pc := 3) dJ6_bitCount_0f7a4_3 (pj_ldcw hM (pc := 4) (z := 1431655765) dJ6_bitCount_0f7a4_4 kn_J6_265 rfl (by decide) (pj_iand hM (pc := 7) dJ6_bitCount_0f7a4_7 (pj_isub hM (pc := 8) dJ6_bitCount_0f7a4_8 (pj_istore_n hM (pc := 9) dJ6_bitCount_0f7a4_9 (by decide) (lls' := [(0, (pj_wr (x0 - (pj_and (pj_ushr x0 1) 1431655765))))]) rfl (pj_iload_n hM (pc := 10) dJ6_bitCount_0f7a4_10 rfl (pj_ldcw hM (pc := 11) (z := 858993459) dJ6_bitCount_0f7a4_11 kn_J6_266 rfl (by decide) (pj_iand hM (pc := 14) dJ6_bitCount_0f7a4_14 (pj_iload_n hM (pc := 15) dJ6_bitCount_0f7a4_15 rfl (pj_iconst hM (pc := 16) dJ6_bitCount_0f7a4_16 (by decide) (pj_iushr hM (pc := 17) dJ6_bitCount_0f7a4_17 (pj_ldcw hM (pc := 18) (z := 858993459) dJ6_bitCount_0f7a4_18 kn_J6_266 rfl (by decide) (pj_iand hM (pc := 21) dJ6_bitCount_0f7a4_21 (pj_iadd hM (pc := 22) dJ6_bitCount_0f7a4_22 (pj_istore_n hM (pc := 23) dJ6_bitCount_0f7a4_23 (by decide) (lls' := [(0, (pj_wr ((pj_and (pj_wr (x0 - (pj_and (pj_ushr x0 1) 1431655765))) 858993459) + (pj_and (pj_ushr (pj_wr (x0 - (pj_and (pj_ushr x0 1) 1431655765))) 2) 858993459))))]) rfl k)))))))))))))))))) ?_
  refine pj_tlet (fun y1 => Go (24, [(0, y1)], [], w)) (fun y1 => ?_)
  refine pj_map (fun k => pj_iload_n hM (pc := 24) dJ6_bitCount_0f7a4_24 rfl (pj_iload_n hM (pc := 25) dJ6_bitCount_0f7a4_25 rfl (pj_iconst hM (pc := 26) dJ6_bitCount_0f7a4_26 (by decide) (pj_iushr hM (pc := 27) dJ6_bitCount_0f7a4_27 (pj_iadd hM (pc := 28) dJ6_bitCount_0f7a4_28 (pj_ldcw hM (pc := 29) (z := 252645135) dJ6_bitCount_0f7a4_29 kn_J6_267 rfl (by decide) (pj_iand hM (pc := 32) dJ6_bitCount_0f7a4_32 (pj_istore_n hM (pc := 33) dJ6_bitCount_0f7a4_33 (by decide) (lls' := [(0, (pj_and (pj_wr (y1 + (pj_ushr y1 4))) 252645135))]) rfl (pj_iload_n hM (pc := 34) dJ6_bitCount_0f7a4_34 rfl (pj_iload_n hM (pc := 35) dJ6_bitCount_0f7a4_35 rfl (pj_bipush hM (pc := 36) dJ6_bitCount_0f7a4_36 (by decide) (pj_iushr hM (pc := 38) dJ6_bitCount_0f7a4_38 (pj_iadd hM (pc := 39) dJ6_bitCount_0f7a4_39 (pj_istore_n hM (pc := 40) dJ6_bitCount_0f7a4_40 (by decide) (lls' := [(0, (pj_wr ((pj_and (pj_wr (y1 + (pj_ushr y1 4))) 252645135) + (pj_ushr (pj_and (pj_wr (y1 + (pj_ushr y1 4))) 252645135) 8))))]) rfl k)))))))))))))) ?_
  refine pj_tlet (fun y2 => Go (41, [(0, y2)], [], w)) (fun y2 => ?_)
  exact pj_tret (fun hr => pj_iload_n hM (pc := 41) dJ6_bitCount_0f7a4_41 rfl (pj_iload_n hM (pc := 42) dJ6_bitCount_0f7a4_42 rfl (pj_bipush hM (pc := 43) dJ6_bitCount_0f7a4_43 (by decide) (pj_iushr hM (pc := 45) dJ6_bitCount_0f7a4_45 (pj_iadd hM (pc := 46) dJ6_bitCount_0f7a4_46 (pj_istore_n hM (pc := 47) dJ6_bitCount_0f7a4_47 (by decide) (lls' := [(0, (pj_wr (y2 + (pj_ushr y2 16))))]) rfl (pj_iload_n hM (pc := 48) dJ6_bitCount_0f7a4_48 rfl (pj_bipush hM (pc := 49) dJ6_bitCount_0f7a4_49 (by decide) (pj_iand hM (pc := 51) dJ6_bitCount_0f7a4_51 (pj_ret hM (pc := 52) dJ6_bitCount_0f7a4_52 ⟨_, rfl⟩ (h0 ((pj_and (pj_wr (y2 + (pj_ushr y2 16))) 63)) hr) rfl))))))))))
theorem cInt_bitCount (x0 : Int)  (w : pj_W) (r : Int) (h : fInt_bitCount x0 w = some r) : pj_Cn l yJ6_bitCount_0f7a4 cJ6_bitCount_0f7a4 1 (some .int) 0 0 ph g [(0, x0)] w ((some (0, r) : Option pj_V), w) :=
  pj_Cn_of (by decide +kernel) (Nat.le_of_ble_eq_true rfl) (lls := [(0, x0)]) rfl (fun Go hM => tInt_bitCount hM x0 w (fun x => ((some (0, x) : Option pj_V), w) = ((some (0, r) : Option pj_V), w)) (fun r h => h) r h rfl)
noncomputable def fX_answer (x1 : Int) (w : pj_W) : Option (Int × pj_W) :=
  some ((x1, (pj_set w 10 0 15 0)))
theorem tX_answer {Go : pj_C → Prop} (hM : pj_M l yX11_answer cX11_answer 2 (some .int) 0 0 ph g n0 o Go) (x1 : Int) (w : pj_W)  (R : Int × pj_W → Prop) (h0 : ∀ r, R (r) → ((some (0, r.1) : Option pj_V), r.2) = o) : pj_TG R (fX_answer x1 w) (Go (0, [(10, 0), (0, x1)], [], w)) := by
  unfold fX_answer
  exact pj_tret (fun hr => pj_aload_n hM (pc := 0) dX11_answer_0 rfl rfl (pj_iconst hM (pc := 1) dX11_answer_1 (by decide) (pj_pf hM (pc := 2) dX11_answer_2 fl_X11_89 (by decide) rfl (fun h => absurd h (by decide)) (by decide) (fun _ => rfl) 15 rfl (pj_iload_n hM (pc := 5) dX11_answer_5 rfl (pj_ret hM (pc := 6) dX11_answer_6 ⟨_, rfl⟩ (h0 ((x1, (pj_set w 10 0 15 0))) hr) rfl)))))
theorem cX_answer (x1 : Int)  (w : pj_W) (r : Int × pj_W) (h : fX_answer x1 w = some r) : pj_Cn l yX11_answer cX11_answer 2 (some .int) 0 0 ph g [(10, 0), (0, x1)] w ((some (0, r.1) : Option pj_V), r.2) :=
  pj_Cn_of rfl (Nat.le_of_ble_eq_true rfl) (lls := [(10, 0), (0, x1)]) rfl (fun Go hM => tX_answer hM x1 w (fun x => ((some (0, x.1) : Option pj_V), x.2) = ((some (0, r.1) : Option pj_V), r.2)) (fun r h => h) r h rfl)
noncomputable def fN_ownerSet_4b (i0 : Int) (w : pj_W) (x1 : Int) (x2 : Int) : Option ((Int × Int) ⊕ (Int)) :=
  if (w 23 i0 6) ≤ x2 then (some (Sum.inr (x1))) else (if 0 ≤ x2 ∧ x2 < 60 then (some (Sum.inl ((pj_or x1 (pj_shl 1 (w 45 i0 x2))), (pj_wr (x2 + 1))))) else none)
noncomputable def fN_ownerSet_4 (i0 : Int) (w : pj_W) (s : (Int × Int)) : Option (Int) := pj_Lp (fun s : (Int × Int) => fN_ownerSet_4b i0 w s.1 s.2) s
noncomputable def fN_ownerSet (i0 : Int) (w : pj_W) : Option (Int) :=
  fN_ownerSet_4 i0 w (0, 0)
theorem tN_ownerSet_4b {Go : pj_C → Prop} (hM : pj_M l yX4_ownerSet cX4_ownerSet 3 (some .int) 0 0 true g n0 o Go) (i0 : Int) (w : pj_W) (x1 : Int) (x2 : Int) (hn0 : 0 ≤ i0) (R : (Int × Int) ⊕ (Int) → Prop) (h0 : ∀ r, R (Sum.inr (r)) → ((some (0, r) : Option pj_V), w) = o) (hk4 : ∀ s, R (Sum.inl s) → Go (4, [(23, i0), (0, s.1), (0, s.2)], [], w)) : pj_TG R (fN_ownerSet_4b i0 w x1 x2) (Go (4, [(23, i0), (0, x1), (0, x2)], [], w)) := by
  unfold fN_ownerSet_4b
  refine pj_map (fun k => pj_iload_n hM (pc := 4) dX4_ownerSet_4 rfl (pj_aload_n hM (pc := 5) dX4_ownerSet_5 rfl rfl (pj_gf hM (pc := 6) (t := 0) dX4_ownerSet_6 fl_X4_35 hn0 rfl 6 rfl k))) ?_
  refine pj_tif (fun h1 => ?_) (fun h1 => ?_)
  · exact pj_tret (fun hr => pj_ic_ge_t hM (pc := 9) dX4_ownerSet_9 rfl h1 (pj_iload_n hM (pc := 29) dX4_ownerSet_29 rfl (pj_ret hM (pc := 30) dX4_ownerSet_30 ⟨_, rfl⟩ (h0 (x1) hr) rfl)))
  refine pj_tgd (fun h2 => ?_)
  exact pj_tret (fun hr => pj_ic_ge_f hM (pc := 9) 29 dX4_ownerSet_9 rfl h1 (pj_iload_n hM (pc := 12) dX4_ownerSet_12 rfl (pj_iconst hM (pc := 13) dX4_ownerSet_13 (by decide) (pj_aload_n hM (pc := 14) dX4_ownerSet_14 rfl rfl (pj_getF hM (pc := 15) (t := 45) dX4_ownerSet_15 fl_X4_11 hn0 rfl rfl (pj_iload_n hM (pc := 18) dX4_ownerSet_18 rfl (pj_ial hM (pc := 19) dX4_ownerSet_19 ki_45 hn0 h2 (pj_ishl hM (pc := 20) dX4_ownerSet_20 (pj_ior hM (pc := 21) dX4_ownerSet_21 (pj_istore_n hM (pc := 22) dX4_ownerSet_22 (by decide) (lls' := [(23, i0), (0, (pj_or x1 (pj_shl 1 (w 45 i0 x2)))), (0, x2)]) rfl (pj_iinc hM (pc := 23) dX4_ownerSet_23 rfl (by decide) (lls' := [(23, i0), (0, (pj_or x1 (pj_shl 1 (w 45 i0 x2)))), (0, (pj_wr (x2 + 1)))]) rfl (pj_goto hM (pc := 26) dX4_ownerSet_26 rfl (pj_kill hM [true, true, true] (lls' := [(23, i0), (0, (pj_or x1 (pj_shl 1 (w 45 i0 x2)))), (0, (pj_wr (x2 + 1)))]) rfl ((hk4 _ hr)))))))))))))))
theorem tN_ownerSet_4 {Go : pj_C → Prop} (hM : pj_M l yX4_ownerSet cX4_ownerSet 3 (some .int) 0 0 true g n0 o Go) (i0 : Int) (w : pj_W) (hn0 : 0 ≤ i0) (R : Int → Prop) (h0 : ∀ r, R (r) → ((some (0, r) : Option pj_V), w) = o) (s : (Int × Int)) : pj_TG R (fN_ownerSet_4 i0 w s) (Go (4, [(23, i0), (0, s.1), (0, s.2)], [], w)) := by
  unfold fN_ownerSet_4
  exact pj_tLp (G := fun s : (Int × Int) => Go (4, [(23, i0), (0, s.1), (0, s.2)], [], w)) (fun s => tN_ownerSet_4b hM i0 w s.1 s.2 hn0 _ (fun r h => h0 r h)  (fun s h => h)) s
theorem tN_ownerSet {Go : pj_C → Prop} (hM : pj_M l yX4_ownerSet cX4_ownerSet 3 (some .int) 0 0 true g n0 o Go) (i0 : Int) (w : pj_W) (hn0 : 0 ≤ i0) (R : Int → Prop) (h0 : ∀ r, R (r) → ((some (0, r) : Option pj_V), w) = o) : pj_TG R (fN_ownerSet i0 w) (Go (0, [(23, i0), (9, 0), (9, 0)], [], w)) := by
  unfold fN_ownerSet
  refine pj_map (fun k => pj_iconst hM (pc := 0) dX4_ownerSet_0 (by decide) (pj_istore_n hM (pc := 1) dX4_ownerSet_1 (by decide) (lls' := [(23, i0), (0, 0), (9, 0)]) rfl (pj_iconst hM (pc := 2) dX4_ownerSet_2 (by decide) (pj_istore_n hM (pc := 3) dX4_ownerSet_3 (by decide) (lls' := [(23, i0), (0, 0), (0, 0)]) rfl (pj_kill hM [true, true, true] (lls' := [(23, i0), (0, 0), (0, 0)]) rfl k))))) ?_
  exact tN_ownerSet_4 hM i0 w hn0 _ h0 _
theorem cN_ownerSet (i0 : Int) (hn0 : 0 ≤ i0) (w : pj_W) (r : Int) (h : fN_ownerSet i0 w = some r) : pj_Cn l yX4_ownerSet cX4_ownerSet 3 (some .int) 0 0 true g [(23, i0)] w ((some (0, r) : Option pj_V), w) :=
  pj_Cn_of rfl (Nat.le_of_ble_eq_true rfl) (lls := [(23, i0), (9, 0), (9, 0)]) rfl (fun Go hM => tN_ownerSet hM i0 w hn0 (fun x => ((some (0, x) : Option pj_V), w) = ((some (0, r) : Option pj_V), w)) (fun r h => h) r h rfl)
noncomputable def fX_alone_40 (x1 : Int) (x2 : Int) (w : pj_W) : Option ((Int × Int) ⊕ (Int × pj_W)) :=
  some (Sum.inl (x1, (pj_wr (x2 + 1))))
noncomputable def fX_alone_4b  (w : pj_W) (x1 : Int) (x2 : Int) : Option ((Int × Int) ⊕ (Int × pj_W)) :=
  if 0 ≤ (w 10 0 10) then (if (w 19 (w 10 0 10) 8) ≤ x2 then ((fX_answer x1 w).bind fun p3 => (some (Sum.inr ((p3.1, p3.2))))) else (if 0 ≤ x2 ∧ x2 < 8 then ((fN_ownerSet (8 * (w 10 0 10) + x2) w).bind fun p6 => ((fInt_bitCount p6 w).bind fun p8 => (fX_alone_40 (if p8 = 1 then (pj_or x1 (pj_shl 1 x2)) else x1) x2 w))) else none)) else none
noncomputable def fX_alone_4  (w : pj_W) (s : (Int × Int)) : Option (Int × pj_W) := pj_Lp (fun s : (Int × Int) => fX_alone_4b  w s.1 s.2) s
noncomputable def fX_alone  (w : pj_W) : Option (Int × pj_W) :=
  fX_alone_4 w (0, 0)
theorem tX_alone_40 {Go : pj_C → Prop} (hM : pj_M l yX11_alone cX11_alone 3 (some .int) 1 22 true g n0 o Go) (x1 : Int) (x2 : Int) (w : pj_W)  (R : (Int × Int) ⊕ (Int × pj_W) → Prop) (h0 : ∀ r, R (Sum.inr (r)) → ((some (0, r.1) : Option pj_V), r.2) = o) (hk4 : ∀ s, R (Sum.inl s) → Go (4, [(10, 0), (0, s.1), (0, s.2)], [], w)) : pj_TG R (fX_alone_40 x1 x2 w) (Go (40, [(10, 0), (0, x1), (0, x2)], [], w)) := by
  unfold fX_alone_40
  exact pj_tret (fun hr => pj_iinc hM (pc := 40) dX11_alone_40 rfl (by decide) (lls' := [(10, 0), (0, x1), (0, (pj_wr (x2 + 1)))]) rfl (pj_goto hM (pc := 43) dX11_alone_43 rfl (pj_kill hM [true, true, true] (lls' := [(10, 0), (0, x1), (0, (pj_wr (x2 + 1)))]) rfl ((hk4 _ hr)))))
theorem tX_alone_4b {Go : pj_C → Prop} (hM : pj_M l yX11_alone cX11_alone 3 (some .int) 1 22 true g n0 o Go)  (w : pj_W) (x1 : Int) (x2 : Int)  (R : (Int × Int) ⊕ (Int × pj_W) → Prop) (h0 : ∀ r, R (Sum.inr (r)) → ((some (0, r.1) : Option pj_V), r.2) = o) (hk4 : ∀ s, R (Sum.inl s) → Go (4, [(10, 0), (0, s.1), (0, s.2)], [], w)) : pj_TG R (fX_alone_4b  w x1 x2) (Go (4, [(10, 0), (0, x1), (0, x2)], [], w)) := by
  unfold fX_alone_4b
  refine pj_tgd (fun h1 => ?_)
  refine pj_map (fun k => pj_iload_n hM (pc := 4) dX11_alone_4 rfl (pj_aload_n hM (pc := 5) dX11_alone_5 rfl rfl (pj_gf hM (pc := 6) (t := 19) dX11_alone_6 fl_X11_69 (by decide) rfl 10 rfl (pj_gf hM (pc := 9) (t := 0) dX11_alone_9 fl_X11_175 h1 rfl 8 rfl k)))) ?_
  refine pj_tif (fun h2 => ?_) (fun h2 => ?_)
  · refine pj_tbind (fun p3 h4 => ?_)
    exact pj_tret (fun hr => pj_ic_ge_t hM (pc := 12) dX11_alone_12 rfl h2 (pj_aload_n hM (pc := 46) dX11_alone_46 rfl rfl (pj_iload_n hM (pc := 47) dX11_alone_47 rfl (pj_cV hM (pc := 48) (cX_answer x1 w p3 h4) dX11_alone_48 mf_X11_answer mv_X11_answer ml_X11_96 kc_10 rfl rfl (by decide) rfl rfl (pj_ret hM (pc := 51) dX11_alone_51 ⟨_, rfl⟩ (h0 ((p3.1, p3.2)) hr) rfl)))))
  refine pj_tgd (fun h5 => ?_)
  refine pj_tbind (fun p6 h7 => ?_)
  refine pj_tbind (fun p8 h9 => ?_)
  refine pj_map (fun k => pj_ic_ge_f hM (pc := 12) 46 dX11_alone_12 rfl h2 (pj_aload_n hM (pc := 15) dX11_alone_15 rfl rfl (pj_gf hM (pc := 16) (t := 19) dX11_alone_16 fl_X11_69 (by decide) rfl 10 rfl (pj_getF hM (pc := 19) (t := 21) dX11_alone_19 fl_X11_303 h1 rfl rfl (pj_iload_n hM (pc := 22) dX11_alone_22 rfl (pj_aald hM (pc := 23) (fun s : Int => 8 * (w 10 0 10) + s) dX11_alone_23 (by decide) rfl (fun _ => rfl) ⟨_, rfl⟩ (by decide) h1 h5 (fun _ => rfl) (by show (0 : Int) ≤ (8 * (w 10 0 10) + x2); omega) (pj_cV hM (pc := 24) (cN_ownerSet (8 * (w 10 0 10) + x2) (by show (0 : Int) ≤ (8 * (w 10 0 10) + x2); omega) w p6 h7) dX11_alone_24 mf_X4_ownerSet mv_X4_ownerSet ml_X11_371 kc_23 rfl rfl (by show (0 : Int) ≤ (8 * (w 10 0 10) + x2); omega) rfl rfl (pj_cS hM (pc := 27) (cInt_bitCount p6 w p8 h9) dX11_alone_27 mf_J6_bitCount_0f7a4 ms_J6_bitCount_0f7a4 ml_X11_307 rfl rfl rfl rfl (pj_iconst hM (pc := 30) dX11_alone_30 (by decide) k))))))))) ?_
  refine pj_tJ (fun v : Int => fX_alone_40 v x2 w) (fun h10 => ?_) (fun h10 => ?_)
  · refine pj_map (fun k => pj_ic_ne_f hM (pc := 31) 40 dX11_alone_31 rfl (fun q => q h10) (pj_iload_n hM (pc := 34) dX11_alone_34 rfl (pj_iconst hM (pc := 35) dX11_alone_35 (by decide) (pj_iload_n hM (pc := 36) dX11_alone_36 rfl (pj_ishl hM (pc := 37) dX11_alone_37 (pj_ior hM (pc := 38) dX11_alone_38 (pj_istore_n hM (pc := 39) dX11_alone_39 (by decide) (lls' := [(10, 0), (0, (pj_or x1 (pj_shl 1 x2))), (0, x2)]) rfl (pj_kill hM [true, true, true] (lls' := [(10, 0), (0, (pj_or x1 (pj_shl 1 x2))), (0, x2)]) rfl k)))))))) ?_
    exact tX_alone_40 hM (pj_or x1 (pj_shl 1 x2)) x2 w _ h0 hk4
  refine pj_map (fun k => pj_ic_ne_t hM (pc := 31) dX11_alone_31 rfl h10 (pj_kill hM [true, true, true] (lls' := [(10, 0), (0, x1), (0, x2)]) rfl k)) ?_
  exact tX_alone_40 hM x1 x2 w _ h0 hk4
theorem tX_alone_4 {Go : pj_C → Prop} (hM : pj_M l yX11_alone cX11_alone 3 (some .int) 1 22 true g n0 o Go)  (w : pj_W)  (R : Int × pj_W → Prop) (h0 : ∀ r, R (r) → ((some (0, r.1) : Option pj_V), r.2) = o) (s : (Int × Int)) : pj_TG R (fX_alone_4  w s) (Go (4, [(10, 0), (0, s.1), (0, s.2)], [], w)) := by
  unfold fX_alone_4
  exact pj_tLp (G := fun s : (Int × Int) => Go (4, [(10, 0), (0, s.1), (0, s.2)], [], w)) (fun s => tX_alone_4b hM  w s.1 s.2  _ (fun r h => h0 r h)  (fun s h => h)) s
theorem tX_alone {Go : pj_C → Prop} (hM : pj_M l yX11_alone cX11_alone 3 (some .int) 1 22 true g n0 o Go)  (w : pj_W)  (R : Int × pj_W → Prop) (h0 : ∀ r, R (r) → ((some (0, r.1) : Option pj_V), r.2) = o) : pj_TG R (fX_alone  w) (Go (0, [(10, 0), (9, 0), (9, 0)], [], w)) := by
  unfold fX_alone
  refine pj_map (fun k => pj_iconst hM (pc := 0) dX11_alone_0 (by decide) (pj_istore_n hM (pc := 1) dX11_alone_1 (by decide) (lls' := [(10, 0), (0, 0), (9, 0)]) rfl (pj_iconst hM (pc := 2) dX11_alone_2 (by decide) (pj_istore_n hM (pc := 3) dX11_alone_3 (by decide) (lls' := [(10, 0), (0, 0), (0, 0)]) rfl (pj_kill hM [true, true, true] (lls' := [(10, 0), (0, 0), (0, 0)]) rfl k))))) ?_
  exact tX_alone_4 hM w _ h0 _
theorem cX_alone   (w : pj_W) (r : Int × pj_W) (h : fX_alone  w = some r) : pj_Cn l yX11_alone cX11_alone 3 (some .int) 1 22 true g [(10, 0)] w ((some (0, r.1) : Option pj_V), r.2) :=
  pj_Cn_of rfl (Nat.le_of_ble_eq_true rfl) (lls := [(10, 0), (9, 0), (9, 0)]) rfl (fun Go hM => tX_alone hM w (fun x => ((some (0, x.1) : Option pj_V), x.2) = ((some (0, r.1) : Option pj_V), r.2)) (fun r h => h) r h rfl)
noncomputable def fN_becomeLike (i0 : Int) (x1 : Int) (w : pj_W) : Option (pj_W) :=
  if 0 ≤ x1 then ((some (pj_set (pj_set (pj_set w 23 i0 2 (w 23 x1 2)) 23 i0 3 ((pj_set w 23 i0 2 (w 23 x1 2)) 23 x1 3)) 23 i0 4 ((pj_set (pj_set w 23 i0 2 (w 23 x1 2)) 23 i0 3 ((pj_set w 23 i0 2 (w 23 x1 2)) 23 x1 3)) 23 x1 4))).bind fun w2 => (if (w2 23 x1 5) = 0 ∨ (w2 23 x1 5) = 1 then ((some (pj_set (pj_set w2 23 i0 5 (w2 23 x1 5)) 23 i0 6 ((pj_set w2 23 i0 5 (w2 23 x1 5)) 23 x1 6))).bind fun w4 => (if ((0 : Int) ≤ 0 ∧ (0 : Int) ≤ 0 ∧ (0 : Int) ≤ (w4 23 i0 6)) ∧ (0 : Int) + (w4 23 i0 6) ≤ 60 ∧ (0 : Int) + (w4 23 i0 6) ≤ 60 then (if ((0 : Int) ≤ 0 ∧ (0 : Int) ≤ 0 ∧ (0 : Int) ≤ ((pj_cpy w4 45 x1 0 45 i0 0 (w4 23 i0 6)) 23 i0 6)) ∧ (0 : Int) + ((pj_cpy w4 45 x1 0 45 i0 0 (w4 23 i0 6)) 23 i0 6) ≤ 60 ∧ (0 : Int) + ((pj_cpy w4 45 x1 0 45 i0 0 (w4 23 i0 6)) 23 i0 6) ≤ 60 then (some ((pj_cpy (pj_cpy w4 45 x1 0 45 i0 0 (w4 23 i0 6)) 46 x1 0 46 i0 0 ((pj_cpy w4 45 x1 0 45 i0 0 (w4 23 i0 6)) 23 i0 6)))) else none) else none)) else none)) else none
theorem tN_becomeLike {Go : pj_C → Prop} (hM : pj_M l yX4_becomeLike cX4_becomeLike 2 none 1 26 true g n0 o Go) (i0 : Int) (x1 : Int) (w : pj_W) (hn0 : 0 ≤ i0) (R : pj_W → Prop) (h0 : ∀ r, R (r) → ((none : Option pj_V), r) = o) : pj_TG R (fN_becomeLike i0 x1 w) (Go (0, [(23, i0), (23, x1)], [], w)) := by
  unfold fN_becomeLike
  refine pj_tgd (fun h1 => ?_)
  refine pj_map (fun k => pj_aload_n hM (pc := 0) dX4_becomeLike_0 rfl rfl (pj_aload_n hM (pc := 1) dX4_becomeLike_1 rfl rfl (pj_gf hM (pc := 2) (t := 1) dX4_becomeLike_2 fl_X4_20 h1 rfl 2 rfl (pj_pf hM (pc := 5) dX4_becomeLike_5 fl_X4_20 hn0 rfl (fun h => absurd h (by decide)) (by decide) (fun _ => rfl) 2 rfl (pj_aload_n hM (pc := 8) dX4_becomeLike_8 rfl rfl (pj_aload_n hM (pc := 9) dX4_becomeLike_9 rfl rfl (pj_gf hM (pc := 10) (t := 0) dX4_becomeLike_10 fl_X4_24 h1 rfl 3 rfl (pj_pf hM (pc := 13) dX4_becomeLike_13 fl_X4_24 hn0 rfl (fun h => absurd h (by decide)) (by decide) (fun _ => rfl) 3 rfl (pj_aload_n hM (pc := 16) dX4_becomeLike_16 rfl rfl (pj_aload_n hM (pc := 17) dX4_becomeLike_17 rfl rfl (pj_gf hM (pc := 18) (t := 0) dX4_becomeLike_18 fl_X4_28 h1 rfl 4 rfl (pj_pf hM (pc := 21) dX4_becomeLike_21 fl_X4_28 hn0 rfl (fun h => absurd h (by decide)) (by decide) (fun _ => rfl) 4 rfl k)))))))))))) ?_
  refine pj_tlet (fun w2 => Go (24, [(23, i0), (23, x1)], [], w2)) (fun w2 => ?_)
  refine pj_tgd (fun h3 => ?_)
  refine pj_map (fun k => pj_aload_n hM (pc := 24) dX4_becomeLike_24 rfl rfl (pj_aload_n hM (pc := 25) dX4_becomeLike_25 rfl rfl (pj_gf hM (pc := 26) (t := 0) dX4_becomeLike_26 fl_X4_31 h1 rfl 5 rfl (pj_pf hM (pc := 29) dX4_becomeLike_29 fl_X4_31 hn0 rfl (fun _ => h3) (by decide) (fun _ => rfl) 5 rfl (pj_aload_n hM (pc := 32) dX4_becomeLike_32 rfl rfl (pj_aload_n hM (pc := 33) dX4_becomeLike_33 rfl rfl (pj_gf hM (pc := 34) (t := 0) dX4_becomeLike_34 fl_X4_35 h1 rfl 6 rfl (pj_pf hM (pc := 37) dX4_becomeLike_37 fl_X4_35 hn0 rfl (fun h => absurd h (by decide)) (by decide) (fun _ => rfl) 6 rfl k)))))))) ?_
  refine pj_tlet (fun w4 => Go (40, [(23, i0), (23, x1)], [], w4)) (fun w4 => ?_)
  refine pj_tgd (fun h5 => ?_)
  refine pj_tgd (fun h6 => ?_)
  exact pj_tret (fun hr => pj_aload_n hM (pc := 40) dX4_becomeLike_40 rfl rfl (pj_getF hM (pc := 41) (t := 45) dX4_becomeLike_41 fl_X4_11 h1 rfl rfl (pj_iconst hM (pc := 44) dX4_becomeLike_44 (by decide) (pj_aload_n hM (pc := 45) dX4_becomeLike_45 rfl rfl (pj_getF hM (pc := 46) (t := 45) dX4_becomeLike_46 fl_X4_11 hn0 rfl rfl (pj_iconst hM (pc := 49) dX4_becomeLike_49 (by decide) (pj_aload_n hM (pc := 50) dX4_becomeLike_50 rfl rfl (pj_gf hM (pc := 51) (t := 0) dX4_becomeLike_51 fl_X4_35 hn0 rfl 6 rfl (pj_cpi hM (pc := 54) dX4_becomeLike_54 ml_X4_38 mo_A ki_45 ki_45 h1 hn0 h5 rfl (pj_aload_n hM (pc := 57) dX4_becomeLike_57 rfl rfl (pj_getF hM (pc := 58) (t := 46) dX4_becomeLike_58 fl_X4_17 h1 rfl rfl (pj_iconst hM (pc := 61) dX4_becomeLike_61 (by decide) (pj_aload_n hM (pc := 62) dX4_becomeLike_62 rfl rfl (pj_getF hM (pc := 63) (t := 46) dX4_becomeLike_63 fl_X4_17 hn0 rfl rfl (pj_iconst hM (pc := 66) dX4_becomeLike_66 (by decide) (pj_aload_n hM (pc := 67) dX4_becomeLike_67 rfl rfl (pj_gf hM (pc := 68) (t := 0) dX4_becomeLike_68 fl_X4_35 hn0 rfl 6 rfl (pj_cpi hM (pc := 71) dX4_becomeLike_71 ml_X4_38 mo_A ki_46 ki_46 h1 hn0 h6 rfl (pj_ret hM (pc := 74) dX4_becomeLike_74 rfl (h0 ((pj_cpy (pj_cpy w4 45 x1 0 45 i0 0 (w4 23 i0 6)) 46 x1 0 46 i0 0 ((pj_cpy w4 45 x1 0 45 i0 0 (w4 23 i0 6)) 23 i0 6))) hr) rfl)))))))))))))))))))
theorem cN_becomeLike (i0 : Int) (x1 : Int) (hn0 : 0 ≤ i0) (w : pj_W) (r : pj_W) (h : fN_becomeLike i0 x1 w = some r) : pj_Cn l yX4_becomeLike cX4_becomeLike 2 none 1 26 true g [(23, i0), (23, x1)] w ((none : Option pj_V), r) :=
  pj_Cn_of rfl (Nat.le_of_ble_eq_true rfl) (lls := [(23, i0), (23, x1)]) rfl (fun Go hM => tN_becomeLike hM i0 x1 w hn0 (fun x => ((none : Option pj_V), x) = ((none : Option pj_V), r)) (fun r h => h) r h rfl)
noncomputable def fF_becomeLike (i0 : Int) (x1 : Int) (w : pj_W) : Option (pj_W) :=
  if 0 ≤ x1 then ((some (pj_set (pj_set (pj_set w 22 i0 0 (w 22 x1 0)) 22 i0 1 ((pj_set w 22 i0 0 (w 22 x1 0)) 22 x1 1)) 22 i0 2 ((pj_set (pj_set w 22 i0 0 (w 22 x1 0)) 22 i0 1 ((pj_set w 22 i0 0 (w 22 x1 0)) 22 x1 1)) 22 x1 2))).bind fun w2 => ((some (pj_set (pj_set w2 22 i0 3 (w2 22 x1 3)) 22 i0 4 ((pj_set w2 22 i0 3 (w2 22 x1 3)) 22 x1 4))).bind fun w3 => (some ((pj_set w3 22 i0 5 (w3 22 x1 5)))))) else none
theorem tF_becomeLike {Go : pj_C → Prop} (hM : pj_M l yX5_becomeLike cX5_becomeLike 2 none 0 0 ph g n0 o Go) (i0 : Int) (x1 : Int) (w : pj_W) (hn0 : 0 ≤ i0) (R : pj_W → Prop) (h0 : ∀ r, R (r) → ((none : Option pj_V), r) = o) : pj_TG R (fF_becomeLike i0 x1 w) (Go (0, [(22, i0), (22, x1)], [], w)) := by
  unfold fF_becomeLike
  refine pj_tgd (fun h1 => ?_)
  refine pj_map (fun k => pj_aload_n hM (pc := 0) dX5_becomeLike_0 rfl rfl (pj_aload_n hM (pc := 1) dX5_becomeLike_1 rfl rfl (pj_gf hM (pc := 2) (t := 1) dX5_becomeLike_2 fl_X5_7 h1 rfl 0 rfl (pj_pf hM (pc := 5) dX5_becomeLike_5 fl_X5_7 hn0 rfl (fun h => absurd h (by decide)) (by decide) (fun _ => rfl) 0 rfl (pj_aload_n hM (pc := 8) dX5_becomeLike_8 rfl rfl (pj_aload_n hM (pc := 9) dX5_becomeLike_9 rfl rfl (pj_gf hM (pc := 10) (t := 0) dX5_becomeLike_10 fl_X5_13 h1 rfl 1 rfl (pj_pf hM (pc := 13) dX5_becomeLike_13 fl_X5_13 hn0 rfl (fun h => absurd h (by decide)) (by decide) (fun _ => rfl) 1 rfl (pj_aload_n hM (pc := 16) dX5_becomeLike_16 rfl rfl (pj_aload_n hM (pc := 17) dX5_becomeLike_17 rfl rfl (pj_gf hM (pc := 18) (t := 0) dX5_becomeLike_18 fl_X5_17 h1 rfl 2 rfl (pj_pf hM (pc := 21) dX5_becomeLike_21 fl_X5_17 hn0 rfl (fun h => absurd h (by decide)) (by decide) (fun _ => rfl) 2 rfl k)))))))))))) ?_
  refine pj_tlet (fun w2 => Go (24, [(22, i0), (22, x1)], [], w2)) (fun w2 => ?_)
  refine pj_map (fun k => pj_aload_n hM (pc := 24) dX5_becomeLike_24 rfl rfl (pj_aload_n hM (pc := 25) dX5_becomeLike_25 rfl rfl (pj_gf hM (pc := 26) (t := 0) dX5_becomeLike_26 fl_X5_20 h1 rfl 3 rfl (pj_pf hM (pc := 29) dX5_becomeLike_29 fl_X5_20 hn0 rfl (fun h => absurd h (by decide)) (by decide) (fun _ => rfl) 3 rfl (pj_aload_n hM (pc := 32) dX5_becomeLike_32 rfl rfl (pj_aload_n hM (pc := 33) dX5_becomeLike_33 rfl rfl (pj_gf hM (pc := 34) (t := 0) dX5_becomeLike_34 fl_X5_23 h1 rfl 4 rfl (pj_pf hM (pc := 37) dX5_becomeLike_37 fl_X5_23 hn0 rfl (fun h => absurd h (by decide)) (by decide) (fun _ => rfl) 4 rfl k)))))))) ?_
  refine pj_tlet (fun w3 => Go (40, [(22, i0), (22, x1)], [], w3)) (fun w3 => ?_)
  exact pj_tret (fun hr => pj_aload_n hM (pc := 40) dX5_becomeLike_40 rfl rfl (pj_aload_n hM (pc := 41) dX5_becomeLike_41 rfl rfl (pj_gf hM (pc := 42) (t := 0) dX5_becomeLike_42 fl_X5_26 h1 rfl 5 rfl (pj_pf hM (pc := 45) dX5_becomeLike_45 fl_X5_26 hn0 rfl (fun h => absurd h (by decide)) (by decide) (fun _ => rfl) 5 rfl (pj_ret hM (pc := 48) dX5_becomeLike_48 rfl (h0 ((pj_set w3 22 i0 5 (w3 22 x1 5))) hr) rfl)))))
theorem cF_becomeLike (i0 : Int) (x1 : Int) (hn0 : 0 ≤ i0) (w : pj_W) (r : pj_W) (h : fF_becomeLike i0 x1 w = some r) : pj_Cn l yX5_becomeLike cX5_becomeLike 2 none 0 0 ph g [(22, i0), (22, x1)] w ((none : Option pj_V), r) :=
  pj_Cn_of rfl (Nat.le_of_ble_eq_true rfl) (lls := [(22, i0), (22, x1)]) rfl (fun Go hM => tF_becomeLike hM i0 x1 w hn0 (fun x => ((none : Option pj_V), x) = ((none : Option pj_V), r)) (fun r h => h) r h rfl)
noncomputable def fB_copyFrom_97b (i0 : Int) (x1 : Int) (x2 : Int) (w : pj_W) : Option ((Int × pj_W) ⊕ (pj_W)) :=
  if (w 19 i0 8) ≤ x2 then (some (Sum.inr (w))) else (if 0 ≤ x2 ∧ x2 < 8 then ((fN_becomeLike (8 * i0 + x2) (8 * x1 + x2) w).bind fun p3 => (some (Sum.inl ((pj_wr (x2 + 1)), p3)))) else none)
noncomputable def fB_copyFrom_97 (i0 : Int) (x1 : Int) (s : (Int × pj_W)) : Option (pj_W) := pj_Lp (fun s : (Int × pj_W) => fB_copyFrom_97b i0 x1 s.1 s.2) s
noncomputable def fB_copyFrom_66b (i0 : Int) (x1 : Int) (x2 : Int) (w : pj_W) : Option ((Int × pj_W) ⊕ (pj_W)) :=
  if (w 19 i0 7) ≤ x2 then ((fB_copyFrom_97 i0 x1 (0, w)).map Sum.inr) else (if 0 ≤ x2 ∧ x2 < 6 then ((fF_becomeLike (6 * i0 + x2) (6 * x1 + x2) w).bind fun p3 => (some (Sum.inl ((pj_wr (x2 + 1)), p3)))) else none)
noncomputable def fB_copyFrom_66 (i0 : Int) (x1 : Int) (s : (Int × pj_W)) : Option (pj_W) := pj_Lp (fun s : (Int × pj_W) => fB_copyFrom_66b i0 x1 s.1 s.2) s
noncomputable def fB_copyFrom (i0 : Int) (x1 : Int) (w : pj_W) : Option (pj_W) :=
  if 0 ≤ x1 then ((some (pj_set (pj_set (pj_set w 19 i0 2 (w 19 x1 2)) 19 i0 3 ((pj_set w 19 i0 2 (w 19 x1 2)) 19 x1 3)) 19 i0 4 ((pj_set (pj_set w 19 i0 2 (w 19 x1 2)) 19 i0 3 ((pj_set w 19 i0 2 (w 19 x1 2)) 19 x1 3)) 19 x1 4))).bind fun w2 => ((some (pj_set (pj_set w2 19 i0 5 (w2 19 x1 5)) 19 i0 6 ((pj_set w2 19 i0 5 (w2 19 x1 5)) 19 x1 6))).bind fun w3 => ((some (pj_set (pj_set w3 19 i0 7 (w3 19 x1 7)) 19 i0 8 ((pj_set w3 19 i0 7 (w3 19 x1 7)) 19 x1 8))).bind fun w4 => (fB_copyFrom_66 i0 x1 (0, (pj_set w4 19 i0 9 (w4 19 x1 9))))))) else none
theorem tB_copyFrom_97b {Go : pj_C → Prop} (hM : pj_M l yX0_copyFrom cX0_copyFrom 3 none 2 47 true g n0 o Go) (i0 : Int) (x1 : Int) (x2 : Int) (w : pj_W) (hn0 : 0 ≤ i0) (hn1 : 0 ≤ x1) (R : (Int × pj_W) ⊕ (pj_W) → Prop) (h0 : ∀ r, R (Sum.inr (r)) → ((none : Option pj_V), r) = o) (hk97 : ∀ s, R (Sum.inl s) → Go (97, [(19, i0), (19, x1), (0, s.1)], [], s.2)) : pj_TG R (fB_copyFrom_97b i0 x1 x2 w) (Go (97, [(19, i0), (19, x1), (0, x2)], [], w)) := by
  unfold fB_copyFrom_97b
  refine pj_map (fun k => pj_iload_n hM (pc := 97) dX0_copyFrom_97 rfl (pj_aload_n hM (pc := 98) dX0_copyFrom_98 rfl rfl (pj_gf hM (pc := 99) (t := 0) dX0_copyFrom_99 fl_X0_47 hn0 rfl 8 rfl k))) ?_
  refine pj_tif (fun h1 => ?_) (fun h1 => ?_)
  · exact pj_tret (fun hr => pj_ic_ge_t hM (pc := 102) dX0_copyFrom_102 rfl h1 (pj_ret hM (pc := 126) dX0_copyFrom_126 rfl (h0 (w) hr) rfl))
  refine pj_tgd (fun h2 => ?_)
  refine pj_tbind (fun p3 h4 => ?_)
  exact pj_tret (fun hr => pj_ic_ge_f hM (pc := 102) 126 dX0_copyFrom_102 rfl h1 (pj_aload_n hM (pc := 105) dX0_copyFrom_105 rfl rfl (pj_getF hM (pc := 106) (t := 21) dX0_copyFrom_106 fl_X0_19 hn0 rfl rfl (pj_iload_n hM (pc := 109) dX0_copyFrom_109 rfl (pj_aald hM (pc := 110) (fun s : Int => 8 * i0 + s) dX0_copyFrom_110 (by decide) rfl (fun _ => rfl) ⟨_, rfl⟩ (by decide) hn0 h2 (fun _ => rfl) (by show (0 : Int) ≤ (8 * i0 + x2); omega) (pj_aload_n hM (pc := 111) dX0_copyFrom_111 rfl rfl (pj_getF hM (pc := 112) (t := 21) dX0_copyFrom_112 fl_X0_19 hn1 rfl rfl (pj_iload_n hM (pc := 115) dX0_copyFrom_115 rfl (pj_aald hM (pc := 116) (fun s : Int => 8 * x1 + s) dX0_copyFrom_116 (by decide) rfl (fun _ => rfl) ⟨_, rfl⟩ (by decide) hn1 h2 (fun _ => rfl) (by show (0 : Int) ≤ (8 * x1 + x2); omega) (pj_cVv hM (pc := 117) (cN_becomeLike (8 * i0 + x2) (8 * x1 + x2) (by show (0 : Int) ≤ (8 * i0 + x2); omega) w p3 h4) dX0_copyFrom_117 mf_X4_becomeLike mv_X4_becomeLike ml_X0_57 kc_23 rfl rfl (by show (0 : Int) ≤ (8 * i0 + x2); omega) rfl rfl (pj_iinc hM (pc := 120) dX0_copyFrom_120 rfl (by decide) (lls' := [(19, i0), (19, x1), (0, (pj_wr (x2 + 1)))]) rfl (pj_goto hM (pc := 123) dX0_copyFrom_123 rfl (pj_kill hM [true, true, true] (lls' := [(19, i0), (19, x1), (0, (pj_wr (x2 + 1)))]) rfl ((hk97 _ hr)))))))))))))))
theorem tB_copyFrom_97 {Go : pj_C → Prop} (hM : pj_M l yX0_copyFrom cX0_copyFrom 3 none 2 47 true g n0 o Go) (i0 : Int) (x1 : Int) (hn0 : 0 ≤ i0) (hn1 : 0 ≤ x1) (R : pj_W → Prop) (h0 : ∀ r, R (r) → ((none : Option pj_V), r) = o) (s : (Int × pj_W)) : pj_TG R (fB_copyFrom_97 i0 x1 s) (Go (97, [(19, i0), (19, x1), (0, s.1)], [], s.2)) := by
  unfold fB_copyFrom_97
  exact pj_tLp (G := fun s : (Int × pj_W) => Go (97, [(19, i0), (19, x1), (0, s.1)], [], s.2)) (fun s => tB_copyFrom_97b hM i0 x1 s.1 s.2 hn0 hn1 _ (fun r h => h0 r h)  (fun s h => h)) s
theorem tB_copyFrom_66b {Go : pj_C → Prop} (hM : pj_M l yX0_copyFrom cX0_copyFrom 3 none 2 47 true g n0 o Go) (i0 : Int) (x1 : Int) (x2 : Int) (w : pj_W) (hn0 : 0 ≤ i0) (hn1 : 0 ≤ x1) (R : (Int × pj_W) ⊕ (pj_W) → Prop) (h0 : ∀ r, R (Sum.inr (r)) → ((none : Option pj_V), r) = o) (hk66 : ∀ s, R (Sum.inl s) → Go (66, [(19, i0), (19, x1), (0, s.1)], [], s.2)) : pj_TG R (fB_copyFrom_66b i0 x1 x2 w) (Go (66, [(19, i0), (19, x1), (0, x2)], [], w)) := by
  unfold fB_copyFrom_66b
  refine pj_map (fun k => pj_iload_n hM (pc := 66) dX0_copyFrom_66 rfl (pj_aload_n hM (pc := 67) dX0_copyFrom_67 rfl rfl (pj_gf hM (pc := 68) (t := 0) dX0_copyFrom_68 fl_X0_44 hn0 rfl 7 rfl k))) ?_
  refine pj_tif (fun h1 => ?_) (fun h1 => ?_)
  · refine pj_tmap ?_
    refine pj_map (fun k => pj_ic_ge_t hM (pc := 71) dX0_copyFrom_71 rfl h1 (pj_iconst hM (pc := 95) dX0_copyFrom_95 (by decide) (pj_istore_n hM (pc := 96) dX0_copyFrom_96 (by decide) (lls' := [(19, i0), (19, x1), (0, 0)]) rfl (pj_kill hM [true, true, true] (lls' := [(19, i0), (19, x1), (0, 0)]) rfl k)))) ?_
    exact tB_copyFrom_97 hM i0 x1 hn0 hn1 _ h0 _
  refine pj_tgd (fun h2 => ?_)
  refine pj_tbind (fun p3 h4 => ?_)
  exact pj_tret (fun hr => pj_ic_ge_f hM (pc := 71) 95 dX0_copyFrom_71 rfl h1 (pj_aload_n hM (pc := 74) dX0_copyFrom_74 rfl rfl (pj_getF hM (pc := 75) (t := 20) dX0_copyFrom_75 fl_X0_13 hn0 rfl rfl (pj_iload_n hM (pc := 78) dX0_copyFrom_78 rfl (pj_aald hM (pc := 79) (fun s : Int => 6 * i0 + s) dX0_copyFrom_79 (by decide) rfl (fun _ => rfl) ⟨_, rfl⟩ (by decide) hn0 h2 (fun _ => rfl) (by show (0 : Int) ≤ (6 * i0 + x2); omega) (pj_aload_n hM (pc := 80) dX0_copyFrom_80 rfl rfl (pj_getF hM (pc := 81) (t := 20) dX0_copyFrom_81 fl_X0_13 hn1 rfl rfl (pj_iload_n hM (pc := 84) dX0_copyFrom_84 rfl (pj_aald hM (pc := 85) (fun s : Int => 6 * x1 + s) dX0_copyFrom_85 (by decide) rfl (fun _ => rfl) ⟨_, rfl⟩ (by decide) hn1 h2 (fun _ => rfl) (by show (0 : Int) ≤ (6 * x1 + x2); omega) (pj_cVv hM (pc := 86) (cF_becomeLike (6 * i0 + x2) (6 * x1 + x2) (by show (0 : Int) ≤ (6 * i0 + x2); omega) w p3 h4) dX0_copyFrom_86 mf_X5_becomeLike mv_X5_becomeLike ml_X0_53 kc_22 rfl rfl (by show (0 : Int) ≤ (6 * i0 + x2); omega) rfl rfl (pj_iinc hM (pc := 89) dX0_copyFrom_89 rfl (by decide) (lls' := [(19, i0), (19, x1), (0, (pj_wr (x2 + 1)))]) rfl (pj_goto hM (pc := 92) dX0_copyFrom_92 rfl (pj_kill hM [true, true, true] (lls' := [(19, i0), (19, x1), (0, (pj_wr (x2 + 1)))]) rfl ((hk66 _ hr)))))))))))))))
theorem tB_copyFrom_66 {Go : pj_C → Prop} (hM : pj_M l yX0_copyFrom cX0_copyFrom 3 none 2 47 true g n0 o Go) (i0 : Int) (x1 : Int) (hn0 : 0 ≤ i0) (hn1 : 0 ≤ x1) (R : pj_W → Prop) (h0 : ∀ r, R (r) → ((none : Option pj_V), r) = o) (s : (Int × pj_W)) : pj_TG R (fB_copyFrom_66 i0 x1 s) (Go (66, [(19, i0), (19, x1), (0, s.1)], [], s.2)) := by
  unfold fB_copyFrom_66
  exact pj_tLp (G := fun s : (Int × pj_W) => Go (66, [(19, i0), (19, x1), (0, s.1)], [], s.2)) (fun s => tB_copyFrom_66b hM i0 x1 s.1 s.2 hn0 hn1 _ (fun r h => h0 r h)  (fun s h => h)) s
theorem tB_copyFrom {Go : pj_C → Prop} (hM : pj_M l yX0_copyFrom cX0_copyFrom 3 none 2 47 true g n0 o Go) (i0 : Int) (x1 : Int) (w : pj_W) (hn0 : 0 ≤ i0) (R : pj_W → Prop) (h0 : ∀ r, R (r) → ((none : Option pj_V), r) = o) : pj_TG R (fB_copyFrom i0 x1 w) (Go (0, [(19, i0), (19, x1), (9, 0)], [], w)) := by
  unfold fB_copyFrom
  refine pj_tgd (fun h1 => ?_)
  refine pj_map (fun k => pj_aload_n hM (pc := 0) dX0_copyFrom_0 rfl rfl (pj_aload_n hM (pc := 1) dX0_copyFrom_1 rfl rfl (pj_gf hM (pc := 2) (t := 0) dX0_copyFrom_2 fl_X0_28 h1 rfl 2 rfl (pj_pf hM (pc := 5) dX0_copyFrom_5 fl_X0_28 hn0 rfl (fun h => absurd h (by decide)) (by decide) (fun _ => rfl) 2 rfl (pj_aload_n hM (pc := 8) dX0_copyFrom_8 rfl rfl (pj_aload_n hM (pc := 9) dX0_copyFrom_9 rfl rfl (pj_gf hM (pc := 10) (t := 0) dX0_copyFrom_10 fl_X0_32 h1 rfl 3 rfl (pj_pf hM (pc := 13) dX0_copyFrom_13 fl_X0_32 hn0 rfl (fun h => absurd h (by decide)) (by decide) (fun _ => rfl) 3 rfl (pj_aload_n hM (pc := 16) dX0_copyFrom_16 rfl rfl (pj_aload_n hM (pc := 17) dX0_copyFrom_17 rfl rfl (pj_gf hM (pc := 18) (t := 0) dX0_copyFrom_18 fl_X0_35 h1 rfl 4 rfl (pj_pf hM (pc := 21) dX0_copyFrom_21 fl_X0_35 hn0 rfl (fun h => absurd h (by decide)) (by decide) (fun _ => rfl) 4 rfl k)))))))))))) ?_
  refine pj_tlet (fun w2 => Go (24, [(19, i0), (19, x1), (9, 0)], [], w2)) (fun w2 => ?_)
  refine pj_map (fun k => pj_aload_n hM (pc := 24) dX0_copyFrom_24 rfl rfl (pj_aload_n hM (pc := 25) dX0_copyFrom_25 rfl rfl (pj_gf hM (pc := 26) (t := 0) dX0_copyFrom_26 fl_X0_38 h1 rfl 5 rfl (pj_pf hM (pc := 29) dX0_copyFrom_29 fl_X0_38 hn0 rfl (fun h => absurd h (by decide)) (by decide) (fun _ => rfl) 5 rfl (pj_aload_n hM (pc := 32) dX0_copyFrom_32 rfl rfl (pj_aload_n hM (pc := 33) dX0_copyFrom_33 rfl rfl (pj_gf hM (pc := 34) (t := 0) dX0_copyFrom_34 fl_X0_41 h1 rfl 6 rfl (pj_pf hM (pc := 37) dX0_copyFrom_37 fl_X0_41 hn0 rfl (fun h => absurd h (by decide)) (by decide) (fun _ => rfl) 6 rfl k)))))))) ?_
  refine pj_tlet (fun w3 => Go (40, [(19, i0), (19, x1), (9, 0)], [], w3)) (fun w3 => ?_)
  refine pj_map (fun k => pj_aload_n hM (pc := 40) dX0_copyFrom_40 rfl rfl (pj_aload_n hM (pc := 41) dX0_copyFrom_41 rfl rfl (pj_gf hM (pc := 42) (t := 0) dX0_copyFrom_42 fl_X0_44 h1 rfl 7 rfl (pj_pf hM (pc := 45) dX0_copyFrom_45 fl_X0_44 hn0 rfl (fun h => absurd h (by decide)) (by decide) (fun _ => rfl) 7 rfl (pj_aload_n hM (pc := 48) dX0_copyFrom_48 rfl rfl (pj_aload_n hM (pc := 49) dX0_copyFrom_49 rfl rfl (pj_gf hM (pc := 50) (t := 0) dX0_copyFrom_50 fl_X0_47 h1 rfl 8 rfl (pj_pf hM (pc := 53) dX0_copyFrom_53 fl_X0_47 hn0 rfl (fun h => absurd h (by decide)) (by decide) (fun _ => rfl) 8 rfl k)))))))) ?_
  refine pj_tlet (fun w4 => Go (56, [(19, i0), (19, x1), (9, 0)], [], w4)) (fun w4 => ?_)
  refine pj_map (fun k => pj_aload_n hM (pc := 56) dX0_copyFrom_56 rfl rfl (pj_aload_n hM (pc := 57) dX0_copyFrom_57 rfl rfl (pj_gf hM (pc := 58) (t := 0) dX0_copyFrom_58 fl_X0_50 h1 rfl 9 rfl (pj_pf hM (pc := 61) dX0_copyFrom_61 fl_X0_50 hn0 rfl (fun h => absurd h (by decide)) (by decide) (fun _ => rfl) 9 rfl (pj_iconst hM (pc := 64) dX0_copyFrom_64 (by decide) (pj_istore_n hM (pc := 65) dX0_copyFrom_65 (by decide) (lls' := [(19, i0), (19, x1), (0, 0)]) rfl (pj_kill hM [true, true, true] (lls' := [(19, i0), (19, x1), (0, 0)]) rfl k))))))) ?_
  exact tB_copyFrom_66 hM i0 x1 hn0 h1 _ h0 _
theorem cB_copyFrom (i0 : Int) (x1 : Int) (hn0 : 0 ≤ i0) (w : pj_W) (r : pj_W) (h : fB_copyFrom i0 x1 w = some r) : pj_Cn l yX0_copyFrom cX0_copyFrom 3 none 2 47 true g [(19, i0), (19, x1)] w ((none : Option pj_V), r) :=
  pj_Cn_of rfl (Nat.le_of_ble_eq_true rfl) (lls := [(19, i0), (19, x1), (9, 0)]) rfl (fun Go hM => tB_copyFrom hM i0 x1 w hn0 (fun x => ((none : Option pj_V), x) = ((none : Option pj_V), r)) (fun r h => h) r h rfl)
noncomputable def fX_refuse (x1 : Int) (w : pj_W) : Option (Int × pj_W) :=
  some (((-1), (pj_set w 10 0 15 x1)))
theorem tX_refuse {Go : pj_C → Prop} (hM : pj_M l yX11_refuse cX11_refuse 2 (some .int) 0 0 ph g n0 o Go) (x1 : Int) (w : pj_W)  (R : Int × pj_W → Prop) (h0 : ∀ r, R (r) → ((some (0, r.1) : Option pj_V), r.2) = o) : pj_TG R (fX_refuse x1 w) (Go (0, [(10, 0), (0, x1)], [], w)) := by
  unfold fX_refuse
  exact pj_tret (fun hr => pj_aload_n hM (pc := 0) dX11_refuse_0 rfl rfl (pj_iload_n hM (pc := 1) dX11_refuse_1 rfl (pj_pf hM (pc := 2) dX11_refuse_2 fl_X11_89 (by decide) rfl (fun h => absurd h (by decide)) (by decide) (fun _ => rfl) 15 rfl (pj_iconst hM (pc := 5) dX11_refuse_5 (by decide) (pj_ret hM (pc := 6) dX11_refuse_6 ⟨_, rfl⟩ (h0 (((-1), (pj_set w 10 0 15 x1))) hr) rfl)))))
theorem cX_refuse (x1 : Int)  (w : pj_W) (r : Int × pj_W) (h : fX_refuse x1 w = some r) : pj_Cn l yX11_refuse cX11_refuse 2 (some .int) 0 0 ph g [(10, 0), (0, x1)] w ((some (0, r.1) : Option pj_V), r.2) :=
  pj_Cn_of rfl (Nat.le_of_ble_eq_true rfl) (lls := [(10, 0), (0, x1)]) rfl (fun Go hM => tX_refuse hM x1 w (fun x => ((some (0, x.1) : Option pj_V), x.2) = ((some (0, r.1) : Option pj_V), r.2)) (fun r h => h) r h rfl)
noncomputable def fD_copyFrom (i0 : Int) (x1 : Int) (w : pj_W) : Option (pj_W) :=
  if 0 ≤ x1 then (if (w 24 x1 5) = 0 ∨ (w 24 x1 5) = 1 then ((some (pj_set (pj_set (pj_set w 24 i0 5 (w 24 x1 5)) 24 i0 6 ((pj_set w 24 i0 5 (w 24 x1 5)) 24 x1 6)) 24 i0 7 ((pj_set (pj_set w 24 i0 5 (w 24 x1 5)) 24 i0 6 ((pj_set w 24 i0 5 (w 24 x1 5)) 24 x1 6)) 24 x1 7))).bind fun w3 => (if ((0 : Int) ≤ 0 ∧ (0 : Int) ≤ 0 ∧ (0 : Int) ≤ (w3 24 i0 7)) ∧ (0 : Int) + (w3 24 i0 7) ≤ 60 ∧ (0 : Int) + (w3 24 i0 7) ≤ 60 then (if ((0 : Int) ≤ 0 ∧ (0 : Int) ≤ 0 ∧ (0 : Int) ≤ ((pj_cpy w3 47 x1 0 47 i0 0 (w3 24 i0 7)) 24 i0 7)) ∧ (0 : Int) + ((pj_cpy w3 47 x1 0 47 i0 0 (w3 24 i0 7)) 24 i0 7) ≤ 60 ∧ (0 : Int) + ((pj_cpy w3 47 x1 0 47 i0 0 (w3 24 i0 7)) 24 i0 7) ≤ 60 then ((some (pj_cpy (pj_cpy w3 47 x1 0 47 i0 0 (w3 24 i0 7)) 48 x1 0 48 i0 0 ((pj_cpy w3 47 x1 0 47 i0 0 (w3 24 i0 7)) 24 i0 7))).bind fun w6 => (if ((0 : Int) ≤ 0 ∧ (0 : Int) ≤ 0 ∧ (0 : Int) ≤ (w6 24 i0 7)) ∧ (0 : Int) + (w6 24 i0 7) ≤ 60 ∧ (0 : Int) + (w6 24 i0 7) ≤ 60 then (if ((0 : Int) ≤ 0 ∧ (0 : Int) ≤ 0 ∧ (0 : Int) ≤ ((pj_cpy w6 49 x1 0 49 i0 0 (w6 24 i0 7)) 24 i0 7)) ∧ (0 : Int) + ((pj_cpy w6 49 x1 0 49 i0 0 (w6 24 i0 7)) 24 i0 7) ≤ 60 ∧ (0 : Int) + ((pj_cpy w6 49 x1 0 49 i0 0 (w6 24 i0 7)) 24 i0 7) ≤ 60 then ((some (pj_cpy (pj_cpy w6 49 x1 0 49 i0 0 (w6 24 i0 7)) 50 x1 0 50 i0 0 ((pj_cpy w6 49 x1 0 49 i0 0 (w6 24 i0 7)) 24 i0 7))).bind fun w9 => (if ((0 : Int) ≤ 0 ∧ (0 : Int) ≤ 0 ∧ (0 : Int) ≤ (w9 24 i0 7)) ∧ (0 : Int) + (w9 24 i0 7) ≤ 60 ∧ (0 : Int) + (w9 24 i0 7) ≤ 60 then (some ((pj_cpy w9 51 x1 0 51 i0 0 (w9 24 i0 7)))) else none)) else none) else none)) else none) else none)) else none) else none
theorem tD_copyFrom {Go : pj_C → Prop} (hM : pj_M l yX2_copyFrom cX2_copyFrom 2 none 1 26 true g n0 o Go) (i0 : Int) (x1 : Int) (w : pj_W) (hn0 : 0 ≤ i0) (R : pj_W → Prop) (h0 : ∀ r, R (r) → ((none : Option pj_V), r) = o) : pj_TG R (fD_copyFrom i0 x1 w) (Go (0, [(24, i0), (24, x1)], [], w)) := by
  unfold fD_copyFrom
  refine pj_tgd (fun h1 => ?_)
  refine pj_tgd (fun h2 => ?_)
  refine pj_map (fun k => pj_aload_n hM (pc := 0) dX2_copyFrom_0 rfl rfl (pj_aload_n hM (pc := 1) dX2_copyFrom_1 rfl rfl (pj_gf hM (pc := 2) (t := 0) dX2_copyFrom_2 fl_X2_27 h1 rfl 5 rfl (pj_pf hM (pc := 5) dX2_copyFrom_5 fl_X2_27 hn0 rfl (fun _ => h2) (by decide) (fun _ => rfl) 5 rfl (pj_aload_n hM (pc := 8) dX2_copyFrom_8 rfl rfl (pj_aload_n hM (pc := 9) dX2_copyFrom_9 rfl rfl (pj_gf hM (pc := 10) (t := 0) dX2_copyFrom_10 fl_X2_31 h1 rfl 6 rfl (pj_pf hM (pc := 13) dX2_copyFrom_13 fl_X2_31 hn0 rfl (fun h => absurd h (by decide)) (by decide) (fun _ => rfl) 6 rfl (pj_aload_n hM (pc := 16) dX2_copyFrom_16 rfl rfl (pj_aload_n hM (pc := 17) dX2_copyFrom_17 rfl rfl (pj_gf hM (pc := 18) (t := 0) dX2_copyFrom_18 fl_X2_35 h1 rfl 7 rfl (pj_pf hM (pc := 21) dX2_copyFrom_21 fl_X2_35 hn0 rfl (fun h => absurd h (by decide)) (by decide) (fun _ => rfl) 7 rfl k)))))))))))) ?_
  refine pj_tlet (fun w3 => Go (24, [(24, i0), (24, x1)], [], w3)) (fun w3 => ?_)
  refine pj_tgd (fun h4 => ?_)
  refine pj_tgd (fun h5 => ?_)
  refine pj_map (fun k => pj_aload_n hM (pc := 24) dX2_copyFrom_24 rfl rfl (pj_getF hM (pc := 25) (t := 47) dX2_copyFrom_25 fl_X2_11 h1 rfl rfl (pj_iconst hM (pc := 28) dX2_copyFrom_28 (by decide) (pj_aload_n hM (pc := 29) dX2_copyFrom_29 rfl rfl (pj_getF hM (pc := 30) (t := 47) dX2_copyFrom_30 fl_X2_11 hn0 rfl rfl (pj_iconst hM (pc := 33) dX2_copyFrom_33 (by decide) (pj_aload_n hM (pc := 34) dX2_copyFrom_34 rfl rfl (pj_gf hM (pc := 35) (t := 0) dX2_copyFrom_35 fl_X2_35 hn0 rfl 7 rfl (pj_cpi hM (pc := 38) dX2_copyFrom_38 ml_X2_38 mo_A ki_47 ki_47 h1 hn0 h4 rfl (pj_aload_n hM (pc := 41) dX2_copyFrom_41 rfl rfl (pj_getF hM (pc := 42) (t := 48) dX2_copyFrom_42 fl_X2_15 h1 rfl rfl (pj_iconst hM (pc := 45) dX2_copyFrom_45 (by decide) (pj_aload_n hM (pc := 46) dX2_copyFrom_46 rfl rfl (pj_getF hM (pc := 47) (t := 48) dX2_copyFrom_47 fl_X2_15 hn0 rfl rfl (pj_iconst hM (pc := 50) dX2_copyFrom_50 (by decide) (pj_aload_n hM (pc := 51) dX2_copyFrom_51 rfl rfl (pj_gf hM (pc := 52) (t := 0) dX2_copyFrom_52 fl_X2_35 hn0 rfl 7 rfl (pj_cpi hM (pc := 55) dX2_copyFrom_55 ml_X2_38 mo_A ki_48 ki_48 h1 hn0 h5 rfl k)))))))))))))))))) ?_
  refine pj_tlet (fun w6 => Go (58, [(24, i0), (24, x1)], [], w6)) (fun w6 => ?_)
  refine pj_tgd (fun h7 => ?_)
  refine pj_tgd (fun h8 => ?_)
  refine pj_map (fun k => pj_aload_n hM (pc := 58) dX2_copyFrom_58 rfl rfl (pj_getF hM (pc := 59) (t := 49) dX2_copyFrom_59 fl_X2_18 h1 rfl rfl (pj_iconst hM (pc := 62) dX2_copyFrom_62 (by decide) (pj_aload_n hM (pc := 63) dX2_copyFrom_63 rfl rfl (pj_getF hM (pc := 64) (t := 49) dX2_copyFrom_64 fl_X2_18 hn0 rfl rfl (pj_iconst hM (pc := 67) dX2_copyFrom_67 (by decide) (pj_aload_n hM (pc := 68) dX2_copyFrom_68 rfl rfl (pj_gf hM (pc := 69) (t := 0) dX2_copyFrom_69 fl_X2_35 hn0 rfl 7 rfl (pj_cpi hM (pc := 72) dX2_copyFrom_72 ml_X2_38 mo_A ki_49 ki_49 h1 hn0 h7 rfl (pj_aload_n hM (pc := 75) dX2_copyFrom_75 rfl rfl (pj_getF hM (pc := 76) (t := 50) dX2_copyFrom_76 fl_X2_21 h1 rfl rfl (pj_iconst hM (pc := 79) dX2_copyFrom_79 (by decide) (pj_aload_n hM (pc := 80) dX2_copyFrom_80 rfl rfl (pj_getF hM (pc := 81) (t := 50) dX2_copyFrom_81 fl_X2_21 hn0 rfl rfl (pj_iconst hM (pc := 84) dX2_copyFrom_84 (by decide) (pj_aload_n hM (pc := 85) dX2_copyFrom_85 rfl rfl (pj_gf hM (pc := 86) (t := 0) dX2_copyFrom_86 fl_X2_35 hn0 rfl 7 rfl (pj_cpi hM (pc := 89) dX2_copyFrom_89 ml_X2_38 mo_A ki_50 ki_50 h1 hn0 h8 rfl k)))))))))))))))))) ?_
  refine pj_tlet (fun w9 => Go (92, [(24, i0), (24, x1)], [], w9)) (fun w9 => ?_)
  refine pj_tgd (fun h10 => ?_)
  exact pj_tret (fun hr => pj_aload_n hM (pc := 92) dX2_copyFrom_92 rfl rfl (pj_getF hM (pc := 93) (t := 51) dX2_copyFrom_93 fl_X2_24 h1 rfl rfl (pj_iconst hM (pc := 96) dX2_copyFrom_96 (by decide) (pj_aload_n hM (pc := 97) dX2_copyFrom_97 rfl rfl (pj_getF hM (pc := 98) (t := 51) dX2_copyFrom_98 fl_X2_24 hn0 rfl rfl (pj_iconst hM (pc := 101) dX2_copyFrom_101 (by decide) (pj_aload_n hM (pc := 102) dX2_copyFrom_102 rfl rfl (pj_gf hM (pc := 103) (t := 0) dX2_copyFrom_103 fl_X2_35 hn0 rfl 7 rfl (pj_cpi hM (pc := 106) dX2_copyFrom_106 ml_X2_38 mo_A ki_51 ki_51 h1 hn0 h10 rfl (pj_ret hM (pc := 109) dX2_copyFrom_109 rfl (h0 ((pj_cpy w9 51 x1 0 51 i0 0 (w9 24 i0 7))) hr) rfl))))))))))
theorem cD_copyFrom (i0 : Int) (x1 : Int) (hn0 : 0 ≤ i0) (w : pj_W) (r : pj_W) (h : fD_copyFrom i0 x1 w = some r) : pj_Cn l yX2_copyFrom cX2_copyFrom 2 none 1 26 true g [(24, i0), (24, x1)] w ((none : Option pj_V), r) :=
  pj_Cn_of rfl (Nat.le_of_ble_eq_true rfl) (lls := [(24, i0), (24, x1)]) rfl (fun Go hM => tD_copyFrom hM i0 x1 w hn0 (fun x => ((none : Option pj_V), x) = ((none : Option pj_V), r)) (fun r h => h) r h rfl)
noncomputable def fX_back  (w : pj_W) : Option (Int × pj_W) :=
  if 0 < (w 10 0 14) then (if 0 ≤ ((pj_set w 10 0 14 (pj_wr ((w 10 0 14) - 1))) 10 0 14) ∧ ((pj_set w 10 0 14 (pj_wr ((w 10 0 14) - 1))) 10 0 14) < 3 then (if 0 ≤ ((pj_set w 10 0 14 (pj_wr ((w 10 0 14) - 1))) 10 0 10) then ((fB_copyFrom ((pj_set w 10 0 14 (pj_wr ((w 10 0 14) - 1))) 10 0 10) (2 + ((pj_set w 10 0 14 (pj_wr ((w 10 0 14) - 1))) 10 0 14)) (pj_set w 10 0 14 (pj_wr ((w 10 0 14) - 1)))).bind fun p4 => (if 0 ≤ (p4 10 0 14) ∧ (p4 10 0 14) < 3 then (if 0 ≤ (p4 10 0 12) then ((fD_copyFrom (p4 10 0 12) (2 + (p4 10 0 14)) p4).bind fun p8 => ((fX_answer (p8 10 0 14) p8).bind fun p10 => (some ((p10.1, p10.2))))) else none) else none)) else none) else none) else ((fX_refuse 6 w).bind fun p12 => (some ((p12.1, p12.2))))
theorem tX_back {Go : pj_C → Prop} (hM : pj_M l yX11_back cX11_back 1 (some .int) 3 69 true g n0 o Go)  (w : pj_W)  (R : Int × pj_W → Prop) (h0 : ∀ r, R (r) → ((some (0, r.1) : Option pj_V), r.2) = o) : pj_TG R (fX_back  w) (Go (0, [(10, 0)], [], w)) := by
  unfold fX_back
  refine pj_map (fun k => pj_aload_n hM (pc := 0) dX11_back_0 rfl rfl (pj_gf hM (pc := 1) (t := 0) dX11_back_1 fl_X11_403 (by decide) rfl 14 rfl k)) ?_
  refine pj_tif (fun h1 => ?_) (fun h1 => ?_)
  · refine pj_tgd (fun h2 => ?_)
    refine pj_tgd (fun h3 => ?_)
    refine pj_tbind (fun p4 h5 => ?_)
    refine pj_tgd (fun h6 => ?_)
    refine pj_tgd (fun h7 => ?_)
    refine pj_tbind (fun p8 h9 => ?_)
    refine pj_tbind (fun p10 h11 => ?_)
    exact pj_tret (fun hr => pj_if_gt_t hM (pc := 4) dX11_back_4 rfl h1 (pj_aload_n hM (pc := 14) dX11_back_14 rfl rfl (pj_dup hM (pc := 15) dX11_back_15 (by decide) (pj_gf hM (pc := 16) (t := 0) dX11_back_16 fl_X11_403 (by decide) rfl 14 rfl (pj_iconst hM (pc := 19) dX11_back_19 (by decide) (pj_isub hM (pc := 20) dX11_back_20 (pj_pf hM (pc := 21) dX11_back_21 fl_X11_403 (by decide) rfl (fun h => absurd h (by decide)) (by decide) (fun _ => rfl) 14 rfl (pj_aload_n hM (pc := 24) dX11_back_24 rfl rfl (pj_gf hM (pc := 25) (t := 19) dX11_back_25 fl_X11_69 (by decide) rfl 10 rfl (pj_aload_n hM (pc := 28) dX11_back_28 rfl rfl (pj_getF hM (pc := 29) (t := 16) dX11_back_29 fl_X11_46 (by decide) rfl rfl (pj_aload_n hM (pc := 32) dX11_back_32 rfl rfl (pj_gf hM (pc := 33) (t := 0) dX11_back_33 fl_X11_403 (by decide) rfl 14 rfl (pj_aald hM (pc := 36) (fun s : Int => 2 + s) dX11_back_36 (by decide) rfl (fun _ => rfl) ⟨_, rfl⟩ (by decide) (by decide) h2 (fun _ => rfl) (by show (0 : Int) ≤ (2 + ((pj_set w 10 0 14 (pj_wr ((w 10 0 14) - 1))) 10 0 14)); omega) (pj_cVv hM (pc := 37) (cB_copyFrom ((pj_set w 10 0 14 (pj_wr ((w 10 0 14) - 1))) 10 0 10) (2 + ((pj_set w 10 0 14 (pj_wr ((w 10 0 14) - 1))) 10 0 14)) h3 (pj_set w 10 0 14 (pj_wr ((w 10 0 14) - 1))) p4 h5) dX11_back_37 mf_X0_copyFrom mv_X0_copyFrom ml_X11_396 kc_19 rfl rfl h3 rfl rfl (pj_aload_n hM (pc := 40) dX11_back_40 rfl rfl (pj_gf hM (pc := 41) (t := 24) dX11_back_41 fl_X11_77 (by decide) rfl 12 rfl (pj_aload_n hM (pc := 44) dX11_back_44 rfl rfl (pj_getF hM (pc := 45) (t := 15) dX11_back_45 fl_X11_40 (by decide) rfl rfl (pj_aload_n hM (pc := 48) dX11_back_48 rfl rfl (pj_gf hM (pc := 49) (t := 0) dX11_back_49 fl_X11_403 (by decide) rfl 14 rfl (pj_aald hM (pc := 52) (fun s : Int => 2 + s) dX11_back_52 (by decide) rfl (fun _ => rfl) ⟨_, rfl⟩ (by decide) (by decide) h6 (fun _ => rfl) (by show (0 : Int) ≤ (2 + (p4 10 0 14)); omega) (pj_cVv hM (pc := 53) (cD_copyFrom (p4 10 0 12) (2 + (p4 10 0 14)) h7 p4 p8 h9) dX11_back_53 mf_X2_copyFrom mv_X2_copyFrom ml_X11_406 kc_24 rfl rfl h7 rfl rfl (pj_aload_n hM (pc := 56) dX11_back_56 rfl rfl (pj_aload_n hM (pc := 57) dX11_back_57 rfl rfl (pj_gf hM (pc := 58) (t := 0) dX11_back_58 fl_X11_403 (by decide) rfl 14 rfl (pj_cV hM (pc := 61) (cX_answer (p8 10 0 14) p8 p10 h11) dX11_back_61 mf_X11_answer mv_X11_answer ml_X11_96 kc_10 rfl rfl (by decide) rfl rfl (pj_ret hM (pc := 64) dX11_back_64 ⟨_, rfl⟩ (h0 ((p10.1, p10.2)) hr) rfl))))))))))))))))))))))))))))
  refine pj_tbind (fun p12 h13 => ?_)
  exact pj_tret (fun hr => pj_if_gt_f hM (pc := 4) 14 dX11_back_4 rfl h1 (pj_aload_n hM (pc := 7) dX11_back_7 rfl rfl (pj_bipush hM (pc := 8) dX11_back_8 (by decide) (pj_cV hM (pc := 10) (cX_refuse 6 w p12 h13) dX11_back_10 mf_X11_refuse mv_X11_refuse ml_X11_100 kc_10 rfl rfl (by decide) rfl rfl (pj_ret hM (pc := 13) dX11_back_13 ⟨_, rfl⟩ (h0 ((p12.1, p12.2)) hr) rfl)))))
theorem cX_back   (w : pj_W) (r : Int × pj_W) (h : fX_back  w = some r) : pj_Cn l yX11_back cX11_back 1 (some .int) 3 69 true g [(10, 0)] w ((some (0, r.1) : Option pj_V), r.2) :=
  pj_Cn_of rfl (Nat.le_of_ble_eq_true rfl) (lls := [(10, 0)]) rfl (fun Go hM => tX_back hM w (fun x => ((some (0, x.1) : Option pj_V), x.2) = ((some (0, r.1) : Option pj_V), r.2)) (fun r h => h) r h rfl)
noncomputable def fB_clear (i0 : Int) (w : pj_W) : Option (pj_W) :=
  (some (pj_set (pj_set (pj_set (pj_set (pj_set w 19 i0 2 2) 19 i0 3 60) 19 i0 4 0) 19 i0 5 1) 19 i0 6 0)).bind fun w1 => (some ((pj_set (pj_set (pj_set w1 19 i0 7 0) 19 i0 8 0) 19 i0 9 0)))
theorem tB_clear {Go : pj_C → Prop} (hM : pj_M l yX0_clear cX0_clear 1 none 0 0 ph g n0 o Go) (i0 : Int) (w : pj_W) (hn0 : 0 ≤ i0) (R : pj_W → Prop) (h0 : ∀ r, R (r) → ((none : Option pj_V), r) = o) : pj_TG R (fB_clear i0 w) (Go (0, [(19, i0)], [], w)) := by
  unfold fB_clear
  refine pj_map (fun k => pj_aload_n hM (pc := 0) dX0_clear_0 rfl rfl (pj_iconst hM (pc := 1) dX0_clear_1 (by decide) (pj_pf hM (pc := 2) dX0_clear_2 fl_X0_28 hn0 rfl (fun h => absurd h (by decide)) (by decide) (fun _ => rfl) 2 rfl (pj_aload_n hM (pc := 5) dX0_clear_5 rfl rfl (pj_bipush hM (pc := 6) dX0_clear_6 (by decide) (pj_pf hM (pc := 8) dX0_clear_8 fl_X0_32 hn0 rfl (fun h => absurd h (by decide)) (by decide) (fun _ => rfl) 3 rfl (pj_aload_n hM (pc := 11) dX0_clear_11 rfl rfl (pj_iconst hM (pc := 12) dX0_clear_12 (by decide) (pj_pf hM (pc := 13) dX0_clear_13 fl_X0_35 hn0 rfl (fun h => absurd h (by decide)) (by decide) (fun _ => rfl) 4 rfl (pj_aload_n hM (pc := 16) dX0_clear_16 rfl rfl (pj_iconst hM (pc := 17) dX0_clear_17 (by decide) (pj_pf hM (pc := 18) dX0_clear_18 fl_X0_38 hn0 rfl (fun h => absurd h (by decide)) (by decide) (fun _ => rfl) 5 rfl (pj_aload_n hM (pc := 21) dX0_clear_21 rfl rfl (pj_iconst hM (pc := 22) dX0_clear_22 (by decide) (pj_pf hM (pc := 23) dX0_clear_23 fl_X0_41 hn0 rfl (fun h => absurd h (by decide)) (by decide) (fun _ => rfl) 6 rfl k))))))))))))))) ?_
  refine pj_tlet (fun w1 => Go (26, [(19, i0)], [], w1)) (fun w1 => ?_)
  exact pj_tret (fun hr => pj_aload_n hM (pc := 26) dX0_clear_26 rfl rfl (pj_iconst hM (pc := 27) dX0_clear_27 (by decide) (pj_pf hM (pc := 28) dX0_clear_28 fl_X0_44 hn0 rfl (fun h => absurd h (by decide)) (by decide) (fun _ => rfl) 7 rfl (pj_aload_n hM (pc := 31) dX0_clear_31 rfl rfl (pj_iconst hM (pc := 32) dX0_clear_32 (by decide) (pj_pf hM (pc := 33) dX0_clear_33 fl_X0_47 hn0 rfl (fun h => absurd h (by decide)) (by decide) (fun _ => rfl) 8 rfl (pj_aload_n hM (pc := 36) dX0_clear_36 rfl rfl (pj_iconst hM (pc := 37) dX0_clear_37 (by decide) (pj_pf hM (pc := 38) dX0_clear_38 fl_X0_50 hn0 rfl (fun h => absurd h (by decide)) (by decide) (fun _ => rfl) 9 rfl (pj_ret hM (pc := 41) dX0_clear_41 rfl (h0 ((pj_set (pj_set (pj_set w1 19 i0 7 0) 19 i0 8 0) 19 i0 9 0)) hr) rfl))))))))))
theorem cB_clear (i0 : Int) (hn0 : 0 ≤ i0) (w : pj_W) (r : pj_W) (h : fB_clear i0 w = some r) : pj_Cn l yX0_clear cX0_clear 1 none 0 0 ph g [(19, i0)] w ((none : Option pj_V), r) :=
  pj_Cn_of rfl (Nat.le_of_ble_eq_true rfl) (lls := [(19, i0)]) rfl (fun Go hM => tB_clear hM i0 w hn0 (fun x => ((none : Option pj_V), x) = ((none : Option pj_V), r)) (fun r h => h) r h rfl)
noncomputable def fR_advance  (w : pj_W) : Option (pj_W) :=
  if (pj_wr ((w 12 0 10) - 1)) ≤ (w 12 0 11) then (some (w)) else (some ((pj_set w 12 0 11 (pj_wr ((w 12 0 11) + 1)))))
theorem tR_advance {Go : pj_C → Prop} (hM : pj_M l yX7_advance cX7_advance 1 none 0 0 ph g n0 o Go)  (w : pj_W)  (R : pj_W → Prop) (h0 : ∀ r, R (r) → ((none : Option pj_V), r) = o) : pj_TG R (fR_advance  w) (Go (0, [(12, 0)], [], w)) := by
  unfold fR_advance
  refine pj_map (fun k => pj_aload_n hM (pc := 0) dX7_advance_0 rfl rfl (pj_gf hM (pc := 1) (t := 0) dX7_advance_1 fl_X7_73 (by decide) rfl 11 rfl (pj_aload_n hM (pc := 4) dX7_advance_4 rfl rfl (pj_gf hM (pc := 5) (t := 0) dX7_advance_5 fl_X7_67 (by decide) rfl 10 rfl (pj_iconst hM (pc := 8) dX7_advance_8 (by decide) (pj_isub hM (pc := 9) dX7_advance_9 k)))))) ?_
  refine pj_tif (fun h1 => ?_) (fun h1 => ?_)
  · exact pj_tret (fun hr => pj_ic_ge_t hM (pc := 10) dX7_advance_10 rfl h1 (pj_ret hM (pc := 23) dX7_advance_23 rfl (h0 (w) hr) rfl))
  exact pj_tret (fun hr => pj_ic_ge_f hM (pc := 10) 23 dX7_advance_10 rfl h1 (pj_aload_n hM (pc := 13) dX7_advance_13 rfl rfl (pj_dup hM (pc := 14) dX7_advance_14 (by decide) (pj_gf hM (pc := 15) (t := 0) dX7_advance_15 fl_X7_73 (by decide) rfl 11 rfl (pj_iconst hM (pc := 18) dX7_advance_18 (by decide) (pj_iadd hM (pc := 19) dX7_advance_19 (pj_pf hM (pc := 20) dX7_advance_20 fl_X7_73 (by decide) rfl (fun h => absurd h (by decide)) (by decide) (fun _ => rfl) 11 rfl (pj_ret hM (pc := 23) dX7_advance_23 rfl (h0 ((pj_set w 12 0 11 (pj_wr ((w 12 0 11) + 1)))) hr) rfl))))))))
theorem cR_advance   (w : pj_W) (r : pj_W) (h : fR_advance  w = some r) : pj_Cn l yX7_advance cX7_advance 1 none 0 0 ph g [(12, 0)] w ((none : Option pj_V), r) :=
  pj_Cn_of rfl (Nat.le_of_ble_eq_true rfl) (lls := [(12, 0)]) rfl (fun Go hM => tR_advance hM w (fun x => ((none : Option pj_V), x) = ((none : Option pj_V), r)) (fun r h => h) r h rfl)
noncomputable def fR_fail_26 (s1 : Int) (w : pj_W) : Option (Int × pj_W) :=
  if 0 ≤ ((pj_set w 12 0 6 s1) 12 0 11) ∧ ((pj_set w 12 0 6 s1) 12 0 11) < 901 then ((some (pj_set (pj_set w 12 0 6 s1) 12 0 7 ((pj_set w 12 0 6 s1) 32 0 ((pj_set w 12 0 6 s1) 12 0 11)))).bind fun w2 => (some ((0, w2)))) else none
noncomputable def fR_fail (x1 : Int) (w : pj_W) : Option (Int × pj_W) :=
  if (w 12 0 6) = 0 then (if 0 ≤ (w 12 0 11) ∧ (w 12 0 11) < 901 then (fR_fail_26 (if (w 31 0 (w 12 0 11)) = 1 then 1 else x1) w) else none) else (some ((0, w)))
theorem tR_fail_26 {Go : pj_C → Prop} (hM : pj_M l yX7_fail cX7_fail 2 (some .boolean) 0 0 true g n0 o Go) (s1 : Int) (w : pj_W)  (R : Int × pj_W → Prop) (h0 : ∀ r, R (r) → ((some (0, r.1) : Option pj_V), r.2) = o) : pj_TG R (fR_fail_26 s1 w) (Go (26, [(12, 0), (9, 0)], [(0, s1), (12, 0)], w)) := by
  unfold fR_fail_26
  refine pj_tgd (fun h1 => ?_)
  refine pj_map (fun k => pj_pf hM (pc := 26) dX7_fail_26 fl_X7_31 (by decide) rfl (fun h => absurd h (by decide)) (by decide) (fun _ => rfl) 6 rfl (pj_aload_n hM (pc := 29) dX7_fail_29 rfl rfl (pj_aload_n hM (pc := 30) dX7_fail_30 rfl rfl (pj_getF hM (pc := 31) (t := 32) dX7_fail_31 fl_X7_19 (by decide) rfl rfl (pj_aload_n hM (pc := 34) dX7_fail_34 rfl rfl (pj_gf hM (pc := 35) (t := 0) dX7_fail_35 fl_X7_73 (by decide) rfl 11 rfl (pj_ial hM (pc := 38) dX7_fail_38 ki_32 (by decide) h1 (pj_pf hM (pc := 39) dX7_fail_39 fl_X7_35 (by decide) rfl (fun h => absurd h (by decide)) (by decide) (fun _ => rfl) 7 rfl k)))))))) ?_
  refine pj_tlet (fun w2 => Go (42, [(12, 0), (9, 0)], [], w2)) (fun w2 => ?_)
  exact pj_tret (fun hr => pj_iconst hM (pc := 42) dX7_fail_42 (by decide) (pj_ret hM (pc := 43) dX7_fail_43 ⟨_, rfl, Or.inl rfl⟩ (h0 ((0, w2)) hr) rfl))
theorem tR_fail {Go : pj_C → Prop} (hM : pj_M l yX7_fail cX7_fail 2 (some .boolean) 0 0 true g n0 o Go) (x1 : Int) (w : pj_W)  (R : Int × pj_W → Prop) (h0 : ∀ r, R (r) → ((some (0, r.1) : Option pj_V), r.2) = o) : pj_TG R (fR_fail x1 w) (Go (0, [(12, 0), (0, x1)], [], w)) := by
  unfold fR_fail
  refine pj_map (fun k => pj_aload_n hM (pc := 0) dX7_fail_0 rfl rfl (pj_gf hM (pc := 1) (t := 0) dX7_fail_1 fl_X7_31 (by decide) rfl 6 rfl k)) ?_
  refine pj_tif (fun h1 => ?_) (fun h1 => ?_)
  · refine pj_tgd (fun h2 => ?_)
    refine pj_map (fun k => pj_if_ne_f hM (pc := 4) 42 dX7_fail_4 rfl (fun q => q h1) (pj_aload_n hM (pc := 7) dX7_fail_7 rfl rfl (pj_aload_n hM (pc := 8) dX7_fail_8 rfl rfl (pj_getF hM (pc := 9) (t := 31) dX7_fail_9 fl_X7_15 (by decide) rfl rfl (pj_aload_n hM (pc := 12) dX7_fail_12 rfl rfl (pj_gf hM (pc := 13) (t := 0) dX7_fail_13 fl_X7_73 (by decide) rfl 11 rfl (pj_ial hM (pc := 16) dX7_fail_16 ki_31 (by decide) h2 (pj_iconst hM (pc := 17) dX7_fail_17 (by decide) k)))))))) ?_
    refine pj_tJ (fun v : Int => fR_fail_26 v w) (fun h3 => ?_) (fun h3 => ?_)
    · refine pj_map (fun k => pj_ic_ne_f hM (pc := 18) 25 dX7_fail_18 rfl (fun q => q h3) (pj_iconst hM (pc := 21) dX7_fail_21 (by decide) (pj_goto hM (pc := 22) dX7_fail_22 rfl (pj_kill hM [true, false] (lls' := [(12, 0), (9, 0)]) rfl k)))) ?_
      exact tR_fail_26 hM 1 w _ h0
    refine pj_map (fun k => pj_ic_ne_t hM (pc := 18) dX7_fail_18 rfl h3 (pj_iload_n hM (pc := 25) dX7_fail_25 rfl (pj_kill hM [true, false] (lls' := [(12, 0), (9, 0)]) rfl k))) ?_
    exact tR_fail_26 hM x1 w _ h0
  exact pj_tret (fun hr => pj_if_ne_t hM (pc := 4) dX7_fail_4 rfl h1 (pj_iconst hM (pc := 42) dX7_fail_42 (by decide) (pj_ret hM (pc := 43) dX7_fail_43 ⟨_, rfl, Or.inl rfl⟩ (h0 ((0, w)) hr) rfl)))
theorem cR_fail (x1 : Int)  (w : pj_W) (r : Int × pj_W) (h : fR_fail x1 w = some r) : pj_Cn l yX7_fail cX7_fail 2 (some .boolean) 0 0 true g [(12, 0), (0, x1)] w ((some (0, r.1) : Option pj_V), r.2) :=
  pj_Cn_of rfl (Nat.le_of_ble_eq_true rfl) (lls := [(12, 0), (0, x1)]) rfl (fun Go hM => tR_fail hM x1 w (fun x => ((some (0, x.1) : Option pj_V), x.2) = ((some (0, r.1) : Option pj_V), r.2)) (fun r h => h) r h rfl)
noncomputable def fR_takeNumber_42  (w : pj_W) : Option (Int × pj_W) :=
  (fR_fail 4 w).bind fun p1 => (some (((-1), p1.2)))
noncomputable def fR_takeNumber (x1 : Int) (x2 : Int) (w : pj_W) : Option (Int × pj_W) :=
  if 0 ≤ (w 12 0 11) ∧ (w 12 0 11) < 901 then (if (w 31 0 (w 12 0 11)) = 3 then (if (pj_wr (w 33 0 (w 12 0 11))) < x1 then (fR_takeNumber_42 w) else (if (pj_wr (w 33 0 (w 12 0 11))) ≤ x2 then ((fR_advance w).bind fun p5 => (some (((pj_wr (w 33 0 (w 12 0 11))), p5)))) else (fR_takeNumber_42 w))) else ((fR_fail 2 w).bind fun p7 => (some (((-1), p7.2))))) else none
theorem tR_takeNumber_42 {Go : pj_C → Prop} (hM : pj_M l yX7_takeNumber cX7_takeNumber 4 (some .int) 1 21 true g n0 o Go)  (w : pj_W)  (R : Int × pj_W → Prop) (h0 : ∀ r, R (r) → ((some (0, r.1) : Option pj_V), r.2) = o) : pj_TG R (fR_takeNumber_42  w) (Go (42, [(12, 0), (9, 0), (9, 0), (9, 0)], [], w)) := by
  unfold fR_takeNumber_42
  refine pj_tbind (fun p1 h2 => ?_)
  exact pj_tret (fun hr => pj_aload_n hM (pc := 42) dX7_takeNumber_42 rfl rfl (pj_iconst hM (pc := 43) dX7_takeNumber_43 (by decide) (pj_cV hM (pc := 44) (cR_fail 4 w p1 h2) dX7_takeNumber_44 mf_X7_fail mv_X7_fail ml_X7_103 kc_12 rfl rfl (by decide) rfl rfl (pj_pop hM (pc := 47) dX7_takeNumber_47 (by decide) (pj_iconst hM (pc := 48) dX7_takeNumber_48 (by decide) (pj_ret hM (pc := 49) dX7_takeNumber_49 ⟨_, rfl⟩ (h0 (((-1), p1.2)) hr) rfl))))))
theorem tR_takeNumber {Go : pj_C → Prop} (hM : pj_M l yX7_takeNumber cX7_takeNumber 4 (some .int) 1 21 true g n0 o Go) (x1 : Int) (x2 : Int) (w : pj_W)  (R : Int × pj_W → Prop) (h0 : ∀ r, R (r) → ((some (0, r.1) : Option pj_V), r.2) = o) : pj_TG R (fR_takeNumber x1 x2 w) (Go (0, [(12, 0), (0, x1), (0, x2), (9, 0)], [], w)) := by
  unfold fR_takeNumber
  refine pj_tgd (fun h1 => ?_)
  refine pj_map (fun k => pj_aload_n hM (pc := 0) dX7_takeNumber_0 rfl rfl (pj_getF hM (pc := 1) (t := 31) dX7_takeNumber_1 fl_X7_15 (by decide) rfl rfl (pj_aload_n hM (pc := 4) dX7_takeNumber_4 rfl rfl (pj_gf hM (pc := 5) (t := 0) dX7_takeNumber_5 fl_X7_73 (by decide) rfl 11 rfl (pj_ial hM (pc := 8) dX7_takeNumber_8 ki_31 (by decide) h1 (pj_iconst hM (pc := 9) dX7_takeNumber_9 (by decide) k)))))) ?_
  refine pj_tif (fun h2 => ?_) (fun h2 => ?_)
  · refine pj_map (fun k => pj_ic_eq_t hM (pc := 10) dX7_takeNumber_10 rfl h2 (pj_aload_n hM (pc := 21) dX7_takeNumber_21 rfl rfl (pj_getF hM (pc := 22) (t := 33) dX7_takeNumber_22 fl_X7_22 (by decide) rfl rfl (pj_aload_n hM (pc := 25) dX7_takeNumber_25 rfl rfl (pj_gf hM (pc := 26) (t := 0) dX7_takeNumber_26 fl_X7_73 (by decide) rfl 11 rfl (pj_lal hM (pc := 29) dX7_takeNumber_29 kl_33 (by decide) h1 (pj_l2i hM (pc := 30) dX7_takeNumber_30 (pj_istore_n hM (pc := 31) dX7_takeNumber_31 (by decide) (lls' := [(12, 0), (0, x1), (0, x2), (0, (pj_wr (w 33 0 (w 12 0 11))))]) rfl (pj_iload_n hM (pc := 32) dX7_takeNumber_32 rfl (pj_iload_n hM (pc := 33) dX7_takeNumber_33 rfl k)))))))))) ?_
    refine pj_tif (fun h3 => ?_) (fun h3 => ?_)
    · refine pj_map (fun k => pj_ic_lt_t hM (pc := 34) dX7_takeNumber_34 rfl h3 (pj_kill hM [true, false, false, false] (lls' := [(12, 0), (9, 0), (9, 0), (9, 0)]) rfl k)) ?_
      exact tR_takeNumber_42 hM w _ h0
    refine pj_map (fun k => pj_ic_lt_f hM (pc := 34) 42 dX7_takeNumber_34 rfl h3 (pj_iload_n hM (pc := 37) dX7_takeNumber_37 rfl (pj_iload_n hM (pc := 38) dX7_takeNumber_38 rfl k))) ?_
    refine pj_tif (fun h4 => ?_) (fun h4 => ?_)
    · refine pj_tbind (fun p5 h6 => ?_)
      exact pj_tret (fun hr => pj_ic_le_t hM (pc := 39) dX7_takeNumber_39 rfl h4 (pj_aload_n hM (pc := 50) dX7_takeNumber_50 rfl rfl (pj_cVv hM (pc := 51) (cR_advance w p5 h6) dX7_takeNumber_51 mf_X7_advance mv_X7_advance ml_X7_106 kc_12 rfl rfl (by decide) rfl rfl (pj_iload_n hM (pc := 54) dX7_takeNumber_54 rfl (pj_ret hM (pc := 55) dX7_takeNumber_55 ⟨_, rfl⟩ (h0 (((pj_wr (w 33 0 (w 12 0 11))), p5)) hr) rfl)))))
    refine pj_map (fun k => pj_ic_le_f hM (pc := 39) 50 dX7_takeNumber_39 rfl h4 (pj_kill hM [true, false, false, false] (lls' := [(12, 0), (9, 0), (9, 0), (9, 0)]) rfl k)) ?_
    exact tR_takeNumber_42 hM w _ h0
  refine pj_tbind (fun p7 h8 => ?_)
  exact pj_tret (fun hr => pj_ic_eq_f hM (pc := 10) 21 dX7_takeNumber_10 rfl h2 (pj_aload_n hM (pc := 13) dX7_takeNumber_13 rfl rfl (pj_iconst hM (pc := 14) dX7_takeNumber_14 (by decide) (pj_cV hM (pc := 15) (cR_fail 2 w p7 h8) dX7_takeNumber_15 mf_X7_fail mv_X7_fail ml_X7_103 kc_12 rfl rfl (by decide) rfl rfl (pj_pop hM (pc := 18) dX7_takeNumber_18 (by decide) (pj_iconst hM (pc := 19) dX7_takeNumber_19 (by decide) (pj_ret hM (pc := 20) dX7_takeNumber_20 ⟨_, rfl⟩ (h0 (((-1), p7.2)) hr) rfl)))))))
theorem cR_takeNumber (x1 : Int) (x2 : Int)  (w : pj_W) (r : Int × pj_W) (h : fR_takeNumber x1 x2 w = some r) : pj_Cn l yX7_takeNumber cX7_takeNumber 4 (some .int) 1 21 true g [(12, 0), (0, x1), (0, x2)] w ((some (0, r.1) : Option pj_V), r.2) :=
  pj_Cn_of rfl (Nat.le_of_ble_eq_true rfl) (lls := [(12, 0), (0, x1), (0, x2), (9, 0)]) rfl (fun Go hM => tR_takeNumber hM x1 x2 w (fun x => ((some (0, x.1) : Option pj_V), x.2) = ((some (0, r.1) : Option pj_V), r.2)) (fun r h => h) r h rfl)
noncomputable def fR_takeWord_28  (w : pj_W) : Option (Int × pj_W) :=
  (fR_fail 2 w).bind fun p1 => (if p1.1 = 0 ∨ p1.1 = 1 then (some ((p1.1, p1.2))) else none)
noncomputable def fR_takeWord (x1 : Int) (w : pj_W) : Option (Int × pj_W) :=
  if 0 ≤ (w 12 0 11) ∧ (w 12 0 11) < 901 then (if (w 31 0 (w 12 0 11)) = 5 then (if (pj_cmp (w 33 0 (w 12 0 11)) x1) = 0 then ((fR_advance w).bind fun p4 => (some ((1, p4)))) else (fR_takeWord_28 w)) else (fR_takeWord_28 w)) else none
theorem tR_takeWord_28 {Go : pj_C → Prop} (hM : pj_M l yX7_takeWord cX7_takeWord 2 (some .boolean) 1 21 true g n0 o Go)  (w : pj_W)  (R : Int × pj_W → Prop) (h0 : ∀ r, R (r) → ((some (0, r.1) : Option pj_V), r.2) = o) : pj_TG R (fR_takeWord_28  w) (Go (28, [(12, 0), (9, 0)], [], w)) := by
  unfold fR_takeWord_28
  refine pj_tbind (fun p1 h2 => ?_)
  refine pj_tgd (fun h3 => ?_)
  exact pj_tret (fun hr => pj_aload_n hM (pc := 28) dX7_takeWord_28 rfl rfl (pj_iconst hM (pc := 29) dX7_takeWord_29 (by decide) (pj_cV hM (pc := 30) (cR_fail 2 w p1 h2) dX7_takeWord_30 mf_X7_fail mv_X7_fail ml_X7_103 kc_12 rfl rfl (by decide) rfl rfl (pj_ret hM (pc := 33) dX7_takeWord_33 ⟨_, rfl, h3⟩ (h0 ((p1.1, p1.2)) hr) rfl))))
theorem tR_takeWord {Go : pj_C → Prop} (hM : pj_M l yX7_takeWord cX7_takeWord 2 (some .boolean) 1 21 true g n0 o Go) (x1 : Int) (w : pj_W)  (R : Int × pj_W → Prop) (h0 : ∀ r, R (r) → ((some (0, r.1) : Option pj_V), r.2) = o) : pj_TG R (fR_takeWord x1 w) (Go (0, [(12, 0), (0, x1)], [], w)) := by
  unfold fR_takeWord
  refine pj_tgd (fun h1 => ?_)
  refine pj_map (fun k => pj_aload_n hM (pc := 0) dX7_takeWord_0 rfl rfl (pj_getF hM (pc := 1) (t := 31) dX7_takeWord_1 fl_X7_15 (by decide) rfl rfl (pj_aload_n hM (pc := 4) dX7_takeWord_4 rfl rfl (pj_gf hM (pc := 5) (t := 0) dX7_takeWord_5 fl_X7_73 (by decide) rfl 11 rfl (pj_ial hM (pc := 8) dX7_takeWord_8 ki_31 (by decide) h1 (pj_iconst hM (pc := 9) dX7_takeWord_9 (by decide) k)))))) ?_
  refine pj_tif (fun h2 => ?_) (fun h2 => ?_)
  · refine pj_map (fun k => pj_ic_ne_f hM (pc := 10) 28 dX7_takeWord_10 rfl (fun q => q h2) (pj_aload_n hM (pc := 13) dX7_takeWord_13 rfl rfl (pj_getF hM (pc := 14) (t := 33) dX7_takeWord_14 fl_X7_22 (by decide) rfl rfl (pj_aload_n hM (pc := 17) dX7_takeWord_17 rfl rfl (pj_gf hM (pc := 18) (t := 0) dX7_takeWord_18 fl_X7_73 (by decide) rfl 11 rfl (pj_lal hM (pc := 21) dX7_takeWord_21 kl_33 (by decide) h1 (pj_iload_n hM (pc := 22) dX7_takeWord_22 rfl (pj_i2l hM (pc := 23) dX7_takeWord_23 (pj_lcmp hM (pc := 24) dX7_takeWord_24 k))))))))) ?_
    refine pj_tif (fun h3 => ?_) (fun h3 => ?_)
    · refine pj_tbind (fun p4 h5 => ?_)
      exact pj_tret (fun hr => pj_if_eq_t hM (pc := 25) dX7_takeWord_25 rfl h3 (pj_aload_n hM (pc := 34) dX7_takeWord_34 rfl rfl (pj_cVv hM (pc := 35) (cR_advance w p4 h5) dX7_takeWord_35 mf_X7_advance mv_X7_advance ml_X7_106 kc_12 rfl rfl (by decide) rfl rfl (pj_iconst hM (pc := 38) dX7_takeWord_38 (by decide) (pj_ret hM (pc := 39) dX7_takeWord_39 ⟨_, rfl, Or.inr rfl⟩ (h0 ((1, p4)) hr) rfl)))))
    refine pj_map (fun k => pj_if_eq_f hM (pc := 25) 34 dX7_takeWord_25 rfl h3 (pj_kill hM [true, false] (lls' := [(12, 0), (9, 0)]) rfl k)) ?_
    exact tR_takeWord_28 hM w _ h0
  refine pj_map (fun k => pj_ic_ne_t hM (pc := 10) dX7_takeWord_10 rfl h2 (pj_kill hM [true, false] (lls' := [(12, 0), (9, 0)]) rfl k)) ?_
  exact tR_takeWord_28 hM w _ h0
theorem cR_takeWord (x1 : Int)  (w : pj_W) (r : Int × pj_W) (h : fR_takeWord x1 w = some r) : pj_Cn l yX7_takeWord cX7_takeWord 2 (some .boolean) 1 21 true g [(12, 0), (0, x1)] w ((some (0, r.1) : Option pj_V), r.2) :=
  pj_Cn_of rfl (Nat.le_of_ble_eq_true rfl) (lls := [(12, 0), (0, x1)]) rfl (fun Go hM => tR_takeWord hM x1 w (fun x => ((some (0, x.1) : Option pj_V), x.2) = ((some (0, r.1) : Option pj_V), r.2)) (fun r h => h) r h rfl)
noncomputable def fR_takeNumberBehind (x1 : Int) (x2 : Int) (x3 : Int) (w : pj_W) : Option (Int × pj_W) :=
  (fR_takeWord x1 w).bind fun p1 => (if p1.1 = 0 then (some (((-1), p1.2))) else ((fR_takeNumber x2 x3 p1.2).bind fun p4 => (some ((p4.1, p4.2)))))
theorem tR_takeNumberBehind {Go : pj_C → Prop} (hM : pj_M l yX7_takeNumberBehind cX7_takeNumberBehind 4 (some .int) 2 44 true g n0 o Go) (x1 : Int) (x2 : Int) (x3 : Int) (w : pj_W)  (R : Int × pj_W → Prop) (h0 : ∀ r, R (r) → ((some (0, r.1) : Option pj_V), r.2) = o) : pj_TG R (fR_takeNumberBehind x1 x2 x3 w) (Go (0, [(12, 0), (0, x1), (0, x2), (0, x3)], [], w)) := by
  unfold fR_takeNumberBehind
  refine pj_tbind (fun p1 h2 => ?_)
  refine pj_map (fun k => pj_aload_n hM (pc := 0) dX7_takeNumberBehind_0 rfl rfl (pj_iload_n hM (pc := 1) dX7_takeNumberBehind_1 rfl (pj_cV hM (pc := 2) (cR_takeWord x1 w p1 h2) dX7_takeNumberBehind_2 mf_X7_takeWord mv_X7_takeWord ml_X7_111 kc_12 rfl rfl (by decide) rfl rfl k))) ?_
  refine pj_tif (fun h3 => ?_) (fun h3 => ?_)
  · exact pj_tret (fun hr => pj_if_eq_t hM (pc := 5) dX7_takeNumberBehind_5 rfl h3 (pj_iconst hM (pc := 17) dX7_takeNumberBehind_17 (by decide) (pj_ret hM (pc := 18) dX7_takeNumberBehind_18 ⟨_, rfl⟩ (h0 (((-1), p1.2)) hr) rfl)))
  refine pj_tbind (fun p4 h5 => ?_)
  exact pj_tret (fun hr => pj_if_eq_f hM (pc := 5) 17 dX7_takeNumberBehind_5 rfl h3 (pj_aload_n hM (pc := 8) dX7_takeNumberBehind_8 rfl rfl (pj_iload_n hM (pc := 9) dX7_takeNumberBehind_9 rfl (pj_iload_n hM (pc := 10) dX7_takeNumberBehind_10 rfl (pj_cV hM (pc := 11) (cR_takeNumber x2 x3 p1.2 p4 h5) dX7_takeNumberBehind_11 mf_X7_takeNumber mv_X7_takeNumber ml_X7_114 kc_12 rfl rfl (by decide) rfl rfl (pj_goto hM (pc := 14) dX7_takeNumberBehind_14 rfl (pj_ret hM (pc := 18) dX7_takeNumberBehind_18 ⟨_, rfl⟩ (h0 ((p4.1, p4.2)) hr) rfl)))))))
theorem cR_takeNumberBehind (x1 : Int) (x2 : Int) (x3 : Int)  (w : pj_W) (r : Int × pj_W) (h : fR_takeNumberBehind x1 x2 x3 w = some r) : pj_Cn l yX7_takeNumberBehind cX7_takeNumberBehind 4 (some .int) 2 44 true g [(12, 0), (0, x1), (0, x2), (0, x3)] w ((some (0, r.1) : Option pj_V), r.2) :=
  pj_Cn_of rfl (Nat.le_of_ble_eq_true rfl) (lls := [(12, 0), (0, x1), (0, x2), (0, x3)]) rfl (fun Go hM => tR_takeNumberBehind hM x1 x2 x3 w (fun x => ((some (0, x.1) : Option pj_V), x.2) = ((some (0, r.1) : Option pj_V), r.2)) (fun r h => h) r h rfl)
noncomputable def fR_takeSign_28  (w : pj_W) : Option (Int × pj_W) :=
  (fR_fail 2 w).bind fun p1 => (if p1.1 = 0 ∨ p1.1 = 1 then (some ((p1.1, p1.2))) else none)
noncomputable def fR_takeSign (x1 : Int) (w : pj_W) : Option (Int × pj_W) :=
  if 0 ≤ (w 12 0 11) ∧ (w 12 0 11) < 901 then (if (w 31 0 (w 12 0 11)) = 2 then (if (pj_cmp (w 33 0 (w 12 0 11)) x1) = 0 then ((fR_advance w).bind fun p4 => (some ((1, p4)))) else (fR_takeSign_28 w)) else (fR_takeSign_28 w)) else none
theorem tR_takeSign_28 {Go : pj_C → Prop} (hM : pj_M l yX7_takeSign cX7_takeSign 2 (some .boolean) 1 21 true g n0 o Go)  (w : pj_W)  (R : Int × pj_W → Prop) (h0 : ∀ r, R (r) → ((some (0, r.1) : Option pj_V), r.2) = o) : pj_TG R (fR_takeSign_28  w) (Go (28, [(12, 0), (9, 0)], [], w)) := by
  unfold fR_takeSign_28
  refine pj_tbind (fun p1 h2 => ?_)
  refine pj_tgd (fun h3 => ?_)
  exact pj_tret (fun hr => pj_aload_n hM (pc := 28) dX7_takeSign_28 rfl rfl (pj_iconst hM (pc := 29) dX7_takeSign_29 (by decide) (pj_cV hM (pc := 30) (cR_fail 2 w p1 h2) dX7_takeSign_30 mf_X7_fail mv_X7_fail ml_X7_103 kc_12 rfl rfl (by decide) rfl rfl (pj_ret hM (pc := 33) dX7_takeSign_33 ⟨_, rfl, h3⟩ (h0 ((p1.1, p1.2)) hr) rfl))))
theorem tR_takeSign {Go : pj_C → Prop} (hM : pj_M l yX7_takeSign cX7_takeSign 2 (some .boolean) 1 21 true g n0 o Go) (x1 : Int) (w : pj_W)  (R : Int × pj_W → Prop) (h0 : ∀ r, R (r) → ((some (0, r.1) : Option pj_V), r.2) = o) : pj_TG R (fR_takeSign x1 w) (Go (0, [(12, 0), (0, x1)], [], w)) := by
  unfold fR_takeSign
  refine pj_tgd (fun h1 => ?_)
  refine pj_map (fun k => pj_aload_n hM (pc := 0) dX7_takeSign_0 rfl rfl (pj_getF hM (pc := 1) (t := 31) dX7_takeSign_1 fl_X7_15 (by decide) rfl rfl (pj_aload_n hM (pc := 4) dX7_takeSign_4 rfl rfl (pj_gf hM (pc := 5) (t := 0) dX7_takeSign_5 fl_X7_73 (by decide) rfl 11 rfl (pj_ial hM (pc := 8) dX7_takeSign_8 ki_31 (by decide) h1 (pj_iconst hM (pc := 9) dX7_takeSign_9 (by decide) k)))))) ?_
  refine pj_tif (fun h2 => ?_) (fun h2 => ?_)
  · refine pj_map (fun k => pj_ic_ne_f hM (pc := 10) 28 dX7_takeSign_10 rfl (fun q => q h2) (pj_aload_n hM (pc := 13) dX7_takeSign_13 rfl rfl (pj_getF hM (pc := 14) (t := 33) dX7_takeSign_14 fl_X7_22 (by decide) rfl rfl (pj_aload_n hM (pc := 17) dX7_takeSign_17 rfl rfl (pj_gf hM (pc := 18) (t := 0) dX7_takeSign_18 fl_X7_73 (by decide) rfl 11 rfl (pj_lal hM (pc := 21) dX7_takeSign_21 kl_33 (by decide) h1 (pj_iload_n hM (pc := 22) dX7_takeSign_22 rfl (pj_i2l hM (pc := 23) dX7_takeSign_23 (pj_lcmp hM (pc := 24) dX7_takeSign_24 k))))))))) ?_
    refine pj_tif (fun h3 => ?_) (fun h3 => ?_)
    · refine pj_tbind (fun p4 h5 => ?_)
      exact pj_tret (fun hr => pj_if_eq_t hM (pc := 25) dX7_takeSign_25 rfl h3 (pj_aload_n hM (pc := 34) dX7_takeSign_34 rfl rfl (pj_cVv hM (pc := 35) (cR_advance w p4 h5) dX7_takeSign_35 mf_X7_advance mv_X7_advance ml_X7_106 kc_12 rfl rfl (by decide) rfl rfl (pj_iconst hM (pc := 38) dX7_takeSign_38 (by decide) (pj_ret hM (pc := 39) dX7_takeSign_39 ⟨_, rfl, Or.inr rfl⟩ (h0 ((1, p4)) hr) rfl)))))
    refine pj_map (fun k => pj_if_eq_f hM (pc := 25) 34 dX7_takeSign_25 rfl h3 (pj_kill hM [true, false] (lls' := [(12, 0), (9, 0)]) rfl k)) ?_
    exact tR_takeSign_28 hM w _ h0
  refine pj_map (fun k => pj_ic_ne_t hM (pc := 10) dX7_takeSign_10 rfl h2 (pj_kill hM [true, false] (lls' := [(12, 0), (9, 0)]) rfl k)) ?_
  exact tR_takeSign_28 hM w _ h0
theorem cR_takeSign (x1 : Int)  (w : pj_W) (r : Int × pj_W) (h : fR_takeSign x1 w = some r) : pj_Cn l yX7_takeSign cX7_takeSign 2 (some .boolean) 1 21 true g [(12, 0), (0, x1)] w ((some (0, r.1) : Option pj_V), r.2) :=
  pj_Cn_of rfl (Nat.le_of_ble_eq_true rfl) (lls := [(12, 0), (0, x1)]) rfl (fun Go hM => tR_takeSign hM x1 w (fun x => ((some (0, x.1) : Option pj_V), x.2) = ((some (0, r.1) : Option pj_V), r.2)) (fun r h => h) r h rfl)
noncomputable def fR_wordHere  (w : pj_W) : Option (Int) :=
  if 0 ≤ (w 12 0 11) ∧ (w 12 0 11) < 901 then (if (w 31 0 (w 12 0 11)) = 5 then (some ((pj_wr (w 33 0 (w 12 0 11))))) else (some ((-1)))) else none
theorem tR_wordHere {Go : pj_C → Prop} (hM : pj_M l yX7_wordHere cX7_wordHere 1 (some .int) 0 0 true g n0 o Go)  (w : pj_W)  (R : Int → Prop) (h0 : ∀ r, R (r) → ((some (0, r) : Option pj_V), w) = o) : pj_TG R (fR_wordHere  w) (Go (0, [(12, 0)], [], w)) := by
  unfold fR_wordHere
  refine pj_tgd (fun h1 => ?_)
  refine pj_map (fun k => pj_aload_n hM (pc := 0) dX7_wordHere_0 rfl rfl (pj_getF hM (pc := 1) (t := 31) dX7_wordHere_1 fl_X7_15 (by decide) rfl rfl (pj_aload_n hM (pc := 4) dX7_wordHere_4 rfl rfl (pj_gf hM (pc := 5) (t := 0) dX7_wordHere_5 fl_X7_73 (by decide) rfl 11 rfl (pj_ial hM (pc := 8) dX7_wordHere_8 ki_31 (by decide) h1 (pj_iconst hM (pc := 9) dX7_wordHere_9 (by decide) k)))))) ?_
  refine pj_tif (fun h2 => ?_) (fun h2 => ?_)
  · exact pj_tret (fun hr => pj_ic_ne_f hM (pc := 10) 26 dX7_wordHere_10 rfl (fun q => q h2) (pj_aload_n hM (pc := 13) dX7_wordHere_13 rfl rfl (pj_getF hM (pc := 14) (t := 33) dX7_wordHere_14 fl_X7_22 (by decide) rfl rfl (pj_aload_n hM (pc := 17) dX7_wordHere_17 rfl rfl (pj_gf hM (pc := 18) (t := 0) dX7_wordHere_18 fl_X7_73 (by decide) rfl 11 rfl (pj_lal hM (pc := 21) dX7_wordHere_21 kl_33 (by decide) h1 (pj_l2i hM (pc := 22) dX7_wordHere_22 (pj_goto hM (pc := 23) dX7_wordHere_23 rfl (pj_ret hM (pc := 27) dX7_wordHere_27 ⟨_, rfl⟩ (h0 ((pj_wr (w 33 0 (w 12 0 11)))) hr) rfl)))))))))
  exact pj_tret (fun hr => pj_ic_ne_t hM (pc := 10) dX7_wordHere_10 rfl h2 (pj_iconst hM (pc := 26) dX7_wordHere_26 (by decide) (pj_ret hM (pc := 27) dX7_wordHere_27 ⟨_, rfl⟩ (h0 ((-1)) hr) rfl)))
theorem cR_wordHere   (w : pj_W) (r : Int) (h : fR_wordHere  w = some r) : pj_Cn l yX7_wordHere cX7_wordHere 1 (some .int) 0 0 true g [(12, 0)] w ((some (0, r) : Option pj_V), w) :=
  pj_Cn_of rfl (Nat.le_of_ble_eq_true rfl) (lls := [(12, 0)]) rfl (fun Go hM => tR_wordHere hM w (fun x => ((some (0, x) : Option pj_V), w) = ((some (0, r) : Option pj_V), w)) (fun r h => h) r h rfl)
noncomputable def fBT_takeHead_93  (w : pj_W) : Option (Int × pj_W) :=
  (fR_takeSign 59 w).bind fun p1 => (if p1.1 = 0 ∨ p1.1 = 1 then (some ((p1.1, p1.2))) else none)
noncomputable def fBT_takeHead  (w : pj_W) : Option (Int × pj_W) :=
  (fR_takeNumberBehind 0 2 40 w).bind fun p1 => (if p1.1 = (-1) then (some ((0, p1.2))) else ((fR_takeNumberBehind 1 1 240 p1.2).bind fun p4 => (if p4.1 = (-1) then (some ((0, p4.2))) else (if 0 ≤ (p4.2 13 0 1) then (if 0 ≤ ((pj_set p4.2 19 (p4.2 13 0 1) 2 p1.1) 13 0 1) then ((some (pj_set (pj_set p4.2 19 (p4.2 13 0 1) 2 p1.1) 19 ((pj_set p4.2 19 (p4.2 13 0 1) 2 p1.1) 13 0 1) 3 p4.1)).bind fun w9 => ((fR_wordHere w9).bind fun p10 => (if p10 = 2 then ((fR_takeNumberBehind 2 0 60 w9).bind fun p13 => (if p13.1 = (-1) then (some ((0, p13.2))) else (if 0 ≤ (p13.2 13 0 1) then (fBT_takeHead_93 (pj_set p13.2 19 (p13.2 13 0 1) 4 p13.1)) else none))) else (fBT_takeHead_93 w9)))) else none) else none))))
theorem tBT_takeHead_93 {Go : pj_C → Prop} (hM : pj_M l yX1_takeHead cX1_takeHead 4 (some .boolean) 3 67 true g n0 o Go)  (w : pj_W)  (R : Int × pj_W → Prop) (h0 : ∀ r, R (r) → ((some (0, r.1) : Option pj_V), r.2) = o) : pj_TG R (fBT_takeHead_93  w) (Go (93, [(13, 0), (9, 0), (9, 0), (9, 0)], [], w)) := by
  unfold fBT_takeHead_93
  refine pj_tbind (fun p1 h2 => ?_)
  refine pj_tgd (fun h3 => ?_)
  exact pj_tret (fun hr => pj_aload_n hM (pc := 93) dX1_takeHead_93 rfl rfl (pj_getF hM (pc := 94) (t := 12) dX1_takeHead_94 fl_X1_9 (by decide) rfl rfl (pj_bipush hM (pc := 97) dX1_takeHead_97 (by decide) (pj_cV hM (pc := 99) (cR_takeSign 59 w p1 h2) dX1_takeHead_99 mf_X7_takeSign mv_X7_takeSign ml_X1_60 kc_12 rfl rfl (by decide) rfl rfl (pj_ret hM (pc := 102) dX1_takeHead_102 ⟨_, rfl, h3⟩ (h0 ((p1.1, p1.2)) hr) rfl)))))
theorem tBT_takeHead {Go : pj_C → Prop} (hM : pj_M l yX1_takeHead cX1_takeHead 4 (some .boolean) 3 67 true g n0 o Go)  (w : pj_W)  (R : Int × pj_W → Prop) (h0 : ∀ r, R (r) → ((some (0, r.1) : Option pj_V), r.2) = o) : pj_TG R (fBT_takeHead  w) (Go (0, [(13, 0), (9, 0), (9, 0), (9, 0)], [], w)) := by
  unfold fBT_takeHead
  refine pj_tbind (fun p1 h2 => ?_)
  refine pj_map (fun k => pj_aload_n hM (pc := 0) dX1_takeHead_0 rfl rfl (pj_getF hM (pc := 1) (t := 12) dX1_takeHead_1 fl_X1_9 (by decide) rfl rfl (pj_iconst hM (pc := 4) dX1_takeHead_4 (by decide) (pj_iconst hM (pc := 5) dX1_takeHead_5 (by decide) (pj_bipush hM (pc := 6) dX1_takeHead_6 (by decide) (pj_cV hM (pc := 8) (cR_takeNumberBehind 0 2 40 w p1 h2) dX1_takeHead_8 mf_X7_takeNumberBehind mv_X7_takeNumberBehind ml_X1_42 kc_12 rfl rfl (by decide) rfl rfl (pj_istore_n hM (pc := 11) dX1_takeHead_11 (by decide) (lls' := [(13, 0), (0, p1.1), (9, 0), (9, 0)]) rfl (pj_iload_n hM (pc := 12) dX1_takeHead_12 rfl (pj_iconst hM (pc := 13) dX1_takeHead_13 (by decide) k))))))))) ?_
  refine pj_tif (fun h3 => ?_) (fun h3 => ?_)
  · exact pj_tret (fun hr => pj_ic_ne_f hM (pc := 14) 19 dX1_takeHead_14 rfl (fun q => q h3) (pj_iconst hM (pc := 17) dX1_takeHead_17 (by decide) (pj_ret hM (pc := 18) dX1_takeHead_18 ⟨_, rfl, Or.inl rfl⟩ (h0 ((0, p1.2)) hr) rfl)))
  refine pj_tbind (fun p4 h5 => ?_)
  refine pj_map (fun k => pj_ic_ne_t hM (pc := 14) dX1_takeHead_14 rfl h3 (pj_aload_n hM (pc := 19) dX1_takeHead_19 rfl rfl (pj_getF hM (pc := 20) (t := 12) dX1_takeHead_20 fl_X1_9 (by decide) rfl rfl (pj_iconst hM (pc := 23) dX1_takeHead_23 (by decide) (pj_iconst hM (pc := 24) dX1_takeHead_24 (by decide) (pj_sipush hM (pc := 25) dX1_takeHead_25 (by decide) (pj_cV hM (pc := 28) (cR_takeNumberBehind 1 1 240 p1.2 p4 h5) dX1_takeHead_28 mf_X7_takeNumberBehind mv_X7_takeNumberBehind ml_X1_42 kc_12 rfl rfl (by decide) rfl rfl (pj_istore_n hM (pc := 31) dX1_takeHead_31 (by decide) (lls' := [(13, 0), (0, p1.1), (0, p4.1), (9, 0)]) rfl (pj_iload_n hM (pc := 32) dX1_takeHead_32 rfl (pj_iconst hM (pc := 33) dX1_takeHead_33 (by decide) k)))))))))) ?_
  refine pj_tif (fun h6 => ?_) (fun h6 => ?_)
  · exact pj_tret (fun hr => pj_ic_ne_f hM (pc := 34) 39 dX1_takeHead_34 rfl (fun q => q h6) (pj_iconst hM (pc := 37) dX1_takeHead_37 (by decide) (pj_ret hM (pc := 38) dX1_takeHead_38 ⟨_, rfl, Or.inl rfl⟩ (h0 ((0, p4.2)) hr) rfl)))
  refine pj_tgd (fun h7 => ?_)
  refine pj_tgd (fun h8 => ?_)
  refine pj_map (fun k => pj_ic_ne_t hM (pc := 34) dX1_takeHead_34 rfl h6 (pj_aload_n hM (pc := 39) dX1_takeHead_39 rfl rfl (pj_gf hM (pc := 40) (t := 19) dX1_takeHead_40 fl_X1_15 (by decide) rfl 1 rfl (pj_iload_n hM (pc := 43) dX1_takeHead_43 rfl (pj_pf hM (pc := 44) dX1_takeHead_44 fl_X1_46 h7 rfl (fun h => absurd h (by decide)) (by decide) (fun _ => rfl) 2 rfl (pj_aload_n hM (pc := 47) dX1_takeHead_47 rfl rfl (pj_gf hM (pc := 48) (t := 19) dX1_takeHead_48 fl_X1_15 (by decide) rfl 1 rfl (pj_iload_n hM (pc := 51) dX1_takeHead_51 rfl (pj_pf hM (pc := 52) dX1_takeHead_52 fl_X1_50 h8 rfl (fun h => absurd h (by decide)) (by decide) (fun _ => rfl) 3 rfl k))))))))) ?_
  refine pj_tlet (fun w9 => Go (55, [(13, 0), (0, p1.1), (0, p4.1), (9, 0)], [], w9)) (fun w9 => ?_)
  refine pj_tbind (fun p10 h11 => ?_)
  refine pj_map (fun k => pj_aload_n hM (pc := 55) dX1_takeHead_55 rfl rfl (pj_getF hM (pc := 56) (t := 12) dX1_takeHead_56 fl_X1_9 (by decide) rfl rfl (pj_cV hM (pc := 59) (cR_wordHere w9 p10 h11) dX1_takeHead_59 mf_X7_wordHere mv_X7_wordHere ml_X1_53 kc_12 rfl rfl (by decide) rfl rfl (pj_iconst hM (pc := 62) dX1_takeHead_62 (by decide) k)))) ?_
  refine pj_tif (fun h12 => ?_) (fun h12 => ?_)
  · refine pj_tbind (fun p13 h14 => ?_)
    refine pj_map (fun k => pj_ic_ne_f hM (pc := 63) 93 dX1_takeHead_63 rfl (fun q => q h12) (pj_aload_n hM (pc := 66) dX1_takeHead_66 rfl rfl (pj_getF hM (pc := 67) (t := 12) dX1_takeHead_67 fl_X1_9 (by decide) rfl rfl (pj_iconst hM (pc := 70) dX1_takeHead_70 (by decide) (pj_iconst hM (pc := 71) dX1_takeHead_71 (by decide) (pj_bipush hM (pc := 72) dX1_takeHead_72 (by decide) (pj_cV hM (pc := 74) (cR_takeNumberBehind 2 0 60 w9 p13 h14) dX1_takeHead_74 mf_X7_takeNumberBehind mv_X7_takeNumberBehind ml_X1_42 kc_12 rfl rfl (by decide) rfl rfl (pj_istore_n hM (pc := 77) dX1_takeHead_77 (by decide) (lls' := [(13, 0), (0, p1.1), (0, p4.1), (0, p13.1)]) rfl (pj_iload_n hM (pc := 78) dX1_takeHead_78 rfl (pj_iconst hM (pc := 79) dX1_takeHead_79 (by decide) k)))))))))) ?_
    refine pj_tif (fun h15 => ?_) (fun h15 => ?_)
    · exact pj_tret (fun hr => pj_ic_ne_f hM (pc := 80) 85 dX1_takeHead_80 rfl (fun q => q h15) (pj_iconst hM (pc := 83) dX1_takeHead_83 (by decide) (pj_ret hM (pc := 84) dX1_takeHead_84 ⟨_, rfl, Or.inl rfl⟩ (h0 ((0, p13.2)) hr) rfl)))
    refine pj_tgd (fun h16 => ?_)
    refine pj_map (fun k => pj_ic_ne_t hM (pc := 80) dX1_takeHead_80 rfl h15 (pj_aload_n hM (pc := 85) dX1_takeHead_85 rfl rfl (pj_gf hM (pc := 86) (t := 19) dX1_takeHead_86 fl_X1_15 (by decide) rfl 1 rfl (pj_iload_n hM (pc := 89) dX1_takeHead_89 rfl (pj_pf hM (pc := 90) dX1_takeHead_90 fl_X1_57 h16 rfl (fun h => absurd h (by decide)) (by decide) (fun _ => rfl) 4 rfl (pj_kill hM [true, false, false, false] (lls' := [(13, 0), (9, 0), (9, 0), (9, 0)]) rfl k)))))) ?_
    exact tBT_takeHead_93 hM (pj_set p13.2 19 (p13.2 13 0 1) 4 p13.1) _ h0
  refine pj_map (fun k => pj_ic_ne_t hM (pc := 63) dX1_takeHead_63 rfl h12 (pj_kill hM [true, false, false, false] (lls' := [(13, 0), (9, 0), (9, 0), (9, 0)]) rfl k)) ?_
  exact tBT_takeHead_93 hM w9 _ h0
theorem cBT_takeHead   (w : pj_W) (r : Int × pj_W) (h : fBT_takeHead  w = some r) : pj_Cn l yX1_takeHead cX1_takeHead 4 (some .boolean) 3 67 true g [(13, 0)] w ((some (0, r.1) : Option pj_V), r.2) :=
  pj_Cn_of rfl (Nat.le_of_ble_eq_true rfl) (lls := [(13, 0), (9, 0), (9, 0), (9, 0)]) rfl (fun Go hM => tBT_takeHead hM w (fun x => ((some (0, x.1) : Option pj_V), x.2) = ((some (0, r.1) : Option pj_V), r.2)) (fun r h => h) r h rfl)
noncomputable def fBT_takeDuelPart_46  (w : pj_W) : Option (Int × pj_W) :=
  (fR_fail 2 w).bind fun p1 => (if p1.1 = 0 ∨ p1.1 = 1 then (some ((p1.1, p1.2))) else none)
noncomputable def fBT_takeDuelPart  (w : pj_W) : Option (Int × pj_W) :=
  if (w 13 0 2) = 0 then ((fR_takeWord 12 w).bind fun p2 => ((fR_wordHere p2.2).bind fun p4 => (if p4 < 13 then (fBT_takeDuelPart_46 p2.2) else (if p4 ≤ 16 then ((fR_takeWord p4 p2.2).bind fun p8 => (if 0 ≤ (p8.2 13 0 1) then ((fR_takeSign 59 (pj_set (pj_set p8.2 19 (p8.2 13 0 1) 5 (pj_wr (p4 - 13))) 13 0 2 1)).bind fun p11 => (if p11.1 = 0 ∨ p11.1 = 1 then (some ((p11.1, p11.2))) else none)) else none)) else (fBT_takeDuelPart_46 p2.2))))) else ((fR_fail 5 w).bind fun p14 => (if p14.1 = 0 ∨ p14.1 = 1 then (some ((p14.1, p14.2))) else none))
theorem tBT_takeDuelPart_46 {Go : pj_C → Prop} (hM : pj_M l yX1_takeDuelPart cX1_takeDuelPart 2 (some .boolean) 2 42 true g n0 o Go)  (w : pj_W)  (R : Int × pj_W → Prop) (h0 : ∀ r, R (r) → ((some (0, r.1) : Option pj_V), r.2) = o) : pj_TG R (fBT_takeDuelPart_46  w) (Go (46, [(13, 0), (9, 0)], [], w)) := by
  unfold fBT_takeDuelPart_46
  refine pj_tbind (fun p1 h2 => ?_)
  refine pj_tgd (fun h3 => ?_)
  exact pj_tret (fun hr => pj_aload_n hM (pc := 46) dX1_takeDuelPart_46 rfl rfl (pj_getF hM (pc := 47) (t := 12) dX1_takeDuelPart_47 fl_X1_9 (by decide) rfl rfl (pj_iconst hM (pc := 50) dX1_takeDuelPart_50 (by decide) (pj_cV hM (pc := 51) (cR_fail 2 w p1 h2) dX1_takeDuelPart_51 mf_X7_fail mv_X7_fail ml_X1_76 kc_12 rfl rfl (by decide) rfl rfl (pj_ret hM (pc := 54) dX1_takeDuelPart_54 ⟨_, rfl, h3⟩ (h0 ((p1.1, p1.2)) hr) rfl)))))
theorem tBT_takeDuelPart {Go : pj_C → Prop} (hM : pj_M l yX1_takeDuelPart cX1_takeDuelPart 2 (some .boolean) 2 42 true g n0 o Go)  (w : pj_W)  (R : Int × pj_W → Prop) (h0 : ∀ r, R (r) → ((some (0, r.1) : Option pj_V), r.2) = o) : pj_TG R (fBT_takeDuelPart  w) (Go (0, [(13, 0), (9, 0)], [], w)) := by
  unfold fBT_takeDuelPart
  refine pj_map (fun k => pj_aload_n hM (pc := 0) dX1_takeDuelPart_0 rfl rfl (pj_gf hM (pc := 1) (t := 0) dX1_takeDuelPart_1 fl_X1_24 (by decide) rfl 2 rfl k)) ?_
  refine pj_tif (fun h1 => ?_) (fun h1 => ?_)
  · refine pj_tbind (fun p2 h3 => ?_)
    refine pj_tbind (fun p4 h5 => ?_)
    refine pj_map (fun k => pj_if_eq_t hM (pc := 4) dX1_takeDuelPart_4 rfl h1 (pj_aload_n hM (pc := 16) dX1_takeDuelPart_16 rfl rfl (pj_getF hM (pc := 17) (t := 12) dX1_takeDuelPart_17 fl_X1_9 (by decide) rfl rfl (pj_bipush hM (pc := 20) dX1_takeDuelPart_20 (by decide) (pj_cV hM (pc := 22) (cR_takeWord 12 w p2 h3) dX1_takeDuelPart_22 mf_X7_takeWord mv_X7_takeWord ml_X1_83 kc_12 rfl rfl (by decide) rfl rfl (pj_pop hM (pc := 25) dX1_takeDuelPart_25 (by decide) (pj_aload_n hM (pc := 26) dX1_takeDuelPart_26 rfl rfl (pj_getF hM (pc := 27) (t := 12) dX1_takeDuelPart_27 fl_X1_9 (by decide) rfl rfl (pj_cV hM (pc := 30) (cR_wordHere p2.2 p4 h5) dX1_takeDuelPart_30 mf_X7_wordHere mv_X7_wordHere ml_X1_53 kc_12 rfl rfl (by decide) rfl rfl (pj_istore_n hM (pc := 33) dX1_takeDuelPart_33 (by decide) (lls' := [(13, 0), (0, p4)]) rfl (pj_iload_n hM (pc := 34) dX1_takeDuelPart_34 rfl (pj_bipush hM (pc := 35) dX1_takeDuelPart_35 (by decide) k)))))))))))) ?_
    refine pj_tif (fun h6 => ?_) (fun h6 => ?_)
    · refine pj_map (fun k => pj_ic_lt_t hM (pc := 37) dX1_takeDuelPart_37 rfl h6 (pj_kill hM [true, false] (lls' := [(13, 0), (9, 0)]) rfl k)) ?_
      exact tBT_takeDuelPart_46 hM p2.2 _ h0
    refine pj_map (fun k => pj_ic_lt_f hM (pc := 37) 46 dX1_takeDuelPart_37 rfl h6 (pj_iload_n hM (pc := 40) dX1_takeDuelPart_40 rfl (pj_bipush hM (pc := 41) dX1_takeDuelPart_41 (by decide) k))) ?_
    refine pj_tif (fun h7 => ?_) (fun h7 => ?_)
    · refine pj_tbind (fun p8 h9 => ?_)
      refine pj_tgd (fun h10 => ?_)
      refine pj_tbind (fun p11 h12 => ?_)
      refine pj_tgd (fun h13 => ?_)
      exact pj_tret (fun hr => pj_ic_le_t hM (pc := 43) dX1_takeDuelPart_43 rfl h7 (pj_aload_n hM (pc := 55) dX1_takeDuelPart_55 rfl rfl (pj_getF hM (pc := 56) (t := 12) dX1_takeDuelPart_56 fl_X1_9 (by decide) rfl rfl (pj_iload_n hM (pc := 59) dX1_takeDuelPart_59 rfl (pj_cV hM (pc := 60) (cR_takeWord p4 p2.2 p8 h9) dX1_takeDuelPart_60 mf_X7_takeWord mv_X7_takeWord ml_X1_83 kc_12 rfl rfl (by decide) rfl rfl (pj_pop hM (pc := 63) dX1_takeDuelPart_63 (by decide) (pj_aload_n hM (pc := 64) dX1_takeDuelPart_64 rfl rfl (pj_gf hM (pc := 65) (t := 19) dX1_takeDuelPart_65 fl_X1_15 (by decide) rfl 1 rfl (pj_iload_n hM (pc := 68) dX1_takeDuelPart_68 rfl (pj_bipush hM (pc := 69) dX1_takeDuelPart_69 (by decide) (pj_isub hM (pc := 71) dX1_takeDuelPart_71 (pj_pf hM (pc := 72) dX1_takeDuelPart_72 fl_X1_124 h10 rfl (fun h => absurd h (by decide)) (by decide) (fun _ => rfl) 5 rfl (pj_aload_n hM (pc := 75) dX1_takeDuelPart_75 rfl rfl (pj_iconst hM (pc := 76) dX1_takeDuelPart_76 (by decide) (pj_pf hM (pc := 77) dX1_takeDuelPart_77 fl_X1_24 (by decide) rfl (fun _ => Or.inr rfl) (by decide) (fun _ => rfl) 2 rfl (pj_aload_n hM (pc := 80) dX1_takeDuelPart_80 rfl rfl (pj_getF hM (pc := 81) (t := 12) dX1_takeDuelPart_81 fl_X1_9 (by decide) rfl rfl (pj_bipush hM (pc := 84) dX1_takeDuelPart_84 (by decide) (pj_cV hM (pc := 86) (cR_takeSign 59 (pj_set (pj_set p8.2 19 (p8.2 13 0 1) 5 (pj_wr (p4 - 13))) 13 0 2 1) p11 h12) dX1_takeDuelPart_86 mf_X7_takeSign mv_X7_takeSign ml_X1_60 kc_12 rfl rfl (by decide) rfl rfl (pj_ret hM (pc := 89) dX1_takeDuelPart_89 ⟨_, rfl, h13⟩ (h0 ((p11.1, p11.2)) hr) rfl))))))))))))))))))))
    refine pj_map (fun k => pj_ic_le_f hM (pc := 43) 55 dX1_takeDuelPart_43 rfl h7 (pj_kill hM [true, false] (lls' := [(13, 0), (9, 0)]) rfl k)) ?_
    exact tBT_takeDuelPart_46 hM p2.2 _ h0
  refine pj_tbind (fun p14 h15 => ?_)
  refine pj_tgd (fun h16 => ?_)
  exact pj_tret (fun hr => pj_if_eq_f hM (pc := 4) 16 dX1_takeDuelPart_4 rfl h1 (pj_aload_n hM (pc := 7) dX1_takeDuelPart_7 rfl rfl (pj_getF hM (pc := 8) (t := 12) dX1_takeDuelPart_8 fl_X1_9 (by decide) rfl rfl (pj_iconst hM (pc := 11) dX1_takeDuelPart_11 (by decide) (pj_cV hM (pc := 12) (cR_fail 5 w p14 h15) dX1_takeDuelPart_12 mf_X7_fail mv_X7_fail ml_X1_76 kc_12 rfl rfl (by decide) rfl rfl (pj_ret hM (pc := 15) dX1_takeDuelPart_15 ⟨_, rfl, h16⟩ (h0 ((p14.1, p14.2)) hr) rfl))))))
theorem cBT_takeDuelPart   (w : pj_W) (r : Int × pj_W) (h : fBT_takeDuelPart  w = some r) : pj_Cn l yX1_takeDuelPart cX1_takeDuelPart 2 (some .boolean) 2 42 true g [(13, 0)] w ((some (0, r.1) : Option pj_V), r.2) :=
  pj_Cn_of rfl (Nat.le_of_ble_eq_true rfl) (lls := [(13, 0), (9, 0)]) rfl (fun Go hM => tBT_takeDuelPart hM w (fun x => ((some (0, x.1) : Option pj_V), x.2) = ((some (0, r.1) : Option pj_V), r.2)) (fun r h => h) r h rfl)
noncomputable def fB_addFind (i0 : Int) (x1 : Int) (x3 : Int) (x4 : Int) (w : pj_W) : Option (pj_W) :=
  if (w 19 i0 8) < 8 then (if 0 ≤ (w 19 i0 8) ∧ (w 19 i0 8) < 8 then ((some (pj_set (pj_set (pj_set w 23 (8 * i0 + (w 19 i0 8)) 2 x1) 23 (8 * i0 + (w 19 i0 8)) 3 x3) 23 (8 * i0 + (w 19 i0 8)) 4 x4)).bind fun w3 => (some ((pj_set (pj_set (pj_set w3 23 (8 * i0 + (w 19 i0 8)) 5 1) 23 (8 * i0 + (w 19 i0 8)) 6 0) 19 i0 8 (pj_wr (((pj_set (pj_set w3 23 (8 * i0 + (w 19 i0 8)) 5 1) 23 (8 * i0 + (w 19 i0 8)) 6 0) 19 i0 8) + 1)))))) else none) else (some (w))
theorem tB_addFind {Go : pj_C → Prop} (hM : pj_M l yX0_addFind cX0_addFind 6 none 0 0 true g n0 o Go) (i0 : Int) (x1 : Int) (x3 : Int) (x4 : Int) (w : pj_W) (hn0 : 0 ≤ i0) (R : pj_W → Prop) (h0 : ∀ r, R (r) → ((none : Option pj_V), r) = o) : pj_TG R (fB_addFind i0 x1 x3 x4 w) (Go (0, [(19, i0), (1, x1), (9, 0), (0, x3), (0, x4), (9, 0)], [], w)) := by
  unfold fB_addFind
  refine pj_map (fun k => pj_aload_n hM (pc := 0) dX0_addFind_0 rfl rfl (pj_gf hM (pc := 1) (t := 0) dX0_addFind_1 fl_X0_47 hn0 rfl 8 rfl (pj_bipush hM (pc := 4) dX0_addFind_4 (by decide) k))) ?_
  refine pj_tif (fun h1 => ?_) (fun h1 => ?_)
  · refine pj_tgd (fun h2 => ?_)
    refine pj_map (fun k => pj_ic_lt_t hM (pc := 6) dX0_addFind_6 rfl h1 (pj_aload_n hM (pc := 10) dX0_addFind_10 rfl rfl (pj_getF hM (pc := 11) (t := 21) dX0_addFind_11 fl_X0_19 hn0 rfl rfl (pj_aload_n hM (pc := 14) dX0_addFind_14 rfl rfl (pj_gf hM (pc := 15) (t := 0) dX0_addFind_15 fl_X0_47 hn0 rfl 8 rfl (pj_aald hM (pc := 18) (fun s : Int => 8 * i0 + s) dX0_addFind_18 (by decide) rfl (fun _ => rfl) ⟨_, rfl⟩ (by decide) hn0 h2 (fun _ => rfl) (by show (0 : Int) ≤ (8 * i0 + (w 19 i0 8)); omega) (pj_astore hM (pc := 19) dX0_addFind_19 (by decide) (by decide) (lls' := [(19, i0), (1, x1), (9, 0), (0, x3), (0, x4), (23, (8 * i0 + (w 19 i0 8)))]) rfl (pj_aload hM (pc := 21) dX0_addFind_21 rfl rfl (pj_lload_n hM (pc := 23) dX0_addFind_23 rfl (pj_pf hM (pc := 24) dX0_addFind_24 fl_X0_79 (by show (0 : Int) ≤ (8 * i0 + (w 19 i0 8)); omega) rfl (fun h => absurd h (by decide)) (by decide) (fun _ => rfl) 2 rfl (pj_aload hM (pc := 27) dX0_addFind_27 rfl rfl (pj_iload_n hM (pc := 29) dX0_addFind_29 rfl (pj_pf hM (pc := 30) dX0_addFind_30 fl_X0_80 (by show (0 : Int) ≤ (8 * i0 + (w 19 i0 8)); omega) rfl (fun h => absurd h (by decide)) (by decide) (fun _ => rfl) 3 rfl (pj_aload hM (pc := 33) dX0_addFind_33 rfl rfl (pj_iload hM (pc := 35) dX0_addFind_35 rfl (pj_pf hM (pc := 37) dX0_addFind_37 fl_X0_81 (by show (0 : Int) ≤ (8 * i0 + (w 19 i0 8)); omega) rfl (fun h => absurd h (by decide)) (by decide) (fun _ => rfl) 4 rfl k)))))))))))))))) ?_
    refine pj_tlet (fun w3 => Go (40, [(19, i0), (1, x1), (9, 0), (0, x3), (0, x4), (23, (8 * i0 + (w 19 i0 8)))], [], w3)) (fun w3 => ?_)
    exact pj_tret (fun hr => pj_aload hM (pc := 40) dX0_addFind_40 rfl rfl (pj_iconst hM (pc := 42) dX0_addFind_42 (by decide) (pj_pf hM (pc := 43) dX0_addFind_43 fl_X0_84 (by show (0 : Int) ≤ (8 * i0 + (w 19 i0 8)); omega) rfl (fun _ => Or.inr rfl) (by decide) (fun _ => rfl) 5 rfl (pj_aload hM (pc := 46) dX0_addFind_46 rfl rfl (pj_iconst hM (pc := 48) dX0_addFind_48 (by decide) (pj_pf hM (pc := 49) dX0_addFind_49 fl_X0_88 (by show (0 : Int) ≤ (8 * i0 + (w 19 i0 8)); omega) rfl (fun h => absurd h (by decide)) (by decide) (fun _ => rfl) 6 rfl (pj_aload_n hM (pc := 52) dX0_addFind_52 rfl rfl (pj_dup hM (pc := 53) dX0_addFind_53 (by decide) (pj_gf hM (pc := 54) (t := 0) dX0_addFind_54 fl_X0_47 hn0 rfl 8 rfl (pj_iconst hM (pc := 57) dX0_addFind_57 (by decide) (pj_iadd hM (pc := 58) dX0_addFind_58 (pj_pf hM (pc := 59) dX0_addFind_59 fl_X0_47 hn0 rfl (fun h => absurd h (by decide)) (by decide) (fun _ => rfl) 8 rfl (pj_ret hM (pc := 62) dX0_addFind_62 rfl (h0 ((pj_set (pj_set (pj_set w3 23 (8 * i0 + (w 19 i0 8)) 5 1) 23 (8 * i0 + (w 19 i0 8)) 6 0) 19 i0 8 (pj_wr (((pj_set (pj_set w3 23 (8 * i0 + (w 19 i0 8)) 5 1) 23 (8 * i0 + (w 19 i0 8)) 6 0) 19 i0 8) + 1)))) hr) rfl)))))))))))))
  exact pj_tret (fun hr => pj_ic_lt_f hM (pc := 6) 10 dX0_addFind_6 rfl h1 (pj_ret hM (pc := 9) dX0_addFind_9 rfl (h0 (w) hr) rfl))
theorem cB_addFind (i0 : Int) (x1 : Int) (x3 : Int) (x4 : Int) (hn0 : 0 ≤ i0) (w : pj_W) (r : pj_W) (h : fB_addFind i0 x1 x3 x4 w = some r) : pj_Cn l yX0_addFind cX0_addFind 6 none 0 0 true g [(19, i0), (1, x1), (0, x3), (0, x4)] w ((none : Option pj_V), r) :=
  pj_Cn_of rfl (Nat.le_of_ble_eq_true rfl) (lls := [(19, i0), (1, x1), (9, 0), (0, x3), (0, x4), (9, 0)]) rfl (fun Go hM => tB_addFind hM i0 x1 x3 x4 w hn0 (fun x => ((none : Option pj_V), x) = ((none : Option pj_V), r)) (fun r h => h) r h rfl)
noncomputable def fB_findNamed_2b (i0 : Int) (x1 : Int) (w : pj_W) (x3 : Int) : Option ((Int) ⊕ (Int)) :=
  if (w 19 i0 8) ≤ x3 then (some (Sum.inr ((-1)))) else (if 0 ≤ x3 ∧ x3 < 8 then (if (pj_cmp (w 23 (8 * i0 + x3) 2) x1) = 0 then (some (Sum.inr (x3))) else (some (Sum.inl ((pj_wr (x3 + 1)))))) else none)
noncomputable def fB_findNamed_2 (i0 : Int) (x1 : Int) (w : pj_W) (s : (Int)) : Option (Int) := pj_Lp (fun s : (Int) => fB_findNamed_2b i0 x1 w s) s
noncomputable def fB_findNamed (i0 : Int) (x1 : Int) (w : pj_W) : Option (Int) :=
  fB_findNamed_2 i0 x1 w (0)
theorem tB_findNamed_2b {Go : pj_C → Prop} (hM : pj_M l yX0_findNamed cX0_findNamed 4 (some .int) 0 0 true g n0 o Go) (i0 : Int) (x1 : Int) (w : pj_W) (x3 : Int) (hn0 : 0 ≤ i0) (R : (Int) ⊕ (Int) → Prop) (h0 : ∀ r, R (Sum.inr (r)) → ((some (0, r) : Option pj_V), w) = o) (hk2 : ∀ s, R (Sum.inl s) → Go (2, [(19, i0), (1, x1), (9, 0), (0, s)], [], w)) : pj_TG R (fB_findNamed_2b i0 x1 w x3) (Go (2, [(19, i0), (1, x1), (9, 0), (0, x3)], [], w)) := by
  unfold fB_findNamed_2b
  refine pj_map (fun k => pj_iload_n hM (pc := 2) dX0_findNamed_2 rfl (pj_aload_n hM (pc := 3) dX0_findNamed_3 rfl rfl (pj_gf hM (pc := 4) (t := 0) dX0_findNamed_4 fl_X0_47 hn0 rfl 8 rfl k))) ?_
  refine pj_tif (fun h1 => ?_) (fun h1 => ?_)
  · exact pj_tret (fun hr => pj_ic_ge_t hM (pc := 7) dX0_findNamed_7 rfl h1 (pj_iconst hM (pc := 32) dX0_findNamed_32 (by decide) (pj_ret hM (pc := 33) dX0_findNamed_33 ⟨_, rfl⟩ (h0 ((-1)) hr) rfl)))
  refine pj_tgd (fun h2 => ?_)
  refine pj_map (fun k => pj_ic_ge_f hM (pc := 7) 32 dX0_findNamed_7 rfl h1 (pj_aload_n hM (pc := 10) dX0_findNamed_10 rfl rfl (pj_getF hM (pc := 11) (t := 21) dX0_findNamed_11 fl_X0_19 hn0 rfl rfl (pj_iload_n hM (pc := 14) dX0_findNamed_14 rfl (pj_aald hM (pc := 15) (fun s : Int => 8 * i0 + s) dX0_findNamed_15 (by decide) rfl (fun _ => rfl) ⟨_, rfl⟩ (by decide) hn0 h2 (fun _ => rfl) (by show (0 : Int) ≤ (8 * i0 + x3); omega) (pj_gf hM (pc := 16) (t := 1) dX0_findNamed_16 fl_X0_79 (by show (0 : Int) ≤ (8 * i0 + x3); omega) rfl 2 rfl (pj_lload_n hM (pc := 19) dX0_findNamed_19 rfl (pj_lcmp hM (pc := 20) dX0_findNamed_20 k)))))))) ?_
  refine pj_tif (fun h3 => ?_) (fun h3 => ?_)
  · exact pj_tret (fun hr => pj_if_ne_f hM (pc := 21) 26 dX0_findNamed_21 rfl (fun q => q h3) (pj_iload_n hM (pc := 24) dX0_findNamed_24 rfl (pj_ret hM (pc := 25) dX0_findNamed_25 ⟨_, rfl⟩ (h0 (x3) hr) rfl)))
  exact pj_tret (fun hr => pj_if_ne_t hM (pc := 21) dX0_findNamed_21 rfl h3 (pj_iinc hM (pc := 26) dX0_findNamed_26 rfl (by decide) (lls' := [(19, i0), (1, x1), (9, 0), (0, (pj_wr (x3 + 1)))]) rfl (pj_goto hM (pc := 29) dX0_findNamed_29 rfl (pj_kill hM [true, true, false, true] (lls' := [(19, i0), (1, x1), (9, 0), (0, (pj_wr (x3 + 1)))]) rfl ((hk2 _ hr))))))
theorem tB_findNamed_2 {Go : pj_C → Prop} (hM : pj_M l yX0_findNamed cX0_findNamed 4 (some .int) 0 0 true g n0 o Go) (i0 : Int) (x1 : Int) (w : pj_W) (hn0 : 0 ≤ i0) (R : Int → Prop) (h0 : ∀ r, R (r) → ((some (0, r) : Option pj_V), w) = o) (s : (Int)) : pj_TG R (fB_findNamed_2 i0 x1 w s) (Go (2, [(19, i0), (1, x1), (9, 0), (0, s)], [], w)) := by
  unfold fB_findNamed_2
  exact pj_tLp (G := fun s : (Int) => Go (2, [(19, i0), (1, x1), (9, 0), (0, s)], [], w)) (fun s => tB_findNamed_2b hM i0 x1 w s hn0 _ (fun r h => h0 r h)  (fun s h => h)) s
theorem tB_findNamed {Go : pj_C → Prop} (hM : pj_M l yX0_findNamed cX0_findNamed 4 (some .int) 0 0 true g n0 o Go) (i0 : Int) (x1 : Int) (w : pj_W) (hn0 : 0 ≤ i0) (R : Int → Prop) (h0 : ∀ r, R (r) → ((some (0, r) : Option pj_V), w) = o) : pj_TG R (fB_findNamed i0 x1 w) (Go (0, [(19, i0), (1, x1), (9, 0), (9, 0)], [], w)) := by
  unfold fB_findNamed
  refine pj_map (fun k => pj_iconst hM (pc := 0) dX0_findNamed_0 (by decide) (pj_istore_n hM (pc := 1) dX0_findNamed_1 (by decide) (lls' := [(19, i0), (1, x1), (9, 0), (0, 0)]) rfl (pj_kill hM [true, true, false, true] (lls' := [(19, i0), (1, x1), (9, 0), (0, 0)]) rfl k))) ?_
  exact tB_findNamed_2 hM i0 x1 w hn0 _ h0 _
theorem cB_findNamed (i0 : Int) (x1 : Int) (hn0 : 0 ≤ i0) (w : pj_W) (r : Int) (h : fB_findNamed i0 x1 w = some r) : pj_Cn l yX0_findNamed cX0_findNamed 4 (some .int) 0 0 true g [(19, i0), (1, x1)] w ((some (0, r) : Option pj_V), w) :=
  pj_Cn_of rfl (Nat.le_of_ble_eq_true rfl) (lls := [(19, i0), (1, x1), (9, 0), (9, 0)]) rfl (fun Go hM => tB_findNamed hM i0 x1 w hn0 (fun x => ((some (0, x) : Option pj_V), w) = ((some (0, r) : Option pj_V), w)) (fun r h => h) r h rfl)
noncomputable def fB_finderNamed_2b (i0 : Int) (x1 : Int) (w : pj_W) (x3 : Int) : Option ((Int) ⊕ (Int)) :=
  if (w 19 i0 7) ≤ x3 then (some (Sum.inr ((-1)))) else (if 0 ≤ x3 ∧ x3 < 6 then (if (pj_cmp (w 22 (6 * i0 + x3) 0) x1) = 0 then (some (Sum.inr (x3))) else (some (Sum.inl ((pj_wr (x3 + 1)))))) else none)
noncomputable def fB_finderNamed_2 (i0 : Int) (x1 : Int) (w : pj_W) (s : (Int)) : Option (Int) := pj_Lp (fun s : (Int) => fB_finderNamed_2b i0 x1 w s) s
noncomputable def fB_finderNamed (i0 : Int) (x1 : Int) (w : pj_W) : Option (Int) :=
  fB_finderNamed_2 i0 x1 w (0)
theorem tB_finderNamed_2b {Go : pj_C → Prop} (hM : pj_M l yX0_finderNamed cX0_finderNamed 4 (some .int) 0 0 true g n0 o Go) (i0 : Int) (x1 : Int) (w : pj_W) (x3 : Int) (hn0 : 0 ≤ i0) (R : (Int) ⊕ (Int) → Prop) (h0 : ∀ r, R (Sum.inr (r)) → ((some (0, r) : Option pj_V), w) = o) (hk2 : ∀ s, R (Sum.inl s) → Go (2, [(19, i0), (1, x1), (9, 0), (0, s)], [], w)) : pj_TG R (fB_finderNamed_2b i0 x1 w x3) (Go (2, [(19, i0), (1, x1), (9, 0), (0, x3)], [], w)) := by
  unfold fB_finderNamed_2b
  refine pj_map (fun k => pj_iload_n hM (pc := 2) dX0_finderNamed_2 rfl (pj_aload_n hM (pc := 3) dX0_finderNamed_3 rfl rfl (pj_gf hM (pc := 4) (t := 0) dX0_finderNamed_4 fl_X0_44 hn0 rfl 7 rfl k))) ?_
  refine pj_tif (fun h1 => ?_) (fun h1 => ?_)
  · exact pj_tret (fun hr => pj_ic_ge_t hM (pc := 7) dX0_finderNamed_7 rfl h1 (pj_iconst hM (pc := 32) dX0_finderNamed_32 (by decide) (pj_ret hM (pc := 33) dX0_finderNamed_33 ⟨_, rfl⟩ (h0 ((-1)) hr) rfl)))
  refine pj_tgd (fun h2 => ?_)
  refine pj_map (fun k => pj_ic_ge_f hM (pc := 7) 32 dX0_finderNamed_7 rfl h1 (pj_aload_n hM (pc := 10) dX0_finderNamed_10 rfl rfl (pj_getF hM (pc := 11) (t := 20) dX0_finderNamed_11 fl_X0_13 hn0 rfl rfl (pj_iload_n hM (pc := 14) dX0_finderNamed_14 rfl (pj_aald hM (pc := 15) (fun s : Int => 6 * i0 + s) dX0_finderNamed_15 (by decide) rfl (fun _ => rfl) ⟨_, rfl⟩ (by decide) hn0 h2 (fun _ => rfl) (by show (0 : Int) ≤ (6 * i0 + x3); omega) (pj_gf hM (pc := 16) (t := 1) dX0_finderNamed_16 fl_X0_60 (by show (0 : Int) ≤ (6 * i0 + x3); omega) rfl 0 rfl (pj_lload_n hM (pc := 19) dX0_finderNamed_19 rfl (pj_lcmp hM (pc := 20) dX0_finderNamed_20 k)))))))) ?_
  refine pj_tif (fun h3 => ?_) (fun h3 => ?_)
  · exact pj_tret (fun hr => pj_if_ne_f hM (pc := 21) 26 dX0_finderNamed_21 rfl (fun q => q h3) (pj_iload_n hM (pc := 24) dX0_finderNamed_24 rfl (pj_ret hM (pc := 25) dX0_finderNamed_25 ⟨_, rfl⟩ (h0 (x3) hr) rfl)))
  exact pj_tret (fun hr => pj_if_ne_t hM (pc := 21) dX0_finderNamed_21 rfl h3 (pj_iinc hM (pc := 26) dX0_finderNamed_26 rfl (by decide) (lls' := [(19, i0), (1, x1), (9, 0), (0, (pj_wr (x3 + 1)))]) rfl (pj_goto hM (pc := 29) dX0_finderNamed_29 rfl (pj_kill hM [true, true, false, true] (lls' := [(19, i0), (1, x1), (9, 0), (0, (pj_wr (x3 + 1)))]) rfl ((hk2 _ hr))))))
theorem tB_finderNamed_2 {Go : pj_C → Prop} (hM : pj_M l yX0_finderNamed cX0_finderNamed 4 (some .int) 0 0 true g n0 o Go) (i0 : Int) (x1 : Int) (w : pj_W) (hn0 : 0 ≤ i0) (R : Int → Prop) (h0 : ∀ r, R (r) → ((some (0, r) : Option pj_V), w) = o) (s : (Int)) : pj_TG R (fB_finderNamed_2 i0 x1 w s) (Go (2, [(19, i0), (1, x1), (9, 0), (0, s)], [], w)) := by
  unfold fB_finderNamed_2
  exact pj_tLp (G := fun s : (Int) => Go (2, [(19, i0), (1, x1), (9, 0), (0, s)], [], w)) (fun s => tB_finderNamed_2b hM i0 x1 w s hn0 _ (fun r h => h0 r h)  (fun s h => h)) s
theorem tB_finderNamed {Go : pj_C → Prop} (hM : pj_M l yX0_finderNamed cX0_finderNamed 4 (some .int) 0 0 true g n0 o Go) (i0 : Int) (x1 : Int) (w : pj_W) (hn0 : 0 ≤ i0) (R : Int → Prop) (h0 : ∀ r, R (r) → ((some (0, r) : Option pj_V), w) = o) : pj_TG R (fB_finderNamed i0 x1 w) (Go (0, [(19, i0), (1, x1), (9, 0), (9, 0)], [], w)) := by
  unfold fB_finderNamed
  refine pj_map (fun k => pj_iconst hM (pc := 0) dX0_finderNamed_0 (by decide) (pj_istore_n hM (pc := 1) dX0_finderNamed_1 (by decide) (lls' := [(19, i0), (1, x1), (9, 0), (0, 0)]) rfl (pj_kill hM [true, true, false, true] (lls' := [(19, i0), (1, x1), (9, 0), (0, 0)]) rfl k))) ?_
  exact tB_finderNamed_2 hM i0 x1 w hn0 _ h0 _
theorem cB_finderNamed (i0 : Int) (x1 : Int) (hn0 : 0 ≤ i0) (w : pj_W) (r : Int) (h : fB_finderNamed i0 x1 w = some r) : pj_Cn l yX0_finderNamed cX0_finderNamed 4 (some .int) 0 0 true g [(19, i0), (1, x1)] w ((some (0, r) : Option pj_V), w) :=
  pj_Cn_of rfl (Nat.le_of_ble_eq_true rfl) (lls := [(19, i0), (1, x1), (9, 0), (9, 0)]) rfl (fun Go hM => tB_finderNamed hM i0 x1 w hn0 (fun x => ((some (0, x) : Option pj_V), w) = ((some (0, r) : Option pj_V), w)) (fun r h => h) r h rfl)
noncomputable def fR_takeNewName_51  (w : pj_W) : Option (Int × pj_W) :=
  (fR_fail 3 w).bind fun p1 => (some (((-1), p1.2)))
noncomputable def fR_takeNewName (x1 : Int) (w : pj_W) : Option (Int × pj_W) :=
  if 0 ≤ (w 12 0 11) ∧ (w 12 0 11) < 901 then (if (w 31 0 (w 12 0 11)) = 4 then (if 0 ≤ x1 then ((fB_finderNamed x1 (w 33 0 (w 12 0 11)) w).bind fun p4 => (if p4 = (-1) then ((fB_findNamed x1 (w 33 0 (w 12 0 11)) w).bind fun p7 => (if p7 = (-1) then ((fR_advance w).bind fun p10 => (some (((w 33 0 (w 12 0 11)), p10)))) else (fR_takeNewName_51 w))) else (fR_takeNewName_51 w))) else none) else ((fR_fail 2 w).bind fun p12 => (some (((-1), p12.2))))) else none
theorem tR_takeNewName_51 {Go : pj_C → Prop} (hM : pj_M l yX7_takeNewName cX7_takeNewName 4 (some .long) 1 23 true g n0 o Go)  (w : pj_W)  (R : Int × pj_W → Prop) (h0 : ∀ r, R (r) → ((some (1, r.1) : Option pj_V), r.2) = o) : pj_TG R (fR_takeNewName_51  w) (Go (51, [(12, 0), (9, 0), (9, 0), (9, 0)], [], w)) := by
  unfold fR_takeNewName_51
  refine pj_tbind (fun p1 h2 => ?_)
  exact pj_tret (fun hr => pj_aload_n hM (pc := 51) dX7_takeNewName_51 rfl rfl (pj_iconst hM (pc := 52) dX7_takeNewName_52 (by decide) (pj_cV hM (pc := 53) (cR_fail 3 w p1 h2) dX7_takeNewName_53 mf_X7_fail mv_X7_fail ml_X7_103 kc_12 rfl rfl (by decide) rfl rfl (pj_pop hM (pc := 56) dX7_takeNewName_56 (by decide) (pj_ldc2 hM (pc := 57) (z := (-1)) dX7_takeNewName_57 kn_X7_117 rfl (by decide) (pj_ret hM (pc := 60) dX7_takeNewName_60 ⟨_, rfl⟩ (h0 (((-1), p1.2)) hr) rfl))))))
theorem tR_takeNewName {Go : pj_C → Prop} (hM : pj_M l yX7_takeNewName cX7_takeNewName 4 (some .long) 1 23 true g n0 o Go) (x1 : Int) (w : pj_W)  (R : Int × pj_W → Prop) (h0 : ∀ r, R (r) → ((some (1, r.1) : Option pj_V), r.2) = o) : pj_TG R (fR_takeNewName x1 w) (Go (0, [(12, 0), (19, x1), (9, 0), (9, 0)], [], w)) := by
  unfold fR_takeNewName
  refine pj_tgd (fun h1 => ?_)
  refine pj_map (fun k => pj_aload_n hM (pc := 0) dX7_takeNewName_0 rfl rfl (pj_getF hM (pc := 1) (t := 31) dX7_takeNewName_1 fl_X7_15 (by decide) rfl rfl (pj_aload_n hM (pc := 4) dX7_takeNewName_4 rfl rfl (pj_gf hM (pc := 5) (t := 0) dX7_takeNewName_5 fl_X7_73 (by decide) rfl 11 rfl (pj_ial hM (pc := 8) dX7_takeNewName_8 ki_31 (by decide) h1 (pj_iconst hM (pc := 9) dX7_takeNewName_9 (by decide) k)))))) ?_
  refine pj_tif (fun h2 => ?_) (fun h2 => ?_)
  · refine pj_tgd (fun h3 => ?_)
    refine pj_tbind (fun p4 h5 => ?_)
    refine pj_map (fun k => pj_ic_eq_t hM (pc := 10) dX7_takeNewName_10 rfl h2 (pj_aload_n hM (pc := 23) dX7_takeNewName_23 rfl rfl (pj_getF hM (pc := 24) (t := 33) dX7_takeNewName_24 fl_X7_22 (by decide) rfl rfl (pj_aload_n hM (pc := 27) dX7_takeNewName_27 rfl rfl (pj_gf hM (pc := 28) (t := 0) dX7_takeNewName_28 fl_X7_73 (by decide) rfl 11 rfl (pj_lal hM (pc := 31) dX7_takeNewName_31 kl_33 (by decide) h1 (pj_lstore_n hM (pc := 32) dX7_takeNewName_32 (by decide) (lls' := [(12, 0), (19, x1), (1, (w 33 0 (w 12 0 11))), (9, 0)]) rfl (pj_aload_n hM (pc := 33) dX7_takeNewName_33 rfl rfl (pj_lload_n hM (pc := 34) dX7_takeNewName_34 rfl (pj_cV hM (pc := 35) (cB_finderNamed x1 (w 33 0 (w 12 0 11)) h3 w p4 h5) dX7_takeNewName_35 mf_X0_finderNamed mv_X0_finderNamed ml_X7_119 kc_19 rfl rfl h3 rfl rfl (pj_iconst hM (pc := 38) dX7_takeNewName_38 (by decide) k))))))))))) ?_
    refine pj_tif (fun h6 => ?_) (fun h6 => ?_)
    · refine pj_tbind (fun p7 h8 => ?_)
      refine pj_map (fun k => pj_ic_ne_f hM (pc := 39) 51 dX7_takeNewName_39 rfl (fun q => q h6) (pj_aload_n hM (pc := 42) dX7_takeNewName_42 rfl rfl (pj_lload_n hM (pc := 43) dX7_takeNewName_43 rfl (pj_cV hM (pc := 44) (cB_findNamed x1 (w 33 0 (w 12 0 11)) h3 w p7 h8) dX7_takeNewName_44 mf_X0_findNamed mv_X0_findNamed ml_X7_124 kc_19 rfl rfl h3 rfl rfl (pj_iconst hM (pc := 47) dX7_takeNewName_47 (by decide) k))))) ?_
      refine pj_tif (fun h9 => ?_) (fun h9 => ?_)
      · refine pj_tbind (fun p10 h11 => ?_)
        exact pj_tret (fun hr => pj_ic_eq_t hM (pc := 48) dX7_takeNewName_48 rfl h9 (pj_aload_n hM (pc := 61) dX7_takeNewName_61 rfl rfl (pj_cVv hM (pc := 62) (cR_advance w p10 h11) dX7_takeNewName_62 mf_X7_advance mv_X7_advance ml_X7_106 kc_12 rfl rfl (by decide) rfl rfl (pj_lload_n hM (pc := 65) dX7_takeNewName_65 rfl (pj_ret hM (pc := 66) dX7_takeNewName_66 ⟨_, rfl⟩ (h0 (((w 33 0 (w 12 0 11)), p10)) hr) rfl)))))
      refine pj_map (fun k => pj_ic_eq_f hM (pc := 48) 61 dX7_takeNewName_48 rfl h9 (pj_kill hM [true, false, false, false] (lls' := [(12, 0), (9, 0), (9, 0), (9, 0)]) rfl k)) ?_
      exact tR_takeNewName_51 hM w _ h0
    refine pj_map (fun k => pj_ic_ne_t hM (pc := 39) dX7_takeNewName_39 rfl h6 (pj_kill hM [true, false, false, false] (lls' := [(12, 0), (9, 0), (9, 0), (9, 0)]) rfl k)) ?_
    exact tR_takeNewName_51 hM w _ h0
  refine pj_tbind (fun p12 h13 => ?_)
  exact pj_tret (fun hr => pj_ic_eq_f hM (pc := 10) 23 dX7_takeNewName_10 rfl h2 (pj_aload_n hM (pc := 13) dX7_takeNewName_13 rfl rfl (pj_iconst hM (pc := 14) dX7_takeNewName_14 (by decide) (pj_cV hM (pc := 15) (cR_fail 2 w p12 h13) dX7_takeNewName_15 mf_X7_fail mv_X7_fail ml_X7_103 kc_12 rfl rfl (by decide) rfl rfl (pj_pop hM (pc := 18) dX7_takeNewName_18 (by decide) (pj_ldc2 hM (pc := 19) (z := (-1)) dX7_takeNewName_19 kn_X7_117 rfl (by decide) (pj_ret hM (pc := 22) dX7_takeNewName_22 ⟨_, rfl⟩ (h0 (((-1), p12.2)) hr) rfl)))))))
theorem cR_takeNewName (x1 : Int)  (w : pj_W) (r : Int × pj_W) (h : fR_takeNewName x1 w = some r) : pj_Cn l yX7_takeNewName cX7_takeNewName 4 (some .long) 1 23 true g [(12, 0), (19, x1)] w ((some (1, r.1) : Option pj_V), r.2) :=
  pj_Cn_of rfl (Nat.le_of_ble_eq_true rfl) (lls := [(12, 0), (19, x1), (9, 0), (9, 0)]) rfl (fun Go hM => tR_takeNewName hM x1 w (fun x => ((some (1, x.1) : Option pj_V), x.2) = ((some (1, r.1) : Option pj_V), r.2)) (fun r h => h) r h rfl)
noncomputable def fBT_takeFindPart  (w : pj_W) : Option (Int × pj_W) :=
  if 0 ≤ (w 13 0 1) then (if (w 19 (w 13 0 1) 8) < 8 then ((fR_takeWord 7 w).bind fun p3 => ((fR_takeNewName (p3.2 13 0 1) p3.2).bind fun p5 => (if (pj_cmp p5.1 (-1)) = 0 then (some ((0, p5.2))) else (if 0 ≤ (p5.2 13 0 1) then ((fR_takeNumberBehind 4 0 (pj_wr ((p5.2 19 (p5.2 13 0 1) 2) - 1)) p5.2).bind fun p9 => (if p9.1 = (-1) then (some ((0, p9.2))) else ((fR_takeNumberBehind 8 0 999 p9.2).bind fun p12 => (if p12.1 = (-1) then (some ((0, p12.2))) else (if 0 ≤ (p12.2 13 0 1) then ((fB_addFind (p12.2 13 0 1) p5.1 p9.1 p12.1 p12.2).bind fun p16 => ((fR_takeSign 59 p16).bind fun p18 => (if p18.1 = 0 ∨ p18.1 = 1 then (some ((p18.1, p18.2))) else none))) else none))))) else none)))) else ((fR_fail 6 w).bind fun p21 => (if p21.1 = 0 ∨ p21.1 = 1 then (some ((p21.1, p21.2))) else none))) else none
theorem tBT_takeFindPart {Go : pj_C → Prop} (hM : pj_M l yX1_takeFindPart cX1_takeFindPart 5 (some .boolean) 3 67 true g n0 o Go)  (w : pj_W)  (R : Int × pj_W → Prop) (h0 : ∀ r, R (r) → ((some (0, r.1) : Option pj_V), r.2) = o) : pj_TG R (fBT_takeFindPart  w) (Go (0, [(13, 0), (9, 0), (9, 0), (9, 0), (9, 0)], [], w)) := by
  unfold fBT_takeFindPart
  refine pj_tgd (fun h1 => ?_)
  refine pj_map (fun k => pj_aload_n hM (pc := 0) dX1_takeFindPart_0 rfl rfl (pj_gf hM (pc := 1) (t := 19) dX1_takeFindPart_1 fl_X1_15 (by decide) rfl 1 rfl (pj_gf hM (pc := 4) (t := 0) dX1_takeFindPart_4 fl_X1_96 h1 rfl 8 rfl (pj_bipush hM (pc := 7) dX1_takeFindPart_7 (by decide) k)))) ?_
  refine pj_tif (fun h2 => ?_) (fun h2 => ?_)
  · refine pj_tbind (fun p3 h4 => ?_)
    refine pj_tbind (fun p5 h6 => ?_)
    refine pj_map (fun k => pj_ic_lt_t hM (pc := 9) dX1_takeFindPart_9 rfl h2 (pj_aload_n hM (pc := 22) dX1_takeFindPart_22 rfl rfl (pj_getF hM (pc := 23) (t := 12) dX1_takeFindPart_23 fl_X1_9 (by decide) rfl rfl (pj_bipush hM (pc := 26) dX1_takeFindPart_26 (by decide) (pj_cV hM (pc := 28) (cR_takeWord 7 w p3 h4) dX1_takeFindPart_28 mf_X7_takeWord mv_X7_takeWord ml_X1_83 kc_12 rfl rfl (by decide) rfl rfl (pj_pop hM (pc := 31) dX1_takeFindPart_31 (by decide) (pj_aload_n hM (pc := 32) dX1_takeFindPart_32 rfl rfl (pj_getF hM (pc := 33) (t := 12) dX1_takeFindPart_33 fl_X1_9 (by decide) rfl rfl (pj_aload_n hM (pc := 36) dX1_takeFindPart_36 rfl rfl (pj_gf hM (pc := 37) (t := 19) dX1_takeFindPart_37 fl_X1_15 (by decide) rfl 1 rfl (pj_cV hM (pc := 40) (cR_takeNewName (p3.2 13 0 1) p3.2 p5 h6) dX1_takeFindPart_40 mf_X7_takeNewName mv_X7_takeNewName ml_X1_86 kc_12 rfl rfl (by decide) rfl rfl (pj_lstore_n hM (pc := 43) dX1_takeFindPart_43 (by decide) (lls' := [(13, 0), (1, p5.1), (9, 0), (9, 0), (9, 0)]) rfl (pj_lload_n hM (pc := 44) dX1_takeFindPart_44 rfl (pj_ldc2 hM (pc := 45) (z := (-1)) dX1_takeFindPart_45 kn_X1_90 rfl (by decide) (pj_lcmp hM (pc := 48) dX1_takeFindPart_48 k))))))))))))))) ?_
    refine pj_tif (fun h7 => ?_) (fun h7 => ?_)
    · exact pj_tret (fun hr => pj_if_ne_f hM (pc := 49) 54 dX1_takeFindPart_49 rfl (fun q => q h7) (pj_iconst hM (pc := 52) dX1_takeFindPart_52 (by decide) (pj_ret hM (pc := 53) dX1_takeFindPart_53 ⟨_, rfl, Or.inl rfl⟩ (h0 ((0, p5.2)) hr) rfl)))
    refine pj_tgd (fun h8 => ?_)
    refine pj_tbind (fun p9 h10 => ?_)
    refine pj_map (fun k => pj_if_ne_t hM (pc := 49) dX1_takeFindPart_49 rfl h7 (pj_aload_n hM (pc := 54) dX1_takeFindPart_54 rfl rfl (pj_getF hM (pc := 55) (t := 12) dX1_takeFindPart_55 fl_X1_9 (by decide) rfl rfl (pj_iconst hM (pc := 58) dX1_takeFindPart_58 (by decide) (pj_iconst hM (pc := 59) dX1_takeFindPart_59 (by decide) (pj_aload_n hM (pc := 60) dX1_takeFindPart_60 rfl rfl (pj_gf hM (pc := 61) (t := 19) dX1_takeFindPart_61 fl_X1_15 (by decide) rfl 1 rfl (pj_gf hM (pc := 64) (t := 0) dX1_takeFindPart_64 fl_X1_46 h8 rfl 2 rfl (pj_iconst hM (pc := 67) dX1_takeFindPart_67 (by decide) (pj_isub hM (pc := 68) dX1_takeFindPart_68 (pj_cV hM (pc := 69) (cR_takeNumberBehind 4 0 (pj_wr ((p5.2 19 (p5.2 13 0 1) 2) - 1)) p5.2 p9 h10) dX1_takeFindPart_69 mf_X7_takeNumberBehind mv_X7_takeNumberBehind ml_X1_42 kc_12 rfl rfl (by decide) rfl rfl (pj_istore_n hM (pc := 72) dX1_takeFindPart_72 (by decide) (lls' := [(13, 0), (1, p5.1), (9, 0), (0, p9.1), (9, 0)]) rfl (pj_iload_n hM (pc := 73) dX1_takeFindPart_73 rfl (pj_iconst hM (pc := 74) dX1_takeFindPart_74 (by decide) k)))))))))))))) ?_
    refine pj_tif (fun h11 => ?_) (fun h11 => ?_)
    · exact pj_tret (fun hr => pj_ic_ne_f hM (pc := 75) 80 dX1_takeFindPart_75 rfl (fun q => q h11) (pj_iconst hM (pc := 78) dX1_takeFindPart_78 (by decide) (pj_ret hM (pc := 79) dX1_takeFindPart_79 ⟨_, rfl, Or.inl rfl⟩ (h0 ((0, p9.2)) hr) rfl)))
    refine pj_tbind (fun p12 h13 => ?_)
    refine pj_map (fun k => pj_ic_ne_t hM (pc := 75) dX1_takeFindPart_75 rfl h11 (pj_aload_n hM (pc := 80) dX1_takeFindPart_80 rfl rfl (pj_getF hM (pc := 81) (t := 12) dX1_takeFindPart_81 fl_X1_9 (by decide) rfl rfl (pj_bipush hM (pc := 84) dX1_takeFindPart_84 (by decide) (pj_iconst hM (pc := 86) dX1_takeFindPart_86 (by decide) (pj_sipush hM (pc := 87) dX1_takeFindPart_87 (by decide) (pj_cV hM (pc := 90) (cR_takeNumberBehind 8 0 999 p9.2 p12 h13) dX1_takeFindPart_90 mf_X7_takeNumberBehind mv_X7_takeNumberBehind ml_X1_42 kc_12 rfl rfl (by decide) rfl rfl (pj_istore hM (pc := 93) dX1_takeFindPart_93 (by decide) (lls' := [(13, 0), (1, p5.1), (9, 0), (0, p9.1), (0, p12.1)]) rfl (pj_iload hM (pc := 95) dX1_takeFindPart_95 rfl (pj_iconst hM (pc := 97) dX1_takeFindPart_97 (by decide) k)))))))))) ?_
    refine pj_tif (fun h14 => ?_) (fun h14 => ?_)
    · exact pj_tret (fun hr => pj_ic_ne_f hM (pc := 98) 103 dX1_takeFindPart_98 rfl (fun q => q h14) (pj_iconst hM (pc := 101) dX1_takeFindPart_101 (by decide) (pj_ret hM (pc := 102) dX1_takeFindPart_102 ⟨_, rfl, Or.inl rfl⟩ (h0 ((0, p12.2)) hr) rfl)))
    refine pj_tgd (fun h15 => ?_)
    refine pj_tbind (fun p16 h17 => ?_)
    refine pj_tbind (fun p18 h19 => ?_)
    refine pj_tgd (fun h20 => ?_)
    exact pj_tret (fun hr => pj_ic_ne_t hM (pc := 98) dX1_takeFindPart_98 rfl h14 (pj_aload_n hM (pc := 103) dX1_takeFindPart_103 rfl rfl (pj_gf hM (pc := 104) (t := 19) dX1_takeFindPart_104 fl_X1_15 (by decide) rfl 1 rfl (pj_lload_n hM (pc := 107) dX1_takeFindPart_107 rfl (pj_iload_n hM (pc := 108) dX1_takeFindPart_108 rfl (pj_iload hM (pc := 109) dX1_takeFindPart_109 rfl (pj_cVv hM (pc := 111) (cB_addFind (p12.2 13 0 1) p5.1 p9.1 p12.1 h15 p12.2 p16 h17) dX1_takeFindPart_111 mf_X0_addFind mv_X0_addFind ml_X1_99 kc_19 rfl rfl h15 rfl rfl (pj_aload_n hM (pc := 114) dX1_takeFindPart_114 rfl rfl (pj_getF hM (pc := 115) (t := 12) dX1_takeFindPart_115 fl_X1_9 (by decide) rfl rfl (pj_bipush hM (pc := 118) dX1_takeFindPart_118 (by decide) (pj_cV hM (pc := 120) (cR_takeSign 59 p16 p18 h19) dX1_takeFindPart_120 mf_X7_takeSign mv_X7_takeSign ml_X1_60 kc_12 rfl rfl (by decide) rfl rfl (pj_ret hM (pc := 123) dX1_takeFindPart_123 ⟨_, rfl, h20⟩ (h0 ((p18.1, p18.2)) hr) rfl))))))))))))
  refine pj_tbind (fun p21 h22 => ?_)
  refine pj_tgd (fun h23 => ?_)
  exact pj_tret (fun hr => pj_ic_lt_f hM (pc := 9) 22 dX1_takeFindPart_9 rfl h2 (pj_aload_n hM (pc := 12) dX1_takeFindPart_12 rfl rfl (pj_getF hM (pc := 13) (t := 12) dX1_takeFindPart_13 fl_X1_9 (by decide) rfl rfl (pj_bipush hM (pc := 16) dX1_takeFindPart_16 (by decide) (pj_cV hM (pc := 18) (cR_fail 6 w p21 h22) dX1_takeFindPart_18 mf_X7_fail mv_X7_fail ml_X1_76 kc_12 rfl rfl (by decide) rfl rfl (pj_ret hM (pc := 21) dX1_takeFindPart_21 ⟨_, rfl, h23⟩ (h0 ((p21.1, p21.2)) hr) rfl))))))
theorem cBT_takeFindPart   (w : pj_W) (r : Int × pj_W) (h : fBT_takeFindPart  w = some r) : pj_Cn l yX1_takeFindPart cX1_takeFindPart 5 (some .boolean) 3 67 true g [(13, 0)] w ((some (0, r.1) : Option pj_V), r.2) :=
  pj_Cn_of rfl (Nat.le_of_ble_eq_true rfl) (lls := [(13, 0), (9, 0), (9, 0), (9, 0), (9, 0)]) rfl (fun Go hM => tBT_takeFindPart hM w (fun x => ((some (0, x.1) : Option pj_V), x.2) = ((some (0, r.1) : Option pj_V), r.2)) (fun r h => h) r h rfl)
noncomputable def fB_addFinder (i0 : Int) (x1 : Int) (x3 : Int) (x4 : Int) (x5 : Int) (w : pj_W) : Option (pj_W) :=
  if (w 19 i0 7) < 6 then (if 0 ≤ (w 19 i0 7) ∧ (w 19 i0 7) < 6 then ((some (pj_set (pj_set (pj_set w 22 (6 * i0 + (w 19 i0 7)) 0 x1) 22 (6 * i0 + (w 19 i0 7)) 1 x3) 22 (6 * i0 + (w 19 i0 7)) 2 x4)).bind fun w3 => ((some (pj_set (pj_set (pj_set w3 22 (6 * i0 + (w 19 i0 7)) 3 x5) 22 (6 * i0 + (w 19 i0 7)) 4 0) 22 (6 * i0 + (w 19 i0 7)) 5 0)).bind fun w4 => (some ((pj_set w4 19 i0 7 (pj_wr ((w4 19 i0 7) + 1))))))) else none) else (some (w))
theorem tB_addFinder {Go : pj_C → Prop} (hM : pj_M l yX0_addFinder cX0_addFinder 7 none 0 0 true g n0 o Go) (i0 : Int) (x1 : Int) (x3 : Int) (x4 : Int) (x5 : Int) (w : pj_W) (hn0 : 0 ≤ i0) (R : pj_W → Prop) (h0 : ∀ r, R (r) → ((none : Option pj_V), r) = o) : pj_TG R (fB_addFinder i0 x1 x3 x4 x5 w) (Go (0, [(19, i0), (1, x1), (9, 0), (0, x3), (0, x4), (0, x5), (9, 0)], [], w)) := by
  unfold fB_addFinder
  refine pj_map (fun k => pj_aload_n hM (pc := 0) dX0_addFinder_0 rfl rfl (pj_gf hM (pc := 1) (t := 0) dX0_addFinder_1 fl_X0_44 hn0 rfl 7 rfl (pj_bipush hM (pc := 4) dX0_addFinder_4 (by decide) k))) ?_
  refine pj_tif (fun h1 => ?_) (fun h1 => ?_)
  · refine pj_tgd (fun h2 => ?_)
    refine pj_map (fun k => pj_ic_lt_t hM (pc := 6) dX0_addFinder_6 rfl h1 (pj_aload_n hM (pc := 10) dX0_addFinder_10 rfl rfl (pj_getF hM (pc := 11) (t := 20) dX0_addFinder_11 fl_X0_13 hn0 rfl rfl (pj_aload_n hM (pc := 14) dX0_addFinder_14 rfl rfl (pj_gf hM (pc := 15) (t := 0) dX0_addFinder_15 fl_X0_44 hn0 rfl 7 rfl (pj_aald hM (pc := 18) (fun s : Int => 6 * i0 + s) dX0_addFinder_18 (by decide) rfl (fun _ => rfl) ⟨_, rfl⟩ (by decide) hn0 h2 (fun _ => rfl) (by show (0 : Int) ≤ (6 * i0 + (w 19 i0 7)); omega) (pj_astore hM (pc := 19) dX0_addFinder_19 (by decide) (by decide) (lls' := [(19, i0), (1, x1), (9, 0), (0, x3), (0, x4), (0, x5), (22, (6 * i0 + (w 19 i0 7)))]) rfl (pj_aload hM (pc := 21) dX0_addFinder_21 rfl rfl (pj_lload_n hM (pc := 23) dX0_addFinder_23 rfl (pj_pf hM (pc := 24) dX0_addFinder_24 fl_X0_60 (by show (0 : Int) ≤ (6 * i0 + (w 19 i0 7)); omega) rfl (fun h => absurd h (by decide)) (by decide) (fun _ => rfl) 0 rfl (pj_aload hM (pc := 27) dX0_addFinder_27 rfl rfl (pj_iload_n hM (pc := 29) dX0_addFinder_29 rfl (pj_pf hM (pc := 30) dX0_addFinder_30 fl_X0_64 (by show (0 : Int) ≤ (6 * i0 + (w 19 i0 7)); omega) rfl (fun h => absurd h (by decide)) (by decide) (fun _ => rfl) 1 rfl (pj_aload hM (pc := 33) dX0_addFinder_33 rfl rfl (pj_iload hM (pc := 35) dX0_addFinder_35 rfl (pj_pf hM (pc := 37) dX0_addFinder_37 fl_X0_67 (by show (0 : Int) ≤ (6 * i0 + (w 19 i0 7)); omega) rfl (fun h => absurd h (by decide)) (by decide) (fun _ => rfl) 2 rfl k)))))))))))))))) ?_
    refine pj_tlet (fun w3 => Go (40, [(19, i0), (1, x1), (9, 0), (0, x3), (0, x4), (0, x5), (22, (6 * i0 + (w 19 i0 7)))], [], w3)) (fun w3 => ?_)
    refine pj_map (fun k => pj_aload hM (pc := 40) dX0_addFinder_40 rfl rfl (pj_iload hM (pc := 42) dX0_addFinder_42 rfl (pj_pf hM (pc := 44) dX0_addFinder_44 fl_X0_70 (by show (0 : Int) ≤ (6 * i0 + (w 19 i0 7)); omega) rfl (fun h => absurd h (by decide)) (by decide) (fun _ => rfl) 3 rfl (pj_aload hM (pc := 47) dX0_addFinder_47 rfl rfl (pj_iconst hM (pc := 49) dX0_addFinder_49 (by decide) (pj_pf hM (pc := 50) dX0_addFinder_50 fl_X0_73 (by show (0 : Int) ≤ (6 * i0 + (w 19 i0 7)); omega) rfl (fun h => absurd h (by decide)) (by decide) (fun _ => rfl) 4 rfl (pj_aload hM (pc := 53) dX0_addFinder_53 rfl rfl (pj_iconst hM (pc := 55) dX0_addFinder_55 (by decide) (pj_pf hM (pc := 56) dX0_addFinder_56 fl_X0_76 (by show (0 : Int) ≤ (6 * i0 + (w 19 i0 7)); omega) rfl (fun h => absurd h (by decide)) (by decide) (fun _ => rfl) 5 rfl k))))))))) ?_
    refine pj_tlet (fun w4 => Go (59, [(19, i0), (1, x1), (9, 0), (0, x3), (0, x4), (0, x5), (22, (6 * i0 + (w 19 i0 7)))], [], w4)) (fun w4 => ?_)
    exact pj_tret (fun hr => pj_aload_n hM (pc := 59) dX0_addFinder_59 rfl rfl (pj_dup hM (pc := 60) dX0_addFinder_60 (by decide) (pj_gf hM (pc := 61) (t := 0) dX0_addFinder_61 fl_X0_44 hn0 rfl 7 rfl (pj_iconst hM (pc := 64) dX0_addFinder_64 (by decide) (pj_iadd hM (pc := 65) dX0_addFinder_65 (pj_pf hM (pc := 66) dX0_addFinder_66 fl_X0_44 hn0 rfl (fun h => absurd h (by decide)) (by decide) (fun _ => rfl) 7 rfl (pj_ret hM (pc := 69) dX0_addFinder_69 rfl (h0 ((pj_set w4 19 i0 7 (pj_wr ((w4 19 i0 7) + 1)))) hr) rfl)))))))
  exact pj_tret (fun hr => pj_ic_lt_f hM (pc := 6) 10 dX0_addFinder_6 rfl h1 (pj_ret hM (pc := 9) dX0_addFinder_9 rfl (h0 (w) hr) rfl))
theorem cB_addFinder (i0 : Int) (x1 : Int) (x3 : Int) (x4 : Int) (x5 : Int) (hn0 : 0 ≤ i0) (w : pj_W) (r : pj_W) (h : fB_addFinder i0 x1 x3 x4 x5 w = some r) : pj_Cn l yX0_addFinder cX0_addFinder 7 none 0 0 true g [(19, i0), (1, x1), (0, x3), (0, x4), (0, x5)] w ((none : Option pj_V), r) :=
  pj_Cn_of rfl (Nat.le_of_ble_eq_true rfl) (lls := [(19, i0), (1, x1), (9, 0), (0, x3), (0, x4), (0, x5), (9, 0)]) rfl (fun Go hM => tB_addFinder hM i0 x1 x3 x4 x5 w hn0 (fun x => ((none : Option pj_V), x) = ((none : Option pj_V), r)) (fun r h => h) r h rfl)
noncomputable def fBT_takeFinderPart  (w : pj_W) : Option (Int × pj_W) :=
  if 0 ≤ (w 13 0 1) then (if (w 19 (w 13 0 1) 7) < 6 then ((fR_takeWord 3 w).bind fun p3 => ((fR_takeNewName (p3.2 13 0 1) p3.2).bind fun p5 => (if (pj_cmp p5.1 (-1)) = 0 then (some ((0, p5.2))) else (if 0 ≤ (p5.2 13 0 1) then ((fR_takeNumberBehind 4 0 (pj_wr ((p5.2 19 (p5.2 13 0 1) 2) - 1)) p5.2).bind fun p9 => (if p9.1 = (-1) then (some ((0, p9.2))) else ((fR_takeNumberBehind 5 1 9 p9.2).bind fun p12 => (if p12.1 = (-1) then (some ((0, p12.2))) else ((fR_takeNumberBehind 6 0 20 p12.2).bind fun p15 => (if p15.1 = (-1) then (some ((0, p15.2))) else (if 0 ≤ (p15.2 13 0 1) then ((fB_addFinder (p15.2 13 0 1) p5.1 p9.1 p12.1 p15.1 p15.2).bind fun p19 => ((fR_takeSign 59 p19).bind fun p21 => (if p21.1 = 0 ∨ p21.1 = 1 then (some ((p21.1, p21.2))) else none))) else none))))))) else none)))) else ((fR_fail 6 w).bind fun p24 => (if p24.1 = 0 ∨ p24.1 = 1 then (some ((p24.1, p24.2))) else none))) else none
theorem tBT_takeFinderPart {Go : pj_C → Prop} (hM : pj_M l yX1_takeFinderPart cX1_takeFinderPart 6 (some .boolean) 3 67 true g n0 o Go)  (w : pj_W)  (R : Int × pj_W → Prop) (h0 : ∀ r, R (r) → ((some (0, r.1) : Option pj_V), r.2) = o) : pj_TG R (fBT_takeFinderPart  w) (Go (0, [(13, 0), (9, 0), (9, 0), (9, 0), (9, 0), (9, 0)], [], w)) := by
  unfold fBT_takeFinderPart
  refine pj_tgd (fun h1 => ?_)
  refine pj_map (fun k => pj_aload_n hM (pc := 0) dX1_takeFinderPart_0 rfl rfl (pj_gf hM (pc := 1) (t := 19) dX1_takeFinderPart_1 fl_X1_15 (by decide) rfl 1 rfl (pj_gf hM (pc := 4) (t := 0) dX1_takeFinderPart_4 fl_X1_80 h1 rfl 7 rfl (pj_bipush hM (pc := 7) dX1_takeFinderPart_7 (by decide) k)))) ?_
  refine pj_tif (fun h2 => ?_) (fun h2 => ?_)
  · refine pj_tbind (fun p3 h4 => ?_)
    refine pj_tbind (fun p5 h6 => ?_)
    refine pj_map (fun k => pj_ic_lt_t hM (pc := 9) dX1_takeFinderPart_9 rfl h2 (pj_aload_n hM (pc := 22) dX1_takeFinderPart_22 rfl rfl (pj_getF hM (pc := 23) (t := 12) dX1_takeFinderPart_23 fl_X1_9 (by decide) rfl rfl (pj_iconst hM (pc := 26) dX1_takeFinderPart_26 (by decide) (pj_cV hM (pc := 27) (cR_takeWord 3 w p3 h4) dX1_takeFinderPart_27 mf_X7_takeWord mv_X7_takeWord ml_X1_83 kc_12 rfl rfl (by decide) rfl rfl (pj_pop hM (pc := 30) dX1_takeFinderPart_30 (by decide) (pj_aload_n hM (pc := 31) dX1_takeFinderPart_31 rfl rfl (pj_getF hM (pc := 32) (t := 12) dX1_takeFinderPart_32 fl_X1_9 (by decide) rfl rfl (pj_aload_n hM (pc := 35) dX1_takeFinderPart_35 rfl rfl (pj_gf hM (pc := 36) (t := 19) dX1_takeFinderPart_36 fl_X1_15 (by decide) rfl 1 rfl (pj_cV hM (pc := 39) (cR_takeNewName (p3.2 13 0 1) p3.2 p5 h6) dX1_takeFinderPart_39 mf_X7_takeNewName mv_X7_takeNewName ml_X1_86 kc_12 rfl rfl (by decide) rfl rfl (pj_lstore_n hM (pc := 42) dX1_takeFinderPart_42 (by decide) (lls' := [(13, 0), (1, p5.1), (9, 0), (9, 0), (9, 0), (9, 0)]) rfl (pj_lload_n hM (pc := 43) dX1_takeFinderPart_43 rfl (pj_ldc2 hM (pc := 44) (z := (-1)) dX1_takeFinderPart_44 kn_X1_90 rfl (by decide) (pj_lcmp hM (pc := 47) dX1_takeFinderPart_47 k))))))))))))))) ?_
    refine pj_tif (fun h7 => ?_) (fun h7 => ?_)
    · exact pj_tret (fun hr => pj_if_ne_f hM (pc := 48) 53 dX1_takeFinderPart_48 rfl (fun q => q h7) (pj_iconst hM (pc := 51) dX1_takeFinderPart_51 (by decide) (pj_ret hM (pc := 52) dX1_takeFinderPart_52 ⟨_, rfl, Or.inl rfl⟩ (h0 ((0, p5.2)) hr) rfl)))
    refine pj_tgd (fun h8 => ?_)
    refine pj_tbind (fun p9 h10 => ?_)
    refine pj_map (fun k => pj_if_ne_t hM (pc := 48) dX1_takeFinderPart_48 rfl h7 (pj_aload_n hM (pc := 53) dX1_takeFinderPart_53 rfl rfl (pj_getF hM (pc := 54) (t := 12) dX1_takeFinderPart_54 fl_X1_9 (by decide) rfl rfl (pj_iconst hM (pc := 57) dX1_takeFinderPart_57 (by decide) (pj_iconst hM (pc := 58) dX1_takeFinderPart_58 (by decide) (pj_aload_n hM (pc := 59) dX1_takeFinderPart_59 rfl rfl (pj_gf hM (pc := 60) (t := 19) dX1_takeFinderPart_60 fl_X1_15 (by decide) rfl 1 rfl (pj_gf hM (pc := 63) (t := 0) dX1_takeFinderPart_63 fl_X1_46 h8 rfl 2 rfl (pj_iconst hM (pc := 66) dX1_takeFinderPart_66 (by decide) (pj_isub hM (pc := 67) dX1_takeFinderPart_67 (pj_cV hM (pc := 68) (cR_takeNumberBehind 4 0 (pj_wr ((p5.2 19 (p5.2 13 0 1) 2) - 1)) p5.2 p9 h10) dX1_takeFinderPart_68 mf_X7_takeNumberBehind mv_X7_takeNumberBehind ml_X1_42 kc_12 rfl rfl (by decide) rfl rfl (pj_istore_n hM (pc := 71) dX1_takeFinderPart_71 (by decide) (lls' := [(13, 0), (1, p5.1), (9, 0), (0, p9.1), (9, 0), (9, 0)]) rfl (pj_iload_n hM (pc := 72) dX1_takeFinderPart_72 rfl (pj_iconst hM (pc := 73) dX1_takeFinderPart_73 (by decide) k)))))))))))))) ?_
    refine pj_tif (fun h11 => ?_) (fun h11 => ?_)
    · exact pj_tret (fun hr => pj_ic_ne_f hM (pc := 74) 79 dX1_takeFinderPart_74 rfl (fun q => q h11) (pj_iconst hM (pc := 77) dX1_takeFinderPart_77 (by decide) (pj_ret hM (pc := 78) dX1_takeFinderPart_78 ⟨_, rfl, Or.inl rfl⟩ (h0 ((0, p9.2)) hr) rfl)))
    refine pj_tbind (fun p12 h13 => ?_)
    refine pj_map (fun k => pj_ic_ne_t hM (pc := 74) dX1_takeFinderPart_74 rfl h11 (pj_aload_n hM (pc := 79) dX1_takeFinderPart_79 rfl rfl (pj_getF hM (pc := 80) (t := 12) dX1_takeFinderPart_80 fl_X1_9 (by decide) rfl rfl (pj_iconst hM (pc := 83) dX1_takeFinderPart_83 (by decide) (pj_iconst hM (pc := 84) dX1_takeFinderPart_84 (by decide) (pj_bipush hM (pc := 85) dX1_takeFinderPart_85 (by decide) (pj_cV hM (pc := 87) (cR_takeNumberBehind 5 1 9 p9.2 p12 h13) dX1_takeFinderPart_87 mf_X7_takeNumberBehind mv_X7_takeNumberBehind ml_X1_42 kc_12 rfl rfl (by decide) rfl rfl (pj_istore hM (pc := 90) dX1_takeFinderPart_90 (by decide) (lls' := [(13, 0), (1, p5.1), (9, 0), (0, p9.1), (0, p12.1), (9, 0)]) rfl (pj_iload hM (pc := 92) dX1_takeFinderPart_92 rfl (pj_iconst hM (pc := 94) dX1_takeFinderPart_94 (by decide) k)))))))))) ?_
    refine pj_tif (fun h14 => ?_) (fun h14 => ?_)
    · exact pj_tret (fun hr => pj_ic_ne_f hM (pc := 95) 100 dX1_takeFinderPart_95 rfl (fun q => q h14) (pj_iconst hM (pc := 98) dX1_takeFinderPart_98 (by decide) (pj_ret hM (pc := 99) dX1_takeFinderPart_99 ⟨_, rfl, Or.inl rfl⟩ (h0 ((0, p12.2)) hr) rfl)))
    refine pj_tbind (fun p15 h16 => ?_)
    refine pj_map (fun k => pj_ic_ne_t hM (pc := 95) dX1_takeFinderPart_95 rfl h14 (pj_aload_n hM (pc := 100) dX1_takeFinderPart_100 rfl rfl (pj_getF hM (pc := 101) (t := 12) dX1_takeFinderPart_101 fl_X1_9 (by decide) rfl rfl (pj_bipush hM (pc := 104) dX1_takeFinderPart_104 (by decide) (pj_iconst hM (pc := 106) dX1_takeFinderPart_106 (by decide) (pj_bipush hM (pc := 107) dX1_takeFinderPart_107 (by decide) (pj_cV hM (pc := 109) (cR_takeNumberBehind 6 0 20 p12.2 p15 h16) dX1_takeFinderPart_109 mf_X7_takeNumberBehind mv_X7_takeNumberBehind ml_X1_42 kc_12 rfl rfl (by decide) rfl rfl (pj_istore hM (pc := 112) dX1_takeFinderPart_112 (by decide) (lls' := [(13, 0), (1, p5.1), (9, 0), (0, p9.1), (0, p12.1), (0, p15.1)]) rfl (pj_iload hM (pc := 114) dX1_takeFinderPart_114 rfl (pj_iconst hM (pc := 116) dX1_takeFinderPart_116 (by decide) k)))))))))) ?_
    refine pj_tif (fun h17 => ?_) (fun h17 => ?_)
    · exact pj_tret (fun hr => pj_ic_ne_f hM (pc := 117) 122 dX1_takeFinderPart_117 rfl (fun q => q h17) (pj_iconst hM (pc := 120) dX1_takeFinderPart_120 (by decide) (pj_ret hM (pc := 121) dX1_takeFinderPart_121 ⟨_, rfl, Or.inl rfl⟩ (h0 ((0, p15.2)) hr) rfl)))
    refine pj_tgd (fun h18 => ?_)
    refine pj_tbind (fun p19 h20 => ?_)
    refine pj_tbind (fun p21 h22 => ?_)
    refine pj_tgd (fun h23 => ?_)
    exact pj_tret (fun hr => pj_ic_ne_t hM (pc := 117) dX1_takeFinderPart_117 rfl h17 (pj_aload_n hM (pc := 122) dX1_takeFinderPart_122 rfl rfl (pj_gf hM (pc := 123) (t := 19) dX1_takeFinderPart_123 fl_X1_15 (by decide) rfl 1 rfl (pj_lload_n hM (pc := 126) dX1_takeFinderPart_126 rfl (pj_iload_n hM (pc := 127) dX1_takeFinderPart_127 rfl (pj_iload hM (pc := 128) dX1_takeFinderPart_128 rfl (pj_iload hM (pc := 130) dX1_takeFinderPart_130 rfl (pj_cVv hM (pc := 132) (cB_addFinder (p15.2 13 0 1) p5.1 p9.1 p12.1 p15.1 h18 p15.2 p19 h20) dX1_takeFinderPart_132 mf_X0_addFinder mv_X0_addFinder ml_X1_92 kc_19 rfl rfl h18 rfl rfl (pj_aload_n hM (pc := 135) dX1_takeFinderPart_135 rfl rfl (pj_getF hM (pc := 136) (t := 12) dX1_takeFinderPart_136 fl_X1_9 (by decide) rfl rfl (pj_bipush hM (pc := 139) dX1_takeFinderPart_139 (by decide) (pj_cV hM (pc := 141) (cR_takeSign 59 p19 p21 h22) dX1_takeFinderPart_141 mf_X7_takeSign mv_X7_takeSign ml_X1_60 kc_12 rfl rfl (by decide) rfl rfl (pj_ret hM (pc := 144) dX1_takeFinderPart_144 ⟨_, rfl, h23⟩ (h0 ((p21.1, p21.2)) hr) rfl)))))))))))))
  refine pj_tbind (fun p24 h25 => ?_)
  refine pj_tgd (fun h26 => ?_)
  exact pj_tret (fun hr => pj_ic_lt_f hM (pc := 9) 22 dX1_takeFinderPart_9 rfl h2 (pj_aload_n hM (pc := 12) dX1_takeFinderPart_12 rfl rfl (pj_getF hM (pc := 13) (t := 12) dX1_takeFinderPart_13 fl_X1_9 (by decide) rfl rfl (pj_bipush hM (pc := 16) dX1_takeFinderPart_16 (by decide) (pj_cV hM (pc := 18) (cR_fail 6 w p24 h25) dX1_takeFinderPart_18 mf_X7_fail mv_X7_fail ml_X1_76 kc_12 rfl rfl (by decide) rfl rfl (pj_ret hM (pc := 21) dX1_takeFinderPart_21 ⟨_, rfl, h26⟩ (h0 ((p24.1, p24.2)) hr) rfl))))))
theorem cBT_takeFinderPart   (w : pj_W) (r : Int × pj_W) (h : fBT_takeFinderPart  w = some r) : pj_Cn l yX1_takeFinderPart cX1_takeFinderPart 6 (some .boolean) 3 67 true g [(13, 0)] w ((some (0, r.1) : Option pj_V), r.2) :=
  pj_Cn_of rfl (Nat.le_of_ble_eq_true rfl) (lls := [(13, 0), (9, 0), (9, 0), (9, 0), (9, 0), (9, 0)]) rfl (fun Go hM => tBT_takeFinderPart hM w (fun x => ((some (0, x.1) : Option pj_V), x.2) = ((some (0, r.1) : Option pj_V), r.2)) (fun r h => h) r h rfl)
noncomputable def fB_findAt_21 (i0 : Int) (w : pj_W) : Option (Int) :=
  some ((-1))
noncomputable def fB_findAt (i0 : Int) (x1 : Int) (w : pj_W) : Option (Int) :=
  if x1 < 0 then (fB_findAt_21 i0 w) else (if (w 19 i0 8) ≤ x1 then (fB_findAt_21 i0 w) else (if 0 ≤ x1 ∧ x1 < 8 then (some ((8 * i0 + x1))) else none))
theorem tB_findAt_21 {Go : pj_C → Prop} (hM : pj_M l yX0_findAt cX0_findAt 2 (some (.object "LastPebble$Find")) 0 0 true g n0 o Go) (i0 : Int) (w : pj_W) (hn0 : 0 ≤ i0) (R : Int → Prop) (h0 : ∀ r, R (r) → ((some (23, r) : Option pj_V), w) = o) : pj_TG R (fB_findAt_21 i0 w) (Go (21, [(19, i0), (9, 0)], [], w)) := by
  unfold fB_findAt_21
  exact pj_tret (fun hr => pj_null hM (pc := 21) (k := 23) dX0_findAt_21 (by decide) (pj_ret hM (pc := 22) dX0_findAt_22 ⟨_, _, by decide, rfl⟩ (h0 ((-1)) hr) rfl))
theorem tB_findAt {Go : pj_C → Prop} (hM : pj_M l yX0_findAt cX0_findAt 2 (some (.object "LastPebble$Find")) 0 0 true g n0 o Go) (i0 : Int) (x1 : Int) (w : pj_W) (hn0 : 0 ≤ i0) (R : Int → Prop) (h0 : ∀ r, R (r) → ((some (23, r) : Option pj_V), w) = o) : pj_TG R (fB_findAt i0 x1 w) (Go (0, [(19, i0), (0, x1)], [], w)) := by
  unfold fB_findAt
  refine pj_map (fun k => pj_iload_n hM (pc := 0) dX0_findAt_0 rfl k) ?_
  refine pj_tif (fun h1 => ?_) (fun h1 => ?_)
  · refine pj_map (fun k => pj_if_lt_t hM (pc := 1) dX0_findAt_1 rfl h1 (pj_kill hM [true, false] (lls' := [(19, i0), (9, 0)]) rfl k)) ?_
    exact tB_findAt_21 hM i0 w hn0 _ h0
  refine pj_map (fun k => pj_if_lt_f hM (pc := 1) 21 dX0_findAt_1 rfl h1 (pj_iload_n hM (pc := 4) dX0_findAt_4 rfl (pj_aload_n hM (pc := 5) dX0_findAt_5 rfl rfl (pj_gf hM (pc := 6) (t := 0) dX0_findAt_6 fl_X0_47 hn0 rfl 8 rfl k)))) ?_
  refine pj_tif (fun h2 => ?_) (fun h2 => ?_)
  · refine pj_map (fun k => pj_ic_ge_t hM (pc := 9) dX0_findAt_9 rfl h2 (pj_kill hM [true, false] (lls' := [(19, i0), (9, 0)]) rfl k)) ?_
    exact tB_findAt_21 hM i0 w hn0 _ h0
  refine pj_tgd (fun h3 => ?_)
  exact pj_tret (fun hr => pj_ic_ge_f hM (pc := 9) 21 dX0_findAt_9 rfl h2 (pj_aload_n hM (pc := 12) dX0_findAt_12 rfl rfl (pj_getF hM (pc := 13) (t := 21) dX0_findAt_13 fl_X0_19 hn0 rfl rfl (pj_iload_n hM (pc := 16) dX0_findAt_16 rfl (pj_aald hM (pc := 17) (fun s : Int => 8 * i0 + s) dX0_findAt_17 (by decide) rfl (fun _ => rfl) ⟨_, rfl⟩ (by decide) hn0 h3 (fun _ => rfl) (by show (0 : Int) ≤ (8 * i0 + x1); omega) (pj_goto hM (pc := 18) dX0_findAt_18 rfl (pj_ret hM (pc := 22) dX0_findAt_22 ⟨_, _, by decide, rfl⟩ (h0 ((8 * i0 + x1)) hr) rfl)))))))
theorem cB_findAt (i0 : Int) (x1 : Int) (hn0 : 0 ≤ i0) (w : pj_W) (r : Int) (h : fB_findAt i0 x1 w = some r) : pj_Cn l yX0_findAt cX0_findAt 2 (some (.object "LastPebble$Find")) 0 0 true g [(19, i0), (0, x1)] w ((some (23, r) : Option pj_V), w) :=
  pj_Cn_of rfl (Nat.le_of_ble_eq_true rfl) (lls := [(19, i0), (0, x1)]) rfl (fun Go hM => tB_findAt hM i0 x1 w hn0 (fun x => ((some (23, x) : Option pj_V), w) = ((some (23, r) : Option pj_V), w)) (fun r h => h) r h rfl)
noncomputable def fB_lying_4b (i0 : Int) (w : pj_W) (x1 : Int) (x2 : Int) : Option ((Int × Int) ⊕ (Int)) :=
  if (w 19 i0 8) ≤ x2 then (some (Sum.inr (x1))) else (if 0 ≤ x2 ∧ x2 < 8 then (some (Sum.inl ((pj_wr (x1 + (w 23 (8 * i0 + x2) 6))), (pj_wr (x2 + 1))))) else none)
noncomputable def fB_lying_4 (i0 : Int) (w : pj_W) (s : (Int × Int)) : Option (Int) := pj_Lp (fun s : (Int × Int) => fB_lying_4b i0 w s.1 s.2) s
noncomputable def fB_lying (i0 : Int) (w : pj_W) : Option (Int) :=
  fB_lying_4 i0 w (0, 0)
theorem tB_lying_4b {Go : pj_C → Prop} (hM : pj_M l yX0_lying cX0_lying 3 (some .int) 0 0 true g n0 o Go) (i0 : Int) (w : pj_W) (x1 : Int) (x2 : Int) (hn0 : 0 ≤ i0) (R : (Int × Int) ⊕ (Int) → Prop) (h0 : ∀ r, R (Sum.inr (r)) → ((some (0, r) : Option pj_V), w) = o) (hk4 : ∀ s, R (Sum.inl s) → Go (4, [(19, i0), (0, s.1), (0, s.2)], [], w)) : pj_TG R (fB_lying_4b i0 w x1 x2) (Go (4, [(19, i0), (0, x1), (0, x2)], [], w)) := by
  unfold fB_lying_4b
  refine pj_map (fun k => pj_iload_n hM (pc := 4) dX0_lying_4 rfl (pj_aload_n hM (pc := 5) dX0_lying_5 rfl rfl (pj_gf hM (pc := 6) (t := 0) dX0_lying_6 fl_X0_47 hn0 rfl 8 rfl k))) ?_
  refine pj_tif (fun h1 => ?_) (fun h1 => ?_)
  · exact pj_tret (fun hr => pj_ic_ge_t hM (pc := 9) dX0_lying_9 rfl h1 (pj_iload_n hM (pc := 30) dX0_lying_30 rfl (pj_ret hM (pc := 31) dX0_lying_31 ⟨_, rfl⟩ (h0 (x1) hr) rfl)))
  refine pj_tgd (fun h2 => ?_)
  exact pj_tret (fun hr => pj_ic_ge_f hM (pc := 9) 30 dX0_lying_9 rfl h1 (pj_iload_n hM (pc := 12) dX0_lying_12 rfl (pj_aload_n hM (pc := 13) dX0_lying_13 rfl rfl (pj_getF hM (pc := 14) (t := 21) dX0_lying_14 fl_X0_19 hn0 rfl rfl (pj_iload_n hM (pc := 17) dX0_lying_17 rfl (pj_aald hM (pc := 18) (fun s : Int => 8 * i0 + s) dX0_lying_18 (by decide) rfl (fun _ => rfl) ⟨_, rfl⟩ (by decide) hn0 h2 (fun _ => rfl) (by show (0 : Int) ≤ (8 * i0 + x2); omega) (pj_gf hM (pc := 19) (t := 0) dX0_lying_19 fl_X0_88 (by show (0 : Int) ≤ (8 * i0 + x2); omega) rfl 6 rfl (pj_iadd hM (pc := 22) dX0_lying_22 (pj_istore_n hM (pc := 23) dX0_lying_23 (by decide) (lls' := [(19, i0), (0, (pj_wr (x1 + (w 23 (8 * i0 + x2) 6)))), (0, x2)]) rfl (pj_iinc hM (pc := 24) dX0_lying_24 rfl (by decide) (lls' := [(19, i0), (0, (pj_wr (x1 + (w 23 (8 * i0 + x2) 6)))), (0, (pj_wr (x2 + 1)))]) rfl (pj_goto hM (pc := 27) dX0_lying_27 rfl (pj_kill hM [true, true, true] (lls' := [(19, i0), (0, (pj_wr (x1 + (w 23 (8 * i0 + x2) 6)))), (0, (pj_wr (x2 + 1)))]) rfl ((hk4 _ hr))))))))))))))
theorem tB_lying_4 {Go : pj_C → Prop} (hM : pj_M l yX0_lying cX0_lying 3 (some .int) 0 0 true g n0 o Go) (i0 : Int) (w : pj_W) (hn0 : 0 ≤ i0) (R : Int → Prop) (h0 : ∀ r, R (r) → ((some (0, r) : Option pj_V), w) = o) (s : (Int × Int)) : pj_TG R (fB_lying_4 i0 w s) (Go (4, [(19, i0), (0, s.1), (0, s.2)], [], w)) := by
  unfold fB_lying_4
  exact pj_tLp (G := fun s : (Int × Int) => Go (4, [(19, i0), (0, s.1), (0, s.2)], [], w)) (fun s => tB_lying_4b hM i0 w s.1 s.2 hn0 _ (fun r h => h0 r h)  (fun s h => h)) s
theorem tB_lying {Go : pj_C → Prop} (hM : pj_M l yX0_lying cX0_lying 3 (some .int) 0 0 true g n0 o Go) (i0 : Int) (w : pj_W) (hn0 : 0 ≤ i0) (R : Int → Prop) (h0 : ∀ r, R (r) → ((some (0, r) : Option pj_V), w) = o) : pj_TG R (fB_lying i0 w) (Go (0, [(19, i0), (9, 0), (9, 0)], [], w)) := by
  unfold fB_lying
  refine pj_map (fun k => pj_iconst hM (pc := 0) dX0_lying_0 (by decide) (pj_istore_n hM (pc := 1) dX0_lying_1 (by decide) (lls' := [(19, i0), (0, 0), (9, 0)]) rfl (pj_iconst hM (pc := 2) dX0_lying_2 (by decide) (pj_istore_n hM (pc := 3) dX0_lying_3 (by decide) (lls' := [(19, i0), (0, 0), (0, 0)]) rfl (pj_kill hM [true, true, true] (lls' := [(19, i0), (0, 0), (0, 0)]) rfl k))))) ?_
  exact tB_lying_4 hM i0 w hn0 _ h0 _
theorem cB_lying (i0 : Int) (hn0 : 0 ≤ i0) (w : pj_W) (r : Int) (h : fB_lying i0 w = some r) : pj_Cn l yX0_lying cX0_lying 3 (some .int) 0 0 true g [(19, i0)] w ((some (0, r) : Option pj_V), w) :=
  pj_Cn_of rfl (Nat.le_of_ble_eq_true rfl) (lls := [(19, i0), (9, 0), (9, 0)]) rfl (fun Go hM => tB_lying hM i0 w hn0 (fun x => ((some (0, x) : Option pj_V), w) = ((some (0, r) : Option pj_V), w)) (fun r h => h) r h rfl)
noncomputable def fN_insert_65 (i0 : Int) (x1 : Int) (x2 : Int) (x3 : Int) (w : pj_W) : Option (pj_W) :=
  if 0 ≤ x3 ∧ x3 < 60 then (some ((pj_set (pj_set (pj_set w 46 i0 x3 x2) 45 i0 x3 x1) 23 i0 6 (pj_wr (((pj_set (pj_set w 46 i0 x3 x2) 45 i0 x3 x1) 23 i0 6) + 1))))) else none
noncomputable def fN_insert_15b (i0 : Int) (x1 : Int) (x2 : Int) (x3 : Int) (w : pj_W) : Option ((Int × pj_W) ⊕ (pj_W)) :=
  if x3 ≤ 0 then ((fN_insert_65 i0 x1 x2 x3 w).map Sum.inr) else (if 0 ≤ (pj_wr (x3 - 1)) ∧ (pj_wr (x3 - 1)) < 60 then (if (w 46 i0 (pj_wr (x3 - 1))) ≤ x2 then ((fN_insert_65 i0 x1 x2 x3 w).map Sum.inr) else (if 0 ≤ x3 ∧ x3 < 60 then ((some (pj_set (pj_set w 46 i0 x3 (w 46 i0 (pj_wr (x3 - 1)))) 45 i0 x3 ((pj_set w 46 i0 x3 (w 46 i0 (pj_wr (x3 - 1)))) 45 i0 (pj_wr (x3 - 1))))).bind fun w5 => (some (Sum.inl ((pj_wr (x3 + (-1))), w5)))) else none)) else none)
noncomputable def fN_insert_15 (i0 : Int) (x1 : Int) (x2 : Int) (s : (Int × pj_W)) : Option (pj_W) := pj_Lp (fun s : (Int × pj_W) => fN_insert_15b i0 x1 x2 s.1 s.2) s
noncomputable def fN_insert (i0 : Int) (x1 : Int) (x2 : Int) (w : pj_W) : Option (pj_W) :=
  if (w 23 i0 6) < 60 then (fN_insert_15 i0 x1 x2 ((w 23 i0 6), w)) else (some (w))
theorem tN_insert_65 {Go : pj_C → Prop} (hM : pj_M l yX4_insert cX4_insert 4 none 0 0 true g n0 o Go) (i0 : Int) (x1 : Int) (x2 : Int) (x3 : Int) (w : pj_W) (hn0 : 0 ≤ i0) (R : pj_W → Prop) (h0 : ∀ r, R (r) → ((none : Option pj_V), r) = o) : pj_TG R (fN_insert_65 i0 x1 x2 x3 w) (Go (65, [(23, i0), (0, x1), (0, x2), (0, x3)], [], w)) := by
  unfold fN_insert_65
  refine pj_tgd (fun h1 => ?_)
  exact pj_tret (fun hr => pj_aload_n hM (pc := 65) dX4_insert_65 rfl rfl (pj_getF hM (pc := 66) (t := 46) dX4_insert_66 fl_X4_17 hn0 rfl rfl (pj_iload_n hM (pc := 69) dX4_insert_69 rfl (pj_iload_n hM (pc := 70) dX4_insert_70 rfl (pj_ias hM (pc := 71) dX4_insert_71 ki_46 hn0 h1 (pj_aload_n hM (pc := 72) dX4_insert_72 rfl rfl (pj_getF hM (pc := 73) (t := 45) dX4_insert_73 fl_X4_11 hn0 rfl rfl (pj_iload_n hM (pc := 76) dX4_insert_76 rfl (pj_iload_n hM (pc := 77) dX4_insert_77 rfl (pj_ias hM (pc := 78) dX4_insert_78 ki_45 hn0 h1 (pj_aload_n hM (pc := 79) dX4_insert_79 rfl rfl (pj_dup hM (pc := 80) dX4_insert_80 (by decide) (pj_gf hM (pc := 81) (t := 0) dX4_insert_81 fl_X4_35 hn0 rfl 6 rfl (pj_iconst hM (pc := 84) dX4_insert_84 (by decide) (pj_iadd hM (pc := 85) dX4_insert_85 (pj_pf hM (pc := 86) dX4_insert_86 fl_X4_35 hn0 rfl (fun h => absurd h (by decide)) (by decide) (fun _ => rfl) 6 rfl (pj_ret hM (pc := 89) dX4_insert_89 rfl (h0 ((pj_set (pj_set (pj_set w 46 i0 x3 x2) 45 i0 x3 x1) 23 i0 6 (pj_wr (((pj_set (pj_set w 46 i0 x3 x2) 45 i0 x3 x1) 23 i0 6) + 1)))) hr) rfl)))))))))))))))))
theorem tN_insert_15b {Go : pj_C → Prop} (hM : pj_M l yX4_insert cX4_insert 4 none 0 0 true g n0 o Go) (i0 : Int) (x1 : Int) (x2 : Int) (x3 : Int) (w : pj_W) (hn0 : 0 ≤ i0) (R : (Int × pj_W) ⊕ (pj_W) → Prop) (h0 : ∀ r, R (Sum.inr (r)) → ((none : Option pj_V), r) = o) (hk15 : ∀ s, R (Sum.inl s) → Go (15, [(23, i0), (0, x1), (0, x2), (0, s.1)], [], s.2)) : pj_TG R (fN_insert_15b i0 x1 x2 x3 w) (Go (15, [(23, i0), (0, x1), (0, x2), (0, x3)], [], w)) := by
  unfold fN_insert_15b
  refine pj_map (fun k => pj_iload_n hM (pc := 15) dX4_insert_15 rfl k) ?_
  refine pj_tif (fun h1 => ?_) (fun h1 => ?_)
  · refine pj_tmap ?_
    refine pj_map (fun k => pj_if_le_t hM (pc := 16) dX4_insert_16 rfl h1 (pj_kill hM [true, true, true, true] (lls' := [(23, i0), (0, x1), (0, x2), (0, x3)]) rfl k)) ?_
    exact tN_insert_65 hM i0 x1 x2 x3 w hn0 _ h0
  refine pj_tgd (fun h2 => ?_)
  refine pj_map (fun k => pj_if_le_f hM (pc := 16) 65 dX4_insert_16 rfl h1 (pj_aload_n hM (pc := 19) dX4_insert_19 rfl rfl (pj_getF hM (pc := 20) (t := 46) dX4_insert_20 fl_X4_17 hn0 rfl rfl (pj_iload_n hM (pc := 23) dX4_insert_23 rfl (pj_iconst hM (pc := 24) dX4_insert_24 (by decide) (pj_isub hM (pc := 25) dX4_insert_25 (pj_ial hM (pc := 26) dX4_insert_26 ki_46 hn0 h2 (pj_iload_n hM (pc := 27) dX4_insert_27 rfl k)))))))) ?_
  refine pj_tif (fun h3 => ?_) (fun h3 => ?_)
  · refine pj_tmap ?_
    refine pj_map (fun k => pj_ic_le_t hM (pc := 28) dX4_insert_28 rfl h3 (pj_kill hM [true, true, true, true] (lls' := [(23, i0), (0, x1), (0, x2), (0, x3)]) rfl k)) ?_
    exact tN_insert_65 hM i0 x1 x2 x3 w hn0 _ h0
  refine pj_tgd (fun h4 => ?_)
  refine pj_map (fun k => pj_ic_le_f hM (pc := 28) 65 dX4_insert_28 rfl h3 (pj_aload_n hM (pc := 31) dX4_insert_31 rfl rfl (pj_getF hM (pc := 32) (t := 46) dX4_insert_32 fl_X4_17 hn0 rfl rfl (pj_iload_n hM (pc := 35) dX4_insert_35 rfl (pj_aload_n hM (pc := 36) dX4_insert_36 rfl rfl (pj_getF hM (pc := 37) (t := 46) dX4_insert_37 fl_X4_17 hn0 rfl rfl (pj_iload_n hM (pc := 40) dX4_insert_40 rfl (pj_iconst hM (pc := 41) dX4_insert_41 (by decide) (pj_isub hM (pc := 42) dX4_insert_42 (pj_ial hM (pc := 43) dX4_insert_43 ki_46 hn0 h2 (pj_ias hM (pc := 44) dX4_insert_44 ki_46 hn0 h4 (pj_aload_n hM (pc := 45) dX4_insert_45 rfl rfl (pj_getF hM (pc := 46) (t := 45) dX4_insert_46 fl_X4_11 hn0 rfl rfl (pj_iload_n hM (pc := 49) dX4_insert_49 rfl (pj_aload_n hM (pc := 50) dX4_insert_50 rfl rfl (pj_getF hM (pc := 51) (t := 45) dX4_insert_51 fl_X4_11 hn0 rfl rfl (pj_iload_n hM (pc := 54) dX4_insert_54 rfl (pj_iconst hM (pc := 55) dX4_insert_55 (by decide) (pj_isub hM (pc := 56) dX4_insert_56 (pj_ial hM (pc := 57) dX4_insert_57 ki_45 hn0 h2 (pj_ias hM (pc := 58) dX4_insert_58 ki_45 hn0 h4 k))))))))))))))))))))) ?_
  refine pj_tlet (fun w5 => Go (59, [(23, i0), (0, x1), (0, x2), (0, x3)], [], w5)) (fun w5 => ?_)
  exact pj_tret (fun hr => pj_iinc hM (pc := 59) dX4_insert_59 rfl (by decide) (lls' := [(23, i0), (0, x1), (0, x2), (0, (pj_wr (x3 + (-1))))]) rfl (pj_goto hM (pc := 62) dX4_insert_62 rfl (pj_kill hM [true, true, true, true] (lls' := [(23, i0), (0, x1), (0, x2), (0, (pj_wr (x3 + (-1))))]) rfl ((hk15 _ hr)))))
theorem tN_insert_15 {Go : pj_C → Prop} (hM : pj_M l yX4_insert cX4_insert 4 none 0 0 true g n0 o Go) (i0 : Int) (x1 : Int) (x2 : Int) (hn0 : 0 ≤ i0) (R : pj_W → Prop) (h0 : ∀ r, R (r) → ((none : Option pj_V), r) = o) (s : (Int × pj_W)) : pj_TG R (fN_insert_15 i0 x1 x2 s) (Go (15, [(23, i0), (0, x1), (0, x2), (0, s.1)], [], s.2)) := by
  unfold fN_insert_15
  exact pj_tLp (G := fun s : (Int × pj_W) => Go (15, [(23, i0), (0, x1), (0, x2), (0, s.1)], [], s.2)) (fun s => tN_insert_15b hM i0 x1 x2 s.1 s.2 hn0 _ (fun r h => h0 r h)  (fun s h => h)) s
theorem tN_insert {Go : pj_C → Prop} (hM : pj_M l yX4_insert cX4_insert 4 none 0 0 true g n0 o Go) (i0 : Int) (x1 : Int) (x2 : Int) (w : pj_W) (hn0 : 0 ≤ i0) (R : pj_W → Prop) (h0 : ∀ r, R (r) → ((none : Option pj_V), r) = o) : pj_TG R (fN_insert i0 x1 x2 w) (Go (0, [(23, i0), (0, x1), (0, x2), (9, 0)], [], w)) := by
  unfold fN_insert
  refine pj_map (fun k => pj_aload_n hM (pc := 0) dX4_insert_0 rfl rfl (pj_gf hM (pc := 1) (t := 0) dX4_insert_1 fl_X4_35 hn0 rfl 6 rfl (pj_bipush hM (pc := 4) dX4_insert_4 (by decide) k))) ?_
  refine pj_tif (fun h1 => ?_) (fun h1 => ?_)
  · refine pj_map (fun k => pj_ic_lt_t hM (pc := 6) dX4_insert_6 rfl h1 (pj_aload_n hM (pc := 10) dX4_insert_10 rfl rfl (pj_gf hM (pc := 11) (t := 0) dX4_insert_11 fl_X4_35 hn0 rfl 6 rfl (pj_istore_n hM (pc := 14) dX4_insert_14 (by decide) (lls' := [(23, i0), (0, x1), (0, x2), (0, (w 23 i0 6))]) rfl (pj_kill hM [true, true, true, true] (lls' := [(23, i0), (0, x1), (0, x2), (0, (w 23 i0 6))]) rfl k))))) ?_
    exact tN_insert_15 hM i0 x1 x2 hn0 _ h0 _
  exact pj_tret (fun hr => pj_ic_lt_f hM (pc := 6) 10 dX4_insert_6 rfl h1 (pj_ret hM (pc := 9) dX4_insert_9 rfl (h0 (w) hr) rfl))
theorem cN_insert (i0 : Int) (x1 : Int) (x2 : Int) (hn0 : 0 ≤ i0) (w : pj_W) (r : pj_W) (h : fN_insert i0 x1 x2 w = some r) : pj_Cn l yX4_insert cX4_insert 4 none 0 0 true g [(23, i0), (0, x1), (0, x2)] w ((none : Option pj_V), r) :=
  pj_Cn_of rfl (Nat.le_of_ble_eq_true rfl) (lls := [(23, i0), (0, x1), (0, x2), (9, 0)]) rfl (fun Go hM => tN_insert hM i0 x1 x2 w hn0 (fun x => ((none : Option pj_V), x) = ((none : Option pj_V), r)) (fun r h => h) r h rfl)
noncomputable def fR_takeKnown (x1 : Int) (w : pj_W) : Option (Int × pj_W) :=
  if 0 ≤ (w 12 0 11) ∧ (w 12 0 11) < 901 then (if (w 31 0 (w 12 0 11)) = 4 then (if x1 = (-1) then ((fR_fail 3 w).bind fun p4 => (some (((-1), p4.2)))) else ((fR_advance w).bind fun p6 => (some ((x1, p6))))) else ((fR_fail 2 w).bind fun p8 => (some (((-1), p8.2))))) else none
theorem tR_takeKnown {Go : pj_C → Prop} (hM : pj_M l yX7_takeKnown cX7_takeKnown 2 (some .int) 1 21 true g n0 o Go) (x1 : Int) (w : pj_W)  (R : Int × pj_W → Prop) (h0 : ∀ r, R (r) → ((some (0, r.1) : Option pj_V), r.2) = o) : pj_TG R (fR_takeKnown x1 w) (Go (0, [(12, 0), (0, x1)], [], w)) := by
  unfold fR_takeKnown
  refine pj_tgd (fun h1 => ?_)
  refine pj_map (fun k => pj_aload_n hM (pc := 0) dX7_takeKnown_0 rfl rfl (pj_getF hM (pc := 1) (t := 31) dX7_takeKnown_1 fl_X7_15 (by decide) rfl rfl (pj_aload_n hM (pc := 4) dX7_takeKnown_4 rfl rfl (pj_gf hM (pc := 5) (t := 0) dX7_takeKnown_5 fl_X7_73 (by decide) rfl 11 rfl (pj_ial hM (pc := 8) dX7_takeKnown_8 ki_31 (by decide) h1 (pj_iconst hM (pc := 9) dX7_takeKnown_9 (by decide) k)))))) ?_
  refine pj_tif (fun h2 => ?_) (fun h2 => ?_)
  · refine pj_map (fun k => pj_ic_eq_t hM (pc := 10) dX7_takeKnown_10 rfl h2 (pj_iload_n hM (pc := 21) dX7_takeKnown_21 rfl (pj_iconst hM (pc := 22) dX7_takeKnown_22 (by decide) k))) ?_
    refine pj_tif (fun h3 => ?_) (fun h3 => ?_)
    · refine pj_tbind (fun p4 h5 => ?_)
      exact pj_tret (fun hr => pj_ic_ne_f hM (pc := 23) 34 dX7_takeKnown_23 rfl (fun q => q h3) (pj_aload_n hM (pc := 26) dX7_takeKnown_26 rfl rfl (pj_iconst hM (pc := 27) dX7_takeKnown_27 (by decide) (pj_cV hM (pc := 28) (cR_fail 3 w p4 h5) dX7_takeKnown_28 mf_X7_fail mv_X7_fail ml_X7_103 kc_12 rfl rfl (by decide) rfl rfl (pj_pop hM (pc := 31) dX7_takeKnown_31 (by decide) (pj_iconst hM (pc := 32) dX7_takeKnown_32 (by decide) (pj_ret hM (pc := 33) dX7_takeKnown_33 ⟨_, rfl⟩ (h0 (((-1), p4.2)) hr) rfl)))))))
    refine pj_tbind (fun p6 h7 => ?_)
    exact pj_tret (fun hr => pj_ic_ne_t hM (pc := 23) dX7_takeKnown_23 rfl h3 (pj_aload_n hM (pc := 34) dX7_takeKnown_34 rfl rfl (pj_cVv hM (pc := 35) (cR_advance w p6 h7) dX7_takeKnown_35 mf_X7_advance mv_X7_advance ml_X7_106 kc_12 rfl rfl (by decide) rfl rfl (pj_iload_n hM (pc := 38) dX7_takeKnown_38 rfl (pj_ret hM (pc := 39) dX7_takeKnown_39 ⟨_, rfl⟩ (h0 ((x1, p6)) hr) rfl)))))
  refine pj_tbind (fun p8 h9 => ?_)
  exact pj_tret (fun hr => pj_ic_eq_f hM (pc := 10) 21 dX7_takeKnown_10 rfl h2 (pj_aload_n hM (pc := 13) dX7_takeKnown_13 rfl rfl (pj_iconst hM (pc := 14) dX7_takeKnown_14 (by decide) (pj_cV hM (pc := 15) (cR_fail 2 w p8 h9) dX7_takeKnown_15 mf_X7_fail mv_X7_fail ml_X7_103 kc_12 rfl rfl (by decide) rfl rfl (pj_pop hM (pc := 18) dX7_takeKnown_18 (by decide) (pj_iconst hM (pc := 19) dX7_takeKnown_19 (by decide) (pj_ret hM (pc := 20) dX7_takeKnown_20 ⟨_, rfl⟩ (h0 (((-1), p8.2)) hr) rfl)))))))
theorem cR_takeKnown (x1 : Int)  (w : pj_W) (r : Int × pj_W) (h : fR_takeKnown x1 w = some r) : pj_Cn l yX7_takeKnown cX7_takeKnown 2 (some .int) 1 21 true g [(12, 0), (0, x1)] w ((some (0, r.1) : Option pj_V), r.2) :=
  pj_Cn_of rfl (Nat.le_of_ble_eq_true rfl) (lls := [(12, 0), (0, x1)]) rfl (fun Go hM => tR_takeKnown hM x1 w (fun x => ((some (0, x.1) : Option pj_V), x.2) = ((some (0, r.1) : Option pj_V), r.2)) (fun r h => h) r h rfl)
noncomputable def fR_takeFind (x1 : Int) (w : pj_W) : Option (Int × pj_W) :=
  if 0 ≤ (w 12 0 11) ∧ (w 12 0 11) < 901 then (if 0 ≤ x1 then ((fB_findNamed x1 (w 33 0 (w 12 0 11)) w).bind fun p3 => ((fR_takeKnown p3 w).bind fun p5 => (some ((p5.1, p5.2))))) else none) else none
theorem tR_takeFind {Go : pj_C → Prop} (hM : pj_M l yX7_takeFind cX7_takeFind 2 (some .int) 2 42 true g n0 o Go) (x1 : Int) (w : pj_W)  (R : Int × pj_W → Prop) (h0 : ∀ r, R (r) → ((some (0, r.1) : Option pj_V), r.2) = o) : pj_TG R (fR_takeFind x1 w) (Go (0, [(12, 0), (19, x1)], [], w)) := by
  unfold fR_takeFind
  refine pj_tgd (fun h1 => ?_)
  refine pj_tgd (fun h2 => ?_)
  refine pj_tbind (fun p3 h4 => ?_)
  refine pj_tbind (fun p5 h6 => ?_)
  exact pj_tret (fun hr => pj_aload_n hM (pc := 0) dX7_takeFind_0 rfl rfl (pj_aload_n hM (pc := 1) dX7_takeFind_1 rfl rfl (pj_aload_n hM (pc := 2) dX7_takeFind_2 rfl rfl (pj_getF hM (pc := 3) (t := 33) dX7_takeFind_3 fl_X7_22 (by decide) rfl rfl (pj_aload_n hM (pc := 6) dX7_takeFind_6 rfl rfl (pj_gf hM (pc := 7) (t := 0) dX7_takeFind_7 fl_X7_73 (by decide) rfl 11 rfl (pj_lal hM (pc := 10) dX7_takeFind_10 kl_33 (by decide) h1 (pj_cV hM (pc := 11) (cB_findNamed x1 (w 33 0 (w 12 0 11)) h2 w p3 h4) dX7_takeFind_11 mf_X0_findNamed mv_X0_findNamed ml_X7_124 kc_19 rfl rfl h2 rfl rfl (pj_cV hM (pc := 14) (cR_takeKnown p3 w p5 h6) dX7_takeFind_14 mf_X7_takeKnown mv_X7_takeKnown ml_X7_127 kc_12 rfl rfl (by decide) rfl rfl (pj_ret hM (pc := 17) dX7_takeFind_17 ⟨_, rfl⟩ (h0 ((p5.1, p5.2)) hr) rfl))))))))))
theorem cR_takeFind (x1 : Int)  (w : pj_W) (r : Int × pj_W) (h : fR_takeFind x1 w = some r) : pj_Cn l yX7_takeFind cX7_takeFind 2 (some .int) 2 42 true g [(12, 0), (19, x1)] w ((some (0, r.1) : Option pj_V), r.2) :=
  pj_Cn_of rfl (Nat.le_of_ble_eq_true rfl) (lls := [(12, 0), (19, x1)]) rfl (fun Go hM => tR_takeFind hM x1 w (fun x => ((some (0, x.1) : Option pj_V), x.2) = ((some (0, r.1) : Option pj_V), r.2)) (fun r h => h) r h rfl)
noncomputable def fR_takeFindBehind (x1 : Int) (x2 : Int) (w : pj_W) : Option (Int × pj_W) :=
  (fR_takeWord x1 w).bind fun p1 => (if p1.1 = 0 then (some (((-1), p1.2))) else ((fR_takeFind x2 p1.2).bind fun p4 => (some ((p4.1, p4.2)))))
theorem tR_takeFindBehind {Go : pj_C → Prop} (hM : pj_M l yX7_takeFindBehind cX7_takeFindBehind 3 (some .int) 3 63 true g n0 o Go) (x1 : Int) (x2 : Int) (w : pj_W)  (R : Int × pj_W → Prop) (h0 : ∀ r, R (r) → ((some (0, r.1) : Option pj_V), r.2) = o) : pj_TG R (fR_takeFindBehind x1 x2 w) (Go (0, [(12, 0), (0, x1), (19, x2)], [], w)) := by
  unfold fR_takeFindBehind
  refine pj_tbind (fun p1 h2 => ?_)
  refine pj_map (fun k => pj_aload_n hM (pc := 0) dX7_takeFindBehind_0 rfl rfl (pj_iload_n hM (pc := 1) dX7_takeFindBehind_1 rfl (pj_cV hM (pc := 2) (cR_takeWord x1 w p1 h2) dX7_takeFindBehind_2 mf_X7_takeWord mv_X7_takeWord ml_X7_111 kc_12 rfl rfl (by decide) rfl rfl k))) ?_
  refine pj_tif (fun h3 => ?_) (fun h3 => ?_)
  · exact pj_tret (fun hr => pj_if_eq_t hM (pc := 5) dX7_takeFindBehind_5 rfl h3 (pj_iconst hM (pc := 16) dX7_takeFindBehind_16 (by decide) (pj_ret hM (pc := 17) dX7_takeFindBehind_17 ⟨_, rfl⟩ (h0 (((-1), p1.2)) hr) rfl)))
  refine pj_tbind (fun p4 h5 => ?_)
  exact pj_tret (fun hr => pj_if_eq_f hM (pc := 5) 16 dX7_takeFindBehind_5 rfl h3 (pj_aload_n hM (pc := 8) dX7_takeFindBehind_8 rfl rfl (pj_aload_n hM (pc := 9) dX7_takeFindBehind_9 rfl rfl (pj_cV hM (pc := 10) (cR_takeFind x2 p1.2 p4 h5) dX7_takeFindBehind_10 mf_X7_takeFind mv_X7_takeFind ml_X7_131 kc_12 rfl rfl (by decide) rfl rfl (pj_goto hM (pc := 13) dX7_takeFindBehind_13 rfl (pj_ret hM (pc := 17) dX7_takeFindBehind_17 ⟨_, rfl⟩ (h0 ((p4.1, p4.2)) hr) rfl))))))
theorem cR_takeFindBehind (x1 : Int) (x2 : Int)  (w : pj_W) (r : Int × pj_W) (h : fR_takeFindBehind x1 x2 w = some r) : pj_Cn l yX7_takeFindBehind cX7_takeFindBehind 3 (some .int) 3 63 true g [(12, 0), (0, x1), (19, x2)] w ((some (0, r.1) : Option pj_V), r.2) :=
  pj_Cn_of rfl (Nat.le_of_ble_eq_true rfl) (lls := [(12, 0), (0, x1), (19, x2)]) rfl (fun Go hM => tR_takeFindBehind hM x1 x2 w (fun x => ((some (0, x.1) : Option pj_V), x.2) = ((some (0, r.1) : Option pj_V), r.2)) (fun r h => h) r h rfl)
noncomputable def fR_takeFinder (x1 : Int) (w : pj_W) : Option (Int × pj_W) :=
  if 0 ≤ (w 12 0 11) ∧ (w 12 0 11) < 901 then (if 0 ≤ x1 then ((fB_finderNamed x1 (w 33 0 (w 12 0 11)) w).bind fun p3 => ((fR_takeKnown p3 w).bind fun p5 => (some ((p5.1, p5.2))))) else none) else none
theorem tR_takeFinder {Go : pj_C → Prop} (hM : pj_M l yX7_takeFinder cX7_takeFinder 2 (some .int) 2 42 true g n0 o Go) (x1 : Int) (w : pj_W)  (R : Int × pj_W → Prop) (h0 : ∀ r, R (r) → ((some (0, r.1) : Option pj_V), r.2) = o) : pj_TG R (fR_takeFinder x1 w) (Go (0, [(12, 0), (19, x1)], [], w)) := by
  unfold fR_takeFinder
  refine pj_tgd (fun h1 => ?_)
  refine pj_tgd (fun h2 => ?_)
  refine pj_tbind (fun p3 h4 => ?_)
  refine pj_tbind (fun p5 h6 => ?_)
  exact pj_tret (fun hr => pj_aload_n hM (pc := 0) dX7_takeFinder_0 rfl rfl (pj_aload_n hM (pc := 1) dX7_takeFinder_1 rfl rfl (pj_aload_n hM (pc := 2) dX7_takeFinder_2 rfl rfl (pj_getF hM (pc := 3) (t := 33) dX7_takeFinder_3 fl_X7_22 (by decide) rfl rfl (pj_aload_n hM (pc := 6) dX7_takeFinder_6 rfl rfl (pj_gf hM (pc := 7) (t := 0) dX7_takeFinder_7 fl_X7_73 (by decide) rfl 11 rfl (pj_lal hM (pc := 10) dX7_takeFinder_10 kl_33 (by decide) h1 (pj_cV hM (pc := 11) (cB_finderNamed x1 (w 33 0 (w 12 0 11)) h2 w p3 h4) dX7_takeFinder_11 mf_X0_finderNamed mv_X0_finderNamed ml_X7_119 kc_19 rfl rfl h2 rfl rfl (pj_cV hM (pc := 14) (cR_takeKnown p3 w p5 h6) dX7_takeFinder_14 mf_X7_takeKnown mv_X7_takeKnown ml_X7_127 kc_12 rfl rfl (by decide) rfl rfl (pj_ret hM (pc := 17) dX7_takeFinder_17 ⟨_, rfl⟩ (h0 ((p5.1, p5.2)) hr) rfl))))))))))
theorem cR_takeFinder (x1 : Int)  (w : pj_W) (r : Int × pj_W) (h : fR_takeFinder x1 w = some r) : pj_Cn l yX7_takeFinder cX7_takeFinder 2 (some .int) 2 42 true g [(12, 0), (19, x1)] w ((some (0, r.1) : Option pj_V), r.2) :=
  pj_Cn_of rfl (Nat.le_of_ble_eq_true rfl) (lls := [(12, 0), (19, x1)]) rfl (fun Go hM => tR_takeFinder hM x1 w (fun x => ((some (0, x.1) : Option pj_V), x.2) = ((some (0, r.1) : Option pj_V), r.2)) (fun r h => h) r h rfl)
noncomputable def fBT_takePebblePart_59 (s0 : Int) (w : pj_W) : Option (Int × pj_W) :=
  if s0 = (-1) then (some ((0, w))) else ((fR_takeFindBehind 11 (w 13 0 1) w).bind fun p2 => (if 0 ≤ (w 13 0 1) then ((fB_findAt (w 13 0 1) p2.1 p2.2).bind fun p5 => (if p5 < 0 then (some ((0, p2.2))) else (if 0 ≤ (p2.2 13 0 1) then ((fR_takeNumberBehind 4 0 (p2.2 19 (p2.2 13 0 1) 3) p2.2).bind fun p9 => (if p9.1 = (-1) then (some ((0, p9.2))) else ((fN_insert p5 s0 p9.1 p9.2).bind fun p12 => ((fR_takeSign 59 p12).bind fun p14 => (if p14.1 = 0 ∨ p14.1 = 1 then (some ((p14.1, p14.2))) else none))))) else none))) else none))
noncomputable def fBT_takePebblePart  (w : pj_W) : Option (Int × pj_W) :=
  if 0 ≤ (w 13 0 1) then ((fB_lying (w 13 0 1) w).bind fun p2 => (if p2 < 30 then ((fR_takeWord 9 w).bind fun p5 => ((fR_takeWord 10 p5.2).bind fun p7 => (if p7.1 = 0 then (fBT_takePebblePart_59 (-1) p7.2) else ((fR_takeFinder (p7.2 13 0 1) p7.2).bind fun p10 => (fBT_takePebblePart_59 p10.1 p10.2))))) else ((fR_fail 6 w).bind fun p12 => (if p12.1 = 0 ∨ p12.1 = 1 then (some ((p12.1, p12.2))) else none)))) else none
theorem tBT_takePebblePart_59 {Go : pj_C → Prop} (hM : pj_M l yX1_takePebblePart cX1_takePebblePart 4 (some .boolean) 4 85 true g n0 o Go) (s0 : Int) (w : pj_W)  (R : Int × pj_W → Prop) (h0 : ∀ r, R (r) → ((some (0, r.1) : Option pj_V), r.2) = o) : pj_TG R (fBT_takePebblePart_59 s0 w) (Go (59, [(13, 0), (9, 0), (9, 0), (9, 0)], [(0, s0)], w)) := by
  unfold fBT_takePebblePart_59
  refine pj_map (fun k => pj_istore_n hM (pc := 59) dX1_takePebblePart_59 (by decide) (lls' := [(13, 0), (0, s0), (9, 0), (9, 0)]) rfl (pj_iload_n hM (pc := 60) dX1_takePebblePart_60 rfl (pj_iconst hM (pc := 61) dX1_takePebblePart_61 (by decide) k))) ?_
  refine pj_tif (fun h1 => ?_) (fun h1 => ?_)
  · exact pj_tret (fun hr => pj_ic_ne_f hM (pc := 62) 67 dX1_takePebblePart_62 rfl (fun q => q h1) (pj_iconst hM (pc := 65) dX1_takePebblePart_65 (by decide) (pj_ret hM (pc := 66) dX1_takePebblePart_66 ⟨_, rfl, Or.inl rfl⟩ (h0 ((0, w)) hr) rfl)))
  refine pj_tbind (fun p2 h3 => ?_)
  refine pj_tgd (fun h4 => ?_)
  refine pj_tbind (fun p5 h6 => ?_)
  refine pj_map (fun k => pj_ic_ne_t hM (pc := 62) dX1_takePebblePart_62 rfl h1 (pj_aload_n hM (pc := 67) dX1_takePebblePart_67 rfl rfl (pj_gf hM (pc := 68) (t := 19) dX1_takePebblePart_68 fl_X1_15 (by decide) rfl 1 rfl (pj_aload_n hM (pc := 71) dX1_takePebblePart_71 rfl rfl (pj_getF hM (pc := 72) (t := 12) dX1_takePebblePart_72 fl_X1_9 (by decide) rfl rfl (pj_bipush hM (pc := 75) dX1_takePebblePart_75 (by decide) (pj_aload_n hM (pc := 77) dX1_takePebblePart_77 rfl rfl (pj_gf hM (pc := 78) (t := 19) dX1_takePebblePart_78 fl_X1_15 (by decide) rfl 1 rfl (pj_cV hM (pc := 81) (cR_takeFindBehind 11 (w 13 0 1) w p2 h3) dX1_takePebblePart_81 mf_X7_takeFindBehind mv_X7_takeFindBehind ml_X1_110 kc_12 rfl rfl (by decide) rfl rfl (pj_cV hM (pc := 84) (cB_findAt (w 13 0 1) p2.1 h4 p2.2 p5 h6) dX1_takePebblePart_84 mf_X0_findAt mv_X0_findAt ml_X1_114 kc_19 rfl rfl h4 rfl rfl (pj_astore_n hM (pc := 87) dX1_takePebblePart_87 (by decide) (by decide) (lls' := [(13, 0), (0, s0), (23, p5), (9, 0)]) rfl (pj_aload_n hM (pc := 88) dX1_takePebblePart_88 rfl rfl k)))))))))))) ?_
  refine pj_tif (fun h7 => ?_) (fun h7 => ?_)
  · exact pj_tret (fun hr => pj_nonnull_f hM (pc := 89) 94 dX1_takePebblePart_89 rfl (by decide) h7 (pj_iconst hM (pc := 92) dX1_takePebblePart_92 (by decide) (pj_ret hM (pc := 93) dX1_takePebblePart_93 ⟨_, rfl, Or.inl rfl⟩ (h0 ((0, p2.2)) hr) rfl)))
  refine pj_tgd (fun h8 => ?_)
  refine pj_tbind (fun p9 h10 => ?_)
  refine pj_map (fun k => pj_nonnull_t hM (pc := 89) dX1_takePebblePart_89 rfl (by decide) h7 (pj_aload_n hM (pc := 94) dX1_takePebblePart_94 rfl rfl (pj_getF hM (pc := 95) (t := 12) dX1_takePebblePart_95 fl_X1_9 (by decide) rfl rfl (pj_iconst hM (pc := 98) dX1_takePebblePart_98 (by decide) (pj_iconst hM (pc := 99) dX1_takePebblePart_99 (by decide) (pj_aload_n hM (pc := 100) dX1_takePebblePart_100 rfl rfl (pj_gf hM (pc := 101) (t := 19) dX1_takePebblePart_101 fl_X1_15 (by decide) rfl 1 rfl (pj_gf hM (pc := 104) (t := 0) dX1_takePebblePart_104 fl_X1_50 h8 rfl 3 rfl (pj_cV hM (pc := 107) (cR_takeNumberBehind 4 0 (p2.2 19 (p2.2 13 0 1) 3) p2.2 p9 h10) dX1_takePebblePart_107 mf_X7_takeNumberBehind mv_X7_takeNumberBehind ml_X1_42 kc_12 rfl rfl (by decide) rfl rfl (pj_istore_n hM (pc := 110) dX1_takePebblePart_110 (by decide) (lls' := [(13, 0), (0, s0), (23, p5), (0, p9.1)]) rfl (pj_iload_n hM (pc := 111) dX1_takePebblePart_111 rfl (pj_iconst hM (pc := 112) dX1_takePebblePart_112 (by decide) k)))))))))))) ?_
  refine pj_tif (fun h11 => ?_) (fun h11 => ?_)
  · exact pj_tret (fun hr => pj_ic_ne_f hM (pc := 113) 118 dX1_takePebblePart_113 rfl (fun q => q h11) (pj_iconst hM (pc := 116) dX1_takePebblePart_116 (by decide) (pj_ret hM (pc := 117) dX1_takePebblePart_117 ⟨_, rfl, Or.inl rfl⟩ (h0 ((0, p9.2)) hr) rfl)))
  refine pj_tbind (fun p12 h13 => ?_)
  refine pj_tbind (fun p14 h15 => ?_)
  refine pj_tgd (fun h16 => ?_)
  exact pj_tret (fun hr => pj_ic_ne_t hM (pc := 113) dX1_takePebblePart_113 rfl h11 (pj_aload_n hM (pc := 118) dX1_takePebblePart_118 rfl rfl (pj_iload_n hM (pc := 119) dX1_takePebblePart_119 rfl (pj_iload_n hM (pc := 120) dX1_takePebblePart_120 rfl (pj_cVv hM (pc := 121) (cN_insert p5 s0 p9.1 (Int.not_lt.mp h7) p9.2 p12 h13) dX1_takePebblePart_121 mf_X4_insert mv_X4_insert ml_X1_118 kc_23 rfl rfl (Int.not_lt.mp h7) rfl rfl (pj_aload_n hM (pc := 124) dX1_takePebblePart_124 rfl rfl (pj_getF hM (pc := 125) (t := 12) dX1_takePebblePart_125 fl_X1_9 (by decide) rfl rfl (pj_bipush hM (pc := 128) dX1_takePebblePart_128 (by decide) (pj_cV hM (pc := 130) (cR_takeSign 59 p12 p14 h15) dX1_takePebblePart_130 mf_X7_takeSign mv_X7_takeSign ml_X1_60 kc_12 rfl rfl (by decide) rfl rfl (pj_ret hM (pc := 133) dX1_takePebblePart_133 ⟨_, rfl, h16⟩ (h0 ((p14.1, p14.2)) hr) rfl))))))))))
theorem tBT_takePebblePart {Go : pj_C → Prop} (hM : pj_M l yX1_takePebblePart cX1_takePebblePart 4 (some .boolean) 4 85 true g n0 o Go)  (w : pj_W)  (R : Int × pj_W → Prop) (h0 : ∀ r, R (r) → ((some (0, r.1) : Option pj_V), r.2) = o) : pj_TG R (fBT_takePebblePart  w) (Go (0, [(13, 0), (9, 0), (9, 0), (9, 0)], [], w)) := by
  unfold fBT_takePebblePart
  refine pj_tgd (fun h1 => ?_)
  refine pj_tbind (fun p2 h3 => ?_)
  refine pj_map (fun k => pj_aload_n hM (pc := 0) dX1_takePebblePart_0 rfl rfl (pj_gf hM (pc := 1) (t := 19) dX1_takePebblePart_1 fl_X1_15 (by decide) rfl 1 rfl (pj_cV hM (pc := 4) (cB_lying (w 13 0 1) h1 w p2 h3) dX1_takePebblePart_4 mf_X0_lying mv_X0_lying ml_X1_103 kc_19 rfl rfl h1 rfl rfl (pj_bipush hM (pc := 7) dX1_takePebblePart_7 (by decide) k)))) ?_
  refine pj_tif (fun h4 => ?_) (fun h4 => ?_)
  · refine pj_tbind (fun p5 h6 => ?_)
    refine pj_tbind (fun p7 h8 => ?_)
    refine pj_map (fun k => pj_ic_lt_t hM (pc := 9) dX1_takePebblePart_9 rfl h4 (pj_aload_n hM (pc := 22) dX1_takePebblePart_22 rfl rfl (pj_getF hM (pc := 23) (t := 12) dX1_takePebblePart_23 fl_X1_9 (by decide) rfl rfl (pj_bipush hM (pc := 26) dX1_takePebblePart_26 (by decide) (pj_cV hM (pc := 28) (cR_takeWord 9 w p5 h6) dX1_takePebblePart_28 mf_X7_takeWord mv_X7_takeWord ml_X1_83 kc_12 rfl rfl (by decide) rfl rfl (pj_pop hM (pc := 31) dX1_takePebblePart_31 (by decide) (pj_aload_n hM (pc := 32) dX1_takePebblePart_32 rfl rfl (pj_getF hM (pc := 33) (t := 12) dX1_takePebblePart_33 fl_X1_9 (by decide) rfl rfl (pj_bipush hM (pc := 36) dX1_takePebblePart_36 (by decide) (pj_cV hM (pc := 38) (cR_takeWord 10 p5.2 p7 h8) dX1_takePebblePart_38 mf_X7_takeWord mv_X7_takeWord ml_X1_83 kc_12 rfl rfl (by decide) rfl rfl k)))))))))) ?_
    refine pj_tif (fun h9 => ?_) (fun h9 => ?_)
    · refine pj_map (fun k => pj_if_eq_t hM (pc := 41) dX1_takePebblePart_41 rfl h9 (pj_iconst hM (pc := 58) dX1_takePebblePart_58 (by decide) (pj_kill hM [true, false, false, false] (lls' := [(13, 0), (9, 0), (9, 0), (9, 0)]) rfl k))) ?_
      exact tBT_takePebblePart_59 hM (-1) p7.2 _ h0
    refine pj_tbind (fun p10 h11 => ?_)
    refine pj_map (fun k => pj_if_eq_f hM (pc := 41) 58 dX1_takePebblePart_41 rfl h9 (pj_aload_n hM (pc := 44) dX1_takePebblePart_44 rfl rfl (pj_getF hM (pc := 45) (t := 12) dX1_takePebblePart_45 fl_X1_9 (by decide) rfl rfl (pj_aload_n hM (pc := 48) dX1_takePebblePart_48 rfl rfl (pj_gf hM (pc := 49) (t := 19) dX1_takePebblePart_49 fl_X1_15 (by decide) rfl 1 rfl (pj_cV hM (pc := 52) (cR_takeFinder (p7.2 13 0 1) p7.2 p10 h11) dX1_takePebblePart_52 mf_X7_takeFinder mv_X7_takeFinder ml_X1_106 kc_12 rfl rfl (by decide) rfl rfl (pj_goto hM (pc := 55) dX1_takePebblePart_55 rfl (pj_kill hM [true, false, false, false] (lls' := [(13, 0), (9, 0), (9, 0), (9, 0)]) rfl k)))))))) ?_
    exact tBT_takePebblePart_59 hM p10.1 p10.2 _ h0
  refine pj_tbind (fun p12 h13 => ?_)
  refine pj_tgd (fun h14 => ?_)
  exact pj_tret (fun hr => pj_ic_lt_f hM (pc := 9) 22 dX1_takePebblePart_9 rfl h4 (pj_aload_n hM (pc := 12) dX1_takePebblePart_12 rfl rfl (pj_getF hM (pc := 13) (t := 12) dX1_takePebblePart_13 fl_X1_9 (by decide) rfl rfl (pj_bipush hM (pc := 16) dX1_takePebblePart_16 (by decide) (pj_cV hM (pc := 18) (cR_fail 6 w p12 h13) dX1_takePebblePart_18 mf_X7_fail mv_X7_fail ml_X1_76 kc_12 rfl rfl (by decide) rfl rfl (pj_ret hM (pc := 21) dX1_takePebblePart_21 ⟨_, rfl, h14⟩ (h0 ((p12.1, p12.2)) hr) rfl))))))
theorem cBT_takePebblePart   (w : pj_W) (r : Int × pj_W) (h : fBT_takePebblePart  w = some r) : pj_Cn l yX1_takePebblePart cX1_takePebblePart 4 (some .boolean) 4 85 true g [(13, 0)] w ((some (0, r.1) : Option pj_V), r.2) :=
  pj_Cn_of rfl (Nat.le_of_ble_eq_true rfl) (lls := [(13, 0), (9, 0), (9, 0), (9, 0)]) rfl (fun Go hM => tBT_takePebblePart hM w (fun x => ((some (0, x.1) : Option pj_V), x.2) = ((some (0, r.1) : Option pj_V), r.2)) (fun r h => h) r h rfl)
noncomputable def fBT_takePart_80  (w : pj_W) : Option (Int × pj_W) :=
  (fR_fail 2 w).bind fun p1 => (if p1.1 = 0 ∨ p1.1 = 1 then (some ((p1.1, p1.2))) else none)
noncomputable def fBT_takePart  (w : pj_W) : Option (Int × pj_W) :=
  (fR_wordHere w).bind fun p1 => (if p1 = 3 then ((fBT_takeFinderPart w).bind fun p4 => (if p4.1 = 0 ∨ p4.1 = 1 then (some ((p4.1, p4.2))) else none)) else if p1 = 4 then (fBT_takePart_80 w) else if p1 = 5 then (fBT_takePart_80 w) else if p1 = 6 then (fBT_takePart_80 w) else if p1 = 7 then ((fBT_takeFindPart w).bind fun p11 => (if p11.1 = 0 ∨ p11.1 = 1 then (some ((p11.1, p11.2))) else none)) else if p1 = 8 then (fBT_takePart_80 w) else if p1 = 9 then ((fBT_takePebblePart w).bind fun p16 => (if p16.1 = 0 ∨ p16.1 = 1 then (some ((p16.1, p16.2))) else none)) else if p1 = 10 then (fBT_takePart_80 w) else if p1 = 11 then (fBT_takePart_80 w) else if p1 = 12 then ((fBT_takeDuelPart w).bind fun p22 => (if p22.1 = 0 ∨ p22.1 = 1 then (some ((p22.1, p22.2))) else none)) else (fBT_takePart_80 w))
theorem tBT_takePart_80 {Go : pj_C → Prop} (hM : pj_M l yX1_takePart cX1_takePart 1 (some .boolean) 5 108 true g n0 o Go)  (w : pj_W)  (R : Int × pj_W → Prop) (h0 : ∀ r, R (r) → ((some (0, r.1) : Option pj_V), r.2) = o) : pj_TG R (fBT_takePart_80  w) (Go (80, [(13, 0)], [], w)) := by
  unfold fBT_takePart_80
  refine pj_tbind (fun p1 h2 => ?_)
  refine pj_tgd (fun h3 => ?_)
  exact pj_tret (fun hr => pj_aload_n hM (pc := 80) dX1_takePart_80 rfl rfl (pj_getF hM (pc := 81) (t := 12) dX1_takePart_81 fl_X1_9 (by decide) rfl rfl (pj_iconst hM (pc := 84) dX1_takePart_84 (by decide) (pj_cV hM (pc := 85) (cR_fail 2 w p1 h2) dX1_takePart_85 mf_X7_fail mv_X7_fail ml_X1_76 kc_12 rfl rfl (by decide) rfl rfl (pj_ret hM (pc := 88) dX1_takePart_88 ⟨_, rfl, h3⟩ (h0 ((p1.1, p1.2)) hr) rfl)))))
theorem tBT_takePart {Go : pj_C → Prop} (hM : pj_M l yX1_takePart cX1_takePart 1 (some .boolean) 5 108 true g n0 o Go)  (w : pj_W)  (R : Int × pj_W → Prop) (h0 : ∀ r, R (r) → ((some (0, r.1) : Option pj_V), r.2) = o) : pj_TG R (fBT_takePart  w) (Go (0, [(13, 0)], [], w)) := by
  unfold fBT_takePart
  refine pj_tbind (fun p1 h2 => ?_)
  refine pj_map (fun k => pj_aload_n hM (pc := 0) dX1_takePart_0 rfl rfl (pj_getF hM (pc := 1) (t := 12) dX1_takePart_1 fl_X1_9 (by decide) rfl rfl (pj_cV hM (pc := 4) (cR_wordHere w p1 h2) dX1_takePart_4 mf_X7_wordHere mv_X7_wordHere ml_X1_53 kc_12 rfl rfl (by decide) rfl rfl k))) ?_
  refine pj_tif (fun h3 => ?_) (fun h3 => ?_)
  · refine pj_tbind (fun p4 h5 => ?_)
    refine pj_tgd (fun h6 => ?_)
    exact pj_tret (fun hr => pj_table hM (pc := 7) (tgt := 60) dX1_takePart_7 (by decide) (by rw [h3]; decide) (pj_aload_n hM (pc := 60) dX1_takePart_60 rfl rfl (pj_cV hM (pc := 61) (cBT_takeFinderPart w p4 h5) dX1_takePart_61 mf_X1_takeFinderPart mv_X1_takeFinderPart ml_X1_64 kc_13 rfl rfl (by decide) rfl rfl (pj_ret hM (pc := 64) dX1_takePart_64 ⟨_, rfl, h6⟩ (h0 ((p4.1, p4.2)) hr) rfl))))
  refine pj_tif (fun h7 => ?_) (fun h7 => ?_)
  · refine pj_map (fun k => pj_table hM (pc := 7) (tgt := 80) dX1_takePart_7 (by decide) (by rw [h7]; decide) (pj_kill hM [true] (lls' := [(13, 0)]) rfl k)) ?_
    exact tBT_takePart_80 hM w _ h0
  refine pj_tif (fun h8 => ?_) (fun h8 => ?_)
  · refine pj_map (fun k => pj_table hM (pc := 7) (tgt := 80) dX1_takePart_7 (by decide) (by rw [h8]; decide) (pj_kill hM [true] (lls' := [(13, 0)]) rfl k)) ?_
    exact tBT_takePart_80 hM w _ h0
  refine pj_tif (fun h9 => ?_) (fun h9 => ?_)
  · refine pj_map (fun k => pj_table hM (pc := 7) (tgt := 80) dX1_takePart_7 (by decide) (by rw [h9]; decide) (pj_kill hM [true] (lls' := [(13, 0)]) rfl k)) ?_
    exact tBT_takePart_80 hM w _ h0
  refine pj_tif (fun h10 => ?_) (fun h10 => ?_)
  · refine pj_tbind (fun p11 h12 => ?_)
    refine pj_tgd (fun h13 => ?_)
    exact pj_tret (fun hr => pj_table hM (pc := 7) (tgt := 65) dX1_takePart_7 (by decide) (by rw [h10]; decide) (pj_aload_n hM (pc := 65) dX1_takePart_65 rfl rfl (pj_cV hM (pc := 66) (cBT_takeFindPart w p11 h12) dX1_takePart_66 mf_X1_takeFindPart mv_X1_takeFindPart ml_X1_67 kc_13 rfl rfl (by decide) rfl rfl (pj_ret hM (pc := 69) dX1_takePart_69 ⟨_, rfl, h13⟩ (h0 ((p11.1, p11.2)) hr) rfl))))
  refine pj_tif (fun h14 => ?_) (fun h14 => ?_)
  · refine pj_map (fun k => pj_table hM (pc := 7) (tgt := 80) dX1_takePart_7 (by decide) (by rw [h14]; decide) (pj_kill hM [true] (lls' := [(13, 0)]) rfl k)) ?_
    exact tBT_takePart_80 hM w _ h0
  refine pj_tif (fun h15 => ?_) (fun h15 => ?_)
  · refine pj_tbind (fun p16 h17 => ?_)
    refine pj_tgd (fun h18 => ?_)
    exact pj_tret (fun hr => pj_table hM (pc := 7) (tgt := 70) dX1_takePart_7 (by decide) (by rw [h15]; decide) (pj_aload_n hM (pc := 70) dX1_takePart_70 rfl rfl (pj_cV hM (pc := 71) (cBT_takePebblePart w p16 h17) dX1_takePart_71 mf_X1_takePebblePart mv_X1_takePebblePart ml_X1_70 kc_13 rfl rfl (by decide) rfl rfl (pj_ret hM (pc := 74) dX1_takePart_74 ⟨_, rfl, h18⟩ (h0 ((p16.1, p16.2)) hr) rfl))))
  refine pj_tif (fun h19 => ?_) (fun h19 => ?_)
  · refine pj_map (fun k => pj_table hM (pc := 7) (tgt := 80) dX1_takePart_7 (by decide) (by rw [h19]; decide) (pj_kill hM [true] (lls' := [(13, 0)]) rfl k)) ?_
    exact tBT_takePart_80 hM w _ h0
  refine pj_tif (fun h20 => ?_) (fun h20 => ?_)
  · refine pj_map (fun k => pj_table hM (pc := 7) (tgt := 80) dX1_takePart_7 (by decide) (by rw [h20]; decide) (pj_kill hM [true] (lls' := [(13, 0)]) rfl k)) ?_
    exact tBT_takePart_80 hM w _ h0
  refine pj_tif (fun h21 => ?_) (fun h21 => ?_)
  · refine pj_tbind (fun p22 h23 => ?_)
    refine pj_tgd (fun h24 => ?_)
    exact pj_tret (fun hr => pj_table hM (pc := 7) (tgt := 75) dX1_takePart_7 (by decide) (by rw [h21]; decide) (pj_aload_n hM (pc := 75) dX1_takePart_75 rfl rfl (pj_cV hM (pc := 76) (cBT_takeDuelPart w p22 h23) dX1_takePart_76 mf_X1_takeDuelPart mv_X1_takeDuelPart ml_X1_73 kc_13 rfl rfl (by decide) rfl rfl (pj_ret hM (pc := 79) dX1_takePart_79 ⟨_, rfl, h24⟩ (h0 ((p22.1, p22.2)) hr) rfl))))
  refine pj_map (fun k => pj_table hM (pc := 7) (tgt := 80) dX1_takePart_7 (by decide) (by have e9 : p1 < 3 ∨ 12 < p1 := (by omega); unfold pj_tab; rw [if_pos e9]; decide) (pj_kill hM [true] (lls' := [(13, 0)]) rfl k)) ?_
  exact tBT_takePart_80 hM w _ h0
theorem cBT_takePart   (w : pj_W) (r : Int × pj_W) (h : fBT_takePart  w = some r) : pj_Cn l yX1_takePart cX1_takePart 1 (some .boolean) 5 108 true g [(13, 0)] w ((some (0, r.1) : Option pj_V), r.2) :=
  pj_Cn_of rfl (Nat.le_of_ble_eq_true rfl) (lls := [(13, 0)]) rfl (fun Go hM => tBT_takePart hM w (fun x => ((some (0, x.1) : Option pj_V), x.2) = ((some (0, r.1) : Option pj_V), r.2)) (fun r h => h) r h rfl)
noncomputable def fR_isOver  (w : pj_W) : Option (Int) :=
  if 0 ≤ (w 12 0 11) ∧ (w 12 0 11) < 901 then (if (w 31 0 (w 12 0 11)) = 0 then (some (1)) else (some (0))) else none
theorem tR_isOver {Go : pj_C → Prop} (hM : pj_M l yX7_isOver cX7_isOver 1 (some .boolean) 0 0 true g n0 o Go)  (w : pj_W)  (R : Int → Prop) (h0 : ∀ r, R (r) → ((some (0, r) : Option pj_V), w) = o) : pj_TG R (fR_isOver  w) (Go (0, [(12, 0)], [], w)) := by
  unfold fR_isOver
  refine pj_tgd (fun h1 => ?_)
  refine pj_map (fun k => pj_aload_n hM (pc := 0) dX7_isOver_0 rfl rfl (pj_getF hM (pc := 1) (t := 31) dX7_isOver_1 fl_X7_15 (by decide) rfl rfl (pj_aload_n hM (pc := 4) dX7_isOver_4 rfl rfl (pj_gf hM (pc := 5) (t := 0) dX7_isOver_5 fl_X7_73 (by decide) rfl 11 rfl (pj_ial hM (pc := 8) dX7_isOver_8 ki_31 (by decide) h1 k))))) ?_
  refine pj_tif (fun h2 => ?_) (fun h2 => ?_)
  · exact pj_tret (fun hr => pj_if_ne_f hM (pc := 9) 16 dX7_isOver_9 rfl (fun q => q h2) (pj_iconst hM (pc := 12) dX7_isOver_12 (by decide) (pj_goto hM (pc := 13) dX7_isOver_13 rfl (pj_ret hM (pc := 17) dX7_isOver_17 ⟨_, rfl, Or.inr rfl⟩ (h0 (1) hr) rfl))))
  exact pj_tret (fun hr => pj_if_ne_t hM (pc := 9) dX7_isOver_9 rfl h2 (pj_iconst hM (pc := 16) dX7_isOver_16 (by decide) (pj_ret hM (pc := 17) dX7_isOver_17 ⟨_, rfl, Or.inl rfl⟩ (h0 (0) hr) rfl)))
theorem cR_isOver   (w : pj_W) (r : Int) (h : fR_isOver  w = some r) : pj_Cn l yX7_isOver cX7_isOver 1 (some .boolean) 0 0 true g [(12, 0)] w ((some (0, r) : Option pj_V), w) :=
  pj_Cn_of rfl (Nat.le_of_ble_eq_true rfl) (lls := [(12, 0)]) rfl (fun Go hM => tR_isOver hM w (fun x => ((some (0, x) : Option pj_V), w) = ((some (0, r) : Option pj_V), w)) (fun r h => h) r h rfl)
noncomputable def fBT_takeBeach_24b  (x2 : Int) (x3 : Int) (w : pj_W) : Option ((Int × Int × pj_W) ⊕ (Int × pj_W)) :=
  if 900 ≤ x3 then (if x2 = 0 ∨ x2 = 1 then (some (Sum.inr ((x2, w)))) else none) else (if x2 = 0 then (if x2 = 0 ∨ x2 = 1 then (some (Sum.inr ((x2, w)))) else none) else ((fR_isOver w).bind fun p5 => (if p5 = 0 then ((fBT_takePart w).bind fun p8 => (some (Sum.inl (p8.1, (pj_wr (x3 + 1)), p8.2)))) else (if x2 = 0 ∨ x2 = 1 then (some (Sum.inr ((x2, w)))) else none))))
noncomputable def fBT_takeBeach_24  (s : (Int × Int × pj_W)) : Option (Int × pj_W) := pj_Lp (fun s : (Int × Int × pj_W) => fBT_takeBeach_24b  s.1 s.2.1 s.2.2) s
noncomputable def fBT_takeBeach (x1 : Int) (w : pj_W) : Option (Int × pj_W) :=
  if 0 ≤ ((pj_set w 13 0 1 x1) 13 0 1) then ((fB_clear ((pj_set w 13 0 1 x1) 13 0 1) (pj_set w 13 0 1 x1)).bind fun p2 => ((fBT_takeHead (pj_set p2 13 0 2 0)).bind fun p4 => (fBT_takeBeach_24 (p4.1, 0, p4.2)))) else none
theorem tBT_takeBeach_24b {Go : pj_C → Prop} (hM : pj_M l yX1_takeBeach cX1_takeBeach 4 (some .boolean) 6 128 true g n0 o Go)  (x2 : Int) (x3 : Int) (w : pj_W)  (R : (Int × Int × pj_W) ⊕ (Int × pj_W) → Prop) (h0 : ∀ r, R (Sum.inr (r)) → ((some (0, r.1) : Option pj_V), r.2) = o) (hk24 : ∀ s, R (Sum.inl s) → Go (24, [(13, 0), (9, 0), (0, s.1), (0, s.2.1)], [], s.2.2)) : pj_TG R (fBT_takeBeach_24b  x2 x3 w) (Go (24, [(13, 0), (9, 0), (0, x2), (0, x3)], [], w)) := by
  unfold fBT_takeBeach_24b
  refine pj_map (fun k => pj_iload_n hM (pc := 24) dX1_takeBeach_24 rfl (pj_sipush hM (pc := 25) dX1_takeBeach_25 (by decide) k)) ?_
  refine pj_tif (fun h1 => ?_) (fun h1 => ?_)
  · refine pj_tgd (fun h2 => ?_)
    exact pj_tret (fun hr => pj_ic_ge_t hM (pc := 28) dX1_takeBeach_28 rfl h1 (pj_iload_n hM (pc := 56) dX1_takeBeach_56 rfl (pj_ret hM (pc := 57) dX1_takeBeach_57 ⟨_, rfl, h2⟩ (h0 ((x2, w)) hr) rfl)))
  refine pj_map (fun k => pj_ic_ge_f hM (pc := 28) 56 dX1_takeBeach_28 rfl h1 (pj_iload_n hM (pc := 31) dX1_takeBeach_31 rfl k)) ?_
  refine pj_tif (fun h3 => ?_) (fun h3 => ?_)
  · refine pj_tgd (fun h4 => ?_)
    exact pj_tret (fun hr => pj_if_eq_t hM (pc := 32) dX1_takeBeach_32 rfl h3 (pj_iload_n hM (pc := 56) dX1_takeBeach_56 rfl (pj_ret hM (pc := 57) dX1_takeBeach_57 ⟨_, rfl, h4⟩ (h0 ((x2, w)) hr) rfl)))
  refine pj_tbind (fun p5 h6 => ?_)
  refine pj_map (fun k => pj_if_eq_f hM (pc := 32) 56 dX1_takeBeach_32 rfl h3 (pj_aload_n hM (pc := 35) dX1_takeBeach_35 rfl rfl (pj_getF hM (pc := 36) (t := 12) dX1_takeBeach_36 fl_X1_9 (by decide) rfl rfl (pj_cV hM (pc := 39) (cR_isOver w p5 h6) dX1_takeBeach_39 mf_X7_isOver mv_X7_isOver ml_X1_34 kc_12 rfl rfl (by decide) rfl rfl k)))) ?_
  refine pj_tif (fun h7 => ?_) (fun h7 => ?_)
  · refine pj_tbind (fun p8 h9 => ?_)
    exact pj_tret (fun hr => pj_if_ne_f hM (pc := 42) 56 dX1_takeBeach_42 rfl (fun q => q h7) (pj_aload_n hM (pc := 45) dX1_takeBeach_45 rfl rfl (pj_cV hM (pc := 46) (cBT_takePart w p8 h9) dX1_takeBeach_46 mf_X1_takePart mv_X1_takePart ml_X1_37 kc_13 rfl rfl (by decide) rfl rfl (pj_istore_n hM (pc := 49) dX1_takeBeach_49 (by decide) (lls' := [(13, 0), (9, 0), (0, p8.1), (0, x3)]) rfl (pj_iinc hM (pc := 50) dX1_takeBeach_50 rfl (by decide) (lls' := [(13, 0), (9, 0), (0, p8.1), (0, (pj_wr (x3 + 1)))]) rfl (pj_goto hM (pc := 53) dX1_takeBeach_53 rfl (pj_kill hM [true, false, true, true] (lls' := [(13, 0), (9, 0), (0, p8.1), (0, (pj_wr (x3 + 1)))]) rfl ((hk24 _ hr)))))))))
  refine pj_tgd (fun h10 => ?_)
  exact pj_tret (fun hr => pj_if_ne_t hM (pc := 42) dX1_takeBeach_42 rfl h7 (pj_iload_n hM (pc := 56) dX1_takeBeach_56 rfl (pj_ret hM (pc := 57) dX1_takeBeach_57 ⟨_, rfl, h10⟩ (h0 ((x2, w)) hr) rfl)))
theorem tBT_takeBeach_24 {Go : pj_C → Prop} (hM : pj_M l yX1_takeBeach cX1_takeBeach 4 (some .boolean) 6 128 true g n0 o Go)   (R : Int × pj_W → Prop) (h0 : ∀ r, R (r) → ((some (0, r.1) : Option pj_V), r.2) = o) (s : (Int × Int × pj_W)) : pj_TG R (fBT_takeBeach_24  s) (Go (24, [(13, 0), (9, 0), (0, s.1), (0, s.2.1)], [], s.2.2)) := by
  unfold fBT_takeBeach_24
  exact pj_tLp (G := fun s : (Int × Int × pj_W) => Go (24, [(13, 0), (9, 0), (0, s.1), (0, s.2.1)], [], s.2.2)) (fun s => tBT_takeBeach_24b hM  s.1 s.2.1 s.2.2  _ (fun r h => h0 r h)  (fun s h => h)) s
theorem tBT_takeBeach {Go : pj_C → Prop} (hM : pj_M l yX1_takeBeach cX1_takeBeach 4 (some .boolean) 6 128 true g n0 o Go) (x1 : Int) (w : pj_W)  (R : Int × pj_W → Prop) (h0 : ∀ r, R (r) → ((some (0, r.1) : Option pj_V), r.2) = o) : pj_TG R (fBT_takeBeach x1 w) (Go (0, [(13, 0), (19, x1), (9, 0), (9, 0)], [], w)) := by
  unfold fBT_takeBeach
  refine pj_tgd (fun h1 => ?_)
  refine pj_tbind (fun p2 h3 => ?_)
  refine pj_tbind (fun p4 h5 => ?_)
  refine pj_map (fun k => pj_aload_n hM (pc := 0) dX1_takeBeach_0 rfl rfl (pj_aload_n hM (pc := 1) dX1_takeBeach_1 rfl rfl (pj_pf hM (pc := 2) dX1_takeBeach_2 fl_X1_15 (by decide) rfl (fun h => absurd h (by decide)) (by decide) (fun _ => rfl) 1 rfl (pj_aload_n hM (pc := 5) dX1_takeBeach_5 rfl rfl (pj_gf hM (pc := 6) (t := 19) dX1_takeBeach_6 fl_X1_15 (by decide) rfl 1 rfl (pj_cVv hM (pc := 9) (cB_clear ((pj_set w 13 0 1 x1) 13 0 1) h1 (pj_set w 13 0 1 x1) p2 h3) dX1_takeBeach_9 mf_X0_clear mv_X0_clear ml_X1_19 kc_19 rfl rfl h1 rfl rfl (pj_aload_n hM (pc := 12) dX1_takeBeach_12 rfl rfl (pj_iconst hM (pc := 13) dX1_takeBeach_13 (by decide) (pj_pf hM (pc := 14) dX1_takeBeach_14 fl_X1_24 (by decide) rfl (fun _ => Or.inl rfl) (by decide) (fun _ => rfl) 2 rfl (pj_aload_n hM (pc := 17) dX1_takeBeach_17 rfl rfl (pj_cV hM (pc := 18) (cBT_takeHead (pj_set p2 13 0 2 0) p4 h5) dX1_takeBeach_18 mf_X1_takeHead mv_X1_takeHead ml_X1_28 kc_13 rfl rfl (by decide) rfl rfl (pj_istore_n hM (pc := 21) dX1_takeBeach_21 (by decide) (lls' := [(13, 0), (19, x1), (0, p4.1), (9, 0)]) rfl (pj_iconst hM (pc := 22) dX1_takeBeach_22 (by decide) (pj_istore_n hM (pc := 23) dX1_takeBeach_23 (by decide) (lls' := [(13, 0), (19, x1), (0, p4.1), (0, 0)]) rfl (pj_kill hM [true, false, true, true] (lls' := [(13, 0), (9, 0), (0, p4.1), (0, 0)]) rfl k))))))))))))))) ?_
  exact tBT_takeBeach_24 hM _ h0 _
theorem cBT_takeBeach (x1 : Int)  (w : pj_W) (r : Int × pj_W) (h : fBT_takeBeach x1 w = some r) : pj_Cn l yX1_takeBeach cX1_takeBeach 4 (some .boolean) 6 128 true g [(13, 0), (19, x1)] w ((some (0, r.1) : Option pj_V), r.2) :=
  pj_Cn_of rfl (Nat.le_of_ble_eq_true rfl) (lls := [(13, 0), (19, x1), (9, 0), (9, 0)]) rfl (fun Go hM => tBT_takeBeach hM x1 w (fun x => ((some (0, x.1) : Option pj_V), x.2) = ((some (0, r.1) : Option pj_V), r.2)) (fun r h => h) r h rfl)
noncomputable def fD_clear (i0 : Int) (w : pj_W) : Option (pj_W) :=
  some ((pj_set (pj_set (pj_set w 24 i0 5 0) 24 i0 6 0) 24 i0 7 0))
theorem tD_clear {Go : pj_C → Prop} (hM : pj_M l yX2_clear cX2_clear 1 none 0 0 ph g n0 o Go) (i0 : Int) (w : pj_W) (hn0 : 0 ≤ i0) (R : pj_W → Prop) (h0 : ∀ r, R (r) → ((none : Option pj_V), r) = o) : pj_TG R (fD_clear i0 w) (Go (0, [(24, i0)], [], w)) := by
  unfold fD_clear
  exact pj_tret (fun hr => pj_aload_n hM (pc := 0) dX2_clear_0 rfl rfl (pj_iconst hM (pc := 1) dX2_clear_1 (by decide) (pj_pf hM (pc := 2) dX2_clear_2 fl_X2_27 hn0 rfl (fun _ => Or.inl rfl) (by decide) (fun _ => rfl) 5 rfl (pj_aload_n hM (pc := 5) dX2_clear_5 rfl rfl (pj_iconst hM (pc := 6) dX2_clear_6 (by decide) (pj_pf hM (pc := 7) dX2_clear_7 fl_X2_31 hn0 rfl (fun h => absurd h (by decide)) (by decide) (fun _ => rfl) 6 rfl (pj_aload_n hM (pc := 10) dX2_clear_10 rfl rfl (pj_iconst hM (pc := 11) dX2_clear_11 (by decide) (pj_pf hM (pc := 12) dX2_clear_12 fl_X2_35 hn0 rfl (fun h => absurd h (by decide)) (by decide) (fun _ => rfl) 7 rfl (pj_ret hM (pc := 15) dX2_clear_15 rfl (h0 ((pj_set (pj_set (pj_set w 24 i0 5 0) 24 i0 6 0) 24 i0 7 0)) hr) rfl))))))))))
theorem cD_clear (i0 : Int) (hn0 : 0 ≤ i0) (w : pj_W) (r : pj_W) (h : fD_clear i0 w = some r) : pj_Cn l yX2_clear cX2_clear 1 none 0 0 ph g [(24, i0)] w ((none : Option pj_V), r) :=
  pj_Cn_of rfl (Nat.le_of_ble_eq_true rfl) (lls := [(24, i0)]) rfl (fun Go hM => tD_clear hM i0 w hn0 (fun x => ((none : Option pj_V), x) = ((none : Option pj_V), r)) (fun r h => h) r h rfl)
noncomputable def fR_addToken (x1 : Int) (x2 : Int) (x3 : Int) (w : pj_W) : Option (pj_W) :=
  if 900 < (w 12 0 10) then (some (w)) else (if 0 ≤ (w 12 0 10) ∧ (w 12 0 10) < 901 then (if 0 ≤ ((pj_set w 31 0 (w 12 0 10) x1) 12 0 10) ∧ ((pj_set w 31 0 (w 12 0 10) x1) 12 0 10) < 901 then (if 0 ≤ ((pj_set (pj_set w 31 0 (w 12 0 10) x1) 32 0 ((pj_set w 31 0 (w 12 0 10) x1) 12 0 10) x2) 12 0 10) ∧ ((pj_set (pj_set w 31 0 (w 12 0 10) x1) 32 0 ((pj_set w 31 0 (w 12 0 10) x1) 12 0 10) x2) 12 0 10) < 901 then ((some (pj_set (pj_set (pj_set w 31 0 (w 12 0 10) x1) 32 0 ((pj_set w 31 0 (w 12 0 10) x1) 12 0 10) x2) 33 0 ((pj_set (pj_set w 31 0 (w 12 0 10) x1) 32 0 ((pj_set w 31 0 (w 12 0 10) x1) 12 0 10) x2) 12 0 10) x3)).bind fun w5 => (some ((pj_set w5 12 0 10 (pj_wr ((w5 12 0 10) + 1)))))) else none) else none) else none)
theorem tR_addToken {Go : pj_C → Prop} (hM : pj_M l yX7_addToken cX7_addToken 5 none 0 0 true g n0 o Go) (x1 : Int) (x2 : Int) (x3 : Int) (w : pj_W)  (R : pj_W → Prop) (h0 : ∀ r, R (r) → ((none : Option pj_V), r) = o) : pj_TG R (fR_addToken x1 x2 x3 w) (Go (0, [(12, 0), (0, x1), (0, x2), (1, x3), (9, 0)], [], w)) := by
  unfold fR_addToken
  refine pj_map (fun k => pj_aload_n hM (pc := 0) dX7_addToken_0 rfl rfl (pj_gf hM (pc := 1) (t := 0) dX7_addToken_1 fl_X7_67 (by decide) rfl 10 rfl (pj_sipush hM (pc := 4) dX7_addToken_4 (by decide) k))) ?_
  refine pj_tif (fun h1 => ?_) (fun h1 => ?_)
  · exact pj_tret (fun hr => pj_ic_gt_t hM (pc := 7) dX7_addToken_7 rfl h1 (pj_ret hM (pc := 50) dX7_addToken_50 rfl (h0 (w) hr) rfl))
  refine pj_tgd (fun h2 => ?_)
  refine pj_tgd (fun h3 => ?_)
  refine pj_tgd (fun h4 => ?_)
  refine pj_map (fun k => pj_ic_gt_f hM (pc := 7) 50 dX7_addToken_7 rfl h1 (pj_aload_n hM (pc := 10) dX7_addToken_10 rfl rfl (pj_getF hM (pc := 11) (t := 31) dX7_addToken_11 fl_X7_15 (by decide) rfl rfl (pj_aload_n hM (pc := 14) dX7_addToken_14 rfl rfl (pj_gf hM (pc := 15) (t := 0) dX7_addToken_15 fl_X7_67 (by decide) rfl 10 rfl (pj_iload_n hM (pc := 18) dX7_addToken_18 rfl (pj_ias hM (pc := 19) dX7_addToken_19 ki_31 (by decide) h2 (pj_aload_n hM (pc := 20) dX7_addToken_20 rfl rfl (pj_getF hM (pc := 21) (t := 32) dX7_addToken_21 fl_X7_19 (by decide) rfl rfl (pj_aload_n hM (pc := 24) dX7_addToken_24 rfl rfl (pj_gf hM (pc := 25) (t := 0) dX7_addToken_25 fl_X7_67 (by decide) rfl 10 rfl (pj_iload_n hM (pc := 28) dX7_addToken_28 rfl (pj_ias hM (pc := 29) dX7_addToken_29 ki_32 (by decide) h3 (pj_aload_n hM (pc := 30) dX7_addToken_30 rfl rfl (pj_getF hM (pc := 31) (t := 33) dX7_addToken_31 fl_X7_22 (by decide) rfl rfl (pj_aload_n hM (pc := 34) dX7_addToken_34 rfl rfl (pj_gf hM (pc := 35) (t := 0) dX7_addToken_35 fl_X7_67 (by decide) rfl 10 rfl (pj_lload_n hM (pc := 38) dX7_addToken_38 rfl (pj_las hM (pc := 39) dX7_addToken_39 kl_33 (by decide) h4 k))))))))))))))))))) ?_
  refine pj_tlet (fun w5 => Go (40, [(12, 0), (0, x1), (0, x2), (1, x3), (9, 0)], [], w5)) (fun w5 => ?_)
  exact pj_tret (fun hr => pj_aload_n hM (pc := 40) dX7_addToken_40 rfl rfl (pj_dup hM (pc := 41) dX7_addToken_41 (by decide) (pj_gf hM (pc := 42) (t := 0) dX7_addToken_42 fl_X7_67 (by decide) rfl 10 rfl (pj_iconst hM (pc := 45) dX7_addToken_45 (by decide) (pj_iadd hM (pc := 46) dX7_addToken_46 (pj_pf hM (pc := 47) dX7_addToken_47 fl_X7_67 (by decide) rfl (fun h => absurd h (by decide)) (by decide) (fun _ => rfl) 10 rfl (pj_ret hM (pc := 50) dX7_addToken_50 rfl (h0 ((pj_set w5 12 0 10 (pj_wr ((w5 12 0 10) + 1)))) hr) rfl)))))))
theorem cR_addToken (x1 : Int) (x2 : Int) (x3 : Int)  (w : pj_W) (r : pj_W) (h : fR_addToken x1 x2 x3 w = some r) : pj_Cn l yX7_addToken cX7_addToken 5 none 0 0 true g [(12, 0), (0, x1), (0, x2), (1, x3)] w ((none : Option pj_V), r) :=
  pj_Cn_of rfl (Nat.le_of_ble_eq_true rfl) (lls := [(12, 0), (0, x1), (0, x2), (1, x3), (9, 0)]) rfl (fun Go hM => tR_addToken hM x1 x2 x3 w (fun x => ((none : Option pj_V), x) = ((none : Option pj_V), r)) (fun r h => h) r h rfl)
noncomputable def fR_isDigit (x0 : Int) (w : pj_W) : Option (Int) :=
  if x0 < 48 then (some (0)) else (if 57 < x0 then (some (0)) else (some (1)))
theorem tR_isDigit {Go : pj_C → Prop} (hM : pj_M l yX7_isDigit cX7_isDigit 1 (some .boolean) 0 0 ph g n0 o Go) (x0 : Int) (w : pj_W)  (R : Int → Prop) (h0 : ∀ r, R (r) → ((some (0, r) : Option pj_V), w) = o) : pj_TG R (fR_isDigit x0 w) (Go (0, [(0, x0)], [], w)) := by
  unfold fR_isDigit
  refine pj_map (fun k => pj_iload_n hM (pc := 0) dX7_isDigit_0 rfl (pj_bipush hM (pc := 1) dX7_isDigit_1 (by decide) k)) ?_
  refine pj_tif (fun h1 => ?_) (fun h1 => ?_)
  · exact pj_tret (fun hr => pj_ic_lt_t hM (pc := 3) dX7_isDigit_3 rfl h1 (pj_iconst hM (pc := 16) dX7_isDigit_16 (by decide) (pj_ret hM (pc := 17) dX7_isDigit_17 ⟨_, rfl, Or.inl rfl⟩ (h0 (0) hr) rfl)))
  refine pj_map (fun k => pj_ic_lt_f hM (pc := 3) 16 dX7_isDigit_3 rfl h1 (pj_iload_n hM (pc := 6) dX7_isDigit_6 rfl (pj_bipush hM (pc := 7) dX7_isDigit_7 (by decide) k))) ?_
  refine pj_tif (fun h2 => ?_) (fun h2 => ?_)
  · exact pj_tret (fun hr => pj_ic_gt_t hM (pc := 9) dX7_isDigit_9 rfl h2 (pj_iconst hM (pc := 16) dX7_isDigit_16 (by decide) (pj_ret hM (pc := 17) dX7_isDigit_17 ⟨_, rfl, Or.inl rfl⟩ (h0 (0) hr) rfl)))
  exact pj_tret (fun hr => pj_ic_gt_f hM (pc := 9) 16 dX7_isDigit_9 rfl h2 (pj_iconst hM (pc := 12) dX7_isDigit_12 (by decide) (pj_goto hM (pc := 13) dX7_isDigit_13 rfl (pj_ret hM (pc := 17) dX7_isDigit_17 ⟨_, rfl, Or.inr rfl⟩ (h0 (1) hr) rfl))))
theorem cR_isDigit (x0 : Int)  (w : pj_W) (r : Int) (h : fR_isDigit x0 w = some r) : pj_Cn l yX7_isDigit cX7_isDigit 1 (some .boolean) 0 0 ph g [(0, x0)] w ((some (0, r) : Option pj_V), w) :=
  pj_Cn_of rfl (Nat.le_of_ble_eq_true rfl) (lls := [(0, x0)]) rfl (fun Go hM => tR_isDigit hM x0 w (fun x => ((some (0, x) : Option pj_V), w) = ((some (0, r) : Option pj_V), w)) (fun r h => h) r h rfl)
noncomputable def fR_isLetter (x0 : Int) (w : pj_W) : Option (Int) :=
  if x0 < 97 then (some (0)) else (if 122 < x0 then (some (0)) else (some (1)))
theorem tR_isLetter {Go : pj_C → Prop} (hM : pj_M l yX7_isLetter cX7_isLetter 1 (some .boolean) 0 0 ph g n0 o Go) (x0 : Int) (w : pj_W)  (R : Int → Prop) (h0 : ∀ r, R (r) → ((some (0, r) : Option pj_V), w) = o) : pj_TG R (fR_isLetter x0 w) (Go (0, [(0, x0)], [], w)) := by
  unfold fR_isLetter
  refine pj_map (fun k => pj_iload_n hM (pc := 0) dX7_isLetter_0 rfl (pj_bipush hM (pc := 1) dX7_isLetter_1 (by decide) k)) ?_
  refine pj_tif (fun h1 => ?_) (fun h1 => ?_)
  · exact pj_tret (fun hr => pj_ic_lt_t hM (pc := 3) dX7_isLetter_3 rfl h1 (pj_iconst hM (pc := 16) dX7_isLetter_16 (by decide) (pj_ret hM (pc := 17) dX7_isLetter_17 ⟨_, rfl, Or.inl rfl⟩ (h0 (0) hr) rfl)))
  refine pj_map (fun k => pj_ic_lt_f hM (pc := 3) 16 dX7_isLetter_3 rfl h1 (pj_iload_n hM (pc := 6) dX7_isLetter_6 rfl (pj_bipush hM (pc := 7) dX7_isLetter_7 (by decide) k))) ?_
  refine pj_tif (fun h2 => ?_) (fun h2 => ?_)
  · exact pj_tret (fun hr => pj_ic_gt_t hM (pc := 9) dX7_isLetter_9 rfl h2 (pj_iconst hM (pc := 16) dX7_isLetter_16 (by decide) (pj_ret hM (pc := 17) dX7_isLetter_17 ⟨_, rfl, Or.inl rfl⟩ (h0 (0) hr) rfl)))
  exact pj_tret (fun hr => pj_ic_gt_f hM (pc := 9) 16 dX7_isLetter_9 rfl h2 (pj_iconst hM (pc := 12) dX7_isLetter_12 (by decide) (pj_goto hM (pc := 13) dX7_isLetter_13 rfl (pj_ret hM (pc := 17) dX7_isLetter_17 ⟨_, rfl, Or.inr rfl⟩ (h0 (1) hr) rfl))))
theorem cR_isLetter (x0 : Int)  (w : pj_W) (r : Int) (h : fR_isLetter x0 w = some r) : pj_Cn l yX7_isLetter cX7_isLetter 1 (some .boolean) 0 0 ph g [(0, x0)] w ((some (0, r) : Option pj_V), w) :=
  pj_Cn_of rfl (Nat.le_of_ble_eq_true rfl) (lls := [(0, x0)]) rfl (fun Go hM => tR_isLetter hM x0 w (fun x => ((some (0, x) : Option pj_V), w) = ((some (0, r) : Option pj_V), w)) (fun r h => h) r h rfl)
noncomputable def fR_scanNumber_90 (x1 : Int) (x2 : Int) (s1 : Int) (w : pj_W) : Option (pj_W) :=
  (fR_addToken s1 x1 x2 w).bind fun p1 => (some (p1))
noncomputable def fR_scanNumber_74 (x1 : Int) (x2 : Int) (w : pj_W) : Option (pj_W) :=
  fR_scanNumber_90 x1 x2 (if (pj_wr ((w 12 0 9) - x1)) ≤ 4 then (3 : Int) else 1) w
noncomputable def fR_scanNumber_61 (x1 : Int) (x2 : Int) (w : pj_W) : Option ((Int × pj_W) ⊕ (pj_W)) :=
  some (Sum.inl (x2, (pj_set w 12 0 9 (pj_wr ((w 12 0 9) + 1)))))
noncomputable def fR_scanNumber_7b (x1 : Int) (x2 : Int) (w : pj_W) : Option ((Int × pj_W) ⊕ (pj_W)) :=
  if (w 12 0 8) ≤ (w 12 0 9) then ((fR_scanNumber_74 x1 x2 w).map Sum.inr) else (if 0 ≤ (w 12 0 9) ∧ (w 12 0 9) < 900 then ((fR_isDigit (w 30 0 (w 12 0 9)) w).bind fun p3 => (if p3 = 0 then ((fR_scanNumber_74 x1 x2 w).map Sum.inr) else (fR_scanNumber_61 x1 (if 4 ≤ (pj_wr ((w 12 0 9) - x1)) then x2 else (pj_wr ((pj_wr (x2 * 10)) + (pj_wr ((w 30 0 (w 12 0 9)) - 48))))) w))) else none)
noncomputable def fR_scanNumber_7 (x1 : Int) (s : (Int × pj_W)) : Option (pj_W) := pj_Lp (fun s : (Int × pj_W) => fR_scanNumber_7b x1 s.1 s.2) s
noncomputable def fR_scanNumber  (w : pj_W) : Option (pj_W) :=
  fR_scanNumber_7 (w 12 0 9) (0, w)
theorem tR_scanNumber_90 {Go : pj_C → Prop} (hM : pj_M l yX7_scanNumber cX7_scanNumber 3 none 1 24 true g n0 o Go) (x1 : Int) (x2 : Int) (s1 : Int) (w : pj_W)  (R : pj_W → Prop) (h0 : ∀ r, R (r) → ((none : Option pj_V), r) = o) : pj_TG R (fR_scanNumber_90 x1 x2 s1 w) (Go (90, [(12, 0), (0, x1), (0, x2)], [(0, s1), (12, 0)], w)) := by
  unfold fR_scanNumber_90
  refine pj_tbind (fun p1 h2 => ?_)
  exact pj_tret (fun hr => pj_iload_n hM (pc := 90) dX7_scanNumber_90 rfl (pj_iload_n hM (pc := 91) dX7_scanNumber_91 rfl (pj_i2l hM (pc := 92) dX7_scanNumber_92 (pj_cVv hM (pc := 93) (cR_addToken s1 x1 x2 w p1 h2) dX7_scanNumber_93 mf_X7_addToken mv_X7_addToken ml_X7_82 kc_12 rfl rfl (by decide) rfl rfl (pj_ret hM (pc := 96) dX7_scanNumber_96 rfl (h0 (p1) hr) rfl)))))
theorem tR_scanNumber_74 {Go : pj_C → Prop} (hM : pj_M l yX7_scanNumber cX7_scanNumber 3 none 1 24 true g n0 o Go) (x1 : Int) (x2 : Int) (w : pj_W)  (R : pj_W → Prop) (h0 : ∀ r, R (r) → ((none : Option pj_V), r) = o) : pj_TG R (fR_scanNumber_74 x1 x2 w) (Go (74, [(12, 0), (0, x1), (0, x2)], [], w)) := by
  unfold fR_scanNumber_74
  refine pj_map (fun k => pj_aload_n hM (pc := 74) dX7_scanNumber_74 rfl rfl (pj_aload_n hM (pc := 75) dX7_scanNumber_75 rfl rfl (pj_gf hM (pc := 76) (t := 0) dX7_scanNumber_76 fl_X7_70 (by decide) rfl 9 rfl (pj_iload_n hM (pc := 79) dX7_scanNumber_79 rfl (pj_isub hM (pc := 80) dX7_scanNumber_80 (pj_iconst hM (pc := 81) dX7_scanNumber_81 (by decide) k)))))) ?_
  refine pj_tJ (fun v : Int => fR_scanNumber_90 x1 x2 v w) (fun h1 => ?_) (fun h1 => ?_)
  · refine pj_map (fun k => pj_ic_le_t hM (pc := 82) dX7_scanNumber_82 rfl h1 (pj_iconst hM (pc := 89) dX7_scanNumber_89 (by decide) (pj_kill hM [true, true, true] (lls' := [(12, 0), (0, x1), (0, x2)]) rfl k))) ?_
    exact tR_scanNumber_90 hM x1 x2 3 w _ h0
  refine pj_map (fun k => pj_ic_le_f hM (pc := 82) 89 dX7_scanNumber_82 rfl h1 (pj_iconst hM (pc := 85) dX7_scanNumber_85 (by decide) (pj_goto hM (pc := 86) dX7_scanNumber_86 rfl (pj_kill hM [true, true, true] (lls' := [(12, 0), (0, x1), (0, x2)]) rfl k)))) ?_
  exact tR_scanNumber_90 hM x1 x2 1 w _ h0
theorem tR_scanNumber_61 {Go : pj_C → Prop} (hM : pj_M l yX7_scanNumber cX7_scanNumber 3 none 1 24 true g n0 o Go) (x1 : Int) (x2 : Int) (w : pj_W)  (R : (Int × pj_W) ⊕ (pj_W) → Prop) (h0 : ∀ r, R (Sum.inr (r)) → ((none : Option pj_V), r) = o) (hk7 : ∀ s, R (Sum.inl s) → Go (7, [(12, 0), (0, x1), (0, s.1)], [], s.2)) : pj_TG R (fR_scanNumber_61 x1 x2 w) (Go (61, [(12, 0), (0, x1), (0, x2)], [], w)) := by
  unfold fR_scanNumber_61
  exact pj_tret (fun hr => pj_aload_n hM (pc := 61) dX7_scanNumber_61 rfl rfl (pj_dup hM (pc := 62) dX7_scanNumber_62 (by decide) (pj_gf hM (pc := 63) (t := 0) dX7_scanNumber_63 fl_X7_70 (by decide) rfl 9 rfl (pj_iconst hM (pc := 66) dX7_scanNumber_66 (by decide) (pj_iadd hM (pc := 67) dX7_scanNumber_67 (pj_pf hM (pc := 68) dX7_scanNumber_68 fl_X7_70 (by decide) rfl (fun h => absurd h (by decide)) (by decide) (fun _ => rfl) 9 rfl (pj_goto hM (pc := 71) dX7_scanNumber_71 rfl (pj_kill hM [true, true, true] (lls' := [(12, 0), (0, x1), (0, x2)]) rfl ((hk7 _ hr))))))))))
theorem tR_scanNumber_7b {Go : pj_C → Prop} (hM : pj_M l yX7_scanNumber cX7_scanNumber 3 none 1 24 true g n0 o Go) (x1 : Int) (x2 : Int) (w : pj_W)  (R : (Int × pj_W) ⊕ (pj_W) → Prop) (h0 : ∀ r, R (Sum.inr (r)) → ((none : Option pj_V), r) = o) (hk7 : ∀ s, R (Sum.inl s) → Go (7, [(12, 0), (0, x1), (0, s.1)], [], s.2)) : pj_TG R (fR_scanNumber_7b x1 x2 w) (Go (7, [(12, 0), (0, x1), (0, x2)], [], w)) := by
  unfold fR_scanNumber_7b
  refine pj_map (fun k => pj_aload_n hM (pc := 7) dX7_scanNumber_7 rfl rfl (pj_gf hM (pc := 8) (t := 0) dX7_scanNumber_8 fl_X7_70 (by decide) rfl 9 rfl (pj_aload_n hM (pc := 11) dX7_scanNumber_11 rfl rfl (pj_gf hM (pc := 12) (t := 0) dX7_scanNumber_12 fl_X7_65 (by decide) rfl 8 rfl k)))) ?_
  refine pj_tif (fun h1 => ?_) (fun h1 => ?_)
  · refine pj_tmap ?_
    refine pj_map (fun k => pj_ic_ge_t hM (pc := 15) dX7_scanNumber_15 rfl h1 (pj_kill hM [true, true, true] (lls' := [(12, 0), (0, x1), (0, x2)]) rfl k)) ?_
    exact tR_scanNumber_74 hM x1 x2 w _ h0
  refine pj_tgd (fun h2 => ?_)
  refine pj_tbind (fun p3 h4 => ?_)
  refine pj_map (fun k => pj_ic_ge_f hM (pc := 15) 74 dX7_scanNumber_15 rfl h1 (pj_aload_n hM (pc := 18) dX7_scanNumber_18 rfl rfl (pj_getF hM (pc := 19) (t := 30) dX7_scanNumber_19 fl_X7_11 (by decide) rfl rfl (pj_aload_n hM (pc := 22) dX7_scanNumber_22 rfl rfl (pj_gf hM (pc := 23) (t := 0) dX7_scanNumber_23 fl_X7_70 (by decide) rfl 9 rfl (pj_bal hM (pc := 26) dX7_scanNumber_26 kb_30 (by decide) h2 (pj_cS hM (pc := 27) (cR_isDigit (w 30 0 (w 12 0 9)) w p3 h4) dX7_scanNumber_27 mf_X7_isDigit ms_X7_isDigit ml_X7_93 rfl rfl rfl rfl k))))))) ?_
  refine pj_tif (fun h5 => ?_) (fun h5 => ?_)
  · refine pj_tmap ?_
    refine pj_map (fun k => pj_if_eq_t hM (pc := 30) dX7_scanNumber_30 rfl h5 (pj_kill hM [true, true, true] (lls' := [(12, 0), (0, x1), (0, x2)]) rfl k)) ?_
    exact tR_scanNumber_74 hM x1 x2 w _ h0
  refine pj_map (fun k => pj_if_eq_f hM (pc := 30) 74 dX7_scanNumber_30 rfl h5 (pj_aload_n hM (pc := 33) dX7_scanNumber_33 rfl rfl (pj_gf hM (pc := 34) (t := 0) dX7_scanNumber_34 fl_X7_70 (by decide) rfl 9 rfl (pj_iload_n hM (pc := 37) dX7_scanNumber_37 rfl (pj_isub hM (pc := 38) dX7_scanNumber_38 (pj_iconst hM (pc := 39) dX7_scanNumber_39 (by decide) k)))))) ?_
  refine pj_tJ (fun v : Int => fR_scanNumber_61 x1 v w) (fun h6 => ?_) (fun h6 => ?_)
  · refine pj_map (fun k => pj_ic_ge_t hM (pc := 40) dX7_scanNumber_40 rfl h6 (pj_kill hM [true, true, true] (lls' := [(12, 0), (0, x1), (0, x2)]) rfl k)) ?_
    exact tR_scanNumber_61 hM x1 x2 w _ h0 hk7
  refine pj_map (fun k => pj_ic_ge_f hM (pc := 40) 61 dX7_scanNumber_40 rfl h6 (pj_iload_n hM (pc := 43) dX7_scanNumber_43 rfl (pj_bipush hM (pc := 44) dX7_scanNumber_44 (by decide) (pj_imul hM (pc := 46) dX7_scanNumber_46 (pj_aload_n hM (pc := 47) dX7_scanNumber_47 rfl rfl (pj_getF hM (pc := 48) (t := 30) dX7_scanNumber_48 fl_X7_11 (by decide) rfl rfl (pj_aload_n hM (pc := 51) dX7_scanNumber_51 rfl rfl (pj_gf hM (pc := 52) (t := 0) dX7_scanNumber_52 fl_X7_70 (by decide) rfl 9 rfl (pj_bal hM (pc := 55) dX7_scanNumber_55 kb_30 (by decide) h2 (pj_bipush hM (pc := 56) dX7_scanNumber_56 (by decide) (pj_isub hM (pc := 58) dX7_scanNumber_58 (pj_iadd hM (pc := 59) dX7_scanNumber_59 (pj_istore_n hM (pc := 60) dX7_scanNumber_60 (by decide) (lls' := [(12, 0), (0, x1), (0, (pj_wr ((pj_wr (x2 * 10)) + (pj_wr ((w 30 0 (w 12 0 9)) - 48)))))]) rfl (pj_kill hM [true, true, true] (lls' := [(12, 0), (0, x1), (0, (pj_wr ((pj_wr (x2 * 10)) + (pj_wr ((w 30 0 (w 12 0 9)) - 48)))))]) rfl k)))))))))))))) ?_
  exact tR_scanNumber_61 hM x1 (pj_wr ((pj_wr (x2 * 10)) + (pj_wr ((w 30 0 (w 12 0 9)) - 48)))) w _ h0 hk7
theorem tR_scanNumber_7 {Go : pj_C → Prop} (hM : pj_M l yX7_scanNumber cX7_scanNumber 3 none 1 24 true g n0 o Go) (x1 : Int)  (R : pj_W → Prop) (h0 : ∀ r, R (r) → ((none : Option pj_V), r) = o) (s : (Int × pj_W)) : pj_TG R (fR_scanNumber_7 x1 s) (Go (7, [(12, 0), (0, x1), (0, s.1)], [], s.2)) := by
  unfold fR_scanNumber_7
  exact pj_tLp (G := fun s : (Int × pj_W) => Go (7, [(12, 0), (0, x1), (0, s.1)], [], s.2)) (fun s => tR_scanNumber_7b hM x1 s.1 s.2  _ (fun r h => h0 r h)  (fun s h => h)) s
theorem tR_scanNumber {Go : pj_C → Prop} (hM : pj_M l yX7_scanNumber cX7_scanNumber 3 none 1 24 true g n0 o Go)  (w : pj_W)  (R : pj_W → Prop) (h0 : ∀ r, R (r) → ((none : Option pj_V), r) = o) : pj_TG R (fR_scanNumber  w) (Go (0, [(12, 0), (9, 0), (9, 0)], [], w)) := by
  unfold fR_scanNumber
  refine pj_map (fun k => pj_aload_n hM (pc := 0) dX7_scanNumber_0 rfl rfl (pj_gf hM (pc := 1) (t := 0) dX7_scanNumber_1 fl_X7_70 (by decide) rfl 9 rfl (pj_istore_n hM (pc := 4) dX7_scanNumber_4 (by decide) (lls' := [(12, 0), (0, (w 12 0 9)), (9, 0)]) rfl (pj_iconst hM (pc := 5) dX7_scanNumber_5 (by decide) (pj_istore_n hM (pc := 6) dX7_scanNumber_6 (by decide) (lls' := [(12, 0), (0, (w 12 0 9)), (0, 0)]) rfl (pj_kill hM [true, true, true] (lls' := [(12, 0), (0, (w 12 0 9)), (0, 0)]) rfl k)))))) ?_
  exact tR_scanNumber_7 hM (w 12 0 9) _ h0 _
theorem cR_scanNumber   (w : pj_W) (r : pj_W) (h : fR_scanNumber  w = some r) : pj_Cn l yX7_scanNumber cX7_scanNumber 3 none 1 24 true g [(12, 0)] w ((none : Option pj_V), r) :=
  pj_Cn_of rfl (Nat.le_of_ble_eq_true rfl) (lls := [(12, 0), (9, 0), (9, 0)]) rfl (fun Go hM => tR_scanNumber hM w (fun x => ((none : Option pj_V), x) = ((none : Option pj_V), r)) (fun r h => h) r h rfl)
noncomputable def fR_pack (x0 : Int) (x2 : Int) (w : pj_W) : Option (Int) :=
  some ((pj_wl ((pj_wl (x0 * 32)) + (pj_wr ((pj_wr (x2 - 97)) + 1)))))
theorem tR_pack {Go : pj_C → Prop} (hM : pj_M l yX7_pack cX7_pack 3 (some .long) 0 0 ph g n0 o Go) (x0 : Int) (x2 : Int) (w : pj_W)  (R : Int → Prop) (h0 : ∀ r, R (r) → ((some (1, r) : Option pj_V), w) = o) : pj_TG R (fR_pack x0 x2 w) (Go (0, [(1, x0), (9, 0), (0, x2)], [], w)) := by
  unfold fR_pack
  exact pj_tret (fun hr => pj_lload_n hM (pc := 0) dX7_pack_0 rfl (pj_ldc2 hM (pc := 1) (z := 32) dX7_pack_1 kn_X7_54 rfl (by decide) (pj_lmul hM (pc := 4) dX7_pack_4 (pj_iload_n hM (pc := 5) dX7_pack_5 rfl (pj_bipush hM (pc := 6) dX7_pack_6 (by decide) (pj_isub hM (pc := 8) dX7_pack_8 (pj_iconst hM (pc := 9) dX7_pack_9 (by decide) (pj_iadd hM (pc := 10) dX7_pack_10 (pj_i2l hM (pc := 11) dX7_pack_11 (pj_ladd hM (pc := 12) dX7_pack_12 (pj_ret hM (pc := 13) dX7_pack_13 ⟨_, rfl⟩ (h0 ((pj_wl ((pj_wl (x0 * 32)) + (pj_wr ((pj_wr (x2 - 97)) + 1))))) hr) rfl)))))))))))
theorem cR_pack (x0 : Int) (x2 : Int)  (w : pj_W) (r : Int) (h : fR_pack x0 x2 w = some r) : pj_Cn l yX7_pack cX7_pack 3 (some .long) 0 0 ph g [(1, x0), (0, x2)] w ((some (1, r) : Option pj_V), w) :=
  pj_Cn_of rfl (Nat.le_of_ble_eq_true rfl) (lls := [(1, x0), (9, 0), (0, x2)]) rfl (fun Go hM => tR_pack hM x0 x2 w (fun x => ((some (1, x) : Option pj_V), w) = ((some (1, r) : Option pj_V), w)) (fun r h => h) r h rfl)
noncomputable def fR_wordOf_2b (x1 : Int) (w : pj_W) (x3 : Int) : Option ((Int) ⊕ (Int)) :=
  if 30 ≤ x3 then (some (Sum.inr ((-1)))) else (if 0 ≤ x3 ∧ x3 < 30 then (if (pj_cmp (w 34 0 x3) x1) = 0 then (some (Sum.inr (x3))) else (some (Sum.inl ((pj_wr (x3 + 1)))))) else none)
noncomputable def fR_wordOf_2 (x1 : Int) (w : pj_W) (s : (Int)) : Option (Int) := pj_Lp (fun s : (Int) => fR_wordOf_2b x1 w s) s
noncomputable def fR_wordOf (x1 : Int) (w : pj_W) : Option (Int) :=
  fR_wordOf_2 x1 w (0)
theorem tR_wordOf_2b {Go : pj_C → Prop} (hM : pj_M l yX7_wordOf cX7_wordOf 4 (some .int) 0 0 true g n0 o Go) (x1 : Int) (w : pj_W) (x3 : Int)  (R : (Int) ⊕ (Int) → Prop) (h0 : ∀ r, R (Sum.inr (r)) → ((some (0, r) : Option pj_V), w) = o) (hk2 : ∀ s, R (Sum.inl s) → Go (2, [(12, 0), (1, x1), (9, 0), (0, s)], [], w)) : pj_TG R (fR_wordOf_2b x1 w x3) (Go (2, [(12, 0), (1, x1), (9, 0), (0, x3)], [], w)) := by
  unfold fR_wordOf_2b
  refine pj_map (fun k => pj_iload_n hM (pc := 2) dX7_wordOf_2 rfl (pj_bipush hM (pc := 3) dX7_wordOf_3 (by decide) k)) ?_
  refine pj_tif (fun h1 => ?_) (fun h1 => ?_)
  · exact pj_tret (fun hr => pj_ic_ge_t hM (pc := 5) dX7_wordOf_5 rfl h1 (pj_iconst hM (pc := 27) dX7_wordOf_27 (by decide) (pj_ret hM (pc := 28) dX7_wordOf_28 ⟨_, rfl⟩ (h0 ((-1)) hr) rfl)))
  refine pj_tgd (fun h2 => ?_)
  refine pj_map (fun k => pj_ic_ge_f hM (pc := 5) 27 dX7_wordOf_5 rfl h1 (pj_aload_n hM (pc := 8) dX7_wordOf_8 rfl rfl (pj_getF hM (pc := 9) (t := 34) dX7_wordOf_9 fl_X7_28 (by decide) rfl rfl (pj_iload_n hM (pc := 12) dX7_wordOf_12 rfl (pj_lal hM (pc := 13) dX7_wordOf_13 kl_34 (by decide) h2 (pj_lload_n hM (pc := 14) dX7_wordOf_14 rfl (pj_lcmp hM (pc := 15) dX7_wordOf_15 k))))))) ?_
  refine pj_tif (fun h3 => ?_) (fun h3 => ?_)
  · exact pj_tret (fun hr => pj_if_ne_f hM (pc := 16) 21 dX7_wordOf_16 rfl (fun q => q h3) (pj_iload_n hM (pc := 19) dX7_wordOf_19 rfl (pj_ret hM (pc := 20) dX7_wordOf_20 ⟨_, rfl⟩ (h0 (x3) hr) rfl)))
  exact pj_tret (fun hr => pj_if_ne_t hM (pc := 16) dX7_wordOf_16 rfl h3 (pj_iinc hM (pc := 21) dX7_wordOf_21 rfl (by decide) (lls' := [(12, 0), (1, x1), (9, 0), (0, (pj_wr (x3 + 1)))]) rfl (pj_goto hM (pc := 24) dX7_wordOf_24 rfl (pj_kill hM [true, true, false, true] (lls' := [(12, 0), (1, x1), (9, 0), (0, (pj_wr (x3 + 1)))]) rfl ((hk2 _ hr))))))
theorem tR_wordOf_2 {Go : pj_C → Prop} (hM : pj_M l yX7_wordOf cX7_wordOf 4 (some .int) 0 0 true g n0 o Go) (x1 : Int) (w : pj_W)  (R : Int → Prop) (h0 : ∀ r, R (r) → ((some (0, r) : Option pj_V), w) = o) (s : (Int)) : pj_TG R (fR_wordOf_2 x1 w s) (Go (2, [(12, 0), (1, x1), (9, 0), (0, s)], [], w)) := by
  unfold fR_wordOf_2
  exact pj_tLp (G := fun s : (Int) => Go (2, [(12, 0), (1, x1), (9, 0), (0, s)], [], w)) (fun s => tR_wordOf_2b hM x1 w s  _ (fun r h => h0 r h)  (fun s h => h)) s
theorem tR_wordOf {Go : pj_C → Prop} (hM : pj_M l yX7_wordOf cX7_wordOf 4 (some .int) 0 0 true g n0 o Go) (x1 : Int) (w : pj_W)  (R : Int → Prop) (h0 : ∀ r, R (r) → ((some (0, r) : Option pj_V), w) = o) : pj_TG R (fR_wordOf x1 w) (Go (0, [(12, 0), (1, x1), (9, 0), (9, 0)], [], w)) := by
  unfold fR_wordOf
  refine pj_map (fun k => pj_iconst hM (pc := 0) dX7_wordOf_0 (by decide) (pj_istore_n hM (pc := 1) dX7_wordOf_1 (by decide) (lls' := [(12, 0), (1, x1), (9, 0), (0, 0)]) rfl (pj_kill hM [true, true, false, true] (lls' := [(12, 0), (1, x1), (9, 0), (0, 0)]) rfl k))) ?_
  exact tR_wordOf_2 hM x1 w _ h0 _
theorem cR_wordOf (x1 : Int)  (w : pj_W) (r : Int) (h : fR_wordOf x1 w = some r) : pj_Cn l yX7_wordOf cX7_wordOf 4 (some .int) 0 0 true g [(12, 0), (1, x1)] w ((some (0, r) : Option pj_V), w) :=
  pj_Cn_of rfl (Nat.le_of_ble_eq_true rfl) (lls := [(12, 0), (1, x1), (9, 0), (9, 0)]) rfl (fun Go hM => tR_wordOf hM x1 w (fun x => ((some (0, x) : Option pj_V), w) = ((some (0, r) : Option pj_V), w)) (fun r h => h) r h rfl)
noncomputable def fR_scanWord_58 (x1 : Int) (x2 : Int) (w : pj_W) : Option ((Int × pj_W) ⊕ (pj_W)) :=
  some (Sum.inl (x2, (pj_set w 12 0 9 (pj_wr ((w 12 0 9) + 1)))))
noncomputable def fR_scanWord_71 (x1 : Int) (x2 : Int) (w : pj_W) : Option (pj_W) :=
  if (pj_wr ((w 12 0 9) - x1)) ≤ 8 then ((fR_wordOf x2 w).bind fun p2 => (if p2 = (-1) then ((fR_addToken 4 x1 x2 w).bind fun p5 => (some (p5))) else ((fR_addToken 5 x1 p2 w).bind fun p7 => (some (p7))))) else ((fR_addToken 6 x1 0 w).bind fun p9 => (some (p9)))
noncomputable def fR_scanWord_7b (x1 : Int) (x2 : Int) (w : pj_W) : Option ((Int × pj_W) ⊕ (pj_W)) :=
  if (w 12 0 8) ≤ (w 12 0 9) then ((fR_scanWord_71 x1 x2 w).map Sum.inr) else (if 0 ≤ (w 12 0 9) ∧ (w 12 0 9) < 900 then ((fR_isLetter (w 30 0 (w 12 0 9)) w).bind fun p3 => (if p3 = 0 then ((fR_scanWord_71 x1 x2 w).map Sum.inr) else (if 8 ≤ (pj_wr ((w 12 0 9) - x1)) then (fR_scanWord_58 x1 x2 w) else ((fR_pack x2 (w 30 0 (w 12 0 9)) w).bind fun p7 => (fR_scanWord_58 x1 p7 w))))) else none)
noncomputable def fR_scanWord_7 (x1 : Int) (s : (Int × pj_W)) : Option (pj_W) := pj_Lp (fun s : (Int × pj_W) => fR_scanWord_7b x1 s.1 s.2) s
noncomputable def fR_scanWord  (w : pj_W) : Option (pj_W) :=
  fR_scanWord_7 (w 12 0 9) (0, w)
theorem tR_scanWord_58 {Go : pj_C → Prop} (hM : pj_M l yX7_scanWord cX7_scanWord 5 none 1 24 true g n0 o Go) (x1 : Int) (x2 : Int) (w : pj_W)  (R : (Int × pj_W) ⊕ (pj_W) → Prop) (h0 : ∀ r, R (Sum.inr (r)) → ((none : Option pj_V), r) = o) (hk7 : ∀ s, R (Sum.inl s) → Go (7, [(12, 0), (0, x1), (1, s.1), (9, 0), (9, 0)], [], s.2)) : pj_TG R (fR_scanWord_58 x1 x2 w) (Go (58, [(12, 0), (0, x1), (1, x2), (9, 0), (9, 0)], [], w)) := by
  unfold fR_scanWord_58
  exact pj_tret (fun hr => pj_aload_n hM (pc := 58) dX7_scanWord_58 rfl rfl (pj_dup hM (pc := 59) dX7_scanWord_59 (by decide) (pj_gf hM (pc := 60) (t := 0) dX7_scanWord_60 fl_X7_70 (by decide) rfl 9 rfl (pj_iconst hM (pc := 63) dX7_scanWord_63 (by decide) (pj_iadd hM (pc := 64) dX7_scanWord_64 (pj_pf hM (pc := 65) dX7_scanWord_65 fl_X7_70 (by decide) rfl (fun h => absurd h (by decide)) (by decide) (fun _ => rfl) 9 rfl (pj_goto hM (pc := 68) dX7_scanWord_68 rfl (pj_kill hM [true, true, true, false, false] (lls' := [(12, 0), (0, x1), (1, x2), (9, 0), (9, 0)]) rfl ((hk7 _ hr))))))))))
theorem tR_scanWord_71 {Go : pj_C → Prop} (hM : pj_M l yX7_scanWord cX7_scanWord 5 none 1 24 true g n0 o Go) (x1 : Int) (x2 : Int) (w : pj_W)  (R : pj_W → Prop) (h0 : ∀ r, R (r) → ((none : Option pj_V), r) = o) : pj_TG R (fR_scanWord_71 x1 x2 w) (Go (71, [(12, 0), (0, x1), (1, x2), (9, 0), (9, 0)], [], w)) := by
  unfold fR_scanWord_71
  refine pj_map (fun k => pj_aload_n hM (pc := 71) dX7_scanWord_71 rfl rfl (pj_gf hM (pc := 72) (t := 0) dX7_scanWord_72 fl_X7_70 (by decide) rfl 9 rfl (pj_iload_n hM (pc := 75) dX7_scanWord_75 rfl (pj_isub hM (pc := 76) dX7_scanWord_76 (pj_bipush hM (pc := 77) dX7_scanWord_77 (by decide) k))))) ?_
  refine pj_tif (fun h1 => ?_) (fun h1 => ?_)
  · refine pj_tbind (fun p2 h3 => ?_)
    refine pj_map (fun k => pj_ic_le_t hM (pc := 79) dX7_scanWord_79 rfl h1 (pj_aload_n hM (pc := 91) dX7_scanWord_91 rfl rfl (pj_lload_n hM (pc := 92) dX7_scanWord_92 rfl (pj_cV hM (pc := 93) (cR_wordOf x2 w p2 h3) dX7_scanWord_93 mf_X7_wordOf mv_X7_wordOf ml_X7_99 kc_12 rfl rfl (by decide) rfl rfl (pj_istore hM (pc := 96) dX7_scanWord_96 (by decide) (lls' := [(12, 0), (0, x1), (1, x2), (9, 0), (0, p2)]) rfl (pj_iload hM (pc := 98) dX7_scanWord_98 rfl (pj_iconst hM (pc := 100) dX7_scanWord_100 (by decide) k))))))) ?_
    refine pj_tif (fun h4 => ?_) (fun h4 => ?_)
    · refine pj_tbind (fun p5 h6 => ?_)
      exact pj_tret (fun hr => pj_ic_ne_f hM (pc := 101) 114 dX7_scanWord_101 rfl (fun q => q h4) (pj_aload_n hM (pc := 104) dX7_scanWord_104 rfl rfl (pj_iconst hM (pc := 105) dX7_scanWord_105 (by decide) (pj_iload_n hM (pc := 106) dX7_scanWord_106 rfl (pj_lload_n hM (pc := 107) dX7_scanWord_107 rfl (pj_cVv hM (pc := 108) (cR_addToken 4 x1 x2 w p5 h6) dX7_scanWord_108 mf_X7_addToken mv_X7_addToken ml_X7_82 kc_12 rfl rfl (by decide) rfl rfl (pj_goto hM (pc := 111) dX7_scanWord_111 rfl (pj_ret hM (pc := 123) dX7_scanWord_123 rfl (h0 (p5) hr) rfl))))))))
    refine pj_tbind (fun p7 h8 => ?_)
    exact pj_tret (fun hr => pj_ic_ne_t hM (pc := 101) dX7_scanWord_101 rfl h4 (pj_aload_n hM (pc := 114) dX7_scanWord_114 rfl rfl (pj_iconst hM (pc := 115) dX7_scanWord_115 (by decide) (pj_iload_n hM (pc := 116) dX7_scanWord_116 rfl (pj_iload hM (pc := 117) dX7_scanWord_117 rfl (pj_i2l hM (pc := 119) dX7_scanWord_119 (pj_cVv hM (pc := 120) (cR_addToken 5 x1 p2 w p7 h8) dX7_scanWord_120 mf_X7_addToken mv_X7_addToken ml_X7_82 kc_12 rfl rfl (by decide) rfl rfl (pj_ret hM (pc := 123) dX7_scanWord_123 rfl (h0 (p7) hr) rfl))))))))
  refine pj_tbind (fun p9 h10 => ?_)
  exact pj_tret (fun hr => pj_ic_le_f hM (pc := 79) 91 dX7_scanWord_79 rfl h1 (pj_aload_n hM (pc := 82) dX7_scanWord_82 rfl rfl (pj_bipush hM (pc := 83) dX7_scanWord_83 (by decide) (pj_iload_n hM (pc := 85) dX7_scanWord_85 rfl (pj_lconst hM (pc := 86) (z := 0) dX7_scanWord_86 rfl (by decide) (pj_cVv hM (pc := 87) (cR_addToken 6 x1 0 w p9 h10) dX7_scanWord_87 mf_X7_addToken mv_X7_addToken ml_X7_82 kc_12 rfl rfl (by decide) rfl rfl (pj_ret hM (pc := 90) dX7_scanWord_90 rfl (h0 (p9) hr) rfl)))))))
theorem tR_scanWord_7b {Go : pj_C → Prop} (hM : pj_M l yX7_scanWord cX7_scanWord 5 none 1 24 true g n0 o Go) (x1 : Int) (x2 : Int) (w : pj_W)  (R : (Int × pj_W) ⊕ (pj_W) → Prop) (h0 : ∀ r, R (Sum.inr (r)) → ((none : Option pj_V), r) = o) (hk7 : ∀ s, R (Sum.inl s) → Go (7, [(12, 0), (0, x1), (1, s.1), (9, 0), (9, 0)], [], s.2)) : pj_TG R (fR_scanWord_7b x1 x2 w) (Go (7, [(12, 0), (0, x1), (1, x2), (9, 0), (9, 0)], [], w)) := by
  unfold fR_scanWord_7b
  refine pj_map (fun k => pj_aload_n hM (pc := 7) dX7_scanWord_7 rfl rfl (pj_gf hM (pc := 8) (t := 0) dX7_scanWord_8 fl_X7_70 (by decide) rfl 9 rfl (pj_aload_n hM (pc := 11) dX7_scanWord_11 rfl rfl (pj_gf hM (pc := 12) (t := 0) dX7_scanWord_12 fl_X7_65 (by decide) rfl 8 rfl k)))) ?_
  refine pj_tif (fun h1 => ?_) (fun h1 => ?_)
  · refine pj_tmap ?_
    refine pj_map (fun k => pj_ic_ge_t hM (pc := 15) dX7_scanWord_15 rfl h1 (pj_kill hM [true, true, true, false, false] (lls' := [(12, 0), (0, x1), (1, x2), (9, 0), (9, 0)]) rfl k)) ?_
    exact tR_scanWord_71 hM x1 x2 w _ h0
  refine pj_tgd (fun h2 => ?_)
  refine pj_tbind (fun p3 h4 => ?_)
  refine pj_map (fun k => pj_ic_ge_f hM (pc := 15) 71 dX7_scanWord_15 rfl h1 (pj_aload_n hM (pc := 18) dX7_scanWord_18 rfl rfl (pj_getF hM (pc := 19) (t := 30) dX7_scanWord_19 fl_X7_11 (by decide) rfl rfl (pj_aload_n hM (pc := 22) dX7_scanWord_22 rfl rfl (pj_gf hM (pc := 23) (t := 0) dX7_scanWord_23 fl_X7_70 (by decide) rfl 9 rfl (pj_bal hM (pc := 26) dX7_scanWord_26 kb_30 (by decide) h2 (pj_cS hM (pc := 27) (cR_isLetter (w 30 0 (w 12 0 9)) w p3 h4) dX7_scanWord_27 mf_X7_isLetter ms_X7_isLetter ml_X7_86 rfl rfl rfl rfl k))))))) ?_
  refine pj_tif (fun h5 => ?_) (fun h5 => ?_)
  · refine pj_tmap ?_
    refine pj_map (fun k => pj_if_eq_t hM (pc := 30) dX7_scanWord_30 rfl h5 (pj_kill hM [true, true, true, false, false] (lls' := [(12, 0), (0, x1), (1, x2), (9, 0), (9, 0)]) rfl k)) ?_
    exact tR_scanWord_71 hM x1 x2 w _ h0
  refine pj_map (fun k => pj_if_eq_f hM (pc := 30) 71 dX7_scanWord_30 rfl h5 (pj_aload_n hM (pc := 33) dX7_scanWord_33 rfl rfl (pj_gf hM (pc := 34) (t := 0) dX7_scanWord_34 fl_X7_70 (by decide) rfl 9 rfl (pj_iload_n hM (pc := 37) dX7_scanWord_37 rfl (pj_isub hM (pc := 38) dX7_scanWord_38 (pj_bipush hM (pc := 39) dX7_scanWord_39 (by decide) k)))))) ?_
  refine pj_tif (fun h6 => ?_) (fun h6 => ?_)
  · refine pj_map (fun k => pj_ic_ge_t hM (pc := 41) dX7_scanWord_41 rfl h6 (pj_kill hM [true, true, true, false, false] (lls' := [(12, 0), (0, x1), (1, x2), (9, 0), (9, 0)]) rfl k)) ?_
    exact tR_scanWord_58 hM x1 x2 w _ h0 hk7
  refine pj_tbind (fun p7 h8 => ?_)
  refine pj_map (fun k => pj_ic_ge_f hM (pc := 41) 58 dX7_scanWord_41 rfl h6 (pj_lload_n hM (pc := 44) dX7_scanWord_44 rfl (pj_aload_n hM (pc := 45) dX7_scanWord_45 rfl rfl (pj_getF hM (pc := 46) (t := 30) dX7_scanWord_46 fl_X7_11 (by decide) rfl rfl (pj_aload_n hM (pc := 49) dX7_scanWord_49 rfl rfl (pj_gf hM (pc := 50) (t := 0) dX7_scanWord_50 fl_X7_70 (by decide) rfl 9 rfl (pj_bal hM (pc := 53) dX7_scanWord_53 kb_30 (by decide) h2 (pj_cS hM (pc := 54) (cR_pack x2 (w 30 0 (w 12 0 9)) w p7 h8) dX7_scanWord_54 mf_X7_pack ms_X7_pack ml_X7_50 rfl rfl rfl rfl (pj_lstore_n hM (pc := 57) dX7_scanWord_57 (by decide) (lls' := [(12, 0), (0, x1), (1, p7), (9, 0), (9, 0)]) rfl (pj_kill hM [true, true, true, false, false] (lls' := [(12, 0), (0, x1), (1, p7), (9, 0), (9, 0)]) rfl k)))))))))) ?_
  exact tR_scanWord_58 hM x1 p7 w _ h0 hk7
theorem tR_scanWord_7 {Go : pj_C → Prop} (hM : pj_M l yX7_scanWord cX7_scanWord 5 none 1 24 true g n0 o Go) (x1 : Int)  (R : pj_W → Prop) (h0 : ∀ r, R (r) → ((none : Option pj_V), r) = o) (s : (Int × pj_W)) : pj_TG R (fR_scanWord_7 x1 s) (Go (7, [(12, 0), (0, x1), (1, s.1), (9, 0), (9, 0)], [], s.2)) := by
  unfold fR_scanWord_7
  exact pj_tLp (G := fun s : (Int × pj_W) => Go (7, [(12, 0), (0, x1), (1, s.1), (9, 0), (9, 0)], [], s.2)) (fun s => tR_scanWord_7b hM x1 s.1 s.2  _ (fun r h => h0 r h)  (fun s h => h)) s
theorem tR_scanWord {Go : pj_C → Prop} (hM : pj_M l yX7_scanWord cX7_scanWord 5 none 1 24 true g n0 o Go)  (w : pj_W)  (R : pj_W → Prop) (h0 : ∀ r, R (r) → ((none : Option pj_V), r) = o) : pj_TG R (fR_scanWord  w) (Go (0, [(12, 0), (9, 0), (9, 0), (9, 0), (9, 0)], [], w)) := by
  unfold fR_scanWord
  refine pj_map (fun k => pj_aload_n hM (pc := 0) dX7_scanWord_0 rfl rfl (pj_gf hM (pc := 1) (t := 0) dX7_scanWord_1 fl_X7_70 (by decide) rfl 9 rfl (pj_istore_n hM (pc := 4) dX7_scanWord_4 (by decide) (lls' := [(12, 0), (0, (w 12 0 9)), (9, 0), (9, 0), (9, 0)]) rfl (pj_lconst hM (pc := 5) (z := 0) dX7_scanWord_5 rfl (by decide) (pj_lstore_n hM (pc := 6) dX7_scanWord_6 (by decide) (lls' := [(12, 0), (0, (w 12 0 9)), (1, 0), (9, 0), (9, 0)]) rfl (pj_kill hM [true, true, true, false, false] (lls' := [(12, 0), (0, (w 12 0 9)), (1, 0), (9, 0), (9, 0)]) rfl k)))))) ?_
  exact tR_scanWord_7 hM (w 12 0 9) _ h0 _
theorem cR_scanWord   (w : pj_W) (r : pj_W) (h : fR_scanWord  w = some r) : pj_Cn l yX7_scanWord cX7_scanWord 5 none 1 24 true g [(12, 0)] w ((none : Option pj_V), r) :=
  pj_Cn_of rfl (Nat.le_of_ble_eq_true rfl) (lls := [(12, 0), (9, 0), (9, 0), (9, 0), (9, 0)]) rfl (fun Go hM => tR_scanWord hM w (fun x => ((none : Option pj_V), x) = ((none : Option pj_V), r)) (fun r h => h) r h rfl)
noncomputable def fR_scanToken_78 (x1 : Int) (s1 : Int) (w : pj_W) : Option (pj_W) :=
  (fR_addToken s1 (w 12 0 9) x1 w).bind fun p1 => (some ((pj_set p1 12 0 9 (pj_wr ((p1 12 0 9) + 1)))))
noncomputable def fR_scanToken_67 (x1 : Int) (s0 : Int) (w : pj_W) : Option (pj_W) :=
  fR_scanToken_78 x1 (if s0 = 0 then (1 : Int) else 2) w
noncomputable def fR_scanToken_62 (x1 : Int) (w : pj_W) : Option (pj_W) :=
  fR_scanToken_67 x1 1 w
noncomputable def fR_scanToken  (w : pj_W) : Option (pj_W) :=
  if 0 ≤ (w 12 0 9) ∧ (w 12 0 9) < 900 then ((fR_isLetter (w 30 0 (w 12 0 9)) w).bind fun p2 => (if p2 = 0 then ((fR_isDigit (w 30 0 (w 12 0 9)) w).bind fun p5 => (if p5 = 0 then (if (w 30 0 (w 12 0 9)) = 59 then (fR_scanToken_62 (w 30 0 (w 12 0 9)) w) else (if (w 30 0 (w 12 0 9)) = 60 then (fR_scanToken_62 (w 30 0 (w 12 0 9)) w) else (if (w 30 0 (w 12 0 9)) = 62 then (fR_scanToken_62 (w 30 0 (w 12 0 9)) w) else (if (w 30 0 (w 12 0 9)) = 61 then (fR_scanToken_62 (w 30 0 (w 12 0 9)) w) else (fR_scanToken_67 (w 30 0 (w 12 0 9)) 0 w))))) else ((fR_scanNumber w).bind fun p12 => (some (p12))))) else ((fR_scanWord w).bind fun p14 => (some (p14))))) else none
theorem tR_scanToken_78 {Go : pj_C → Prop} (hM : pj_M l yX7_scanToken cX7_scanToken 3 none 2 48 true g n0 o Go) (x1 : Int) (s1 : Int) (w : pj_W)  (R : pj_W → Prop) (h0 : ∀ r, R (r) → ((none : Option pj_V), r) = o) : pj_TG R (fR_scanToken_78 x1 s1 w) (Go (78, [(12, 0), (0, x1), (9, 0)], [(0, s1), (12, 0)], w)) := by
  unfold fR_scanToken_78
  refine pj_tbind (fun p1 h2 => ?_)
  exact pj_tret (fun hr => pj_aload_n hM (pc := 78) dX7_scanToken_78 rfl rfl (pj_gf hM (pc := 79) (t := 0) dX7_scanToken_79 fl_X7_70 (by decide) rfl 9 rfl (pj_iload_n hM (pc := 82) dX7_scanToken_82 rfl (pj_i2l hM (pc := 83) dX7_scanToken_83 (pj_cVv hM (pc := 84) (cR_addToken s1 (w 12 0 9) x1 w p1 h2) dX7_scanToken_84 mf_X7_addToken mv_X7_addToken ml_X7_82 kc_12 rfl rfl (by decide) rfl rfl (pj_aload_n hM (pc := 87) dX7_scanToken_87 rfl rfl (pj_dup hM (pc := 88) dX7_scanToken_88 (by decide) (pj_gf hM (pc := 89) (t := 0) dX7_scanToken_89 fl_X7_70 (by decide) rfl 9 rfl (pj_iconst hM (pc := 92) dX7_scanToken_92 (by decide) (pj_iadd hM (pc := 93) dX7_scanToken_93 (pj_pf hM (pc := 94) dX7_scanToken_94 fl_X7_70 (by decide) rfl (fun h => absurd h (by decide)) (by decide) (fun _ => rfl) 9 rfl (pj_ret hM (pc := 97) dX7_scanToken_97 rfl (h0 ((pj_set p1 12 0 9 (pj_wr ((p1 12 0 9) + 1)))) hr) rfl))))))))))))
theorem tR_scanToken_67 {Go : pj_C → Prop} (hM : pj_M l yX7_scanToken cX7_scanToken 3 none 2 48 true g n0 o Go) (x1 : Int) (s0 : Int) (w : pj_W)  (R : pj_W → Prop) (h0 : ∀ r, R (r) → ((none : Option pj_V), r) = o) : pj_TG R (fR_scanToken_67 x1 s0 w) (Go (67, [(12, 0), (0, x1), (9, 0)], [(0, s0)], w)) := by
  unfold fR_scanToken_67
  refine pj_map (fun k => pj_istore_n hM (pc := 67) dX7_scanToken_67 (by decide) (lls' := [(12, 0), (0, x1), (0, s0)]) rfl (pj_aload_n hM (pc := 68) dX7_scanToken_68 rfl rfl (pj_iload_n hM (pc := 69) dX7_scanToken_69 rfl k))) ?_
  refine pj_tJ (fun v : Int => fR_scanToken_78 x1 v w) (fun h1 => ?_) (fun h1 => ?_)
  · refine pj_map (fun k => pj_if_eq_t hM (pc := 70) dX7_scanToken_70 rfl h1 (pj_iconst hM (pc := 77) dX7_scanToken_77 (by decide) (pj_kill hM [true, true, false] (lls' := [(12, 0), (0, x1), (9, 0)]) rfl k))) ?_
    exact tR_scanToken_78 hM x1 1 w _ h0
  refine pj_map (fun k => pj_if_eq_f hM (pc := 70) 77 dX7_scanToken_70 rfl h1 (pj_iconst hM (pc := 73) dX7_scanToken_73 (by decide) (pj_goto hM (pc := 74) dX7_scanToken_74 rfl (pj_kill hM [true, true, false] (lls' := [(12, 0), (0, x1), (9, 0)]) rfl k)))) ?_
  exact tR_scanToken_78 hM x1 2 w _ h0
theorem tR_scanToken_62 {Go : pj_C → Prop} (hM : pj_M l yX7_scanToken cX7_scanToken 3 none 2 48 true g n0 o Go) (x1 : Int) (w : pj_W)  (R : pj_W → Prop) (h0 : ∀ r, R (r) → ((none : Option pj_V), r) = o) : pj_TG R (fR_scanToken_62 x1 w) (Go (62, [(12, 0), (0, x1), (9, 0)], [], w)) := by
  unfold fR_scanToken_62
  refine pj_map (fun k => pj_iconst hM (pc := 62) dX7_scanToken_62 (by decide) (pj_goto hM (pc := 63) dX7_scanToken_63 rfl (pj_kill hM [true, true, false] (lls' := [(12, 0), (0, x1), (9, 0)]) rfl k))) ?_
  exact tR_scanToken_67 hM x1 1 w _ h0
theorem tR_scanToken {Go : pj_C → Prop} (hM : pj_M l yX7_scanToken cX7_scanToken 3 none 2 48 true g n0 o Go)  (w : pj_W)  (R : pj_W → Prop) (h0 : ∀ r, R (r) → ((none : Option pj_V), r) = o) : pj_TG R (fR_scanToken  w) (Go (0, [(12, 0), (9, 0), (9, 0)], [], w)) := by
  unfold fR_scanToken
  refine pj_tgd (fun h1 => ?_)
  refine pj_tbind (fun p2 h3 => ?_)
  refine pj_map (fun k => pj_aload_n hM (pc := 0) dX7_scanToken_0 rfl rfl (pj_getF hM (pc := 1) (t := 30) dX7_scanToken_1 fl_X7_11 (by decide) rfl rfl (pj_aload_n hM (pc := 4) dX7_scanToken_4 rfl rfl (pj_gf hM (pc := 5) (t := 0) dX7_scanToken_5 fl_X7_70 (by decide) rfl 9 rfl (pj_bal hM (pc := 8) dX7_scanToken_8 kb_30 (by decide) h1 (pj_istore_n hM (pc := 9) dX7_scanToken_9 (by decide) (lls' := [(12, 0), (0, (w 30 0 (w 12 0 9))), (9, 0)]) rfl (pj_iload_n hM (pc := 10) dX7_scanToken_10 rfl (pj_cS hM (pc := 11) (cR_isLetter (w 30 0 (w 12 0 9)) w p2 h3) dX7_scanToken_11 mf_X7_isLetter ms_X7_isLetter ml_X7_86 rfl rfl rfl rfl k)))))))) ?_
  refine pj_tif (fun h4 => ?_) (fun h4 => ?_)
  · refine pj_tbind (fun p5 h6 => ?_)
    refine pj_map (fun k => pj_if_eq_t hM (pc := 14) dX7_scanToken_14 rfl h4 (pj_iload_n hM (pc := 24) dX7_scanToken_24 rfl (pj_cS hM (pc := 25) (cR_isDigit (w 30 0 (w 12 0 9)) w p5 h6) dX7_scanToken_25 mf_X7_isDigit ms_X7_isDigit ml_X7_93 rfl rfl rfl rfl k))) ?_
    refine pj_tif (fun h7 => ?_) (fun h7 => ?_)
    · refine pj_map (fun k => pj_if_eq_t hM (pc := 28) dX7_scanToken_28 rfl h7 (pj_iload_n hM (pc := 38) dX7_scanToken_38 rfl (pj_bipush hM (pc := 39) dX7_scanToken_39 (by decide) k))) ?_
      refine pj_tif (fun h8 => ?_) (fun h8 => ?_)
      · refine pj_map (fun k => pj_ic_eq_t hM (pc := 41) dX7_scanToken_41 rfl h8 (pj_kill hM [true, true, false] (lls' := [(12, 0), (0, (w 30 0 (w 12 0 9))), (9, 0)]) rfl k)) ?_
        exact tR_scanToken_62 hM (w 30 0 (w 12 0 9)) w _ h0
      refine pj_map (fun k => pj_ic_eq_f hM (pc := 41) 62 dX7_scanToken_41 rfl h8 (pj_iload_n hM (pc := 44) dX7_scanToken_44 rfl (pj_bipush hM (pc := 45) dX7_scanToken_45 (by decide) k))) ?_
      refine pj_tif (fun h9 => ?_) (fun h9 => ?_)
      · refine pj_map (fun k => pj_ic_eq_t hM (pc := 47) dX7_scanToken_47 rfl h9 (pj_kill hM [true, true, false] (lls' := [(12, 0), (0, (w 30 0 (w 12 0 9))), (9, 0)]) rfl k)) ?_
        exact tR_scanToken_62 hM (w 30 0 (w 12 0 9)) w _ h0
      refine pj_map (fun k => pj_ic_eq_f hM (pc := 47) 62 dX7_scanToken_47 rfl h9 (pj_iload_n hM (pc := 50) dX7_scanToken_50 rfl (pj_bipush hM (pc := 51) dX7_scanToken_51 (by decide) k))) ?_
      refine pj_tif (fun h10 => ?_) (fun h10 => ?_)
      · refine pj_map (fun k => pj_ic_eq_t hM (pc := 53) dX7_scanToken_53 rfl h10 (pj_kill hM [true, true, false] (lls' := [(12, 0), (0, (w 30 0 (w 12 0 9))), (9, 0)]) rfl k)) ?_
        exact tR_scanToken_62 hM (w 30 0 (w 12 0 9)) w _ h0
      refine pj_map (fun k => pj_ic_eq_f hM (pc := 53) 62 dX7_scanToken_53 rfl h10 (pj_iload_n hM (pc := 56) dX7_scanToken_56 rfl (pj_bipush hM (pc := 57) dX7_scanToken_57 (by decide) k))) ?_
      refine pj_tif (fun h11 => ?_) (fun h11 => ?_)
      · refine pj_map (fun k => pj_ic_ne_f hM (pc := 59) 66 dX7_scanToken_59 rfl (fun q => q h11) (pj_kill hM [true, true, false] (lls' := [(12, 0), (0, (w 30 0 (w 12 0 9))), (9, 0)]) rfl k)) ?_
        exact tR_scanToken_62 hM (w 30 0 (w 12 0 9)) w _ h0
      refine pj_map (fun k => pj_ic_ne_t hM (pc := 59) dX7_scanToken_59 rfl h11 (pj_iconst hM (pc := 66) dX7_scanToken_66 (by decide) (pj_kill hM [true, true, false] (lls' := [(12, 0), (0, (w 30 0 (w 12 0 9))), (9, 0)]) rfl k))) ?_
      exact tR_scanToken_67 hM (w 30 0 (w 12 0 9)) 0 w _ h0
    refine pj_tbind (fun p12 h13 => ?_)
    exact pj_tret (fun hr => pj_if_eq_f hM (pc := 28) 38 dX7_scanToken_28 rfl h7 (pj_aload_n hM (pc := 31) dX7_scanToken_31 rfl rfl (pj_cVv hM (pc := 32) (cR_scanNumber w p12 h13) dX7_scanToken_32 mf_X7_scanNumber mv_X7_scanNumber ml_X7_96 kc_12 rfl rfl (by decide) rfl rfl (pj_goto hM (pc := 35) dX7_scanToken_35 rfl (pj_ret hM (pc := 97) dX7_scanToken_97 rfl (h0 (p12) hr) rfl)))))
  refine pj_tbind (fun p14 h15 => ?_)
  exact pj_tret (fun hr => pj_if_eq_f hM (pc := 14) 24 dX7_scanToken_14 rfl h4 (pj_aload_n hM (pc := 17) dX7_scanToken_17 rfl rfl (pj_cVv hM (pc := 18) (cR_scanWord w p14 h15) dX7_scanToken_18 mf_X7_scanWord mv_X7_scanWord ml_X7_90 kc_12 rfl rfl (by decide) rfl rfl (pj_goto hM (pc := 21) dX7_scanToken_21 rfl (pj_ret hM (pc := 97) dX7_scanToken_97 rfl (h0 (p14) hr) rfl)))))
theorem cR_scanToken   (w : pj_W) (r : pj_W) (h : fR_scanToken  w = some r) : pj_Cn l yX7_scanToken cX7_scanToken 3 none 2 48 true g [(12, 0)] w ((none : Option pj_V), r) :=
  pj_Cn_of rfl (Nat.le_of_ble_eq_true rfl) (lls := [(12, 0), (9, 0), (9, 0)]) rfl (fun Go hM => tR_scanToken hM w (fun x => ((none : Option pj_V), x) = ((none : Option pj_V), r)) (fun r h => h) r h rfl)
noncomputable def fR_skipBlanks_39  (w : pj_W) : Option ((pj_W) ⊕ (pj_W)) :=
  some (Sum.inl ((pj_set w 12 0 9 (pj_wr ((w 12 0 9) + 1)))))
noncomputable def fR_skipBlanks_0b   (w : pj_W) : Option ((pj_W) ⊕ (pj_W)) :=
  if (w 12 0 8) ≤ (w 12 0 9) then (some (Sum.inr (w))) else (if 0 ≤ (w 12 0 9) ∧ (w 12 0 9) < 900 then (if (w 30 0 (w 12 0 9)) = 32 then (fR_skipBlanks_39 w) else (if (w 30 0 (w 12 0 9)) = 10 then (fR_skipBlanks_39 w) else (some (Sum.inr (w))))) else none)
noncomputable def fR_skipBlanks_0  (s : (pj_W)) : Option (pj_W) := pj_Lp (fun s : (pj_W) => fR_skipBlanks_0b  s) s
noncomputable def fR_skipBlanks  (w : pj_W) : Option (pj_W) :=
  fR_skipBlanks_0 (w)
theorem tR_skipBlanks_39 {Go : pj_C → Prop} (hM : pj_M l yX7_skipBlanks cX7_skipBlanks 1 none 0 0 true g n0 o Go)  (w : pj_W)  (R : (pj_W) ⊕ (pj_W) → Prop) (h0 : ∀ r, R (Sum.inr (r)) → ((none : Option pj_V), r) = o) (hk0 : ∀ s, R (Sum.inl s) → Go (0, [(12, 0)], [], s)) : pj_TG R (fR_skipBlanks_39  w) (Go (39, [(12, 0)], [], w)) := by
  unfold fR_skipBlanks_39
  exact pj_tret (fun hr => pj_aload_n hM (pc := 39) dX7_skipBlanks_39 rfl rfl (pj_dup hM (pc := 40) dX7_skipBlanks_40 (by decide) (pj_gf hM (pc := 41) (t := 0) dX7_skipBlanks_41 fl_X7_70 (by decide) rfl 9 rfl (pj_iconst hM (pc := 44) dX7_skipBlanks_44 (by decide) (pj_iadd hM (pc := 45) dX7_skipBlanks_45 (pj_pf hM (pc := 46) dX7_skipBlanks_46 fl_X7_70 (by decide) rfl (fun h => absurd h (by decide)) (by decide) (fun _ => rfl) 9 rfl (pj_goto hM (pc := 49) dX7_skipBlanks_49 rfl (pj_kill hM [true] (lls' := [(12, 0)]) rfl ((hk0 _ hr))))))))))
theorem tR_skipBlanks_0b {Go : pj_C → Prop} (hM : pj_M l yX7_skipBlanks cX7_skipBlanks 1 none 0 0 true g n0 o Go)   (w : pj_W)  (R : (pj_W) ⊕ (pj_W) → Prop) (h0 : ∀ r, R (Sum.inr (r)) → ((none : Option pj_V), r) = o) (hk0 : ∀ s, R (Sum.inl s) → Go (0, [(12, 0)], [], s)) : pj_TG R (fR_skipBlanks_0b  w) (Go (0, [(12, 0)], [], w)) := by
  unfold fR_skipBlanks_0b
  refine pj_map (fun k => pj_aload_n hM (pc := 0) dX7_skipBlanks_0 rfl rfl (pj_gf hM (pc := 1) (t := 0) dX7_skipBlanks_1 fl_X7_70 (by decide) rfl 9 rfl (pj_aload_n hM (pc := 4) dX7_skipBlanks_4 rfl rfl (pj_gf hM (pc := 5) (t := 0) dX7_skipBlanks_5 fl_X7_65 (by decide) rfl 8 rfl k)))) ?_
  refine pj_tif (fun h1 => ?_) (fun h1 => ?_)
  · exact pj_tret (fun hr => pj_ic_ge_t hM (pc := 8) dX7_skipBlanks_8 rfl h1 (pj_ret hM (pc := 52) dX7_skipBlanks_52 rfl (h0 (w) hr) rfl))
  refine pj_tgd (fun h2 => ?_)
  refine pj_map (fun k => pj_ic_ge_f hM (pc := 8) 52 dX7_skipBlanks_8 rfl h1 (pj_aload_n hM (pc := 11) dX7_skipBlanks_11 rfl rfl (pj_getF hM (pc := 12) (t := 30) dX7_skipBlanks_12 fl_X7_11 (by decide) rfl rfl (pj_aload_n hM (pc := 15) dX7_skipBlanks_15 rfl rfl (pj_gf hM (pc := 16) (t := 0) dX7_skipBlanks_16 fl_X7_70 (by decide) rfl 9 rfl (pj_bal hM (pc := 19) dX7_skipBlanks_19 kb_30 (by decide) h2 (pj_bipush hM (pc := 20) dX7_skipBlanks_20 (by decide) k))))))) ?_
  refine pj_tif (fun h3 => ?_) (fun h3 => ?_)
  · refine pj_map (fun k => pj_ic_eq_t hM (pc := 22) dX7_skipBlanks_22 rfl h3 (pj_kill hM [true] (lls' := [(12, 0)]) rfl k)) ?_
    exact tR_skipBlanks_39 hM w _ h0 hk0
  refine pj_map (fun k => pj_ic_eq_f hM (pc := 22) 39 dX7_skipBlanks_22 rfl h3 (pj_aload_n hM (pc := 25) dX7_skipBlanks_25 rfl rfl (pj_getF hM (pc := 26) (t := 30) dX7_skipBlanks_26 fl_X7_11 (by decide) rfl rfl (pj_aload_n hM (pc := 29) dX7_skipBlanks_29 rfl rfl (pj_gf hM (pc := 30) (t := 0) dX7_skipBlanks_30 fl_X7_70 (by decide) rfl 9 rfl (pj_bal hM (pc := 33) dX7_skipBlanks_33 kb_30 (by decide) h2 (pj_bipush hM (pc := 34) dX7_skipBlanks_34 (by decide) k))))))) ?_
  refine pj_tif (fun h4 => ?_) (fun h4 => ?_)
  · refine pj_map (fun k => pj_ic_ne_f hM (pc := 36) 52 dX7_skipBlanks_36 rfl (fun q => q h4) (pj_kill hM [true] (lls' := [(12, 0)]) rfl k)) ?_
    exact tR_skipBlanks_39 hM w _ h0 hk0
  exact pj_tret (fun hr => pj_ic_ne_t hM (pc := 36) dX7_skipBlanks_36 rfl h4 (pj_ret hM (pc := 52) dX7_skipBlanks_52 rfl (h0 (w) hr) rfl))
theorem tR_skipBlanks_0 {Go : pj_C → Prop} (hM : pj_M l yX7_skipBlanks cX7_skipBlanks 1 none 0 0 true g n0 o Go)   (R : pj_W → Prop) (h0 : ∀ r, R (r) → ((none : Option pj_V), r) = o) (s : (pj_W)) : pj_TG R (fR_skipBlanks_0  s) (Go (0, [(12, 0)], [], s)) := by
  unfold fR_skipBlanks_0
  exact pj_tLp (G := fun s : (pj_W) => Go (0, [(12, 0)], [], s)) (fun s => tR_skipBlanks_0b hM  s  _ (fun r h => h0 r h)  (fun s h => h)) s
theorem tR_skipBlanks {Go : pj_C → Prop} (hM : pj_M l yX7_skipBlanks cX7_skipBlanks 1 none 0 0 true g n0 o Go)  (w : pj_W)  (R : pj_W → Prop) (h0 : ∀ r, R (r) → ((none : Option pj_V), r) = o) : pj_TG R (fR_skipBlanks  w) (Go (0, [(12, 0)], [], w)) := by
  unfold fR_skipBlanks
  refine pj_map (fun k => pj_kill hM [true] (lls' := [(12, 0)]) rfl k) ?_
  exact tR_skipBlanks_0 hM _ h0 _
theorem cR_skipBlanks   (w : pj_W) (r : pj_W) (h : fR_skipBlanks  w = some r) : pj_Cn l yX7_skipBlanks cX7_skipBlanks 1 none 0 0 true g [(12, 0)] w ((none : Option pj_V), r) :=
  pj_Cn_of rfl (Nat.le_of_ble_eq_true rfl) (lls := [(12, 0)]) rfl (fun Go hM => tR_skipBlanks hM w (fun x => ((none : Option pj_V), x) = ((none : Option pj_V), r)) (fun r h => h) r h rfl)
noncomputable def fR_begin_80  (w : pj_W) : Option (pj_W) :=
  (fR_addToken 0 (w 12 0 8) 0 w).bind fun p1 => (some (p1))
noncomputable def fR_begin_48b  (x2 : Int) (w : pj_W) : Option ((Int × pj_W) ⊕ (pj_W)) :=
  if 900 ≤ x2 then ((fR_begin_80 w).map Sum.inr) else (if (w 12 0 8) ≤ (w 12 0 9) then ((fR_begin_80 w).map Sum.inr) else ((fR_scanToken w).bind fun p3 => ((fR_skipBlanks p3).bind fun p5 => (some (Sum.inl ((pj_wr (x2 + 1)), p5))))))
noncomputable def fR_begin_48  (s : (Int × pj_W)) : Option (pj_W) := pj_Lp (fun s : (Int × pj_W) => fR_begin_48b  s.1 s.2) s
noncomputable def fR_begin (x1 : Int) (w : pj_W) : Option (pj_W) :=
  (some (pj_set (pj_set (pj_set (pj_set w 12 0 8 (min x1 (w 12 0 5))) 12 0 5 0) 12 0 6 0) 12 0 7 (-1))).bind fun w1 => ((fR_skipBlanks (pj_set (pj_set (pj_set w1 12 0 10 0) 12 0 9 0) 12 0 11 0)).bind fun p2 => (fR_begin_48 (0, p2)))
theorem tR_begin_80 {Go : pj_C → Prop} (hM : pj_M l yX7_begin cX7_begin 3 none 3 70 true g n0 o Go)  (w : pj_W)  (R : pj_W → Prop) (h0 : ∀ r, R (r) → ((none : Option pj_V), r) = o) : pj_TG R (fR_begin_80  w) (Go (80, [(12, 0), (9, 0), (9, 0)], [], w)) := by
  unfold fR_begin_80
  refine pj_tbind (fun p1 h2 => ?_)
  exact pj_tret (fun hr => pj_aload_n hM (pc := 80) dX7_begin_80 rfl rfl (pj_iconst hM (pc := 81) dX7_begin_81 (by decide) (pj_aload_n hM (pc := 82) dX7_begin_82 rfl rfl (pj_gf hM (pc := 83) (t := 0) dX7_begin_83 fl_X7_65 (by decide) rfl 8 rfl (pj_lconst hM (pc := 86) (z := 0) dX7_begin_86 rfl (by decide) (pj_cVv hM (pc := 87) (cR_addToken 0 (w 12 0 8) 0 w p1 h2) dX7_begin_87 mf_X7_addToken mv_X7_addToken ml_X7_82 kc_12 rfl rfl (by decide) rfl rfl (pj_ret hM (pc := 90) dX7_begin_90 rfl (h0 (p1) hr) rfl)))))))
theorem tR_begin_48b {Go : pj_C → Prop} (hM : pj_M l yX7_begin cX7_begin 3 none 3 70 true g n0 o Go)  (x2 : Int) (w : pj_W)  (R : (Int × pj_W) ⊕ (pj_W) → Prop) (h0 : ∀ r, R (Sum.inr (r)) → ((none : Option pj_V), r) = o) (hk48 : ∀ s, R (Sum.inl s) → Go (48, [(12, 0), (9, 0), (0, s.1)], [], s.2)) : pj_TG R (fR_begin_48b  x2 w) (Go (48, [(12, 0), (9, 0), (0, x2)], [], w)) := by
  unfold fR_begin_48b
  refine pj_map (fun k => pj_iload_n hM (pc := 48) dX7_begin_48 rfl (pj_sipush hM (pc := 49) dX7_begin_49 (by decide) k)) ?_
  refine pj_tif (fun h1 => ?_) (fun h1 => ?_)
  · refine pj_tmap ?_
    refine pj_map (fun k => pj_ic_ge_t hM (pc := 52) dX7_begin_52 rfl h1 (pj_kill hM [true, false, false] (lls' := [(12, 0), (9, 0), (9, 0)]) rfl k)) ?_
    exact tR_begin_80 hM w _ h0
  refine pj_map (fun k => pj_ic_ge_f hM (pc := 52) 80 dX7_begin_52 rfl h1 (pj_aload_n hM (pc := 55) dX7_begin_55 rfl rfl (pj_gf hM (pc := 56) (t := 0) dX7_begin_56 fl_X7_70 (by decide) rfl 9 rfl (pj_aload_n hM (pc := 59) dX7_begin_59 rfl rfl (pj_gf hM (pc := 60) (t := 0) dX7_begin_60 fl_X7_65 (by decide) rfl 8 rfl k))))) ?_
  refine pj_tif (fun h2 => ?_) (fun h2 => ?_)
  · refine pj_tmap ?_
    refine pj_map (fun k => pj_ic_ge_t hM (pc := 63) dX7_begin_63 rfl h2 (pj_kill hM [true, false, false] (lls' := [(12, 0), (9, 0), (9, 0)]) rfl k)) ?_
    exact tR_begin_80 hM w _ h0
  refine pj_tbind (fun p3 h4 => ?_)
  refine pj_tbind (fun p5 h6 => ?_)
  exact pj_tret (fun hr => pj_ic_ge_f hM (pc := 63) 80 dX7_begin_63 rfl h2 (pj_aload_n hM (pc := 66) dX7_begin_66 rfl rfl (pj_cVv hM (pc := 67) (cR_scanToken w p3 h4) dX7_begin_67 mf_X7_scanToken mv_X7_scanToken ml_X7_79 kc_12 rfl rfl (by decide) rfl rfl (pj_aload_n hM (pc := 70) dX7_begin_70 rfl rfl (pj_cVv hM (pc := 71) (cR_skipBlanks p3 p5 h6) dX7_begin_71 mf_X7_skipBlanks mv_X7_skipBlanks ml_X7_76 kc_12 rfl rfl (by decide) rfl rfl (pj_iinc hM (pc := 74) dX7_begin_74 rfl (by decide) (lls' := [(12, 0), (9, 0), (0, (pj_wr (x2 + 1)))]) rfl (pj_goto hM (pc := 77) dX7_begin_77 rfl (pj_kill hM [true, false, true] (lls' := [(12, 0), (9, 0), (0, (pj_wr (x2 + 1)))]) rfl ((hk48 _ hr))))))))))
theorem tR_begin_48 {Go : pj_C → Prop} (hM : pj_M l yX7_begin cX7_begin 3 none 3 70 true g n0 o Go)   (R : pj_W → Prop) (h0 : ∀ r, R (r) → ((none : Option pj_V), r) = o) (s : (Int × pj_W)) : pj_TG R (fR_begin_48  s) (Go (48, [(12, 0), (9, 0), (0, s.1)], [], s.2)) := by
  unfold fR_begin_48
  exact pj_tLp (G := fun s : (Int × pj_W) => Go (48, [(12, 0), (9, 0), (0, s.1)], [], s.2)) (fun s => tR_begin_48b hM  s.1 s.2  _ (fun r h => h0 r h)  (fun s h => h)) s
theorem tR_begin {Go : pj_C → Prop} (hM : pj_M l yX7_begin cX7_begin 3 none 3 70 true g n0 o Go) (x1 : Int) (w : pj_W)  (R : pj_W → Prop) (h0 : ∀ r, R (r) → ((none : Option pj_V), r) = o) : pj_TG R (fR_begin x1 w) (Go (0, [(12, 0), (0, x1), (9, 0)], [], w)) := by
  unfold fR_begin
  refine pj_map (fun k => pj_aload_n hM (pc := 0) dX7_begin_0 rfl rfl (pj_iload_n hM (pc := 1) dX7_begin_1 rfl (pj_aload_n hM (pc := 2) dX7_begin_2 rfl rfl (pj_gf hM (pc := 3) (t := 0) dX7_begin_3 fl_X7_56 (by decide) rfl 5 rfl (pj_mmin hM (pc := 6) dX7_begin_6 mf_J9_min_7cf53 ms_J9_min_7cf53 ml_X7_59 rfl (pj_pf hM (pc := 9) dX7_begin_9 fl_X7_65 (by decide) rfl (fun h => absurd h (by decide)) (by decide) (fun _ => rfl) 8 rfl (pj_aload_n hM (pc := 12) dX7_begin_12 rfl rfl (pj_iconst hM (pc := 13) dX7_begin_13 (by decide) (pj_pf hM (pc := 14) dX7_begin_14 fl_X7_56 (by decide) rfl (fun h => absurd h (by decide)) (by decide) (fun _ => rfl) 5 rfl (pj_aload_n hM (pc := 17) dX7_begin_17 rfl rfl (pj_iconst hM (pc := 18) dX7_begin_18 (by decide) (pj_pf hM (pc := 19) dX7_begin_19 fl_X7_31 (by decide) rfl (fun h => absurd h (by decide)) (by decide) (fun _ => rfl) 6 rfl (pj_aload_n hM (pc := 22) dX7_begin_22 rfl rfl (pj_iconst hM (pc := 23) dX7_begin_23 (by decide) (pj_pf hM (pc := 24) dX7_begin_24 fl_X7_35 (by decide) rfl (fun h => absurd h (by decide)) (by decide) (fun _ => rfl) 7 rfl k))))))))))))))) ?_
  refine pj_tlet (fun w1 => Go (27, [(12, 0), (0, x1), (9, 0)], [], w1)) (fun w1 => ?_)
  refine pj_tbind (fun p2 h3 => ?_)
  refine pj_map (fun k => pj_aload_n hM (pc := 27) dX7_begin_27 rfl rfl (pj_iconst hM (pc := 28) dX7_begin_28 (by decide) (pj_pf hM (pc := 29) dX7_begin_29 fl_X7_67 (by decide) rfl (fun h => absurd h (by decide)) (by decide) (fun _ => rfl) 10 rfl (pj_aload_n hM (pc := 32) dX7_begin_32 rfl rfl (pj_iconst hM (pc := 33) dX7_begin_33 (by decide) (pj_pf hM (pc := 34) dX7_begin_34 fl_X7_70 (by decide) rfl (fun h => absurd h (by decide)) (by decide) (fun _ => rfl) 9 rfl (pj_aload_n hM (pc := 37) dX7_begin_37 rfl rfl (pj_iconst hM (pc := 38) dX7_begin_38 (by decide) (pj_pf hM (pc := 39) dX7_begin_39 fl_X7_73 (by decide) rfl (fun h => absurd h (by decide)) (by decide) (fun _ => rfl) 11 rfl (pj_aload_n hM (pc := 42) dX7_begin_42 rfl rfl (pj_cVv hM (pc := 43) (cR_skipBlanks (pj_set (pj_set (pj_set w1 12 0 10 0) 12 0 9 0) 12 0 11 0) p2 h3) dX7_begin_43 mf_X7_skipBlanks mv_X7_skipBlanks ml_X7_76 kc_12 rfl rfl (by decide) rfl rfl (pj_iconst hM (pc := 46) dX7_begin_46 (by decide) (pj_istore_n hM (pc := 47) dX7_begin_47 (by decide) (lls' := [(12, 0), (0, x1), (0, 0)]) rfl (pj_kill hM [true, false, true] (lls' := [(12, 0), (9, 0), (0, 0)]) rfl k)))))))))))))) ?_
  exact tR_begin_48 hM _ h0 _
theorem cR_begin (x1 : Int)  (w : pj_W) (r : pj_W) (h : fR_begin x1 w = some r) : pj_Cn l yX7_begin cX7_begin 3 none 3 70 true g [(12, 0), (0, x1)] w ((none : Option pj_V), r) :=
  pj_Cn_of rfl (Nat.le_of_ble_eq_true rfl) (lls := [(12, 0), (0, x1), (9, 0)]) rfl (fun Go hM => tR_begin hM x1 w (fun x => ((none : Option pj_V), x) = ((none : Option pj_V), r)) (fun r h => h) r h rfl)
noncomputable def fX_beach_15  (w : pj_W) : Option (Int × pj_W) :=
  (fX_refuse 1 w).bind fun p1 => (some ((p1.1, p1.2)))
noncomputable def fX_beach (x1 : Int) (w : pj_W) : Option (Int × pj_W) :=
  if x1 < 0 then (fX_beach_15 w) else (if x1 ≤ (w 12 0 5) then ((fR_begin x1 w).bind fun p3 => ((fBT_takeBeach (p3 10 0 11) p3).bind fun p5 => (if p5.1 = 0 then ((fX_refuse 9 p5.2).bind fun p8 => (some ((p8.1, p8.2)))) else (if 0 ≤ ((pj_set (pj_set p5.2 10 0 10 (p5.2 10 0 11)) 10 0 11 (p5.2 10 0 10)) 10 0 12) then ((fD_clear ((pj_set (pj_set p5.2 10 0 10 (p5.2 10 0 11)) 10 0 11 (p5.2 10 0 10)) 10 0 12) (pj_set (pj_set p5.2 10 0 10 (p5.2 10 0 11)) 10 0 11 (p5.2 10 0 10))).bind fun p11 => (if 0 ≤ (p11 10 0 10) then ((fX_answer (p11 19 (p11 10 0 10) 8) p11).bind fun p14 => (some ((p14.1, p14.2)))) else none)) else none)))) else (fX_beach_15 w))
theorem tX_beach_15 {Go : pj_C → Prop} (hM : pj_M l yX11_beach cX11_beach 3 (some .int) 7 151 true g n0 o Go)  (w : pj_W)  (R : Int × pj_W → Prop) (h0 : ∀ r, R (r) → ((some (0, r.1) : Option pj_V), r.2) = o) : pj_TG R (fX_beach_15  w) (Go (15, [(10, 0), (9, 0), (9, 0)], [], w)) := by
  unfold fX_beach_15
  refine pj_tbind (fun p1 h2 => ?_)
  exact pj_tret (fun hr => pj_aload_n hM (pc := 15) dX11_beach_15 rfl rfl (pj_iconst hM (pc := 16) dX11_beach_16 (by decide) (pj_cV hM (pc := 17) (cX_refuse 1 w p1 h2) dX11_beach_17 mf_X11_refuse mv_X11_refuse ml_X11_100 kc_10 rfl rfl (by decide) rfl rfl (pj_ret hM (pc := 20) dX11_beach_20 ⟨_, rfl⟩ (h0 ((p1.1, p1.2)) hr) rfl))))
theorem tX_beach {Go : pj_C → Prop} (hM : pj_M l yX11_beach cX11_beach 3 (some .int) 7 151 true g n0 o Go) (x1 : Int) (w : pj_W)  (R : Int × pj_W → Prop) (h0 : ∀ r, R (r) → ((some (0, r.1) : Option pj_V), r.2) = o) : pj_TG R (fX_beach x1 w) (Go (0, [(10, 0), (0, x1), (9, 0)], [], w)) := by
  unfold fX_beach
  refine pj_map (fun k => pj_iload_n hM (pc := 0) dX11_beach_0 rfl k) ?_
  refine pj_tif (fun h1 => ?_) (fun h1 => ?_)
  · refine pj_map (fun k => pj_if_lt_t hM (pc := 1) dX11_beach_1 rfl h1 (pj_kill hM [true, false, false] (lls' := [(10, 0), (9, 0), (9, 0)]) rfl k)) ?_
    exact tX_beach_15 hM w _ h0
  refine pj_map (fun k => pj_if_lt_f hM (pc := 1) 15 dX11_beach_1 rfl h1 (pj_iload_n hM (pc := 4) dX11_beach_4 rfl (pj_aload_n hM (pc := 5) dX11_beach_5 rfl rfl (pj_getF hM (pc := 6) (t := 12) dX11_beach_6 fl_X11_18 (by decide) rfl rfl (pj_gf hM (pc := 9) (t := 0) dX11_beach_9 fl_X11_162 (by decide) rfl 5 rfl k))))) ?_
  refine pj_tif (fun h2 => ?_) (fun h2 => ?_)
  · refine pj_tbind (fun p3 h4 => ?_)
    refine pj_tbind (fun p5 h6 => ?_)
    refine pj_map (fun k => pj_ic_le_t hM (pc := 12) dX11_beach_12 rfl h2 (pj_aload_n hM (pc := 21) dX11_beach_21 rfl rfl (pj_getF hM (pc := 22) (t := 12) dX11_beach_22 fl_X11_18 (by decide) rfl rfl (pj_iload_n hM (pc := 25) dX11_beach_25 rfl (pj_cVv hM (pc := 26) (cR_begin x1 w p3 h4) dX11_beach_26 mf_X7_begin mv_X7_begin ml_X11_165 kc_12 rfl rfl (by decide) rfl rfl (pj_aload_n hM (pc := 29) dX11_beach_29 rfl rfl (pj_getF hM (pc := 30) (t := 13) dX11_beach_30 fl_X11_27 (by decide) rfl rfl (pj_aload_n hM (pc := 33) dX11_beach_33 rfl rfl (pj_gf hM (pc := 34) (t := 19) dX11_beach_34 fl_X11_73 (by decide) rfl 11 rfl (pj_cV hM (pc := 37) (cBT_takeBeach (p3 10 0 11) p3 p5 h6) dX11_beach_37 mf_X1_takeBeach mv_X1_takeBeach ml_X11_168 kc_13 rfl rfl (by decide) rfl rfl k)))))))))) ?_
    refine pj_tif (fun h7 => ?_) (fun h7 => ?_)
    · refine pj_tbind (fun p8 h9 => ?_)
      exact pj_tret (fun hr => pj_if_ne_f hM (pc := 40) 50 dX11_beach_40 rfl (fun q => q h7) (pj_aload_n hM (pc := 43) dX11_beach_43 rfl rfl (pj_bipush hM (pc := 44) dX11_beach_44 (by decide) (pj_cV hM (pc := 46) (cX_refuse 9 p5.2 p8 h9) dX11_beach_46 mf_X11_refuse mv_X11_refuse ml_X11_100 kc_10 rfl rfl (by decide) rfl rfl (pj_ret hM (pc := 49) dX11_beach_49 ⟨_, rfl⟩ (h0 ((p8.1, p8.2)) hr) rfl)))))
    refine pj_tgd (fun h10 => ?_)
    refine pj_tbind (fun p11 h12 => ?_)
    refine pj_tgd (fun h13 => ?_)
    refine pj_tbind (fun p14 h15 => ?_)
    exact pj_tret (fun hr => pj_if_ne_t hM (pc := 40) dX11_beach_40 rfl h7 (pj_aload_n hM (pc := 50) dX11_beach_50 rfl rfl (pj_gf hM (pc := 51) (t := 19) dX11_beach_51 fl_X11_69 (by decide) rfl 10 rfl (pj_astore_n hM (pc := 54) dX11_beach_54 (by decide) (by decide) (lls' := [(10, 0), (0, x1), (19, (p5.2 10 0 10))]) rfl (pj_aload_n hM (pc := 55) dX11_beach_55 rfl rfl (pj_aload_n hM (pc := 56) dX11_beach_56 rfl rfl (pj_gf hM (pc := 57) (t := 19) dX11_beach_57 fl_X11_73 (by decide) rfl 11 rfl (pj_pf hM (pc := 60) dX11_beach_60 fl_X11_69 (by decide) rfl (fun h => absurd h (by decide)) (by decide) (fun _ => rfl) 10 rfl (pj_aload_n hM (pc := 63) dX11_beach_63 rfl rfl (pj_aload_n hM (pc := 64) dX11_beach_64 rfl rfl (pj_pf hM (pc := 65) dX11_beach_65 fl_X11_73 (by decide) rfl (fun h => absurd h (by decide)) (by decide) (fun _ => rfl) 11 rfl (pj_aload_n hM (pc := 68) dX11_beach_68 rfl rfl (pj_gf hM (pc := 69) (t := 24) dX11_beach_69 fl_X11_77 (by decide) rfl 12 rfl (pj_cVv hM (pc := 72) (cD_clear ((pj_set (pj_set p5.2 10 0 10 (p5.2 10 0 11)) 10 0 11 (p5.2 10 0 10)) 10 0 12) h10 (pj_set (pj_set p5.2 10 0 10 (p5.2 10 0 11)) 10 0 11 (p5.2 10 0 10)) p11 h12) dX11_beach_72 mf_X2_clear mv_X2_clear ml_X11_172 kc_24 rfl rfl h10 rfl rfl (pj_aload_n hM (pc := 75) dX11_beach_75 rfl rfl (pj_aload_n hM (pc := 76) dX11_beach_76 rfl rfl (pj_gf hM (pc := 77) (t := 19) dX11_beach_77 fl_X11_69 (by decide) rfl 10 rfl (pj_gf hM (pc := 80) (t := 0) dX11_beach_80 fl_X11_175 h13 rfl 8 rfl (pj_cV hM (pc := 83) (cX_answer (p11 19 (p11 10 0 10) 8) p11 p14 h15) dX11_beach_83 mf_X11_answer mv_X11_answer ml_X11_96 kc_10 rfl rfl (by decide) rfl rfl (pj_ret hM (pc := 86) dX11_beach_86 ⟨_, rfl⟩ (h0 ((p14.1, p14.2)) hr) rfl))))))))))))))))))))
  refine pj_map (fun k => pj_ic_le_f hM (pc := 12) 21 dX11_beach_12 rfl h2 (pj_kill hM [true, false, false] (lls' := [(10, 0), (9, 0), (9, 0)]) rfl k)) ?_
  exact tX_beach_15 hM w _ h0
theorem cX_beach (x1 : Int)  (w : pj_W) (r : Int × pj_W) (h : fX_beach x1 w = some r) : pj_Cn l yX11_beach cX11_beach 3 (some .int) 7 151 true g [(10, 0), (0, x1)] w ((some (0, r.1) : Option pj_V), r.2) :=
  pj_Cn_of rfl (Nat.le_of_ble_eq_true rfl) (lls := [(10, 0), (0, x1), (9, 0)]) rfl (fun Go hM => tX_beach hM x1 w (fun x => ((some (0, x.1) : Option pj_V), x.2) = ((some (0, r.1) : Option pj_V), r.2)) (fun r h => h) r h rfl)
noncomputable def fB_finderAt_21 (i0 : Int) (w : pj_W) : Option (Int) :=
  some ((-1))
noncomputable def fB_finderAt (i0 : Int) (x1 : Int) (w : pj_W) : Option (Int) :=
  if x1 < 0 then (fB_finderAt_21 i0 w) else (if (w 19 i0 7) ≤ x1 then (fB_finderAt_21 i0 w) else (if 0 ≤ x1 ∧ x1 < 6 then (some ((6 * i0 + x1))) else none))
theorem tB_finderAt_21 {Go : pj_C → Prop} (hM : pj_M l yX0_finderAt cX0_finderAt 2 (some (.object "LastPebble$Finder")) 0 0 true g n0 o Go) (i0 : Int) (w : pj_W) (hn0 : 0 ≤ i0) (R : Int → Prop) (h0 : ∀ r, R (r) → ((some (22, r) : Option pj_V), w) = o) : pj_TG R (fB_finderAt_21 i0 w) (Go (21, [(19, i0), (9, 0)], [], w)) := by
  unfold fB_finderAt_21
  exact pj_tret (fun hr => pj_null hM (pc := 21) (k := 22) dX0_finderAt_21 (by decide) (pj_ret hM (pc := 22) dX0_finderAt_22 ⟨_, _, by decide, rfl⟩ (h0 ((-1)) hr) rfl))
theorem tB_finderAt {Go : pj_C → Prop} (hM : pj_M l yX0_finderAt cX0_finderAt 2 (some (.object "LastPebble$Finder")) 0 0 true g n0 o Go) (i0 : Int) (x1 : Int) (w : pj_W) (hn0 : 0 ≤ i0) (R : Int → Prop) (h0 : ∀ r, R (r) → ((some (22, r) : Option pj_V), w) = o) : pj_TG R (fB_finderAt i0 x1 w) (Go (0, [(19, i0), (0, x1)], [], w)) := by
  unfold fB_finderAt
  refine pj_map (fun k => pj_iload_n hM (pc := 0) dX0_finderAt_0 rfl k) ?_
  refine pj_tif (fun h1 => ?_) (fun h1 => ?_)
  · refine pj_map (fun k => pj_if_lt_t hM (pc := 1) dX0_finderAt_1 rfl h1 (pj_kill hM [true, false] (lls' := [(19, i0), (9, 0)]) rfl k)) ?_
    exact tB_finderAt_21 hM i0 w hn0 _ h0
  refine pj_map (fun k => pj_if_lt_f hM (pc := 1) 21 dX0_finderAt_1 rfl h1 (pj_iload_n hM (pc := 4) dX0_finderAt_4 rfl (pj_aload_n hM (pc := 5) dX0_finderAt_5 rfl rfl (pj_gf hM (pc := 6) (t := 0) dX0_finderAt_6 fl_X0_44 hn0 rfl 7 rfl k)))) ?_
  refine pj_tif (fun h2 => ?_) (fun h2 => ?_)
  · refine pj_map (fun k => pj_ic_ge_t hM (pc := 9) dX0_finderAt_9 rfl h2 (pj_kill hM [true, false] (lls' := [(19, i0), (9, 0)]) rfl k)) ?_
    exact tB_finderAt_21 hM i0 w hn0 _ h0
  refine pj_tgd (fun h3 => ?_)
  exact pj_tret (fun hr => pj_ic_ge_f hM (pc := 9) 21 dX0_finderAt_9 rfl h2 (pj_aload_n hM (pc := 12) dX0_finderAt_12 rfl rfl (pj_getF hM (pc := 13) (t := 20) dX0_finderAt_13 fl_X0_13 hn0 rfl rfl (pj_iload_n hM (pc := 16) dX0_finderAt_16 rfl (pj_aald hM (pc := 17) (fun s : Int => 6 * i0 + s) dX0_finderAt_17 (by decide) rfl (fun _ => rfl) ⟨_, rfl⟩ (by decide) hn0 h3 (fun _ => rfl) (by show (0 : Int) ≤ (6 * i0 + x1); omega) (pj_goto hM (pc := 18) dX0_finderAt_18 rfl (pj_ret hM (pc := 22) dX0_finderAt_22 ⟨_, _, by decide, rfl⟩ (h0 ((6 * i0 + x1)) hr) rfl)))))))
theorem cB_finderAt (i0 : Int) (x1 : Int) (hn0 : 0 ≤ i0) (w : pj_W) (r : Int) (h : fB_finderAt i0 x1 w = some r) : pj_Cn l yX0_finderAt cX0_finderAt 2 (some (.object "LastPebble$Finder")) 0 0 true g [(19, i0), (0, x1)] w ((some (22, r) : Option pj_V), w) :=
  pj_Cn_of rfl (Nat.le_of_ble_eq_true rfl) (lls := [(19, i0), (0, x1)]) rfl (fun Go hM => tB_finderAt hM i0 x1 w hn0 (fun x => ((some (22, x) : Option pj_V), w) = ((some (22, r) : Option pj_V), w)) (fun r h => h) r h rfl)
noncomputable def fB_firstOf_2b (x0 : Int) (w : pj_W) (x1 : Int) : Option ((Int) ⊕ (Int)) :=
  if 6 ≤ x1 then (some (Sum.inr (0))) else (if (pj_and (pj_shr x0 x1) 1) = 1 then (some (Sum.inr ((pj_shl 1 x1)))) else (some (Sum.inl ((pj_wr (x1 + 1))))))
noncomputable def fB_firstOf_2 (x0 : Int) (w : pj_W) (s : (Int)) : Option (Int) := pj_Lp (fun s : (Int) => fB_firstOf_2b x0 w s) s
noncomputable def fB_firstOf (x0 : Int) (w : pj_W) : Option (Int) :=
  fB_firstOf_2 x0 w (0)
theorem tB_firstOf_2b {Go : pj_C → Prop} (hM : pj_M l yX0_firstOf cX0_firstOf 2 (some .int) 0 0 ph g n0 o Go) (x0 : Int) (w : pj_W) (x1 : Int)  (R : (Int) ⊕ (Int) → Prop) (h0 : ∀ r, R (Sum.inr (r)) → ((some (0, r) : Option pj_V), w) = o) (hk2 : ∀ s, R (Sum.inl s) → Go (2, [(0, x0), (0, s)], [], w)) : pj_TG R (fB_firstOf_2b x0 w x1) (Go (2, [(0, x0), (0, x1)], [], w)) := by
  unfold fB_firstOf_2b
  refine pj_map (fun k => pj_iload_n hM (pc := 2) dX0_firstOf_2 rfl (pj_bipush hM (pc := 3) dX0_firstOf_3 (by decide) k)) ?_
  refine pj_tif (fun h1 => ?_) (fun h1 => ?_)
  · exact pj_tret (fun hr => pj_ic_ge_t hM (pc := 5) dX0_firstOf_5 rfl h1 (pj_iconst hM (pc := 27) dX0_firstOf_27 (by decide) (pj_ret hM (pc := 28) dX0_firstOf_28 ⟨_, rfl⟩ (h0 (0) hr) rfl)))
  refine pj_map (fun k => pj_ic_ge_f hM (pc := 5) 27 dX0_firstOf_5 rfl h1 (pj_iload_n hM (pc := 8) dX0_firstOf_8 rfl (pj_iload_n hM (pc := 9) dX0_firstOf_9 rfl (pj_ishr hM (pc := 10) dX0_firstOf_10 (pj_iconst hM (pc := 11) dX0_firstOf_11 (by decide) (pj_iand hM (pc := 12) dX0_firstOf_12 (pj_iconst hM (pc := 13) dX0_firstOf_13 (by decide) k))))))) ?_
  refine pj_tif (fun h2 => ?_) (fun h2 => ?_)
  · exact pj_tret (fun hr => pj_ic_ne_f hM (pc := 14) 21 dX0_firstOf_14 rfl (fun q => q h2) (pj_iconst hM (pc := 17) dX0_firstOf_17 (by decide) (pj_iload_n hM (pc := 18) dX0_firstOf_18 rfl (pj_ishl hM (pc := 19) dX0_firstOf_19 (pj_ret hM (pc := 20) dX0_firstOf_20 ⟨_, rfl⟩ (h0 ((pj_shl 1 x1)) hr) rfl)))))
  exact pj_tret (fun hr => pj_ic_ne_t hM (pc := 14) dX0_firstOf_14 rfl h2 (pj_iinc hM (pc := 21) dX0_firstOf_21 rfl (by decide) (lls' := [(0, x0), (0, (pj_wr (x1 + 1)))]) rfl (pj_goto hM (pc := 24) dX0_firstOf_24 rfl (pj_kill hM [true, true] (lls' := [(0, x0), (0, (pj_wr (x1 + 1)))]) rfl ((hk2 _ hr))))))
theorem tB_firstOf_2 {Go : pj_C → Prop} (hM : pj_M l yX0_firstOf cX0_firstOf 2 (some .int) 0 0 ph g n0 o Go) (x0 : Int) (w : pj_W)  (R : Int → Prop) (h0 : ∀ r, R (r) → ((some (0, r) : Option pj_V), w) = o) (s : (Int)) : pj_TG R (fB_firstOf_2 x0 w s) (Go (2, [(0, x0), (0, s)], [], w)) := by
  unfold fB_firstOf_2
  exact pj_tLp (G := fun s : (Int) => Go (2, [(0, x0), (0, s)], [], w)) (fun s => tB_firstOf_2b hM x0 w s  _ (fun r h => h0 r h)  (fun s h => h)) s
theorem tB_firstOf {Go : pj_C → Prop} (hM : pj_M l yX0_firstOf cX0_firstOf 2 (some .int) 0 0 ph g n0 o Go) (x0 : Int) (w : pj_W)  (R : Int → Prop) (h0 : ∀ r, R (r) → ((some (0, r) : Option pj_V), w) = o) : pj_TG R (fB_firstOf x0 w) (Go (0, [(0, x0), (9, 0)], [], w)) := by
  unfold fB_firstOf
  refine pj_map (fun k => pj_iconst hM (pc := 0) dX0_firstOf_0 (by decide) (pj_istore_n hM (pc := 1) dX0_firstOf_1 (by decide) (lls' := [(0, x0), (0, 0)]) rfl (pj_kill hM [true, true] (lls' := [(0, x0), (0, 0)]) rfl k))) ?_
  exact tB_firstOf_2 hM x0 w _ h0 _
theorem cB_firstOf (x0 : Int)  (w : pj_W) (r : Int) (h : fB_firstOf x0 w = some r) : pj_Cn l yX0_firstOf cX0_firstOf 2 (some .int) 0 0 ph g [(0, x0)] w ((some (0, r) : Option pj_V), w) :=
  pj_Cn_of rfl (Nat.le_of_ble_eq_true rfl) (lls := [(0, x0), (9, 0)]) rfl (fun Go hM => tB_firstOf hM x0 w (fun x => ((some (0, x) : Option pj_V), w) = ((some (0, r) : Option pj_V), w)) (fun r h => h) r h rfl)
noncomputable def fB_lastOf_2b (x0 : Int) (w : pj_W) (x1 : Int) : Option ((Int) ⊕ (Int)) :=
  if x1 < 0 then (some (Sum.inr (0))) else (if (pj_and (pj_shr x0 x1) 1) = 1 then (some (Sum.inr ((pj_shl 1 x1)))) else (some (Sum.inl ((pj_wr (x1 + (-1)))))))
noncomputable def fB_lastOf_2 (x0 : Int) (w : pj_W) (s : (Int)) : Option (Int) := pj_Lp (fun s : (Int) => fB_lastOf_2b x0 w s) s
noncomputable def fB_lastOf (x0 : Int) (w : pj_W) : Option (Int) :=
  fB_lastOf_2 x0 w (5)
theorem tB_lastOf_2b {Go : pj_C → Prop} (hM : pj_M l yX0_lastOf cX0_lastOf 2 (some .int) 0 0 ph g n0 o Go) (x0 : Int) (w : pj_W) (x1 : Int)  (R : (Int) ⊕ (Int) → Prop) (h0 : ∀ r, R (Sum.inr (r)) → ((some (0, r) : Option pj_V), w) = o) (hk2 : ∀ s, R (Sum.inl s) → Go (2, [(0, x0), (0, s)], [], w)) : pj_TG R (fB_lastOf_2b x0 w x1) (Go (2, [(0, x0), (0, x1)], [], w)) := by
  unfold fB_lastOf_2b
  refine pj_map (fun k => pj_iload_n hM (pc := 2) dX0_lastOf_2 rfl k) ?_
  refine pj_tif (fun h1 => ?_) (fun h1 => ?_)
  · exact pj_tret (fun hr => pj_if_lt_t hM (pc := 3) dX0_lastOf_3 rfl h1 (pj_iconst hM (pc := 25) dX0_lastOf_25 (by decide) (pj_ret hM (pc := 26) dX0_lastOf_26 ⟨_, rfl⟩ (h0 (0) hr) rfl)))
  refine pj_map (fun k => pj_if_lt_f hM (pc := 3) 25 dX0_lastOf_3 rfl h1 (pj_iload_n hM (pc := 6) dX0_lastOf_6 rfl (pj_iload_n hM (pc := 7) dX0_lastOf_7 rfl (pj_ishr hM (pc := 8) dX0_lastOf_8 (pj_iconst hM (pc := 9) dX0_lastOf_9 (by decide) (pj_iand hM (pc := 10) dX0_lastOf_10 (pj_iconst hM (pc := 11) dX0_lastOf_11 (by decide) k))))))) ?_
  refine pj_tif (fun h2 => ?_) (fun h2 => ?_)
  · exact pj_tret (fun hr => pj_ic_ne_f hM (pc := 12) 19 dX0_lastOf_12 rfl (fun q => q h2) (pj_iconst hM (pc := 15) dX0_lastOf_15 (by decide) (pj_iload_n hM (pc := 16) dX0_lastOf_16 rfl (pj_ishl hM (pc := 17) dX0_lastOf_17 (pj_ret hM (pc := 18) dX0_lastOf_18 ⟨_, rfl⟩ (h0 ((pj_shl 1 x1)) hr) rfl)))))
  exact pj_tret (fun hr => pj_ic_ne_t hM (pc := 12) dX0_lastOf_12 rfl h2 (pj_iinc hM (pc := 19) dX0_lastOf_19 rfl (by decide) (lls' := [(0, x0), (0, (pj_wr (x1 + (-1))))]) rfl (pj_goto hM (pc := 22) dX0_lastOf_22 rfl (pj_kill hM [true, true] (lls' := [(0, x0), (0, (pj_wr (x1 + (-1))))]) rfl ((hk2 _ hr))))))
theorem tB_lastOf_2 {Go : pj_C → Prop} (hM : pj_M l yX0_lastOf cX0_lastOf 2 (some .int) 0 0 ph g n0 o Go) (x0 : Int) (w : pj_W)  (R : Int → Prop) (h0 : ∀ r, R (r) → ((some (0, r) : Option pj_V), w) = o) (s : (Int)) : pj_TG R (fB_lastOf_2 x0 w s) (Go (2, [(0, x0), (0, s)], [], w)) := by
  unfold fB_lastOf_2
  exact pj_tLp (G := fun s : (Int) => Go (2, [(0, x0), (0, s)], [], w)) (fun s => tB_lastOf_2b hM x0 w s  _ (fun r h => h0 r h)  (fun s h => h)) s
theorem tB_lastOf {Go : pj_C → Prop} (hM : pj_M l yX0_lastOf cX0_lastOf 2 (some .int) 0 0 ph g n0 o Go) (x0 : Int) (w : pj_W)  (R : Int → Prop) (h0 : ∀ r, R (r) → ((some (0, r) : Option pj_V), w) = o) : pj_TG R (fB_lastOf x0 w) (Go (0, [(0, x0), (9, 0)], [], w)) := by
  unfold fB_lastOf
  refine pj_map (fun k => pj_iconst hM (pc := 0) dX0_lastOf_0 (by decide) (pj_istore_n hM (pc := 1) dX0_lastOf_1 (by decide) (lls' := [(0, x0), (0, 5)]) rfl (pj_kill hM [true, true] (lls' := [(0, x0), (0, 5)]) rfl k))) ?_
  exact tB_lastOf_2 hM x0 w _ h0 _
theorem cB_lastOf (x0 : Int)  (w : pj_W) (r : Int) (h : fB_lastOf x0 w = some r) : pj_Cn l yX0_lastOf cX0_lastOf 2 (some .int) 0 0 ph g [(0, x0)] w ((some (0, r) : Option pj_V), w) :=
  pj_Cn_of rfl (Nat.le_of_ble_eq_true rfl) (lls := [(0, x0), (9, 0)]) rfl (fun Go hM => tB_lastOf hM x0 w (fun x => ((some (0, x) : Option pj_V), w) = ((some (0, r) : Option pj_V), w)) (fun r h => h) r h rfl)
noncomputable def fN_lastSet_9b (i0 : Int) (w : pj_W) (x1 : Int) (x2 : Int) : Option ((Int × Int) ⊕ (Int)) :=
  if x2 < 0 then (some (Sum.inr (x1))) else (if 0 ≤ x2 ∧ x2 < 60 then (if 0 ≤ (pj_wr ((w 23 i0 6) - 1)) ∧ (pj_wr ((w 23 i0 6) - 1)) < 60 then (if (w 46 i0 x2) = (w 46 i0 (pj_wr ((w 23 i0 6) - 1))) then (some (Sum.inl ((pj_or x1 (pj_shl 1 (w 45 i0 x2))), (pj_wr (x2 + (-1)))))) else (some (Sum.inr (x1)))) else none) else none)
noncomputable def fN_lastSet_9 (i0 : Int) (w : pj_W) (s : (Int × Int)) : Option (Int) := pj_Lp (fun s : (Int × Int) => fN_lastSet_9b i0 w s.1 s.2) s
noncomputable def fN_lastSet (i0 : Int) (w : pj_W) : Option (Int) :=
  fN_lastSet_9 i0 w (0, (pj_wr ((w 23 i0 6) - 1)))
theorem tN_lastSet_9b {Go : pj_C → Prop} (hM : pj_M l yX4_lastSet cX4_lastSet 3 (some .int) 0 0 true g n0 o Go) (i0 : Int) (w : pj_W) (x1 : Int) (x2 : Int) (hn0 : 0 ≤ i0) (R : (Int × Int) ⊕ (Int) → Prop) (h0 : ∀ r, R (Sum.inr (r)) → ((some (0, r) : Option pj_V), w) = o) (hk9 : ∀ s, R (Sum.inl s) → Go (9, [(23, i0), (0, s.1), (0, s.2)], [], w)) : pj_TG R (fN_lastSet_9b i0 w x1 x2) (Go (9, [(23, i0), (0, x1), (0, x2)], [], w)) := by
  unfold fN_lastSet_9b
  refine pj_map (fun k => pj_iload_n hM (pc := 9) dX4_lastSet_9 rfl k) ?_
  refine pj_tif (fun h1 => ?_) (fun h1 => ?_)
  · exact pj_tret (fun hr => pj_if_lt_t hM (pc := 10) dX4_lastSet_10 rfl h1 (pj_iload_n hM (pc := 50) dX4_lastSet_50 rfl (pj_ret hM (pc := 51) dX4_lastSet_51 ⟨_, rfl⟩ (h0 (x1) hr) rfl)))
  refine pj_tgd (fun h2 => ?_)
  refine pj_tgd (fun h3 => ?_)
  refine pj_map (fun k => pj_if_lt_f hM (pc := 10) 50 dX4_lastSet_10 rfl h1 (pj_aload_n hM (pc := 13) dX4_lastSet_13 rfl rfl (pj_getF hM (pc := 14) (t := 46) dX4_lastSet_14 fl_X4_17 hn0 rfl rfl (pj_iload_n hM (pc := 17) dX4_lastSet_17 rfl (pj_ial hM (pc := 18) dX4_lastSet_18 ki_46 hn0 h2 (pj_aload_n hM (pc := 19) dX4_lastSet_19 rfl rfl (pj_getF hM (pc := 20) (t := 46) dX4_lastSet_20 fl_X4_17 hn0 rfl rfl (pj_aload_n hM (pc := 23) dX4_lastSet_23 rfl rfl (pj_gf hM (pc := 24) (t := 0) dX4_lastSet_24 fl_X4_35 hn0 rfl 6 rfl (pj_iconst hM (pc := 27) dX4_lastSet_27 (by decide) (pj_isub hM (pc := 28) dX4_lastSet_28 (pj_ial hM (pc := 29) dX4_lastSet_29 ki_46 hn0 h3 k)))))))))))) ?_
  refine pj_tif (fun h4 => ?_) (fun h4 => ?_)
  · exact pj_tret (fun hr => pj_ic_ne_f hM (pc := 30) 50 dX4_lastSet_30 rfl (fun q => q h4) (pj_iload_n hM (pc := 33) dX4_lastSet_33 rfl (pj_iconst hM (pc := 34) dX4_lastSet_34 (by decide) (pj_aload_n hM (pc := 35) dX4_lastSet_35 rfl rfl (pj_getF hM (pc := 36) (t := 45) dX4_lastSet_36 fl_X4_11 hn0 rfl rfl (pj_iload_n hM (pc := 39) dX4_lastSet_39 rfl (pj_ial hM (pc := 40) dX4_lastSet_40 ki_45 hn0 h2 (pj_ishl hM (pc := 41) dX4_lastSet_41 (pj_ior hM (pc := 42) dX4_lastSet_42 (pj_istore_n hM (pc := 43) dX4_lastSet_43 (by decide) (lls' := [(23, i0), (0, (pj_or x1 (pj_shl 1 (w 45 i0 x2)))), (0, x2)]) rfl (pj_iinc hM (pc := 44) dX4_lastSet_44 rfl (by decide) (lls' := [(23, i0), (0, (pj_or x1 (pj_shl 1 (w 45 i0 x2)))), (0, (pj_wr (x2 + (-1))))]) rfl (pj_goto hM (pc := 47) dX4_lastSet_47 rfl (pj_kill hM [true, true, true] (lls' := [(23, i0), (0, (pj_or x1 (pj_shl 1 (w 45 i0 x2)))), (0, (pj_wr (x2 + (-1))))]) rfl ((hk9 _ hr)))))))))))))))
  exact pj_tret (fun hr => pj_ic_ne_t hM (pc := 30) dX4_lastSet_30 rfl h4 (pj_iload_n hM (pc := 50) dX4_lastSet_50 rfl (pj_ret hM (pc := 51) dX4_lastSet_51 ⟨_, rfl⟩ (h0 (x1) hr) rfl)))
theorem tN_lastSet_9 {Go : pj_C → Prop} (hM : pj_M l yX4_lastSet cX4_lastSet 3 (some .int) 0 0 true g n0 o Go) (i0 : Int) (w : pj_W) (hn0 : 0 ≤ i0) (R : Int → Prop) (h0 : ∀ r, R (r) → ((some (0, r) : Option pj_V), w) = o) (s : (Int × Int)) : pj_TG R (fN_lastSet_9 i0 w s) (Go (9, [(23, i0), (0, s.1), (0, s.2)], [], w)) := by
  unfold fN_lastSet_9
  exact pj_tLp (G := fun s : (Int × Int) => Go (9, [(23, i0), (0, s.1), (0, s.2)], [], w)) (fun s => tN_lastSet_9b hM i0 w s.1 s.2 hn0 _ (fun r h => h0 r h)  (fun s h => h)) s
theorem tN_lastSet {Go : pj_C → Prop} (hM : pj_M l yX4_lastSet cX4_lastSet 3 (some .int) 0 0 true g n0 o Go) (i0 : Int) (w : pj_W) (hn0 : 0 ≤ i0) (R : Int → Prop) (h0 : ∀ r, R (r) → ((some (0, r) : Option pj_V), w) = o) : pj_TG R (fN_lastSet i0 w) (Go (0, [(23, i0), (9, 0), (9, 0)], [], w)) := by
  unfold fN_lastSet
  refine pj_map (fun k => pj_iconst hM (pc := 0) dX4_lastSet_0 (by decide) (pj_istore_n hM (pc := 1) dX4_lastSet_1 (by decide) (lls' := [(23, i0), (0, 0), (9, 0)]) rfl (pj_aload_n hM (pc := 2) dX4_lastSet_2 rfl rfl (pj_gf hM (pc := 3) (t := 0) dX4_lastSet_3 fl_X4_35 hn0 rfl 6 rfl (pj_iconst hM (pc := 6) dX4_lastSet_6 (by decide) (pj_isub hM (pc := 7) dX4_lastSet_7 (pj_istore_n hM (pc := 8) dX4_lastSet_8 (by decide) (lls' := [(23, i0), (0, 0), (0, (pj_wr ((w 23 i0 6) - 1)))]) rfl (pj_kill hM [true, true, true] (lls' := [(23, i0), (0, 0), (0, (pj_wr ((w 23 i0 6) - 1)))]) rfl k)))))))) ?_
  exact tN_lastSet_9 hM i0 w hn0 _ h0 _
theorem cN_lastSet (i0 : Int) (hn0 : 0 ≤ i0) (w : pj_W) (r : Int) (h : fN_lastSet i0 w = some r) : pj_Cn l yX4_lastSet cX4_lastSet 3 (some .int) 0 0 true g [(23, i0)] w ((some (0, r) : Option pj_V), w) :=
  pj_Cn_of rfl (Nat.le_of_ble_eq_true rfl) (lls := [(23, i0), (9, 0), (9, 0)]) rfl (fun Go hM => tN_lastSet hM i0 w hn0 (fun x => ((some (0, x) : Option pj_V), w) = ((some (0, r) : Option pj_V), w)) (fun r h => h) r h rfl)
noncomputable def fB_heirs (i0 : Int) (x1 : Int) (w : pj_W) : Option (Int) :=
  if 0 ≤ x1 then ((fN_lastSet x1 w).bind fun p2 => ((fInt_bitCount p2 w).bind fun p4 => (if 2 ≤ p4 then (if (w 19 i0 5) = 0 then (some (0)) else if (w 19 i0 5) = 1 then ((fB_firstOf p2 w).bind fun p9 => (some (p9))) else if (w 19 i0 5) = 2 then ((fB_lastOf p2 w).bind fun p12 => (some (p12))) else (some (p2))) else (some (p2))))) else none
theorem tB_heirs {Go : pj_C → Prop} (hM : pj_M l yX0_heirs cX0_heirs 3 (some .int) 1 22 true g n0 o Go) (i0 : Int) (x1 : Int) (w : pj_W) (hn0 : 0 ≤ i0) (R : Int → Prop) (h0 : ∀ r, R (r) → ((some (0, r) : Option pj_V), w) = o) : pj_TG R (fB_heirs i0 x1 w) (Go (0, [(19, i0), (23, x1), (9, 0)], [], w)) := by
  unfold fB_heirs
  refine pj_tgd (fun h1 => ?_)
  refine pj_tbind (fun p2 h3 => ?_)
  refine pj_tbind (fun p4 h5 => ?_)
  refine pj_map (fun k => pj_aload_n hM (pc := 0) dX0_heirs_0 rfl rfl (pj_cV hM (pc := 1) (cN_lastSet x1 h1 w p2 h3) dX0_heirs_1 mf_X4_lastSet mv_X4_lastSet ml_X0_163 kc_23 rfl rfl h1 rfl rfl (pj_istore_n hM (pc := 4) dX0_heirs_4 (by decide) (lls' := [(19, i0), (23, x1), (0, p2)]) rfl (pj_iload_n hM (pc := 5) dX0_heirs_5 rfl (pj_cS hM (pc := 6) (cInt_bitCount p2 w p4 h5) dX0_heirs_6 mf_J6_bitCount_0f7a4 ms_J6_bitCount_0f7a4 ml_X0_152 rfl rfl rfl rfl (pj_iconst hM (pc := 9) dX0_heirs_9 (by decide) k)))))) ?_
  refine pj_tif (fun h6 => ?_) (fun h6 => ?_)
  · refine pj_map (fun k => pj_ic_ge_t hM (pc := 10) dX0_heirs_10 rfl h6 (pj_aload_n hM (pc := 15) dX0_heirs_15 rfl rfl (pj_gf hM (pc := 16) (t := 0) dX0_heirs_16 fl_X0_38 hn0 rfl 5 rfl k))) ?_
    refine pj_tif (fun h7 => ?_) (fun h7 => ?_)
    · exact pj_tret (fun hr => pj_table hM (pc := 19) (tgt := 44) dX0_heirs_19 (by decide) (by rw [h7]; decide) (pj_iconst hM (pc := 44) dX0_heirs_44 (by decide) (pj_ret hM (pc := 45) dX0_heirs_45 ⟨_, rfl⟩ (h0 (0) hr) rfl)))
    refine pj_tif (fun h8 => ?_) (fun h8 => ?_)
    · refine pj_tbind (fun p9 h10 => ?_)
      exact pj_tret (fun hr => pj_table hM (pc := 19) (tgt := 46) dX0_heirs_19 (by decide) (by rw [h8]; decide) (pj_iload_n hM (pc := 46) dX0_heirs_46 rfl (pj_cS hM (pc := 47) (cB_firstOf p2 w p9 h10) dX0_heirs_47 mf_X0_firstOf ms_X0_firstOf ml_X0_166 rfl rfl rfl rfl (pj_ret hM (pc := 50) dX0_heirs_50 ⟨_, rfl⟩ (h0 (p9) hr) rfl))))
    refine pj_tif (fun h11 => ?_) (fun h11 => ?_)
    · refine pj_tbind (fun p12 h13 => ?_)
      exact pj_tret (fun hr => pj_table hM (pc := 19) (tgt := 51) dX0_heirs_19 (by decide) (by rw [h11]; decide) (pj_iload_n hM (pc := 51) dX0_heirs_51 rfl (pj_cS hM (pc := 52) (cB_lastOf p2 w p12 h13) dX0_heirs_52 mf_X0_lastOf ms_X0_lastOf ml_X0_169 rfl rfl rfl rfl (pj_ret hM (pc := 55) dX0_heirs_55 ⟨_, rfl⟩ (h0 (p12) hr) rfl))))
    exact pj_tret (fun hr => pj_table hM (pc := 19) (tgt := 56) dX0_heirs_19 (by decide) (by have e9 : (w 19 i0 5) < 0 ∨ 2 < (w 19 i0 5) := (by omega); unfold pj_tab; rw [if_pos e9]; decide) (pj_iload_n hM (pc := 56) dX0_heirs_56 rfl (pj_ret hM (pc := 57) dX0_heirs_57 ⟨_, rfl⟩ (h0 (p2) hr) rfl)))
  exact pj_tret (fun hr => pj_ic_ge_f hM (pc := 10) 15 dX0_heirs_10 rfl h6 (pj_iload_n hM (pc := 13) dX0_heirs_13 rfl (pj_ret hM (pc := 14) dX0_heirs_14 ⟨_, rfl⟩ (h0 (p2) hr) rfl)))
theorem cB_heirs (i0 : Int) (x1 : Int) (hn0 : 0 ≤ i0) (w : pj_W) (r : Int) (h : fB_heirs i0 x1 w = some r) : pj_Cn l yX0_heirs cX0_heirs 3 (some .int) 1 22 true g [(19, i0), (23, x1)] w ((some (0, r) : Option pj_V), w) :=
  pj_Cn_of rfl (Nat.le_of_ble_eq_true rfl) (lls := [(19, i0), (23, x1), (9, 0)]) rfl (fun Go hM => tB_heirs hM i0 x1 w hn0 (fun x => ((some (0, x) : Option pj_V), w) = ((some (0, r) : Option pj_V), w)) (fun r h => h) r h rfl)
noncomputable def fB_shareOf (i0 : Int) (x1 : Int) (x2 : Int) (w : pj_W) : Option (Int) :=
  (fB_heirs i0 x2 w).bind fun p1 => ((fInt_bitCount p1 w).bind fun p3 => (if p3 ≤ 0 then (some (0)) else (if (pj_and (pj_shr p1 x1) 1) = 1 then (if 0 ≤ x2 then (if ¬ p3 = 0 then (some ((pj_div (w 23 x2 4) p3))) else none) else none) else (some (0)))))
theorem tB_shareOf {Go : pj_C → Prop} (hM : pj_M l yX0_shareOf cX0_shareOf 5 (some .int) 2 44 true g n0 o Go) (i0 : Int) (x1 : Int) (x2 : Int) (w : pj_W) (hn0 : 0 ≤ i0) (R : Int → Prop) (h0 : ∀ r, R (r) → ((some (0, r) : Option pj_V), w) = o) : pj_TG R (fB_shareOf i0 x1 x2 w) (Go (0, [(19, i0), (0, x1), (23, x2), (9, 0), (9, 0)], [], w)) := by
  unfold fB_shareOf
  refine pj_tbind (fun p1 h2 => ?_)
  refine pj_tbind (fun p3 h4 => ?_)
  refine pj_map (fun k => pj_aload_n hM (pc := 0) dX0_shareOf_0 rfl rfl (pj_aload_n hM (pc := 1) dX0_shareOf_1 rfl rfl (pj_cV hM (pc := 2) (cB_heirs i0 x2 hn0 w p1 h2) dX0_shareOf_2 mf_X0_heirs mv_X0_heirs ml_X0_139 kc_19 rfl rfl hn0 rfl rfl (pj_istore_n hM (pc := 5) dX0_shareOf_5 (by decide) (lls' := [(19, i0), (0, x1), (23, x2), (0, p1), (9, 0)]) rfl (pj_iload_n hM (pc := 6) dX0_shareOf_6 rfl (pj_cS hM (pc := 7) (cInt_bitCount p1 w p3 h4) dX0_shareOf_7 mf_J6_bitCount_0f7a4 ms_J6_bitCount_0f7a4 ml_X0_152 rfl rfl rfl rfl (pj_istore hM (pc := 10) dX0_shareOf_10 (by decide) (lls' := [(19, i0), (0, x1), (23, x2), (0, p1), (0, p3)]) rfl (pj_iload hM (pc := 12) dX0_shareOf_12 rfl k)))))))) ?_
  refine pj_tif (fun h5 => ?_) (fun h5 => ?_)
  · exact pj_tret (fun hr => pj_if_le_t hM (pc := 14) dX0_shareOf_14 rfl h5 (pj_iconst hM (pc := 36) dX0_shareOf_36 (by decide) (pj_ret hM (pc := 37) dX0_shareOf_37 ⟨_, rfl⟩ (h0 (0) hr) rfl)))
  refine pj_map (fun k => pj_if_le_f hM (pc := 14) 36 dX0_shareOf_14 rfl h5 (pj_iload_n hM (pc := 17) dX0_shareOf_17 rfl (pj_iload_n hM (pc := 18) dX0_shareOf_18 rfl (pj_ishr hM (pc := 19) dX0_shareOf_19 (pj_iconst hM (pc := 20) dX0_shareOf_20 (by decide) (pj_iand hM (pc := 21) dX0_shareOf_21 (pj_iconst hM (pc := 22) dX0_shareOf_22 (by decide) k))))))) ?_
  refine pj_tif (fun h6 => ?_) (fun h6 => ?_)
  · refine pj_tgd (fun h7 => ?_)
    refine pj_tgd (fun h8 => ?_)
    exact pj_tret (fun hr => pj_ic_ne_f hM (pc := 23) 36 dX0_shareOf_23 rfl (fun q => q h6) (pj_aload_n hM (pc := 26) dX0_shareOf_26 rfl rfl (pj_gf hM (pc := 27) (t := 0) dX0_shareOf_27 fl_X0_81 h7 rfl 4 rfl (pj_iload hM (pc := 30) dX0_shareOf_30 rfl (pj_idiv hM (pc := 32) dX0_shareOf_32 h8 (pj_goto hM (pc := 33) dX0_shareOf_33 rfl (pj_ret hM (pc := 37) dX0_shareOf_37 ⟨_, rfl⟩ (h0 ((pj_div (w 23 x2 4) p3)) hr) rfl)))))))
  exact pj_tret (fun hr => pj_ic_ne_t hM (pc := 23) dX0_shareOf_23 rfl h6 (pj_iconst hM (pc := 36) dX0_shareOf_36 (by decide) (pj_ret hM (pc := 37) dX0_shareOf_37 ⟨_, rfl⟩ (h0 (0) hr) rfl)))
theorem cB_shareOf (i0 : Int) (x1 : Int) (x2 : Int) (hn0 : 0 ≤ i0) (w : pj_W) (r : Int) (h : fB_shareOf i0 x1 x2 w = some r) : pj_Cn l yX0_shareOf cX0_shareOf 5 (some .int) 2 44 true g [(19, i0), (0, x1), (23, x2)] w ((some (0, r) : Option pj_V), w) :=
  pj_Cn_of rfl (Nat.le_of_ble_eq_true rfl) (lls := [(19, i0), (0, x1), (23, x2), (9, 0), (9, 0)]) rfl (fun Go hM => tB_shareOf hM i0 x1 x2 w hn0 (fun x => ((some (0, x) : Option pj_V), w) = ((some (0, r) : Option pj_V), w)) (fun r h => h) r h rfl)
noncomputable def fB_leadOf_4b (i0 : Int) (x1 : Int) (w : pj_W) (x2 : Int) (x3 : Int) : Option ((Int × Int) ⊕ (Int)) :=
  if (w 19 i0 8) ≤ x3 then (some (Sum.inr (x2))) else (if 0 ≤ x3 ∧ x3 < 8 then ((fB_shareOf i0 x1 (8 * i0 + x3) w).bind fun p3 => (some (Sum.inl ((pj_wr (x2 + p3)), (pj_wr (x3 + 1)))))) else none)
noncomputable def fB_leadOf_4 (i0 : Int) (x1 : Int) (w : pj_W) (s : (Int × Int)) : Option (Int) := pj_Lp (fun s : (Int × Int) => fB_leadOf_4b i0 x1 w s.1 s.2) s
noncomputable def fB_leadOf (i0 : Int) (x1 : Int) (w : pj_W) : Option (Int) :=
  fB_leadOf_4 i0 x1 w (0, 0)
theorem tB_leadOf_4b {Go : pj_C → Prop} (hM : pj_M l yX0_leadOf cX0_leadOf 4 (some .int) 3 68 true g n0 o Go) (i0 : Int) (x1 : Int) (w : pj_W) (x2 : Int) (x3 : Int) (hn0 : 0 ≤ i0) (R : (Int × Int) ⊕ (Int) → Prop) (h0 : ∀ r, R (Sum.inr (r)) → ((some (0, r) : Option pj_V), w) = o) (hk4 : ∀ s, R (Sum.inl s) → Go (4, [(19, i0), (0, x1), (0, s.1), (0, s.2)], [], w)) : pj_TG R (fB_leadOf_4b i0 x1 w x2 x3) (Go (4, [(19, i0), (0, x1), (0, x2), (0, x3)], [], w)) := by
  unfold fB_leadOf_4b
  refine pj_map (fun k => pj_iload_n hM (pc := 4) dX0_leadOf_4 rfl (pj_aload_n hM (pc := 5) dX0_leadOf_5 rfl rfl (pj_gf hM (pc := 6) (t := 0) dX0_leadOf_6 fl_X0_47 hn0 rfl 8 rfl k))) ?_
  refine pj_tif (fun h1 => ?_) (fun h1 => ?_)
  · exact pj_tret (fun hr => pj_ic_ge_t hM (pc := 9) dX0_leadOf_9 rfl h1 (pj_iload_n hM (pc := 32) dX0_leadOf_32 rfl (pj_ret hM (pc := 33) dX0_leadOf_33 ⟨_, rfl⟩ (h0 (x2) hr) rfl)))
  refine pj_tgd (fun h2 => ?_)
  refine pj_tbind (fun p3 h4 => ?_)
  exact pj_tret (fun hr => pj_ic_ge_f hM (pc := 9) 32 dX0_leadOf_9 rfl h1 (pj_iload_n hM (pc := 12) dX0_leadOf_12 rfl (pj_aload_n hM (pc := 13) dX0_leadOf_13 rfl rfl (pj_iload_n hM (pc := 14) dX0_leadOf_14 rfl (pj_aload_n hM (pc := 15) dX0_leadOf_15 rfl rfl (pj_getF hM (pc := 16) (t := 21) dX0_leadOf_16 fl_X0_19 hn0 rfl rfl (pj_iload_n hM (pc := 19) dX0_leadOf_19 rfl (pj_aald hM (pc := 20) (fun s : Int => 8 * i0 + s) dX0_leadOf_20 (by decide) rfl (fun _ => rfl) ⟨_, rfl⟩ (by decide) hn0 h2 (fun _ => rfl) (by show (0 : Int) ≤ (8 * i0 + x3); omega) (pj_cV hM (pc := 21) (cB_shareOf i0 x1 (8 * i0 + x3) hn0 w p3 h4) dX0_leadOf_21 mf_X0_shareOf mv_X0_shareOf ml_X0_172 kc_19 rfl rfl hn0 rfl rfl (pj_iadd hM (pc := 24) dX0_leadOf_24 (pj_istore_n hM (pc := 25) dX0_leadOf_25 (by decide) (lls' := [(19, i0), (0, x1), (0, (pj_wr (x2 + p3))), (0, x3)]) rfl (pj_iinc hM (pc := 26) dX0_leadOf_26 rfl (by decide) (lls' := [(19, i0), (0, x1), (0, (pj_wr (x2 + p3))), (0, (pj_wr (x3 + 1)))]) rfl (pj_goto hM (pc := 29) dX0_leadOf_29 rfl (pj_kill hM [true, true, true, true] (lls' := [(19, i0), (0, x1), (0, (pj_wr (x2 + p3))), (0, (pj_wr (x3 + 1)))]) rfl ((hk4 _ hr))))))))))))))))
theorem tB_leadOf_4 {Go : pj_C → Prop} (hM : pj_M l yX0_leadOf cX0_leadOf 4 (some .int) 3 68 true g n0 o Go) (i0 : Int) (x1 : Int) (w : pj_W) (hn0 : 0 ≤ i0) (R : Int → Prop) (h0 : ∀ r, R (r) → ((some (0, r) : Option pj_V), w) = o) (s : (Int × Int)) : pj_TG R (fB_leadOf_4 i0 x1 w s) (Go (4, [(19, i0), (0, x1), (0, s.1), (0, s.2)], [], w)) := by
  unfold fB_leadOf_4
  exact pj_tLp (G := fun s : (Int × Int) => Go (4, [(19, i0), (0, x1), (0, s.1), (0, s.2)], [], w)) (fun s => tB_leadOf_4b hM i0 x1 w s.1 s.2 hn0 _ (fun r h => h0 r h)  (fun s h => h)) s
theorem tB_leadOf {Go : pj_C → Prop} (hM : pj_M l yX0_leadOf cX0_leadOf 4 (some .int) 3 68 true g n0 o Go) (i0 : Int) (x1 : Int) (w : pj_W) (hn0 : 0 ≤ i0) (R : Int → Prop) (h0 : ∀ r, R (r) → ((some (0, r) : Option pj_V), w) = o) : pj_TG R (fB_leadOf i0 x1 w) (Go (0, [(19, i0), (0, x1), (9, 0), (9, 0)], [], w)) := by
  unfold fB_leadOf
  refine pj_map (fun k => pj_iconst hM (pc := 0) dX0_leadOf_0 (by decide) (pj_istore_n hM (pc := 1) dX0_leadOf_1 (by decide) (lls' := [(19, i0), (0, x1), (0, 0), (9, 0)]) rfl (pj_iconst hM (pc := 2) dX0_leadOf_2 (by decide) (pj_istore_n hM (pc := 3) dX0_leadOf_3 (by decide) (lls' := [(19, i0), (0, x1), (0, 0), (0, 0)]) rfl (pj_kill hM [true, true, true, true] (lls' := [(19, i0), (0, x1), (0, 0), (0, 0)]) rfl k))))) ?_
  exact tB_leadOf_4 hM i0 x1 w hn0 _ h0 _
theorem cB_leadOf (i0 : Int) (x1 : Int) (hn0 : 0 ≤ i0) (w : pj_W) (r : Int) (h : fB_leadOf i0 x1 w = some r) : pj_Cn l yX0_leadOf cX0_leadOf 4 (some .int) 3 68 true g [(19, i0), (0, x1)] w ((some (0, r) : Option pj_V), w) :=
  pj_Cn_of rfl (Nat.le_of_ble_eq_true rfl) (lls := [(19, i0), (0, x1), (9, 0), (9, 0)]) rfl (fun Go hM => tB_leadOf hM i0 x1 w hn0 (fun x => ((some (0, x) : Option pj_V), w) = ((some (0, r) : Option pj_V), w)) (fun r h => h) r h rfl)
noncomputable def fB_findersAhead_49 (i0 : Int) (x1 : Int) (x2 : Int) (x3 : Int) (x4 : Int) (w : pj_W) : Option ((Int × Int) ⊕ (Int)) :=
  some (Sum.inl (x3, (pj_wr (x4 + 1))))
noncomputable def fB_findersAhead_46 (i0 : Int) (x1 : Int) (x2 : Int) (x3 : Int) (x4 : Int) (w : pj_W) : Option ((Int × Int) ⊕ (Int)) :=
  fB_findersAhead_49 i0 x1 x2 (pj_wr (x3 + 1)) x4 w
noncomputable def fB_findersAhead_11b (i0 : Int) (x1 : Int) (x2 : Int) (w : pj_W) (x3 : Int) (x4 : Int) : Option ((Int × Int) ⊕ (Int)) :=
  if (w 19 i0 7) ≤ x4 then (some (Sum.inr (x3))) else ((fB_leadOf i0 x4 w).bind fun p2 => (if x2 < p2 then (fB_findersAhead_46 i0 x1 x2 x3 x4 w) else (if p2 = x2 then (if x1 ≤ x4 then (fB_findersAhead_49 i0 x1 x2 x3 x4 w) else (fB_findersAhead_46 i0 x1 x2 x3 x4 w)) else (fB_findersAhead_49 i0 x1 x2 x3 x4 w))))
noncomputable def fB_findersAhead_11 (i0 : Int) (x1 : Int) (x2 : Int) (w : pj_W) (s : (Int × Int)) : Option (Int) := pj_Lp (fun s : (Int × Int) => fB_findersAhead_11b i0 x1 x2 w s.1 s.2) s
noncomputable def fB_findersAhead (i0 : Int) (x1 : Int) (w : pj_W) : Option (Int) :=
  (fB_leadOf i0 x1 w).bind fun p1 => (fB_findersAhead_11 i0 x1 p1 w (0, 0))
theorem tB_findersAhead_49 {Go : pj_C → Prop} (hM : pj_M l yX0_findersAhead cX0_findersAhead 6 (some .int) 4 91 true g n0 o Go) (i0 : Int) (x1 : Int) (x2 : Int) (x3 : Int) (x4 : Int) (w : pj_W) (hn0 : 0 ≤ i0) (R : (Int × Int) ⊕ (Int) → Prop) (h0 : ∀ r, R (Sum.inr (r)) → ((some (0, r) : Option pj_V), w) = o) (hk11 : ∀ s, R (Sum.inl s) → Go (11, [(19, i0), (0, x1), (0, x2), (0, s.1), (0, s.2), (9, 0)], [], w)) : pj_TG R (fB_findersAhead_49 i0 x1 x2 x3 x4 w) (Go (49, [(19, i0), (0, x1), (0, x2), (0, x3), (0, x4), (9, 0)], [], w)) := by
  unfold fB_findersAhead_49
  exact pj_tret (fun hr => pj_iinc hM (pc := 49) dX0_findersAhead_49 rfl (by decide) (lls' := [(19, i0), (0, x1), (0, x2), (0, x3), (0, (pj_wr (x4 + 1))), (9, 0)]) rfl (pj_goto hM (pc := 52) dX0_findersAhead_52 rfl (pj_kill hM [true, true, true, true, true, false] (lls' := [(19, i0), (0, x1), (0, x2), (0, x3), (0, (pj_wr (x4 + 1))), (9, 0)]) rfl ((hk11 _ hr)))))
theorem tB_findersAhead_46 {Go : pj_C → Prop} (hM : pj_M l yX0_findersAhead cX0_findersAhead 6 (some .int) 4 91 true g n0 o Go) (i0 : Int) (x1 : Int) (x2 : Int) (x3 : Int) (x4 : Int) (w : pj_W) (hn0 : 0 ≤ i0) (R : (Int × Int) ⊕ (Int) → Prop) (h0 : ∀ r, R (Sum.inr (r)) → ((some (0, r) : Option pj_V), w) = o) (hk11 : ∀ s, R (Sum.inl s) → Go (11, [(19, i0), (0, x1), (0, x2), (0, s.1), (0, s.2), (9, 0)], [], w)) : pj_TG R (fB_findersAhead_46 i0 x1 x2 x3 x4 w) (Go (46, [(19, i0), (0, x1), (0, x2), (0, x3), (0, x4), (9, 0)], [], w)) := by
  unfold fB_findersAhead_46
  refine pj_map (fun k => pj_iinc hM (pc := 46) dX0_findersAhead_46 rfl (by decide) (lls' := [(19, i0), (0, x1), (0, x2), (0, (pj_wr (x3 + 1))), (0, x4), (9, 0)]) rfl (pj_kill hM [true, true, true, true, true, false] (lls' := [(19, i0), (0, x1), (0, x2), (0, (pj_wr (x3 + 1))), (0, x4), (9, 0)]) rfl k)) ?_
  exact tB_findersAhead_49 hM i0 x1 x2 (pj_wr (x3 + 1)) x4 w hn0 _ h0 hk11
theorem tB_findersAhead_11b {Go : pj_C → Prop} (hM : pj_M l yX0_findersAhead cX0_findersAhead 6 (some .int) 4 91 true g n0 o Go) (i0 : Int) (x1 : Int) (x2 : Int) (w : pj_W) (x3 : Int) (x4 : Int) (hn0 : 0 ≤ i0) (R : (Int × Int) ⊕ (Int) → Prop) (h0 : ∀ r, R (Sum.inr (r)) → ((some (0, r) : Option pj_V), w) = o) (hk11 : ∀ s, R (Sum.inl s) → Go (11, [(19, i0), (0, x1), (0, x2), (0, s.1), (0, s.2), (9, 0)], [], w)) : pj_TG R (fB_findersAhead_11b i0 x1 x2 w x3 x4) (Go (11, [(19, i0), (0, x1), (0, x2), (0, x3), (0, x4), (9, 0)], [], w)) := by
  unfold fB_findersAhead_11b
  refine pj_map (fun k => pj_iload hM (pc := 11) dX0_findersAhead_11 rfl (pj_aload_n hM (pc := 13) dX0_findersAhead_13 rfl rfl (pj_gf hM (pc := 14) (t := 0) dX0_findersAhead_14 fl_X0_44 hn0 rfl 7 rfl k))) ?_
  refine pj_tif (fun h1 => ?_) (fun h1 => ?_)
  · exact pj_tret (fun hr => pj_ic_ge_t hM (pc := 17) dX0_findersAhead_17 rfl h1 (pj_iload_n hM (pc := 55) dX0_findersAhead_55 rfl (pj_ret hM (pc := 56) dX0_findersAhead_56 ⟨_, rfl⟩ (h0 (x3) hr) rfl)))
  refine pj_tbind (fun p2 h3 => ?_)
  refine pj_map (fun k => pj_ic_ge_f hM (pc := 17) 55 dX0_findersAhead_17 rfl h1 (pj_aload_n hM (pc := 20) dX0_findersAhead_20 rfl rfl (pj_iload hM (pc := 21) dX0_findersAhead_21 rfl (pj_cV hM (pc := 23) (cB_leadOf i0 x4 hn0 w p2 h3) dX0_findersAhead_23 mf_X0_leadOf mv_X0_leadOf ml_X0_179 kc_19 rfl rfl hn0 rfl rfl (pj_istore hM (pc := 26) dX0_findersAhead_26 (by decide) (lls' := [(19, i0), (0, x1), (0, x2), (0, x3), (0, x4), (0, p2)]) rfl (pj_iload hM (pc := 28) dX0_findersAhead_28 rfl (pj_iload_n hM (pc := 30) dX0_findersAhead_30 rfl k))))))) ?_
  refine pj_tif (fun h4 => ?_) (fun h4 => ?_)
  · refine pj_map (fun k => pj_ic_gt_t hM (pc := 31) dX0_findersAhead_31 rfl h4 (pj_kill hM [true, true, true, true, true, false] (lls' := [(19, i0), (0, x1), (0, x2), (0, x3), (0, x4), (9, 0)]) rfl k)) ?_
    exact tB_findersAhead_46 hM i0 x1 x2 x3 x4 w hn0 _ h0 hk11
  refine pj_map (fun k => pj_ic_gt_f hM (pc := 31) 46 dX0_findersAhead_31 rfl h4 (pj_iload hM (pc := 34) dX0_findersAhead_34 rfl (pj_iload_n hM (pc := 36) dX0_findersAhead_36 rfl k))) ?_
  refine pj_tif (fun h5 => ?_) (fun h5 => ?_)
  · refine pj_map (fun k => pj_ic_ne_f hM (pc := 37) 49 dX0_findersAhead_37 rfl (fun q => q h5) (pj_iload hM (pc := 40) dX0_findersAhead_40 rfl (pj_iload_n hM (pc := 42) dX0_findersAhead_42 rfl k))) ?_
    refine pj_tif (fun h6 => ?_) (fun h6 => ?_)
    · refine pj_map (fun k => pj_ic_ge_t hM (pc := 43) dX0_findersAhead_43 rfl h6 (pj_kill hM [true, true, true, true, true, false] (lls' := [(19, i0), (0, x1), (0, x2), (0, x3), (0, x4), (9, 0)]) rfl k)) ?_
      exact tB_findersAhead_49 hM i0 x1 x2 x3 x4 w hn0 _ h0 hk11
    refine pj_map (fun k => pj_ic_ge_f hM (pc := 43) 49 dX0_findersAhead_43 rfl h6 (pj_kill hM [true, true, true, true, true, false] (lls' := [(19, i0), (0, x1), (0, x2), (0, x3), (0, x4), (9, 0)]) rfl k)) ?_
    exact tB_findersAhead_46 hM i0 x1 x2 x3 x4 w hn0 _ h0 hk11
  refine pj_map (fun k => pj_ic_ne_t hM (pc := 37) dX0_findersAhead_37 rfl h5 (pj_kill hM [true, true, true, true, true, false] (lls' := [(19, i0), (0, x1), (0, x2), (0, x3), (0, x4), (9, 0)]) rfl k)) ?_
  exact tB_findersAhead_49 hM i0 x1 x2 x3 x4 w hn0 _ h0 hk11
theorem tB_findersAhead_11 {Go : pj_C → Prop} (hM : pj_M l yX0_findersAhead cX0_findersAhead 6 (some .int) 4 91 true g n0 o Go) (i0 : Int) (x1 : Int) (x2 : Int) (w : pj_W) (hn0 : 0 ≤ i0) (R : Int → Prop) (h0 : ∀ r, R (r) → ((some (0, r) : Option pj_V), w) = o) (s : (Int × Int)) : pj_TG R (fB_findersAhead_11 i0 x1 x2 w s) (Go (11, [(19, i0), (0, x1), (0, x2), (0, s.1), (0, s.2), (9, 0)], [], w)) := by
  unfold fB_findersAhead_11
  exact pj_tLp (G := fun s : (Int × Int) => Go (11, [(19, i0), (0, x1), (0, x2), (0, s.1), (0, s.2), (9, 0)], [], w)) (fun s => tB_findersAhead_11b hM i0 x1 x2 w s.1 s.2 hn0 _ (fun r h => h0 r h)  (fun s h => h)) s
theorem tB_findersAhead {Go : pj_C → Prop} (hM : pj_M l yX0_findersAhead cX0_findersAhead 6 (some .int) 4 91 true g n0 o Go) (i0 : Int) (x1 : Int) (w : pj_W) (hn0 : 0 ≤ i0) (R : Int → Prop) (h0 : ∀ r, R (r) → ((some (0, r) : Option pj_V), w) = o) : pj_TG R (fB_findersAhead i0 x1 w) (Go (0, [(19, i0), (0, x1), (9, 0), (9, 0), (9, 0), (9, 0)], [], w)) := by
  unfold fB_findersAhead
  refine pj_tbind (fun p1 h2 => ?_)
  refine pj_map (fun k => pj_aload_n hM (pc := 0) dX0_findersAhead_0 rfl rfl (pj_iload_n hM (pc := 1) dX0_findersAhead_1 rfl (pj_cV hM (pc := 2) (cB_leadOf i0 x1 hn0 w p1 h2) dX0_findersAhead_2 mf_X0_leadOf mv_X0_leadOf ml_X0_179 kc_19 rfl rfl hn0 rfl rfl (pj_istore_n hM (pc := 5) dX0_findersAhead_5 (by decide) (lls' := [(19, i0), (0, x1), (0, p1), (9, 0), (9, 0), (9, 0)]) rfl (pj_iconst hM (pc := 6) dX0_findersAhead_6 (by decide) (pj_istore_n hM (pc := 7) dX0_findersAhead_7 (by decide) (lls' := [(19, i0), (0, x1), (0, p1), (0, 0), (9, 0), (9, 0)]) rfl (pj_iconst hM (pc := 8) dX0_findersAhead_8 (by decide) (pj_istore hM (pc := 9) dX0_findersAhead_9 (by decide) (lls' := [(19, i0), (0, x1), (0, p1), (0, 0), (0, 0), (9, 0)]) rfl (pj_kill hM [true, true, true, true, true, false] (lls' := [(19, i0), (0, x1), (0, p1), (0, 0), (0, 0), (9, 0)]) rfl k))))))))) ?_
  exact tB_findersAhead_11 hM i0 x1 p1 w hn0 _ h0 _
theorem cB_findersAhead (i0 : Int) (x1 : Int) (hn0 : 0 ≤ i0) (w : pj_W) (r : Int) (h : fB_findersAhead i0 x1 w = some r) : pj_Cn l yX0_findersAhead cX0_findersAhead 6 (some .int) 4 91 true g [(19, i0), (0, x1)] w ((some (0, r) : Option pj_V), w) :=
  pj_Cn_of rfl (Nat.le_of_ble_eq_true rfl) (lls := [(19, i0), (0, x1), (9, 0), (9, 0), (9, 0), (9, 0)]) rfl (fun Go hM => tB_findersAhead hM i0 x1 w hn0 (fun x => ((some (0, x) : Option pj_V), w) = ((some (0, r) : Option pj_V), w)) (fun r h => h) r h rfl)
noncomputable def fB_ranking_2b (i0 : Int) (x1 : Int) (w : pj_W) (x2 : Int) : Option ((Int) ⊕ (Int)) :=
  if (w 19 i0 7) ≤ x2 then (some (Sum.inr ((-1)))) else ((fB_findersAhead i0 x2 w).bind fun p2 => (if p2 = x1 then (some (Sum.inr (x2))) else (some (Sum.inl ((pj_wr (x2 + 1)))))))
noncomputable def fB_ranking_2 (i0 : Int) (x1 : Int) (w : pj_W) (s : (Int)) : Option (Int) := pj_Lp (fun s : (Int) => fB_ranking_2b i0 x1 w s) s
noncomputable def fB_ranking (i0 : Int) (x1 : Int) (w : pj_W) : Option (Int) :=
  fB_ranking_2 i0 x1 w (0)
theorem tB_ranking_2b {Go : pj_C → Prop} (hM : pj_M l yX0_ranking cX0_ranking 3 (some .int) 5 116 true g n0 o Go) (i0 : Int) (x1 : Int) (w : pj_W) (x2 : Int) (hn0 : 0 ≤ i0) (R : (Int) ⊕ (Int) → Prop) (h0 : ∀ r, R (Sum.inr (r)) → ((some (0, r) : Option pj_V), w) = o) (hk2 : ∀ s, R (Sum.inl s) → Go (2, [(19, i0), (0, x1), (0, s)], [], w)) : pj_TG R (fB_ranking_2b i0 x1 w x2) (Go (2, [(19, i0), (0, x1), (0, x2)], [], w)) := by
  unfold fB_ranking_2b
  refine pj_map (fun k => pj_iload_n hM (pc := 2) dX0_ranking_2 rfl (pj_aload_n hM (pc := 3) dX0_ranking_3 rfl rfl (pj_gf hM (pc := 4) (t := 0) dX0_ranking_4 fl_X0_44 hn0 rfl 7 rfl k))) ?_
  refine pj_tif (fun h1 => ?_) (fun h1 => ?_)
  · exact pj_tret (fun hr => pj_ic_ge_t hM (pc := 7) dX0_ranking_7 rfl h1 (pj_iconst hM (pc := 27) dX0_ranking_27 (by decide) (pj_ret hM (pc := 28) dX0_ranking_28 ⟨_, rfl⟩ (h0 ((-1)) hr) rfl)))
  refine pj_tbind (fun p2 h3 => ?_)
  refine pj_map (fun k => pj_ic_ge_f hM (pc := 7) 27 dX0_ranking_7 rfl h1 (pj_aload_n hM (pc := 10) dX0_ranking_10 rfl rfl (pj_iload_n hM (pc := 11) dX0_ranking_11 rfl (pj_cV hM (pc := 12) (cB_findersAhead i0 x2 hn0 w p2 h3) dX0_ranking_12 mf_X0_findersAhead mv_X0_findersAhead ml_X0_176 kc_19 rfl rfl hn0 rfl rfl (pj_iload_n hM (pc := 15) dX0_ranking_15 rfl k))))) ?_
  refine pj_tif (fun h4 => ?_) (fun h4 => ?_)
  · exact pj_tret (fun hr => pj_ic_ne_f hM (pc := 16) 21 dX0_ranking_16 rfl (fun q => q h4) (pj_iload_n hM (pc := 19) dX0_ranking_19 rfl (pj_ret hM (pc := 20) dX0_ranking_20 ⟨_, rfl⟩ (h0 (x2) hr) rfl)))
  exact pj_tret (fun hr => pj_ic_ne_t hM (pc := 16) dX0_ranking_16 rfl h4 (pj_iinc hM (pc := 21) dX0_ranking_21 rfl (by decide) (lls' := [(19, i0), (0, x1), (0, (pj_wr (x2 + 1)))]) rfl (pj_goto hM (pc := 24) dX0_ranking_24 rfl (pj_kill hM [true, true, true] (lls' := [(19, i0), (0, x1), (0, (pj_wr (x2 + 1)))]) rfl ((hk2 _ hr))))))
theorem tB_ranking_2 {Go : pj_C → Prop} (hM : pj_M l yX0_ranking cX0_ranking 3 (some .int) 5 116 true g n0 o Go) (i0 : Int) (x1 : Int) (w : pj_W) (hn0 : 0 ≤ i0) (R : Int → Prop) (h0 : ∀ r, R (r) → ((some (0, r) : Option pj_V), w) = o) (s : (Int)) : pj_TG R (fB_ranking_2 i0 x1 w s) (Go (2, [(19, i0), (0, x1), (0, s)], [], w)) := by
  unfold fB_ranking_2
  exact pj_tLp (G := fun s : (Int) => Go (2, [(19, i0), (0, x1), (0, s)], [], w)) (fun s => tB_ranking_2b hM i0 x1 w s hn0 _ (fun r h => h0 r h)  (fun s h => h)) s
theorem tB_ranking {Go : pj_C → Prop} (hM : pj_M l yX0_ranking cX0_ranking 3 (some .int) 5 116 true g n0 o Go) (i0 : Int) (x1 : Int) (w : pj_W) (hn0 : 0 ≤ i0) (R : Int → Prop) (h0 : ∀ r, R (r) → ((some (0, r) : Option pj_V), w) = o) : pj_TG R (fB_ranking i0 x1 w) (Go (0, [(19, i0), (0, x1), (9, 0)], [], w)) := by
  unfold fB_ranking
  refine pj_map (fun k => pj_iconst hM (pc := 0) dX0_ranking_0 (by decide) (pj_istore_n hM (pc := 1) dX0_ranking_1 (by decide) (lls' := [(19, i0), (0, x1), (0, 0)]) rfl (pj_kill hM [true, true, true] (lls' := [(19, i0), (0, x1), (0, 0)]) rfl k))) ?_
  exact tB_ranking_2 hM i0 x1 w hn0 _ h0 _
theorem cB_ranking (i0 : Int) (x1 : Int) (hn0 : 0 ≤ i0) (w : pj_W) (r : Int) (h : fB_ranking i0 x1 w = some r) : pj_Cn l yX0_ranking cX0_ranking 3 (some .int) 5 116 true g [(19, i0), (0, x1)] w ((some (0, r) : Option pj_V), w) :=
  pj_Cn_of rfl (Nat.le_of_ble_eq_true rfl) (lls := [(19, i0), (0, x1), (9, 0)]) rfl (fun Go hM => tB_ranking hM i0 x1 w hn0 (fun x => ((some (0, x) : Option pj_V), w) = ((some (0, r) : Option pj_V), w)) (fun r h => h) r h rfl)
noncomputable def fX_behind_25  (w : pj_W) : Option (Int × pj_W) :=
  (fX_refuse 1 w).bind fun p1 => (some ((p1.1, p1.2)))
noncomputable def fX_behind (x1 : Int) (w : pj_W) : Option (Int × pj_W) :=
  if 0 ≤ (w 10 0 10) then ((fB_ranking (w 10 0 10) 0 w).bind fun p2 => ((fB_finderAt (w 10 0 10) x1 w).bind fun p4 => (if p4 < 0 then (fX_behind_25 w) else (if p2 = (-1) then (fX_behind_25 w) else ((fB_leadOf (w 10 0 10) p2 w).bind fun p8 => ((fB_leadOf (w 10 0 10) x1 w).bind fun p10 => ((fX_answer (pj_wr (p8 - p10)) w).bind fun p12 => (some ((p12.1, p12.2)))))))))) else none
theorem tX_behind_25 {Go : pj_C → Prop} (hM : pj_M l yX11_behind cX11_behind 3 (some .int) 6 138 true g n0 o Go)  (w : pj_W)  (R : Int × pj_W → Prop) (h0 : ∀ r, R (r) → ((some (0, r.1) : Option pj_V), r.2) = o) : pj_TG R (fX_behind_25  w) (Go (25, [(10, 0), (9, 0), (9, 0)], [], w)) := by
  unfold fX_behind_25
  refine pj_tbind (fun p1 h2 => ?_)
  exact pj_tret (fun hr => pj_aload_n hM (pc := 25) dX11_behind_25 rfl rfl (pj_iconst hM (pc := 26) dX11_behind_26 (by decide) (pj_cV hM (pc := 27) (cX_refuse 1 w p1 h2) dX11_behind_27 mf_X11_refuse mv_X11_refuse ml_X11_100 kc_10 rfl rfl (by decide) rfl rfl (pj_ret hM (pc := 30) dX11_behind_30 ⟨_, rfl⟩ (h0 ((p1.1, p1.2)) hr) rfl))))
theorem tX_behind {Go : pj_C → Prop} (hM : pj_M l yX11_behind cX11_behind 3 (some .int) 6 138 true g n0 o Go) (x1 : Int) (w : pj_W)  (R : Int × pj_W → Prop) (h0 : ∀ r, R (r) → ((some (0, r.1) : Option pj_V), r.2) = o) : pj_TG R (fX_behind x1 w) (Go (0, [(10, 0), (0, x1), (9, 0)], [], w)) := by
  unfold fX_behind
  refine pj_tgd (fun h1 => ?_)
  refine pj_tbind (fun p2 h3 => ?_)
  refine pj_tbind (fun p4 h5 => ?_)
  refine pj_map (fun k => pj_aload_n hM (pc := 0) dX11_behind_0 rfl rfl (pj_gf hM (pc := 1) (t := 19) dX11_behind_1 fl_X11_69 (by decide) rfl 10 rfl (pj_iconst hM (pc := 4) dX11_behind_4 (by decide) (pj_cV hM (pc := 5) (cB_ranking (w 10 0 10) 0 h1 w p2 h3) dX11_behind_5 mf_X0_ranking mv_X0_ranking ml_X11_300 kc_19 rfl rfl h1 rfl rfl (pj_istore_n hM (pc := 8) dX11_behind_8 (by decide) (lls' := [(10, 0), (0, x1), (0, p2)]) rfl (pj_aload_n hM (pc := 9) dX11_behind_9 rfl rfl (pj_gf hM (pc := 10) (t := 19) dX11_behind_10 fl_X11_69 (by decide) rfl 10 rfl (pj_iload_n hM (pc := 13) dX11_behind_13 rfl (pj_cV hM (pc := 14) (cB_finderAt (w 10 0 10) x1 h1 w p4 h5) dX11_behind_14 mf_X0_finderAt mv_X0_finderAt ml_X11_216 kc_19 rfl rfl h1 rfl rfl k))))))))) ?_
  refine pj_tif (fun h6 => ?_) (fun h6 => ?_)
  · refine pj_map (fun k => pj_null_t hM (pc := 17) dX11_behind_17 rfl (by decide) h6 (pj_kill hM [true, false, false] (lls' := [(10, 0), (9, 0), (9, 0)]) rfl k)) ?_
    exact tX_behind_25 hM w _ h0
  refine pj_map (fun k => pj_null_f hM (pc := 17) 25 dX11_behind_17 rfl (by decide) h6 (pj_iload_n hM (pc := 20) dX11_behind_20 rfl (pj_iconst hM (pc := 21) dX11_behind_21 (by decide) k))) ?_
  refine pj_tif (fun h7 => ?_) (fun h7 => ?_)
  · refine pj_map (fun k => pj_ic_ne_f hM (pc := 22) 31 dX11_behind_22 rfl (fun q => q h7) (pj_kill hM [true, false, false] (lls' := [(10, 0), (9, 0), (9, 0)]) rfl k)) ?_
    exact tX_behind_25 hM w _ h0
  refine pj_tbind (fun p8 h9 => ?_)
  refine pj_tbind (fun p10 h11 => ?_)
  refine pj_tbind (fun p12 h13 => ?_)
  exact pj_tret (fun hr => pj_ic_ne_t hM (pc := 22) dX11_behind_22 rfl h7 (pj_aload_n hM (pc := 31) dX11_behind_31 rfl rfl (pj_aload_n hM (pc := 32) dX11_behind_32 rfl rfl (pj_gf hM (pc := 33) (t := 19) dX11_behind_33 fl_X11_69 (by decide) rfl 10 rfl (pj_iload_n hM (pc := 36) dX11_behind_36 rfl (pj_cV hM (pc := 37) (cB_leadOf (w 10 0 10) p2 h1 w p8 h9) dX11_behind_37 mf_X0_leadOf mv_X0_leadOf ml_X11_297 kc_19 rfl rfl h1 rfl rfl (pj_aload_n hM (pc := 40) dX11_behind_40 rfl rfl (pj_gf hM (pc := 41) (t := 19) dX11_behind_41 fl_X11_69 (by decide) rfl 10 rfl (pj_iload_n hM (pc := 44) dX11_behind_44 rfl (pj_cV hM (pc := 45) (cB_leadOf (w 10 0 10) x1 h1 w p10 h11) dX11_behind_45 mf_X0_leadOf mv_X0_leadOf ml_X11_297 kc_19 rfl rfl h1 rfl rfl (pj_isub hM (pc := 48) dX11_behind_48 (pj_cV hM (pc := 49) (cX_answer (pj_wr (p8 - p10)) w p12 h13) dX11_behind_49 mf_X11_answer mv_X11_answer ml_X11_96 kc_10 rfl rfl (by decide) rfl rfl (pj_ret hM (pc := 52) dX11_behind_52 ⟨_, rfl⟩ (h0 ((p12.1, p12.2)) hr) rfl)))))))))))))
theorem cX_behind (x1 : Int)  (w : pj_W) (r : Int × pj_W) (h : fX_behind x1 w = some r) : pj_Cn l yX11_behind cX11_behind 3 (some .int) 6 138 true g [(10, 0), (0, x1)] w ((some (0, r.1) : Option pj_V), r.2) :=
  pj_Cn_of rfl (Nat.le_of_ble_eq_true rfl) (lls := [(10, 0), (0, x1), (9, 0)]) rfl (fun Go hM => tX_behind hM x1 w (fun x => ((some (0, x.1) : Option pj_V), x.2) = ((some (0, r.1) : Option pj_V), r.2)) (fun r h => h) r h rfl)
noncomputable def fO_fits (x1 : Int) (w : pj_W) : Option (Int) :=
  (fInt_bitCount x1 w).bind fun p1 => (if (w 17 0 10) < p1 then (some (0)) else (if 0 ≤ (pj_wr ((pj_wr (x1 * 9)) + 8)) ∧ (pj_wr ((pj_wr (x1 * 9)) + 8)) < 2304 then (if (w 36 0 (pj_wr ((pj_wr (x1 * 9)) + 8))) < (w 17 0 9) then (some (0)) else (some (1))) else none))
theorem tO_fits {Go : pj_C → Prop} (hM : pj_M l yX8_fits cX8_fits 2 (some .boolean) 1 20 true g n0 o Go) (x1 : Int) (w : pj_W)  (R : Int → Prop) (h0 : ∀ r, R (r) → ((some (0, r) : Option pj_V), w) = o) : pj_TG R (fO_fits x1 w) (Go (0, [(17, 0), (0, x1)], [], w)) := by
  unfold fO_fits
  refine pj_tbind (fun p1 h2 => ?_)
  refine pj_map (fun k => pj_iload_n hM (pc := 0) dX8_fits_0 rfl (pj_cS hM (pc := 1) (cInt_bitCount x1 w p1 h2) dX8_fits_1 mf_J6_bitCount_0f7a4 ms_J6_bitCount_0f7a4 ml_X8_100 rfl rfl rfl rfl (pj_aload_n hM (pc := 4) dX8_fits_4 rfl rfl (pj_gf hM (pc := 5) (t := 0) dX8_fits_5 fl_X8_54 (by decide) rfl 10 rfl k)))) ?_
  refine pj_tif (fun h3 => ?_) (fun h3 => ?_)
  · exact pj_tret (fun hr => pj_ic_gt_t hM (pc := 8) dX8_fits_8 rfl h3 (pj_iconst hM (pc := 34) dX8_fits_34 (by decide) (pj_ret hM (pc := 35) dX8_fits_35 ⟨_, rfl, Or.inl rfl⟩ (h0 (0) hr) rfl)))
  refine pj_tgd (fun h4 => ?_)
  refine pj_map (fun k => pj_ic_gt_f hM (pc := 8) 34 dX8_fits_8 rfl h3 (pj_aload_n hM (pc := 11) dX8_fits_11 rfl rfl (pj_gf hM (pc := 12) (t := 0) dX8_fits_12 fl_X8_50 (by decide) rfl 9 rfl (pj_aload_n hM (pc := 15) dX8_fits_15 rfl rfl (pj_getF hM (pc := 16) (t := 36) dX8_fits_16 fl_X8_11 (by decide) rfl rfl (pj_iload_n hM (pc := 19) dX8_fits_19 rfl (pj_bipush hM (pc := 20) dX8_fits_20 (by decide) (pj_imul hM (pc := 22) dX8_fits_22 (pj_bipush hM (pc := 23) dX8_fits_23 (by decide) (pj_iadd hM (pc := 25) dX8_fits_25 (pj_ial hM (pc := 26) dX8_fits_26 ki_36 (by decide) h4 k))))))))))) ?_
  refine pj_tif (fun h5 => ?_) (fun h5 => ?_)
  · exact pj_tret (fun hr => pj_ic_gt_t hM (pc := 27) dX8_fits_27 rfl h5 (pj_iconst hM (pc := 34) dX8_fits_34 (by decide) (pj_ret hM (pc := 35) dX8_fits_35 ⟨_, rfl, Or.inl rfl⟩ (h0 (0) hr) rfl)))
  exact pj_tret (fun hr => pj_ic_gt_f hM (pc := 27) 34 dX8_fits_27 rfl h5 (pj_iconst hM (pc := 30) dX8_fits_30 (by decide) (pj_goto hM (pc := 31) dX8_fits_31 rfl (pj_ret hM (pc := 35) dX8_fits_35 ⟨_, rfl, Or.inr rfl⟩ (h0 (1) hr) rfl))))
theorem cO_fits (x1 : Int)  (w : pj_W) (r : Int) (h : fO_fits x1 w = some r) : pj_Cn l yX8_fits cX8_fits 2 (some .boolean) 1 20 true g [(17, 0), (0, x1)] w ((some (0, r) : Option pj_V), w) :=
  pj_Cn_of rfl (Nat.le_of_ble_eq_true rfl) (lls := [(17, 0), (0, x1)]) rfl (fun Go hM => tO_fits hM x1 w (fun x => ((some (0, x) : Option pj_V), w) = ((some (0, r) : Option pj_V), w)) (fun r h => h) r h rfl)
noncomputable def fO_worthOf_30 (x1 : Int) (x2 : Int) (x3 : Int) (w : pj_W) : Option ((Int × Int) ⊕ (Int)) :=
  some (Sum.inl (x2, (pj_wr (x3 + 1))))
noncomputable def fO_worthOf_4b (x1 : Int) (w : pj_W) (x2 : Int) (x3 : Int) : Option ((Int × Int) ⊕ (Int)) :=
  if (w 17 0 7) ≤ x3 then (some (Sum.inr (x2))) else (if (pj_and (pj_shr x1 x3) 1) = 1 then (if 0 ≤ x3 ∧ x3 < 8 then (fO_worthOf_30 x1 (pj_wr (x2 + (w 39 0 x3))) x3 w) else none) else (fO_worthOf_30 x1 x2 x3 w))
noncomputable def fO_worthOf_4 (x1 : Int) (w : pj_W) (s : (Int × Int)) : Option (Int) := pj_Lp (fun s : (Int × Int) => fO_worthOf_4b x1 w s.1 s.2) s
noncomputable def fO_worthOf (x1 : Int) (w : pj_W) : Option (Int) :=
  fO_worthOf_4 x1 w (0, 0)
theorem tO_worthOf_30 {Go : pj_C → Prop} (hM : pj_M l yX8_worthOf cX8_worthOf 4 (some .int) 0 0 true g n0 o Go) (x1 : Int) (x2 : Int) (x3 : Int) (w : pj_W)  (R : (Int × Int) ⊕ (Int) → Prop) (h0 : ∀ r, R (Sum.inr (r)) → ((some (0, r) : Option pj_V), w) = o) (hk4 : ∀ s, R (Sum.inl s) → Go (4, [(17, 0), (0, x1), (0, s.1), (0, s.2)], [], w)) : pj_TG R (fO_worthOf_30 x1 x2 x3 w) (Go (30, [(17, 0), (0, x1), (0, x2), (0, x3)], [], w)) := by
  unfold fO_worthOf_30
  exact pj_tret (fun hr => pj_iinc hM (pc := 30) dX8_worthOf_30 rfl (by decide) (lls' := [(17, 0), (0, x1), (0, x2), (0, (pj_wr (x3 + 1)))]) rfl (pj_goto hM (pc := 33) dX8_worthOf_33 rfl (pj_kill hM [true, true, true, true] (lls' := [(17, 0), (0, x1), (0, x2), (0, (pj_wr (x3 + 1)))]) rfl ((hk4 _ hr)))))
theorem tO_worthOf_4b {Go : pj_C → Prop} (hM : pj_M l yX8_worthOf cX8_worthOf 4 (some .int) 0 0 true g n0 o Go) (x1 : Int) (w : pj_W) (x2 : Int) (x3 : Int)  (R : (Int × Int) ⊕ (Int) → Prop) (h0 : ∀ r, R (Sum.inr (r)) → ((some (0, r) : Option pj_V), w) = o) (hk4 : ∀ s, R (Sum.inl s) → Go (4, [(17, 0), (0, x1), (0, s.1), (0, s.2)], [], w)) : pj_TG R (fO_worthOf_4b x1 w x2 x3) (Go (4, [(17, 0), (0, x1), (0, x2), (0, x3)], [], w)) := by
  unfold fO_worthOf_4b
  refine pj_map (fun k => pj_iload_n hM (pc := 4) dX8_worthOf_4 rfl (pj_aload_n hM (pc := 5) dX8_worthOf_5 rfl rfl (pj_gf hM (pc := 6) (t := 0) dX8_worthOf_6 fl_X8_38 (by decide) rfl 7 rfl k))) ?_
  refine pj_tif (fun h1 => ?_) (fun h1 => ?_)
  · exact pj_tret (fun hr => pj_ic_ge_t hM (pc := 9) dX8_worthOf_9 rfl h1 (pj_iload_n hM (pc := 36) dX8_worthOf_36 rfl (pj_ret hM (pc := 37) dX8_worthOf_37 ⟨_, rfl⟩ (h0 (x2) hr) rfl)))
  refine pj_map (fun k => pj_ic_ge_f hM (pc := 9) 36 dX8_worthOf_9 rfl h1 (pj_iload_n hM (pc := 12) dX8_worthOf_12 rfl (pj_iload_n hM (pc := 13) dX8_worthOf_13 rfl (pj_ishr hM (pc := 14) dX8_worthOf_14 (pj_iconst hM (pc := 15) dX8_worthOf_15 (by decide) (pj_iand hM (pc := 16) dX8_worthOf_16 (pj_iconst hM (pc := 17) dX8_worthOf_17 (by decide) k))))))) ?_
  refine pj_tif (fun h2 => ?_) (fun h2 => ?_)
  · refine pj_tgd (fun h3 => ?_)
    refine pj_map (fun k => pj_ic_ne_f hM (pc := 18) 30 dX8_worthOf_18 rfl (fun q => q h2) (pj_iload_n hM (pc := 21) dX8_worthOf_21 rfl (pj_aload_n hM (pc := 22) dX8_worthOf_22 rfl rfl (pj_getF hM (pc := 23) (t := 39) dX8_worthOf_23 fl_X8_21 (by decide) rfl rfl (pj_iload_n hM (pc := 26) dX8_worthOf_26 rfl (pj_ial hM (pc := 27) dX8_worthOf_27 ki_39 (by decide) h3 (pj_iadd hM (pc := 28) dX8_worthOf_28 (pj_istore_n hM (pc := 29) dX8_worthOf_29 (by decide) (lls' := [(17, 0), (0, x1), (0, (pj_wr (x2 + (w 39 0 x3)))), (0, x3)]) rfl (pj_kill hM [true, true, true, true] (lls' := [(17, 0), (0, x1), (0, (pj_wr (x2 + (w 39 0 x3)))), (0, x3)]) rfl k))))))))) ?_
    exact tO_worthOf_30 hM x1 (pj_wr (x2 + (w 39 0 x3))) x3 w _ h0 hk4
  refine pj_map (fun k => pj_ic_ne_t hM (pc := 18) dX8_worthOf_18 rfl h2 (pj_kill hM [true, true, true, true] (lls' := [(17, 0), (0, x1), (0, x2), (0, x3)]) rfl k)) ?_
  exact tO_worthOf_30 hM x1 x2 x3 w _ h0 hk4
theorem tO_worthOf_4 {Go : pj_C → Prop} (hM : pj_M l yX8_worthOf cX8_worthOf 4 (some .int) 0 0 true g n0 o Go) (x1 : Int) (w : pj_W)  (R : Int → Prop) (h0 : ∀ r, R (r) → ((some (0, r) : Option pj_V), w) = o) (s : (Int × Int)) : pj_TG R (fO_worthOf_4 x1 w s) (Go (4, [(17, 0), (0, x1), (0, s.1), (0, s.2)], [], w)) := by
  unfold fO_worthOf_4
  exact pj_tLp (G := fun s : (Int × Int) => Go (4, [(17, 0), (0, x1), (0, s.1), (0, s.2)], [], w)) (fun s => tO_worthOf_4b hM x1 w s.1 s.2  _ (fun r h => h0 r h)  (fun s h => h)) s
theorem tO_worthOf {Go : pj_C → Prop} (hM : pj_M l yX8_worthOf cX8_worthOf 4 (some .int) 0 0 true g n0 o Go) (x1 : Int) (w : pj_W)  (R : Int → Prop) (h0 : ∀ r, R (r) → ((some (0, r) : Option pj_V), w) = o) : pj_TG R (fO_worthOf x1 w) (Go (0, [(17, 0), (0, x1), (9, 0), (9, 0)], [], w)) := by
  unfold fO_worthOf
  refine pj_map (fun k => pj_iconst hM (pc := 0) dX8_worthOf_0 (by decide) (pj_istore_n hM (pc := 1) dX8_worthOf_1 (by decide) (lls' := [(17, 0), (0, x1), (0, 0), (9, 0)]) rfl (pj_iconst hM (pc := 2) dX8_worthOf_2 (by decide) (pj_istore_n hM (pc := 3) dX8_worthOf_3 (by decide) (lls' := [(17, 0), (0, x1), (0, 0), (0, 0)]) rfl (pj_kill hM [true, true, true, true] (lls' := [(17, 0), (0, x1), (0, 0), (0, 0)]) rfl k))))) ?_
  exact tO_worthOf_4 hM x1 w _ h0 _
theorem cO_worthOf (x1 : Int)  (w : pj_W) (r : Int) (h : fO_worthOf x1 w = some r) : pj_Cn l yX8_worthOf cX8_worthOf 4 (some .int) 0 0 true g [(17, 0), (0, x1)] w ((some (0, r) : Option pj_V), w) :=
  pj_Cn_of rfl (Nat.le_of_ble_eq_true rfl) (lls := [(17, 0), (0, x1), (9, 0), (9, 0)]) rfl (fun Go hM => tO_worthOf hM x1 w (fun x => ((some (0, x) : Option pj_V), w) = ((some (0, r) : Option pj_V), w)) (fun r h => h) r h rfl)
noncomputable def fO_bestWorth_32 (x1 : Int) (x2 : Int) (w : pj_W) : Option ((Int × Int) ⊕ (Int)) :=
  some (Sum.inl (x1, (pj_wr (x2 + 1))))
noncomputable def fO_bestWorth_4b  (w : pj_W) (x1 : Int) (x2 : Int) : Option ((Int × Int) ⊕ (Int)) :=
  if (pj_shl 1 (w 17 0 7)) ≤ x2 then (some (Sum.inr (x1))) else ((fO_fits x2 w).bind fun p2 => (if p2 = 0 then (fO_bestWorth_32 x1 x2 w) else ((fO_worthOf x2 w).bind fun p5 => (fO_bestWorth_32 (max x1 p5) x2 w))))
noncomputable def fO_bestWorth_4  (w : pj_W) (s : (Int × Int)) : Option (Int) := pj_Lp (fun s : (Int × Int) => fO_bestWorth_4b  w s.1 s.2) s
noncomputable def fO_bestWorth  (w : pj_W) : Option (Int) :=
  fO_bestWorth_4 w (0, 0)
theorem tO_bestWorth_32 {Go : pj_C → Prop} (hM : pj_M l yX8_bestWorth cX8_bestWorth 3 (some .int) 2 41 true g n0 o Go) (x1 : Int) (x2 : Int) (w : pj_W)  (R : (Int × Int) ⊕ (Int) → Prop) (h0 : ∀ r, R (Sum.inr (r)) → ((some (0, r) : Option pj_V), w) = o) (hk4 : ∀ s, R (Sum.inl s) → Go (4, [(17, 0), (0, s.1), (0, s.2)], [], w)) : pj_TG R (fO_bestWorth_32 x1 x2 w) (Go (32, [(17, 0), (0, x1), (0, x2)], [], w)) := by
  unfold fO_bestWorth_32
  exact pj_tret (fun hr => pj_iinc hM (pc := 32) dX8_bestWorth_32 rfl (by decide) (lls' := [(17, 0), (0, x1), (0, (pj_wr (x2 + 1)))]) rfl (pj_goto hM (pc := 35) dX8_bestWorth_35 rfl (pj_kill hM [true, true, true] (lls' := [(17, 0), (0, x1), (0, (pj_wr (x2 + 1)))]) rfl ((hk4 _ hr)))))
theorem tO_bestWorth_4b {Go : pj_C → Prop} (hM : pj_M l yX8_bestWorth cX8_bestWorth 3 (some .int) 2 41 true g n0 o Go)  (w : pj_W) (x1 : Int) (x2 : Int)  (R : (Int × Int) ⊕ (Int) → Prop) (h0 : ∀ r, R (Sum.inr (r)) → ((some (0, r) : Option pj_V), w) = o) (hk4 : ∀ s, R (Sum.inl s) → Go (4, [(17, 0), (0, s.1), (0, s.2)], [], w)) : pj_TG R (fO_bestWorth_4b  w x1 x2) (Go (4, [(17, 0), (0, x1), (0, x2)], [], w)) := by
  unfold fO_bestWorth_4b
  refine pj_map (fun k => pj_iload_n hM (pc := 4) dX8_bestWorth_4 rfl (pj_iconst hM (pc := 5) dX8_bestWorth_5 (by decide) (pj_aload_n hM (pc := 6) dX8_bestWorth_6 rfl rfl (pj_gf hM (pc := 7) (t := 0) dX8_bestWorth_7 fl_X8_38 (by decide) rfl 7 rfl (pj_ishl hM (pc := 10) dX8_bestWorth_10 k))))) ?_
  refine pj_tif (fun h1 => ?_) (fun h1 => ?_)
  · exact pj_tret (fun hr => pj_ic_ge_t hM (pc := 11) dX8_bestWorth_11 rfl h1 (pj_iload_n hM (pc := 38) dX8_bestWorth_38 rfl (pj_ret hM (pc := 39) dX8_bestWorth_39 ⟨_, rfl⟩ (h0 (x1) hr) rfl)))
  refine pj_tbind (fun p2 h3 => ?_)
  refine pj_map (fun k => pj_ic_ge_f hM (pc := 11) 38 dX8_bestWorth_11 rfl h1 (pj_aload_n hM (pc := 14) dX8_bestWorth_14 rfl rfl (pj_iload_n hM (pc := 15) dX8_bestWorth_15 rfl (pj_cV hM (pc := 16) (cO_fits x2 w p2 h3) dX8_bestWorth_16 mf_X8_fits mv_X8_fits ml_X8_105 kc_17 rfl rfl (by decide) rfl rfl k)))) ?_
  refine pj_tif (fun h4 => ?_) (fun h4 => ?_)
  · refine pj_map (fun k => pj_if_eq_t hM (pc := 19) dX8_bestWorth_19 rfl h4 (pj_kill hM [true, true, true] (lls' := [(17, 0), (0, x1), (0, x2)]) rfl k)) ?_
    exact tO_bestWorth_32 hM x1 x2 w _ h0 hk4
  refine pj_tbind (fun p5 h6 => ?_)
  refine pj_map (fun k => pj_if_eq_f hM (pc := 19) 32 dX8_bestWorth_19 rfl h4 (pj_iload_n hM (pc := 22) dX8_bestWorth_22 rfl (pj_aload_n hM (pc := 23) dX8_bestWorth_23 rfl rfl (pj_iload_n hM (pc := 24) dX8_bestWorth_24 rfl (pj_cV hM (pc := 25) (cO_worthOf x2 w p5 h6) dX8_bestWorth_25 mf_X8_worthOf mv_X8_worthOf ml_X8_109 kc_17 rfl rfl (by decide) rfl rfl (pj_mmax hM (pc := 28) dX8_bestWorth_28 mf_J9_max_7cf53 ms_J9_max_7cf53 ml_X8_92 rfl (pj_istore_n hM (pc := 31) dX8_bestWorth_31 (by decide) (lls' := [(17, 0), (0, (max x1 p5)), (0, x2)]) rfl (pj_kill hM [true, true, true] (lls' := [(17, 0), (0, (max x1 p5)), (0, x2)]) rfl k)))))))) ?_
  exact tO_bestWorth_32 hM (max x1 p5) x2 w _ h0 hk4
theorem tO_bestWorth_4 {Go : pj_C → Prop} (hM : pj_M l yX8_bestWorth cX8_bestWorth 3 (some .int) 2 41 true g n0 o Go)  (w : pj_W)  (R : Int → Prop) (h0 : ∀ r, R (r) → ((some (0, r) : Option pj_V), w) = o) (s : (Int × Int)) : pj_TG R (fO_bestWorth_4  w s) (Go (4, [(17, 0), (0, s.1), (0, s.2)], [], w)) := by
  unfold fO_bestWorth_4
  exact pj_tLp (G := fun s : (Int × Int) => Go (4, [(17, 0), (0, s.1), (0, s.2)], [], w)) (fun s => tO_bestWorth_4b hM  w s.1 s.2  _ (fun r h => h0 r h)  (fun s h => h)) s
theorem tO_bestWorth {Go : pj_C → Prop} (hM : pj_M l yX8_bestWorth cX8_bestWorth 3 (some .int) 2 41 true g n0 o Go)  (w : pj_W)  (R : Int → Prop) (h0 : ∀ r, R (r) → ((some (0, r) : Option pj_V), w) = o) : pj_TG R (fO_bestWorth  w) (Go (0, [(17, 0), (9, 0), (9, 0)], [], w)) := by
  unfold fO_bestWorth
  refine pj_map (fun k => pj_iconst hM (pc := 0) dX8_bestWorth_0 (by decide) (pj_istore_n hM (pc := 1) dX8_bestWorth_1 (by decide) (lls' := [(17, 0), (0, 0), (9, 0)]) rfl (pj_iconst hM (pc := 2) dX8_bestWorth_2 (by decide) (pj_istore_n hM (pc := 3) dX8_bestWorth_3 (by decide) (lls' := [(17, 0), (0, 0), (0, 0)]) rfl (pj_kill hM [true, true, true] (lls' := [(17, 0), (0, 0), (0, 0)]) rfl k))))) ?_
  exact tO_bestWorth_4 hM w _ h0 _
theorem cO_bestWorth   (w : pj_W) (r : Int) (h : fO_bestWorth  w = some r) : pj_Cn l yX8_bestWorth cX8_bestWorth 3 (some .int) 2 41 true g [(17, 0)] w ((some (0, r) : Option pj_V), w) :=
  pj_Cn_of rfl (Nat.le_of_ble_eq_true rfl) (lls := [(17, 0), (9, 0), (9, 0)]) rfl (fun Go hM => tO_bestWorth hM w (fun x => ((some (0, x) : Option pj_V), w) = ((some (0, r) : Option pj_V), w)) (fun r h => h) r h rfl)
noncomputable def fO_fewestFor_43 (x1 : Int) (x2 : Int) (x3 : Int) (w : pj_W) : Option ((Int × Int) ⊕ (Int)) :=
  some (Sum.inl (x2, (pj_wr (x3 + 1))))
noncomputable def fO_fewestFor_7b (x1 : Int) (w : pj_W) (x2 : Int) (x3 : Int) : Option ((Int × Int) ⊕ (Int)) :=
  if (pj_shl 1 (w 17 0 7)) ≤ x3 then (some (Sum.inr (x2))) else ((fO_fits x3 w).bind fun p2 => (if p2 = 0 then (fO_fewestFor_43 x1 x2 x3 w) else ((fO_worthOf x3 w).bind fun p5 => (if p5 = x1 then ((fInt_bitCount x3 w).bind fun p8 => (fO_fewestFor_43 x1 (min x2 p8) x3 w)) else (fO_fewestFor_43 x1 x2 x3 w)))))
noncomputable def fO_fewestFor_7 (x1 : Int) (w : pj_W) (s : (Int × Int)) : Option (Int) := pj_Lp (fun s : (Int × Int) => fO_fewestFor_7b x1 w s.1 s.2) s
noncomputable def fO_fewestFor (x1 : Int) (w : pj_W) : Option (Int) :=
  fO_fewestFor_7 x1 w ((w 17 0 7), 0)
theorem tO_fewestFor_43 {Go : pj_C → Prop} (hM : pj_M l yX8_fewestFor cX8_fewestFor 4 (some .int) 2 41 true g n0 o Go) (x1 : Int) (x2 : Int) (x3 : Int) (w : pj_W)  (R : (Int × Int) ⊕ (Int) → Prop) (h0 : ∀ r, R (Sum.inr (r)) → ((some (0, r) : Option pj_V), w) = o) (hk7 : ∀ s, R (Sum.inl s) → Go (7, [(17, 0), (0, x1), (0, s.1), (0, s.2)], [], w)) : pj_TG R (fO_fewestFor_43 x1 x2 x3 w) (Go (43, [(17, 0), (0, x1), (0, x2), (0, x3)], [], w)) := by
  unfold fO_fewestFor_43
  exact pj_tret (fun hr => pj_iinc hM (pc := 43) dX8_fewestFor_43 rfl (by decide) (lls' := [(17, 0), (0, x1), (0, x2), (0, (pj_wr (x3 + 1)))]) rfl (pj_goto hM (pc := 46) dX8_fewestFor_46 rfl (pj_kill hM [true, true, true, true] (lls' := [(17, 0), (0, x1), (0, x2), (0, (pj_wr (x3 + 1)))]) rfl ((hk7 _ hr)))))
theorem tO_fewestFor_7b {Go : pj_C → Prop} (hM : pj_M l yX8_fewestFor cX8_fewestFor 4 (some .int) 2 41 true g n0 o Go) (x1 : Int) (w : pj_W) (x2 : Int) (x3 : Int)  (R : (Int × Int) ⊕ (Int) → Prop) (h0 : ∀ r, R (Sum.inr (r)) → ((some (0, r) : Option pj_V), w) = o) (hk7 : ∀ s, R (Sum.inl s) → Go (7, [(17, 0), (0, x1), (0, s.1), (0, s.2)], [], w)) : pj_TG R (fO_fewestFor_7b x1 w x2 x3) (Go (7, [(17, 0), (0, x1), (0, x2), (0, x3)], [], w)) := by
  unfold fO_fewestFor_7b
  refine pj_map (fun k => pj_iload_n hM (pc := 7) dX8_fewestFor_7 rfl (pj_iconst hM (pc := 8) dX8_fewestFor_8 (by decide) (pj_aload_n hM (pc := 9) dX8_fewestFor_9 rfl rfl (pj_gf hM (pc := 10) (t := 0) dX8_fewestFor_10 fl_X8_38 (by decide) rfl 7 rfl (pj_ishl hM (pc := 13) dX8_fewestFor_13 k))))) ?_
  refine pj_tif (fun h1 => ?_) (fun h1 => ?_)
  · exact pj_tret (fun hr => pj_ic_ge_t hM (pc := 14) dX8_fewestFor_14 rfl h1 (pj_iload_n hM (pc := 49) dX8_fewestFor_49 rfl (pj_ret hM (pc := 50) dX8_fewestFor_50 ⟨_, rfl⟩ (h0 (x2) hr) rfl)))
  refine pj_tbind (fun p2 h3 => ?_)
  refine pj_map (fun k => pj_ic_ge_f hM (pc := 14) 49 dX8_fewestFor_14 rfl h1 (pj_aload_n hM (pc := 17) dX8_fewestFor_17 rfl rfl (pj_iload_n hM (pc := 18) dX8_fewestFor_18 rfl (pj_cV hM (pc := 19) (cO_fits x3 w p2 h3) dX8_fewestFor_19 mf_X8_fits mv_X8_fits ml_X8_105 kc_17 rfl rfl (by decide) rfl rfl k)))) ?_
  refine pj_tif (fun h4 => ?_) (fun h4 => ?_)
  · refine pj_map (fun k => pj_if_eq_t hM (pc := 22) dX8_fewestFor_22 rfl h4 (pj_kill hM [true, true, true, true] (lls' := [(17, 0), (0, x1), (0, x2), (0, x3)]) rfl k)) ?_
    exact tO_fewestFor_43 hM x1 x2 x3 w _ h0 hk7
  refine pj_tbind (fun p5 h6 => ?_)
  refine pj_map (fun k => pj_if_eq_f hM (pc := 22) 43 dX8_fewestFor_22 rfl h4 (pj_aload_n hM (pc := 25) dX8_fewestFor_25 rfl rfl (pj_iload_n hM (pc := 26) dX8_fewestFor_26 rfl (pj_cV hM (pc := 27) (cO_worthOf x3 w p5 h6) dX8_fewestFor_27 mf_X8_worthOf mv_X8_worthOf ml_X8_109 kc_17 rfl rfl (by decide) rfl rfl (pj_iload_n hM (pc := 30) dX8_fewestFor_30 rfl k))))) ?_
  refine pj_tif (fun h7 => ?_) (fun h7 => ?_)
  · refine pj_tbind (fun p8 h9 => ?_)
    refine pj_map (fun k => pj_ic_ne_f hM (pc := 31) 43 dX8_fewestFor_31 rfl (fun q => q h7) (pj_iload_n hM (pc := 34) dX8_fewestFor_34 rfl (pj_iload_n hM (pc := 35) dX8_fewestFor_35 rfl (pj_cS hM (pc := 36) (cInt_bitCount x3 w p8 h9) dX8_fewestFor_36 mf_J6_bitCount_0f7a4 ms_J6_bitCount_0f7a4 ml_X8_100 rfl rfl rfl rfl (pj_mmin hM (pc := 39) dX8_fewestFor_39 mf_J9_min_7cf53 ms_J9_min_7cf53 ml_X8_135 rfl (pj_istore_n hM (pc := 42) dX8_fewestFor_42 (by decide) (lls' := [(17, 0), (0, x1), (0, (min x2 p8)), (0, x3)]) rfl (pj_kill hM [true, true, true, true] (lls' := [(17, 0), (0, x1), (0, (min x2 p8)), (0, x3)]) rfl k))))))) ?_
    exact tO_fewestFor_43 hM x1 (min x2 p8) x3 w _ h0 hk7
  refine pj_map (fun k => pj_ic_ne_t hM (pc := 31) dX8_fewestFor_31 rfl h7 (pj_kill hM [true, true, true, true] (lls' := [(17, 0), (0, x1), (0, x2), (0, x3)]) rfl k)) ?_
  exact tO_fewestFor_43 hM x1 x2 x3 w _ h0 hk7
theorem tO_fewestFor_7 {Go : pj_C → Prop} (hM : pj_M l yX8_fewestFor cX8_fewestFor 4 (some .int) 2 41 true g n0 o Go) (x1 : Int) (w : pj_W)  (R : Int → Prop) (h0 : ∀ r, R (r) → ((some (0, r) : Option pj_V), w) = o) (s : (Int × Int)) : pj_TG R (fO_fewestFor_7 x1 w s) (Go (7, [(17, 0), (0, x1), (0, s.1), (0, s.2)], [], w)) := by
  unfold fO_fewestFor_7
  exact pj_tLp (G := fun s : (Int × Int) => Go (7, [(17, 0), (0, x1), (0, s.1), (0, s.2)], [], w)) (fun s => tO_fewestFor_7b hM x1 w s.1 s.2  _ (fun r h => h0 r h)  (fun s h => h)) s
theorem tO_fewestFor {Go : pj_C → Prop} (hM : pj_M l yX8_fewestFor cX8_fewestFor 4 (some .int) 2 41 true g n0 o Go) (x1 : Int) (w : pj_W)  (R : Int → Prop) (h0 : ∀ r, R (r) → ((some (0, r) : Option pj_V), w) = o) : pj_TG R (fO_fewestFor x1 w) (Go (0, [(17, 0), (0, x1), (9, 0), (9, 0)], [], w)) := by
  unfold fO_fewestFor
  refine pj_map (fun k => pj_aload_n hM (pc := 0) dX8_fewestFor_0 rfl rfl (pj_gf hM (pc := 1) (t := 0) dX8_fewestFor_1 fl_X8_38 (by decide) rfl 7 rfl (pj_istore_n hM (pc := 4) dX8_fewestFor_4 (by decide) (lls' := [(17, 0), (0, x1), (0, (w 17 0 7)), (9, 0)]) rfl (pj_iconst hM (pc := 5) dX8_fewestFor_5 (by decide) (pj_istore_n hM (pc := 6) dX8_fewestFor_6 (by decide) (lls' := [(17, 0), (0, x1), (0, (w 17 0 7)), (0, 0)]) rfl (pj_kill hM [true, true, true, true] (lls' := [(17, 0), (0, x1), (0, (w 17 0 7)), (0, 0)]) rfl k)))))) ?_
  exact tO_fewestFor_7 hM x1 w _ h0 _
theorem cO_fewestFor (x1 : Int)  (w : pj_W) (r : Int) (h : fO_fewestFor x1 w = some r) : pj_Cn l yX8_fewestFor cX8_fewestFor 4 (some .int) 2 41 true g [(17, 0), (0, x1)] w ((some (0, r) : Option pj_V), w) :=
  pj_Cn_of rfl (Nat.le_of_ble_eq_true rfl) (lls := [(17, 0), (0, x1), (9, 0), (9, 0)]) rfl (fun Go hM => tO_fewestFor hM x1 w (fun x => ((some (0, x) : Option pj_V), w) = ((some (0, r) : Option pj_V), w)) (fun r h => h) r h rfl)
noncomputable def fO_dueAt (x1 : Int) (x2 : Int) (w : pj_W) : Option (Int) :=
  if 0 ≤ (pj_wr ((pj_wr ((pj_and x1 (pj_xor (pj_shl 1 x2) (-1))) * 9)) + x2)) ∧ (pj_wr ((pj_wr ((pj_and x1 (pj_xor (pj_shl 1 x2) (-1))) * 9)) + x2)) < 2304 then (some ((w 36 0 (pj_wr ((pj_wr ((pj_and x1 (pj_xor (pj_shl 1 x2) (-1))) * 9)) + x2))))) else none
theorem tO_dueAt {Go : pj_C → Prop} (hM : pj_M l yX8_dueAt cX8_dueAt 3 (some .int) 0 0 true g n0 o Go) (x1 : Int) (x2 : Int) (w : pj_W)  (R : Int → Prop) (h0 : ∀ r, R (r) → ((some (0, r) : Option pj_V), w) = o) : pj_TG R (fO_dueAt x1 x2 w) (Go (0, [(17, 0), (0, x1), (0, x2)], [], w)) := by
  unfold fO_dueAt
  refine pj_tgd (fun h1 => ?_)
  exact pj_tret (fun hr => pj_aload_n hM (pc := 0) dX8_dueAt_0 rfl rfl (pj_getF hM (pc := 1) (t := 36) dX8_dueAt_1 fl_X8_11 (by decide) rfl rfl (pj_iload_n hM (pc := 4) dX8_dueAt_4 rfl (pj_iconst hM (pc := 5) dX8_dueAt_5 (by decide) (pj_iload_n hM (pc := 6) dX8_dueAt_6 rfl (pj_ishl hM (pc := 7) dX8_dueAt_7 (pj_iconst hM (pc := 8) dX8_dueAt_8 (by decide) (pj_ixor hM (pc := 9) dX8_dueAt_9 (pj_iand hM (pc := 10) dX8_dueAt_10 (pj_bipush hM (pc := 11) dX8_dueAt_11 (by decide) (pj_imul hM (pc := 13) dX8_dueAt_13 (pj_iload_n hM (pc := 14) dX8_dueAt_14 rfl (pj_iadd hM (pc := 15) dX8_dueAt_15 (pj_ial hM (pc := 16) dX8_dueAt_16 ki_36 (by decide) h1 (pj_ret hM (pc := 17) dX8_dueAt_17 ⟨_, rfl⟩ (h0 ((w 36 0 (pj_wr ((pj_wr ((pj_and x1 (pj_xor (pj_shl 1 x2) (-1))) * 9)) + x2)))) hr) rfl)))))))))))))))
theorem cO_dueAt (x1 : Int) (x2 : Int)  (w : pj_W) (r : Int) (h : fO_dueAt x1 x2 w = some r) : pj_Cn l yX8_dueAt cX8_dueAt 3 (some .int) 0 0 true g [(17, 0), (0, x1), (0, x2)] w ((some (0, r) : Option pj_V), w) :=
  pj_Cn_of rfl (Nat.le_of_ble_eq_true rfl) (lls := [(17, 0), (0, x1), (0, x2)]) rfl (fun Go hM => tO_dueAt hM x1 x2 w (fun x => ((some (0, x) : Option pj_V), w) = ((some (0, r) : Option pj_V), w)) (fun r h => h) r h rfl)
noncomputable def fO_minutesBetween (x1 : Int) (x2 : Int) (w : pj_W) : Option (Int) :=
  if 0 ≤ x1 ∧ x1 < 9 then (if 0 ≤ x2 ∧ x2 < 9 then (some ((pj_wr ((w 17 0 8) * (pj_abs (pj_wr ((w 37 0 x1) - (w 37 0 x2)))))))) else none) else none
theorem tO_minutesBetween {Go : pj_C → Prop} (hM : pj_M l yX8_minutesBetween cX8_minutesBetween 3 (some .int) 1 21 true g n0 o Go) (x1 : Int) (x2 : Int) (w : pj_W)  (R : Int → Prop) (h0 : ∀ r, R (r) → ((some (0, r) : Option pj_V), w) = o) : pj_TG R (fO_minutesBetween x1 x2 w) (Go (0, [(17, 0), (0, x1), (0, x2)], [], w)) := by
  unfold fO_minutesBetween
  refine pj_tgd (fun h1 => ?_)
  refine pj_tgd (fun h2 => ?_)
  exact pj_tret (fun hr => pj_aload_n hM (pc := 0) dX8_minutesBetween_0 rfl rfl (pj_gf hM (pc := 1) (t := 0) dX8_minutesBetween_1 fl_X8_46 (by decide) rfl 8 rfl (pj_aload_n hM (pc := 4) dX8_minutesBetween_4 rfl rfl (pj_getF hM (pc := 5) (t := 37) dX8_minutesBetween_5 fl_X8_15 (by decide) rfl rfl (pj_iload_n hM (pc := 8) dX8_minutesBetween_8 rfl (pj_ial hM (pc := 9) dX8_minutesBetween_9 ki_37 (by decide) h1 (pj_aload_n hM (pc := 10) dX8_minutesBetween_10 rfl rfl (pj_getF hM (pc := 11) (t := 37) dX8_minutesBetween_11 fl_X8_15 (by decide) rfl rfl (pj_iload_n hM (pc := 14) dX8_minutesBetween_14 rfl (pj_ial hM (pc := 15) dX8_minutesBetween_15 ki_37 (by decide) h2 (pj_isub hM (pc := 16) dX8_minutesBetween_16 (pj_mabs hM (pc := 17) dX8_minutesBetween_17 mf_J9_abs_0f7a4 ms_J9_abs_0f7a4 ml_X8_97 rfl (pj_imul hM (pc := 20) dX8_minutesBetween_20 (pj_ret hM (pc := 21) dX8_minutesBetween_21 ⟨_, rfl⟩ (h0 ((pj_wr ((w 17 0 8) * (pj_abs (pj_wr ((w 37 0 x1) - (w 37 0 x2))))))) hr) rfl))))))))))))))
theorem cO_minutesBetween (x1 : Int) (x2 : Int)  (w : pj_W) (r : Int) (h : fO_minutesBetween x1 x2 w = some r) : pj_Cn l yX8_minutesBetween cX8_minutesBetween 3 (some .int) 1 21 true g [(17, 0), (0, x1), (0, x2)] w ((some (0, r) : Option pj_V), w) :=
  pj_Cn_of rfl (Nat.le_of_ble_eq_true rfl) (lls := [(17, 0), (0, x1), (0, x2)]) rfl (fun Go hM => tO_minutesBetween hM x1 x2 w (fun x => ((some (0, x) : Option pj_V), w) = ((some (0, r) : Option pj_V), w)) (fun r h => h) r h rfl)
noncomputable def fO_minuteAt (x1 : Int) (x2 : Int) (x3 : Int) (w : pj_W) : Option (Int) :=
  (fO_minutesBetween x2 x1 w).bind fun p1 => (if 0 ≤ x1 ∧ x1 < 8 then (some ((max (pj_wr (x3 + p1)) (w 38 0 x1)))) else none)
theorem tO_minuteAt {Go : pj_C → Prop} (hM : pj_M l yX8_minuteAt cX8_minuteAt 4 (some .int) 2 43 true g n0 o Go) (x1 : Int) (x2 : Int) (x3 : Int) (w : pj_W)  (R : Int → Prop) (h0 : ∀ r, R (r) → ((some (0, r) : Option pj_V), w) = o) : pj_TG R (fO_minuteAt x1 x2 x3 w) (Go (0, [(17, 0), (0, x1), (0, x2), (0, x3)], [], w)) := by
  unfold fO_minuteAt
  refine pj_tbind (fun p1 h2 => ?_)
  refine pj_tgd (fun h3 => ?_)
  exact pj_tret (fun hr => pj_iload_n hM (pc := 0) dX8_minuteAt_0 rfl (pj_aload_n hM (pc := 1) dX8_minuteAt_1 rfl rfl (pj_iload_n hM (pc := 2) dX8_minuteAt_2 rfl (pj_iload_n hM (pc := 3) dX8_minuteAt_3 rfl (pj_cV hM (pc := 4) (cO_minutesBetween x2 x1 w p1 h2) dX8_minuteAt_4 mf_X8_minutesBetween mv_X8_minutesBetween ml_X8_89 kc_17 rfl rfl (by decide) rfl rfl (pj_iadd hM (pc := 7) dX8_minuteAt_7 (pj_aload_n hM (pc := 8) dX8_minuteAt_8 rfl rfl (pj_getF hM (pc := 9) (t := 38) dX8_minuteAt_9 fl_X8_18 (by decide) rfl rfl (pj_iload_n hM (pc := 12) dX8_minuteAt_12 rfl (pj_ial hM (pc := 13) dX8_minuteAt_13 ki_38 (by decide) h3 (pj_mmax hM (pc := 14) dX8_minuteAt_14 mf_J9_max_7cf53 ms_J9_max_7cf53 ml_X8_92 rfl (pj_ret hM (pc := 17) dX8_minuteAt_17 ⟨_, rfl⟩ (h0 ((max (pj_wr (x3 + p1)) (w 38 0 x1))) hr) rfl))))))))))))
theorem cO_minuteAt (x1 : Int) (x2 : Int) (x3 : Int)  (w : pj_W) (r : Int) (h : fO_minuteAt x1 x2 x3 w = some r) : pj_Cn l yX8_minuteAt cX8_minuteAt 4 (some .int) 2 43 true g [(17, 0), (0, x1), (0, x2), (0, x3)] w ((some (0, r) : Option pj_V), w) :=
  pj_Cn_of rfl (Nat.le_of_ble_eq_true rfl) (lls := [(17, 0), (0, x1), (0, x2), (0, x3)]) rfl (fun Go hM => tO_minuteAt hM x1 x2 x3 w (fun x => ((some (0, x) : Option pj_V), w) = ((some (0, r) : Option pj_V), w)) (fun r h => h) r h rfl)
noncomputable def fO_firstNext_43 (x1 : Int) (x2 : Int) (x3 : Int) (x4 : Int) (w : pj_W) : Option ((Int) ⊕ (Int)) :=
  some (Sum.inl ((pj_wr (x4 + 1))))
noncomputable def fO_firstNext_3b (x1 : Int) (x2 : Int) (x3 : Int) (w : pj_W) (x4 : Int) : Option ((Int) ⊕ (Int)) :=
  if (w 17 0 7) ≤ x4 then (some (Sum.inr (0))) else (if (pj_and (pj_shr x1 x4) 1) = 1 then ((fO_minuteAt x4 x2 x3 w).bind fun p3 => ((fO_dueAt x1 x4 w).bind fun p5 => (if p5 < p3 then (fO_firstNext_43 x1 x2 x3 x4 w) else (some (Sum.inr (x4)))))) else (fO_firstNext_43 x1 x2 x3 x4 w))
noncomputable def fO_firstNext_3 (x1 : Int) (x2 : Int) (x3 : Int) (w : pj_W) (s : (Int)) : Option (Int) := pj_Lp (fun s : (Int) => fO_firstNext_3b x1 x2 x3 w s) s
noncomputable def fO_firstNext (x1 : Int) (x2 : Int) (x3 : Int) (w : pj_W) : Option (Int) :=
  fO_firstNext_3 x1 x2 x3 w (0)
theorem tO_firstNext_43 {Go : pj_C → Prop} (hM : pj_M l yX8_firstNext cX8_firstNext 5 (some .int) 3 66 true g n0 o Go) (x1 : Int) (x2 : Int) (x3 : Int) (x4 : Int) (w : pj_W)  (R : (Int) ⊕ (Int) → Prop) (h0 : ∀ r, R (Sum.inr (r)) → ((some (0, r) : Option pj_V), w) = o) (hk3 : ∀ s, R (Sum.inl s) → Go (3, [(17, 0), (0, x1), (0, x2), (0, x3), (0, s)], [], w)) : pj_TG R (fO_firstNext_43 x1 x2 x3 x4 w) (Go (43, [(17, 0), (0, x1), (0, x2), (0, x3), (0, x4)], [], w)) := by
  unfold fO_firstNext_43
  exact pj_tret (fun hr => pj_iinc hM (pc := 43) dX8_firstNext_43 rfl (by decide) (lls' := [(17, 0), (0, x1), (0, x2), (0, x3), (0, (pj_wr (x4 + 1)))]) rfl (pj_goto hM (pc := 46) dX8_firstNext_46 rfl (pj_kill hM [true, true, true, true, true] (lls' := [(17, 0), (0, x1), (0, x2), (0, x3), (0, (pj_wr (x4 + 1)))]) rfl ((hk3 _ hr)))))
theorem tO_firstNext_3b {Go : pj_C → Prop} (hM : pj_M l yX8_firstNext cX8_firstNext 5 (some .int) 3 66 true g n0 o Go) (x1 : Int) (x2 : Int) (x3 : Int) (w : pj_W) (x4 : Int)  (R : (Int) ⊕ (Int) → Prop) (h0 : ∀ r, R (Sum.inr (r)) → ((some (0, r) : Option pj_V), w) = o) (hk3 : ∀ s, R (Sum.inl s) → Go (3, [(17, 0), (0, x1), (0, x2), (0, x3), (0, s)], [], w)) : pj_TG R (fO_firstNext_3b x1 x2 x3 w x4) (Go (3, [(17, 0), (0, x1), (0, x2), (0, x3), (0, x4)], [], w)) := by
  unfold fO_firstNext_3b
  refine pj_map (fun k => pj_iload hM (pc := 3) dX8_firstNext_3 rfl (pj_aload_n hM (pc := 5) dX8_firstNext_5 rfl rfl (pj_gf hM (pc := 6) (t := 0) dX8_firstNext_6 fl_X8_38 (by decide) rfl 7 rfl k))) ?_
  refine pj_tif (fun h1 => ?_) (fun h1 => ?_)
  · exact pj_tret (fun hr => pj_ic_ge_t hM (pc := 9) dX8_firstNext_9 rfl h1 (pj_iconst hM (pc := 49) dX8_firstNext_49 (by decide) (pj_ret hM (pc := 50) dX8_firstNext_50 ⟨_, rfl⟩ (h0 (0) hr) rfl)))
  refine pj_map (fun k => pj_ic_ge_f hM (pc := 9) 49 dX8_firstNext_9 rfl h1 (pj_iload_n hM (pc := 12) dX8_firstNext_12 rfl (pj_iload hM (pc := 13) dX8_firstNext_13 rfl (pj_ishr hM (pc := 15) dX8_firstNext_15 (pj_iconst hM (pc := 16) dX8_firstNext_16 (by decide) (pj_iand hM (pc := 17) dX8_firstNext_17 (pj_iconst hM (pc := 18) dX8_firstNext_18 (by decide) k))))))) ?_
  refine pj_tif (fun h2 => ?_) (fun h2 => ?_)
  · refine pj_tbind (fun p3 h4 => ?_)
    refine pj_tbind (fun p5 h6 => ?_)
    refine pj_map (fun k => pj_ic_ne_f hM (pc := 19) 43 dX8_firstNext_19 rfl (fun q => q h2) (pj_aload_n hM (pc := 22) dX8_firstNext_22 rfl rfl (pj_iload hM (pc := 23) dX8_firstNext_23 rfl (pj_iload_n hM (pc := 25) dX8_firstNext_25 rfl (pj_iload_n hM (pc := 26) dX8_firstNext_26 rfl (pj_cV hM (pc := 27) (cO_minuteAt x4 x2 x3 w p3 h4) dX8_firstNext_27 mf_X8_minuteAt mv_X8_minuteAt ml_X8_141 kc_17 rfl rfl (by decide) rfl rfl (pj_aload_n hM (pc := 30) dX8_firstNext_30 rfl rfl (pj_iload_n hM (pc := 31) dX8_firstNext_31 rfl (pj_iload hM (pc := 32) dX8_firstNext_32 rfl (pj_cV hM (pc := 34) (cO_dueAt x1 x4 w p5 h6) dX8_firstNext_34 mf_X8_dueAt mv_X8_dueAt ml_X8_85 kc_17 rfl rfl (by decide) rfl rfl k)))))))))) ?_
    refine pj_tif (fun h7 => ?_) (fun h7 => ?_)
    · refine pj_map (fun k => pj_ic_gt_t hM (pc := 37) dX8_firstNext_37 rfl h7 (pj_kill hM [true, true, true, true, true] (lls' := [(17, 0), (0, x1), (0, x2), (0, x3), (0, x4)]) rfl k)) ?_
      exact tO_firstNext_43 hM x1 x2 x3 x4 w _ h0 hk3
    exact pj_tret (fun hr => pj_ic_gt_f hM (pc := 37) 43 dX8_firstNext_37 rfl h7 (pj_iload hM (pc := 40) dX8_firstNext_40 rfl (pj_ret hM (pc := 42) dX8_firstNext_42 ⟨_, rfl⟩ (h0 (x4) hr) rfl)))
  refine pj_map (fun k => pj_ic_ne_t hM (pc := 19) dX8_firstNext_19 rfl h2 (pj_kill hM [true, true, true, true, true] (lls' := [(17, 0), (0, x1), (0, x2), (0, x3), (0, x4)]) rfl k)) ?_
  exact tO_firstNext_43 hM x1 x2 x3 x4 w _ h0 hk3
theorem tO_firstNext_3 {Go : pj_C → Prop} (hM : pj_M l yX8_firstNext cX8_firstNext 5 (some .int) 3 66 true g n0 o Go) (x1 : Int) (x2 : Int) (x3 : Int) (w : pj_W)  (R : Int → Prop) (h0 : ∀ r, R (r) → ((some (0, r) : Option pj_V), w) = o) (s : (Int)) : pj_TG R (fO_firstNext_3 x1 x2 x3 w s) (Go (3, [(17, 0), (0, x1), (0, x2), (0, x3), (0, s)], [], w)) := by
  unfold fO_firstNext_3
  exact pj_tLp (G := fun s : (Int) => Go (3, [(17, 0), (0, x1), (0, x2), (0, x3), (0, s)], [], w)) (fun s => tO_firstNext_3b hM x1 x2 x3 w s  _ (fun r h => h0 r h)  (fun s h => h)) s
theorem tO_firstNext {Go : pj_C → Prop} (hM : pj_M l yX8_firstNext cX8_firstNext 5 (some .int) 3 66 true g n0 o Go) (x1 : Int) (x2 : Int) (x3 : Int) (w : pj_W)  (R : Int → Prop) (h0 : ∀ r, R (r) → ((some (0, r) : Option pj_V), w) = o) : pj_TG R (fO_firstNext x1 x2 x3 w) (Go (0, [(17, 0), (0, x1), (0, x2), (0, x3), (9, 0)], [], w)) := by
  unfold fO_firstNext
  refine pj_map (fun k => pj_iconst hM (pc := 0) dX8_firstNext_0 (by decide) (pj_istore hM (pc := 1) dX8_firstNext_1 (by decide) (lls' := [(17, 0), (0, x1), (0, x2), (0, x3), (0, 0)]) rfl (pj_kill hM [true, true, true, true, true] (lls' := [(17, 0), (0, x1), (0, x2), (0, x3), (0, 0)]) rfl k))) ?_
  exact tO_firstNext_3 hM x1 x2 x3 w _ h0 _
theorem cO_firstNext (x1 : Int) (x2 : Int) (x3 : Int)  (w : pj_W) (r : Int) (h : fO_firstNext x1 x2 x3 w = some r) : pj_Cn l yX8_firstNext cX8_firstNext 5 (some .int) 3 66 true g [(17, 0), (0, x1), (0, x2), (0, x3)] w ((some (0, r) : Option pj_V), w) :=
  pj_Cn_of rfl (Nat.le_of_ble_eq_true rfl) (lls := [(17, 0), (0, x1), (0, x2), (0, x3), (9, 0)]) rfl (fun Go hM => tO_firstNext hM x1 x2 x3 w (fun x => ((some (0, x) : Option pj_V), w) = ((some (0, r) : Option pj_V), w)) (fun r h => h) r h rfl)
noncomputable def fO_layTrial_15b (x2 : Int) (x3 : Int) (x4 : Int) (x5 : Int) (x6 : Int) (w : pj_W) : Option ((Int × Int × Int × Int × pj_W) ⊕ (pj_W)) :=
  if x2 ≤ x6 then (some (Sum.inr (w))) else ((fO_firstNext x3 x4 x5 w).bind fun p2 => (if 0 ≤ x6 ∧ x6 < 8 then ((fO_minuteAt p2 x4 x5 (pj_set w 40 0 x6 p2)).bind fun p5 => (some (Sum.inl ((pj_and x3 (pj_xor (pj_shl 1 p2) (-1))), p2, p5, (pj_wr (x6 + 1)), (pj_set w 40 0 x6 p2))))) else none))
noncomputable def fO_layTrial_15 (x2 : Int) (s : (Int × Int × Int × Int × pj_W)) : Option (pj_W) := pj_Lp (fun s : (Int × Int × Int × Int × pj_W) => fO_layTrial_15b x2 s.1 s.2.1 s.2.2.1 s.2.2.2.1 s.2.2.2.2) s
noncomputable def fO_layTrial (x1 : Int) (x2 : Int) (w : pj_W) : Option (pj_W) :=
  fO_layTrial_15 x2 (x1, 8, (w 17 0 9), 0, w)
theorem tO_layTrial_15b {Go : pj_C → Prop} (hM : pj_M l yX8_layTrial cX8_layTrial 8 none 4 90 true g n0 o Go) (x2 : Int) (x3 : Int) (x4 : Int) (x5 : Int) (x6 : Int) (w : pj_W)  (R : (Int × Int × Int × Int × pj_W) ⊕ (pj_W) → Prop) (h0 : ∀ r, R (Sum.inr (r)) → ((none : Option pj_V), r) = o) (hk15 : ∀ s, R (Sum.inl s) → Go (15, [(17, 0), (9, 0), (0, x2), (0, s.1), (0, s.2.1), (0, s.2.2.1), (0, s.2.2.2.1), (9, 0)], [], s.2.2.2.2)) : pj_TG R (fO_layTrial_15b x2 x3 x4 x5 x6 w) (Go (15, [(17, 0), (9, 0), (0, x2), (0, x3), (0, x4), (0, x5), (0, x6), (9, 0)], [], w)) := by
  unfold fO_layTrial_15b
  refine pj_map (fun k => pj_iload hM (pc := 15) dX8_layTrial_15 rfl (pj_iload_n hM (pc := 17) dX8_layTrial_17 rfl k)) ?_
  refine pj_tif (fun h1 => ?_) (fun h1 => ?_)
  · exact pj_tret (fun hr => pj_ic_ge_t hM (pc := 18) dX8_layTrial_18 rfl h1 (pj_ret hM (pc := 72) dX8_layTrial_72 rfl (h0 (w) hr) rfl))
  refine pj_tbind (fun p2 h3 => ?_)
  refine pj_tgd (fun h4 => ?_)
  refine pj_tbind (fun p5 h6 => ?_)
  exact pj_tret (fun hr => pj_ic_ge_f hM (pc := 18) 72 dX8_layTrial_18 rfl h1 (pj_aload_n hM (pc := 21) dX8_layTrial_21 rfl rfl (pj_iload_n hM (pc := 22) dX8_layTrial_22 rfl (pj_iload hM (pc := 23) dX8_layTrial_23 rfl (pj_iload hM (pc := 25) dX8_layTrial_25 rfl (pj_cV hM (pc := 27) (cO_firstNext x3 x4 x5 w p2 h3) dX8_layTrial_27 mf_X8_firstNext mv_X8_firstNext ml_X8_138 kc_17 rfl rfl (by decide) rfl rfl (pj_istore hM (pc := 30) dX8_layTrial_30 (by decide) (lls' := [(17, 0), (9, 0), (0, x2), (0, x3), (0, x4), (0, x5), (0, x6), (0, p2)]) rfl (pj_aload_n hM (pc := 32) dX8_layTrial_32 rfl rfl (pj_getF hM (pc := 33) (t := 40) dX8_layTrial_33 fl_X8_24 (by decide) rfl rfl (pj_iload hM (pc := 36) dX8_layTrial_36 rfl (pj_iload hM (pc := 38) dX8_layTrial_38 rfl (pj_ias hM (pc := 40) dX8_layTrial_40 ki_40 (by decide) h4 (pj_aload_n hM (pc := 41) dX8_layTrial_41 rfl rfl (pj_iload hM (pc := 42) dX8_layTrial_42 rfl (pj_iload hM (pc := 44) dX8_layTrial_44 rfl (pj_iload hM (pc := 46) dX8_layTrial_46 rfl (pj_cV hM (pc := 48) (cO_minuteAt p2 x4 x5 (pj_set w 40 0 x6 p2) p5 h6) dX8_layTrial_48 mf_X8_minuteAt mv_X8_minuteAt ml_X8_141 kc_17 rfl rfl (by decide) rfl rfl (pj_istore hM (pc := 51) dX8_layTrial_51 (by decide) (lls' := [(17, 0), (9, 0), (0, x2), (0, x3), (0, x4), (0, p5), (0, x6), (0, p2)]) rfl (pj_iload_n hM (pc := 53) dX8_layTrial_53 rfl (pj_iconst hM (pc := 54) dX8_layTrial_54 (by decide) (pj_iload hM (pc := 55) dX8_layTrial_55 rfl (pj_ishl hM (pc := 57) dX8_layTrial_57 (pj_iconst hM (pc := 58) dX8_layTrial_58 (by decide) (pj_ixor hM (pc := 59) dX8_layTrial_59 (pj_iand hM (pc := 60) dX8_layTrial_60 (pj_istore_n hM (pc := 61) dX8_layTrial_61 (by decide) (lls' := [(17, 0), (9, 0), (0, x2), (0, (pj_and x3 (pj_xor (pj_shl 1 p2) (-1)))), (0, x4), (0, p5), (0, x6), (0, p2)]) rfl (pj_iload hM (pc := 62) dX8_layTrial_62 rfl (pj_istore hM (pc := 64) dX8_layTrial_64 (by decide) (lls' := [(17, 0), (9, 0), (0, x2), (0, (pj_and x3 (pj_xor (pj_shl 1 p2) (-1)))), (0, p2), (0, p5), (0, x6), (0, p2)]) rfl (pj_iinc hM (pc := 66) dX8_layTrial_66 rfl (by decide) (lls' := [(17, 0), (9, 0), (0, x2), (0, (pj_and x3 (pj_xor (pj_shl 1 p2) (-1)))), (0, p2), (0, p5), (0, (pj_wr (x6 + 1))), (0, p2)]) rfl (pj_goto hM (pc := 69) dX8_layTrial_69 rfl (pj_kill hM [true, false, true, true, true, true, true, false] (lls' := [(17, 0), (9, 0), (0, x2), (0, (pj_and x3 (pj_xor (pj_shl 1 p2) (-1)))), (0, p2), (0, p5), (0, (pj_wr (x6 + 1))), (9, 0)]) rfl ((hk15 _ hr)))))))))))))))))))))))))))))))))
theorem tO_layTrial_15 {Go : pj_C → Prop} (hM : pj_M l yX8_layTrial cX8_layTrial 8 none 4 90 true g n0 o Go) (x2 : Int)  (R : pj_W → Prop) (h0 : ∀ r, R (r) → ((none : Option pj_V), r) = o) (s : (Int × Int × Int × Int × pj_W)) : pj_TG R (fO_layTrial_15 x2 s) (Go (15, [(17, 0), (9, 0), (0, x2), (0, s.1), (0, s.2.1), (0, s.2.2.1), (0, s.2.2.2.1), (9, 0)], [], s.2.2.2.2)) := by
  unfold fO_layTrial_15
  exact pj_tLp (G := fun s : (Int × Int × Int × Int × pj_W) => Go (15, [(17, 0), (9, 0), (0, x2), (0, s.1), (0, s.2.1), (0, s.2.2.1), (0, s.2.2.2.1), (9, 0)], [], s.2.2.2.2)) (fun s => tO_layTrial_15b hM x2 s.1 s.2.1 s.2.2.1 s.2.2.2.1 s.2.2.2.2  _ (fun r h => h0 r h)  (fun s h => h)) s
theorem tO_layTrial {Go : pj_C → Prop} (hM : pj_M l yX8_layTrial cX8_layTrial 8 none 4 90 true g n0 o Go) (x1 : Int) (x2 : Int) (w : pj_W)  (R : pj_W → Prop) (h0 : ∀ r, R (r) → ((none : Option pj_V), r) = o) : pj_TG R (fO_layTrial x1 x2 w) (Go (0, [(17, 0), (0, x1), (0, x2), (9, 0), (9, 0), (9, 0), (9, 0), (9, 0)], [], w)) := by
  unfold fO_layTrial
  refine pj_map (fun k => pj_iload_n hM (pc := 0) dX8_layTrial_0 rfl (pj_istore_n hM (pc := 1) dX8_layTrial_1 (by decide) (lls' := [(17, 0), (0, x1), (0, x2), (0, x1), (9, 0), (9, 0), (9, 0), (9, 0)]) rfl (pj_bipush hM (pc := 2) dX8_layTrial_2 (by decide) (pj_istore hM (pc := 4) dX8_layTrial_4 (by decide) (lls' := [(17, 0), (0, x1), (0, x2), (0, x1), (0, 8), (9, 0), (9, 0), (9, 0)]) rfl (pj_aload_n hM (pc := 6) dX8_layTrial_6 rfl rfl (pj_gf hM (pc := 7) (t := 0) dX8_layTrial_7 fl_X8_50 (by decide) rfl 9 rfl (pj_istore hM (pc := 10) dX8_layTrial_10 (by decide) (lls' := [(17, 0), (0, x1), (0, x2), (0, x1), (0, 8), (0, (w 17 0 9)), (9, 0), (9, 0)]) rfl (pj_iconst hM (pc := 12) dX8_layTrial_12 (by decide) (pj_istore hM (pc := 13) dX8_layTrial_13 (by decide) (lls' := [(17, 0), (0, x1), (0, x2), (0, x1), (0, 8), (0, (w 17 0 9)), (0, 0), (9, 0)]) rfl (pj_kill hM [true, false, true, true, true, true, true, false] (lls' := [(17, 0), (9, 0), (0, x2), (0, x1), (0, 8), (0, (w 17 0 9)), (0, 0), (9, 0)]) rfl k)))))))))) ?_
  exact tO_layTrial_15 hM x2 _ h0 _
theorem cO_layTrial (x1 : Int) (x2 : Int)  (w : pj_W) (r : pj_W) (h : fO_layTrial x1 x2 w = some r) : pj_Cn l yX8_layTrial cX8_layTrial 8 none 4 90 true g [(17, 0), (0, x1), (0, x2)] w ((none : Option pj_V), r) :=
  pj_Cn_of rfl (Nat.le_of_ble_eq_true rfl) (lls := [(17, 0), (0, x1), (0, x2), (9, 0), (9, 0), (9, 0), (9, 0), (9, 0)]) rfl (fun Go hM => tO_layTrial hM x1 x2 w (fun x => ((none : Option pj_V), x) = ((none : Option pj_V), r)) (fun r h => h) r h rfl)
noncomputable def fO_trialIsAhead_2b (x1 : Int) (w : pj_W) (x2 : Int) : Option ((Int) ⊕ (Int)) :=
  if x1 ≤ x2 then (some (Sum.inr (0))) else (if 0 ≤ x2 ∧ x2 < 8 then (if (w 40 0 x2) = (w 41 0 x2) then (some (Sum.inl ((pj_wr (x2 + 1))))) else (if (w 41 0 x2) ≤ (w 40 0 x2) then (some (Sum.inr (0))) else (some (Sum.inr (1))))) else none)
noncomputable def fO_trialIsAhead_2 (x1 : Int) (w : pj_W) (s : (Int)) : Option (Int) := pj_Lp (fun s : (Int) => fO_trialIsAhead_2b x1 w s) s
noncomputable def fO_trialIsAhead (x1 : Int) (w : pj_W) : Option (Int) :=
  fO_trialIsAhead_2 x1 w (0)
theorem tO_trialIsAhead_2b {Go : pj_C → Prop} (hM : pj_M l yX8_trialIsAhead cX8_trialIsAhead 3 (some .boolean) 0 0 true g n0 o Go) (x1 : Int) (w : pj_W) (x2 : Int)  (R : (Int) ⊕ (Int) → Prop) (h0 : ∀ r, R (Sum.inr (r)) → ((some (0, r) : Option pj_V), w) = o) (hk2 : ∀ s, R (Sum.inl s) → Go (2, [(17, 0), (0, x1), (0, s)], [], w)) : pj_TG R (fO_trialIsAhead_2b x1 w x2) (Go (2, [(17, 0), (0, x1), (0, x2)], [], w)) := by
  unfold fO_trialIsAhead_2b
  refine pj_map (fun k => pj_iload_n hM (pc := 2) dX8_trialIsAhead_2 rfl (pj_iload_n hM (pc := 3) dX8_trialIsAhead_3 rfl k)) ?_
  refine pj_tif (fun h1 => ?_) (fun h1 => ?_)
  · exact pj_tret (fun hr => pj_ic_ge_t hM (pc := 4) dX8_trialIsAhead_4 rfl h1 (pj_iconst hM (pc := 49) dX8_trialIsAhead_49 (by decide) (pj_ret hM (pc := 50) dX8_trialIsAhead_50 ⟨_, rfl, Or.inl rfl⟩ (h0 (0) hr) rfl)))
  refine pj_tgd (fun h2 => ?_)
  refine pj_map (fun k => pj_ic_ge_f hM (pc := 4) 49 dX8_trialIsAhead_4 rfl h1 (pj_aload_n hM (pc := 7) dX8_trialIsAhead_7 rfl rfl (pj_getF hM (pc := 8) (t := 40) dX8_trialIsAhead_8 fl_X8_24 (by decide) rfl rfl (pj_iload_n hM (pc := 11) dX8_trialIsAhead_11 rfl (pj_ial hM (pc := 12) dX8_trialIsAhead_12 ki_40 (by decide) h2 (pj_aload_n hM (pc := 13) dX8_trialIsAhead_13 rfl rfl (pj_getF hM (pc := 14) (t := 41) dX8_trialIsAhead_14 fl_X8_27 (by decide) rfl rfl (pj_iload_n hM (pc := 17) dX8_trialIsAhead_17 rfl (pj_ial hM (pc := 18) dX8_trialIsAhead_18 ki_41 (by decide) h2 k))))))))) ?_
  refine pj_tif (fun h3 => ?_) (fun h3 => ?_)
  · exact pj_tret (fun hr => pj_ic_eq_t hM (pc := 19) dX8_trialIsAhead_19 rfl h3 (pj_iinc hM (pc := 43) dX8_trialIsAhead_43 rfl (by decide) (lls' := [(17, 0), (0, x1), (0, (pj_wr (x2 + 1)))]) rfl (pj_goto hM (pc := 46) dX8_trialIsAhead_46 rfl (pj_kill hM [true, true, true] (lls' := [(17, 0), (0, x1), (0, (pj_wr (x2 + 1)))]) rfl ((hk2 _ hr))))))
  refine pj_map (fun k => pj_ic_eq_f hM (pc := 19) 43 dX8_trialIsAhead_19 rfl h3 (pj_aload_n hM (pc := 22) dX8_trialIsAhead_22 rfl rfl (pj_getF hM (pc := 23) (t := 40) dX8_trialIsAhead_23 fl_X8_24 (by decide) rfl rfl (pj_iload_n hM (pc := 26) dX8_trialIsAhead_26 rfl (pj_ial hM (pc := 27) dX8_trialIsAhead_27 ki_40 (by decide) h2 (pj_aload_n hM (pc := 28) dX8_trialIsAhead_28 rfl rfl (pj_getF hM (pc := 29) (t := 41) dX8_trialIsAhead_29 fl_X8_27 (by decide) rfl rfl (pj_iload_n hM (pc := 32) dX8_trialIsAhead_32 rfl (pj_ial hM (pc := 33) dX8_trialIsAhead_33 ki_41 (by decide) h2 k))))))))) ?_
  refine pj_tif (fun h4 => ?_) (fun h4 => ?_)
  · exact pj_tret (fun hr => pj_ic_ge_t hM (pc := 34) dX8_trialIsAhead_34 rfl h4 (pj_iconst hM (pc := 41) dX8_trialIsAhead_41 (by decide) (pj_ret hM (pc := 42) dX8_trialIsAhead_42 ⟨_, rfl, Or.inl rfl⟩ (h0 (0) hr) rfl)))
  exact pj_tret (fun hr => pj_ic_ge_f hM (pc := 34) 41 dX8_trialIsAhead_34 rfl h4 (pj_iconst hM (pc := 37) dX8_trialIsAhead_37 (by decide) (pj_goto hM (pc := 38) dX8_trialIsAhead_38 rfl (pj_ret hM (pc := 42) dX8_trialIsAhead_42 ⟨_, rfl, Or.inr rfl⟩ (h0 (1) hr) rfl))))
theorem tO_trialIsAhead_2 {Go : pj_C → Prop} (hM : pj_M l yX8_trialIsAhead cX8_trialIsAhead 3 (some .boolean) 0 0 true g n0 o Go) (x1 : Int) (w : pj_W)  (R : Int → Prop) (h0 : ∀ r, R (r) → ((some (0, r) : Option pj_V), w) = o) (s : (Int)) : pj_TG R (fO_trialIsAhead_2 x1 w s) (Go (2, [(17, 0), (0, x1), (0, s)], [], w)) := by
  unfold fO_trialIsAhead_2
  exact pj_tLp (G := fun s : (Int) => Go (2, [(17, 0), (0, x1), (0, s)], [], w)) (fun s => tO_trialIsAhead_2b hM x1 w s  _ (fun r h => h0 r h)  (fun s h => h)) s
theorem tO_trialIsAhead {Go : pj_C → Prop} (hM : pj_M l yX8_trialIsAhead cX8_trialIsAhead 3 (some .boolean) 0 0 true g n0 o Go) (x1 : Int) (w : pj_W)  (R : Int → Prop) (h0 : ∀ r, R (r) → ((some (0, r) : Option pj_V), w) = o) : pj_TG R (fO_trialIsAhead x1 w) (Go (0, [(17, 0), (0, x1), (9, 0)], [], w)) := by
  unfold fO_trialIsAhead
  refine pj_map (fun k => pj_iconst hM (pc := 0) dX8_trialIsAhead_0 (by decide) (pj_istore_n hM (pc := 1) dX8_trialIsAhead_1 (by decide) (lls' := [(17, 0), (0, x1), (0, 0)]) rfl (pj_kill hM [true, true, true] (lls' := [(17, 0), (0, x1), (0, 0)]) rfl k))) ?_
  exact tO_trialIsAhead_2 hM x1 w _ h0 _
theorem cO_trialIsAhead (x1 : Int)  (w : pj_W) (r : Int) (h : fO_trialIsAhead x1 w = some r) : pj_Cn l yX8_trialIsAhead cX8_trialIsAhead 3 (some .boolean) 0 0 true g [(17, 0), (0, x1)] w ((some (0, r) : Option pj_V), w) :=
  pj_Cn_of rfl (Nat.le_of_ble_eq_true rfl) (lls := [(17, 0), (0, x1), (9, 0)]) rfl (fun Go hM => tO_trialIsAhead hM x1 w (fun x => ((some (0, x) : Option pj_V), w) = ((some (0, r) : Option pj_V), w)) (fun r h => h) r h rfl)
end
