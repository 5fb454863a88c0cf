/-! THE LAW: each call, by what both have in common (printed by wip/whole/genlg.py) -/
section
variable {n n' x3 sL : Int} {xs : Int → Int} {w : pj_W}
def lg_ok (xs : Int → Int) : Prop := ∀ j, -2147483648 ≤ xs j ∧ xs j < 2147483648
theorem lg_next (h0 : 0 ≤ x3) (h1 : x3 ≤ 3072) : fW_law_2076 xs sL x3 w = some (Sum.inl (x3 + 6, w)) := by
  unfold fW_law_2076
  rw [pj_wr_id (by omega) (by omega)]
theorem lg_same (R : pj_REL n w) (hn : n ≤ n') : pj_REL n' w := R.ex hn R.2.1 R.2.2.1 (fun _ _ _ _ _ _ _ => rfl) (fun _ _ _ => rfl)
theorem lg_1537 (R : pj_REL n w) (hp : 0 ≤ n) (hn : n + 1100000 ≤ n') (hn2 : n' ≤ 1800000000) (hx : lg_ok xs) (h0 : 0 ≤ x3) (h1 : x3 + 6 ≤ sL) (h2 : sL ≤ 3072) : ∃ w', fW_law_1537 xs sL x3 w = some (Sum.inl (x3 + 6, w')) ∧ pj_REL n' w' := by
  obtain ⟨z, w1, w2, e1, e2, R2⟩ := cc_safe (n' := n') R (by omega) (xs (x3 + 1))
  refine ⟨w2, ?_, R2⟩
  unfold fW_law_1537
  rw [pj_wr_id (x := x3 + 1) (by omega) (by omega), if_pos (show 0 ≤ x3 + 1 ∧ x3 + 1 < sL by omega), e1, Option.bind_some, e2, Option.bind_some, if_pos rfl, lg_next h0 (by omega)]
theorem lg_2050 (R : pj_REL n w) (hp : 0 ≤ n) (hn : n + 1100000 ≤ n') (hn2 : n' ≤ 1800000000) (hx : lg_ok xs) (h0 : 0 ≤ x3) (h1 : x3 + 6 ≤ sL) (h2 : sL ≤ 3072) : ∃ w', fW_law_2050 xs sL x3 w = some (Sum.inl (x3 + 6, w')) ∧ pj_REL n' w' := by
  obtain ⟨z, w1, w2, e1, e2, R2⟩ := cc_mark (n' := n') R (by omega) 
  refine ⟨w2, ?_, R2⟩
  unfold fW_law_2050
  rw [e1, Option.bind_some, e2, Option.bind_some, if_pos rfl, lg_next h0 (by omega)]
theorem lg_1027 (R : pj_REL n w) (hp : 0 ≤ n) (hn : n + 1100000 ≤ n') (hn2 : n' ≤ 1800000000) (hx : lg_ok xs) (h0 : 0 ≤ x3) (h1 : x3 + 6 ≤ sL) (h2 : sL ≤ 3072) : ∃ w', fW_law_1027 xs sL x3 w = some (Sum.inl (x3 + 6, w')) ∧ pj_REL n' w' := by
  obtain ⟨z, w1, w2, e1, e2, R2⟩ := cc_dawn (n' := n') R (by omega) 
  refine ⟨w2, ?_, R2⟩
  unfold fW_law_1027
  rw [e1, Option.bind_some, e2, Option.bind_some, if_pos rfl, lg_next h0 (by omega)]
theorem lg_1283 (R : pj_REL n w) (hp : 0 ≤ n) (hn : n + 1100000 ≤ n') (hn2 : n' ≤ 1800000000) (hx : lg_ok xs) (h0 : 0 ≤ x3) (h1 : x3 + 6 ≤ sL) (h2 : sL ≤ 3072) : ∃ w', fW_law_1283 xs sL x3 w = some (Sum.inl (x3 + 6, w')) ∧ pj_REL n' w' := by
  obtain ⟨z, w1, w2, e1, e2, R2⟩ := cc_lateness (n' := n') R (by omega) (xs (x3 + 1)) (xs (x3 + 2))
  refine ⟨w2, ?_, R2⟩
  unfold fW_law_1283
  rw [pj_wr_id (x := x3 + 1) (by omega) (by omega), pj_wr_id (x := x3 + 2) (by omega) (by omega), if_pos (show 0 ≤ x3 + 1 ∧ x3 + 1 < sL by omega), if_pos (show 0 ≤ x3 + 2 ∧ x3 + 2 < sL by omega), e1, Option.bind_some, e2, Option.bind_some, if_pos rfl, lg_next h0 (by omega)]
theorem lg_783 (R : pj_REL n w) (hp : 0 ≤ n) (hn : n + 1100000 ≤ n') (hn2 : n' ≤ 1800000000) (hx : lg_ok xs) (h0 : 0 ≤ x3) (h1 : x3 + 6 ≤ sL) (h2 : sL ≤ 3072) : ∃ w', fW_law_783 xs sL x3 w = some (Sum.inl (x3 + 6, w')) ∧ pj_REL n' w' := by
  obtain ⟨z, w1, w2, e1, e2, R2⟩ := cc_pebble (n' := n') R (by omega) (xs (x3 + 1)) (xs (x3 + 2)) (xs (x3 + 3))
  refine ⟨w2, ?_, R2⟩
  unfold fW_law_783
  rw [pj_wr_id (x := x3 + 1) (by omega) (by omega), pj_wr_id (x := x3 + 2) (by omega) (by omega), pj_wr_id (x := x3 + 3) (by omega) (by omega), if_pos (show 0 ≤ x3 + 1 ∧ x3 + 1 < sL by omega), if_pos (show 0 ≤ x3 + 2 ∧ x3 + 2 < sL by omega), if_pos (show 0 ≤ x3 + 3 ∧ x3 + 3 < sL by omega), e1, Option.bind_some, e2, Option.bind_some, if_pos rfl, lg_next h0 (by omega)]
theorem lg_1040 (R : pj_REL n w) (hp : 0 ≤ n) (hn : n + 1100000 ≤ n') (hn2 : n' ≤ 1800000000) (hx : lg_ok xs) (h0 : 0 ≤ x3) (h1 : x3 + 6 ≤ sL) (h2 : sL ≤ 3072) : ∃ w', fW_law_1040 xs sL x3 w = some (Sum.inl (x3 + 6, w')) ∧ pj_REL n' w' := by
  obtain ⟨z, w1, w2, e1, e2, R2⟩ := cc_last (n' := n') R (by omega) (xs (x3 + 1))
  refine ⟨w2, ?_, R2⟩
  unfold fW_law_1040
  rw [pj_wr_id (x := x3 + 1) (by omega) (by omega), if_pos (show 0 ≤ x3 + 1 ∧ x3 + 1 < sL by omega), e1, Option.bind_some, e2, Option.bind_some, if_pos rfl, lg_next h0 (by omega)]
theorem lg_2063 (R : pj_REL n w) (hp : 0 ≤ n) (hn : n + 1100000 ≤ n') (hn2 : n' ≤ 1800000000) (hx : lg_ok xs) (h0 : 0 ≤ x3) (h1 : x3 + 6 ≤ sL) (h2 : sL ≤ 3072) : ∃ w', fW_law_2063 xs sL x3 w = some (Sum.inl (x3 + 6, w')) ∧ pj_REL n' w' := by
  obtain ⟨z, w1, w2, e1, e2, R2⟩ := cc_back (n' := n') R (by omega) 
  refine ⟨w2, ?_, R2⟩
  unfold fW_law_2063
  rw [e1, Option.bind_some, e2, Option.bind_some, if_pos rfl, lg_next h0 (by omega)]
theorem lg_1560 (R : pj_REL n w) (hp : 0 ≤ n) (hn : n + 1100000 ≤ n') (hn2 : n' ≤ 1800000000) (hx : lg_ok xs) (h0 : 0 ≤ x3) (h1 : x3 + 6 ≤ sL) (h2 : sL ≤ 3072) : ∃ w', fW_law_1560 xs sL x3 w = some (Sum.inl (x3 + 6, w')) ∧ pj_REL n' w' := by
  obtain ⟨z, w1, w2, e1, e2, R2⟩ := cc_ranked (n' := n') R (by omega) (xs (x3 + 1))
  refine ⟨w2, ?_, R2⟩
  unfold fW_law_1560
  rw [pj_wr_id (x := x3 + 1) (by omega) (by omega), if_pos (show 0 ≤ x3 + 1 ∧ x3 + 1 < sL by omega), e1, Option.bind_some, e2, Option.bind_some, if_pos rfl, lg_next h0 (by omega)]
theorem lg_1823 (R : pj_REL n w) (hp : 0 ≤ n) (hn : n + 1100000 ≤ n') (hn2 : n' ≤ 1800000000) (hx : lg_ok xs) (h0 : 0 ≤ x3) (h1 : x3 + 6 ≤ sL) (h2 : sL ≤ 3072) : ∃ w', fW_law_1823 xs sL x3 w = some (Sum.inl (x3 + 6, w')) ∧ pj_REL n' w' := by
  obtain ⟨z, w1, w2, e1, e2, R2⟩ := cc_latest (n' := n') R (by omega) 
  refine ⟨w2, ?_, R2⟩
  unfold fW_law_1823
  rw [e1, Option.bind_some, e2, Option.bind_some, if_pos rfl, lg_next h0 (by omega)]
theorem lg_1316 (R : pj_REL n w) (hp : 0 ≤ n) (hn : n + 1100000 ≤ n') (hn2 : n' ≤ 1800000000) (hx : lg_ok xs) (h0 : 0 ≤ x3) (h1 : x3 + 6 ≤ sL) (h2 : sL ≤ 3072) : ∃ w', fW_law_1316 xs sL x3 w = some (Sum.inl (x3 + 6, w')) ∧ pj_REL n' w' := by
  obtain ⟨z, w1, w2, e1, e2, R2⟩ := cc_seen (n' := n') R (by omega) (xs (x3 + 1)) (xs (x3 + 2))
  refine ⟨w2, ?_, R2⟩
  unfold fW_law_1316
  rw [pj_wr_id (x := x3 + 1) (by omega) (by omega), pj_wr_id (x := x3 + 2) (by omega) (by omega), if_pos (show 0 ≤ x3 + 1 ∧ x3 + 1 < sL by omega), if_pos (show 0 ≤ x3 + 2 ∧ x3 + 2 < sL by omega), e1, Option.bind_some, e2, Option.bind_some, if_pos rfl, lg_next h0 (by omega)]
theorem lg_1063 (R : pj_REL n w) (hp : 0 ≤ n) (hn : n + 1100000 ≤ n') (hn2 : n' ≤ 1800000000) (hx : lg_ok xs) (h0 : 0 ≤ x3) (h1 : x3 + 6 ≤ sL) (h2 : sL ≤ 3072) : ∃ w', fW_law_1063 xs sL x3 w = some (Sum.inl (x3 + 6, w')) ∧ pj_REL n' w' := by
  obtain ⟨z, w1, w2, e1, e2, R2⟩ := cc_whose (n' := n') R (by omega) (xs (x3 + 1))
  refine ⟨w2, ?_, R2⟩
  unfold fW_law_1063
  rw [pj_wr_id (x := x3 + 1) (by omega) (by omega), if_pos (show 0 ≤ x3 + 1 ∧ x3 + 1 < sL by omega), e1, Option.bind_some, e2, Option.bind_some, if_pos rfl, lg_next h0 (by omega)]
theorem lg_1836 (R : pj_REL n w) (hp : 0 ≤ n) (hn : n + 1100000 ≤ n') (hn2 : n' ≤ 1800000000) (hx : lg_ok xs) (h0 : 0 ≤ x3) (h1 : x3 + 6 ≤ sL) (h2 : sL ≤ 3072) : ∃ w', fW_law_1836 xs sL x3 w = some (Sum.inl (x3 + 6, w')) ∧ pj_REL n' w' := by
  obtain ⟨z, w1, w2, e1, e2, R2⟩ := cc_behind (n' := n') R (by omega) (xs (x3 + 1))
  refine ⟨w2, ?_, R2⟩
  unfold fW_law_1836
  rw [pj_wr_id (x := x3 + 1) (by omega) (by omega), if_pos (show 0 ≤ x3 + 1 ∧ x3 + 1 < sL by omega), e1, Option.bind_some, e2, Option.bind_some, if_pos rfl, lg_next h0 (by omega)]
theorem lg_1583 (R : pj_REL n w) (hp : 0 ≤ n) (hn : n + 1100000 ≤ n') (hn2 : n' ≤ 1800000000) (hx : lg_ok xs) (h0 : 0 ≤ x3) (h1 : x3 + 6 ≤ sL) (h2 : sL ≤ 3072) : ∃ w', fW_law_1583 xs sL x3 w = some (Sum.inl (x3 + 6, w')) ∧ pj_REL n' w' := by
  obtain ⟨z, w1, w2, e1, e2, R2⟩ := cc_rivals (n' := n') R (by omega) (xs (x3 + 1)) (xs (x3 + 2))
  refine ⟨w2, ?_, R2⟩
  unfold fW_law_1583
  rw [pj_wr_id (x := x3 + 1) (by omega) (by omega), pj_wr_id (x := x3 + 2) (by omega) (by omega), if_pos (show 0 ≤ x3 + 1 ∧ x3 + 1 < sL by omega), if_pos (show 0 ≤ x3 + 2 ∧ x3 + 2 < sL by omega), e1, Option.bind_some, e2, Option.bind_some, if_pos rfl, lg_next h0 (by omega)]
theorem lg_562 (R : pj_REL n w) (hp : 0 ≤ n) (hn : n + 1100000 ≤ n') (hn2 : n' ≤ 1800000000) (hx : lg_ok xs) (h0 : 0 ≤ x3) (h1 : x3 + 6 ≤ sL) (h2 : sL ≤ 3072) : ∃ w', fW_law_562 xs sL x3 w = some (Sum.inl (x3 + 6, w')) ∧ pj_REL n' w' := by
  obtain ⟨z, w1, w2, e1, e2, R2⟩ := cc_feed (n' := n') R (by omega) (xs (x3 + 1)) (xs (x3 + 2)) (xs (x3 + 3)) (xs (x3 + 4)) (xs (x3 + 5))
  refine ⟨w2, ?_, R2⟩
  unfold fW_law_562
  rw [pj_wr_id (x := x3 + 1) (by omega) (by omega), pj_wr_id (x := x3 + 2) (by omega) (by omega), pj_wr_id (x := x3 + 3) (by omega) (by omega), pj_wr_id (x := x3 + 4) (by omega) (by omega), pj_wr_id (x := x3 + 5) (by omega) (by omega), if_pos (show 0 ≤ x3 + 1 ∧ x3 + 1 < sL by omega), if_pos (show 0 ≤ x3 + 2 ∧ x3 + 2 < sL by omega), if_pos (show 0 ≤ x3 + 3 ∧ x3 + 3 < sL by omega), if_pos (show 0 ≤ x3 + 4 ∧ x3 + 4 < sL by omega), if_pos (show 0 ≤ x3 + 5 ∧ x3 + 5 < sL by omega), e1, Option.bind_some, e2, Option.bind_some, if_pos rfl, lg_next h0 (by omega)]
theorem lg_308 (R : pj_REL n w) (hp : 0 ≤ n) (hn : n + 1100000 ≤ n') (hn2 : n' ≤ 1800000000) (hx : lg_ok xs) (h0 : 0 ≤ x3) (h1 : x3 + 6 ≤ sL) (h2 : sL ≤ 3072) : ∃ w', fW_law_308 xs sL x3 w = some (Sum.inl (x3 + 6, w')) ∧ pj_REL n' w' := by
  have hx1 : fX_status w = some (w 10 0 15) := rfl
  have hm1 : fM_status w = some (w 10 0 15) := by rw [← (cc_same R).1, hx1]
  refine ⟨w, ?_, lg_same R (by omega)⟩
  unfold fW_law_308
  rw [hx1, Option.bind_some, hm1, Option.bind_some, if_pos rfl, lg_next h0 (by omega)]
theorem lg_826 (R : pj_REL n w) (hp : 0 ≤ n) (hn : n + 1100000 ≤ n') (hn2 : n' ≤ 1800000000) (hx : lg_ok xs) (h0 : 0 ≤ x3) (h1 : x3 + 6 ≤ sL) (h2 : sL ≤ 3072) : ∃ w', fW_law_826 xs sL x3 w = some (Sum.inl (x3 + 6, w')) ∧ pj_REL n' w' := by
  obtain ⟨z, w1, w2, e1, e2, R2⟩ := cc_go (n' := n') R (by omega) (xs (x3 + 1)) (xs (x3 + 2))
  refine ⟨w2, ?_, R2⟩
  unfold fW_law_826
  rw [pj_wr_id (x := x3 + 1) (by omega) (by omega), pj_wr_id (x := x3 + 2) (by omega) (by omega), if_pos (show 0 ≤ x3 + 1 ∧ x3 + 1 < sL by omega), if_pos (show 0 ≤ x3 + 2 ∧ x3 + 2 < sL by omega), e1, Option.bind_some, e2, Option.bind_some, if_pos rfl, lg_next h0 (by omega)]
theorem lg_1086 (R : pj_REL n w) (hp : 0 ≤ n) (hn : n + 1100000 ≤ n') (hn2 : n' ≤ 1800000000) (hx : lg_ok xs) (h0 : 0 ≤ x3) (h1 : x3 + 6 ≤ sL) (h2 : sL ≤ 3072) : ∃ w', fW_law_1086 xs sL x3 w = some (Sum.inl (x3 + 6, w')) ∧ pj_REL n' w' := by
  obtain ⟨z, w1, w2, e1, e2, R2⟩ := cc_leads (n' := n') R (by omega) (xs (x3 + 1))
  refine ⟨w2, ?_, R2⟩
  unfold fW_law_1086
  rw [pj_wr_id (x := x3 + 1) (by omega) (by omega), if_pos (show 0 ≤ x3 + 1 ∧ x3 + 1 < sL by omega), e1, Option.bind_some, e2, Option.bind_some, if_pos rfl, lg_next h0 (by omega)]
theorem lg_321 (R : pj_REL n w) (hp : 0 ≤ n) (hn : n + 1100000 ≤ n') (hn2 : n' ≤ 1800000000) (hx : lg_ok xs) (h0 : 0 ≤ x3) (h1 : x3 + 6 ≤ sL) (h2 : sL ≤ 3072) : ∃ w', fW_law_321 xs sL x3 w = some (Sum.inl (x3 + 6, w')) ∧ pj_REL n' w' := by
  have hx1 : fX_top w = some (w 10 0 16) := rfl
  have hm1 : fM_top w = some (w 10 0 16) := by rw [← (cc_same R).2.1, hx1]
  refine ⟨w, ?_, lg_same R (by omega)⟩
  unfold fW_law_321
  rw [hx1, Option.bind_some, hm1, Option.bind_some, if_pos (pj_cmp_eq.mpr rfl), lg_next h0 (by omega)]
theorem lg_1859 (R : pj_REL n w) (hp : 0 ≤ n) (hn : n + 1100000 ≤ n') (hn2 : n' ≤ 1800000000) (hx : lg_ok xs) (h0 : 0 ≤ x3) (h1 : x3 + 6 ≤ sL) (h2 : sL ≤ 3072) : ∃ w', fW_law_1859 xs sL x3 w = some (Sum.inl (x3 + 6, w')) ∧ pj_REL n' w' := by
  obtain ⟨z, w1, w2, e1, e2, R2⟩ := cc_alone (n' := n') R (by omega) 
  refine ⟨w2, ?_, R2⟩
  unfold fW_law_1859
  rw [e1, Option.bind_some, e2, Option.bind_some, if_pos rfl, lg_next h0 (by omega)]
theorem lg_1349 (R : pj_REL n w) (hp : 0 ≤ n) (hn : n + 1100000 ≤ n') (hn2 : n' ≤ 1800000000) (hx : lg_ok xs) (h0 : 0 ≤ x3) (h1 : x3 + 6 ≤ sL) (h2 : sL ≤ 3072) : ∃ w', fW_law_1349 xs sL x3 w = some (Sum.inl (x3 + 6, w')) ∧ pj_REL n' w' := by
  obtain ⟨z, w1, w2, e1, e2, R2⟩ := cc_boys (n' := n') R (by omega) (xs (x3 + 1))
  refine ⟨w2, ?_, R2⟩
  unfold fW_law_1349
  rw [pj_wr_id (x := x3 + 1) (by omega) (by omega), if_pos (show 0 ≤ x3 + 1 ∧ x3 + 1 < sL by omega), e1, Option.bind_some, e2, Option.bind_some, if_pos rfl, lg_next h0 (by omega)]
theorem lg_335 (R : pj_REL n w) (hp : 0 ≤ n) (hn : n + 1100000 ≤ n') (hn2 : n' ≤ 1800000000) (hx : lg_ok xs) (h0 : 0 ≤ x3) (h1 : x3 + 6 ≤ sL) (h2 : sL ≤ 3072) : ∃ w', fW_law_335 xs sL x3 w = some (Sum.inl (x3 + 6, w')) ∧ pj_REL n' w' := by
  have hx1 : fX_bottom w = some (w 10 0 17) := rfl
  have hm1 : fM_bottom w = some (w 10 0 17) := by rw [← (cc_same R).2.2.1, hx1]
  refine ⟨w, ?_, lg_same R (by omega)⟩
  unfold fW_law_335
  rw [hx1, Option.bind_some, hm1, Option.bind_some, if_pos (pj_cmp_eq.mpr rfl), lg_next h0 (by omega)]
theorem lg_1616 (R : pj_REL n w) (hp : 0 ≤ n) (hn : n + 1100000 ≤ n') (hn2 : n' ≤ 1800000000) (hx : lg_ok xs) (h0 : 0 ≤ x3) (h1 : x3 + 6 ≤ sL) (h2 : sL ≤ 3072) : ∃ w', fW_law_1616 xs sL x3 w = some (Sum.inl (x3 + 6, w')) ∧ pj_REL n' w' := by
  obtain ⟨z, w1, w2, e1, e2, R2⟩ := cc_richest (n' := n') R (by omega) 
  refine ⟨w2, ?_, R2⟩
  unfold fW_law_1616
  rw [e1, Option.bind_some, e2, Option.bind_some, if_pos rfl, lg_next h0 (by omega)]
theorem lg_1872 (R : pj_REL n w) (hp : 0 ≤ n) (hn : n + 1100000 ≤ n') (hn2 : n' ≤ 1800000000) (hx : lg_ok xs) (h0 : 0 ≤ x3) (h1 : x3 + 6 ≤ sL) (h2 : sL ≤ 3072) : ∃ w', fW_law_1872 xs sL x3 w = some (Sum.inl (x3 + 6, w')) ∧ pj_REL n' w' := by
  obtain ⟨z, w1, w2, e1, e2, R2⟩ := cc_part (n' := n') R (by omega) (xs (x3 + 1)) (xs (x3 + 2)) (hx _)
  refine ⟨w2, ?_, R2⟩
  unfold fW_law_1872
  rw [pj_wr_id (x := x3 + 1) (by omega) (by omega), pj_wr_id (x := x3 + 2) (by omega) (by omega), if_pos (show 0 ≤ x3 + 1 ∧ x3 + 1 < sL by omega), if_pos (show 0 ≤ x3 + 2 ∧ x3 + 2 < sL by omega), e1, Option.bind_some, e2, Option.bind_some, if_pos rfl, lg_next h0 (by omega)]
theorem lg_1109 (R : pj_REL n w) (hp : 0 ≤ n) (hn : n + 1100000 ≤ n') (hn2 : n' ≤ 1800000000) (hx : lg_ok xs) (h0 : 0 ≤ x3) (h1 : x3 + 6 ≤ sL) (h2 : sL ≤ 3072) : ∃ w', fW_law_1109 xs sL x3 w = some (Sum.inl (x3 + 6, w')) ∧ pj_REL n' w' := by
  obtain ⟨z, w1, w2, e1, e2, R2⟩ := cc_leader (n' := n') R (by omega) 
  refine ⟨w2, ?_, R2⟩
  unfold fW_law_1109
  rw [e1, Option.bind_some, e2, Option.bind_some, if_pos rfl, lg_next h0 (by omega)]
theorem lg_859 (R : pj_REL n w) (hp : 0 ≤ n) (hn : n + 1100000 ≤ n') (hn2 : n' ≤ 1800000000) (hx : lg_ok xs) (h0 : 0 ≤ x3) (h1 : x3 + 6 ≤ sL) (h2 : sL ≤ 3072) : ∃ w', fW_law_859 xs sL x3 w = some (Sum.inl (x3 + 6, w')) ∧ pj_REL n' w' := by
  obtain ⟨z, w1, w2, e1, e2, R2⟩ := cc_pass (n' := n') R (by omega) (xs (x3 + 1)) (xs (x3 + 2))
  refine ⟨w2, ?_, R2⟩
  unfold fW_law_859
  rw [pj_wr_id (x := x3 + 1) (by omega) (by omega), pj_wr_id (x := x3 + 2) (by omega) (by omega), if_pos (show 0 ≤ x3 + 1 ∧ x3 + 1 < sL by omega), if_pos (show 0 ≤ x3 + 2 ∧ x3 + 2 < sL by omega), e1, Option.bind_some, e2, Option.bind_some, if_pos rfl, lg_next h0 (by omega)]
theorem lg_1372 (R : pj_REL n w) (hp : 0 ≤ n) (hn : n + 1100000 ≤ n') (hn2 : n' ≤ 1800000000) (hx : lg_ok xs) (h0 : 0 ≤ x3) (h1 : x3 + 6 ≤ sL) (h2 : sL ≤ 3072) : ∃ w', fW_law_1372 xs sL x3 w = some (Sum.inl (x3 + 6, w')) ∧ pj_REL n' w' := by
  obtain ⟨z, w1, w2, e1, e2, R2⟩ := cc_boyAt (n' := n') R (by omega) (xs (x3 + 1)) (xs (x3 + 2))
  refine ⟨w2, ?_, R2⟩
  unfold fW_law_1372
  rw [pj_wr_id (x := x3 + 1) (by omega) (by omega), pj_wr_id (x := x3 + 2) (by omega) (by omega), if_pos (show 0 ≤ x3 + 1 ∧ x3 + 1 < sL by omega), if_pos (show 0 ≤ x3 + 2 ∧ x3 + 2 < sL by omega), e1, Option.bind_some, e2, Option.bind_some, if_pos rfl, lg_next h0 (by omega)]
theorem lg_349 (R : pj_REL n w) (hp : 0 ≤ n) (hn : n + 1100000 ≤ n') (hn2 : n' ≤ 1800000000) (hx : lg_ok xs) (h0 : 0 ≤ x3) (h1 : x3 + 6 ≤ sL) (h2 : sL ≤ 3072) : ∃ w', fW_law_349 xs sL x3 w = some (Sum.inl (x3 + 6, w')) ∧ pj_REL n' w' := by
  obtain ⟨z, w1, w2, e1, e2, R2⟩ := cc_tray (n' := n') R (by omega) (xs (x3 + 1)) (xs (x3 + 2)) (xs (x3 + 3))
  refine ⟨w2, ?_, R2⟩
  unfold fW_law_349
  rw [pj_wr_id (x := x3 + 1) (by omega) (by omega), pj_wr_id (x := x3 + 2) (by omega) (by omega), pj_wr_id (x := x3 + 3) (by omega) (by omega), if_pos (show 0 ≤ x3 + 1 ∧ x3 + 1 < sL by omega), if_pos (show 0 ≤ x3 + 2 ∧ x3 + 2 < sL by omega), if_pos (show 0 ≤ x3 + 3 ∧ x3 + 3 < sL by omega), e1, Option.bind_some, e2, Option.bind_some, if_pos rfl, lg_next h0 (by omega)]
theorem lg_1629 (R : pj_REL n w) (hp : 0 ≤ n) (hn : n + 1100000 ≤ n') (hn2 : n' ≤ 1800000000) (hx : lg_ok xs) (h0 : 0 ≤ x3) (h1 : x3 + 6 ≤ sL) (h2 : sL ≤ 3072) : ∃ w', fW_law_1629 xs sL x3 w = some (Sum.inl (x3 + 6, w')) ∧ pj_REL n' w' := by
  obtain ⟨z, w1, w2, e1, e2, R2⟩ := cc_left (n' := n') R (by omega) (xs (x3 + 1))
  refine ⟨w2, ?_, R2⟩
  unfold fW_law_1629
  rw [pj_wr_id (x := x3 + 1) (by omega) (by omega), if_pos (show 0 ≤ x3 + 1 ∧ x3 + 1 < sL by omega), e1, Option.bind_some, e2, Option.bind_some, if_pos rfl, lg_next h0 (by omega)]
theorem lg_1122 (R : pj_REL n w) (hp : 0 ≤ n) (hn : n + 1100000 ≤ n') (hn2 : n' ≤ 1800000000) (hx : lg_ok xs) (h0 : 0 ≤ x3) (h1 : x3 + 6 ≤ sL) (h2 : sL ≤ 3072) : ∃ w', fW_law_1122 xs sL x3 w = some (Sum.inl (x3 + 6, w')) ∧ pj_REL n' w' := by
  obtain ⟨z, w1, w2, e1, e2, R2⟩ := cc_duels (n' := n') R (by omega) 
  refine ⟨w2, ?_, R2⟩
  unfold fW_law_1122
  rw [e1, Option.bind_some, e2, Option.bind_some, if_pos rfl, lg_next h0 (by omega)]
theorem lg_1135 (R : pj_REL n w) (hp : 0 ≤ n) (hn : n + 1100000 ≤ n') (hn2 : n' ≤ 1800000000) (hx : lg_ok xs) (h0 : 0 ≤ x3) (h1 : x3 + 6 ≤ sL) (h2 : sL ≤ 3072) : ∃ w', fW_law_1135 xs sL x3 w = some (Sum.inl (x3 + 6, w')) ∧ pj_REL n' w' := by
  obtain ⟨z, w1, w2, e1, e2, R2⟩ := cc_needs (n' := n') R (by omega) (xs (x3 + 1))
  refine ⟨w2, ?_, R2⟩
  unfold fW_law_1135
  rw [pj_wr_id (x := x3 + 1) (by omega) (by omega), if_pos (show 0 ≤ x3 + 1 ∧ x3 + 1 < sL by omega), e1, Option.bind_some, e2, Option.bind_some, if_pos rfl, lg_next h0 (by omega)]
theorem lg_625 (R : pj_REL n w) (hp : 0 ≤ n) (hn : n + 1100000 ≤ n') (hn2 : n' ≤ 1800000000) (hx : lg_ok xs) (h0 : 0 ≤ x3) (h1 : x3 + 6 ≤ sL) (h2 : sL ≤ 3072) : ∃ w', fW_law_625 xs sL x3 w = some (Sum.inl (x3 + 6, w')) ∧ pj_REL n' w' := by
  obtain ⟨z, w1, w2, e1, e2, R2⟩ := cc_beach (n' := n') R (by omega) (xs (x3 + 1))
  refine ⟨w2, ?_, R2⟩
  unfold fW_law_625
  rw [pj_wr_id (x := x3 + 1) (by omega) (by omega), if_pos (show 0 ≤ x3 + 1 ∧ x3 + 1 < sL by omega), e1, Option.bind_some, e2, Option.bind_some, if_pos rfl, lg_next h0 (by omega)]
theorem lg_1905 (R : pj_REL n w) (hp : 0 ≤ n) (hn : n + 1100000 ≤ n') (hn2 : n' ≤ 1800000000) (hx : lg_ok xs) (h0 : 0 ≤ x3) (h1 : x3 + 6 ≤ sL) (h2 : sL ≤ 3072) : ∃ w', fW_law_1905 xs sL x3 w = some (Sum.inl (x3 + 6, w')) ∧ pj_REL n' w' := by
  obtain ⟨z, w1, w2, e1, e2, R2⟩ := cc_crowd (n' := n') R (by omega) (xs (x3 + 1))
  refine ⟨w2, ?_, R2⟩
  unfold fW_law_1905
  rw [pj_wr_id (x := x3 + 1) (by omega) (by omega), if_pos (show 0 ≤ x3 + 1 ∧ x3 + 1 < sL by omega), e1, Option.bind_some, e2, Option.bind_some, if_pos rfl, lg_next h0 (by omega)]
theorem lg_1652 (R : pj_REL n w) (hp : 0 ≤ n) (hn : n + 1100000 ≤ n') (hn2 : n' ≤ 1800000000) (hx : lg_ok xs) (h0 : 0 ≤ x3) (h1 : x3 + 6 ≤ sL) (h2 : sL ≤ 3072) : ∃ w', fW_law_1652 xs sL x3 w = some (Sum.inl (x3 + 6, w')) ∧ pj_REL n' w' := by
  obtain ⟨z, w1, w2, e1, e2, R2⟩ := cc_tideIn (n' := n') R (by omega) (xs (x3 + 1))
  refine ⟨w2, ?_, R2⟩
  unfold fW_law_1652
  rw [pj_wr_id (x := x3 + 1) (by omega) (by omega), if_pos (show 0 ≤ x3 + 1 ∧ x3 + 1 < sL by omega), e1, Option.bind_some, e2, Option.bind_some, if_pos rfl, lg_next h0 (by omega)]
theorem lg_892 (R : pj_REL n w) (hp : 0 ≤ n) (hn : n + 1100000 ≤ n') (hn2 : n' ≤ 1800000000) (hx : lg_ok xs) (h0 : 0 ≤ x3) (h1 : x3 + 6 ≤ sL) (h2 : sL ≤ 3072) : ∃ w', fW_law_892 xs sL x3 w = some (Sum.inl (x3 + 6, w')) ∧ pj_REL n' w' := by
  obtain ⟨z, w1, w2, e1, e2, R2⟩ := cc_set (n' := n') R (by omega) (xs (x3 + 1)) (xs (x3 + 2))
  refine ⟨w2, ?_, R2⟩
  unfold fW_law_892
  rw [pj_wr_id (x := x3 + 1) (by omega) (by omega), pj_wr_id (x := x3 + 2) (by omega) (by omega), if_pos (show 0 ≤ x3 + 1 ∧ x3 + 1 < sL by omega), if_pos (show 0 ≤ x3 + 2 ∧ x3 + 2 < sL by omega), e1, Option.bind_some, e2, Option.bind_some, if_pos rfl, lg_next h0 (by omega)]
theorem lg_1405 (R : pj_REL n w) (hp : 0 ≤ n) (hn : n + 1100000 ≤ n') (hn2 : n' ≤ 1800000000) (hx : lg_ok xs) (h0 : 0 ≤ x3) (h1 : x3 + 6 ≤ sL) (h2 : sL ≤ 3072) : ∃ w', fW_law_1405 xs sL x3 w = some (Sum.inl (x3 + 6, w')) ∧ pj_REL n' w' := by
  obtain ⟨z, w1, w2, e1, e2, R2⟩ := cc_odds (n' := n') R (by omega) (xs (x3 + 1)) (xs (x3 + 2)) (xs (x3 + 3))
  refine ⟨w2, ?_, R2⟩
  unfold fW_law_1405
  rw [pj_wr_id (x := x3 + 1) (by omega) (by omega), pj_wr_id (x := x3 + 2) (by omega) (by omega), pj_wr_id (x := x3 + 3) (by omega) (by omega), if_pos (show 0 ≤ x3 + 1 ∧ x3 + 1 < sL by omega), if_pos (show 0 ≤ x3 + 2 ∧ x3 + 2 < sL by omega), if_pos (show 0 ≤ x3 + 3 ∧ x3 + 3 < sL by omega), e1, Option.bind_some, e2, Option.bind_some, if_pos rfl, lg_next h0 (by omega)]
theorem lg_1158 (R : pj_REL n w) (hp : 0 ≤ n) (hn : n + 1100000 ≤ n') (hn2 : n' ≤ 1800000000) (hx : lg_ok xs) (h0 : 0 ≤ x3) (h1 : x3 + 6 ≤ sL) (h2 : sL ≤ 3072) : ∃ w', fW_law_1158 xs sL x3 w = some (Sum.inl (x3 + 6, w')) ∧ pj_REL n' w' := by
  obtain ⟨z, w1, w2, e1, e2, R2⟩ := cc_strewn (n' := n') R (by omega) (xs (x3 + 1))
  refine ⟨w2, ?_, R2⟩
  unfold fW_law_1158
  rw [pj_wr_id (x := x3 + 1) (by omega) (by omega), if_pos (show 0 ≤ x3 + 1 ∧ x3 + 1 < sL by omega), e1, Option.bind_some, e2, Option.bind_some, if_pos rfl, lg_next h0 (by omega)]
theorem lg_392 (R : pj_REL n w) (hp : 0 ≤ n) (hn : n + 1100000 ≤ n') (hn2 : n' ≤ 1800000000) (hx : lg_ok xs) (h0 : 0 ≤ x3) (h1 : x3 + 6 ≤ sL) (h2 : sL ≤ 3072) : ∃ w', fW_law_392 xs sL x3 w = some (Sum.inl (x3 + 6, w')) ∧ pj_REL n' w' := by
  obtain ⟨z, w1, w2, e1, e2, R2⟩ := cc_write (n' := n') R (by omega) (xs (x3 + 1)) (xs (x3 + 2)) (pj_lorl (pj_shll (xs (x3 + 3)) 32) (pj_landl (xs (x3 + 4)) 4294967295))
  refine ⟨w2, ?_, R2⟩
  unfold fW_law_392
  rw [pj_wr_id (x := x3 + 1) (by omega) (by omega), pj_wr_id (x := x3 + 2) (by omega) (by omega), pj_wr_id (x := x3 + 3) (by omega) (by omega), pj_wr_id (x := x3 + 4) (by omega) (by omega), if_pos (show 0 ≤ x3 + 1 ∧ x3 + 1 < sL by omega), if_pos (show 0 ≤ x3 + 2 ∧ x3 + 2 < sL by omega), if_pos (show 0 ≤ x3 + 3 ∧ x3 + 3 < sL by omega), if_pos (show 0 ≤ x3 + 4 ∧ x3 + 4 < sL by omega), e1, Option.bind_some, e2, Option.bind_some, if_pos rfl, lg_next h0 (by omega)]
theorem lg_648 (R : pj_REL n w) (hp : 0 ≤ n) (hn : n + 1100000 ≤ n') (hn2 : n' ≤ 1800000000) (hx : lg_ok xs) (h0 : 0 ≤ x3) (h1 : x3 + 6 ≤ sL) (h2 : sL ≤ 3072) : ∃ w', fW_law_648 xs sL x3 w = some (Sum.inl (x3 + 6, w')) ∧ pj_REL n' w' := by
  obtain ⟨z, w1, w2, e1, e2, R2⟩ := cc_days (n' := n') R (by omega) (xs (x3 + 1))
  refine ⟨w2, ?_, R2⟩
  unfold fW_law_648
  rw [pj_wr_id (x := x3 + 1) (by omega) (by omega), if_pos (show 0 ≤ x3 + 1 ∧ x3 + 1 < sL by omega), e1, Option.bind_some, e2, Option.bind_some, if_pos rfl, lg_next h0 (by omega)]
theorem lg_1928 (R : pj_REL n w) (hp : 0 ≤ n) (hn : n + 1100000 ≤ n') (hn2 : n' ≤ 1800000000) (hx : lg_ok xs) (h0 : 0 ≤ x3) (h1 : x3 + 6 ≤ sL) (h2 : sL ≤ 3072) : ∃ w', fW_law_1928 xs sL x3 w = some (Sum.inl (x3 + 6, w')) ∧ pj_REL n' w' := by
  obtain ⟨z, w1, w2, e1, e2, R2⟩ := cc_lies (n' := n') R (by omega) (xs (x3 + 1)) (xs (x3 + 2)) (hx _)
  refine ⟨w2, ?_, R2⟩
  unfold fW_law_1928
  rw [pj_wr_id (x := x3 + 1) (by omega) (by omega), pj_wr_id (x := x3 + 2) (by omega) (by omega), if_pos (show 0 ≤ x3 + 1 ∧ x3 + 1 < sL by omega), if_pos (show 0 ≤ x3 + 2 ∧ x3 + 2 < sL by omega), e1, Option.bind_some, e2, Option.bind_some, if_pos rfl, lg_next h0 (by omega)]
theorem lg_1675 (R : pj_REL n w) (hp : 0 ≤ n) (hn : n + 1100000 ≤ n') (hn2 : n' ≤ 1800000000) (hx : lg_ok xs) (h0 : 0 ≤ x3) (h1 : x3 + 6 ≤ sL) (h2 : sL ≤ 3072) : ∃ w', fW_law_1675 xs sL x3 w = some (Sum.inl (x3 + 6, w')) ∧ pj_REL n' w' := by
  obtain ⟨z, w1, w2, e1, e2, R2⟩ := cc_open (n' := n') R (by omega) 
  refine ⟨w2, ?_, R2⟩
  unfold fW_law_1675
  rw [e1, Option.bind_some, e2, Option.bind_some, if_pos rfl, lg_next h0 (by omega)]
theorem lg_1688 (R : pj_REL n w) (hp : 0 ≤ n) (hn : n + 1100000 ≤ n') (hn2 : n' ≤ 1800000000) (hx : lg_ok xs) (h0 : 0 ≤ x3) (h1 : x3 + 6 ≤ sL) (h2 : sL ≤ 3072) : ∃ w', fW_law_1688 xs sL x3 w = some (Sum.inl (x3 + 6, w')) ∧ pj_REL n' w' := by
  obtain ⟨z, w1, w2, e1, e2, R2⟩ := cc_farthest (n' := n') R (by omega) (xs (x3 + 1))
  refine ⟨w2, ?_, R2⟩
  unfold fW_law_1688
  rw [pj_wr_id (x := x3 + 1) (by omega) (by omega), if_pos (show 0 ≤ x3 + 1 ∧ x3 + 1 < sL by omega), e1, Option.bind_some, e2, Option.bind_some, if_pos rfl, lg_next h0 (by omega)]
theorem lg_925 (R : pj_REL n w) (hp : 0 ≤ n) (hn : n + 1100000 ≤ n') (hn2 : n' ≤ 1800000000) (hx : lg_ok xs) (h0 : 0 ≤ x3) (h1 : x3 + 6 ≤ sL) (h2 : sL ≤ 3072) : ∃ w', fW_law_925 xs sL x3 w = some (Sum.inl (x3 + 6, w')) ∧ pj_REL n' w' := by
  obtain ⟨z, w1, w2, e1, e2, R2⟩ := cc_lift (n' := n') R (by omega) (xs (x3 + 1)) (xs (x3 + 2))
  refine ⟨w2, ?_, R2⟩
  unfold fW_law_925
  rw [pj_wr_id (x := x3 + 1) (by omega) (by omega), pj_wr_id (x := x3 + 2) (by omega) (by omega), if_pos (show 0 ≤ x3 + 1 ∧ x3 + 1 < sL by omega), if_pos (show 0 ≤ x3 + 2 ∧ x3 + 2 < sL by omega), e1, Option.bind_some, e2, Option.bind_some, if_pos rfl, lg_next h0 (by omega)]
theorem lg_1181 (R : pj_REL n w) (hp : 0 ≤ n) (hn : n + 1100000 ≤ n') (hn2 : n' ≤ 1800000000) (hx : lg_ok xs) (h0 : 0 ≤ x3) (h1 : x3 + 6 ≤ sL) (h2 : sL ≤ 3072) : ∃ w', fW_law_1181 xs sL x3 w = some (Sum.inl (x3 + 6, w')) ∧ pj_REL n' w' := by
  obtain ⟨z, w1, w2, e1, e2, R2⟩ := cc_soonest (n' := n') R (by omega) (xs (x3 + 1)) (xs (x3 + 2))
  refine ⟨w2, ?_, R2⟩
  unfold fW_law_1181
  rw [pj_wr_id (x := x3 + 1) (by omega) (by omega), pj_wr_id (x := x3 + 2) (by omega) (by omega), if_pos (show 0 ≤ x3 + 1 ∧ x3 + 1 < sL by omega), if_pos (show 0 ≤ x3 + 2 ∧ x3 + 2 < sL by omega), e1, Option.bind_some, e2, Option.bind_some, if_pos rfl, lg_next h0 (by omega)]
theorem lg_671 (R : pj_REL n w) (hp : 0 ≤ n) (hn : n + 1100000 ≤ n') (hn2 : n' ≤ 1800000000) (hx : lg_ok xs) (h0 : 0 ≤ x3) (h1 : x3 + 6 ≤ sL) (h2 : sL ≤ 3072) : ∃ w', fW_law_671 xs sL x3 w = some (Sum.inl (x3 + 6, w')) ∧ pj_REL n' w' := by
  obtain ⟨z, hx1⟩ : ∃ z, fX_fault (xs (x3 + 1)) w = some z := by
    unfold fX_fault
    by_cases c : xs (x3 + 1) = 0
    · exact ⟨_, by rw [if_pos c]⟩
    · rw [if_neg c]
      by_cases c1 : xs (x3 + 1) = 1
      · exact ⟨_, by rw [if_pos c1]⟩
      · exact ⟨_, by rw [if_neg c1]⟩
  have hm1 : fM_fault (xs (x3 + 1)) w = some z := by rw [← (cc_same R).2.2.2, hx1]
  refine ⟨w, ?_, lg_same R (by omega)⟩
  unfold fW_law_671
  rw [pj_wr_id (x := x3 + 1) (by omega) (by omega), if_pos (show 0 ≤ x3 + 1 ∧ x3 + 1 < sL by omega), hx1, Option.bind_some, hm1, Option.bind_some, if_pos rfl, lg_next h0 (by omega)]
theorem lg_1448 (R : pj_REL n w) (hp : 0 ≤ n) (hn : n + 1100000 ≤ n') (hn2 : n' ≤ 1800000000) (hx : lg_ok xs) (h0 : 0 ≤ x3) (h1 : x3 + 6 ≤ sL) (h2 : sL ≤ 3072) : ∃ w', fW_law_1448 xs sL x3 w = some (Sum.inl (x3 + 6, w')) ∧ pj_REL n' w' := by
  obtain ⟨z, w1, w2, e1, e2, R2⟩ := cc_gulls (n' := n') R (by omega) (xs (x3 + 1))
  refine ⟨w2, ?_, R2⟩
  unfold fW_law_1448
  rw [pj_wr_id (x := x3 + 1) (by omega) (by omega), if_pos (show 0 ≤ x3 + 1 ∧ x3 + 1 < sL by omega), e1, Option.bind_some, e2, Option.bind_some, if_pos rfl, lg_next h0 (by omega)]
theorem lg_1961 (R : pj_REL n w) (hp : 0 ≤ n) (hn : n + 1100000 ≤ n') (hn2 : n' ≤ 1800000000) (hx : lg_ok xs) (h0 : 0 ≤ x3) (h1 : x3 + 6 ≤ sL) (h2 : sL ≤ 3072) : ∃ w', fW_law_1961 xs sL x3 w = some (Sum.inl (x3 + 6, w')) ∧ pj_REL n' w' := by
  obtain ⟨z, w1, w2, e1, e2, R2⟩ := cc_live (n' := n') R hp (by omega) (by omega) (xs (x3 + 1))
  refine ⟨w2, ?_, R2⟩
  unfold fW_law_1961
  rw [pj_wr_id (x := x3 + 1) (by omega) (by omega), if_pos (show 0 ≤ x3 + 1 ∧ x3 + 1 < sL by omega), e1, Option.bind_some, e2, Option.bind_some, if_pos rfl, lg_next h0 (by omega)]
theorem lg_1711 (R : pj_REL n w) (hp : 0 ≤ n) (hn : n + 1100000 ≤ n') (hn2 : n' ≤ 1800000000) (hx : lg_ok xs) (h0 : 0 ≤ x3) (h1 : x3 + 6 ≤ sL) (h2 : sL ≤ 3072) : ∃ w', fW_law_1711 xs sL x3 w = some (Sum.inl (x3 + 6, w')) ∧ pj_REL n' w' := by
  obtain ⟨z, w1, w2, e1, e2, R2⟩ := cc_time (n' := n') R (by omega) (xs (x3 + 1))
  refine ⟨w2, ?_, R2⟩
  unfold fW_law_1711
  rw [pj_wr_id (x := x3 + 1) (by omega) (by omega), if_pos (show 0 ≤ x3 + 1 ∧ x3 + 1 < sL by omega), e1, Option.bind_some, e2, Option.bind_some, if_pos rfl, lg_next h0 (by omega)]
theorem lg_694 (R : pj_REL n w) (hp : 0 ≤ n) (hn : n + 1100000 ≤ n') (hn2 : n' ≤ 1800000000) (hx : lg_ok xs) (h0 : 0 ≤ x3) (h1 : x3 + 6 ≤ sL) (h2 : sL ≤ 3072) : ∃ w', fW_law_694 xs sL x3 w = some (Sum.inl (x3 + 6, w')) ∧ pj_REL n' w' := by
  obtain ⟨z, w1, w2, e1, e2, R2⟩ := cc_told (n' := n') R (by omega) (xs (x3 + 1))
  refine ⟨w2, ?_, R2⟩
  unfold fW_law_694
  rw [pj_wr_id (x := x3 + 1) (by omega) (by omega), if_pos (show 0 ≤ x3 + 1 ∧ x3 + 1 < sL by omega), e1, Option.bind_some, e2, Option.bind_some, if_pos rfl, lg_next h0 (by omega)]
theorem lg_958 (R : pj_REL n w) (hp : 0 ≤ n) (hn : n + 1100000 ≤ n') (hn2 : n' ≤ 1800000000) (hx : lg_ok xs) (h0 : 0 ≤ x3) (h1 : x3 + 6 ≤ sL) (h2 : sL ≤ 3072) : ∃ w', fW_law_958 xs sL x3 w = some (Sum.inl (x3 + 6, w')) ∧ pj_REL n' w' := by
  obtain ⟨z, w1, w2, e1, e2, R2⟩ := cc_gull (n' := n') R (by omega) (xs (x3 + 1)) (xs (x3 + 2))
  refine ⟨w2, ?_, R2⟩
  unfold fW_law_958
  rw [pj_wr_id (x := x3 + 1) (by omega) (by omega), pj_wr_id (x := x3 + 2) (by omega) (by omega), if_pos (show 0 ≤ x3 + 1 ∧ x3 + 1 < sL by omega), if_pos (show 0 ≤ x3 + 2 ∧ x3 + 2 < sL by omega), e1, Option.bind_some, e2, Option.bind_some, if_pos rfl, lg_next h0 (by omega)]
theorem lg_1214 (R : pj_REL n w) (hp : 0 ≤ n) (hn : n + 1100000 ≤ n') (hn2 : n' ≤ 1800000000) (hx : lg_ok xs) (h0 : 0 ≤ x3) (h1 : x3 + 6 ≤ sL) (h2 : sL ≤ 3072) : ∃ w', fW_law_1214 xs sL x3 w = some (Sum.inl (x3 + 6, w')) ∧ pj_REL n' w' := by
  obtain ⟨z, w1, w2, e1, e2, R2⟩ := cc_threat (n' := n') R (by omega) (xs (x3 + 1))
  refine ⟨w2, ?_, R2⟩
  unfold fW_law_1214
  rw [pj_wr_id (x := x3 + 1) (by omega) (by omega), if_pos (show 0 ≤ x3 + 1 ∧ x3 + 1 < sL by omega), e1, Option.bind_some, e2, Option.bind_some, if_pos rfl, lg_next h0 (by omega)]
theorem lg_1471 (R : pj_REL n w) (hp : 0 ≤ n) (hn : n + 1100000 ≤ n') (hn2 : n' ≤ 1800000000) (hx : lg_ok xs) (h0 : 0 ≤ x3) (h1 : x3 + 6 ≤ sL) (h2 : sL ≤ 3072) : ∃ w', fW_law_1471 xs sL x3 w = some (Sum.inl (x3 + 6, w')) ∧ pj_REL n' w' := by
  obtain ⟨z, w1, w2, e1, e2, R2⟩ := cc_walk (n' := n') R (by omega) (xs (x3 + 1)) (xs (x3 + 2))
  refine ⟨w2, ?_, R2⟩
  unfold fW_law_1471
  rw [pj_wr_id (x := x3 + 1) (by omega) (by omega), pj_wr_id (x := x3 + 2) (by omega) (by omega), if_pos (show 0 ≤ x3 + 1 ∧ x3 + 1 < sL by omega), if_pos (show 0 ≤ x3 + 2 ∧ x3 + 2 < sL by omega), e1, Option.bind_some, e2, Option.bind_some, if_pos rfl, lg_next h0 (by omega)]
theorem lg_1984 (R : pj_REL n w) (hp : 0 ≤ n) (hn : n + 1100000 ≤ n') (hn2 : n' ≤ 1800000000) (hx : lg_ok xs) (h0 : 0 ≤ x3) (h1 : x3 + 6 ≤ sL) (h2 : sL ≤ 3072) : ∃ w', fW_law_1984 xs sL x3 w = some (Sum.inl (x3 + 6, w')) ∧ pj_REL n' w' := by
  obtain ⟨z, w1, w2, e1, e2, R2⟩ := cc_lived (n' := n') R (by omega) (xs (x3 + 1))
  refine ⟨w2, ?_, R2⟩
  unfold fW_law_1984
  rw [pj_wr_id (x := x3 + 1) (by omega) (by omega), if_pos (show 0 ≤ x3 + 1 ∧ x3 + 1 < sL by omega), e1, Option.bind_some, e2, Option.bind_some, if_pos rfl, lg_next h0 (by omega)]
theorem lg_1734 (R : pj_REL n w) (hp : 0 ≤ n) (hn : n + 1100000 ≤ n') (hn2 : n' ≤ 1800000000) (hx : lg_ok xs) (h0 : 0 ≤ x3) (h1 : x3 + 6 ≤ sL) (h2 : sL ≤ 3072) : ∃ w', fW_law_1734 xs sL x3 w = some (Sum.inl (x3 + 6, w')) ∧ pj_REL n' w' := by
  obtain ⟨z, w1, w2, e1, e2, R2⟩ := cc_tally (n' := n') R (by omega) (xs (x3 + 1)) (xs (x3 + 2))
  refine ⟨w2, ?_, R2⟩
  unfold fW_law_1734
  rw [pj_wr_id (x := x3 + 1) (by omega) (by omega), pj_wr_id (x := x3 + 2) (by omega) (by omega), if_pos (show 0 ≤ x3 + 1 ∧ x3 + 1 < sL by omega), if_pos (show 0 ≤ x3 + 2 ∧ x3 + 2 < sL by omega), e1, Option.bind_some, e2, Option.bind_some, if_pos rfl, lg_next h0 (by omega)]
theorem lg_717 (R : pj_REL n w) (hp : 0 ≤ n) (hn : n + 1100000 ≤ n') (hn2 : n' ≤ 1800000000) (hx : lg_ok xs) (h0 : 0 ≤ x3) (h1 : x3 + 6 ≤ sL) (h2 : sL ≤ 3072) : ∃ w', fW_law_717 xs sL x3 w = some (Sum.inl (x3 + 6, w')) ∧ pj_REL n' w' := by
  obtain ⟨z, w1, w2, e1, e2, R2⟩ := cc_finder (n' := n') R (by omega) (xs (x3 + 1)) (xs (x3 + 2))
  refine ⟨w2, ?_, R2⟩
  unfold fW_law_717
  rw [pj_wr_id (x := x3 + 1) (by omega) (by omega), pj_wr_id (x := x3 + 2) (by omega) (by omega), if_pos (show 0 ≤ x3 + 1 ∧ x3 + 1 < sL by omega), if_pos (show 0 ≤ x3 + 2 ∧ x3 + 2 < sL by omega), e1, Option.bind_some, e2, Option.bind_some, if_pos rfl, lg_next h0 (by omega)]
theorem lg_465 (R : pj_REL n w) (hp : 0 ≤ n) (hn : n + 1100000 ≤ n') (hn2 : n' ≤ 1800000000) (hx : lg_ok xs) (h0 : 0 ≤ x3) (h1 : x3 + 6 ≤ sL) (h2 : sL ≤ 3072) : ∃ w', fW_law_465 xs sL x3 w = some (Sum.inl (x3 + 6, w')) ∧ pj_REL n' w' := by
  obtain ⟨z, w1, w2, e1, e2, R2⟩ := cc_read (n' := n') R (by omega) (xs (x3 + 1)) (xs (x3 + 2))
  refine ⟨w2, ?_, R2⟩
  unfold fW_law_465
  rw [pj_wr_id (x := x3 + 1) (by omega) (by omega), pj_wr_id (x := x3 + 2) (by omega) (by omega), if_pos (show 0 ≤ x3 + 1 ∧ x3 + 1 < sL by omega), if_pos (show 0 ≤ x3 + 2 ∧ x3 + 2 < sL by omega), e1, Option.bind_some, e2, Option.bind_some, if_pos (pj_cmp_eq.mpr rfl), lg_next h0 (by omega)]
theorem lg_1237 (R : pj_REL n w) (hp : 0 ≤ n) (hn : n + 1100000 ≤ n') (hn2 : n' ≤ 1800000000) (hx : lg_ok xs) (h0 : 0 ≤ x3) (h1 : x3 + 6 ≤ sL) (h2 : sL ≤ 3072) : ∃ w', fW_law_1237 xs sL x3 w = some (Sum.inl (x3 + 6, w')) ∧ pj_REL n' w' := by
  obtain ⟨z, w1, w2, e1, e2, R2⟩ := cc_best (n' := n') R (by omega) (xs (x3 + 1))
  refine ⟨w2, ?_, R2⟩
  unfold fW_law_1237
  rw [pj_wr_id (x := x3 + 1) (by omega) (by omega), if_pos (show 0 ≤ x3 + 1 ∧ x3 + 1 < sL by omega), e1, Option.bind_some, e2, Option.bind_some, if_pos rfl, lg_next h0 (by omega)]
theorem lg_2007 (R : pj_REL n w) (hp : 0 ≤ n) (hn : n + 1100000 ≤ n') (hn2 : n' ≤ 1800000000) (hx : lg_ok xs) (h0 : 0 ≤ x3) (h1 : x3 + 6 ≤ sL) (h2 : sL ≤ 3072) : ∃ w', fW_law_2007 xs sL x3 w = some (Sum.inl (x3 + 6, w')) ∧ pj_REL n' w' := by
  obtain ⟨z, w1, w2, e1, e2, R2⟩ := cc_mean (n' := n') R hp (by omega) (by omega) (xs (x3 + 1)) (xs (x3 + 2)) (xs (x3 + 3)) (hx _).1
  refine ⟨w2, ?_, R2⟩
  unfold fW_law_2007
  rw [pj_wr_id (x := x3 + 1) (by omega) (by omega), pj_wr_id (x := x3 + 2) (by omega) (by omega), pj_wr_id (x := x3 + 3) (by omega) (by omega), if_pos (show 0 ≤ x3 + 1 ∧ x3 + 1 < sL by omega), if_pos (show 0 ≤ x3 + 2 ∧ x3 + 2 < sL by omega), if_pos (show 0 ≤ x3 + 3 ∧ x3 + 3 < sL by omega), e1, Option.bind_some, e2, Option.bind_some, if_pos rfl, lg_next h0 (by omega)]
theorem lg_991 (R : pj_REL n w) (hp : 0 ≤ n) (hn : n + 1100000 ≤ n') (hn2 : n' ≤ 1800000000) (hx : lg_ok xs) (h0 : 0 ≤ x3) (h1 : x3 + 6 ≤ sL) (h2 : sL ≤ 3072) : ∃ w', fW_law_991 xs sL x3 w = some (Sum.inl (x3 + 6, w')) ∧ pj_REL n' w' := by
  obtain ⟨z, w1, w2, e1, e2, R2⟩ := cc_wave (n' := n') R (by omega) (xs (x3 + 1))
  refine ⟨w2, ?_, R2⟩
  unfold fW_law_991
  rw [pj_wr_id (x := x3 + 1) (by omega) (by omega), if_pos (show 0 ≤ x3 + 1 ∧ x3 + 1 < sL by omega), e1, Option.bind_some, e2, Option.bind_some, if_pos rfl, lg_next h0 (by omega)]
theorem lg_1504 (R : pj_REL n w) (hp : 0 ≤ n) (hn : n + 1100000 ≤ n') (hn2 : n' ≤ 1800000000) (hx : lg_ok xs) (h0 : 0 ≤ x3) (h1 : x3 + 6 ≤ sL) (h2 : sL ≤ 3072) : ∃ w', fW_law_1504 xs sL x3 w = some (Sum.inl (x3 + 6, w')) ∧ pj_REL n' w' := by
  obtain ⟨z, w1, w2, e1, e2, R2⟩ := cc_gain (n' := n') R (by omega) (xs (x3 + 1)) (xs (x3 + 2))
  refine ⟨w2, ?_, R2⟩
  unfold fW_law_1504
  rw [pj_wr_id (x := x3 + 1) (by omega) (by omega), pj_wr_id (x := x3 + 2) (by omega) (by omega), if_pos (show 0 ≤ x3 + 1 ∧ x3 + 1 < sL by omega), if_pos (show 0 ≤ x3 + 2 ∧ x3 + 2 < sL by omega), e1, Option.bind_some, e2, Option.bind_some, if_pos rfl, lg_next h0 (by omega)]
theorem lg_1767 (R : pj_REL n w) (hp : 0 ≤ n) (hn : n + 1100000 ≤ n') (hn2 : n' ≤ 1800000000) (hx : lg_ok xs) (h0 : 0 ≤ x3) (h1 : x3 + 6 ≤ sL) (h2 : sL ≤ 3072) : ∃ w', fW_law_1767 xs sL x3 w = some (Sum.inl (x3 + 6, w')) ∧ pj_REL n' w' := by
  obtain ⟨z, w1, w2, e1, e2, R2⟩ := cc_busiest (n' := n') R (by omega) 
  refine ⟨w2, ?_, R2⟩
  unfold fW_law_1767
  rw [e1, Option.bind_some, e2, Option.bind_some, if_pos rfl, lg_next h0 (by omega)]
theorem lg_1260 (R : pj_REL n w) (hp : 0 ≤ n) (hn : n + 1100000 ≤ n') (hn2 : n' ≤ 1800000000) (hx : lg_ok xs) (h0 : 0 ≤ x3) (h1 : x3 + 6 ≤ sL) (h2 : sL ≤ 3072) : ∃ w', fW_law_1260 xs sL x3 w = some (Sum.inl (x3 + 6, w')) ∧ pj_REL n' w' := by
  obtain ⟨z, w1, w2, e1, e2, R2⟩ := cc_bestAt (n' := n') R (by omega) (xs (x3 + 1))
  refine ⟨w2, ?_, R2⟩
  unfold fW_law_1260
  rw [pj_wr_id (x := x3 + 1) (by omega) (by omega), if_pos (show 0 ≤ x3 + 1 ∧ x3 + 1 < sL by omega), e1, Option.bind_some, e2, Option.bind_some, if_pos rfl, lg_next h0 (by omega)]
theorem lg_750 (R : pj_REL n w) (hp : 0 ≤ n) (hn : n + 1100000 ≤ n') (hn2 : n' ≤ 1800000000) (hx : lg_ok xs) (h0 : 0 ≤ x3) (h1 : x3 + 6 ≤ sL) (h2 : sL ≤ 3072) : ∃ w', fW_law_750 xs sL x3 w = some (Sum.inl (x3 + 6, w')) ∧ pj_REL n' w' := by
  obtain ⟨z, w1, w2, e1, e2, R2⟩ := cc_find (n' := n') R (by omega) (xs (x3 + 1)) (xs (x3 + 2))
  refine ⟨w2, ?_, R2⟩
  unfold fW_law_750
  rw [pj_wr_id (x := x3 + 1) (by omega) (by omega), pj_wr_id (x := x3 + 2) (by omega) (by omega), if_pos (show 0 ≤ x3 + 1 ∧ x3 + 1 < sL by omega), if_pos (show 0 ≤ x3 + 2 ∧ x3 + 2 < sL by omega), e1, Option.bind_some, e2, Option.bind_some, if_pos rfl, lg_next h0 (by omega)]
theorem lg_499 (R : pj_REL n w) (hp : 0 ≤ n) (hn : n + 1100000 ≤ n') (hn2 : n' ≤ 1800000000) (hx : lg_ok xs) (h0 : 0 ≤ x3) (h1 : x3 + 6 ≤ sL) (h2 : sL ≤ 3072) : ∃ w', fW_law_499 xs sL x3 w = some (Sum.inl (x3 + 6, w')) ∧ pj_REL n' w' := by
  obtain ⟨z, w1, w2, e1, e2, R2⟩ := cc_pour (n' := n') R (by omega) (xs (x3 + 1)) (xs (x3 + 2)) (xs (x3 + 3)) (xs (x3 + 4)) (xs (x3 + 5)) (hx _).2 (hx _).2 (hx _).2
  refine ⟨w2, ?_, R2⟩
  unfold fW_law_499
  rw [pj_wr_id (x := x3 + 1) (by omega) (by omega), pj_wr_id (x := x3 + 2) (by omega) (by omega), pj_wr_id (x := x3 + 3) (by omega) (by omega), pj_wr_id (x := x3 + 4) (by omega) (by omega), pj_wr_id (x := x3 + 5) (by omega) (by omega), if_pos (show 0 ≤ x3 + 1 ∧ x3 + 1 < sL by omega), if_pos (show 0 ≤ x3 + 2 ∧ x3 + 2 < sL by omega), if_pos (show 0 ≤ x3 + 3 ∧ x3 + 3 < sL by omega), if_pos (show 0 ≤ x3 + 4 ∧ x3 + 4 < sL by omega), if_pos (show 0 ≤ x3 + 5 ∧ x3 + 5 < sL by omega), e1, Option.bind_some, e2, Option.bind_some, if_pos rfl, lg_next h0 (by omega)]
theorem lg_1780 (R : pj_REL n w) (hp : 0 ≤ n) (hn : n + 1100000 ≤ n') (hn2 : n' ≤ 1800000000) (hx : lg_ok xs) (h0 : 0 ≤ x3) (h1 : x3 + 6 ≤ sL) (h2 : sL ≤ 3072) : ∃ w', fW_law_1780 xs sL x3 w = some (Sum.inl (x3 + 6, w')) ∧ pj_REL n' w' := by
  obtain ⟨z, w1, w2, e1, e2, R2⟩ := cc_both (n' := n') R (by omega) (xs (x3 + 1)) (xs (x3 + 2)) (xs (x3 + 3))
  refine ⟨w2, ?_, R2⟩
  unfold fW_law_1780
  rw [pj_wr_id (x := x3 + 1) (by omega) (by omega), pj_wr_id (x := x3 + 2) (by omega) (by omega), pj_wr_id (x := x3 + 3) (by omega) (by omega), if_pos (show 0 ≤ x3 + 1 ∧ x3 + 1 < sL by omega), if_pos (show 0 ≤ x3 + 2 ∧ x3 + 2 < sL by omega), if_pos (show 0 ≤ x3 + 3 ∧ x3 + 3 < sL by omega), e1, Option.bind_some, e2, Option.bind_some, if_pos rfl, lg_next h0 (by omega)]
theorem lg_1014 (R : pj_REL n w) (hp : 0 ≤ n) (hn : n + 1100000 ≤ n') (hn2 : n' ≤ 1800000000) (hx : lg_ok xs) (h0 : 0 ≤ x3) (h1 : x3 + 6 ≤ sL) (h2 : sL ≤ 3072) : ∃ w', fW_law_1014 xs sL x3 w = some (Sum.inl (x3 + 6, w')) ∧ pj_REL n' w' := by
  obtain ⟨z, w1, w2, e1, e2, R2⟩ := cc_tide (n' := n') R (by omega) 
  refine ⟨w2, ?_, R2⟩
  unfold fW_law_1014
  rw [e1, Option.bind_some, e2, Option.bind_some, if_pos rfl, lg_next h0 (by omega)]
theorem lg_body (R : pj_REL n w) (hp : 0 ≤ n) (hn : n + 1100000 ≤ n') (hn2 : n' ≤ 1800000000) (hx : lg_ok xs) (h0 : 0 ≤ x3) (h1 : x3 + 6 ≤ sL) (h2 : sL ≤ 3072) : ∃ w', fW_law_18b xs sL x3 w = some (Sum.inl (x3 + 6, w')) ∧ pj_REL n' w' := by
  unfold fW_law_18b
  rw [pj_wr_id (x := sL - 6) (by omega) (by omega), if_neg (show ¬ sL - 6 < x3 by omega), if_pos (show 0 ≤ x3 ∧ x3 < sL by omega)]
  generalize pj_and (xs x3) 127 = z
  by_cases c0 : z = 0
  · rw [if_pos c0]; exact lg_308 R hp hn hn2 hx h0 h1 h2
  rw [if_neg c0]
  by_cases c1 : z = 1
  · rw [if_pos c1]; exact lg_321 R hp hn hn2 hx h0 h1 h2
  rw [if_neg c1]
  by_cases c2 : z = 2
  · rw [if_pos c2]; exact lg_335 R hp hn hn2 hx h0 h1 h2
  rw [if_neg c2]
  by_cases c3 : z = 3
  · rw [if_pos c3]; exact lg_349 R hp hn hn2 hx h0 h1 h2
  rw [if_neg c3]
  by_cases c4 : z = 4
  · rw [if_pos c4]; exact lg_392 R hp hn hn2 hx h0 h1 h2
  rw [if_neg c4]
  by_cases c5 : z = 5
  · rw [if_pos c5]; exact lg_465 R hp hn hn2 hx h0 h1 h2
  rw [if_neg c5]
  by_cases c6 : z = 6
  · rw [if_pos c6]; exact lg_499 R hp hn hn2 hx h0 h1 h2
  rw [if_neg c6]
  by_cases c7 : z = 7
  · rw [if_pos c7]; exact lg_562 R hp hn hn2 hx h0 h1 h2
  rw [if_neg c7]
  by_cases c8 : z = 8
  · rw [if_pos c8]; exact lg_625 R hp hn hn2 hx h0 h1 h2
  rw [if_neg c8]
  by_cases c9 : z = 9
  · rw [if_pos c9]; exact lg_648 R hp hn hn2 hx h0 h1 h2
  rw [if_neg c9]
  by_cases c10 : z = 10
  · rw [if_pos c10]; exact lg_671 R hp hn hn2 hx h0 h1 h2
  rw [if_neg c10]
  by_cases c11 : z = 11
  · rw [if_pos c11]; exact lg_694 R hp hn hn2 hx h0 h1 h2
  rw [if_neg c11]
  by_cases c12 : z = 12
  · rw [if_pos c12]; exact lg_717 R hp hn hn2 hx h0 h1 h2
  rw [if_neg c12]
  by_cases c13 : z = 13
  · rw [if_pos c13]; exact lg_750 R hp hn hn2 hx h0 h1 h2
  rw [if_neg c13]
  by_cases c14 : z = 14
  · rw [if_pos c14]; exact lg_783 R hp hn hn2 hx h0 h1 h2
  rw [if_neg c14]
  by_cases c15 : z = 15
  · rw [if_pos c15]; exact lg_826 R hp hn hn2 hx h0 h1 h2
  rw [if_neg c15]
  by_cases c16 : z = 16
  · rw [if_pos c16]; exact lg_859 R hp hn hn2 hx h0 h1 h2
  rw [if_neg c16]
  by_cases c17 : z = 17
  · rw [if_pos c17]; exact lg_892 R hp hn hn2 hx h0 h1 h2
  rw [if_neg c17]
  by_cases c18 : z = 18
  · rw [if_pos c18]; exact lg_925 R hp hn hn2 hx h0 h1 h2
  rw [if_neg c18]
  by_cases c19 : z = 19
  · rw [if_pos c19]; exact lg_958 R hp hn hn2 hx h0 h1 h2
  rw [if_neg c19]
  by_cases c20 : z = 20
  · rw [if_pos c20]; exact lg_991 R hp hn hn2 hx h0 h1 h2
  rw [if_neg c20]
  by_cases c21 : z = 21
  · rw [if_pos c21]; exact lg_1014 R hp hn hn2 hx h0 h1 h2
  rw [if_neg c21]
  by_cases c22 : z = 22
  · rw [if_pos c22]; exact lg_1027 R hp hn hn2 hx h0 h1 h2
  rw [if_neg c22]
  by_cases c23 : z = 23
  · rw [if_pos c23]; exact lg_1040 R hp hn hn2 hx h0 h1 h2
  rw [if_neg c23]
  by_cases c24 : z = 24
  · rw [if_pos c24]; exact lg_1063 R hp hn hn2 hx h0 h1 h2
  rw [if_neg c24]
  by_cases c25 : z = 25
  · rw [if_pos c25]; exact lg_1086 R hp hn hn2 hx h0 h1 h2
  rw [if_neg c25]
  by_cases c26 : z = 26
  · rw [if_pos c26]; exact lg_1109 R hp hn hn2 hx h0 h1 h2
  rw [if_neg c26]
  by_cases c27 : z = 27
  · rw [if_pos c27]; exact lg_1122 R hp hn hn2 hx h0 h1 h2
  rw [if_neg c27]
  by_cases c28 : z = 28
  · rw [if_pos c28]; exact lg_1135 R hp hn hn2 hx h0 h1 h2
  rw [if_neg c28]
  by_cases c29 : z = 29
  · rw [if_pos c29]; exact lg_1158 R hp hn hn2 hx h0 h1 h2
  rw [if_neg c29]
  by_cases c30 : z = 30
  · rw [if_pos c30]; exact lg_1181 R hp hn hn2 hx h0 h1 h2
  rw [if_neg c30]
  by_cases c31 : z = 31
  · rw [if_pos c31]; exact lg_1214 R hp hn hn2 hx h0 h1 h2
  rw [if_neg c31]
  by_cases c32 : z = 32
  · rw [if_pos c32]; exact lg_1237 R hp hn hn2 hx h0 h1 h2
  rw [if_neg c32]
  by_cases c33 : z = 33
  · rw [if_pos c33]; exact lg_1260 R hp hn hn2 hx h0 h1 h2
  rw [if_neg c33]
  by_cases c34 : z = 34
  · rw [if_pos c34]; exact lg_1283 R hp hn hn2 hx h0 h1 h2
  rw [if_neg c34]
  by_cases c35 : z = 35
  · rw [if_pos c35]; exact lg_1316 R hp hn hn2 hx h0 h1 h2
  rw [if_neg c35]
  by_cases c36 : z = 36
  · rw [if_pos c36]; exact lg_1349 R hp hn hn2 hx h0 h1 h2
  rw [if_neg c36]
  by_cases c37 : z = 37
  · rw [if_pos c37]; exact lg_1372 R hp hn hn2 hx h0 h1 h2
  rw [if_neg c37]
  by_cases c38 : z = 38
  · rw [if_pos c38]; exact lg_1405 R hp hn hn2 hx h0 h1 h2
  rw [if_neg c38]
  by_cases c39 : z = 39
  · rw [if_pos c39]; exact lg_1448 R hp hn hn2 hx h0 h1 h2
  rw [if_neg c39]
  by_cases c40 : z = 40
  · rw [if_pos c40]; exact lg_1471 R hp hn hn2 hx h0 h1 h2
  rw [if_neg c40]
  by_cases c41 : z = 41
  · rw [if_pos c41]; exact lg_1504 R hp hn hn2 hx h0 h1 h2
  rw [if_neg c41]
  by_cases c42 : z = 42
  · rw [if_pos c42]; exact lg_1537 R hp hn hn2 hx h0 h1 h2
  rw [if_neg c42]
  by_cases c43 : z = 43
  · rw [if_pos c43]; exact lg_1560 R hp hn hn2 hx h0 h1 h2
  rw [if_neg c43]
  by_cases c44 : z = 44
  · rw [if_pos c44]; exact lg_1583 R hp hn hn2 hx h0 h1 h2
  rw [if_neg c44]
  by_cases c45 : z = 45
  · rw [if_pos c45]; exact lg_1616 R hp hn hn2 hx h0 h1 h2
  rw [if_neg c45]
  by_cases c46 : z = 46
  · rw [if_pos c46]; exact lg_1629 R hp hn hn2 hx h0 h1 h2
  rw [if_neg c46]
  by_cases c47 : z = 47
  · rw [if_pos c47]; exact lg_1652 R hp hn hn2 hx h0 h1 h2
  rw [if_neg c47]
  by_cases c48 : z = 48
  · rw [if_pos c48]; exact lg_1675 R hp hn hn2 hx h0 h1 h2
  rw [if_neg c48]
  by_cases c49 : z = 49
  · rw [if_pos c49]; exact lg_1688 R hp hn hn2 hx h0 h1 h2
  rw [if_neg c49]
  by_cases c50 : z = 50
  · rw [if_pos c50]; exact lg_1711 R hp hn hn2 hx h0 h1 h2
  rw [if_neg c50]
  by_cases c51 : z = 51
  · rw [if_pos c51]; exact lg_1734 R hp hn hn2 hx h0 h1 h2
  rw [if_neg c51]
  by_cases c52 : z = 52
  · rw [if_pos c52]; exact lg_1767 R hp hn hn2 hx h0 h1 h2
  rw [if_neg c52]
  by_cases c53 : z = 53
  · rw [if_pos c53]; exact lg_1780 R hp hn hn2 hx h0 h1 h2
  rw [if_neg c53]
  by_cases c54 : z = 54
  · rw [if_pos c54]; exact lg_1823 R hp hn hn2 hx h0 h1 h2
  rw [if_neg c54]
  by_cases c55 : z = 55
  · rw [if_pos c55]; exact lg_1836 R hp hn hn2 hx h0 h1 h2
  rw [if_neg c55]
  by_cases c56 : z = 56
  · rw [if_pos c56]; exact lg_1859 R hp hn hn2 hx h0 h1 h2
  rw [if_neg c56]
  by_cases c57 : z = 57
  · rw [if_pos c57]; exact lg_1872 R hp hn hn2 hx h0 h1 h2
  rw [if_neg c57]
  by_cases c58 : z = 58
  · rw [if_pos c58]; exact lg_1905 R hp hn hn2 hx h0 h1 h2
  rw [if_neg c58]
  by_cases c59 : z = 59
  · rw [if_pos c59]; exact lg_1928 R hp hn hn2 hx h0 h1 h2
  rw [if_neg c59]
  by_cases c60 : z = 60
  · rw [if_pos c60]; exact lg_1961 R hp hn hn2 hx h0 h1 h2
  rw [if_neg c60]
  by_cases c61 : z = 61
  · rw [if_pos c61]; exact lg_1984 R hp hn hn2 hx h0 h1 h2
  rw [if_neg c61]
  by_cases c62 : z = 62
  · rw [if_pos c62]; exact lg_2007 R hp hn hn2 hx h0 h1 h2
  rw [if_neg c62]
  by_cases c63 : z = 63
  · rw [if_pos c63]; exact lg_2050 R hp hn hn2 hx h0 h1 h2
  rw [if_neg c63]
  by_cases c64 : z = 64
  · rw [if_pos c64]; exact lg_2063 R hp hn hn2 hx h0 h1 h2
  rw [if_neg c64]
  exact ⟨w, lg_next h0 (by omega), lg_same R (by omega)⟩
/-- all calls of the law -/
theorem lg_all (hx : lg_ok xs) (h00 : 0 ≤ sL) (h2 : sL ≤ 3072) : ∀ m : Nat, ∀ (k : Nat) (w : pj_W), sL - 6 * (k : Int) ≤ m → pj_REL (1100000 * (k : Int)) w → 0 ≤ 6 * (k : Int) → ∃ wf, fW_law_18 xs sL (6 * (k : Int), w) = some (1, wf) := by
  intro m
  induction m with
  | zero =>
    intro k w hm R hk
    refine ⟨w, ?_⟩
    unfold fW_law_18
    refine pj_Lp_end ?_
    show fW_law_18b xs sL (6 * (k : Int)) w = _
    unfold fW_law_18b
    rw [pj_wr_id (x := sL - 6) (by omega) (by omega), if_pos (by omega)]
  | succ m ih =>
    intro k w hm R hk
    by_cases c : sL - 6 < 6 * (k : Int)
    · refine ⟨w, ?_⟩
      unfold fW_law_18
      refine pj_Lp_end ?_
      show fW_law_18b xs sL (6 * (k : Int)) w = _
      unfold fW_law_18b
      rw [pj_wr_id (x := sL - 6) (by omega) (by omega), if_pos c]
    · obtain ⟨w', e, R2⟩ := lg_body (n' := 1100000 * ((k + 1 : Nat) : Int)) R (by omega) (by omega) (by omega) hx hk (by omega) h2
      obtain ⟨wf, e2⟩ := ih (k + 1) w' (by omega) R2 (by omega)
      refine ⟨wf, ?_⟩
      rw [← e2]
      unfold fW_law_18
      refine pj_Lp_st ?_
      show fW_law_18b xs sL (6 * (k : Int)) w = _
      rw [e, show 6 * (k : Int) + 6 = 6 * ((k + 1 : Nat) : Int) by omega]
end
