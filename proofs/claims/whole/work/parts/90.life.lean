/-! A LIFE, in the model -/
section
variable {A0 : pj_Q} {W F S T P : Int → Int}
theorem m_ends_no {k s : Int} {A : pj_Q} {D : Int} {C L : pj_Q} (hk : 0 ≤ k) (hk2 : k ≤ 60) (h : A 9 ≤ k ∨ A (1030 + 6 * k) ≠ 26) (u : pj_W) : fM_behindEnds_2 (k, mw u s A D C L) = some (k, mw u s A D C L) := by
  have h6 : mw u s A D C L 60 0 = A := mw_60
  refine pj_Lp_end ?_
  dsimp only
  unfold fM_behindEnds_2b
  rw [h6, pj_wr_id (x := 6 * k) (by omega) (by omega), pj_wr_id (x := 1030 + 6 * k) (by omega) (by omega)]
  by_cases c : A 9 ≤ k
  · rw [if_pos c]
  · rw [if_neg c, if_pos (by omega), if_neg (by omega)]
theorem m_step {k s : Int} {A : pj_Q} {D : Int} {C L : pj_Q} (h : lf_ok A0 W F S T P (k, s, A, D, C, L)) (c1 : k < A 9) (c2 : A (1030 + 6 * k) ≠ 26) (c3 : s ≠ 300) (c4 : A (1030 + 6 * k) ≠ 27) (u : pj_W) :
    fM_lives_32b k (mw u s A D C L) = (fM_behindEnds (lf_zk k A) (mw u (s + 1) (lf_zd k A D C).1 (lf_zd k A D C).2.1 (lf_zd k A D C).2.2 (lf_zL k A L))).bind fun p1 => some (Sum.inl (p1.1, p1.2)) := by
  obtain ⟨I, K, kd, hD, hC, hL, hk, hs, hr⟩ := h
  dsimp only at I K kd hD hC hL hk hs hr
  have h60 := hr.1
  have hrow := hr.2 k hk.1 c1
  have hrk := lf_row_k hrow
  obtain ⟨y, C1, e, eC⟩ := m_does (u := u) (s := s + 1) (L := L) I K hD.1 hD.2 hk.1 (by omega) (hC 0 (by decide) (by decide)) hrow
  obtain ⟨I', K', kd', hD', hC'⟩ := lf_deed_ok I K hD hC (A (1030 + 6 * k)) (A (1030 + 6 * k + 1)) (A (1030 + 6 * k + 2))
  have r0 : ∀ j, 1030 ≤ j → (lf_zd k A D C).1 j = A j := fun j hj => kd' j (by omega)
  have hZ : lf_deed A D C (A (1030 + 6 * k)) (A (1030 + 6 * k + 1)) (A (1030 + 6 * k + 2)) = lf_zd k A D C := rfl
  rw [hZ] at e eC
  have h6 : mw u s A D C L 60 0 = A := mw_60
  have h6' : mw u (s + 1) A D C L 60 0 = A := mw_60
  have hq6 : ∀ C L, mw u (s + 1) (lf_zd k A D C).1 (lf_zd k A D C).2.1 C L 60 0 = (lf_zd k A D C).1 := fun _ _ => mw_60
  unfold fM_lives_32b
  rw [h6, pj_wr_id (x := 6 * k) (by omega) (by omega), pj_wr_id (x := 1030 + 6 * k) (by omega) (by omega), if_neg (by omega), mw_s, if_neg c3, if_pos (by omega), pj_wr_id (x := s + 1) (by omega) (by omega), mw_ss, h6', if_neg c4, e, Option.bind_some]
  dsimp only
  rw [mw_73]
  unfold fM_lives_112
  rw [if_pos (by omega), if_pos (by omega), mw_s73, eC]
  have g6 : ∀ L, mw u (s + 1) (lf_zd k A D C).1 (lf_zd k A D C).2.1 (lf_zd k A D C).2.2 L 60 0 = (lf_zd k A D C).1 := fun _ => mw_60
  have h141 : ∀ L', fM_lives_141 k (1030 + 6 * k) (mw u (s + 1) (lf_zd k A D C).1 (lf_zd k A D C).2.1 (lf_zd k A D C).2.2 L') = (fM_behindEnds (lf_zk k A) (mw u (s + 1) (lf_zd k A D C).1 (lf_zd k A D C).2.1 (lf_zd k A D C).2.2 L')).bind fun p1 => some (Sum.inl (p1.1, p1.2)) := fun L' => by
    unfold fM_lives_141 fM_lives_175 fM_lives_178
    rw [if_pos (by omega), g6, r0 _ (by omega), pj_wr_id (x := k + 1) (by omega) (by omega)]
    by_cases d1 : A (1030 + 6 * k) < 2400
    · have hz : lf_zk k A = k + 1 := by unfold lf_zk; rw [if_neg (by omega)]
      rw [if_pos d1, hz]
    · have hd : lf_zd k A D C = (A, D, C) := by
        unfold lf_zd lf_deed
        rw [if_neg (by omega), if_neg (by omega), if_neg (by omega), if_neg (by omega), if_neg (by omega), if_neg (by omega), if_neg (by omega)]
      have ht := hrk.2.2.2.2.2 (by omega)
      rw [if_neg d1, hd]
      dsimp only
      rw [m_holds I hk.1 (by omega) (by omega) hrow, Option.bind_some]
      by_cases d2 : lf_hv A (A (1030 + 6 * k)) (A (1030 + 6 * k + 1)) (A (1030 + 6 * k + 2)) (A (1030 + 6 * k + 5)) = 0
      · have hz : lf_zk k A = A (1030 + 6 * k + 4) + 1 := by unfold lf_zk; rw [if_pos ⟨by omega, d2⟩]
        rw [if_pos d2, pj_wr_id (x := 1030 + 6 * k + 4) (by omega) (by omega), if_pos (by omega), pj_wr_id (x := A (1030 + 6 * k + 4) + 1) (by omega) (by omega), hz]
      · have hz : lf_zk k A = k + 1 := by unfold lf_zk; rw [if_neg (fun x => d2 x.2)]
        rw [if_neg d2, hz]
  by_cases d3 : A (1030 + 6 * k) = 25
  · have hz : lf_zL k A L = q_up L k (A (1030 + 6 * k + 1) - 1) := by unfold lf_zL; rw [if_pos d3]
    have hf := hrk.2.2.2.2.1 d3
    rw [g6, r0 _ (by omega), if_pos d3, pj_wr_id (x := 1030 + 6 * k + 1) (by omega) (by omega), if_pos (by omega), if_pos (by omega), r0 _ (by omega), Option.bind_some, mw_s72, pj_wr_id (x := A (1030 + 6 * k + 1) - 1) (by omega) (by omega), h141, hz]
  · have hz : lf_zL k A L = L := by unfold lf_zL; rw [if_neg d3]
    rw [g6, r0 _ (by omega), if_neg d3, h141, hz]
/-- a life's end, in the model -/
theorem m_life (p : Nat) : ∀ (k s : Int) (A : pj_Q) (D : Int) (C L : pj_Q), lf_ok A0 W F S T P (k, s, A, D, C, L) → lf_P (k, s, A, D, C, L) < p → ∀ u : pj_W,
    ∃ c' : pj_cf, pj_Lp lf_fl (k, s, A, D, C, L) = some c' ∧ lf_ok A0 W F S T P c' ∧ (fM_behindEnds_2 (k, mw u s A D C L)).bind (fun r => fM_lives_32 r) = some (mw u c'.2.1 c'.2.2.1 c'.2.2.2.1 c'.2.2.2.2.1 c'.2.2.2.2.2) := by
  induction p with
  | zero =>
    intro k s A D C L h hp u
    have := (lf_P_in h).1
    omega
  | succ p ih =>
    intro k s A D C L h hp u
    have hk := h.2.2.2.2.2.2.1
    have hs := h.2.2.2.2.2.2.2.1
    have h60 := h.2.2.2.2.2.2.2.2.1
    have hC := h.2.2.2.2.1
    dsimp only at hk hs h60 hC
    have h6 : mw u s A D C L 60 0 = A := mw_60
    have wr1 : pj_wr (1030 + pj_wr (6 * k)) = 1030 + 6 * k := by rw [pj_wr_id (x := 6 * k) (by omega) (by omega), pj_wr_id (x := 1030 + 6 * k) (by omega) (by omega)]
    by_cases c1 : A 9 ≤ k
    · refine ⟨(k, s, A, D, C, L), pj_Lp_end ?_, h, ?_⟩
      · show lf_flb k s A D C L = _
        unfold lf_flb
        rw [if_pos c1]
      · rw [m_ends_no hk.1 (by omega) (Or.inl c1), Option.bind_some]
        refine pj_Lp_end ?_
        dsimp only
        unfold fM_lives_32b
        rw [h6, if_pos c1]
    by_cases c2 : A (1030 + 6 * k) = 26
    · obtain ⟨k', L', e, eE⟩ := m_ends_st h (by omega) c2 u
      obtain ⟨h', hP⟩ := lf_step h e
      obtain ⟨c', a1, a2, a3⟩ := ih _ _ _ _ _ _ h' (by omega) u
      exact ⟨c', (pj_Lp_st e).trans a1, a2, by rw [eE]; exact a3⟩
    have hno := m_ends_no (D := D) (C := C) (L := L) (s := s) hk.1 (by omega) (Or.inr c2) u
    by_cases c3 : s = 300
    · refine ⟨(k, s, A, D, q_up C 4 1, L), pj_Lp_end ?_, ?_, ?_⟩
      · show lf_flb k s A D C L = _
        unfold lf_flb
        rw [if_neg c1, if_neg c2, if_pos c3]
      · obtain ⟨b1, b2, b3, b4, b5, b6⟩ := h
        refine ⟨b1, b2, b3, b4, fun i i0 i1 => ?_, b6⟩
        show -2147483648 ≤ q_up C 4 1 i ∧ q_up C 4 1 i < 2147483648
        unfold q_up
        split
        · decide
        · exact hC i i0 i1
      · rw [hno, Option.bind_some]
        refine pj_Lp_end ?_
        dsimp only
        unfold fM_lives_32b
        rw [h6, if_neg c1, mw_s, if_pos c3, mw_s73]
    by_cases c4 : A (1030 + 6 * k) = 27
    · refine ⟨(k, s + 1, A, D, C, L), pj_Lp_end ?_, ?_, ?_⟩
      · show lf_flb k s A D C L = _
        unfold lf_flb
        rw [if_neg c1, if_neg c2, if_neg c3, if_pos c4]
      · obtain ⟨b1, b2, b3, b4, b5, b6, b7, b8, b9⟩ := h
        exact ⟨b1, b2, b3, b4, b5, b6, b7, ⟨by dsimp only; omega, by dsimp only; omega⟩, b9⟩
      · have h6' : mw u (s + 1) A D C L 60 0 = A := mw_60
        rw [hno, Option.bind_some]
        refine pj_Lp_end ?_
        dsimp only
        unfold fM_lives_32b
        rw [h6, wr1, if_neg c1, mw_s, if_neg c3, if_pos (by omega), pj_wr_id (x := s + 1) (by omega) (by omega), mw_ss, h6', if_pos c4]
    have e : lf_flb k s A D C L = some (Sum.inl (lf_zk k A, s + 1, (lf_zd k A D C).1, (lf_zd k A D C).2.1, (lf_zd k A D C).2.2, lf_zL k A L)) := by
      unfold lf_flb
      rw [if_neg c1, if_neg c2, if_neg c3, if_neg c4]
    obtain ⟨h', hP⟩ := lf_step h e
    obtain ⟨c', a1, a2, a3⟩ := ih _ _ _ _ _ _ h' (by omega) u
    refine ⟨c', (pj_Lp_st e).trans a1, a2, ?_⟩
    obtain ⟨r, hr, hr2⟩ := Option.bind_eq_some_iff.mp a3
    rw [hno, Option.bind_some, ← hr2]
    refine pj_Lp_st ?_
    dsimp only
    rw [m_step h (by omega) c2 c3 c4 u]
    unfold fM_behindEnds
    rw [hr]; rfl
end
/-- a life of the model -/
theorem m_lives {A : pj_Q} {W F S T P : Int → Int} (I : pj_IV A) (K : pj_IK A) (h9 : 0 ≤ A 9) (hr : lf_rows A W F S T P) {L : pj_Q} (hL : ∀ i, 0 ≤ i → i < 60 → 0 ≤ L i ∧ L i ≤ 98) {seed : Int} (hs : 0 ≤ seed) (hs2 : seed < 65536) {w : pj_W} (hA : w 60 0 = A) (hw : w 72 0 = L) :
    ∃ (C0 : pj_Q) (c' : pj_cf), (∀ i, C0 i = if 0 ≤ i ∧ i < 5 then 0 else w 73 0 i) ∧ pj_Lp lf_fl (0, 0, A, seed, C0, L) = some c' ∧ lf_ok A W F S T P c' ∧ fM_lives seed w = some (mw w c'.2.1 c'.2.2.1 c'.2.2.2.1 c'.2.2.2.2.1 c'.2.2.2.2.2) := by
  have hz : ∀ n : Nat, n ≤ 5 → ∀ u : pj_W, u = mw w 0 A seed (fun i => if 0 ≤ i ∧ i < n then 0 else w 73 0 i) L → fM_lives_12 ((n : Int), u) = fM_lives_12 (5, mw w 0 A seed (fun i => if 0 ≤ i ∧ i < 5 then 0 else w 73 0 i) L) := by
    intro n hn
    obtain ⟨m, hm⟩ : ∃ m : Nat, n + m = 5 := ⟨5 - n, by omega⟩
    induction m generalizing n with
    | zero =>
      intro u hu
      have : n = 5 := by omega
      subst this
      rw [hu]; rfl
    | succ m ih =>
      intro u hu
      have := ih (n + 1) (by omega) (by omega) (pj_set u 73 0 n 0) (by
        rw [hu, mw_s73]
        congr 1
        funext i
        unfold q_up
        dsimp only
        by_cases c : i = n
        · rw [if_pos c, if_pos (by omega)]
        · rw [if_neg c]
          by_cases c2 : 0 ≤ i ∧ i < n
          · rw [if_pos c2, if_pos (by omega)]
          · rw [if_neg c2, if_neg (by omega)])
      rw [← this]
      refine pj_Lp_st ?_
      dsimp only
      unfold fM_lives_12b
      rw [if_neg (by omega), if_pos (by omega), pj_wri (by omega)]; rfl
  have h0 : pj_set (pj_set w 26 0 31 seed) 26 0 32 0 = mw w 0 A seed (fun i => if 0 ≤ i ∧ i < ((0 : Nat) : Int) then 0 else w 73 0 i) L := by
    funext k i x
    unfold pj_set mw
    by_cases c1 : k = 60 ∧ i = 0
    · rw [if_neg (by omega), if_neg (by omega), if_pos c1, c1.1, c1.2, hA]
    · rw [if_neg c1]
      by_cases c2 : k = 73 ∧ i = 0
      · rw [if_neg (by omega), if_neg (by omega), if_pos c2, c2.1, c2.2]
        exact (if_neg (by omega)).symm
      · rw [if_neg c2]
        by_cases c3 : k = 72 ∧ i = 0
        · rw [if_neg (by omega), if_neg (by omega), if_pos c3, c3.1, c3.2, hw]
        · rw [if_neg c3]
          by_cases c4 : k = 26 ∧ i = 0 ∧ x = 32
          · rw [if_pos c4, if_neg (by omega), if_pos c4]
          · rw [if_neg c4]
            by_cases c5 : k = 26 ∧ i = 0 ∧ x = 31
            · rw [if_pos c5, if_pos c5]
            · rw [if_neg c5, if_neg c5, if_neg c4]
  have hok : lf_ok A W F S T P (0, 0, A, seed, (fun i => if 0 ≤ i ∧ i < 5 then 0 else w 73 0 i), L) := by
    refine ⟨I, K, fun _ _ => rfl, ⟨hs, hs2⟩, fun i i0 i1 => ?_, hL, ⟨Int.le_refl _, h9⟩, ⟨Int.le_refl _, show (0 : Int) ≤ 300 by decide⟩, hr⟩
    dsimp only
    rw [if_pos ⟨i0, i1⟩]
    decide
  obtain ⟨c', a1, a2, a3⟩ := m_life 54002 0 0 A seed _ L hok (by have := lf_P_in hok; omega) w
  refine ⟨_, c', fun i => rfl, a1, a2, ?_⟩
  have hrow0 : A 9 ≤ 0 ∨ A (1030 + 6 * 0) ≠ 26 := by
    by_cases c : A 9 ≤ 0
    · exact Or.inl c
    · right
      intro x
      have := lf_row_k (hr.2 0 (by omega) (by omega))
      have := this.2.2.2.1 x
      omega
  rw [m_ends_no (by omega) (by omega) hrow0, Option.bind_some] at a3
  unfold fM_lives
  rw [h0]
  refine (hz 0 (by omega) _ rfl).trans ?_
  refine pj_Lp_end ?_
  dsimp only
  unfold fM_lives_12b
  rw [if_pos (by omega), a3]; rfl
