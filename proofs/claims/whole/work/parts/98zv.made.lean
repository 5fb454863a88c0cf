/-! WHAT THE CONSTRUCTORS MAKE: the class -/
theorem vi_bf.ex {i : Int} {w w' : pj_W} (h : vi_bf i w) (hf : ∀ k a s, vi_bx i k a → w' k a s = w k a s) : vi_bf i w' := by
  obtain ⟨⟨h1, h2⟩, h3, h4⟩ := h
  refine ⟨⟨(hf 19 i 0 (Or.inl ⟨rfl, rfl⟩)).trans h1, (hf 19 i 1 (Or.inl ⟨rfl, rfl⟩)).trans h2⟩, fun s s0 s1 => (hf 20 i s (Or.inr (Or.inl ⟨Or.inl rfl, rfl⟩))).trans (h3 s s0 s1), fun s s0 s1 => ⟨(hf 21 i s (Or.inr (Or.inl ⟨Or.inr rfl, rfl⟩))).trans (h4 s s0 s1).1, (hf 23 _ 0 (Or.inr (Or.inr ⟨rfl, by omega, by omega⟩))).trans (h4 s s0 s1).2.1, (hf 23 _ 1 (Or.inr (Or.inr ⟨rfl, by omega, by omega⟩))).trans (h4 s s0 s1).2.2⟩⟩
theorem vi_bn.ex {i : Int} {w w' : pj_W} (h : vi_bn i w) (hf : ∀ s, w' 19 i s = w 19 i s) : vi_bn i w' := by
  unfold vi_bn at h ⊢
  rw [hf, hf, hf, hf, hf, hf, hf, hf]; exact h
theorem vi_df.ex {i : Int} {w w' : pj_W} (h : vi_df i w) (hf : ∀ s, w' 24 i s = w 24 i s) : vi_df i w' := by
  unfold vi_df at h ⊢
  rw [hf, hf, hf, hf, hf]; exact h
theorem vi_t0 : vi_bl 0 25 := by unfold vi_bl; decide +kernel
theorem vi_t1 : vi_bl 1 58 := by unfold vi_bl; decide +kernel
theorem vi_tm : ∀ c : Fin 3, vi_bl (2 + c.val) (117 + 39 * c.val) ∧ pj_L.getD (110 + 39 * c.val) (0, 0) = (24, 2 + (c.val : Int)) ∧ vi_dl (2 + c.val) (111 + 39 * c.val) ∧ pj_L.getD (116 + 39 * c.val) (0, 0) = (19, 2 + (c.val : Int)) := by unfold vi_bl vi_dl; decide +kernel
theorem vi_tt : ∀ c : Fin 4, pj_L.getD (102 + 2 * c.val) (0, 0) = (25, (c.val : Int)) ∧ pj_L.getD (103 + 2 * c.val) (0, 0) = (52, (c.val : Int)) := by decide +kernel
theorem vi_td : vi_dl 0 91 ∧ vi_dl 1 97 := by unfold vi_dl; decide +kernel
/-- the trays -/
theorem vi_XT : ∀ r c : Nat, c + r = 4 → ∀ w : pj_W, pj_n w = 102 + 2 * c → w 10 0 0 = 0 → ∃ w', fX_init_c_149 ((c : Int), w) = fX_init_c_175 (0, w') ∧ pj_n w' = 110 ∧ (∀ s : Int, (c : Int) ≤ s → s < 4 → w' 25 s 0 = s ∧ w' 25 s 1 = 1 ∧ w' 11 0 s = s) ∧ ∀ k a s, k ≠ 0 → ¬ (k = 25 ∧ (c : Int) ≤ a) → ¬ (k = 11 ∧ a = 0 ∧ (c : Int) ≤ s) → w' k a s = w k a s := by
  intro r
  induction r with
  | zero =>
    intro c hc w hn h0
    have : c = 4 := by omega
    subst this
    refine ⟨w, ?_, hn, fun s s0 s1 => by omega, fun _ _ _ _ _ _ => rfl⟩
    unfold fX_init_c_149
    refine pj_Lp_map ?_
    show fX_init_c_149b 4 w = _
    unfold fX_init_c_149b
    rw [if_pos (by decide)]
  | succ r ih =>
    intro c hc w hn h0
    obtain ⟨l0, l1⟩ := vi_tt ⟨c, by omega⟩
    dsimp only at l0 l1
    obtain ⟨w1, b1, b2, ⟨b3, b4⟩, b5⟩ := vi_T (w := pj_up w) (n := 103 + 2 * c) (i := (c : Int)) (by rw [vn_u hn]; omega) (by omega) l1
    obtain ⟨w', a1, a2, a3, a4⟩ := ih (c + 1) (by omega) (pj_set w1 11 0 (c : Int) (c : Int)) (vn_s (by omega) (by decide)) (by rw [pj_sne (by omega), b5 10 0 0 (by decide) (by omega), vn_e (by decide)]; exact h0)
    refine ⟨w', ?_, a2, fun s s0 s1 => ?_, fun k a s g1 g2 g3 => ?_⟩
    · rw [← a1]
      unfold fX_init_c_149
      refine pj_Lp_st ?_
      show fX_init_c_149b (c : Int) w = _
      unfold fX_init_c_149b
      rw [if_neg (by omega), vn_1 hn l0, vn_0 hn l0, if_pos rfl, if_pos (by omega), Option.bind_some, b1, Option.bind_some, h0, if_pos (Int.le_refl 0), if_pos (by omega), pj_wr_id (by omega) (by omega)]
      rfl
    · by_cases e : s = (c : Int)
      · subst e
        rw [a4 25 _ 0 (by decide) (by omega) (by omega), a4 25 _ 1 (by decide) (by omega) (by omega), a4 11 0 _ (by decide) (by omega) (by omega), pj_set_at, pj_sne (by omega), pj_sne (by omega)]
        exact ⟨b3, b4, rfl⟩
      · exact a3 s (by omega) s1
    · rw [a4 k a s g1 (by omega) (by omega), pj_sne (by omega), b5 k a s g1 (by omega), vn_e g1]
/-- the marks -/
theorem vi_XM : ∀ r c : Nat, c + r = 3 → ∀ w : pj_W, pj_n w = 110 + 39 * c → w 10 0 4 = 0 → w 10 0 5 = 0 → ∃ w', fX_init_c_175 ((c : Int), w) = some w' ∧ pj_n w' = 227 ∧ (∀ s : Int, (c : Int) ≤ s → s < 3 → vi_df (2 + s) w' ∧ vi_bf (2 + s) w' ∧ w' 15 0 s = 2 + s ∧ w' 16 0 s = 2 + s) ∧ ∀ k a s, k ≠ 0 → ¬ (k = 24 ∧ 2 + (c : Int) ≤ a) → ¬ ((k = 19 ∨ k = 20 ∨ k = 21) ∧ 2 + (c : Int) ≤ a) → ¬ (k = 23 ∧ 8 * (2 + (c : Int)) ≤ a) → ¬ ((k = 15 ∨ k = 16) ∧ a = 0 ∧ (c : Int) ≤ s) → w' k a s = w k a s := by
  intro r
  induction r with
  | zero =>
    intro c hc w hn h4 h5
    have : c = 3 := by omega
    subst this
    refine ⟨w, ?_, hn, fun s s0 s1 => by omega, fun _ _ _ _ _ _ _ _ => rfl⟩
    unfold fX_init_c_175
    refine pj_Lp_end ?_
    show fX_init_c_175b 3 w = _
    unfold fX_init_c_175b
    rw [if_pos (by decide)]
  | succ r ih =>
    intro c hc w hn h4 h5
    obtain ⟨l0, l1, l2, l3⟩ := vi_tm ⟨c, by omega⟩
    dsimp only at l0 l1 l2 l3
    obtain ⟨w1, b1, b2, b3, b4⟩ := vi_D (w := pj_up w) (n := 111 + 39 * c) (i := 2 + (c : Int)) (by rw [vn_u hn]; omega) (by omega) l2
    have n1 : pj_n (pj_set w1 15 0 (c : Int) (2 + (c : Int))) = 116 + 39 * c := vn_s (by omega) (by decide)
    obtain ⟨w2, d1, d2, d3, d4, d5⟩ := vi_B (w := pj_up (pj_set w1 15 0 (c : Int) (2 + (c : Int)))) (n := 117 + 39 * c) (i := 2 + (c : Int)) (by rw [vn_u n1]; omega) (by omega) l0
    have fB : ∀ k a s, k ≠ 0 → ¬ vi_bx (2 + (c : Int)) k a → ¬ (k = 24 ∧ a = 2 + (c : Int) ∧ s ≤ 4) → ¬ (k = 15 ∧ a = 0 ∧ s = (c : Int)) → w2 k a s = w k a s := fun k a s g1 g2 g3 g4 => by rw [d5 k a s g1 g2, vn_e g1, pj_sne (by omega), b4 k a s g1 g3, vn_e g1]
    have k5 : pj_set w1 15 0 (c : Int) (2 + (c : Int)) 10 0 5 = 0 := by rw [pj_sne (by omega), b4 10 0 5 (by decide) (by omega), vn_e (by decide)]; exact h5
    obtain ⟨w', a1, a2, a3, a4⟩ := ih (c + 1) (by omega) (pj_set w2 16 0 (c : Int) (2 + (c : Int))) (vn_s (by omega) (by decide)) (by rw [pj_sne (by omega), fB 10 0 4 (by decide) (by unfold vi_bx; omega) (by omega) (by omega)]; exact h4) (by rw [pj_sne (by omega), fB 10 0 5 (by decide) (by unfold vi_bx; omega) (by omega) (by omega)]; exact h5)
    refine ⟨w', ?_, a2, fun s s0 s1 => ?_, fun k a s g1 g2 g3 g4 g5 => ?_⟩
    · rw [← a1]
      unfold fX_init_c_175
      refine pj_Lp_st ?_
      show fX_init_c_175b (c : Int) w = _
      unfold fX_init_c_175b
      rw [if_neg (by omega), vn_1 hn l1, vn_0 hn l1, if_pos rfl, if_pos (by omega), Option.bind_some, b1, Option.bind_some, h4, if_pos (Int.le_refl 0), if_pos (by omega), vn_1 n1 l3, vn_0 n1 l3, if_pos rfl, if_pos (by omega), Option.bind_some, d1, Option.bind_some, k5, if_pos (Int.le_refl 0), Option.bind_some, pj_wr_id (by omega) (by omega)]
      rfl
    · by_cases e : s = (c : Int)
      · subst e
        have g : ∀ k a s, k ≠ 0 → (k ≠ 24 ∨ a = 2 + (c : Int)) → ((k ≠ 19 ∧ k ≠ 20 ∧ k ≠ 21) ∨ a = 2 + (c : Int)) → (k ≠ 23 ∨ a < 8 * (2 + (c : Int)) + 8) → ¬ ((k = 15 ∨ k = 16) ∧ a = 0 ∧ (c : Int) < s) → w' k a s = pj_set w2 16 0 (c : Int) (2 + (c : Int)) k a s := fun k a s g1 g2 g3 g4 g5 => a4 k a s g1 (by omega) (by omega) (by omega) (by omega)
        refine ⟨b3.ex (fun s => ?_), d3.ex (fun k a s hk => ?_), ?_, ?_⟩
        · rw [g 24 _ s (by decide) (by omega) (by omega) (by omega) (by omega), pj_sne (by omega), d5 24 _ s (by decide) (by unfold vi_bx; omega), vn_e (by decide), pj_sne (by omega)]
        · unfold vi_bx at hk
          rw [g k a s (by omega) (by omega) (by omega) (by omega) (by omega), pj_sne (by omega)]
        · rw [g 15 0 _ (by decide) (by omega) (by omega) (by omega) (by omega), pj_sne (by omega), d5 15 0 _ (by decide) (by unfold vi_bx; omega), vn_e (by decide), pj_set_at]
        · rw [g 16 0 _ (by decide) (by omega) (by omega) (by omega) (by omega), pj_set_at]
      · exact a3 s (by omega) s1
    · rw [a4 k a s g1 (by omega) (by omega) (by omega) (by omega), pj_sne (by omega), fB k a s g1 (by unfold vi_bx; omega) (by omega) (by omega)]
/-- what is set once in the class; its first numbers -/
def vi_XF (w : pj_W) : Prop := (∀ s : Int, 0 ≤ s → s ≤ 8 → w 10 0 s = 0) ∧ (∀ s : Int, 0 ≤ s → s ≤ 4 → w 12 0 s = 0) ∧ (w 13 0 0 = 0 ∧ w 14 0 0 = 0 ∧ w 14 0 1 = 0) ∧ (∀ s : Int, 0 ≤ s → s ≤ 5 → w 17 0 s = 0) ∧ (∀ s : Int, 0 ≤ s → s ≤ 1 → w 18 0 s = 0) ∧ (∀ i : Int, 0 ≤ i → i < 5 → vi_bf i w ∧ vi_df i w) ∧ (∀ i : Int, 0 ≤ i → i < 4 → w 25 i 0 = i ∧ w 11 0 i = i) ∧ ∀ i : Int, 0 ≤ i → i < 3 → w 15 0 i = 2 + i ∧ w 16 0 i = 2 + i
def vi_XI (w : pj_W) : Prop := (w 10 0 10 = 0 ∧ w 10 0 11 = 1 ∧ w 10 0 12 = 0 ∧ w 10 0 13 = 1 ∧ w 10 0 17 = 1) ∧ (w 12 0 6 = -1 ∧ w 12 0 7 = -1) ∧ tk_W w ∧ vi_bn 0 w ∧ ∀ i : Int, 0 ≤ i → i < 4 → w 25 i 1 = 1
def vi_Xx (k : Nat) (a s : Int) : Prop := k = 0 ∨ k = 34 ∨ (k = 10 ∧ a = 0 ∧ (s ≤ 8 ∨ (10 ≤ s ∧ s ≤ 13) ∨ s = 17)) ∨ (k = 12 ∧ a = 0 ∧ (s ≤ 4 ∨ s = 6 ∨ s = 7)) ∨ k = 13 ∨ (k = 14 ∧ s ≤ 1) ∨ (k = 17 ∧ s ≤ 5) ∨ (k = 18 ∧ s ≤ 1) ∨ k = 11 ∨ k = 15 ∨ k = 16 ∨ k = 19 ∨ k = 20 ∨ k = 21 ∨ k = 23 ∨ (k = 24 ∧ (s ≤ 4 ∨ 2 ≤ a)) ∨ k = 25
theorem vi_XBt {w : pj_W} (hn : pj_n w = 24) (h0 : w 10 0 0 = 0) (h4 : w 10 0 4 = 0) (h5 : w 10 0 5 = 0) : ∃ w', vi_XB w = some w' ∧ pj_n w' = 227 ∧ (w' 10 0 10 = 0 ∧ w' 10 0 11 = 1 ∧ w' 10 0 12 = 0 ∧ w' 10 0 13 = 1 ∧ w' 10 0 17 = 1) ∧ vi_bn 0 w' ∧ (∀ i : Int, 0 ≤ i → i < 5 → vi_bf i w' ∧ vi_df i w') ∧ (∀ i : Int, 0 ≤ i → i < 4 → w' 25 i 0 = i ∧ w' 25 i 1 = 1 ∧ w' 11 0 i = i) ∧ (∀ i : Int, 0 ≤ i → i < 3 → w' 15 0 i = 2 + i ∧ w' 16 0 i = 2 + i) ∧ ∀ k a s, k ≠ 0 → ¬ (k = 10 ∧ a = 0 ∧ ((10 ≤ s ∧ s ≤ 13) ∨ s = 17)) → k ≠ 11 → k ≠ 15 → k ≠ 16 → k ≠ 19 → k ≠ 20 → k ≠ 21 → k ≠ 23 → ¬ (k = 24 ∧ (s ≤ 4 ∨ 2 ≤ a)) → k ≠ 25 → w' k a s = w k a s := by
  have t24 : pj_L.getD 24 (0, 0) = (19, 0) := rfl
  have t57 : pj_L.getD 57 (0, 0) = (19, 1) := rfl
  have t90 : pj_L.getD 90 (0, 0) = (24, 0) := rfl
  have t96 : pj_L.getD 96 (0, 0) = (24, 1) := rfl
  obtain ⟨w1, a1, a2, a3, a4, a5⟩ := vi_B (w := pj_up w) (n := 25) (vn_u hn) (Int.le_refl 0) vi_t0
  have n1 : pj_n (pj_set w1 10 0 10 0) = 57 := vn_s a2 (by decide)
  obtain ⟨w2, b1, b2, b3, b4, b5⟩ := vi_B (w := pj_up (pj_set w1 10 0 10 0)) (n := 58) (i := 1) (vn_u n1) (by decide) vi_t1
  have n2 : pj_n (pj_set w2 10 0 11 1) = 90 := vn_s b2 (by decide)
  obtain ⟨w3, c1, c2, c3, c4⟩ := vi_D (w := pj_up (pj_set w2 10 0 11 1)) (n := 91) (vn_u n2) (Int.le_refl 0) vi_td.1
  have n3 : pj_n (pj_set w3 10 0 12 0) = 96 := vn_s c2 (by decide)
  obtain ⟨w4, d1, d2, d3, d4⟩ := vi_D (w := pj_up (pj_set w3 10 0 12 0)) (n := 97) (i := 1) (vn_u n3) (by decide) vi_td.2
  -- from the two beaches and days on
  have f4 : ∀ k a s, k ≠ 0 → ¬ (k = 24 ∧ a = 1 ∧ s ≤ 4) → ¬ (k = 10 ∧ a = 0 ∧ (s = 12 ∨ s = 13 ∨ s = 17)) → pj_set (pj_set w4 10 0 13 1) 10 0 17 1 k a s = w3 k a s := fun k a s g1 g2 g3 => by rw [pj_sne (by omega), pj_sne (by omega), d4 k a s g1 g2, vn_e g1, pj_sne (by omega)]
  have f3 : ∀ k a s, k ≠ 0 → ¬ (k = 24 ∧ a ≤ 1 ∧ s ≤ 4) → ¬ (k = 10 ∧ a = 0 ∧ (11 ≤ s ∧ s ≤ 17)) → pj_set (pj_set w4 10 0 13 1) 10 0 17 1 k a s = w2 k a s := fun k a s g1 g2 g3 => by rw [f4 k a s g1 (by omega) (by omega), c4 k a s g1 (by omega), vn_e g1, pj_sne (by omega)]
  have f2 : ∀ k a s, k ≠ 0 → ¬ (k = 24 ∧ a ≤ 1 ∧ s ≤ 4) → ¬ (k = 10 ∧ a = 0 ∧ (10 ≤ s ∧ s ≤ 17)) → ¬ vi_bx 1 k a → pj_set (pj_set w4 10 0 13 1) 10 0 17 1 k a s = w1 k a s := fun k a s g1 g2 g3 g4 => by rw [f3 k a s g1 g2 (by omega), b5 k a s g1 g4, vn_e g1, pj_sne (by omega)]
  have n4 : pj_n (pj_set (pj_set w4 10 0 13 1) 10 0 17 1) = 102 := vn_s (vn_s d2 (by decide)) (by decide)
  have v10 : (pj_set (pj_set w4 10 0 13 1) 10 0 17 1) 10 0 10 = 0 := by rw [f3 10 0 10 (by decide) (by omega) (by omega), b5 10 0 10 (by decide) (by unfold vi_bx; omega), vn_e (by decide), pj_set_at]
  have v11 : (pj_set (pj_set w4 10 0 13 1) 10 0 17 1) 10 0 11 = 1 := by rw [f4 10 0 11 (by decide) (by omega) (by omega), c4 10 0 11 (by decide) (by omega), vn_e (by decide), pj_set_at]
  have v12 : (pj_set (pj_set w4 10 0 13 1) 10 0 17 1) 10 0 12 = 0 := by rw [pj_sne (by omega), pj_sne (by omega), d4 10 0 12 (by decide) (by omega), vn_e (by decide), pj_set_at]
  have v13 : (pj_set (pj_set w4 10 0 13 1) 10 0 17 1) 10 0 13 = 1 := by rw [pj_sne (by omega), pj_set_at]
  have v17 : (pj_set (pj_set w4 10 0 13 1) 10 0 17 1) 10 0 17 = 1 := pj_set_at
  have f0 : ∀ k a s, k ≠ 0 → ¬ (k = 24 ∧ a ≤ 1 ∧ s ≤ 4) → ¬ (k = 10 ∧ a = 0 ∧ ((10 ≤ s ∧ s ≤ 13) ∨ s = 17)) → k ≠ 19 → k ≠ 20 → k ≠ 21 → k ≠ 23 → pj_set (pj_set w4 10 0 13 1) 10 0 17 1 k a s = w k a s := fun k a s g1 g2 g3 g4 g5 g6 g7 => by rw [pj_sne (by omega), pj_sne (by omega), d4 k a s g1 (by omega), vn_e g1, pj_sne (by omega), c4 k a s g1 (by omega), vn_e g1, pj_sne (by omega), b5 k a s g1 (by unfold vi_bx; omega), vn_e g1, pj_sne (by omega), a5 k a s g1 (by unfold vi_bx; omega), vn_e g1]
  have B0 : vi_bf 0 (pj_set (pj_set w4 10 0 13 1) 10 0 17 1) := a3.ex (fun k a s hk => f2 k a s (by unfold vi_bx at hk; omega) (by unfold vi_bx at hk; omega) (by unfold vi_bx at hk; omega) (by unfold vi_bx at hk ⊢; omega))
  have N0 : vi_bn 0 (pj_set (pj_set w4 10 0 13 1) 10 0 17 1) := a4.ex (fun s => f2 19 0 s (by decide) (by omega) (by omega) (by unfold vi_bx; omega))
  have B1 : vi_bf 1 (pj_set (pj_set w4 10 0 13 1) 10 0 17 1) := b3.ex (fun k a s hk => f3 k a s (by unfold vi_bx at hk; omega) (by unfold vi_bx at hk; omega) (by unfold vi_bx at hk; omega))
  have D0 : vi_df 0 (pj_set (pj_set w4 10 0 13 1) 10 0 17 1) := c3.ex (fun s => f4 24 0 s (by decide) (by omega) (by omega))
  have D1 : vi_df 1 (pj_set (pj_set w4 10 0 13 1) 10 0 17 1) := d3.ex (fun s => by rw [pj_sne (by omega), pj_sne (by omega)])
  have hX : vi_XB w = fX_init_c_149 (0, pj_set (pj_set w4 10 0 13 1) 10 0 17 1) := by
    unfold vi_XB
    rw [vn_1 hn t24, vn_0 hn t24, if_pos rfl, if_pos (Int.le_refl 0), Option.bind_some, a1, Option.bind_some, vn_1 n1 t57, vn_0 n1 t57, if_pos rfl, if_pos (by decide), Option.bind_some, b1, Option.bind_some, vn_1 n2 t90, vn_0 n2 t90, if_pos rfl, if_pos (Int.le_refl 0), Option.bind_some, c1, Option.bind_some, Option.bind_some, vn_1 n3 t96, vn_0 n3 t96, if_pos rfl, if_pos (by decide), Option.bind_some, d1, Option.bind_some]
  clear a1 a2 a3 a4 a5 b1 b2 b3 b4 b5 c1 c2 c3 c4 d1 d2 d3 d4 f2 f3 f4 n1 n2 n3
  revert hX n4 v10 v11 v12 v13 v17 f0 B0 N0 B1 D0 D1
  generalize pj_set (pj_set w4 10 0 13 1) 10 0 17 1 = w5
  intro n4 v10 v11 v12 v13 v17 f0 B0 N0 B1 D0 D1 hX
  obtain ⟨w6, a1, a2, a3, a4⟩ := vi_XT 4 0 rfl w5 n4 (by rw [f0 10 0 0 (by decide) (by omega) (by omega) (by decide) (by decide) (by decide) (by decide)]; exact h0)
  obtain ⟨w7, b1, b2, b3, b4⟩ := vi_XM 3 0 rfl w6 a2 (by rw [a4 10 0 4 (by decide) (by omega) (by omega), f0 10 0 4 (by decide) (by omega) (by omega) (by decide) (by decide) (by decide) (by decide)]; exact h4) (by rw [a4 10 0 5 (by decide) (by omega) (by omega), f0 10 0 5 (by decide) (by omega) (by omega) (by decide) (by decide) (by decide) (by decide)]; exact h5)
  have g : ∀ k a s, k ≠ 0 → ¬ (k = 24 ∧ 2 ≤ a) → ¬ ((k = 19 ∨ k = 20 ∨ k = 21) ∧ 2 ≤ a) → ¬ (k = 23 ∧ 16 ≤ a) → k ≠ 15 → k ≠ 16 → w7 k a s = w6 k a s := fun k a s g1 g2 g3 g4 g5 g6 => b4 k a s g1 (by omega) (by omega) (by omega) (by omega)
  have g' : ∀ k a s, k ≠ 0 → ¬ (k = 24 ∧ 2 ≤ a) → ¬ ((k = 19 ∨ k = 20 ∨ k = 21) ∧ 2 ≤ a) → ¬ (k = 23 ∧ 16 ≤ a) → k ≠ 15 → k ≠ 16 → k ≠ 25 → k ≠ 11 → w7 k a s = w5 k a s := fun k a s g1 g2 g3 g4 g5 g6 g7 g8 => (g k a s g1 g2 g3 g4 g5 g6).trans (a4 k a s g1 (by omega) (by omega))
  have g10 : ∀ s, w7 10 0 s = w5 10 0 s := fun s => g' 10 0 s (by decide) (by omega) (by omega) (by omega) (by decide) (by decide) (by decide) (by decide)
  refine ⟨w7, (hX.trans a1).trans b1, b2, ⟨(g10 10).trans v10, (g10 11).trans v11, (g10 12).trans v12, (g10 13).trans v13, (g10 17).trans v17⟩, N0.ex (fun s => g' 19 0 s (by decide) (by omega) (by omega) (by omega) (by decide) (by decide) (by decide) (by decide)), fun i i0 i1 => ?_, fun i i0 i1 => ?_, fun i i0 i1 => ?_, fun k a s k0 k1 k2 k3 k4 k5 k6 k7 k8 k9 kt => ?_⟩
  · by_cases e0 : i = 0
    · subst e0
      exact ⟨B0.ex (fun k a s hk => g' k a s (by unfold vi_bx at hk; omega) (by unfold vi_bx at hk; omega) (by unfold vi_bx at hk; omega) (by unfold vi_bx at hk; omega) (by unfold vi_bx at hk; omega) (by unfold vi_bx at hk; omega) (by unfold vi_bx at hk; omega) (by unfold vi_bx at hk; omega)), D0.ex (fun s => g' 24 0 s (by decide) (by omega) (by omega) (by omega) (by decide) (by decide) (by decide) (by decide))⟩
    · by_cases e1 : i = 1
      · subst e1
        exact ⟨B1.ex (fun k a s hk => g' k a s (by unfold vi_bx at hk; omega) (by unfold vi_bx at hk; omega) (by unfold vi_bx at hk; omega) (by unfold vi_bx at hk; omega) (by unfold vi_bx at hk; omega) (by unfold vi_bx at hk; omega) (by unfold vi_bx at hk; omega) (by unfold vi_bx at hk; omega)), D1.ex (fun s => g' 24 1 s (by decide) (by omega) (by omega) (by omega) (by decide) (by decide) (by decide) (by decide))⟩
      · obtain ⟨q1, q2, _, _⟩ := b3 (i - 2) (by omega) (by omega)
        rw [show 2 + (i - 2) = i by omega] at q1 q2
        exact ⟨q2, q1⟩
  · obtain ⟨q1, q2, q3⟩ := a3 i (by omega) i1
    rw [g 25 i 0 (by decide) (by omega) (by omega) (by omega) (by decide) (by decide), g 25 i 1 (by decide) (by omega) (by omega) (by omega) (by decide) (by decide), g 11 0 i (by decide) (by omega) (by omega) (by omega) (by decide) (by decide)]
    exact ⟨q1, q2, q3⟩
  · exact ⟨(b3 i (by omega) i1).2.2.1, (b3 i (by omega) i1).2.2.2⟩
  · rw [g' k a s k0 (by omega) (by omega) (by omega) k3 k4 kt k2, f0 k a s k0 (by omega) k1 k5 k6 k7 k8]
theorem vi_X {w : pj_W} (hn : pj_n w = 1) : ∃ w', fX_init_c w = some w' ∧ pj_n w' = 227 ∧ vi_XF w' ∧ vi_XI w' ∧ ∀ k a s, ¬ vi_Xx k a s → w' k a s = w k a s := by
  obtain ⟨w1, a1, a2, a3, a4, a5, a6, a7, a8, a9, a10⟩ := vi_XA hn
  obtain ⟨w2, b1, b2, b3, b4, b5, b6, b7, b8⟩ := vi_XBt a2 (a3 0 (by decide) (by decide)) (a3 4 (by decide) (by decide)) (a3 5 (by decide) (by decide))
  have g : ∀ k a s, k = 12 ∨ k = 13 ∨ k = 14 ∨ k = 17 ∨ k = 18 ∨ k = 34 → w2 k a s = w1 k a s := fun k a s hk => b8 k a s (by omega) (by omega) (by omega) (by omega) (by omega) (by omega) (by omega) (by omega) (by omega) (by omega) (by omega)
  refine ⟨w2, a1.trans b1, b2, ⟨fun s s0 s1 => ?_, fun s s0 s1 => ?_, ⟨?_, ?_, ?_⟩, fun s s0 s1 => ?_, fun s s0 s1 => ?_, b5, fun i i0 i1 => ⟨(b6 i i0 i1).1, (b6 i i0 i1).2.2⟩, b7⟩, ⟨b3, ⟨?_, ?_⟩, fun i hi => ?_, b4, fun i i0 i1 => (b6 i i0 i1).2.1⟩, fun k a s hk => ?_⟩
  · rw [b8 10 0 s (by decide) (by omega) (by decide) (by decide) (by decide) (by decide) (by decide) (by decide) (by decide) (by omega) (by decide)]; exact a3 s s0 s1
  · rw [g 12 0 s (by omega)]; exact a4 s s0 s1
  · rw [g 13 0 0 (by omega)]; exact a7.1
  · rw [g 14 0 0 (by omega)]; exact a7.2.1
  · rw [g 14 0 1 (by omega)]; exact a7.2.2
  · rw [g 17 0 s (by omega)]; exact a8 s s0 s1
  · rw [g 18 0 s (by omega)]; exact a9 s s0 s1
  · rw [g 12 0 6 (by omega)]; exact a5.1
  · rw [g 12 0 7 (by omega)]; exact a5.2
  · rw [g 34 0 i (by omega)]; exact a6 i hi
  · unfold vi_Xx at hk
    simp only [not_or] at hk
    obtain ⟨h0, h34, h10, h12, h13, h14, h17, h18, h11, h15, h16, h19, h20, h21, h23, h24, h25⟩ := hk
    rw [b8 k a s h0 (by clear h12 h14 h17 h18 h24; omega) h11 h15 h16 h19 h20 h21 h23 h24 h25]
    exact a10 k a s h0 h34 (by clear h12 h14 h17 h18 h24; omega) h12 (by omega) (by clear h10 h12 h17 h18 h24; omega) (by clear h10 h12 h14 h18 h24; omega) (by clear h10 h12 h14 h17 h24; omega)
