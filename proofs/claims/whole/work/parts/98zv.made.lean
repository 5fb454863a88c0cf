/-! WHAT THE CONSTRUCTORS MAKE: the class -/
theorem vi_bf.ex {i : Int} {w w' : pj_W} (h : vi_bf i w) (hf : ∀ k a s, vi_bx i k a → w' k a s = w k a s) : vi_bf i w' := by
  obtain ⟨⟨h1, h2⟩, h3, h4⟩ := h
  refine ⟨⟨(hf 19 i 0 (Or.inl ⟨rfl, rfl⟩)).trans h1, (hf 19 i 1 (Or.inl ⟨rfl, rfl⟩)).trans h2⟩, fun s s0 s1 => (hf 20 i s (Or.inr (Or.inl ⟨Or.inl rfl, rfl⟩))).trans (h3 s s0 s1), fun s s0 s1 => ⟨(hf 21 i s (Or.inr (Or.inl ⟨Or.inr rfl, rfl⟩))).trans (h4 s s0 s1).1, (hf 23 _ 0 (Or.inr (Or.inr ⟨rfl, by omega, by omega⟩))).trans (h4 s s0 s1).2.1, (hf 23 _ 1 (Or.inr (Or.inr ⟨rfl, by omega, by omega⟩))).trans (h4 s s0 s1).2.2⟩⟩
theorem vi_bn.ex {i : Int} {w w' : pj_W} (h : vi_bn i w) (hf : ∀ s, w' 19 i s = w 19 i s) : vi_bn i w' := by
  unfold vi_bn at h ⊢
  rw [hf, hf, hf, hf, hf, hf, hf, hf]; exact h
theorem vi_df.ex {i : Int} {w w' : pj_W} (h : vi_df i w) (hf : ∀ s, w' 24 i s = w 24 i s) : vi_df i w' := by
  unfold vi_df at h ⊢
  rw [hf, hf, hf, hf, hf]; exact h
theorem vi_t0 : vi_bl 0 25 := by unfold vi_bl; decide +kernel
theorem vi_t1 : vi_bl 1 58 := by unfold vi_bl; decide +kernel
theorem vi_tm : ∀ c : Fin 3, vi_bl (2 + c.val) (117 + 39 * c.val) ∧ pj_L.getD (110 + 39 * c.val) (0, 0) = (24, 2 + (c.val : Int)) ∧ vi_dl (2 + c.val) (111 + 39 * c.val) ∧ pj_L.getD (116 + 39 * c.val) (0, 0) = (19, 2 + (c.val : Int)) := by unfold vi_bl vi_dl; decide +kernel
theorem vi_tt : ∀ c : Fin 4, pj_L.getD (102 + 2 * c.val) (0, 0) = (25, (c.val : Int)) ∧ pj_L.getD (103 + 2 * c.val) (0, 0) = (52, (c.val : Int)) := by decide +kernel
theorem vi_td : vi_dl 0 91 ∧ vi_dl 1 97 := by unfold vi_dl; decide +kernel
/-- the trays -/
theorem vi_XT : ∀ r c : Nat, c + r = 4 → ∀ w : pj_W, pj_n w = 102 + 2 * c → w 10 0 0 = 0 → ∃ w', fX_init_c_149 ((c : Int), w) = fX_init_c_175 (0, w') ∧ pj_n w' = 110 ∧ (∀ s : Int, (c : Int) ≤ s → s < 4 → w' 25 s 0 = s ∧ w' 25 s 1 = 1 ∧ w' 11 0 s = s) ∧ ∀ k a s, k ≠ 0 → ¬ (k = 25 ∧ (c : Int) ≤ a) → ¬ (k = 11 ∧ a = 0 ∧ (c : Int) ≤ s) → w' k a s = w k a s := by
  intro r
  induction r with
  | zero =>
    intro c hc w hn h0
    have : c = 4 := by omega
    subst this
    refine ⟨w, ?_, hn, fun s s0 s1 => by omega, fun _ _ _ _ _ _ => rfl⟩
    unfold fX_init_c_149
    refine pj_Lp_map ?_
    show fX_init_c_149b 4 w = _
    unfold fX_init_c_149b
    rw [if_pos (by decide)]
  | succ r ih =>
    intro c hc w hn h0
    obtain ⟨l0, l1⟩ := vi_tt ⟨c, by omega⟩
    dsimp only at l0 l1
    obtain ⟨w1, b1, b2, ⟨b3, b4⟩, b5⟩ := vi_T (w := pj_up w) (n := 103 + 2 * c) (i := (c : Int)) (by rw [vn_u hn]; omega) (by omega) l1
    obtain ⟨w', a1, a2, a3, a4⟩ := ih (c + 1) (by omega) (pj_set w1 11 0 (c : Int) (c : Int)) (vn_s (by omega) (by decide)) (by rw [pj_sne (by omega), b5 10 0 0 (by decide) (by omega), vn_e (by decide)]; exact h0)
    refine ⟨w', ?_, a2, fun s s0 s1 => ?_, fun k a s g1 g2 g3 => ?_⟩
    · rw [← a1]
      unfold fX_init_c_149
      refine pj_Lp_st ?_
      show fX_init_c_149b (c : Int) w = _
      unfold fX_init_c_149b
      rw [if_neg (by omega), vn_1 hn l0, vn_0 hn l0, if_pos rfl, if_pos (by omega), Option.bind_some, b1, Option.bind_some, h0, if_pos (Int.le_refl 0), if_pos (by omega), pj_wr_id (by omega) (by omega)]
      rfl
    · by_cases e : s = (c : Int)
      · subst e
        rw [a4 25 _ 0 (by decide) (by omega) (by omega), a4 25 _ 1 (by decide) (by omega) (by omega), a4 11 0 _ (by decide) (by omega) (by omega), pj_set_at, pj_sne (by omega), pj_sne (by omega)]
        exact ⟨b3, b4, rfl⟩
      · exact a3 s (by omega) s1
    · rw [a4 k a s g1 (by omega) (by omega), pj_sne (by omega), b5 k a s g1 (by omega), vn_e g1]
/-- the marks -/
theorem vi_XM : ∀ r c : Nat, c + r = 3 → ∀ w : pj_W, pj_n w = 110 + 39 * c → w 10 0 4 = 0 → w 10 0 5 = 0 → ∃ w', fX_init_c_175 ((c : Int), w) = some w' ∧ pj_n w' = 227 ∧ (∀ s : Int, (c : Int) ≤ s → s < 3 → vi_df (2 + s) w' ∧ vi_bf (2 + s) w' ∧ w' 15 0 s = 2 + s ∧ w' 16 0 s = 2 + s) ∧ ∀ k a s, k ≠ 0 → ¬ (k = 24 ∧ 2 + (c : Int) ≤ a) → ¬ ((k = 19 ∨ k = 20 ∨ k = 21) ∧ 2 + (c : Int) ≤ a) → ¬ (k = 23 ∧ 8 * (2 + (c : Int)) ≤ a) → ¬ ((k = 15 ∨ k = 16) ∧ a = 0 ∧ (c : Int) ≤ s) → w' k a s = w k a s := by
  intro r
  induction r with
  | zero =>
    intro c hc w hn h4 h5
    have : c = 3 := by omega
    subst this
    refine ⟨w, ?_, hn, fun s s0 s1 => by omega, fun _ _ _ _ _ _ _ _ => rfl⟩
    unfold fX_init_c_175
    refine pj_Lp_end ?_
    show fX_init_c_175b 3 w = _
    unfold fX_init_c_175b
    rw [if_pos (by decide)]
  | succ r ih =>
    intro c hc w hn h4 h5
    obtain ⟨l0, l1, l2, l3⟩ := vi_tm ⟨c, by omega⟩
    dsimp only at l0 l1 l2 l3
    obtain ⟨w1, b1, b2, b3, b4⟩ := vi_D (w := pj_up w) (n := 111 + 39 * c) (i := 2 + (c : Int)) (by rw [vn_u hn]; omega) (by omega) l2
    have n1 : pj_n (pj_set w1 15 0 (c : Int) (2 + (c : Int))) = 116 + 39 * c := vn_s (by omega) (by decide)
    obtain ⟨w2, d1, d2, d3, d4, d5⟩ := vi_B (w := pj_up (pj_set w1 15 0 (c : Int) (2 + (c : Int)))) (n := 117 + 39 * c) (i := 2 + (c : Int)) (by rw [vn_u n1]; omega) (by omega) l0
    have fB : ∀ k a s, k ≠ 0 → ¬ vi_bx (2 + (c : Int)) k a → ¬ (k = 24 ∧ a = 2 + (c : Int) ∧ s ≤ 4) → ¬ (k = 15 ∧ a = 0 ∧ s = (c : Int)) → w2 k a s = w k a s := fun k a s g1 g2 g3 g4 => by rw [d5 k a s g1 g2, vn_e g1, pj_sne (by omega), b4 k a s g1 g3, vn_e g1]
    have k5 : pj_set w1 15 0 (c : Int) (2 + (c : Int)) 10 0 5 = 0 := by rw [pj_sne (by omega), b4 10 0 5 (by decide) (by omega), vn_e (by decide)]; exact h5
    obtain ⟨w', a1, a2, a3, a4⟩ := ih (c + 1) (by omega) (pj_set w2 16 0 (c : Int) (2 + (c : Int))) (vn_s (by omega) (by decide)) (by rw [pj_sne (by omega), fB 10 0 4 (by decide) (by unfold vi_bx; omega) (by omega) (by omega)]; exact h4) (by rw [pj_sne (by omega), fB 10 0 5 (by decide) (by unfold vi_bx; omega) (by omega) (by omega)]; exact h5)
    refine ⟨w', ?_, a2, fun s s0 s1 => ?_, fun k a s g1 g2 g3 g4 g5 => ?_⟩
    · rw [← a1]
      unfold fX_init_c_175
      refine pj_Lp_st ?_
      show fX_init_c_175b (c : Int) w = _
      unfold fX_init_c_175b
      rw [if_neg (by omega), vn_1 hn l1, vn_0 hn l1, if_pos rfl, if_pos (by omega), Option.bind_some, b1, Option.bind_some, h4, if_pos (Int.le_refl 0), if_pos (by omega), vn_1 n1 l3, vn_0 n1 l3, if_pos rfl, if_pos (by omega), Option.bind_some, d1, Option.bind_some, k5, if_pos (Int.le_refl 0), Option.bind_some, pj_wr_id (by omega) (by omega)]
      rfl
    · by_cases e : s = (c : Int)
      · subst e
        have g : ∀ k a s, k ≠ 0 → (k ≠ 24 ∨ a = 2 + (c : Int)) → ((k ≠ 19 ∧ k ≠ 20 ∧ k ≠ 21) ∨ a = 2 + (c : Int)) → (k ≠ 23 ∨ a < 8 * (2 + (c : Int)) + 8) → ¬ ((k = 15 ∨ k = 16) ∧ a = 0 ∧ (c : Int) < s) → w' k a s = pj_set w2 16 0 (c : Int) (2 + (c : Int)) k a s := fun k a s g1 g2 g3 g4 g5 => a4 k a s g1 (by omega) (by omega) (by omega) (by omega)
        refine ⟨b3.ex (fun s => ?_), d3.ex (fun k a s hk => ?_), ?_, ?_⟩
        · rw [g 24 _ s (by decide) (by omega) (by omega) (by omega) (by omega), pj_sne (by omega), d5 24 _ s (by decide) (by unfold vi_bx; omega), vn_e (by decide), pj_sne (by omega)]
        · unfold vi_bx at hk
          rw [g k a s (by omega) (by omega) (by omega) (by omega) (by omega), pj_sne (by omega)]
        · rw [g 15 0 _ (by decide) (by omega) (by omega) (by omega) (by omega), pj_sne (by omega), d5 15 0 _ (by decide) (by unfold vi_bx; omega), vn_e (by decide), pj_set_at]
        · rw [g 16 0 _ (by decide) (by omega) (by omega) (by omega) (by omega), pj_set_at]
      · exact a3 s (by omega) s1
    · rw [a4 k a s g1 (by omega) (by omega) (by omega) (by omega), pj_sne (by omega), fB k a s g1 (by unfold vi_bx; omega) (by omega) (by omega)]
