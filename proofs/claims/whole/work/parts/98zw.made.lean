/-! WHAT THE CONSTRUCTORS MAKE: the model (printed by wip/whole/madem.py, but for its loop) -/
theorem vi_plain {w : pj_W} (h0 : w 26 0 0 = 0) : ∃ w', fM_plain_c 0 w = some w' ∧ (∀ x, 0 ≤ x → x < 1400 → w' 60 0 x = if x = 5 then 1 else if x = 9 then -1 else 0) ∧ ∀ k i s, ¬ (k = 60 ∧ i = 0 ∧ 0 ≤ s ∧ s < 1400) → w' k i s = w k i s := by
  have h26 : ∀ n : Int, pj_zr w 60 0 0 n 26 0 0 = 0 := fun n => (pj_zne (by omega)).trans h0
  have h26' : ∀ n v : Int, pj_set (pj_zr w 60 0 0 n) 60 0 5 v 26 0 0 = 0 := fun n v => (pj_sne (by omega)).trans (h26 n)
  refine ⟨pj_set (pj_set (pj_zr w 60 0 0 1400) 60 0 5 1) 60 0 9 (-1), ?_, fun x h0 h1 => ?_, fun k i s h => ?_⟩
  · have e0 : fM_plain_c 0 w = pj_Lp (fun s : (Int × pj_W) => fM_plain_c_2b 0 s.1 s.2) (((0 : Nat) : Int), pj_zr w 60 0 0 ((0 : Nat) : Int)) := by
      unfold fM_plain_c fM_plain_c_2
      rw [show ((0 : Nat) : Int) = 0 from rfl, pj_zr_0]
    rw [e0]
    refine pj_Lp_fo (body := fun s : (Int × pj_W) => fM_plain_c_2b 0 s.1 s.2) (fun i : Nat => ((i : Int), pj_zr w 60 0 0 (i : Int))) 1400 (fun i hi => ?_) ?_
    · show fM_plain_c_2b 0 (i : Int) (pj_zr w 60 0 0 (i : Int)) = _
      unfold fM_plain_c_2b
      rw [if_neg (by omega), h26, if_pos (Int.le_refl 0), pj_wr_id (x := 0 + (i : Int)) (by omega) (by omega), if_pos (by omega), pj_wr_id (by omega) (by omega), pj_zr_st w 60 0 0 (by omega)]
      rfl
    · show fM_plain_c_2b 0 ((1400 : Nat) : Int) (pj_zr w 60 0 0 ((1400 : Nat) : Int)) = _
      unfold fM_plain_c_2b
      rw [if_pos (by decide), h26, if_pos (Int.le_refl 0), pj_wr_id (x := 0 + 5) (by decide) (by decide), pj_wr_id (x := 0 + 9) (by decide) (by decide), if_pos (by decide), show (0 : Int) + 5 = 5 from rfl, h26', if_pos (Int.le_refl 0), if_pos (by decide)]
      rfl
  · by_cases c9 : x = 9
    · subst c9
      rw [if_neg (by decide), if_pos rfl]
      exact pj_set_at
    rw [pj_sne (by omega), if_neg c9]
    by_cases c5 : x = 5
    · subst c5
      rw [if_pos rfl]
      exact pj_set_at
    rw [pj_sne (by omega), if_neg c5]
    exact pj_zat h0 (by omega)
  · rw [pj_sne (by omega), pj_sne (by omega), pj_zne (by omega)]
theorem vi_M1 {w : pj_W} (hn : pj_n w = 228) : ∃ w', w' = pj_set (pj_set (pj_set (pj_set (pj_set (pj_up (pj_set (pj_up (pj_set (pj_set (pj_up (pj_set (pj_up w) 26 0 0 0)) 26 0 1 0) 26 0 4 1)) 26 0 5 0)) 63 0 0 (-1)) 63 0 1 (-1)) 63 0 2 (-1)) 63 0 3 (-1)) 26 0 6 0 ∧ pj_n w' = 232 ∧ (w' 26 0 0 = 0 ∧ w' 26 0 1 = 0 ∧ w' 26 0 4 = 1 ∧ w' 26 0 5 = 0 ∧ w' 63 0 0 = (-1) ∧ w' 63 0 1 = (-1) ∧ w' 63 0 2 = (-1) ∧ w' 63 0 3 = (-1) ∧ w' 26 0 6 = 0) ∧ ∀ k a s, k ≠ 0 → ¬ (k = 26 ∧ a = 0 ∧ s = 0) → ¬ (k = 26 ∧ a = 0 ∧ s = 1) → ¬ (k = 26 ∧ a = 0 ∧ s = 4) → ¬ (k = 26 ∧ a = 0 ∧ s = 5) → ¬ (k = 63 ∧ a = 0 ∧ s = 0) → ¬ (k = 63 ∧ a = 0 ∧ s = 1) → ¬ (k = 63 ∧ a = 0 ∧ s = 2) → ¬ (k = 63 ∧ a = 0 ∧ s = 3) → ¬ (k = 26 ∧ a = 0 ∧ s = 6) → w' k a s = w k a s := by
  have n1 : pj_n (pj_set (pj_up w) 26 0 0 0) = 229 := vn_s (vn_u hn) (by decide)
  have n2 : pj_n (pj_set (pj_set (pj_up (pj_set (pj_up w) 26 0 0 0)) 26 0 1 0) 26 0 4 1) = 230 := vn_s (vn_s (vn_u n1) (by decide)) (by decide)
  have n3 : pj_n (pj_set (pj_up (pj_set (pj_set (pj_up (pj_set (pj_up w) 26 0 0 0)) 26 0 1 0) 26 0 4 1)) 26 0 5 0) = 231 := vn_s (vn_u n2) (by decide)
  have n4 : pj_n (pj_set (pj_set (pj_set (pj_set (pj_set (pj_up (pj_set (pj_up (pj_set (pj_set (pj_up (pj_set (pj_up w) 26 0 0 0)) 26 0 1 0) 26 0 4 1)) 26 0 5 0)) 63 0 0 (-1)) 63 0 1 (-1)) 63 0 2 (-1)) 63 0 3 (-1)) 26 0 6 0) = 232 := vn_s (vn_s (vn_s (vn_s (vn_s (vn_u n3) (by decide)) (by decide)) (by decide)) (by decide)) (by decide)
  refine ⟨_, rfl, n4, ⟨?_, ?_, ?_, ?_, ?_, ?_, ?_, ?_, ?_⟩, fun k a s g1 c0 c1 c2 c3 c4 c5 c6 c7 c8 => ?_⟩
  · rw [pj_sne (by omega), pj_sne (by omega), pj_sne (by omega), pj_sne (by omega), pj_sne (by omega), vn_e (by decide), pj_sne (by omega), vn_e (by decide), pj_sne (by omega), pj_sne (by omega), vn_e (by decide), pj_set_at]
  · rw [pj_sne (by omega), pj_sne (by omega), pj_sne (by omega), pj_sne (by omega), pj_sne (by omega), vn_e (by decide), pj_sne (by omega), vn_e (by decide), pj_sne (by omega), pj_set_at]
  · rw [pj_sne (by omega), pj_sne (by omega), pj_sne (by omega), pj_sne (by omega), pj_sne (by omega), vn_e (by decide), pj_sne (by omega), vn_e (by decide), pj_set_at]
  · rw [pj_sne (by omega), pj_sne (by omega), pj_sne (by omega), pj_sne (by omega), pj_sne (by omega), vn_e (by decide), pj_set_at]
  · rw [pj_sne (by omega), pj_sne (by omega), pj_sne (by omega), pj_sne (by omega), pj_set_at]
  · rw [pj_sne (by omega), pj_sne (by omega), pj_sne (by omega), pj_set_at]
  · rw [pj_sne (by omega), pj_sne (by omega), pj_set_at]
  · rw [pj_sne (by omega), pj_set_at]
  · rw [pj_set_at]
  · rw [pj_sne c8, pj_sne c7, pj_sne c6, pj_sne c5, pj_sne c4, vn_e g1, pj_sne c3, vn_e g1, pj_sne c2, pj_sne c1, vn_e g1, pj_sne c0, vn_e g1]
theorem vi_M2 {w : pj_W} (hn : pj_n w = 232) : ∃ w', w' = pj_set (pj_up (pj_set (pj_up (pj_set (pj_set (pj_set (pj_up (pj_set (pj_up (pj_set (pj_up w) 26 0 7 0)) 26 0 8 0)) 26 0 9 0) 26 0 16 (-1)) 26 0 17 (-1))) 26 0 22 0)) 26 0 25 0 ∧ pj_n w' = 237 ∧ (w' 26 0 7 = 0 ∧ w' 26 0 8 = 0 ∧ w' 26 0 9 = 0 ∧ w' 26 0 16 = (-1) ∧ w' 26 0 17 = (-1) ∧ w' 26 0 22 = 0 ∧ w' 26 0 25 = 0) ∧ ∀ k a s, k ≠ 0 → ¬ (k = 26 ∧ a = 0 ∧ s = 7) → ¬ (k = 26 ∧ a = 0 ∧ s = 8) → ¬ (k = 26 ∧ a = 0 ∧ s = 9) → ¬ (k = 26 ∧ a = 0 ∧ s = 16) → ¬ (k = 26 ∧ a = 0 ∧ s = 17) → ¬ (k = 26 ∧ a = 0 ∧ s = 22) → ¬ (k = 26 ∧ a = 0 ∧ s = 25) → w' k a s = w k a s := by
  have n1 : pj_n (pj_set (pj_up w) 26 0 7 0) = 233 := vn_s (vn_u hn) (by decide)
  have n2 : pj_n (pj_set (pj_up (pj_set (pj_up w) 26 0 7 0)) 26 0 8 0) = 234 := vn_s (vn_u n1) (by decide)
  have n3 : pj_n (pj_set (pj_set (pj_set (pj_up (pj_set (pj_up (pj_set (pj_up w) 26 0 7 0)) 26 0 8 0)) 26 0 9 0) 26 0 16 (-1)) 26 0 17 (-1)) = 235 := vn_s (vn_s (vn_s (vn_u n2) (by decide)) (by decide)) (by decide)
  have n4 : pj_n (pj_set (pj_up (pj_set (pj_set (pj_set (pj_up (pj_set (pj_up (pj_set (pj_up w) 26 0 7 0)) 26 0 8 0)) 26 0 9 0) 26 0 16 (-1)) 26 0 17 (-1))) 26 0 22 0) = 236 := vn_s (vn_u n3) (by decide)
  have n5 : pj_n (pj_set (pj_up (pj_set (pj_up (pj_set (pj_set (pj_set (pj_up (pj_set (pj_up (pj_set (pj_up w) 26 0 7 0)) 26 0 8 0)) 26 0 9 0) 26 0 16 (-1)) 26 0 17 (-1))) 26 0 22 0)) 26 0 25 0) = 237 := vn_s (vn_u n4) (by decide)
  refine ⟨_, rfl, n5, ⟨?_, ?_, ?_, ?_, ?_, ?_, ?_⟩, fun k a s g1 c0 c1 c2 c3 c4 c5 c6 => ?_⟩
  · rw [pj_sne (by omega), vn_e (by decide), pj_sne (by omega), vn_e (by decide), pj_sne (by omega), pj_sne (by omega), pj_sne (by omega), vn_e (by decide), pj_sne (by omega), vn_e (by decide), pj_set_at]
  · rw [pj_sne (by omega), vn_e (by decide), pj_sne (by omega), vn_e (by decide), pj_sne (by omega), pj_sne (by omega), pj_sne (by omega), vn_e (by decide), pj_set_at]
  · rw [pj_sne (by omega), vn_e (by decide), pj_sne (by omega), vn_e (by decide), pj_sne (by omega), pj_sne (by omega), pj_set_at]
  · rw [pj_sne (by omega), vn_e (by decide), pj_sne (by omega), vn_e (by decide), pj_sne (by omega), pj_set_at]
  · rw [pj_sne (by omega), vn_e (by decide), pj_sne (by omega), vn_e (by decide), pj_set_at]
  · rw [pj_sne (by omega), vn_e (by decide), pj_set_at]
  · rw [pj_set_at]
  · rw [pj_sne c6, vn_e g1, pj_sne c5, vn_e g1, pj_sne c4, pj_sne c3, pj_sne c2, vn_e g1, pj_sne c1, vn_e g1, pj_sne c0, vn_e g1]
theorem vi_M3 {w : pj_W} (hn : pj_n w = 237) : ∃ w', w' = pj_set (pj_up (pj_set (pj_up (pj_set (pj_up (pj_set (pj_up (pj_set (pj_up (pj_set (pj_up w) 26 0 26 0)) 26 0 27 0)) 26 0 28 0)) 26 0 33 0)) 26 0 34 0)) 26 0 35 0 ∧ pj_n w' = 243 ∧ (w' 26 0 26 = 0 ∧ w' 26 0 27 = 0 ∧ w' 26 0 28 = 0 ∧ w' 26 0 33 = 0 ∧ w' 26 0 34 = 0 ∧ w' 26 0 35 = 0) ∧ ∀ k a s, k ≠ 0 → ¬ (k = 26 ∧ a = 0 ∧ s = 26) → ¬ (k = 26 ∧ a = 0 ∧ s = 27) → ¬ (k = 26 ∧ a = 0 ∧ s = 28) → ¬ (k = 26 ∧ a = 0 ∧ s = 33) → ¬ (k = 26 ∧ a = 0 ∧ s = 34) → ¬ (k = 26 ∧ a = 0 ∧ s = 35) → w' k a s = w k a s := by
  have n1 : pj_n (pj_set (pj_up w) 26 0 26 0) = 238 := vn_s (vn_u hn) (by decide)
  have n2 : pj_n (pj_set (pj_up (pj_set (pj_up w) 26 0 26 0)) 26 0 27 0) = 239 := vn_s (vn_u n1) (by decide)
  have n3 : pj_n (pj_set (pj_up (pj_set (pj_up (pj_set (pj_up w) 26 0 26 0)) 26 0 27 0)) 26 0 28 0) = 240 := vn_s (vn_u n2) (by decide)
  have n4 : pj_n (pj_set (pj_up (pj_set (pj_up (pj_set (pj_up (pj_set (pj_up w) 26 0 26 0)) 26 0 27 0)) 26 0 28 0)) 26 0 33 0) = 241 := vn_s (vn_u n3) (by decide)
  have n5 : pj_n (pj_set (pj_up (pj_set (pj_up (pj_set (pj_up (pj_set (pj_up (pj_set (pj_up w) 26 0 26 0)) 26 0 27 0)) 26 0 28 0)) 26 0 33 0)) 26 0 34 0) = 242 := vn_s (vn_u n4) (by decide)
  have n6 : pj_n (pj_set (pj_up (pj_set (pj_up (pj_set (pj_up (pj_set (pj_up (pj_set (pj_up (pj_set (pj_up w) 26 0 26 0)) 26 0 27 0)) 26 0 28 0)) 26 0 33 0)) 26 0 34 0)) 26 0 35 0) = 243 := vn_s (vn_u n5) (by decide)
  refine ⟨_, rfl, n6, ⟨?_, ?_, ?_, ?_, ?_, ?_⟩, fun k a s g1 c0 c1 c2 c3 c4 c5 => ?_⟩
  · rw [pj_sne (by omega), vn_e (by decide), pj_sne (by omega), vn_e (by decide), pj_sne (by omega), vn_e (by decide), pj_sne (by omega), vn_e (by decide), pj_sne (by omega), vn_e (by decide), pj_set_at]
  · rw [pj_sne (by omega), vn_e (by decide), pj_sne (by omega), vn_e (by decide), pj_sne (by omega), vn_e (by decide), pj_sne (by omega), vn_e (by decide), pj_set_at]
  · rw [pj_sne (by omega), vn_e (by decide), pj_sne (by omega), vn_e (by decide), pj_sne (by omega), vn_e (by decide), pj_set_at]
  · rw [pj_sne (by omega), vn_e (by decide), pj_sne (by omega), vn_e (by decide), pj_set_at]
  · rw [pj_sne (by omega), vn_e (by decide), pj_set_at]
  · rw [pj_set_at]
  · rw [pj_sne c5, vn_e g1, pj_sne c4, vn_e g1, pj_sne c3, vn_e g1, pj_sne c2, vn_e g1, pj_sne c1, vn_e g1, pj_sne c0, vn_e g1]
def vi_MF (w : pj_W) : Prop := (w 26 0 0 = 0 ∧ w 26 0 1 = 0 ∧ w 26 0 5 = 0 ∧ w 26 0 6 = 0 ∧ w 26 0 7 = 0 ∧ w 26 0 8 = 0 ∧ w 26 0 9 = 0 ∧ w 26 0 22 = 0) ∧ (w 26 0 25 = 0 ∧ w 26 0 26 = 0 ∧ w 26 0 27 = 0 ∧ w 26 0 28 = 0 ∧ w 26 0 33 = 0 ∧ w 26 0 34 = 0 ∧ w 26 0 35 = 0)
def vi_MI (w : pj_W) : Prop := (w 26 0 4 = 1 ∧ w 26 0 16 = -1 ∧ w 26 0 17 = -1) ∧ (∀ i : Int, 0 ≤ i → i < 4 → w 63 0 i = -1) ∧ ∀ x : Int, 0 ≤ x → x < 1400 → w 60 0 x = if x = 0 then 2 else if x = 3 then 60 else if x = 5 then 1 else if x = 9 then -1 else 0
def vi_My (s : Int) : Prop := s = 0 ∨ s = 1 ∨ s = 4 ∨ (5 ≤ s ∧ s ≤ 9) ∨ s = 16 ∨ s = 17 ∨ s = 22 ∨ (25 ≤ s ∧ s ≤ 28) ∨ (33 ≤ s ∧ s ≤ 35)
theorem vi_M {w : pj_W} (hn : pj_n w = 228) : ∃ w', fM_init_c w = some w' ∧ pj_n w' = 243 ∧ vi_MF w' ∧ vi_MI w' ∧ ∀ k a s, k ≠ 0 → ¬ (k = 26 ∧ a = 0 ∧ vi_My s) → ¬ (k = 63 ∧ a = 0 ∧ 0 ≤ s ∧ s ≤ 3) → ¬ (k = 60 ∧ a = 0 ∧ 0 ≤ s ∧ s < 1400) → w' k a s = w k a s := by
  have t0 : pj_L.getD 228 (0, 0) = (60, 0) := rfl
  have t1 : pj_L.getD 229 (0, 0) = (61, 0) := rfl
  have t2 : pj_L.getD 230 (0, 0) = (62, 0) := rfl
  have t3 : pj_L.getD 231 (0, 0) = (63, 0) := rfl
  have t4 : pj_L.getD 232 (0, 0) = (64, 0) := rfl
  have t5 : pj_L.getD 233 (0, 0) = (65, 0) := rfl
  have t6 : pj_L.getD 234 (0, 0) = (66, 0) := rfl
  have t7 : pj_L.getD 235 (0, 0) = (67, 0) := rfl
  have t8 : pj_L.getD 236 (0, 0) = (68, 0) := rfl
  have t9 : pj_L.getD 237 (0, 0) = (69, 0) := rfl
  have t10 : pj_L.getD 238 (0, 0) = (70, 0) := rfl
  have t11 : pj_L.getD 239 (0, 0) = (71, 0) := rfl
  have t12 : pj_L.getD 240 (0, 0) = (72, 0) := rfl
  have t13 : pj_L.getD 241 (0, 0) = (73, 0) := rfl
  have t14 : pj_L.getD 242 (0, 0) = (74, 0) := rfl
  have m0 : pj_n (pj_set (pj_up w) 26 0 0 0) = 229 := vn_s (vn_u hn) (by decide)
  have m1 : pj_n (pj_set (pj_set (pj_up (pj_set (pj_up w) 26 0 0 0)) 26 0 1 0) 26 0 4 1) = 230 := vn_s (vn_s (vn_u m0) (by decide)) (by decide)
  have m2 : pj_n (pj_set (pj_up (pj_set (pj_set (pj_up (pj_set (pj_up w) 26 0 0 0)) 26 0 1 0) 26 0 4 1)) 26 0 5 0) = 231 := vn_s (vn_u m1) (by decide)
  obtain ⟨w1, E1, N1, ⟨x26_0, x26_1, x26_4, x26_5, x63_0, x63_1, x63_2, x63_3, x26_6⟩, F1⟩ := vi_M1 hn
  have m4 : pj_n (pj_set (pj_up w1) 26 0 7 0) = 233 := vn_s (vn_u N1) (by decide)
  have m5 : pj_n (pj_set (pj_up (pj_set (pj_up w1) 26 0 7 0)) 26 0 8 0) = 234 := vn_s (vn_u m4) (by decide)
  have m6 : pj_n (pj_set (pj_set (pj_set (pj_up (pj_set (pj_up (pj_set (pj_up w1) 26 0 7 0)) 26 0 8 0)) 26 0 9 0) 26 0 16 (-1)) 26 0 17 (-1)) = 235 := vn_s (vn_s (vn_s (vn_u m5) (by decide)) (by decide)) (by decide)
  have m7 : pj_n (pj_set (pj_up (pj_set (pj_set (pj_set (pj_up (pj_set (pj_up (pj_set (pj_up w1) 26 0 7 0)) 26 0 8 0)) 26 0 9 0) 26 0 16 (-1)) 26 0 17 (-1))) 26 0 22 0) = 236 := vn_s (vn_u m6) (by decide)
  obtain ⟨w2, E2, N2, ⟨x26_7, x26_8, x26_9, x26_16, x26_17, x26_22, x26_25⟩, F2⟩ := vi_M2 N1
  have m9 : pj_n (pj_set (pj_up w2) 26 0 26 0) = 238 := vn_s (vn_u N2) (by decide)
  have m10 : pj_n (pj_set (pj_up (pj_set (pj_up w2) 26 0 26 0)) 26 0 27 0) = 239 := vn_s (vn_u m9) (by decide)
  have m11 : pj_n (pj_set (pj_up (pj_set (pj_up (pj_set (pj_up w2) 26 0 26 0)) 26 0 27 0)) 26 0 28 0) = 240 := vn_s (vn_u m10) (by decide)
  have m12 : pj_n (pj_set (pj_up (pj_set (pj_up (pj_set (pj_up (pj_set (pj_up w2) 26 0 26 0)) 26 0 27 0)) 26 0 28 0)) 26 0 33 0) = 241 := vn_s (vn_u m11) (by decide)
  have m13 : pj_n (pj_set (pj_up (pj_set (pj_up (pj_set (pj_up (pj_set (pj_up (pj_set (pj_up w2) 26 0 26 0)) 26 0 27 0)) 26 0 28 0)) 26 0 33 0)) 26 0 34 0) = 242 := vn_s (vn_u m12) (by decide)
  obtain ⟨w3, E3, N3, ⟨x26_26, x26_27, x26_28, x26_33, x26_34, x26_35⟩, F3⟩ := vi_M3 N2
  have e0 : w3 26 0 0 = 0 := by rw [F3 26 0 0 (by decide) (by omega) (by omega) (by omega) (by omega) (by omega) (by omega), F2 26 0 0 (by decide) (by omega) (by omega) (by omega) (by omega) (by omega) (by omega) (by omega)]; exact x26_0
  obtain ⟨w4, b1, b2, b3⟩ := vi_plain e0
  have e4 : w4 26 0 0 = 0 := (b3 26 0 0 (by omega)).trans e0
  have G : ∀ k i s, k ≠ 60 → pj_set (pj_set w4 60 0 0 2) 60 0 3 60 k i s = w3 k i s := fun k i s hk => by rw [pj_sne (by omega), pj_sne (by omega), b3 k i s (by omega)]
  refine ⟨pj_set (pj_set w4 60 0 0 2) 60 0 3 60, ?_, ?_, ⟨⟨?_, ?_, ?_, ?_, ?_, ?_, ?_, ?_⟩, ⟨?_, ?_, ?_, ?_, ?_, ?_, ?_⟩⟩, ⟨⟨?_, ?_, ?_⟩, fun i i0 i1 => ?_, fun x x0 x1 => ?_⟩, fun k a s g1 g2 g3 g4 => ?_⟩
  · unfold fM_init_c
    rw [vn_1 hn t0, vn_0 hn t0, if_pos rfl, if_pos rfl, Option.bind_some, vn_1 m0 t1, vn_0 m0 t1, if_pos rfl, if_pos rfl, Option.bind_some, vn_1 m1 t2, vn_0 m1 t2, if_pos rfl, if_pos rfl, Option.bind_some, vn_1 m2 t3, vn_0 m2 t3, if_pos rfl, if_pos rfl, Option.bind_some, Option.bind_some, ← E1, vn_1 N1 t4, vn_0 N1 t4, if_pos rfl, if_pos rfl, Option.bind_some, vn_1 m4 t5, vn_0 m4 t5, if_pos rfl, if_pos rfl, Option.bind_some, vn_1 m5 t6, vn_0 m5 t6, if_pos rfl, if_pos rfl, Option.bind_some, vn_1 m6 t7, vn_0 m6 t7, if_pos rfl, if_pos rfl, Option.bind_some, vn_1 m7 t8, vn_0 m7 t8, if_pos rfl, if_pos rfl, Option.bind_some, ← E2, vn_1 N2 t9, vn_0 N2 t9, if_pos rfl, if_pos rfl, Option.bind_some, vn_1 m9 t10, vn_0 m9 t10, if_pos rfl, if_pos rfl, Option.bind_some, vn_1 m10 t11, vn_0 m10 t11, if_pos rfl, if_pos rfl, Option.bind_some, vn_1 m11 t12, vn_0 m11 t12, if_pos rfl, if_pos rfl, Option.bind_some, vn_1 m12 t13, vn_0 m12 t13, if_pos rfl, if_pos rfl, Option.bind_some, vn_1 m13 t14, vn_0 m13 t14, if_pos rfl, if_pos rfl, Option.bind_some, ← E3, b1, Option.bind_some]
    rw [e4, if_pos (Int.le_refl 0), pj_sne (by omega), e4, if_pos (Int.le_refl 0)]
  · rw [← N3]; unfold pj_n; rw [G 0 0 0 (by decide)]
  · rw [G 26 0 0 (by decide), F3 26 0 0 (by decide) (by omega) (by omega) (by omega) (by omega) (by omega) (by omega), F2 26 0 0 (by decide) (by omega) (by omega) (by omega) (by omega) (by omega) (by omega) (by omega)]; exact x26_0
  · rw [G 26 0 1 (by decide), F3 26 0 1 (by decide) (by omega) (by omega) (by omega) (by omega) (by omega) (by omega), F2 26 0 1 (by decide) (by omega) (by omega) (by omega) (by omega) (by omega) (by omega) (by omega)]; exact x26_1
  · rw [G 26 0 5 (by decide), F3 26 0 5 (by decide) (by omega) (by omega) (by omega) (by omega) (by omega) (by omega), F2 26 0 5 (by decide) (by omega) (by omega) (by omega) (by omega) (by omega) (by omega) (by omega)]; exact x26_5
  · rw [G 26 0 6 (by decide), F3 26 0 6 (by decide) (by omega) (by omega) (by omega) (by omega) (by omega) (by omega), F2 26 0 6 (by decide) (by omega) (by omega) (by omega) (by omega) (by omega) (by omega) (by omega)]; exact x26_6
  · rw [G 26 0 7 (by decide), F3 26 0 7 (by decide) (by omega) (by omega) (by omega) (by omega) (by omega) (by omega)]; exact x26_7
  · rw [G 26 0 8 (by decide), F3 26 0 8 (by decide) (by omega) (by omega) (by omega) (by omega) (by omega) (by omega)]; exact x26_8
  · rw [G 26 0 9 (by decide), F3 26 0 9 (by decide) (by omega) (by omega) (by omega) (by omega) (by omega) (by omega)]; exact x26_9
  · rw [G 26 0 22 (by decide), F3 26 0 22 (by decide) (by omega) (by omega) (by omega) (by omega) (by omega) (by omega)]; exact x26_22
  · rw [G 26 0 25 (by decide), F3 26 0 25 (by decide) (by omega) (by omega) (by omega) (by omega) (by omega) (by omega)]; exact x26_25
  · rw [G 26 0 26 (by decide)]; exact x26_26
  · rw [G 26 0 27 (by decide)]; exact x26_27
  · rw [G 26 0 28 (by decide)]; exact x26_28
  · rw [G 26 0 33 (by decide)]; exact x26_33
  · rw [G 26 0 34 (by decide)]; exact x26_34
  · rw [G 26 0 35 (by decide)]; exact x26_35
  · rw [G 26 0 4 (by decide), F3 26 0 4 (by decide) (by omega) (by omega) (by omega) (by omega) (by omega) (by omega), F2 26 0 4 (by decide) (by omega) (by omega) (by omega) (by omega) (by omega) (by omega) (by omega)]; exact x26_4
  · rw [G 26 0 16 (by decide), F3 26 0 16 (by decide) (by omega) (by omega) (by omega) (by omega) (by omega) (by omega)]; exact x26_16
  · rw [G 26 0 17 (by decide), F3 26 0 17 (by decide) (by omega) (by omega) (by omega) (by omega) (by omega) (by omega)]; exact x26_17
  · have : i = 0 ∨ i = 1 ∨ i = 2 ∨ i = 3 := by omega
    rcases this with h | h | h | h
    · subst h; rw [G 63 0 0 (by decide), F3 63 0 0 (by decide) (by omega) (by omega) (by omega) (by omega) (by omega) (by omega), F2 63 0 0 (by decide) (by omega) (by omega) (by omega) (by omega) (by omega) (by omega) (by omega)]; exact x63_0
    · subst h; rw [G 63 0 1 (by decide), F3 63 0 1 (by decide) (by omega) (by omega) (by omega) (by omega) (by omega) (by omega), F2 63 0 1 (by decide) (by omega) (by omega) (by omega) (by omega) (by omega) (by omega) (by omega)]; exact x63_1
    · subst h; rw [G 63 0 2 (by decide), F3 63 0 2 (by decide) (by omega) (by omega) (by omega) (by omega) (by omega) (by omega), F2 63 0 2 (by decide) (by omega) (by omega) (by omega) (by omega) (by omega) (by omega) (by omega)]; exact x63_2
    · subst h; rw [G 63 0 3 (by decide), F3 63 0 3 (by decide) (by omega) (by omega) (by omega) (by omega) (by omega) (by omega), F2 63 0 3 (by decide) (by omega) (by omega) (by omega) (by omega) (by omega) (by omega) (by omega)]; exact x63_3
  · by_cases c3 : x = 3
    · subst c3; rw [pj_set_at]; rfl
    · rw [pj_sne (by omega)]
      by_cases c0 : x = 0
      · subst c0; rw [pj_set_at, if_pos rfl]
      · rw [pj_sne (by omega), b2 x x0 x1, if_neg c0, if_neg c3]
  · unfold vi_My at g2
    rw [pj_sne (by omega), pj_sne (by omega), b3 k a s g4, F3 k a s g1 (by omega) (by omega) (by omega) (by omega) (by omega) (by omega), F2 k a s g1 (by omega) (by omega) (by omega) (by omega) (by omega) (by omega) (by omega), F1 k a s g1 (by omega) (by omega) (by omega) (by omega) (by omega) (by omega) (by omega) (by omega) (by omega)]
