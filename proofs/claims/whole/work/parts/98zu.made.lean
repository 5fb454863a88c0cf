/-! WHAT THE CONSTRUCTORS MAKE: round, life, the class (printed by wip/whole/made.py) -/
theorem vi_O {w : pj_W} (hn : pj_n w = 14) : ∃ w', fO_init_c w = some w' ∧ pj_n w' = 20 ∧ (∀ s : Int, 0 ≤ s → s ≤ 5 → w' 17 0 s = 0) ∧ ∀ k a s, k ≠ 0 → ¬ (k = 17 ∧ a = 0 ∧ s ≤ 5) → w' k a s = w k a s := by
  have n1 : pj_n (pj_set (pj_up w) 17 0 0 0) = 15 := vn_s (vn_u hn) (by decide)
  have n2 : pj_n (pj_set (pj_up (pj_set (pj_up w) 17 0 0 0)) 17 0 1 0) = 16 := vn_s (vn_u n1) (by decide)
  have n3 : pj_n (pj_set (pj_up (pj_set (pj_up (pj_set (pj_up w) 17 0 0 0)) 17 0 1 0)) 17 0 2 0) = 17 := vn_s (vn_u n2) (by decide)
  have n4 : pj_n (pj_set (pj_up (pj_set (pj_up (pj_set (pj_up (pj_set (pj_up w) 17 0 0 0)) 17 0 1 0)) 17 0 2 0)) 17 0 3 0) = 18 := vn_s (vn_u n3) (by decide)
  have n5 : pj_n (pj_set (pj_up (pj_set (pj_up (pj_set (pj_up (pj_set (pj_up (pj_set (pj_up w) 17 0 0 0)) 17 0 1 0)) 17 0 2 0)) 17 0 3 0)) 17 0 4 0) = 19 := vn_s (vn_u n4) (by decide)
  have n6 : pj_n (pj_set (pj_up (pj_set (pj_up (pj_set (pj_up (pj_set (pj_up (pj_set (pj_up (pj_set (pj_up w) 17 0 0 0)) 17 0 1 0)) 17 0 2 0)) 17 0 3 0)) 17 0 4 0)) 17 0 5 0) = 20 := vn_s (vn_u n5) (by decide)
  refine ⟨pj_set (pj_up (pj_set (pj_up (pj_set (pj_up (pj_set (pj_up (pj_set (pj_up (pj_set (pj_up w) 17 0 0 0)) 17 0 1 0)) 17 0 2 0)) 17 0 3 0)) 17 0 4 0)) 17 0 5 0, ?_, n6, fun s s0 s1 => ?_, fun k a s g1 g2 => ?_⟩
  · have t : pj_L.getD 14 (0, 0) = (36, 0) := rfl
    have t1 : pj_L.getD 15 (0, 0) = (37, 0) := rfl
    have t2 : pj_L.getD 16 (0, 0) = (38, 0) := rfl
    have t3 : pj_L.getD 17 (0, 0) = (39, 0) := rfl
    have t4 : pj_L.getD 18 (0, 0) = (40, 0) := rfl
    have t5 : pj_L.getD 19 (0, 0) = (41, 0) := rfl
    unfold fO_init_c
    rw [vn_1 hn t, vn_0 hn t, if_pos rfl, if_pos rfl, Option.bind_some, vn_1 n1 t1, vn_0 n1 t1, if_pos rfl, if_pos rfl, Option.bind_some, vn_1 n2 t2, vn_0 n2 t2, if_pos rfl, if_pos rfl, Option.bind_some, vn_1 n3 t3, vn_0 n3 t3, if_pos rfl, if_pos rfl, Option.bind_some, vn_1 n4 t4, vn_0 n4 t4, if_pos rfl, if_pos rfl, Option.bind_some, vn_1 n5 t5, vn_0 n5 t5, if_pos rfl, if_pos rfl, Option.bind_some]
  · have : s = 0 ∨ s = 1 ∨ s = 2 ∨ s = 3 ∨ s = 4 ∨ s = 5 := by omega
    rcases this with h | h | h | h | h | h
    · subst h; rw [pj_sne (by omega), vn_e (by decide), pj_sne (by omega), vn_e (by decide), pj_sne (by omega), vn_e (by decide), pj_sne (by omega), vn_e (by decide), pj_sne (by omega), vn_e (by decide), pj_set_at]
    · subst h; rw [pj_sne (by omega), vn_e (by decide), pj_sne (by omega), vn_e (by decide), pj_sne (by omega), vn_e (by decide), pj_sne (by omega), vn_e (by decide), pj_set_at]
    · subst h; rw [pj_sne (by omega), vn_e (by decide), pj_sne (by omega), vn_e (by decide), pj_sne (by omega), vn_e (by decide), pj_set_at]
    · subst h; rw [pj_sne (by omega), vn_e (by decide), pj_sne (by omega), vn_e (by decide), pj_set_at]
    · subst h; rw [pj_sne (by omega), vn_e (by decide), pj_set_at]
    · subst h; rw [pj_set_at]
  · rw [pj_sne (by omega), vn_e g1, pj_sne (by omega), vn_e g1, pj_sne (by omega), vn_e g1, pj_sne (by omega), vn_e g1, pj_sne (by omega), vn_e g1, pj_sne (by omega), vn_e g1]
theorem vi_L {w : pj_W} (hn : pj_n w = 21) : ∃ w', fL_init_c w = some w' ∧ pj_n w' = 23 ∧ (∀ s : Int, 0 ≤ s → s ≤ 1 → w' 18 0 s = 0) ∧ ∀ k a s, k ≠ 0 → ¬ (k = 18 ∧ a = 0 ∧ s ≤ 1) → w' k a s = w k a s := by
  have n1 : pj_n (pj_set (pj_up w) 18 0 0 0) = 22 := vn_s (vn_u hn) (by decide)
  have n2 : pj_n (pj_set (pj_up (pj_set (pj_up w) 18 0 0 0)) 18 0 1 0) = 23 := vn_s (vn_u n1) (by decide)
  refine ⟨pj_set (pj_up (pj_set (pj_up w) 18 0 0 0)) 18 0 1 0, ?_, n2, fun s s0 s1 => ?_, fun k a s g1 g2 => ?_⟩
  · have t : pj_L.getD 21 (0, 0) = (42, 0) := rfl
    have t1 : pj_L.getD 22 (0, 0) = (43, 0) := rfl
    unfold fL_init_c
    rw [vn_1 hn t, vn_0 hn t, if_pos rfl, if_pos rfl, Option.bind_some, vn_1 n1 t1, vn_0 n1 t1, if_pos rfl, if_pos rfl, Option.bind_some]
  · have : s = 0 ∨ s = 1 := by omega
    rcases this with h | h
    · subst h; rw [pj_sne (by omega), vn_e (by decide), pj_set_at]
    · subst h; rw [pj_set_at]
  · rw [pj_sne (by omega), vn_e g1, pj_sne (by omega), vn_e g1]
/-- the class's constructor behind its first cells -/
noncomputable def vi_XB (w : pj_W) : Option (pj_W) := if pj_nk w = 19 then (if 0 ≤ (pj_nx w) then ((some (pj_up w)).bind fun w40 => ((fB_init_c (pj_nx w) w40).bind fun p41 => (if pj_nk (pj_set p41 10 0 10 (pj_nx w)) = 19 then (if 0 ≤ (pj_nx (pj_set p41 10 0 10 (pj_nx w))) then ((some (pj_up (pj_set p41 10 0 10 (pj_nx w)))).bind fun w45 => ((fB_init_c (pj_nx (pj_set p41 10 0 10 (pj_nx w))) w45).bind fun p46 => (if pj_nk (pj_set p46 10 0 11 (pj_nx (pj_set p41 10 0 10 (pj_nx w)))) = 24 then (if 0 ≤ (pj_nx (pj_set p46 10 0 11 (pj_nx (pj_set p41 10 0 10 (pj_nx w))))) then ((some (pj_up (pj_set p46 10 0 11 (pj_nx (pj_set p41 10 0 10 (pj_nx w)))))).bind fun w50 => ((fD_init_c (pj_nx (pj_set p46 10 0 11 (pj_nx (pj_set p41 10 0 10 (pj_nx w))))) w50).bind fun p51 => ((some (pj_set p51 10 0 12 (pj_nx (pj_set p46 10 0 11 (pj_nx (pj_set p41 10 0 10 (pj_nx w))))))).bind fun w53 => (if pj_nk w53 = 24 then (if 0 ≤ (pj_nx w53) then ((some (pj_up w53)).bind fun w56 => ((fD_init_c (pj_nx w53) w56).bind fun p57 => (fX_init_c_149 (0, (pj_set (pj_set p57 10 0 13 (pj_nx w53)) 10 0 17 1))))) else none) else none)))) else none) else none))) else none) else none))) else none) else none
theorem vi_XA {w : pj_W} (hn : pj_n w = 1) : ∃ w', fX_init_c w = vi_XB w' ∧ pj_n w' = 24 ∧ (∀ s : Int, 0 ≤ s → s ≤ 8 → w' 10 0 s = 0) ∧ (∀ s : Int, 0 ≤ s → s ≤ 4 → w' 12 0 s = 0) ∧ (w' 12 0 6 = -1 ∧ w' 12 0 7 = -1) ∧ tk_W w' ∧ (w' 13 0 0 = 0 ∧ w' 14 0 0 = 0 ∧ w' 14 0 1 = 0) ∧ (∀ s : Int, 0 ≤ s → s ≤ 5 → w' 17 0 s = 0) ∧ (∀ s : Int, 0 ≤ s → s ≤ 1 → w' 18 0 s = 0) ∧ ∀ k a s, k ≠ 0 → k ≠ 34 → ¬ (k = 10 ∧ a = 0 ∧ s ≤ 8) → ¬ (k = 12 ∧ a = 0 ∧ (s ≤ 4 ∨ s = 6 ∨ s = 7)) → ¬ (k = 13 ∧ a = 0 ∧ s = 0) → ¬ (k = 14 ∧ a = 0 ∧ (s = 0 ∨ s = 1)) → ¬ (k = 17 ∧ a = 0 ∧ s ≤ 5) → ¬ (k = 18 ∧ a = 0 ∧ s ≤ 1) → w' k a s = w k a s := by
  have t1 : pj_L.getD 1 (0, 0) = (11, 0) := rfl
  have t2 : pj_L.getD 2 (0, 0) = (12, 0) := rfl
  have t8 : pj_L.getD 8 (0, 0) = (13, 0) := rfl
  have t9 : pj_L.getD 9 (0, 0) = (14, 0) := rfl
  have t10 : pj_L.getD 10 (0, 0) = (35, 0) := rfl
  have t11 : pj_L.getD 11 (0, 0) = (15, 0) := rfl
  have t12 : pj_L.getD 12 (0, 0) = (16, 0) := rfl
  have t13 : pj_L.getD 13 (0, 0) = (17, 0) := rfl
  have t20 : pj_L.getD 20 (0, 0) = (18, 0) := rfl
  have t23 : pj_L.getD 23 (0, 0) = (44, 0) := rfl
  have n2 : pj_n (pj_set (pj_up w) 10 0 0 0) = 2 := vn_s (vn_u hn) (by decide)
  obtain ⟨p7, r1, r2, r3, r4, r5, r6⟩ := vi_R (w := pj_up (pj_set (pj_up w) 10 0 0 0)) (vn_u n2)
  have n8 : pj_n (pj_set p7 10 0 1 0) = 8 := vn_s r2 (by decide)
  have q1 : (pj_up (pj_set p7 10 0 1 0)) 10 0 1 = 0 := by rw [vn_e (by decide), pj_set_at]
  have b1 : fBT_init_c ((pj_up (pj_set p7 10 0 1 0)) 10 0 1) (pj_up (pj_set p7 10 0 1 0)) = some (pj_set (pj_up (pj_set p7 10 0 1 0)) 13 0 0 0) := by unfold fBT_init_c; rw [q1]
  have n9 : pj_n (pj_set (pj_set (pj_up (pj_set p7 10 0 1 0)) 13 0 0 0) 10 0 2 0) = 9 := vn_s (vn_s (vn_u n8) (by decide)) (by decide)
  have n10 : pj_n (pj_up (pj_set (pj_set (pj_up (pj_set p7 10 0 1 0)) 13 0 0 0) 10 0 2 0)) = 10 := vn_u n9
  have q2 : (pj_up (pj_set (pj_set (pj_up (pj_set p7 10 0 1 0)) 13 0 0 0) 10 0 2 0)) 10 0 1 = 0 := by rw [vn_e (by decide), pj_sne (by omega), pj_sne (by omega), vn_e (by decide), pj_set_at]
  have b2 : fDT_init_c ((pj_up (pj_set (pj_set (pj_up (pj_set p7 10 0 1 0)) 13 0 0 0) 10 0 2 0)) 10 0 1) (pj_up (pj_set (pj_set (pj_up (pj_set p7 10 0 1 0)) 13 0 0 0) 10 0 2 0)) = some (pj_set (pj_set (pj_up (pj_up (pj_set (pj_set (pj_up (pj_set p7 10 0 1 0)) 13 0 0 0) 10 0 2 0))) 14 0 1 0) 14 0 0 0) := by unfold fDT_init_c; rw [q2, vn_1 n10 t10, vn_0 n10 t10, if_pos rfl, if_pos rfl, Option.bind_some]
  have n11 : pj_n (pj_set (pj_set (pj_set (pj_up (pj_up (pj_set (pj_set (pj_up (pj_set p7 10 0 1 0)) 13 0 0 0) 10 0 2 0))) 14 0 1 0) 14 0 0 0) 10 0 3 0) = 11 := vn_s (vn_s (vn_s (vn_u n10) (by decide)) (by decide)) (by decide)
  have n12 : pj_n (pj_set (pj_up (pj_set (pj_set (pj_set (pj_up (pj_up (pj_set (pj_set (pj_up (pj_set p7 10 0 1 0)) 13 0 0 0) 10 0 2 0))) 14 0 1 0) 14 0 0 0) 10 0 3 0)) 10 0 4 0) = 12 := vn_s (vn_u n11) (by decide)
  have n13 : pj_n (pj_set (pj_up (pj_set (pj_up (pj_set (pj_set (pj_set (pj_up (pj_up (pj_set (pj_set (pj_up (pj_set p7 10 0 1 0)) 13 0 0 0) 10 0 2 0))) 14 0 1 0) 14 0 0 0) 10 0 3 0)) 10 0 4 0)) 10 0 5 0) = 13 := vn_s (vn_u n12) (by decide)
  obtain ⟨p28, o1, o2, o3, o4⟩ := vi_O (w := pj_up (pj_set (pj_up (pj_set (pj_up (pj_set (pj_set (pj_set (pj_up (pj_up (pj_set (pj_set (pj_up (pj_set p7 10 0 1 0)) 13 0 0 0) 10 0 2 0))) 14 0 1 0) 14 0 0 0) 10 0 3 0)) 10 0 4 0)) 10 0 5 0)) (vn_u n13)
  have n20 : pj_n (pj_set p28 10 0 6 0) = 20 := vn_s o2 (by decide)
  obtain ⟨p33, l1, l2, l3, l4⟩ := vi_L (w := pj_up (pj_set p28 10 0 6 0)) (vn_u n20)
  have n23 : pj_n (pj_set p33 10 0 7 0) = 23 := vn_s l2 (by decide)
  refine ⟨pj_set (pj_up (pj_set p33 10 0 7 0)) 10 0 8 0, ?_, vn_s (vn_u n23) (by decide), fun s s0 s1 => ?_, fun s s0 s1 => ?_, ⟨?_, ?_⟩, fun i hi => ?_, ⟨?_, ?_, ?_⟩, fun s s0 s1 => ?_, fun s s0 s1 => ?_, fun k a s g1 g2 g3 g4 g5 g6 g7 g8 => ?_⟩
  · unfold fX_init_c
    rw [vn_1 hn t1, vn_0 hn t1, if_pos rfl, if_pos rfl, Option.bind_some, vn_1 n2 t2, vn_0 n2 t2, if_pos rfl, if_pos rfl, Option.bind_some, r1, Option.bind_some, vn_1 n8 t8, vn_0 n8 t8, if_pos rfl, if_pos rfl, Option.bind_some, b1, Option.bind_some, vn_1 n9 t9, vn_0 n9 t9, if_pos rfl, if_pos rfl, Option.bind_some, b2, Option.bind_some, vn_1 n11 t11, vn_0 n11 t11, if_pos rfl, if_pos rfl, Option.bind_some, vn_1 n12 t12, vn_0 n12 t12, if_pos rfl, if_pos rfl, Option.bind_some, vn_1 n13 t13, vn_0 n13 t13, if_pos rfl, if_pos rfl, Option.bind_some, o1, Option.bind_some, vn_1 n20 t20, vn_0 n20 t20, if_pos rfl, if_pos rfl, Option.bind_some, l1, Option.bind_some, vn_1 n23 t23, vn_0 n23 t23, if_pos rfl, if_pos rfl, Option.bind_some]
    rfl
  · have : s = 0 ∨ s = 1 ∨ s = 2 ∨ s = 3 ∨ s = 4 ∨ s = 5 ∨ s = 6 ∨ s = 7 ∨ s = 8 := by omega
    rcases this with h | h | h | h | h | h | h | h | h
    · subst h; rw [pj_sne (by omega), vn_e (by decide), pj_sne (by omega), l4 10 0 _ (by decide) (by omega), vn_e (by decide), pj_sne (by omega), o4 10 0 _ (by decide) (by omega), vn_e (by decide), pj_sne (by omega), vn_e (by decide), pj_sne (by omega), vn_e (by decide), pj_sne (by omega), pj_sne (by omega), pj_sne (by omega), vn_e (by decide), vn_e (by decide), pj_sne (by omega), pj_sne (by omega), vn_e (by decide), pj_sne (by omega), r6 10 0 _ (by decide) (by omega) (by omega), vn_e (by decide), pj_set_at]
    · subst h; rw [pj_sne (by omega), vn_e (by decide), pj_sne (by omega), l4 10 0 _ (by decide) (by omega), vn_e (by decide), pj_sne (by omega), o4 10 0 _ (by decide) (by omega), vn_e (by decide), pj_sne (by omega), vn_e (by decide), pj_sne (by omega), vn_e (by decide), pj_sne (by omega), pj_sne (by omega), pj_sne (by omega), vn_e (by decide), vn_e (by decide), pj_sne (by omega), pj_sne (by omega), vn_e (by decide), pj_set_at]
    · subst h; rw [pj_sne (by omega), vn_e (by decide), pj_sne (by omega), l4 10 0 _ (by decide) (by omega), vn_e (by decide), pj_sne (by omega), o4 10 0 _ (by decide) (by omega), vn_e (by decide), pj_sne (by omega), vn_e (by decide), pj_sne (by omega), vn_e (by decide), pj_sne (by omega), pj_sne (by omega), pj_sne (by omega), vn_e (by decide), vn_e (by decide), pj_set_at]
    · subst h; rw [pj_sne (by omega), vn_e (by decide), pj_sne (by omega), l4 10 0 _ (by decide) (by omega), vn_e (by decide), pj_sne (by omega), o4 10 0 _ (by decide) (by omega), vn_e (by decide), pj_sne (by omega), vn_e (by decide), pj_sne (by omega), vn_e (by decide), pj_set_at]
    · subst h; rw [pj_sne (by omega), vn_e (by decide), pj_sne (by omega), l4 10 0 _ (by decide) (by omega), vn_e (by decide), pj_sne (by omega), o4 10 0 _ (by decide) (by omega), vn_e (by decide), pj_sne (by omega), vn_e (by decide), pj_set_at]
    · subst h; rw [pj_sne (by omega), vn_e (by decide), pj_sne (by omega), l4 10 0 _ (by decide) (by omega), vn_e (by decide), pj_sne (by omega), o4 10 0 _ (by decide) (by omega), vn_e (by decide), pj_set_at]
    · subst h; rw [pj_sne (by omega), vn_e (by decide), pj_sne (by omega), l4 10 0 _ (by decide) (by omega), vn_e (by decide), pj_set_at]
    · subst h; rw [pj_sne (by omega), vn_e (by decide), pj_set_at]
    · subst h; rw [pj_set_at]
  · rw [pj_sne (by omega), vn_e (by decide), pj_sne (by omega), l4 12 0 _ (by decide) (by omega), vn_e (by decide), pj_sne (by omega), o4 12 0 _ (by decide) (by omega), vn_e (by decide), pj_sne (by omega), vn_e (by decide), pj_sne (by omega), vn_e (by decide), pj_sne (by omega), pj_sne (by omega), pj_sne (by omega), vn_e (by decide), vn_e (by decide), pj_sne (by omega), pj_sne (by omega), vn_e (by decide), pj_sne (by omega)]
    have : s = 0 ∨ s = 1 ∨ s = 2 ∨ s = 3 ∨ s = 4 := by omega
    rcases this with h | h | h | h | h
    · subst h; exact r3.1
    · subst h; exact r3.2.1
    · subst h; exact r3.2.2.1
    · subst h; exact r3.2.2.2.1
    · subst h; exact r3.2.2.2.2
  · rw [pj_sne (by omega), vn_e (by decide), pj_sne (by omega), l4 12 0 _ (by decide) (by omega), vn_e (by decide), pj_sne (by omega), o4 12 0 _ (by decide) (by omega), vn_e (by decide), pj_sne (by omega), vn_e (by decide), pj_sne (by omega), vn_e (by decide), pj_sne (by omega), pj_sne (by omega), pj_sne (by omega), vn_e (by decide), vn_e (by decide), pj_sne (by omega), pj_sne (by omega), vn_e (by decide), pj_sne (by omega)]; exact r4.1
  · rw [pj_sne (by omega), vn_e (by decide), pj_sne (by omega), l4 12 0 _ (by decide) (by omega), vn_e (by decide), pj_sne (by omega), o4 12 0 _ (by decide) (by omega), vn_e (by decide), pj_sne (by omega), vn_e (by decide), pj_sne (by omega), vn_e (by decide), pj_sne (by omega), pj_sne (by omega), pj_sne (by omega), vn_e (by decide), vn_e (by decide), pj_sne (by omega), pj_sne (by omega), vn_e (by decide), pj_sne (by omega)]; exact r4.2
  · rw [pj_sne (by omega), vn_e (by decide), pj_sne (by omega), l4 34 0 _ (by decide) (by omega), vn_e (by decide), pj_sne (by omega), o4 34 0 _ (by decide) (by omega), vn_e (by decide), pj_sne (by omega), vn_e (by decide), pj_sne (by omega), vn_e (by decide), pj_sne (by omega), pj_sne (by omega), pj_sne (by omega), vn_e (by decide), vn_e (by decide), pj_sne (by omega), pj_sne (by omega), vn_e (by decide), pj_sne (by omega)]; exact r5 i hi
  · rw [pj_sne (by omega), vn_e (by decide), pj_sne (by omega), l4 13 0 _ (by decide) (by omega), vn_e (by decide), pj_sne (by omega), o4 13 0 _ (by decide) (by omega), vn_e (by decide), pj_sne (by omega), vn_e (by decide), pj_sne (by omega), vn_e (by decide), pj_sne (by omega), pj_sne (by omega), pj_sne (by omega), vn_e (by decide), vn_e (by decide), pj_sne (by omega), pj_set_at]
  · rw [pj_sne (by omega), vn_e (by decide), pj_sne (by omega), l4 14 0 _ (by decide) (by omega), vn_e (by decide), pj_sne (by omega), o4 14 0 _ (by decide) (by omega), vn_e (by decide), pj_sne (by omega), vn_e (by decide), pj_sne (by omega), vn_e (by decide), pj_sne (by omega), pj_set_at]
  · rw [pj_sne (by omega), vn_e (by decide), pj_sne (by omega), l4 14 0 _ (by decide) (by omega), vn_e (by decide), pj_sne (by omega), o4 14 0 _ (by decide) (by omega), vn_e (by decide), pj_sne (by omega), vn_e (by decide), pj_sne (by omega), vn_e (by decide), pj_sne (by omega), pj_sne (by omega), pj_set_at]
  · rw [pj_sne (by omega), vn_e (by decide), pj_sne (by omega), l4 17 0 _ (by decide) (by omega), vn_e (by decide), pj_sne (by omega)]; exact o3 s s0 s1
  · rw [pj_sne (by omega), vn_e (by decide), pj_sne (by omega)]; exact l3 s s0 s1
  · rw [pj_sne (by omega), vn_e g1, pj_sne (by omega), l4 k a s g1 (by omega), vn_e g1, pj_sne (by omega), o4 k a s g1 (by omega), vn_e g1, pj_sne (by omega), vn_e g1, pj_sne (by omega), vn_e g1, pj_sne (by omega), pj_sne (by omega), pj_sne (by omega), vn_e g1, vn_e g1, pj_sne (by omega), pj_sne (by omega), vn_e g1, pj_sne (by omega), r6 k a s g1 (by omega) (by omega), vn_e g1, pj_sne (by omega), vn_e g1]
