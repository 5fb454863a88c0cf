/-! WHAT THE CONSTRUCTORS MAKE: the reader -/
def vi_ws (m : Nat) : Nat := [0, 6, 11, 16, 23, 26, 31, 39, 44, 50, 57, 60, 63, 68, 73, 79, 84, 90, 93, 96, 100, 105, 110, 115, 120, 125, 131, 136, 141, 145, 150].getD m 0
theorem vi_ws_d : ∀ m : Fin 30, vi_ws (m.val + 1) = vi_ws m.val + (tk_w m.val).length + 1 ∧ vi_ws m.val + (tk_w m.val).length + 1 ≤ 150 := by decide +kernel
theorem vi_ch_d : ∀ m : Fin 30, ∀ i : Fin 9, (i.val < (tk_w m.val).length → pj_and (pj_sb 1 ((vi_ws m.val + i.val : Nat) : Int)) 255 % 65536 = (((tk_w m.val).getD i.val 0 : Nat) : Int)) ∧ (i.val = (tk_w m.val).length → pj_and (pj_sb 1 ((vi_ws m.val + i.val : Nat) : Int)) 255 % 65536 = 32) := by decide +kernel
theorem vi_len (w : pj_W) : fStr_length5 w = some 150 := by
  have el : fStr_coder5 w = some 0 := rfl
  unfold fStr_length5
  rw [el, Option.bind_some]
  have : pj_shr 150 0 = 150 := by decide +kernel
  rw [this]
theorem vi_char {j c : Int} (w : pj_W) (h0 : 0 ≤ j) (h1 : j < 150) (hc : pj_and (pj_sb 1 j) 255 % 65536 = c) (c0 : 0 ≤ c) (c1 : c < 65536) : fStr_charAt5 j w = some c := by
  have ec : fStr_checkIndex j 150 w = some () := by
    unfold fStr_checkIndex fPre_checkIndex
    rw [if_neg (by omega), if_pos h1, Option.bind_some]
  have el : fStr_isLatin15 w = some 1 := rfl
  unfold fStr_charAt5 fS1_charAt5
  rw [el, Option.bind_some, if_neg (by decide), ec, Option.bind_some, if_pos ⟨h0, h1⟩, hc, if_pos ⟨c0, c1⟩, Option.bind_some, if_pos ⟨c0, c1⟩]
theorem vi_pw : ∀ j : Fin 9, (32 : Int) ^ j.val ≤ 1099511627776 := by decide +kernel
/-- the letters of a word -/
theorem vi_w1 {m : Nat} (hm : m < 30) (w : pj_W) : ∀ r j : Nat, j + r = (tk_w m).length → fR_init_c_65 ((m : Int), pj_n5 ((tk_w m).take j), ((vi_ws m + j : Nat) : Int), w) = fR_init_c_65 ((m : Int), pj_n5 (tk_w m), ((vi_ws m + (tk_w m).length : Nat) : Int), w) := by
  intro r
  induction r with
  | zero =>
    intro j hj
    have : j = (tk_w m).length := by omega
    subst this
    rw [List.take_length]
  | succ r ih =>
    intro j hj
    rw [← ih (j + 1) (by omega)]
    obtain ⟨q1, q2, q3⟩ := tk_w_nc ⟨m, hm⟩
    dsimp only at q1 q2 q3
    obtain ⟨d1, d2⟩ := vi_ws_d ⟨m, hm⟩
    dsimp only at d1 d2
    have hc := (vi_ch_d ⟨m, hm⟩ ⟨j, by omega⟩).1 (by dsimp only; omega)
    dsimp only at hc
    have hj2 : j < (tk_w m).length := by omega
    have hg : (tk_w m).getD j 0 = (tk_w m)[j] := by rw [List.getD_eq_getElem?_getD, List.getElem?_eq_getElem hj2, Option.getD_some]
    have hin := q3 _ (List.getElem_mem hj2)
    have ht : (tk_w m).take (j + 1) = (tk_w m).take j ++ [(tk_w m)[j]] := by
      rw [List.take_add_one, List.getElem?_eq_getElem hj2]
      rfl
    have hb := pj_n5_b j ((tk_w m).take j) (by rw [List.length_take]; omega) (fun x hx => q3 x (List.mem_of_mem_take hx))
    have hp := vi_pw ⟨j, by omega⟩
    dsimp only at hp
    rw [ht, pj_n5_s]
    unfold fR_init_c_65
    refine pj_Lp_st ?_
    show fR_init_c_65b (m : Int) (pj_n5 ((tk_w m).take j)) ((vi_ws m + j : Nat) : Int) w = _
    unfold fR_init_c_65b fR_pack fR_init_c_119
    rw [vi_len, Option.bind_some, if_neg (by omega), if_neg (by omega), vi_char w (by omega) (by omega) hc (by omega) (by rw [hg]; omega), Option.bind_some, if_neg (by rw [hg]; omega), Option.bind_some, hg, pj_wl_id (x := pj_n5 ((tk_w m).take j) * 32) (by omega) (by omega), pj_wr_id (x := (((tk_w m)[j] : Nat) : Int) - 97) (by omega) (by omega), pj_wr_id (x := (((tk_w m)[j] : Nat) : Int) - 97 + 1) (by omega) (by omega), pj_wl_id (by omega) (by omega), pj_wr_id (x := ((vi_ws m + j : Nat) : Int) + 1) (by omega) (by omega), show pj_n5 ((tk_w m).take j) * 32 + ((((tk_w m)[j] : Nat) : Int) - 97 + 1) = pj_n5 ((tk_w m).take j) * 32 + ((((tk_w m)[j] : Nat) : Int) - 96) by omega]
    rfl
/-- word by word -/
theorem vi_w2 : ∀ r m : Nat, m + r = 30 → ∀ w : pj_W, w 12 0 4 = 0 → ∃ w', fR_init_c_65 ((m : Int), 0, ((vi_ws m : Nat) : Int), w) = some w' ∧ (∀ i : Nat, m ≤ i → i < 30 → w' 34 0 i = pj_n5 (tk_w i)) ∧ ∀ k a s, ¬ (k = 34 ∧ a = 0 ∧ (m : Int) ≤ s) → w' k a s = w k a s := by
  intro r
  induction r with
  | zero =>
    intro m hm w h4
    have : m = 30 := by omega
    subst this
    refine ⟨w, ?_, fun i i0 i1 => by omega, fun _ _ _ _ => rfl⟩
    unfold fR_init_c_65
    refine pj_Lp_end ?_
    show fR_init_c_65b 30 0 150 w = _
    unfold fR_init_c_65b
    rw [vi_len, Option.bind_some, if_pos (by decide)]
  | succ r ih =>
    intro m hm w h4
    obtain ⟨q1, q2, q3⟩ := tk_w_nc ⟨m, by omega⟩
    dsimp only at q1 q2 q3
    obtain ⟨d1, d2⟩ := vi_ws_d ⟨m, by omega⟩
    dsimp only at d1 d2
    have hc := (vi_ch_d ⟨m, by omega⟩ ⟨(tk_w m).length, by omega⟩).2 rfl
    dsimp only at hc
    obtain ⟨w', a1, a2, a3⟩ := ih (m + 1) (by omega) (pj_set w 34 0 (m : Int) (pj_n5 (tk_w m))) (by rw [pj_sne (by omega)]; exact h4)
    refine ⟨w', ?_, fun i i0 i1 => ?_, fun k a s g => ?_⟩
    · have h1 := vi_w1 (by omega) w (tk_w m).length 0 (by omega) (m := m)
      rw [List.take_zero, Nat.add_zero] at h1
      have h0 : pj_n5 [] = 0 := rfl
      rw [h0] at h1
      rw [h1, ← a1]
      unfold fR_init_c_65
      refine pj_Lp_st ?_
      show fR_init_c_65b (m : Int) (pj_n5 (tk_w m)) ((vi_ws m + (tk_w m).length : Nat) : Int) w = _
      unfold fR_init_c_65b fR_init_c_119
      rw [vi_len, Option.bind_some, if_neg (by omega), if_neg (by omega), vi_char w (by omega) (by omega) hc (by decide) (by decide), Option.bind_some, if_pos rfl, h4, if_pos (Int.le_refl 0), if_pos (by omega), pj_wr_id (x := (m : Int) + 1) (by omega) (by omega), pj_wr_id (x := ((vi_ws m + (tk_w m).length : Nat) : Int) + 1) (by omega) (by omega), show ((vi_ws m + (tk_w m).length : Nat) : Int) + 1 = ((vi_ws (m + 1) : Nat) : Int) by omega]
      rfl
    · by_cases e : i = m
      · subst e
        rw [a3 34 0 (i : Int) (by omega), pj_set_at]
      · exact a2 i (by omega) i1
    · rw [a3 k a s (by omega), pj_sne (by omega)]
theorem vi_R {w : pj_W} (hn : pj_n w = 3) : ∃ w', fR_init_c w = some w' ∧ pj_n w' = 8 ∧ (w' 12 0 0 = 0 ∧ w' 12 0 1 = 0 ∧ w' 12 0 2 = 0 ∧ w' 12 0 3 = 0 ∧ w' 12 0 4 = 0) ∧ (w' 12 0 6 = -1 ∧ w' 12 0 7 = -1) ∧ tk_W w' ∧ ∀ k a s, k ≠ 0 → k ≠ 34 → ¬ (k = 12 ∧ a = 0 ∧ (s ≤ 4 ∨ s = 6 ∨ s = 7)) → w' k a s = w k a s := by
  have n1 : pj_n (pj_set (pj_up w) 12 0 0 0) = 4 := vn_s (vn_u hn) (by decide)
  have n2 : pj_n (pj_set (pj_up (pj_set (pj_up w) 12 0 0 0)) 12 0 1 0) = 5 := vn_s (vn_u n1) (by decide)
  have n3 : pj_n (pj_set (pj_up (pj_set (pj_up (pj_set (pj_up w) 12 0 0 0)) 12 0 1 0)) 12 0 2 0) = 6 := vn_s (vn_u n2) (by decide)
  have n4 : pj_n (pj_set (pj_up (pj_set (pj_up (pj_set (pj_up (pj_set (pj_up w) 12 0 0 0)) 12 0 1 0)) 12 0 2 0)) 12 0 3 0) = 7 := vn_s (vn_u n3) (by decide)
  have n5 : pj_n (pj_set (pj_set (pj_set (pj_up (pj_set (pj_up (pj_set (pj_up (pj_set (pj_up (pj_set (pj_up w) 12 0 0 0)) 12 0 1 0)) 12 0 2 0)) 12 0 3 0)) 12 0 4 0) 12 0 6 (-1)) 12 0 7 (-1)) = 8 := vn_s (vn_s (vn_s (vn_u n4) (by decide)) (by decide)) (by decide)
  have f : ∀ k a s, k ≠ 0 → ¬ (k = 12 ∧ a = 0 ∧ (s ≤ 4 ∨ s = 6 ∨ s = 7)) → (pj_set (pj_set (pj_set (pj_up (pj_set (pj_up (pj_set (pj_up (pj_set (pj_up (pj_set (pj_up w) 12 0 0 0)) 12 0 1 0)) 12 0 2 0)) 12 0 3 0)) 12 0 4 0) 12 0 6 (-1)) 12 0 7 (-1)) k a s = w k a s := fun k a s g1 g2 => by
    rw [pj_sne (by omega), pj_sne (by omega), pj_sne (by omega), vn_e g1, pj_sne (by omega), vn_e g1, pj_sne (by omega), vn_e g1, pj_sne (by omega), vn_e g1, pj_sne (by omega), vn_e g1]
  have e0 : (pj_set (pj_set (pj_set (pj_up (pj_set (pj_up (pj_set (pj_up (pj_set (pj_up (pj_set (pj_up w) 12 0 0 0)) 12 0 1 0)) 12 0 2 0)) 12 0 3 0)) 12 0 4 0) 12 0 6 (-1)) 12 0 7 (-1)) 12 0 0 = 0 := by
    rw [pj_sne (by omega), pj_sne (by omega), pj_sne (by omega), vn_e (by decide), pj_sne (by omega), vn_e (by decide), pj_sne (by omega), vn_e (by decide), pj_sne (by omega), vn_e (by decide), pj_set_at]
  have e1 : (pj_set (pj_set (pj_set (pj_up (pj_set (pj_up (pj_set (pj_up (pj_set (pj_up (pj_set (pj_up w) 12 0 0 0)) 12 0 1 0)) 12 0 2 0)) 12 0 3 0)) 12 0 4 0) 12 0 6 (-1)) 12 0 7 (-1)) 12 0 1 = 0 := by
    rw [pj_sne (by omega), pj_sne (by omega), pj_sne (by omega), vn_e (by decide), pj_sne (by omega), vn_e (by decide), pj_sne (by omega), vn_e (by decide), pj_set_at]
  have e2 : (pj_set (pj_set (pj_set (pj_up (pj_set (pj_up (pj_set (pj_up (pj_set (pj_up (pj_set (pj_up w) 12 0 0 0)) 12 0 1 0)) 12 0 2 0)) 12 0 3 0)) 12 0 4 0) 12 0 6 (-1)) 12 0 7 (-1)) 12 0 2 = 0 := by
    rw [pj_sne (by omega), pj_sne (by omega), pj_sne (by omega), vn_e (by decide), pj_sne (by omega), vn_e (by decide), pj_set_at]
  have e3 : (pj_set (pj_set (pj_set (pj_up (pj_set (pj_up (pj_set (pj_up (pj_set (pj_up (pj_set (pj_up w) 12 0 0 0)) 12 0 1 0)) 12 0 2 0)) 12 0 3 0)) 12 0 4 0) 12 0 6 (-1)) 12 0 7 (-1)) 12 0 3 = 0 := by
    rw [pj_sne (by omega), pj_sne (by omega), pj_sne (by omega), vn_e (by decide), pj_set_at]
  have e4 : (pj_set (pj_set (pj_set (pj_up (pj_set (pj_up (pj_set (pj_up (pj_set (pj_up (pj_set (pj_up w) 12 0 0 0)) 12 0 1 0)) 12 0 2 0)) 12 0 3 0)) 12 0 4 0) 12 0 6 (-1)) 12 0 7 (-1)) 12 0 4 = 0 := by
    rw [pj_sne (by omega), pj_sne (by omega), pj_set_at]
  have e6 : (pj_set (pj_set (pj_set (pj_up (pj_set (pj_up (pj_set (pj_up (pj_set (pj_up (pj_set (pj_up w) 12 0 0 0)) 12 0 1 0)) 12 0 2 0)) 12 0 3 0)) 12 0 4 0) 12 0 6 (-1)) 12 0 7 (-1)) 12 0 6 = -1 := by rw [pj_sne (by omega), pj_set_at]
  have e7 : (pj_set (pj_set (pj_set (pj_up (pj_set (pj_up (pj_set (pj_up (pj_set (pj_up (pj_set (pj_up w) 12 0 0 0)) 12 0 1 0)) 12 0 2 0)) 12 0 3 0)) 12 0 4 0) 12 0 6 (-1)) 12 0 7 (-1)) 12 0 7 = -1 := pj_set_at
  have hf : fR_init_c w = fR_init_c_65 (0, 0, 0, (pj_set (pj_set (pj_set (pj_up (pj_set (pj_up (pj_set (pj_up (pj_set (pj_up (pj_set (pj_up w) 12 0 0 0)) 12 0 1 0)) 12 0 2 0)) 12 0 3 0)) 12 0 4 0) 12 0 6 (-1)) 12 0 7 (-1))) := by
    have t0 : pj_L.getD 3 (0, 0) = (30, 0) := rfl
    have t1 : pj_L.getD 4 (0, 0) = (31, 0) := rfl
    have t2 : pj_L.getD 5 (0, 0) = (32, 0) := rfl
    have t3 : pj_L.getD 6 (0, 0) = (33, 0) := rfl
    have t4 : pj_L.getD 7 (0, 0) = (34, 0) := rfl
    unfold fR_init_c
    rw [vn_1 hn t0, vn_0 hn t0, if_pos rfl, if_pos rfl, Option.bind_some, vn_1 n1 t1, vn_0 n1 t1, if_pos rfl, if_pos rfl, Option.bind_some, vn_1 n2 t2, vn_0 n2 t2, if_pos rfl, if_pos rfl, Option.bind_some, vn_1 n3 t3, vn_0 n3 t3, if_pos rfl, if_pos rfl, Option.bind_some, vn_1 n4 t4, vn_0 n4 t4, if_pos rfl, if_pos rfl, Option.bind_some]
  revert hf f e0 e1 e2 e3 e4 e6 e7 n5
  generalize (pj_set (pj_set (pj_set (pj_up (pj_set (pj_up (pj_set (pj_up (pj_set (pj_up (pj_set (pj_up w) 12 0 0 0)) 12 0 1 0)) 12 0 2 0)) 12 0 3 0)) 12 0 4 0) 12 0 6 (-1)) 12 0 7 (-1)) = w1
  intro n5 f e0 e1 e2 e3 e4 e6 e7 hf
  obtain ⟨w', a1, a2, a3⟩ := vi_w2 30 0 rfl w1 e4
  have g : ∀ s, w' 12 0 s = w1 12 0 s := fun s => a3 12 0 s (by omega)
  refine ⟨w', hf.trans a1, ?_, ⟨(g 0).trans e0, (g 1).trans e1, (g 2).trans e2, (g 3).trans e3, (g 4).trans e4⟩, ⟨(g 6).trans e6, (g 7).trans e7⟩, fun i hi => a2 i (Nat.zero_le i) hi, fun k a s h1 h2 h3 => ?_⟩
  · rw [← n5]
    unfold pj_n
    rw [a3 0 0 0 (by omega)]
  · rw [a3 k a s (by omega)]; exact f k a s h1 h3
