/-! A TEXT BEGINS, in the model; numbers and names are taken over -/
theorem tk_w8 {x : Int} (h : -128 ≤ x ∧ x < 128) : pj_w8 x = x := by unfold pj_w8; omega
theorem m_begins {v : pj_W} {x y : Int} {B : Int → Int} (h0 : 0 ≤ x) (h1 : x ≤ v 26 0 10) (hy : x ≤ y) (h9 : x ≤ 900) (hB : ∀ p, -128 ≤ B p ∧ B p < 128) (hv : ∀ p, 0 ≤ p → p < x → v 65 0 p = B p) :
    ∃ v', fM_begins x y v = some (1, v') ∧ tk_M v' B x ∧ tk_mt v' B x 0 ∧ v' 26 0 10 = 0 ∧ v' 26 0 17 = -1 ∧ v' 26 0 18 = 0 ∧ ∀ k i s, ¬ (k = 26 ∧ i = 0 ∧ 10 ≤ s ∧ s ≤ 19) → k ≠ 66 → v' k i s = v k i s := by
  have key : ∀ m : Nat, ∀ (q : Int) (w : pj_W), x - q ≤ m → 0 ≤ q → q ≤ x → (∀ p, 0 ≤ p → p < q → w 66 0 p = B p) → (∀ k i s, k ≠ 66 → w k i s = pj_set v 26 0 11 x k i s) → ∃ w', fM_begins_26 x (q, w) = fM_begins_26 x (x, w') ∧ (∀ p, 0 ≤ p → p < x → w' 66 0 p = B p) ∧ ∀ k i s, k ≠ 66 → w' k i s = pj_set v 26 0 11 x k i s := by
    intro m
    induction m with
    | zero =>
      intro q w hm q0 q1 hw hf
      have e : q = x := by omega
      subst e
      exact ⟨w, rfl, hw, hf⟩
    | succ m ih =>
      intro q w hm q0 q1 hw hf
      by_cases c : q = x
      · subst c
        exact ⟨w, rfl, hw, hf⟩
      · have e65 : w 65 0 q = B q := by rw [hf 65 0 q (by decide), pj_sne (by omega)]; exact hv q q0 (by omega)
        obtain ⟨w', a1, a2⟩ := ih (q + 1) (pj_set w 66 0 q (B q)) (by omega) (by omega) (by omega) (fun p p0 p1 => by
          by_cases cp : p = q
          · rw [cp, pj_set_at]
          · rw [pj_sne (by omega)]; exact hw p p0 (by omega)) (fun k i s hk => by rw [pj_sne (by omega)]; exact hf k i s hk)
        refine ⟨w', ?_, a2⟩
        rw [← a1]
        unfold fM_begins_26
        refine pj_Lp_st ?_
        show fM_begins_26b x q w = _
        unfold fM_begins_26b
        rw [if_neg (by omega), if_pos (by omega), e65, tk_w8 (hB q), pj_wr_id (by omega) (by omega)]
  obtain ⟨w', a1, a2, a3⟩ := key x.toNat 0 (pj_set v 26 0 11 x) (by omega) (by omega) h0 (fun p p0 p1 => by omega) (fun _ _ _ _ => rfl)
  have f : ∀ k i s, ¬ (k = 26 ∧ i = 0 ∧ 10 ≤ s ∧ s ≤ 19) → (pj_set (pj_set (pj_set (pj_set (pj_set w' 26 0 10 0) 26 0 18 0) 26 0 17 (-1)) 26 0 14 0) 26 0 19 0) k i s = w' k i s := fun k i s h => by
    rw [pj_sne (by omega), pj_sne (by omega), pj_sne (by omega), pj_sne (by omega), pj_sne (by omega)]
  have t : tk_M (pj_set (pj_set (pj_set (pj_set (pj_set w' 26 0 10 0) 26 0 18 0) 26 0 17 (-1)) 26 0 14 0) 26 0 19 0) B x := by
    refine ⟨?_, h0, h9, hB, fun p p0 p1 => (f 66 0 p (by omega)).trans (a2 p p0 p1)⟩
    rw [pj_sne (by omega), pj_sne (by omega), pj_sne (by omega), pj_sne (by omega), pj_sne (by omega), a3 26 0 11 (by decide), pj_set_at]
  obtain ⟨v', b1, b2, b3⟩ := m_ahead t (s := 0) (by rw [pj_sne (by omega), pj_set_at]) (Int.le_refl 0) h0
  refine ⟨v', ?_, t.ex b3, b2, ?_, ?_, ?_, fun k i s hk hk2 => ?_⟩
  · unfold fM_begins
    rw [if_neg (by omega), if_neg (by omega), if_pos hy, a1]
    unfold fM_begins_26
    refine pj_Lp_end ?_
    show fM_begins_26b x x w' = _
    unfold fM_begins_26b
    rw [if_pos (Int.le_refl x), Option.bind_some, b1, Option.bind_some]
  · rw [b3 26 0 10 (by omega), pj_sne (by omega), pj_sne (by omega), pj_sne (by omega), pj_sne (by omega), pj_set_at]
  · rw [b3 26 0 17 (by omega), pj_sne (by omega), pj_sne (by omega), pj_set_at]
  · rw [b3 26 0 18 (by omega), pj_sne (by omega), pj_sne (by omega), pj_sne (by omega), pj_set_at]
  · rw [b3 k i s (by omega), f k i s hk, a3 k i s hk2, pj_sne (by omega)]
theorem m_takeN {v : pj_W} (F : pj_W → Option (Int × pj_W)) (hF : F = fM_beach_125) : ∃ v', fM_beach_98 (0, v) = F v' ∧ (∀ s, 0 ≤ s → s < 14 → v' 61 0 s = v 61 0 (56 + s)) ∧ ∀ k i s, ¬ (k = 61 ∧ i = 0 ∧ 0 ≤ s ∧ s < 14) → v' k i s = v k i s := by
  have key : ∀ m : Nat, ∀ (q : Int) (w : pj_W), 14 - q ≤ m → 0 ≤ q → q ≤ 14 → (∀ s, 0 ≤ s → s < q → w 61 0 s = v 61 0 (56 + s)) → (∀ k i s, ¬ (k = 61 ∧ i = 0 ∧ 0 ≤ s ∧ s < 14) → w k i s = v k i s) → ∃ v', fM_beach_98 (q, w) = fM_beach_98 (14, v') ∧ (∀ s, 0 ≤ s → s < 14 → v' 61 0 s = v 61 0 (56 + s)) ∧ ∀ k i s, ¬ (k = 61 ∧ i = 0 ∧ 0 ≤ s ∧ s < 14) → v' k i s = v k i s := by
    intro m
    induction m with
    | zero =>
      intro q w hm q0 q1 hw hf
      have e : q = 14 := by omega
      subst e
      exact ⟨w, rfl, hw, hf⟩
    | succ m ih =>
      intro q w hm q0 q1 hw hf
      by_cases c : q = 14
      · subst c
        exact ⟨w, rfl, hw, hf⟩
      · obtain ⟨v', a1, a2⟩ := ih (q + 1) (pj_set w 61 0 q (w 61 0 (56 + q))) (by omega) (by omega) (by omega) (fun s s0 s1 => by
          by_cases cp : s = q
          · rw [cp, pj_set_at]; exact hf 61 0 _ (by omega)
          · rw [pj_sne (by omega)]; exact hw s s0 (by omega)) (fun k i s hk => by rw [pj_sne (by omega)]; exact hf k i s hk)
        refine ⟨v', ?_, a2⟩
        rw [← a1]
        unfold fM_beach_98
        refine pj_Lp_st ?_
        show fM_beach_98b q w = _
        unfold fM_beach_98b
        rw [if_neg (by omega), pj_wr_id (x := 56 + q) (by omega) (by omega), if_pos (by omega), if_pos (by omega), pj_wr_id (by omega) (by omega)]
  obtain ⟨v', a1, a2, a3⟩ := key 14 0 v (by omega) (by omega) (by omega) (fun s s0 s1 => by omega) (fun _ _ _ _ => rfl)
  refine ⟨v', ?_, a2, a3⟩
  rw [a1, hF]
  unfold fM_beach_98
  refine pj_Lp_map ?_
  show fM_beach_98b 14 v' = _
  unfold fM_beach_98b
  rw [if_pos (by decide)]
theorem m_takeA {v : pj_W} : ∃ v', fM_beach_67 (0, v) = fM_beach_98 (0, v') ∧ (∀ s, 0 ≤ s → s < 1400 → v' 60 0 s = v 60 0 (5600 + s)) ∧ ∀ k i s, ¬ (k = 60 ∧ i = 0 ∧ 0 ≤ s ∧ s < 1400) → v' k i s = v k i s := by
  have key : ∀ m : Nat, ∀ (q : Int) (w : pj_W), 1400 - q ≤ m → 0 ≤ q → q ≤ 1400 → (∀ s, 0 ≤ s → s < q → w 60 0 s = v 60 0 (5600 + s)) → (∀ k i s, ¬ (k = 60 ∧ i = 0 ∧ 0 ≤ s ∧ s < 1400) → w k i s = v k i s) → ∃ v', fM_beach_67 (q, w) = fM_beach_67 (1400, v') ∧ (∀ s, 0 ≤ s → s < 1400 → v' 60 0 s = v 60 0 (5600 + s)) ∧ ∀ k i s, ¬ (k = 60 ∧ i = 0 ∧ 0 ≤ s ∧ s < 1400) → v' k i s = v k i s := by
    intro m
    induction m with
    | zero =>
      intro q w hm q0 q1 hw hf
      have e : q = 1400 := by omega
      subst e
      exact ⟨w, rfl, hw, hf⟩
    | succ m ih =>
      intro q w hm q0 q1 hw hf
      by_cases c : q = 1400
      · subst c
        exact ⟨w, rfl, hw, hf⟩
      · obtain ⟨v', a1, a2⟩ := ih (q + 1) (pj_set w 60 0 q (w 60 0 (5600 + q))) (by omega) (by omega) (by omega) (fun s s0 s1 => by
          by_cases cp : s = q
          · rw [cp, pj_set_at]; exact hf 60 0 _ (by omega)
          · rw [pj_sne (by omega)]; exact hw s s0 (by omega)) (fun k i s hk => by rw [pj_sne (by omega)]; exact hf k i s hk)
        refine ⟨v', ?_, a2⟩
        rw [← a1]
        unfold fM_beach_67
        refine pj_Lp_st ?_
        show fM_beach_67b q w = _
        unfold fM_beach_67b
        rw [if_neg (by omega), pj_wr_id (x := 5600 + q) (by omega) (by omega), if_pos (by omega), if_pos (by omega), pj_wr_id (by omega) (by omega)]
  obtain ⟨v', a1, a2, a3⟩ := key 1400 0 v (by omega) (by omega) (by omega) (fun s s0 s1 => by omega) (fun _ _ _ _ => rfl)
  refine ⟨v', ?_, a2, a3⟩
  rw [a1]
  unfold fM_beach_67
  refine pj_Lp_map ?_
  show fM_beach_67b 1400 v' = _
  unfold fM_beach_67b
  rw [if_pos (by decide)]
