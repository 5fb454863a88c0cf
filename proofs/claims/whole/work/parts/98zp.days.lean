/-! DAYS FROM A TEXT: step after step, on both sides -/
theorem dt_hsg {x : Int} (x0 : 0 ≤ x) (x1 : x < 1000) (t : Option (Int × pj_W)) : (t.bind fun p9 => (if p9.1 = 0 then (fDT_takeDays_98 x p9.2) else (fDT_takeDays_82 x p9.2))) = (dt_sg t).bind fun p => some (Sum.inl (p.1, x + 1, p.2)) := by
  have e : pj_wr (x + 1) = x + 1 := pj_wr_id (by omega) (by omega)
  have h98 : ∀ w, fDT_takeDays_98 x w = some (Sum.inl (0, x + 1, w)) := fun w => by
    unfold fDT_takeDays_98 fDT_takeDays_99
    rw [e]
  have h99 : ∀ w, fDT_takeDays_99 x 1 w = some (Sum.inl (1, x + 1, w)) := fun w => by
    unfold fDT_takeDays_99
    rw [e]
  unfold dt_sg
  cases t with
  | none => rfl
  | some p =>
    simp only [Option.bind_some]
    by_cases c : p.1 = 0
    · rw [if_pos c, if_pos c, h98]; rfl
    · rw [if_neg c, if_neg c]
      unfold fDT_takeDays_82
      cases fR_takeSign 59 p.2 with
      | none => rfl
      | some q =>
        simp only [Option.bind_some]
        by_cases c2 : q.1 = 0
        · rw [if_pos c2, if_pos c2, h98]
        · rw [if_neg c2, if_neg c2, h99]
theorem dt_body {u : pj_W} {x : Int} (x0 : 0 ≤ x) (x1 : x < 300) (ho : fR_isOver u = some 0) : fDT_takeDays_27b 1 x u = (dt_cs u).bind fun p => some (Sum.inl (p.1, x + 1, p.2)) := by
  unfold fDT_takeDays_27b dt_cs
  rw [if_neg (by omega), if_neg (by decide), ho, Option.bind_some, if_pos rfl]
  cases fR_wordHere u with
  | none => rfl
  | some y =>
    simp only [Option.bind_some]
    by_cases c : y = 28
    · rw [if_pos c, if_pos c]
      exact dt_hsg x0 (by omega) _
    · rw [if_neg c, if_neg c, ← dt_hsg x0 (by omega), Option.bind_assoc]
def dt_end (A : pj_Q) (b d : Int) (u v : pj_W) (fx fm : Option (Int × pj_W)) : Prop :=
  (∃ u' v', fx = some (1, pj_set u' 24 d 5 1) ∧ fm = fM_days_77 v' ∧ dt_B A b d u' v' ∧ v' 26 0 23 = 0 ∧ (u' 12 0 6 = 0 ∧ v' 26 0 18 = 0 ∧ u' 12 0 7 = -1 ∧ v' 26 0 17 = -1) ∧ dt_fx d u u' ∧ dt_fv v v') ∨
  (∃ u' v', fx = some (0, u') ∧ fm = fM_days_77 v' ∧ tk_F u' v' ∧ dt_fx d u u' ∧ dt_fv v v')
section
variable {B : Int → Int} {n0 : Int} {E : Int → Int} {N : Int} {A : pj_Q} {b d : Int} {u v u' v' : pj_W} {k k' : Int} {fx fm : Option (Int × pj_W)}
theorem dx_126 {y : Int} (hd : u 14 0 4 = d) (d0 : 0 ≤ d) (hy : y = 0 ∨ y = 1) : fDT_takeDays_126 y u = some (y, pj_set u 24 d 5 y) := by
  unfold fDT_takeDays_126
  rw [hd, if_pos d0, if_pos hy]
theorem dx_106 {x : Int} (hd : u 14 0 4 = d) (d0 : 0 ≤ d) : fDT_takeDays_27 (0, x, u) = some (0, pj_set u 24 d 5 0) := by
  have h : fDT_takeDays_106 0 u = some (0, pj_set u 24 d 5 0) := by
    unfold fDT_takeDays_106
    rw [if_pos rfl]
    exact dx_126 hd d0 (Or.inl rfl)
  unfold fDT_takeDays_27
  rw [← h]
  refine pj_Lp_map ?_
  show fDT_takeDays_27b 0 x u = _
  unfold fDT_takeDays_27b
  by_cases c : 300 ≤ x
  · rw [if_pos c]
  · rw [if_neg c, if_pos rfl]
theorem tk_F.set {s z : Int} (F : tk_F u v) : tk_F (pj_set u 24 d s z) v := by
  unfold tk_F at F ⊢
  rw [pj_sne (by omega), pj_sne (by omega)]; exact F
theorem dt_fx.set {s z : Int} (h : dt_fx d u u') : dt_fx d u (pj_set u' 24 d s z) := fun k i x z1 z2 z3 z4 => (pj_sne (by omega)).trans (h k i x z1 z2 z3 z4)
theorem dt_loop (d0 : 0 ≤ d) (h300 : n0 ≤ 300) : ∀ m : Nat, ∀ (u v : pj_W) (k x : Int), N - k ≤ m → tk_J B n0 E N u v k → dt_B A b d u v → 0 ≤ x → x ≤ k → dt_end A b d u v (fDT_takeDays_27 (1, x, u)) (fM_days_38 (1, v)) := by
  intro m
  induction m with
  | zero =>
    intro u v k x hm J
    have := J.b
    omega
  | succ m ih =>
    intro u v k x hm J D x0 xk
    have hJb := J.b
    have hN := J.1.2.2.1
    have hd4 : u 14 0 4 = d := D.1.2.1.2.1
    rcases tk_over J with ⟨o1, o2, o3⟩ | ⟨o1, o2, o3⟩
    · have hx : fDT_takeDays_27 (1, x, u) = fDT_takeDays_106 1 u := by
        unfold fDT_takeDays_27
        refine pj_Lp_map ?_
        show fDT_takeDays_27b 1 x u = _
        unfold fDT_takeDays_27b
        by_cases c : 300 ≤ x
        · rw [if_pos c]
        · rw [if_neg c, if_neg (by decide), o2, Option.bind_some, if_neg (by decide)]
      have hm2 : fM_days_38 (1, v) = fM_days_57 v := by
        unfold fM_days_38
        refine pj_Lp_map ?_
        show fM_days_38b 1 v = _
        unfold fM_days_38b
        rw [if_neg (by decide), if_pos o3]
      obtain ⟨f1, f2, f3, f4⟩ := J.2.2.2.2
      have hn := D.2.1.1
      rw [hx, hm2]
      unfold fDT_takeDays_106 fM_days_57
      rw [if_neg (by decide), if_pos f2]
      by_cases ce : v 26 0 23 ≤ 0
      · refine Or.inl ⟨u, v, ?_, ?_, D, by omega, ⟨f1, f2, f3, f4⟩, fun _ _ _ _ _ _ _ => rfl, fun _ _ _ _ _ _ => rfl⟩
        · rw [if_pos (by omega)]
          exact dx_126 hd4 d0 (Or.inr rfl)
        · rw [if_pos ce]
      · obtain ⟨u1, v1, g1, g2, F1, x1, y1⟩ := tk_fail J (x := 2) (by decide)
        refine Or.inr ⟨pj_set u1 24 d 5 0, v1, ?_, ?_, F1.set, x1.dt.set, y1.dt⟩
        · rw [if_neg (by omega), g1, Option.bind_some]
          exact dx_126 ((x1 14 0 4 (by omega)).trans hd4) d0 (Or.inl rfl)
        · rw [if_neg ce, g2, Option.bind_some]
    · have hx : fDT_takeDays_27 (1, x, u) = (dt_cs u).bind fun p => fDT_takeDays_27 (p.1, x + 1, p.2) := by
        unfold fDT_takeDays_27
        rw [pj_Lp_eq]
        show ((fDT_takeDays_27b 1 x u).bind _) = _
        rw [dt_body x0 (by omega) o2]
        cases dt_cs u <;> rfl
      have hm2 : fM_days_38 (1, v) = (fM_dayStep v).bind fun p3 => fM_days_38 (p3.1, p3.2) := by
        unfold fM_days_38
        rw [pj_Lp_eq]
        show ((fM_days_38b 1 v).bind _) = _
        unfold fM_days_38b
        rw [if_neg (by decide), if_neg o3]
        cases fM_dayStep v <;> rfl
      rw [hx, hm2]
      rcases dt_step J D with ⟨u1, v1, k1, a1, a2, a3, J1, D1, x1, y1⟩ | ⟨u1, v1, a1, a2, F1, x1, y1⟩
      · rw [a1, a2, Option.bind_some, Option.bind_some]
        rcases ih u1 v1 k1 (x + 1) (by omega) J1 D1 (by omega) (by omega) with ⟨u2, v2, b1, b2, b3, b4, b5, b6, b7⟩ | ⟨u2, v2, b1, b2, b3, b6, b7⟩
        · exact Or.inl ⟨u2, v2, b1, b2, b3, b4, b5, x1.tr b6, y1.tr b7⟩
        · exact Or.inr ⟨u2, v2, b1, b2, b3, x1.tr b6, y1.tr b7⟩
      · rw [a1, a2, Option.bind_some, Option.bind_some]
        refine Or.inr ⟨pj_set u1 24 d 5 0, v1, dx_106 ((x1 14 0 4 (by omega) (by omega) (by omega) (by omega)).trans hd4) d0, ?_, F1.set, x1.set, y1⟩
        have hf : ¬ v1 26 0 18 = 0 := by
          have := F1.1
          have := F1.2.2
          omega
        unfold fM_days_38
        refine pj_Lp_map ?_
        show fM_days_38b 0 v1 = _
        unfold fM_days_38b fM_days_57
        rw [if_pos rfl, if_neg hf]
end
