/-! A BEACH FROM A TEXT: part by part -/
section
variable {B : Int → Int} {n : Int} {E : Int → Int} {N b : Int} {u v u' v' : pj_W} {k : Int}
theorem tk_over (J : tk_J B n E N u v k) : (k = N - 1 ∧ fR_isOver u = some 1 ∧ v 26 0 12 = 0) ∨ (k < N - 1 ∧ fR_isOver u = some 0 ∧ v 26 0 12 ≠ 0) := by
  have hb := J.b
  have hC := J.c.2
  have ha := J.a
  unfold tk_C at hC
  unfold fR_isOver
  rw [ha, if_pos (show 0 ≤ k ∧ k < 901 by omega)]
  rcases hC with ⟨h1, h2, h3⟩ | ⟨c1, _, _, _, _, h⟩
  · exact Or.inl ⟨h3, by rw [if_pos h1], h2⟩
  · refine Or.inr ⟨c1, ?_, ?_⟩
    · rcases h with h | ⟨_, _, _, _, ⟨i, h⟩ | h⟩ | h | h | h
      · rw [if_neg (by omega)]
      · rw [if_neg (by omega)]
      · rw [if_neg (by omega)]
      · rw [if_neg (by omega)]
      · rw [if_neg (by omega)]
      · rw [if_neg (by omega)]
    · rcases h with h | ⟨h, _⟩ | h | h | h <;> omega
def bt_end (b : Int) (u v : pj_W) (fx fm : Option (Int × pj_W)) : Prop :=
  (∃ u' v', fx = some (1, u') ∧ fm = fM_beach_58 v' ∧ bt_B b u' v' ∧ (u' 12 0 6 = 0 ∧ v' 26 0 18 = 0 ∧ u' 12 0 7 = -1 ∧ v' 26 0 17 = -1) ∧ bt_fx b u u' ∧ bt_fv v v') ∨
  (∃ u' v', fx = some (0, u') ∧ fm = fM_beach_58 v' ∧ tk_F u' v' ∧ bt_fx b u u' ∧ bt_fv v v')
theorem bt_loop (hb : 0 ≤ b) : ∀ m : Nat, ∀ (u v : pj_W) (k x : Int), N - k ≤ m → tk_J B n E N u v k → bt_B b u v → 0 ≤ x → x ≤ k → bt_end b u v (fBT_takeBeach_24 (1, x, u)) (fM_beach_39 (1, v)) := by
  intro m
  induction m with
  | zero =>
    intro u v k x hm J
    have := J.b
    omega
  | succ m ih =>
    intro u v k x hm J R x0 xk
    have hJb := J.b
    rcases tk_over J with ⟨o1, o2, o3⟩ | ⟨o1, o2, o3⟩
    · refine Or.inl ⟨u, v, ?_, ?_, R, J.2.2.2.2, fun _ _ _ _ _ _ => rfl, fun _ _ _ _ _ _ => rfl⟩
      · unfold fBT_takeBeach_24
        refine pj_Lp_end ?_
        show fBT_takeBeach_24b 1 x u = _
        unfold fBT_takeBeach_24b
        by_cases c : 900 ≤ x
        · rw [if_pos c, if_pos (Or.inr rfl)]
        · rw [if_neg c, if_neg (show ¬ (1 : Int) = 0 by decide), o2, Option.bind_some, if_neg (show ¬ (1 : Int) = 0 by decide), if_pos (Or.inr rfl)]
      · unfold fM_beach_39
        refine pj_Lp_map ?_
        show fM_beach_39b 1 v = _
        unfold fM_beach_39b
        rw [if_neg (show ¬ (1 : Int) = 0 by decide), if_pos o3]
    · have hb1 : fBT_takeBeach_24b 1 x u = (fBT_takePart u).bind fun p8 => some (Sum.inl (p8.1, x + 1, p8.2)) := by
        unfold fBT_takeBeach_24b
        rw [if_neg (show ¬ 900 ≤ x by omega), if_neg (show ¬ (1 : Int) = 0 by decide), o2, Option.bind_some, if_pos rfl, pj_wr_id (x := x + 1) (by omega) (by omega)]
      have hb2 : fM_beach_39b 1 v = (fM_beachPart v).bind fun p3 => some (Sum.inl (p3.1, p3.2)) := by
        unfold fM_beach_39b
        rw [if_neg (show ¬ (1 : Int) = 0 by decide), if_neg o3]
      have hx : fBT_takeBeach_24 (1, x, u) = (fBT_takePart u).bind fun p8 => fBT_takeBeach_24 (p8.1, x + 1, p8.2) := by
        unfold fBT_takeBeach_24
        rw [pj_Lp_eq]
        show ((fBT_takeBeach_24b 1 x u).bind _) = _
        rw [hb1]
        cases fBT_takePart u <;> rfl
      have hm2 : fM_beach_39 (1, v) = (fM_beachPart v).bind fun p3 => fM_beach_39 (p3.1, p3.2) := by
        unfold fM_beach_39
        rw [pj_Lp_eq]
        show ((fM_beach_39b 1 v).bind _) = _
        rw [hb2]
        cases fM_beachPart v <;> rfl
      rw [hx, hm2]
      rcases bt_part J R hb with ⟨u1, v1, k1, a1, a2, a3, J1, R1, x1, y1⟩ | ⟨u1, v1, a1, a2, F1, x1, y1⟩
      · rw [a1, a2, Option.bind_some, Option.bind_some]
        rcases ih u1 v1 k1 (x + 1) (by omega) J1 R1 (by omega) (by omega) with ⟨u2, v2, b1, b2, b3, b4, b5, b6⟩ | ⟨u2, v2, b1, b2, b3, b5, b6⟩
        · exact Or.inl ⟨u2, v2, b1, b2, b3, b4, x1.tr b5, y1.tr b6⟩
        · exact Or.inr ⟨u2, v2, b1, b2, b3, x1.tr b5, y1.tr b6⟩
      · rw [a1, a2, Option.bind_some, Option.bind_some]
        refine Or.inr ⟨u1, v1, ?_, ?_, F1, x1, y1⟩
        · unfold fBT_takeBeach_24
          refine pj_Lp_end ?_
          show fBT_takeBeach_24b 0 (x + 1) u1 = _
          unfold fBT_takeBeach_24b
          by_cases c : 900 ≤ x + 1
          · rw [if_pos c, if_pos (Or.inl rfl)]
          · rw [if_neg c, if_pos rfl, if_pos (Or.inl rfl)]
        · unfold fM_beach_39
          refine pj_Lp_map ?_
          show fM_beach_39b 0 v1 = _
          unfold fM_beach_39b
          rw [if_pos rfl]
end
