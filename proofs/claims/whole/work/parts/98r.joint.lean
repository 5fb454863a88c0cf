/-! BOTH READ ON: the class in u, the model in v -/
def tk_J (B : Int → Int) (n : Int) (E : Int → Int) (N : Int) (u v : pj_W) (k : Int) : Prop := tk_all u B n E N ∧ tk_M v B n ∧ (0 ≤ k ∧ k < N ∧ u 12 0 11 = k) ∧ tk_mt v B n (E k) ∧ (u 12 0 6 = 0 ∧ v 26 0 18 = 0 ∧ u 12 0 7 = -1 ∧ v 26 0 17 = -1)
theorem tk_sm_dg {c : Int} (h : tk_sm c) : ¬ tk_dg c := by unfold tk_sm at h; unfold tk_dg; omega
theorem tk_sm_sg {c : Int} (h : tk_sm c) : ¬ tk_sg c := by unfold tk_sm at h; unfold tk_sg; omega
theorem tk_dg_sg {c : Int} (h : tk_dg c) : ¬ tk_sg c := by unfold tk_dg at h; unfold tk_sg; omega
/-- both have met the same fault -/
def tk_F (u v : pj_W) : Prop := u 12 0 6 = v 26 0 18 ∧ u 12 0 7 = v 26 0 17 ∧ 1 ≤ u 12 0 6
def tk_xf (u u' : pj_W) : Prop := ∀ k i s, ¬ (k = 12 ∧ i = 0 ∧ (s = 6 ∨ s = 7 ∨ s = 11)) → u' k i s = u k i s
def tk_vf (v v' : pj_W) : Prop := ∀ k i s, ¬ (k = 26 ∧ i = 0 ∧ 12 ≤ s ∧ s ≤ 18) → v' k i s = v k i s
theorem tk_xf.tr {a b c : pj_W} (h : tk_xf a b) (h2 : tk_xf b c) : tk_xf a c := fun k i s hk => (h2 k i s hk).trans (h k i s hk)
theorem tk_vf.tr {a b c : pj_W} (h : tk_vf a b) (h2 : tk_vf b c) : tk_vf a c := fun k i s hk => (h2 k i s hk).trans (h k i s hk)
theorem tk_all.ex {u u' : pj_W} {B : Int → Int} {n : Int} {E : Int → Int} {N : Int} (h : tk_all u B n E N) (h10 : u' 12 0 10 = u 12 0 10) (h1 : ∀ s, u' 31 0 s = u 31 0 s) (h2 : ∀ s, u' 32 0 s = u 32 0 s) (h3 : ∀ s, u' 33 0 s = u 33 0 s) : tk_all u' B n E N := by
  obtain ⟨a1, a2, a3, a4, a5, a6, a7, a8, a9, a10⟩ := h
  exact ⟨h10.trans a1, a2, a3, a4, a5, a6, fun k k0 k1 => (a7 k k0 k1).ex (h1 k) (h2 k) (h3 k) rfl rfl, a8, (h1 _).trans a9, (h2 _).trans a10⟩
section
variable {B : Int → Int} {n : Int} {E : Int → Int} {N : Int} {u v u' v' : pj_W} {k : Int}
theorem tk_J.ex (J : tk_J B n E N u v k) (hu : ∀ k i s, k = 12 ∨ k = 31 ∨ k = 32 ∨ k = 33 → u' k i s = u k i s) (hv : ∀ k i s, k = 66 ∨ (k = 26 ∧ 11 ≤ s ∧ s ≤ 18) → v' k i s = v k i s) : tk_J B n E N u' v' k := by
  obtain ⟨a, m, ⟨k0, k1, k2⟩, t, f1, f2, f3, f4⟩ := J
  refine ⟨a.ex (hu 12 0 10 (by omega)) (fun s => hu 31 0 s (by omega)) (fun s => hu 32 0 s (by omega)) (fun s => hu 33 0 s (by omega)), ⟨(hv 26 0 11 (by omega)).trans m.1, m.2.1, m.2.2.1, m.2.2.2.1, fun p p0 p1 => (hv 66 0 p (by omega)).trans (m.2.2.2.2 p p0 p1)⟩, ⟨k0, k1, (hu 12 0 11 (by omega)).trans k2⟩, ?_, (hu 12 0 6 (by omega)).trans f1, (hv 26 0 18 (by omega)).trans f2, (hu 12 0 7 (by omega)).trans f3, (hv 26 0 17 (by omega)).trans f4⟩
  unfold tk_mt at t ⊢
  rw [hv 26 0 12 (by omega), hv 26 0 13 (by omega), hv 26 0 14 (by omega), hv 26 0 15 (by omega)]
  exact t
/-- what the model's token has of the class's -/
def tk_C (B : Int → Int) (E : Int → Int) (n N : Int) (u v : pj_W) (k : Int) : Prop :=
  (u 31 0 k = 0 ∧ v 26 0 12 = 0 ∧ k = N - 1) ∨ (k < N - 1 ∧ v 26 0 14 = E (k + 1) ∧ 0 ≤ v 26 0 13 ∧ 0 ≤ E (k + 1) ∧ E (k + 1) ≤ n ∧
  ((u 31 0 k = 6 ∧ v 26 0 12 = 2 ∧ tk_run tk_sm B n (v 26 0 13) (v 26 0 14) ∧ 8 < v 26 0 14 - v 26 0 13) ∨
  (v 26 0 12 = 2 ∧ tk_run tk_sm B n (v 26 0 13) (v 26 0 14) ∧ 1 ≤ v 26 0 14 - v 26 0 13 ∧ v 26 0 14 - v 26 0 13 ≤ 8 ∧ ((∃ i : Nat, i < 30 ∧ u 31 0 k = 5 ∧ u 33 0 k = i ∧ tk_ls B (v 26 0 13) (v 26 0 14 - v 26 0 13).toNat = tk_w i) ∨ (u 31 0 k = 4 ∧ u 33 0 k = pj_n5 (tk_ls B (v 26 0 13) (v 26 0 14 - v 26 0 13).toNat) ∧ ∀ i : Nat, i < 30 → tk_ls B (v 26 0 13) (v 26 0 14 - v 26 0 13).toNat ≠ tk_w i))) ∨
  (u 31 0 k = 1 ∧ v 26 0 12 = 1) ∨
  (u 31 0 k = 3 ∧ v 26 0 12 = 3 ∧ u 33 0 k = v 26 0 15 ∧ 0 ≤ u 33 0 k ∧ u 33 0 k < 10000) ∨
  (u 31 0 k = 2 ∧ v 26 0 12 = 4 ∧ u 33 0 k = v 26 0 15 ∧ tk_sg (u 33 0 k))))
theorem tk_p10 : ∀ i : Fin 5, (10 : Int) ^ i.val ≤ 10000 := by decide +kernel
theorem tk_J.c (J : tk_J B n E N u v k) : v 26 0 13 = u 32 0 k ∧ tk_C B E n N u v k := by
  obtain ⟨⟨a1, a2, a3, a4, a5, a6, a7, a8, a9, a10⟩, m, ⟨k0, k1, k2⟩, ⟨t1, t2⟩, f⟩ := J
  by_cases ck : k = N - 1
  · subst ck
    have e := tk_run_eq t1 a8
    refine ⟨e.trans a10.symm, Or.inl ⟨a9, ?_, rfl⟩⟩
    rcases t2 with h | h | h | h | h
    · exact h.2.1
    · exact absurd h.1 (by omega)
    · exact absurd h.1 (by omega)
    · exact absurd h.1 (by omega)
    · exact absurd h.1 (by omega)
  · obtain ⟨o1, o2, o3, o4⟩ := a7 k k0 (by omega)
    have e := tk_run_eq t1 o1
    refine ⟨e, Or.inr ?_⟩
    rw [← e] at o2 o3 o4
    rcases t2 with h | h | h | h | h
    · exact absurd h.1 (by omega)
    · obtain ⟨h1, h2, h3, h4⟩ := h
      unfold tk_at at o4
      rcases o4 with g | g | g | g
      · obtain ⟨g1, g2, g3⟩ := g
        have eE := tk_run_eq h3 g2
        have hb := g2.1
        have hb2 := g2.2.1
        have hpe : v 26 0 13 < v 26 0 14 := by
          by_cases c : v 26 0 13 = v 26 0 14
          · exact absurd h2 (by rw [c]; rw [c] at h1; exact h3.2.2.2 h1)
          · have := h3.1; omega
        refine ⟨by omega, eE, o2, by omega, by omega, ?_⟩
        rw [← eE] at g3
        rcases g3 with ⟨g4, g5⟩ | ⟨g4, g5⟩
        · exact Or.inl ⟨g5, h4, h3, g4⟩
        · exact Or.inr (Or.inl ⟨h4, h3, by omega, g4, g5⟩)
      · exact absurd g.1 (tk_sm_dg h2)
      · exact absurd g.1 (tk_sm_sg h2)
      · exact absurd h2 g.1
    · obtain ⟨h1, h2, h3, h4⟩ := h
      unfold tk_at at o4
      rcases o4 with g | g | g | g
      · exact absurd h2 (tk_sm_dg g.1)
      · obtain ⟨g1, g2, g3⟩ := g
        have eE := tk_run_eq h3 g2
        have hb := g2.1
        have hb2 := g2.2.1
        refine ⟨by omega, eE, o2, by omega, by omega, ?_⟩
        rw [← eE] at g3
        rcases g3 with ⟨g4, g5⟩ | ⟨g4, g5, g6⟩
        · rcases h4 with ⟨h5, h6⟩ | ⟨h5, h6⟩
          · exact Or.inr (Or.inr (Or.inl ⟨g5, h6⟩))
          · omega
        · rcases h4 with ⟨h5, h6⟩ | ⟨h5, h6, h7⟩
          · omega
          · have hd := tk_dv_b (B := B) (p := v 26 0 13) (v 26 0 14 - v 26 0 13).toNat (fun i hi => h3.2.2.1 (v 26 0 13 + i) (by omega) (by omega))
            have hp := tk_p10 ⟨(v 26 0 14 - v 26 0 13).toNat, by omega⟩
            dsimp only at hp
            exact Or.inr (Or.inr (Or.inr (Or.inl ⟨g5, h6, g6.trans h7.symm, by omega, by omega⟩)))
      · exact absurd g.1 (tk_dg_sg h2)
      · exact absurd h2 g.2.1
    · obtain ⟨h1, h2, h3, h4, h5⟩ := h
      unfold tk_at at o4
      rcases o4 with g | g | g | g
      · exact absurd h2 (tk_sm_sg g.1)
      · exact absurd h2 (tk_dg_sg g.1)
      · refine ⟨by omega, by omega, o2, by omega, by omega, Or.inr (Or.inr (Or.inr (Or.inr ⟨g.2.2.1, h4, g.2.2.2.trans h5.symm, ?_⟩)))⟩
        rw [g.2.2.2]; exact h2
      · exact absurd h2 g.2.2.1
    · obtain ⟨h1, h2, h3, h4, h5, h6⟩ := h
      unfold tk_at at o4
      rcases o4 with g | g | g | g
      · exact absurd g.1 h2
      · exact absurd g.1 h3
      · exact absurd g.1 h4
      · exact ⟨by omega, by omega, o2, by omega, by omega, Or.inr (Or.inr (Or.inl ⟨g.2.2.2.2, h6⟩))⟩
theorem tk_J.b (J : tk_J B n E N u v k) : 0 ≤ k ∧ k < 901 ∧ N ≤ 901 ∧ k < N := by
  obtain ⟨⟨a1, a2, a3, a4, a5, _⟩, m, ⟨k0, k1, k2⟩, _⟩ := J
  omega
/-- both go on to the next -/
theorem tk_adv (J : tk_J B n E N u v k) (hk : k < N - 1) (h14 : v 26 0 14 = E (k + 1)) (h0 : 0 ≤ E (k + 1)) (h1 : E (k + 1) ≤ n) : ∃ u' v', fR_advance u = some u' ∧ fM_ahead v = some v' ∧ tk_J B n E N u' v' (k + 1) ∧ tk_xf u u' ∧ tk_vf v v' := by
  have hb := J.b
  obtain ⟨a, m, ⟨k0, k1, k2⟩, t, f1, f2, f3, f4⟩ := J
  obtain ⟨v', b1, b2, b3⟩ := m_ahead m h14 h0 h1
  have fx : tk_xf u (pj_set u 12 0 11 (k + 1)) := fun k i s hh => pj_sne (by omega)
  refine ⟨pj_set u 12 0 11 (k + 1), v', ?_, b1, ⟨a.ex (fx 12 0 10 (by omega)) (fun s => fx 31 0 s (by omega)) (fun s => fx 32 0 s (by omega)) (fun s => fx 33 0 s (by omega)), m.ex b3, ⟨by omega, by omega, pj_set_at⟩, b2, ?_, ?_, ?_, ?_⟩, fx, fun k i s hh => b3 k i s (by omega)⟩
  · have e10 := a.1
    unfold fR_advance
    rw [e10, k2, pj_wr_id (x := N - 1) (by omega) (by omega), if_neg (by omega), pj_wr_id (by omega) (by omega)]
  · rw [pj_sne (by omega)]; exact f1
  · rw [b3 26 0 18 (by omega)]; exact f2
  · rw [pj_sne (by omega)]; exact f3
  · rw [b3 26 0 17 (by omega)]; exact f4
theorem tk_fail (J : tk_J B n E N u v k) {x : Int} (hx : 1 ≤ x) : ∃ u' v', fR_fail x u = some (0, u') ∧ fM_fails x v = some (0, v') ∧ tk_F u' v' ∧ tk_xf u u' ∧ tk_vf v v' := by
  have hb := J.b
  obtain ⟨hP, hC⟩ := J.c
  obtain ⟨a, m, ⟨k0, k1, k2⟩, t, f1, f2, f3, f4⟩ := J
  have e1 : u 31 0 k = 1 ↔ v 26 0 12 = 1 := by
    unfold tk_C at hC
    rcases hC with h | ⟨_, _, _, _, _, h | ⟨_, _, _, _, ⟨i, h⟩ | h⟩ | h | h | h⟩ <;> omega
  refine ⟨pj_set (pj_set u 12 0 6 (if u 31 0 k = 1 then 1 else x)) 12 0 7 (u 32 0 k), pj_set (pj_set v 26 0 18 (if v 26 0 12 = 1 then 1 else x)) 26 0 17 (v 26 0 13), ?_, ?_, ⟨?_, ?_, ?_⟩, fun k i s hh => by rw [pj_sne (by omega), pj_sne (by omega)], fun k i s hh => by rw [pj_sne (by omega), pj_sne (by omega)]⟩
  · have e : ∀ z, pj_set u 12 0 6 z 12 0 11 = k := fun z => (pj_sne (by omega)).trans k2
    have e2 : ∀ z, pj_set u 12 0 6 z 32 0 k = u 32 0 k := fun z => pj_sne (by omega)
    unfold fR_fail fR_fail_26
    rw [f1, if_pos rfl, k2, if_pos (by omega), e, if_pos (by omega), Option.bind_some, e2]
  · have e : ∀ z, pj_set v 26 0 18 z 26 0 13 = v 26 0 13 := fun z => pj_sne (by omega)
    unfold fM_fails fM_fails_21
    rw [f2, if_pos rfl, e]
  · rw [pj_sne (by omega), pj_set_at, pj_sne (by omega), pj_set_at]
    by_cases c : u 31 0 k = 1
    · rw [if_pos c, if_pos (e1.mp c)]
    · rw [if_neg c, if_neg (fun h => c (e1.mpr h))]
  · rw [pj_set_at, pj_set_at, hP]
  · rw [pj_sne (by omega), pj_set_at]
    by_cases c : u 31 0 k = 1
    · rw [if_pos c]; omega
    · rw [if_neg c]; exact hx
end
