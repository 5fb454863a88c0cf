/-! WHAT BOTH TAKE: words, signs, numbers, names -/
theorem tk_kx_i : ∀ i j : Fin 30, tk_kx i.val = tk_kx j.val → i = j := by decide +kernel
section
variable {B : Int → Int} {n : Int} {E : Int → Int} {N : Int} {u v u' v' : pj_W} {k : Int}
def tk_S (B : Int → Int) (n : Int) (E : Int → Int) (N : Int) (u v : pj_W) (k : Int) (fx fm : Option (Int × pj_W)) : Prop := ∃ u' v', fx = some (1, u') ∧ fm = some (1, v') ∧ tk_J B n E N u' v' (k + 1) ∧ tk_xf u u' ∧ tk_vf v v'
def tk_X (u v : pj_W) (bad : Int) (fx fm : Option (Int × pj_W)) : Prop := ∃ u' v', fx = some (bad, u') ∧ fm = some (0, v') ∧ tk_F u' v' ∧ tk_xf u u' ∧ tk_vf v v'
theorem tk_J.a (J : tk_J B n E N u v k) : u 12 0 11 = k := J.2.2.1.2.2
theorem tk_J.m (J : tk_J B n E N u v k) : tk_M v B n := J.2.1
theorem tk_notw (J : tk_J B n E N u v k) (h : v 26 0 12 ≠ 2) : fM_inWords v = some (-1) := by unfold fM_inWords; rw [if_neg h]
/-- the word that stands here -/
theorem tk_here (J : tk_J B n E N u v k) : (∃ i : Nat, i < 30 ∧ fR_wordHere u = some (i : Int) ∧ fM_inWords v = some ((tk_kx i : Nat) : Int) ∧ u 31 0 k = 5 ∧ u 33 0 k = i) ∨ (fR_wordHere u = some (-1) ∧ fM_inWords v = some (-1) ∧ u 31 0 k ≠ 5) := by
  have hb := J.b
  obtain ⟨hP, hC⟩ := J.c
  have no : u 31 0 k ≠ 5 → fR_wordHere u = some (-1) := fun h => by
    unfold fR_wordHere
    rw [J.a, if_pos (by omega), if_neg h]
  unfold tk_C at hC
  rcases hC with h | ⟨c1, c2, c3, c4, c5, h | ⟨h2, hr, h1, h8, ⟨i, hi, g1, g2, g3⟩ | ⟨g1, g2, g3⟩⟩ | h | h | h⟩
  · exact Or.inr ⟨no (by omega), tk_notw J (by omega), by omega⟩
  · refine Or.inr ⟨no (by omega), (m_inWords J.m rfl rfl c3 h.2.2.1 h.2.1).2 (fun i hi e => ?_), by omega⟩
    have := (tk_w_nc ⟨i, hi⟩).2.1
    dsimp only at this
    rw [← e, tk_ls_len] at this
    omega
  · refine Or.inl ⟨i, hi, ?_, (m_inWords J.m rfl rfl c3 hr h2).1 i hi g3, g1, g2⟩
    unfold fR_wordHere
    rw [J.a, if_pos (by omega), if_pos g1, g2, pj_wr_id (by omega) (by omega)]
  · exact Or.inr ⟨no (by omega), (m_inWords J.m rfl rfl c3 hr h2).2 g3, by omega⟩
  · exact Or.inr ⟨no (by omega), tk_notw J (by omega), by omega⟩
  · exact Or.inr ⟨no (by omega), tk_notw J (by omega), by omega⟩
  · exact Or.inr ⟨no (by omega), tk_notw J (by omega), by omega⟩
theorem tk_J.adv (J : tk_J B n E N u v k) (h : u 31 0 k ≠ 0) : ∃ u' v', fR_advance u = some u' ∧ fM_ahead v = some v' ∧ tk_J B n E N u' v' (k + 1) ∧ tk_xf u u' ∧ tk_vf v v' := by
  have hC := J.c.2
  unfold tk_C at hC
  rcases hC with g | ⟨c1, c2, c3, c4, c5, _⟩
  · exact absurd g.1 h
  · exact tk_adv J c1 c2 c4 c5
/-- the class takes a word that stands here, the model goes ahead -/
theorem tk_word (J : tk_J B n E N u v k) {i : Nat} (h5 : u 31 0 k = 5) (hi : u 33 0 k = i) : ∃ u' v', fR_takeWord i u = some (1, u') ∧ fM_ahead v = some v' ∧ tk_J B n E N u' v' (k + 1) ∧ tk_xf u u' ∧ tk_vf v v' := by
  have hb := J.b
  obtain ⟨u', v', a1, a2, a3⟩ := J.adv (by omega)
  refine ⟨u', v', ?_, a2, a3⟩
  unfold fR_takeWord
  rw [J.a, if_pos (by omega), if_pos h5, if_pos (pj_cmp_eq.mpr hi), a1, Option.bind_some]
theorem tk_takeWord (J : tk_J B n E N u v k) {i : Nat} (hi : i < 30) {x y : Int} (hx : x = i) (hy : y = ((tk_kx i : Nat) : Int)) : tk_S B n E N u v k (fR_takeWord x u) (fM_wantWord y v) ∨ tk_X u v 0 (fR_takeWord x u) (fM_wantWord y v) := by
  subst hx hy
  have hb := J.b
  have bad : (∀ u' : pj_W, fR_fail 2 u = some (0, u') → fR_takeWord i u = some (0, u')) → fM_inWords v ≠ some ((tk_kx i : Nat) : Int) → (∃ b, fM_inWords v = some b) → tk_X u v 0 (fR_takeWord i u) (fM_wantWord ((tk_kx i : Nat) : Int) v) := fun h1 h2 ⟨b, h3⟩ => by
    obtain ⟨u', v', a1, a2, a3⟩ := tk_fail J (x := 2) (by decide)
    refine ⟨u', v', h1 u' a1, ?_, a3⟩
    unfold fM_wantWord
    rw [h3, Option.bind_some, if_neg (fun e => h2 (by rw [h3, e])), a2, Option.bind_some, if_pos (Or.inl rfl)]
  rcases tk_here J with ⟨j, hj, _, h2, h3, h4⟩ | ⟨_, h2, h3⟩
  · by_cases c : j = i
    · subst c
      obtain ⟨u', v', a1, a2, a3⟩ := tk_word J h3 h4
      refine Or.inl ⟨u', v', a1, ?_, a3⟩
      unfold fM_wantWord
      rw [h2, Option.bind_some, if_pos rfl, a2, Option.bind_some]
    · refine Or.inr (bad (fun u' hu => ?_) (fun e => c ?_) ⟨_, h2⟩)
      · unfold fR_takeWord fR_takeWord_28
        rw [J.a, if_pos (by omega), if_pos h3, if_neg (fun e => c (by have := pj_cmp_eq.mp e; omega)), hu, Option.bind_some, if_pos (Or.inl rfl)]
      · rw [h2] at e
        have e2 : ((tk_kx j : Nat) : Int) = ((tk_kx i : Nat) : Int) := Option.some.inj e
        exact congrArg Fin.val (tk_kx_i ⟨j, hj⟩ ⟨i, hi⟩ (by dsimp only; omega))
  · refine Or.inr (bad (fun u' hu => ?_) (fun e => ?_) ⟨_, h2⟩)
    · unfold fR_takeWord fR_takeWord_28
      rw [J.a, if_pos (by omega), if_neg h3, hu, Option.bind_some, if_pos (Or.inl rfl)]
    · rw [h2] at e
      have e2 : (-1 : Int) = ((tk_kx i : Nat) : Int) := Option.some.inj e
      omega
theorem tk_sign (J : tk_J B n E N u v k) : (∃ c, u 31 0 k = 2 ∧ u 33 0 k = c ∧ v 26 0 12 = 4 ∧ v 26 0 15 = c ∧ tk_sg c) ∨ (u 31 0 k ≠ 2 ∧ v 26 0 12 ≠ 4) := by
  obtain ⟨hP, hC⟩ := J.c
  unfold tk_C at hC
  rcases hC with h | ⟨c1, c2, c3, c4, c5, h | ⟨h2, hr, h1, h8, ⟨i, hi, g1, g2, g3⟩ | ⟨g1, g2, g3⟩⟩ | h | h | h⟩
  · exact Or.inr (by omega)
  · exact Or.inr (by omega)
  · exact Or.inr (by omega)
  · exact Or.inr (by omega)
  · exact Or.inr (by omega)
  · exact Or.inr (by omega)
  · exact Or.inl ⟨_, h.1, rfl, h.2.1, h.2.2.1.symm, h.2.2.2⟩
theorem tk_takeSign (J : tk_J B n E N u v k) (c : Int) : tk_S B n E N u v k (fR_takeSign c u) (fM_wantSign c v) ∨ tk_X u v 0 (fR_takeSign c u) (fM_wantSign c v) := by
  have hb := J.b
  rcases tk_sign J with ⟨d, h1, h2, h3, h4, _⟩ | ⟨h1, h2⟩
  · by_cases e : d = c
    · subst e
      obtain ⟨u', v', a1, a2, a3⟩ := J.adv (by omega)
      refine Or.inl ⟨u', v', ?_, ?_, a3⟩
      · unfold fR_takeSign
        rw [J.a, if_pos (by omega), if_pos h1, if_pos (pj_cmp_eq.mpr h2), a1, Option.bind_some]
      · unfold fM_wantSign fM_isSign
        rw [if_pos h3, if_pos h4, Option.bind_some, if_neg (by decide), a2, Option.bind_some]
    · obtain ⟨u', v', a1, a2, a3⟩ := tk_fail J (x := 2) (by decide)
      refine Or.inr ⟨u', v', ?_, ?_, a3⟩
      · unfold fR_takeSign fR_takeSign_28
        rw [J.a, if_pos (by omega), if_pos h1, if_neg (fun g => e (by have := pj_cmp_eq.mp g; omega)), a1, Option.bind_some, if_pos (Or.inl rfl)]
      · unfold fM_wantSign fM_isSign
        rw [if_pos h3, if_neg (by omega), Option.bind_some, if_pos rfl, a2, Option.bind_some, if_pos (Or.inl rfl)]
  · obtain ⟨u', v', a1, a2, a3⟩ := tk_fail J (x := 2) (by decide)
    refine Or.inr ⟨u', v', ?_, ?_, a3⟩
    · unfold fR_takeSign fR_takeSign_28
      rw [J.a, if_pos (by omega), if_neg h1, a1, Option.bind_some, if_pos (Or.inl rfl)]
    · unfold fM_wantSign fM_isSign
      rw [if_neg h2, Option.bind_some, if_pos rfl, a2, Option.bind_some, if_pos (Or.inl rfl)]
theorem tk_num (J : tk_J B n E N u v k) : (∃ c, u 31 0 k = 3 ∧ u 33 0 k = c ∧ v 26 0 12 = 3 ∧ v 26 0 15 = c ∧ 0 ≤ c ∧ c < 10000) ∨ (u 31 0 k ≠ 3 ∧ v 26 0 12 ≠ 3) := by
  obtain ⟨hP, hC⟩ := J.c
  unfold tk_C at hC
  rcases hC with h | ⟨c1, c2, c3, c4, c5, h | ⟨h2, hr, h1, h8, ⟨i, hi, g1, g2, g3⟩ | ⟨g1, g2, g3⟩⟩ | h | h | h⟩
  · exact Or.inr (by omega)
  · exact Or.inr (by omega)
  · exact Or.inr (by omega)
  · exact Or.inr (by omega)
  · exact Or.inr (by omega)
  · exact Or.inl ⟨_, h.1, rfl, h.2.1, h.2.2.1.symm, h.2.2.2.1, h.2.2.2.2⟩
  · exact Or.inr (by omega)
theorem tk_takeNumber (J : tk_J B n E N u v k) {to lo hi : Int} (t0 : 0 ≤ to) (t1 : to < 8400) : (∃ x u' v', lo ≤ x ∧ x ≤ hi ∧ 0 ≤ x ∧ fR_takeNumber lo hi u = some (x, u') ∧ fM_number to lo hi v = some (1, v') ∧ tk_J B n E N u' v' (k + 1) ∧ tk_xf u u' ∧ tk_vf (pj_set v 60 0 to x) v') ∨ tk_X u v (-1) (fR_takeNumber lo hi u) (fM_number to lo hi v) := by
  have hb := J.b
  rcases tk_num J with ⟨c, h1, h2, h3, h4, h5, h6⟩ | ⟨h1, h2⟩
  · by_cases cr : lo ≤ c ∧ c ≤ hi
    · obtain ⟨u', v', a1, a2, a3, a4, a5⟩ := (J.ex (u' := u) (v' := pj_set v 60 0 to c) (fun _ _ _ _ => rfl) (fun k i s hk => pj_sne (by omega))).adv (by omega)
      refine Or.inl ⟨c, u', v', cr.1, cr.2, h5, ?_, ?_, a3, a4, a5⟩
      · unfold fR_takeNumber
        rw [J.a, if_pos (by omega), if_pos h1, h2, pj_wr_id (by omega) (by omega), if_neg (by omega), if_pos (by omega), a1, Option.bind_some]
      · unfold fM_number
        rw [if_pos h3, h4, if_neg (by omega), if_pos (by omega), if_pos ⟨t0, t1⟩, a2, Option.bind_some]
    · obtain ⟨u', v', a1, a2, a3⟩ := tk_fail J (x := 4) (by decide)
      refine Or.inr ⟨u', v', ?_, ?_, a3⟩
      · unfold fR_takeNumber fR_takeNumber_42
        rw [J.a, if_pos (by omega), if_pos h1, h2, pj_wr_id (by omega) (by omega), a1, Option.bind_some]
        by_cases c1 : c < lo
        · rw [if_pos c1]
        · rw [if_neg c1, if_neg (by omega)]
      · unfold fM_number fM_number_30
        rw [if_pos h3, h4, a2, Option.bind_some, if_pos (Or.inl rfl)]
        by_cases c1 : c < lo
        · rw [if_pos c1]
        · rw [if_neg c1, if_neg (by omega)]
  · obtain ⟨u', v', a1, a2, a3⟩ := tk_fail J (x := 2) (by decide)
    refine Or.inr ⟨u', v', ?_, ?_, a3⟩
    · unfold fR_takeNumber
      rw [J.a, if_pos (by omega), if_neg h1, a1, Option.bind_some]
    · unfold fM_number
      rw [if_neg h2, a2, Option.bind_some, if_pos (Or.inl rfl)]
/-- a name stands here, or none does -/
theorem tk_name (J : tk_J B n E N u v k) : (∃ L, pj_nc L ∧ u 31 0 k = 4 ∧ u 33 0 k = pj_n5 L ∧ fM_isName v = some 1 ∧ fM_nameHere v = some (pj_n8 L) ∧ ∀ b c : Int, 0 ≤ b → 0 ≤ c → b + c ≤ 80 → fM_findHere b c v = some (tk_ix (fun k => v 61 0 (b + k)) c (pj_n8 L))) ∨ (u 31 0 k ≠ 4 ∧ fM_isName v = some 0) := by
  have hJh := tk_here J
  obtain ⟨hP, hC⟩ := J.c
  unfold tk_C at hC
  have no : v 26 0 12 ≠ 2 → fM_isName v = some 0 := fun h => by
    unfold fM_isName
    rw [if_neg h]
  have hn := J.m.2.2.1
  rcases hC with h | ⟨c1, c2, c3, c4, c5, h | ⟨h2, hr, h1, h8, ⟨i, hi, g1, g2, g3⟩ | ⟨g1, g2, g3⟩⟩ | h | h | h⟩
  · exact Or.inr ⟨by omega, no (by omega)⟩
  · refine Or.inr ⟨by omega, ?_⟩
    unfold fM_isName
    rw [if_pos h.2.1, pj_wr_id (by omega) (by omega), if_pos h.2.2.2]
  · refine Or.inr ⟨by omega, ?_⟩
    unfold fM_isName
    rw [if_pos h2, pj_wr_id (by omega) (by omega), if_neg (by omega), (m_inWords J.m rfl rfl c3 hr h2).1 i hi g3, Option.bind_some, if_neg (by omega)]
  · refine Or.inl ⟨_, ⟨?_, ?_, tk_ls_lt hr (by omega)⟩, g1, g2, ?_, m_name J.m rfl rfl c3 hr h8, fun b c b0 c0 bc => m_findHere J.m rfl rfl c3 hr h8 b0 c0 bc⟩
    · rw [tk_ls_len]; omega
    · rw [tk_ls_len]; omega
    · unfold fM_isName
      rw [if_pos h2, pj_wr_id (by omega) (by omega), if_neg (by omega), (m_inWords J.m rfl rfl c3 hr h2).2 g3, Option.bind_some, if_pos rfl]
  · exact Or.inr ⟨by omega, no (by omega)⟩
  · exact Or.inr ⟨by omega, no (by omega)⟩
  · exact Or.inr ⟨by omega, no (by omega)⟩
theorem tk_nm_ix {f g : Int → Int} {c : Int} {L : List Nat} (hL : pj_nc L) (h : ∀ k : Int, 0 ≤ k → k < c → pj_nm (f k) (g k)) : tk_ix f c (pj_n5 L) = tk_ix g c (pj_n8 L) := by
  refine tk_ix_ex (fun k h0 h1 => ?_)
  obtain ⟨l, hl, e1, e2⟩ := h k h0 h1
  rw [e1, e2]
  constructor
  · intro e
    rw [pj_n5_i _ l L rfl hl.2.2 hL.2.2 e]
  · intro e
    rw [pj_n8_i _ l L rfl hl.2.2 hL.2.2 e]
end
