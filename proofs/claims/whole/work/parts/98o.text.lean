/-! TEXTS, as the model reads them: the next token -/
theorem m_ahead {u : pj_W} {B : Int → Int} {n s : Int} (t : tk_M u B n) (h14 : u 26 0 14 = s) (h0 : 0 ≤ s) (h1 : s ≤ n) : ∃ v, fM_ahead u = some v ∧ tk_mt v B n s ∧ tk_fm u v := by
  have hn := t.2.2.1
  obtain ⟨P, s', r, ⟨J1, J2, J3⟩, hl⟩ := tk_lp (body := fun x : pj_W => fM_ahead_0b x) (P := tk_bl) (B := B) (n := n) (fun q x => s ≤ q ∧ x 26 0 14 = q ∧ ∀ k i y, ¬ (k = 26 ∧ i = 0 ∧ y = 14) → x k i y = u k i y) (fun q x hq hb ⟨J1, J2, J3⟩ => by
    refine ⟨pj_set x 26 0 14 (q + 1), ?_, by omega, pj_set_at, fun k i y hy => by rw [pj_sne hy]; exact J3 k i y hy⟩
    have t' : tk_M x B n := t.ex (fun k i y hy => J3 k i y (by omega))
    have hb8 := t.2.2.2.1 q
    unfold fM_ahead_0b fM_ahead_26
    rw [J2, m_byteI t' (by omega) hq, Option.bind_some]
    rcases hb with hb | hb
    · rw [if_pos (by omega), pj_wr_id (by omega) (by omega)]
    · rw [if_neg (by omega), Option.bind_some, if_pos (by omega), pj_wr_id (by omega) (by omega)]) (n - s).toNat s u (by omega) h1 ⟨Int.le_refl s, h14, fun _ _ _ _ => rfl⟩
  have t' : tk_M s' B n := t.ex (fun k i x hx => J3 k i x (by omega))
  have hrn := r.2.1
  have hb8 := t.2.2.2.1 P
  have hnb : P < n → ¬ (B P % 256 = 32) ∧ ¬ (B P % 256 = 10) := fun h => by
    have := r.2.2.2 h
    unfold tk_bl at this
    omega
  have eu : fM_ahead u = pj_Lp (fun x : pj_W => fM_ahead_0b x) s' := hl
  have f2 : ∀ z, ∀ k i y, ¬ (k = 26 ∧ i = 0 ∧ (y = 13 ∨ y = 15)) → pj_set (pj_set s' 26 0 13 P) 26 0 15 z k i y = s' k i y := fun z k i y hy => by rw [pj_sne (by omega), pj_sne (by omega)]
  have e13 : ∀ z, pj_set (pj_set s' 26 0 13 P) 26 0 15 z 26 0 13 = P := fun z => by rw [pj_sne (by omega), pj_set_at]
  have e14 : ∀ z, pj_set (pj_set s' 26 0 13 P) 26 0 15 z 26 0 14 = P := fun z => (f2 z 26 0 14 (by omega)).trans J2
  have t13 : tk_M (pj_set s' 26 0 13 P) B n := t'.ex (fun k i x hx => pj_sne (by omega))
  have e14' : pj_set s' 26 0 13 P 26 0 14 = P := (pj_sne (by omega)).trans J2
  by_cases cE : n ≤ P
  · have eP : P = n := by omega
    refine ⟨pj_set (pj_set (pj_set s' 26 0 13 P) 26 0 15 (-1)) 26 0 12 0, ?_, ⟨?_, Or.inl ⟨?_, ?_, ?_⟩⟩, fun k i x hx => ?_⟩
    · rw [eu]
      refine pj_Lp_end ?_
      unfold fM_ahead_0b
      rw [J2, e14', m_byteE t' (by omega) cE, Option.bind_some, if_neg (by omega), Option.bind_some, if_neg (by omega), m_byteE t13 (by omega) cE, Option.bind_some, if_pos rfl]
    · rw [pj_sne (by omega), e13]; exact r
    · rw [pj_sne (by omega), e13]; exact eP
    · rw [pj_set_at]
    · rw [pj_sne (by omega), e14]; exact eP
    · rw [pj_sne (by omega), f2 _ k i x (by omega)]; exact J3 k i x (by omega)
  have hP : P < n := by omega
  obtain ⟨nb1, nb2⟩ := hnb hP
  by_cases cs : tk_sm (B P)
  · have h := (tk_sm8 hb8).mpr cs
    obtain ⟨v, e, a1, a2, a3, a4, a5, a6⟩ := m_aheadW (t'.ex (v := pj_set (pj_set s' 26 0 13 P) 26 0 15 (B P % 256)) (fun k i y hy => f2 _ k i y (by omega))) (e14 _) (by omega) hP
    refine ⟨v, ?_, ⟨?_, Or.inr (Or.inl ⟨?_, ?_, ?_, a4⟩)⟩, fun k i x hx => ?_⟩
    · rw [eu]
      refine pj_Lp_map ?_
      show fM_ahead_0b s' = _
      unfold fM_ahead_0b
      rw [J2, e14', m_byteI t' (by omega) hP, Option.bind_some, if_neg nb1, Option.bind_some, if_neg nb2, m_byteI t13 (by omega) hP, Option.bind_some, if_neg (by omega), m_isS1 h, Option.bind_some, if_neg (by decide), a1]
    · rw [a5, e13]; exact r
    · rw [a5, e13]; exact hP
    · rw [a5, e13]; exact cs
    · rw [a5, e13, a3]; exact a2
    · rw [a6 k i x hx, f2 _ k i x (by omega)]; exact J3 k i x (by omega)
  by_cases cd : tk_dg (B P)
  · have h := (tk_dg8 hb8).mpr cd
    have g : ∀ k i y, ¬ (k = 26 ∧ i = 0 ∧ (y = 13 ∨ y = 15)) → pj_set (pj_set (pj_set s' 26 0 13 P) 26 0 15 (B P % 256)) 26 0 15 0 k i y = s' k i y := fun k i y hy => by rw [pj_sne (by omega), f2 _ k i y hy]
    obtain ⟨v, e, a1, a2, a3, a4, a5, a6⟩ := m_aheadN (t'.ex (v := pj_set (pj_set (pj_set s' 26 0 13 P) 26 0 15 (B P % 256)) 26 0 15 0) (fun k i y hy => g k i y (by omega))) ((g 26 0 14 (by omega)).trans J2) (by rw [pj_sne (by omega), e13]) pj_set_at (by omega) hP
    refine ⟨v, ?_, ⟨?_, Or.inr (Or.inr (Or.inl ⟨?_, ?_, ?_, ?_⟩))⟩, fun k i x hx => ?_⟩
    · rw [eu]
      refine pj_Lp_map ?_
      show fM_ahead_0b s' = _
      unfold fM_ahead_0b
      rw [J2, e14', m_byteI t' (by omega) hP, Option.bind_some, if_neg nb1, Option.bind_some, if_neg nb2, m_byteI t13 (by omega) hP, Option.bind_some, if_neg (by omega), m_isS0 (fun h2 => cs ((tk_sm8 hb8).mp h2)), Option.bind_some, if_pos rfl, m_isD1 h, Option.bind_some, if_neg (by decide), a1]
    · rw [a4]; exact r
    · rw [a4]; exact hP
    · rw [a4]; exact cd
    · rw [a4, a3]; exact a2
    · rw [a4, a3]; exact a5
    · rw [a6 k i x hx, g k i x (by omega)]; exact J3 k i x (by omega)
  -- a sign, or no token at all
  have key : ∀ T : Int, (T = 4 ∧ tk_sg (B P) ∨ T = 1 ∧ ¬ tk_sg (B P)) → fM_ahead u = fM_ahead_248 T (pj_set (pj_set (pj_set s' 26 0 13 P) 26 0 15 (B P % 256)) 26 0 14 (P + 1)) → ∃ v, fM_ahead u = some v ∧ tk_mt v B n s ∧ tk_fm u v := fun T hT he => by
    unfold fM_ahead_248 at he
    have q13 : pj_set (pj_set (pj_set (pj_set s' 26 0 13 P) 26 0 15 (B P % 256)) 26 0 14 (P + 1)) 26 0 12 T 26 0 13 = P := by rw [pj_sne (by omega), pj_sne (by omega), e13]
    have q14 : pj_set (pj_set (pj_set (pj_set s' 26 0 13 P) 26 0 15 (B P % 256)) 26 0 14 (P + 1)) 26 0 12 T 26 0 14 = P + 1 := by rw [pj_sne (by omega), pj_set_at]
    have q15 : pj_set (pj_set (pj_set (pj_set s' 26 0 13 P) 26 0 15 (B P % 256)) 26 0 14 (P + 1)) 26 0 12 T 26 0 15 = B P % 256 := by rw [pj_sne (by omega), pj_sne (by omega), pj_set_at]
    refine ⟨_, he, ⟨?_, ?_⟩, fun k i x hx => ?_⟩
    · rw [q13]; exact r
    · rw [q13, q14, q15, pj_set_at]
      rcases hT with ⟨hT, hg⟩ | ⟨hT, hg⟩
      · refine Or.inr (Or.inr (Or.inr (Or.inl ⟨hP, hg, rfl, hT, ?_⟩)))
        unfold tk_sg at hg
        omega
      · exact Or.inr (Or.inr (Or.inr (Or.inr ⟨hP, cs, cd, hg, rfl, hT⟩)))
    · rw [pj_sne (by omega), pj_sne (by omega), f2 _ k i x (by omega)]; exact J3 k i x (by omega)
  have hlast : ∀ x : Option pj_W, (if B P % 256 = 59 then ((fM_ahead_243 (pj_set (pj_set (pj_set s' 26 0 13 P) 26 0 15 (B P % 256)) 26 0 14 (P + 1)))) else (if B P % 256 = 60 then ((fM_ahead_243 (pj_set (pj_set (pj_set s' 26 0 13 P) 26 0 15 (B P % 256)) 26 0 14 (P + 1)))) else (if B P % 256 = 62 then ((fM_ahead_243 (pj_set (pj_set (pj_set s' 26 0 13 P) 26 0 15 (B P % 256)) 26 0 14 (P + 1)))) else (if B P % 256 = 61 then ((fM_ahead_243 (pj_set (pj_set (pj_set s' 26 0 13 P) 26 0 15 (B P % 256)) 26 0 14 (P + 1)))) else ((fM_ahead_248 1 (pj_set (pj_set (pj_set s' 26 0 13 P) 26 0 15 (B P % 256)) 26 0 14 (P + 1)))))))) = x → fM_ahead u = x := fun x hx => by
    rw [eu]
    refine pj_Lp_map ?_
    show fM_ahead_0b s' = _
    unfold fM_ahead_0b
    rw [J2, e14', m_byteI t' (by omega) hP, Option.bind_some, if_neg nb1, Option.bind_some, if_neg nb2, m_byteI t13 (by omega) hP, Option.bind_some, if_neg (by omega), m_isS0 (fun h2 => cs ((tk_sm8 hb8).mp h2)), Option.bind_some, if_pos rfl, m_isD0 (fun h2 => cd ((tk_dg8 hb8).mp h2)), Option.bind_some, if_pos rfl, Option.bind_some, e14, pj_wr_id (by omega) (by omega), ← hx]
    by_cases c1 : B P % 256 = 59
    · rw [if_pos c1, if_pos c1]
    rw [if_neg c1, if_neg c1]
    by_cases c2 : B P % 256 = 60
    · rw [if_pos c2, if_pos c2]
    rw [if_neg c2, if_neg c2]
    by_cases c3 : B P % 256 = 62
    · rw [if_pos c3, if_pos c3]
    rw [if_neg c3, if_neg c3]
    by_cases c4 : B P % 256 = 61
    · rw [if_pos c4, if_pos c4]
    rw [if_neg c4, if_neg c4]
  by_cases cg : tk_sg (B P)
  · refine key 4 (Or.inl ⟨rfl, cg⟩) (hlast _ ?_)
    unfold tk_sg at cg
    unfold fM_ahead_243
    by_cases c1 : B P % 256 = 59
    · rw [if_pos c1]
    rw [if_neg c1]
    by_cases c2 : B P % 256 = 60
    · rw [if_pos c2]
    rw [if_neg c2]
    by_cases c3 : B P % 256 = 62
    · rw [if_pos c3]
    rw [if_neg c3, if_pos (by omega)]
  · refine key 1 (Or.inr ⟨rfl, cg⟩) (hlast _ ?_)
    unfold tk_sg at cg
    rw [if_neg (by omega), if_neg (by omega), if_neg (by omega), if_neg (by omega)]
