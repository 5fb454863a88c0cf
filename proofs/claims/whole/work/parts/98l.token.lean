/-! TOKENS, as the class makes them: words and numbers -/
theorem tk_fin {w u u' : pj_W} {T P K V E : Int} (f : tk_f9 w u) (h9 : u 12 0 9 = E) (h : tk_new u u' T P K V (u 12 0 9)) : tk_new w u' T P K V E := by
  obtain ⟨a1, a2, a3, a4, a5, a6⟩ := h
  exact ⟨a1.trans h9, a2, a3, a4, a5, fun k i s c d => (a6 k i s c d).trans (f k i s (by omega))⟩
theorem x_word {w : pj_W} {B : Int → Int} {n P T : Int} (t : tk_T w B n) (hW : tk_W w) (hp : w 12 0 9 = P) (h0 : 0 ≤ P) (h1 : P < n) (hs : tk_sm (B P)) (hT : w 12 0 10 = T) (hT0 : 0 ≤ T) (hT1 : T ≤ 900) : ∃ u K V E, fR_scanWord w = some u ∧ tk_at B n P K V E ∧ tk_new w u T P K V E ∧ P < E ∧ E ≤ n := by
  obtain ⟨t8, t0, t9, tB⟩ := t
  obtain ⟨e, s', r, ⟨J1, J2, J3, J4, J5⟩, hl⟩ := tk_lp (body := fun s : (Int × pj_W) => fR_scanWord_7b P s.1 s.2) (P := tk_sm) (B := B) (n := n) (fun q s => P ≤ q ∧ s.2 12 0 9 = q ∧ tk_f9 w s.2 ∧ s.1 = pj_n5 (tk_ls B P (min (q - P) 8).toNat) ∧ ∀ i, P ≤ i → i < q → tk_sm (B i)) (fun q s hq hb ⟨J1, J2, J3, J4, J5⟩ => by
    have e8 : s.2 12 0 8 = n := by rw [J3 12 0 8 (by omega)]; exact t8
    have eB : s.2 30 0 q = B q := by rw [J3 30 0 q (by omega)]; exact tB q (by omega) hq
    have J5' : ∀ i, P ≤ i → i < q + 1 → tk_sm (B i) := fun i i0 i1 => by
      by_cases c : i = q
      · rw [c]; exact hb
      · exact J5 i i0 (by omega)
    have hf : tk_f9 w (pj_set s.2 12 0 9 (q + 1)) := fun k i x hx => by rw [pj_sne hx]; exact J3 k i x hx
    by_cases c : 8 ≤ q - P
    · refine ⟨(s.1, pj_set s.2 12 0 9 (q + 1)), ?_, by omega, (by show pj_set s.2 12 0 9 (q + 1) 12 0 9 = q + 1; exact pj_set_at), hf, ?_, J5'⟩
      · unfold fR_scanWord_7b fR_scanWord_58
        rw [J2, e8, eB, if_neg (by omega), if_pos (by omega), x_isL1 hb, Option.bind_some, if_neg (by omega), pj_wr_id (x := q - P) (by omega) (by omega), if_pos c, pj_wr_id (by omega) (by omega)]
      · show s.1 = _
        rw [J4, show min (q - P) 8 = 8 by omega, show min (q + 1 - P) 8 = 8 by omega]
    · have el : tk_ls B P (min (q + 1 - P) 8).toNat = tk_ls B P (q - P).toNat ++ [(B q).toNat] := by
        rw [show (min (q + 1 - P) 8).toNat = (q - P).toNat + 1 by omega, tk_ls_succ, show P + (((q - P).toNat : Nat) : Int) = q by omega]
      have J4' : s.1 = pj_n5 (tk_ls B P (q - P).toNat) := by rw [J4, show min (q - P) 8 = q - P by omega]
      have hbb := pj_n5_b (q - P).toNat (tk_ls B P (q - P).toNat) (tk_ls_len _ _ _) (fun c hc => by
        obtain ⟨i, hi, ec⟩ := tk_ls_mem hc
        have := J5 (P + i) (by omega) (by omega)
        unfold tk_sm at this
        omega)
      have hpw : (32 : Int) ^ (q - P).toNat ≤ 32 ^ 7 := by
        have := Nat.pow_le_pow_right (n := 32) (by decide) (show (q - P).toNat ≤ 7 by omega)
        exact_mod_cast this
      unfold tk_sm at hb
      refine ⟨(pj_n5 (tk_ls B P (min (q + 1 - P) 8).toNat), pj_set s.2 12 0 9 (q + 1)), ?_, by omega, (by show pj_set s.2 12 0 9 (q + 1) 12 0 9 = q + 1; exact pj_set_at), hf, rfl, J5'⟩
      unfold fR_scanWord_7b fR_scanWord_58 fR_pack
      rw [J2, e8, eB, if_neg (by omega), if_pos (by omega), x_isL1 hb, Option.bind_some, if_neg (by omega), pj_wr_id (x := q - P) (by omega) (by omega), if_neg c, Option.bind_some, pj_wr_id (x := q + 1) (by omega) (by omega), el, pj_n5_s, J4', pj_wr_id (x := B q - 97) (by omega) (by omega), pj_wr_id (by omega) (by omega), pj_wl_id (x := pj_n5 (tk_ls B P (q - P).toNat) * 32) (by omega) (by omega), pj_wl_id (by omega) (by omega), show (((B q).toNat : Nat) : Int) - 96 = B q - 97 + 1 by omega]) (n - P).toNat P (0, w) (by omega) (by omega) ⟨Int.le_refl P, hp, fun _ _ _ _ => rfl, by rw [show (min (P - P) 8).toNat = 0 by omega]; rfl, fun i i0 i1 => by omega⟩
  have r' := r
  obtain ⟨r1, r2, r3, r4⟩ := r'
  have hPe : P < e := by
    by_cases c : P = e
    · rw [← c] at r4; exact absurd hs (r4 h1)
    · omega
  have e8 : s'.2 12 0 8 = n := by rw [J3 12 0 8 (by omega)]; exact t8
  have e10 : s'.2 12 0 10 = T := by rw [J3 12 0 10 (by omega)]; exact hT
  have hW' : tk_W s'.2 := fun i hi => by rw [J3 34 0 i (by omega)]; exact hW i hi
  have hend : fR_scanWord w = fR_scanWord_71 P s'.1 s'.2 := by
    unfold fR_scanWord fR_scanWord_7
    rw [hp, hl]
    refine pj_Lp_map ?_
    unfold fR_scanWord_7b
    rw [J2, e8]
    by_cases c : n ≤ e
    · rw [if_pos c]
    · have eB : s'.2 30 0 e = B e := by rw [J3 30 0 e (by omega)]; exact tB e (by omega) (by omega)
      rw [if_neg c, if_pos (by omega), eB, x_isL0 (r4 (by omega)), Option.bind_some, if_pos rfl]
  rw [hend]
  unfold fR_scanWord_71
  rw [J2, pj_wr_id (by omega) (by omega)]
  by_cases c : e - P ≤ 8
  · have J4' : s'.1 = pj_n5 (tk_ls B P (e - P).toNat) := by rw [J4, show min (e - P) 8 = e - P by omega]
    have hlt := tk_ls_lt r (m := (e - P).toNat) (by omega)
    rw [if_pos c]
    rcases x_wordOf hW' s'.1 with ⟨x1, x2⟩ | ⟨i, hi, x1, x2⟩
    · obtain ⟨u, a1, a2⟩ := x_add e10 hT0 hT1 4 P s'.1
      rw [x1, Option.bind_some, if_pos rfl, a1, Option.bind_some]
      exact ⟨u, _, _, e, rfl, Or.inl ⟨hs, r, Or.inr ⟨c, Or.inr ⟨rfl, J4', fun i hi h => x2 i hi (by rw [J4', h])⟩⟩⟩, tk_fin J3 J2 a2, hPe, r2⟩
    · obtain ⟨u, a1, a2⟩ := x_add e10 hT0 hT1 5 P (i : Int)
      rw [x1, Option.bind_some, if_neg (by omega), a1, Option.bind_some]
      exact ⟨u, _, _, e, rfl, Or.inl ⟨hs, r, Or.inr ⟨c, Or.inl ⟨i, hi, rfl, rfl, pj_n5_i _ _ _ rfl hlt (tk_w_lt hi) (by rw [x2, J4'])⟩⟩⟩, tk_fin J3 J2 a2, hPe, r2⟩
  · obtain ⟨u, a1, a2⟩ := x_add e10 hT0 hT1 6 P 0
    rw [if_neg c, a1, Option.bind_some]
    exact ⟨u, _, _, e, rfl, Or.inl ⟨hs, r, Or.inl ⟨by omega, rfl⟩⟩, tk_fin J3 J2 a2, hPe, r2⟩
theorem x_num {w : pj_W} {B : Int → Int} {n P T : Int} (t : tk_T w B n) (hp : w 12 0 9 = P) (h0 : 0 ≤ P) (h1 : P < n) (hs : tk_dg (B P)) (hT : w 12 0 10 = T) (hT0 : 0 ≤ T) (hT1 : T ≤ 900) : ∃ u K V E, fR_scanNumber w = some u ∧ tk_at B n P K V E ∧ tk_new w u T P K V E ∧ P < E ∧ E ≤ n := by
  obtain ⟨t8, t0, t9, tB⟩ := t
  obtain ⟨e, s', r, ⟨J1, J2, J3, J4, J5⟩, hl⟩ := tk_lp (body := fun s : (Int × pj_W) => fR_scanNumber_7b P s.1 s.2) (P := tk_dg) (B := B) (n := n) (fun q s => P ≤ q ∧ s.2 12 0 9 = q ∧ tk_f9 w s.2 ∧ s.1 = tk_dv (tk_ls B P (min (q - P) 4).toNat) ∧ ∀ i, P ≤ i → i < q → tk_dg (B i)) (fun q s hq hb ⟨J1, J2, J3, J4, J5⟩ => by
    have e8 : s.2 12 0 8 = n := by rw [J3 12 0 8 (by omega)]; exact t8
    have eB : s.2 30 0 q = B q := by rw [J3 30 0 q (by omega)]; exact tB q (by omega) hq
    have J5' : ∀ i, P ≤ i → i < q + 1 → tk_dg (B i) := fun i i0 i1 => by
      by_cases c : i = q
      · rw [c]; exact hb
      · exact J5 i i0 (by omega)
    have hf : tk_f9 w (pj_set s.2 12 0 9 (q + 1)) := fun k i x hx => by rw [pj_sne hx]; exact J3 k i x hx
    by_cases c : 4 ≤ q - P
    · refine ⟨(s.1, pj_set s.2 12 0 9 (q + 1)), ?_, by omega, (by show pj_set s.2 12 0 9 (q + 1) 12 0 9 = q + 1; exact pj_set_at), hf, ?_, J5'⟩
      · unfold fR_scanNumber_7b fR_scanNumber_61
        rw [J2, e8, eB, if_neg (by omega), if_pos (by omega), x_isD1 hb, Option.bind_some, if_neg (by omega), pj_wr_id (x := q - P) (by omega) (by omega), if_pos c, pj_wr_id (by omega) (by omega)]
      · show s.1 = _
        rw [J4, show min (q - P) 4 = 4 by omega, show min (q + 1 - P) 4 = 4 by omega]
    · have el : tk_ls B P (min (q + 1 - P) 4).toNat = tk_ls B P (q - P).toNat ++ [(B q).toNat] := by
        rw [show (min (q + 1 - P) 4).toNat = (q - P).toNat + 1 by omega, tk_ls_succ, show P + (((q - P).toNat : Nat) : Int) = q by omega]
      have J4' : s.1 = tk_dv (tk_ls B P (q - P).toNat) := by rw [J4, show min (q - P) 4 = q - P by omega]
      have hbb := tk_dv_b (B := B) (p := P) (q - P).toNat (fun i hi => J5 (P + i) (by omega) (by omega))
      have hpw : (10 : Int) ^ (q - P).toNat ≤ 10 ^ 3 := by
        have := Nat.pow_le_pow_right (n := 10) (by decide) (show (q - P).toNat ≤ 3 by omega)
        exact_mod_cast this
      unfold tk_dg at hb
      refine ⟨(tk_dv (tk_ls B P (min (q + 1 - P) 4).toNat), pj_set s.2 12 0 9 (q + 1)), ?_, by omega, (by show pj_set s.2 12 0 9 (q + 1) 12 0 9 = q + 1; exact pj_set_at), hf, rfl, J5'⟩
      unfold fR_scanNumber_7b fR_scanNumber_61
      rw [J2, e8, eB, if_neg (by omega), if_pos (by omega), x_isD1 hb, Option.bind_some, if_neg (by omega), pj_wr_id (x := q - P) (by omega) (by omega), if_neg c, pj_wr_id (x := q + 1) (by omega) (by omega), el, tk_dv_s, J4', pj_wr_id (x := tk_dv (tk_ls B P (q - P).toNat) * 10) (by omega) (by omega), pj_wr_id (x := B q - 48) (by omega) (by omega), pj_wr_id (by omega) (by omega), show (((B q).toNat : Nat) : Int) - 48 = B q - 48 by omega]) (n - P).toNat P (0, w) (by omega) (by omega) ⟨Int.le_refl P, hp, fun _ _ _ _ => rfl, by rw [show (min (P - P) 4).toNat = 0 by omega]; rfl, fun i i0 i1 => by omega⟩
  have r' := r
  obtain ⟨r1, r2, r3, r4⟩ := r'
  have hPe : P < e := by
    by_cases c : P = e
    · rw [← c] at r4; exact absurd hs (r4 h1)
    · omega
  have e8 : s'.2 12 0 8 = n := by rw [J3 12 0 8 (by omega)]; exact t8
  have e10 : s'.2 12 0 10 = T := by rw [J3 12 0 10 (by omega)]; exact hT
  have hend : fR_scanNumber w = fR_scanNumber_74 P s'.1 s'.2 := by
    unfold fR_scanNumber fR_scanNumber_7
    rw [hp, hl]
    refine pj_Lp_map ?_
    unfold fR_scanNumber_7b
    rw [J2, e8]
    by_cases c : n ≤ e
    · rw [if_pos c]
    · have eB : s'.2 30 0 e = B e := by rw [J3 30 0 e (by omega)]; exact tB e (by omega) (by omega)
      rw [if_neg c, if_pos (by omega), eB, x_isD0 (r4 (by omega)), Option.bind_some, if_pos rfl]
  rw [hend]
  unfold fR_scanNumber_74 fR_scanNumber_90
  rw [J2, pj_wr_id (by omega) (by omega)]
  by_cases c : e - P ≤ 4
  · obtain ⟨u, a1, a2⟩ := x_add e10 hT0 hT1 3 P s'.1
    rw [if_pos c, a1, Option.bind_some]
    exact ⟨u, _, _, e, rfl, Or.inr (Or.inl ⟨hs, r, Or.inr ⟨c, rfl, by rw [J4, show min (e - P) 4 = e - P by omega]⟩⟩), tk_fin J3 J2 a2, hPe, r2⟩
  · obtain ⟨u, a1, a2⟩ := x_add e10 hT0 hT1 1 P s'.1
    rw [if_neg c, a1, Option.bind_some]
    exact ⟨u, _, _, e, rfl, Or.inr (Or.inl ⟨hs, r, Or.inl ⟨by omega, rfl⟩⟩), tk_fin J3 J2 a2, hPe, r2⟩
