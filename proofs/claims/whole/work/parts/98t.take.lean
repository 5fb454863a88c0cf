/-! WHAT BOTH TAKE: a number behind a word, a new name, a known name -/
section
variable {B : Int → Int} {n : Int} {E : Int → Int} {N : Int} {u v u' v' : pj_W} {k : Int}
theorem tk_behind (J : tk_J B n E N u v k) {i : Nat} (h30 : i < 30) {x y : Int} (hx : x = i) (hy : y = ((tk_kx i : Nat) : Int)) {to lo hi : Int} (t0 : 0 ≤ to) (t1 : to < 8400) :
    (∃ z u2 v1 v2, lo ≤ z ∧ z ≤ hi ∧ 0 ≤ z ∧ fR_takeNumberBehind x lo hi u = some (z, u2) ∧ fM_wantWord y v = some (1, v1) ∧ tk_vf v v1 ∧ fM_number to lo hi v1 = some (1, v2) ∧ tk_J B n E N u2 v2 (k + 2) ∧ tk_xf u u2 ∧ tk_vf (pj_set v 60 0 to z) v2) ∨
    (∃ u2 v2, fR_takeNumberBehind x lo hi u = some (-1, u2) ∧ (fM_wantWord y v = some (0, v2) ∨ ∃ v1, fM_wantWord y v = some (1, v1) ∧ tk_vf v v1 ∧ fM_number to lo hi v1 = some (0, v2)) ∧ tk_F u2 v2 ∧ tk_xf u u2 ∧ tk_vf v v2) := by
  unfold fR_takeNumberBehind
  rcases tk_takeWord J h30 hx hy with ⟨u1, v1, a1, a2, a3, a4, a5⟩ | ⟨u1, v1, a1, a2, a3, a4, a5⟩
  · rw [a1, Option.bind_some, if_neg (show ¬ (1 : Int) = 0 by decide)]
    rcases tk_takeNumber a3 (lo := lo) (hi := hi) t0 t1 with ⟨z, u2, v2, z1, z2, z3, b1, b2, b3, b4, b5⟩ | ⟨u2, v2, b1, b2, b3, b4, b5⟩
    · refine Or.inl ⟨z, u2, v1, v2, z1, z2, z3, by rw [b1, Option.bind_some], a2, a5, b2, by rw [show k + 2 = k + 1 + 1 by omega]; exact b3, a4.tr b4, fun kk ii s hh => ?_⟩
      rw [b5 kk ii s hh]
      by_cases c : kk = 60 ∧ ii = 0 ∧ s = to
      · obtain ⟨c1, c2, c3⟩ := c
        subst c1 c2 c3
        rw [pj_set_at, pj_set_at]
      · rw [pj_sne c, pj_sne c]; exact a5 kk ii s hh
    · exact Or.inr ⟨u2, v2, by rw [b1, Option.bind_some], Or.inr ⟨v1, a2, a5, b2⟩, b3, a4.tr b4, a5.tr b5⟩
  · rw [a1, Option.bind_some, if_pos rfl]
    exact Or.inr ⟨u1, v1, rfl, Or.inl a2, a3, a4, a5⟩
def tk_nF (b : Int) (u v : pj_W) (base cf cd : Int) : Prop := (u 19 b 7 = cf ∧ 0 ≤ cf ∧ cf ≤ 6 ∧ u 19 b 8 = cd ∧ 0 ≤ cd ∧ cd ≤ 8) ∧ (∀ f : Int, 0 ≤ f → f < cf → pj_nm (u 22 (6 * b + f) 0) (v 61 0 (base + f))) ∧ ∀ d : Int, 0 ≤ d → d < cd → pj_nm (u 23 (8 * b + d) 2) (v 61 0 (base + 6 + d))
theorem tk_nF.ex {b base cf cd : Int} (h : tk_nF b u v base cf cd) (hx : tk_xf u u') (hv : tk_vf v v') : tk_nF b u' v' base cf cd := by
  obtain ⟨⟨h1, h2, h3, h4, h5, h6⟩, hf, hd⟩ := h
  refine ⟨⟨(hx 19 b 7 (by omega)).trans h1, h2, h3, (hx 19 b 8 (by omega)).trans h4, h5, h6⟩, fun f f0 f1 => ?_, fun d d0 d1 => ?_⟩
  · rw [hx 22 _ 0 (by omega), hv 61 0 _ (by omega)]; exact hf f f0 f1
  · rw [hx 23 _ 2 (by omega), hv 61 0 _ (by omega)]; exact hd d d0 d1
theorem tk_newOne (J : tk_J B n E N u v k) {i : Nat} (h5 : u 31 0 k = 5) (hi : u 33 0 k = i) {b cf cd m most sort c : Int} (hb : 0 ≤ b) (hn : tk_nF b u v 56 cf cd) (hcf : v 60 0 5601 = cf) (hcd : v 60 0 5602 = cd) (hm : 0 ≤ m) (hm2 : m ≤ 2) (hc : v 60 0 (5600 + m) = c) (hcm : c ≠ most) (c0 : 0 ≤ c) (s0 : 0 ≤ sort) (s1 : 56 + sort + c < 80) :
    ∃ u1, fR_takeWord i u = some (1, u1) ∧ tk_xf u u1 ∧
    ((∃ L u2 v2, pj_nc L ∧ fR_takeNewName b u1 = some (pj_n5 L, u2) ∧ fM_newOne m most sort v = some (1, v2) ∧ tk_J B n E N u2 v2 (k + 2) ∧ tk_xf u u2 ∧ tk_vf (pj_set v 61 0 (56 + sort + c) (pj_n8 L)) v2) ∨
    (∃ u2 v2, fR_takeNewName b u1 = some (-1, u2) ∧ fM_newOne m most sort v = some (0, v2) ∧ tk_F u2 v2 ∧ tk_xf u u2 ∧ tk_vf v v2)) := by
  obtain ⟨u1, v1, a1, a2, a3, a4, a5⟩ := tk_word J h5 hi
  refine ⟨u1, a1, a4, ?_⟩
  have hn1 := hn.ex a4 a5
  obtain ⟨⟨n1, n2, n3, n4, n5, n6⟩, hf, hd⟩ := hn1
  have e1 : v1 60 0 5601 = cf := (a5 60 0 5601 (by omega)).trans hcf
  have e2 : v1 60 0 5602 = cd := (a5 60 0 5602 (by omega)).trans hcd
  have e3 : v1 60 0 (5600 + m) = c := (a5 60 0 _ (by omega)).trans hc
  have hk := a3.b
  unfold fR_takeNewName fM_newOne
  rw [pj_wr_id (x := 5600 + m) (by omega) (by omega), if_pos (show 0 ≤ 5600 + m ∧ 5600 + m < 8400 by omega), hc, if_neg hcm, a2, Option.bind_some, a3.a, if_pos (by omega), if_pos hb]
  rcases tk_name a3 with ⟨L, L1, L2, L3, L4, L5, L6⟩ | ⟨L2, L4⟩
  · have x1 := tk_nm_ix L1 hf
    have x2 : tk_ix (fun k => u1 23 (8 * b + k) 2) cd (pj_n5 L) = tk_ix (fun k => v1 61 0 (62 + k)) cd (pj_n8 L) := tk_nm_ix L1 (fun d d0 d1 => by rw [show 62 + d = 56 + 6 + d by omega]; exact hd d d0 d1)
    have bad : ∃ u2 v2, fR_takeNewName_51 u1 = some (-1, u2) ∧ fM_newOne_76 v1 = some (0, v2) ∧ tk_F u2 v2 ∧ tk_xf u u2 ∧ tk_vf v v2 := by
      obtain ⟨u2, v2, b1, b2, b3, b4, b5⟩ := tk_fail a3 (x := 3) (by decide)
      unfold fR_takeNewName_51 fM_newOne_76
      exact ⟨u2, v2, by rw [b1, Option.bind_some], by rw [b2, Option.bind_some, if_pos (Or.inl rfl)], b3, a4.tr b4, a5.tr b5⟩
    rw [if_pos L2, L3, x_finderNamed n1 n2 n3, Option.bind_some, x1, L4, Option.bind_some, if_neg (show ¬ (1 : Int) = 0 by decide), e1, L6 56 cf (by omega) n2 (by omega), Option.bind_some]
    by_cases y1 : tk_ix (fun k => v1 61 0 (56 + k)) cf (pj_n8 L) = -1
    · rw [if_pos y1, if_pos y1, x_findNamed n4 n5 n6, Option.bind_some, x2, e2, L6 62 cd (by omega) n5 (by omega), Option.bind_some]
      by_cases y2 : tk_ix (fun k => v1 61 0 (62 + k)) cd (pj_n8 L) = -1
      · refine Or.inl ⟨L, ?_⟩
        rw [if_pos y2, if_pos y2, L5, Option.bind_some, e3, pj_wr_id (x := 56 + sort) (by omega) (by omega), pj_wr_id (x := 56 + sort + c) (by omega) (by omega), if_pos (by omega)]
        obtain ⟨u2, v2, b1, b2, b3, b4, b5⟩ := (a3.ex (u' := u1) (v' := pj_set v1 61 0 (56 + sort + c) (pj_n8 L)) (fun _ _ _ _ => rfl) (fun k i s hk => pj_sne (by omega))).adv (by omega)
        refine ⟨u2, v2, L1, by rw [b1, Option.bind_some], by rw [b2, Option.bind_some], by rw [show k + 2 = k + 1 + 1 by omega]; exact b3, a4.tr b4, fun kk ii s hh => ?_⟩
        rw [b5 kk ii s hh]
        by_cases q : kk = 61 ∧ ii = 0 ∧ s = 56 + sort + c
        · obtain ⟨q1, q2, q3⟩ := q
          subst q1 q2 q3
          rw [pj_set_at, pj_set_at]
        · rw [pj_sne q, pj_sne q]; exact a5 kk ii s hh
      · rw [if_neg y2, if_neg y2]
        exact Or.inr bad
    · rw [if_neg y1, if_neg y1]
      exact Or.inr bad
  · obtain ⟨u2, v2, b1, b2, b3, b4, b5⟩ := tk_fail a3 (x := 2) (by decide)
    refine Or.inr ⟨u2, v2, ?_, ?_, b3, a4.tr b4, a5.tr b5⟩
    · rw [if_neg L2, b1, Option.bind_some]
    · rw [L4, Option.bind_some, if_pos rfl, b2, Option.bind_some, if_pos (Or.inl rfl)]
/-- a name that is known already -/
theorem tk_known (J : tk_J B n E N u v k) {f : Int → Int} {c b to : Int} (hc : 0 ≤ c) (hb0 : 0 ≤ b) (hbc : b + c ≤ 80) (t0 : 0 ≤ to) (t1 : to < 8400) (hnm : ∀ k : Int, 0 ≤ k → k < c → pj_nm (f k) (v 61 0 (b + k))) {r : Int} (hr : u 31 0 k = 4 → r = tk_ix f c (u 33 0 k)) :
    (∃ z u2 v2, 0 ≤ z ∧ z < c ∧ fR_takeKnown r u = some (z, u2) ∧ fM_oldOne b c to v = some (1, v2) ∧ tk_J B n E N u2 v2 (k + 1) ∧ tk_xf u u2 ∧ tk_vf (pj_set v 60 0 to z) v2) ∨
    (∃ u2 v2, fR_takeKnown r u = some (-1, u2) ∧ fM_oldOne b c to v = some (0, v2) ∧ tk_F u2 v2 ∧ tk_xf u u2 ∧ ∀ k i s, ¬ (k = 60 ∧ i = 0 ∧ s = to) → ¬ (k = 26 ∧ i = 0 ∧ 12 ≤ s ∧ s ≤ 18) → v2 k i s = v k i s) := by
  have hb := J.b
  unfold fR_takeKnown fM_oldOne
  rw [J.a, if_pos (by omega)]
  rcases tk_name J with ⟨L, L1, L2, L3, L4, L5, L6⟩ | ⟨L2, L4⟩
  · have x1 := tk_nm_ix L1 hnm
    have er : r = tk_ix (fun k => v 61 0 (b + k)) c (pj_n8 L) := by rw [hr L2, L3, x1]
    have J2 : tk_J B n E N u (pj_set v 60 0 to r) k := J.ex (fun _ _ _ _ => rfl) (fun k i s hk => pj_sne (by omega))
    rw [if_pos L2, L4, Option.bind_some, if_neg (show ¬ (1 : Int) = 0 by decide), L6 b c hb0 hc hbc, Option.bind_some, if_pos (show 0 ≤ to ∧ to < 8400 from ⟨t0, t1⟩), ← er, pj_set_at]
    rcases tk_ix_in (f := fun k => v 61 0 (b + k)) (c := c) (x := pj_n8 L) with h | ⟨h0, h1, _⟩
    · rw [← er] at h
      obtain ⟨u2, v2, b1, b2, b3, b4, b5⟩ := tk_fail J2 (x := 3) (by decide)
      refine Or.inr ⟨u2, v2, by rw [if_pos h.1, b1, Option.bind_some], by rw [if_pos h.1, b2, Option.bind_some, if_pos (Or.inl rfl)], b3, b4, fun k i s h1 h2 => by rw [b5 k i s h2, pj_sne h1]⟩
    · rw [← er] at h0 h1
      obtain ⟨u2, v2, b1, b2, b3, b4, b5⟩ := J2.adv (by omega)
      exact Or.inl ⟨r, u2, v2, h0, h1, by rw [if_neg (by omega), b1, Option.bind_some], by rw [if_neg (by omega), b2, Option.bind_some], b3, b4, b5⟩
  · obtain ⟨u2, v2, b1, b2, b3, b4, b5⟩ := tk_fail J (x := 2) (by decide)
    refine Or.inr ⟨u2, v2, ?_, ?_, b3, b4, fun k i s h1 h2 => b5 k i s h2⟩
    · rw [if_neg L2, b1, Option.bind_some]
    · rw [L4, Option.bind_some, if_pos rfl, b2, Option.bind_some, if_pos (Or.inl rfl)]
theorem tk_takeFinder (J : tk_J B n E N u v k) {b base cf cd to : Int} (hb : 0 ≤ b) (hn : tk_nF b u v base cf cd) (hb0 : 0 ≤ base) (hb1 : base + 14 ≤ 80) (t0 : 0 ≤ to) (t1 : to < 8400) :
    (∃ z u2 v2, 0 ≤ z ∧ z < cf ∧ fR_takeFinder b u = some (z, u2) ∧ fM_oldOne base cf to v = some (1, v2) ∧ tk_J B n E N u2 v2 (k + 1) ∧ tk_xf u u2 ∧ tk_vf (pj_set v 60 0 to z) v2) ∨
    (∃ u2 v2, fR_takeFinder b u = some (-1, u2) ∧ fM_oldOne base cf to v = some (0, v2) ∧ tk_F u2 v2 ∧ tk_xf u u2 ∧ ∀ k i s, ¬ (k = 60 ∧ i = 0 ∧ s = to) → ¬ (k = 26 ∧ i = 0 ∧ 12 ≤ s ∧ s ≤ 18) → v2 k i s = v k i s) := by
  have hk := J.b
  obtain ⟨⟨n1, n2, n3, n4, n5, n6⟩, hf, hd⟩ := hn
  have h := tk_known J (f := fun k => u 22 (6 * b + k) 0) n2 hb0 (by omega) t0 t1 hf (fun _ => rfl)
  unfold fR_takeFinder
  rw [J.a, if_pos (by omega), if_pos hb, x_finderNamed n1 n2 n3, Option.bind_some]
  rcases h with ⟨z, u2, v2, z0, z1, a1, a2⟩ | ⟨u2, v2, a1, a2⟩
  · exact Or.inl ⟨z, u2, v2, z0, z1, by rw [a1, Option.bind_some], a2⟩
  · exact Or.inr ⟨u2, v2, by rw [a1, Option.bind_some], a2⟩
theorem tk_takeFind (J : tk_J B n E N u v k) {b base cf cd to : Int} (hb : 0 ≤ b) (hn : tk_nF b u v base cf cd) (hb0 : 0 ≤ base) (hb1 : base + 14 ≤ 80) (t0 : 0 ≤ to) (t1 : to < 8400) :
    (∃ z u2 v2, 0 ≤ z ∧ z < cd ∧ fR_takeFind b u = some (z, u2) ∧ fM_oldOne (base + 6) cd to v = some (1, v2) ∧ tk_J B n E N u2 v2 (k + 1) ∧ tk_xf u u2 ∧ tk_vf (pj_set v 60 0 to z) v2) ∨
    (∃ u2 v2, fR_takeFind b u = some (-1, u2) ∧ fM_oldOne (base + 6) cd to v = some (0, v2) ∧ tk_F u2 v2 ∧ tk_xf u u2 ∧ ∀ k i s, ¬ (k = 60 ∧ i = 0 ∧ s = to) → ¬ (k = 26 ∧ i = 0 ∧ 12 ≤ s ∧ s ≤ 18) → v2 k i s = v k i s) := by
  have hk := J.b
  obtain ⟨⟨n1, n2, n3, n4, n5, n6⟩, hf, hd⟩ := hn
  have h := tk_known J (f := fun k => u 23 (8 * b + k) 2) n5 (show 0 ≤ base + 6 by omega) (by omega) t0 t1 hd (fun _ => rfl)
  unfold fR_takeFind
  rw [J.a, if_pos (by omega), if_pos hb, x_findNamed n4 n5 n6, Option.bind_some]
  rcases h with ⟨z, u2, v2, z0, z1, a1, a2⟩ | ⟨u2, v2, a1, a2⟩
  · exact Or.inl ⟨z, u2, v2, z0, z1, by rw [a1, Option.bind_some], a2⟩
  · exact Or.inr ⟨u2, v2, by rw [a1, Option.bind_some], a2⟩
end
