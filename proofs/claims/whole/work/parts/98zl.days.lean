/-! DAYS FROM A TEXT: a step begins; what both have so far -/
def dt_bw (x : Int) : Prop := x = 25 ∨ x = 15 ∨ x = 26 ∨ x = 27
def dt_N (d : Int) (u v : pj_W) : Prop := (u 14 0 2 = v 26 0 23 ∧ 0 ≤ v 26 0 23 ∧ v 26 0 23 ≤ 3) ∧ (u 24 d 6 = v 26 0 24 ∧ 0 ≤ v 26 0 24 ∧ v 26 0 24 ≤ 30) ∧ (u 24 d 7 = v 60 0 5609 ∧ 0 ≤ v 60 0 5609 ∧ v 60 0 5609 + v 26 0 23 ≤ 2 * v 26 0 24)
def dt_K (d n e : Int) (u v : pj_W) : Prop := ∀ i : Int, 0 ≤ i → i < e → v 67 0 i = u 35 0 i ∧ 0 ≤ u 35 0 i ∧ u 35 0 i < n ∧ (u 35 0 i + 1 < n → u 47 d (u 35 0 i + 1) ≠ 28) ∧ dt_bw (u 47 d (u 35 0 i)) ∧ ∀ j : Int, i < j → j < e → u 35 0 i < u 35 0 j
def dt_R (A : pj_Q) (d n e : Int) (u v : pj_W) (k : Int) : Prop := pj_row A n (u 47 d) k (u 48 d k) (u 49 d k) (u 50 d k) (u 51 d k) (v 60 0 (6630 + 6 * k)) (v 60 0 (6630 + 6 * k + 1)) (v 60 0 (6630 + 6 * k + 2)) (v 60 0 (6630 + 6 * k + 4)) (v 60 0 (6630 + 6 * k + 5)) ∨
  ∃ i : Int, 0 ≤ i ∧ i < e ∧ u 35 0 i = k ∧ dt_wh A (u 47 d k) (u 48 d k) (u 49 d k) (u 50 d k) (v 60 0 (6630 + 6 * k)) (v 60 0 (6630 + 6 * k + 1)) (v 60 0 (6630 + 6 * k + 2)) (v 60 0 (6630 + 6 * k + 5))
def dt_H (A : pj_Q) (b d : Int) (u v : pj_W) : Prop := tk_nF b u v 0 (A 1) (A 2) ∧ (u 14 0 3 = b ∧ u 14 0 4 = d ∧ 0 ≤ b ∧ 0 ≤ d) ∧ (u 19 b 2 = A 0 ∧ v 60 0 0 = A 0 ∧ v 60 0 1 = A 1 ∧ v 60 0 2 = A 2 ∧ 2 ≤ A 0 ∧ A 0 ≤ 40)
def dt_B (A : pj_Q) (b d : Int) (u v : pj_W) : Prop := dt_H A b d u v ∧ dt_N d u v ∧ dt_K d (v 60 0 5609) (v 26 0 23) u v ∧ ∀ k : Int, 0 ≤ k → k < v 60 0 5609 → dt_R A d (v 60 0 5609) (v 26 0 23) u v k
def dt_fx (d : Int) (u u' : pj_W) : Prop := ∀ k i s, ¬ (k = 12 ∧ i = 0 ∧ (s = 6 ∨ s = 7 ∨ s = 11)) → ¬ (k = 14 ∧ i = 0 ∧ s = 2) → k ≠ 35 → ¬ ((k = 24 ∨ k = 47 ∨ k = 48 ∨ k = 49 ∨ k = 50 ∨ k = 51) ∧ i = d) → u' k i s = u k i s
def dt_fv (v v' : pj_W) : Prop := ∀ k i s, ¬ (k = 26 ∧ i = 0 ∧ 12 ≤ s ∧ s ≤ 24) → ¬ (k = 60 ∧ i = 0 ∧ 5600 ≤ s) → k ≠ 67 → v' k i s = v k i s
theorem dt_fx.tr {d : Int} {x y z : pj_W} (h : dt_fx d x y) (h2 : dt_fx d y z) : dt_fx d x z := fun k i s a1 a2 a3 a4 => (h2 k i s a1 a2 a3 a4).trans (h k i s a1 a2 a3 a4)
theorem dt_fv.tr {x y z : pj_W} (h : dt_fv x y) (h2 : dt_fv y z) : dt_fv x z := fun k i s a1 a2 a3 => (h2 k i s a1 a2 a3).trans (h k i s a1 a2 a3)
theorem tk_xf.dt {d : Int} {u u' : pj_W} (h : tk_xf u u') : dt_fx d u u' := fun k i s h1 _ _ _ => h k i s h1
theorem tk_vf.dt {v v' : pj_W} (h : tk_vf v v') : dt_fv v v' := fun k i s h1 _ _ => h k i s (by omega)
theorem dv_f.dt {r : Int} {v v' : pj_W} (h : dv_f r v v') (h0 : 5600 ≤ r) : dt_fv v v' := fun k i s h1 h2 _ => h k i s (by omega) (by omega)
theorem dt_app.dt {d m : Int} {u u' : pj_W} {x a b c : Int} (h : dt_app d m u u' x a b c) : dt_fx d u u' := fun k i s h1 _ _ h4 => h.2 k i s h1 (by omega) (by omega)
theorem dt_H.ex {A : pj_Q} {b d : Int} {u v u' v' : pj_W} (h : dt_H A b d u v) (hx : dt_fx d u u') (hv : dt_fv v v') (h3 : u' 14 0 3 = u 14 0 3) (h4 : u' 14 0 4 = u 14 0 4) : dt_H A b d u' v' := by
  obtain ⟨⟨⟨n1, n2, n3, n4, n5, n6⟩, hf, hd⟩, ⟨a1, a2, a3, a4⟩, b1, b2, b3, b4, b5⟩ := h
  refine ⟨⟨⟨(hx 19 b 7 (by omega) (by omega) (by omega) (by omega)).trans n1, n2, n3, (hx 19 b 8 (by omega) (by omega) (by omega) (by omega)).trans n4, n5, n6⟩, fun f f0 f1 => ?_, fun x x0 x1 => ?_⟩, ⟨h3.trans a1, h4.trans a2, a3, a4⟩, (hx 19 b 2 (by omega) (by omega) (by omega) (by omega)).trans b1, (hv 60 0 0 (by omega) (by omega) (by omega)).trans b2, (hv 60 0 1 (by omega) (by omega) (by omega)).trans b3, (hv 60 0 2 (by omega) (by omega) (by omega)).trans b4, b5⟩
  · rw [hx 22 _ 0 (by omega) (by omega) (by omega) (by omega), hv 61 0 _ (by omega) (by omega) (by omega)]; exact hf f f0 f1
  · rw [hx 23 _ 2 (by omega) (by omega) (by omega) (by omega), hv 61 0 _ (by omega) (by omega) (by omega)]; exact hd x x0 x1
theorem dt_B.ex {A : pj_Q} {b d : Int} {u v u' v' : pj_W} (h : dt_B A b d u v) (hx : tk_xf u u') (hv : tk_vf v v') : dt_B A b d u' v' := by
  obtain ⟨H, Nn, K, R⟩ := h
  have e47 : u' 47 d = u 47 d := funext fun s => hx 47 d s (by omega)
  refine ⟨H.ex hx.dt hv.dt (hx 14 0 3 (by omega)) (hx 14 0 4 (by omega)), ?_, ?_, ?_⟩
  · unfold dt_N at Nn ⊢
    rw [hx 14 0 2 (by omega), hx 24 d 6 (by omega), hx 24 d 7 (by omega), hv 26 0 23 (by omega), hv 26 0 24 (by omega), hv 60 0 5609 (by omega)]; exact Nn
  · rw [hv 60 0 5609 (by omega), hv 26 0 23 (by omega)]
    unfold dt_K at K ⊢
    intro i i0 i1
    rw [hv 67 0 i (by omega), hx 35 0 i (by omega), e47]
    obtain ⟨p1, p2, p3, p4, p5, p6⟩ := K i i0 i1
    exact ⟨p1, p2, p3, p4, p5, fun j j0 j1 => by rw [hx 35 0 j (by omega)]; exact p6 j j0 j1⟩
  · rw [hv 60 0 5609 (by omega), hv 26 0 23 (by omega)]
    intro k k0 k1
    have := R k k0 k1
    unfold dt_R at this ⊢
    rw [e47, hx 48 d k (by omega), hx 49 d k (by omega), hx 50 d k (by omega), hx 51 d k (by omega), hv 60 0 _ (by omega), hv 60 0 _ (by omega), hv 60 0 _ (by omega), hv 60 0 _ (by omega), hv 60 0 _ (by omega)]
    rcases this with h | ⟨i, i0, i1, i2, i3⟩
    · exact Or.inl h
    · exact Or.inr ⟨i, i0, i1, by rw [hx 35 0 i (by omega)]; exact i2, i3⟩
/-- the class begins a step without a block -/
theorem dx_begin0 {u u1 : pj_W} {i d c : Int} (hw : fR_wordHere u = some i) (hi : i = 1 ∨ (18 ≤ i ∧ i ≤ 23) ∨ i = 29) (h4 : u 14 0 4 = d) (d0 : 0 ≤ d) (h6 : u 24 d 6 = c) (c0 : 0 ≤ c) (c1 : c < 30) (ht : fR_takeWord i u = some (1, u1)) (hx : tk_xf u u1) : fDT_beginStep u = fDT_beginStep_148 i (pj_set u1 24 d 6 (c + 1)) := by
  have hp : fDT_isPlain i u = some 1 := by
    unfold fDT_isPlain fDT_isPlain_12 fDT_isPlain_23
    rcases hi with hi | hi | hi
    · rw [if_pos (by omega), if_pos hi]
    · rw [if_neg (by omega), if_pos hi.2]
    · rw [if_neg (by omega), if_neg (by omega), if_neg (by omega), if_pos hi]
  unfold fDT_beginStep
  rw [hw, Option.bind_some, if_neg (by omega), if_neg (by omega)]
  unfold fDT_beginStep_25
  rw [if_pos rfl, hp, Option.bind_some, if_neg (by decide)]
  unfold fDT_beginStep_48
  rw [h4, if_pos d0, h6, if_pos c1, if_pos rfl]
  unfold fDT_beginStep_96
  rw [ht, Option.bind_some]
  have e4 : u1 14 0 4 = d := (hx 14 0 4 (by omega)).trans h4
  refine (if_pos ?_).trans ?_
  · show 0 ≤ u1 14 0 4
    rw [e4]; exact d0
  rw [if_pos rfl]
  show fDT_beginStep_148 i (pj_set u1 24 (u1 14 0 4) 6 (pj_wr (u1 24 (u1 14 0 4) 6 + 1))) = _
  rw [e4, hx 24 d 6 (by omega), h6, pj_wr_id (x := c + 1) (by omega) (by omega)]
/-- the class begins a block -/
theorem dx_begin1 {u u1 : pj_W} {i d c e m : Int} (hw : fR_wordHere u = some i) (hi : i = 24 ∨ i = 27) (h4 : u 14 0 4 = d) (d0 : 0 ≤ d) (h6 : u 24 d 6 = c) (c0 : 0 ≤ c) (c1 : c < 30) (h2 : u 14 0 2 = e) (e0 : 0 ≤ e) (e1 : e < 3) (h7 : u 24 d 7 = m) (ht : fR_takeWord i u = some (1, u1)) (hx : tk_xf u u1) : fDT_beginStep u = fDT_beginStep_148 i (pj_set (pj_set (pj_set u1 24 d 6 (c + 1)) 35 0 e m) 14 0 2 (e + 1)) := by
  have hb : fDT_beginStep u = fDT_beginStep_25 i 1 u := by
    unfold fDT_beginStep fDT_beginStep_20
    rw [hw, Option.bind_some]
    rcases hi with hi | hi
    · rw [if_pos hi]
    · rw [if_neg (by omega), if_pos hi]
  rw [hb]
  have q4 : pj_set u1 24 d 6 (c + 1) 14 0 4 = d := by rw [pj_sne (by omega), hx 14 0 4 (by omega)]; exact h4
  have q2 : pj_set u1 24 d 6 (c + 1) 14 0 2 = e := by rw [pj_sne (by omega), hx 14 0 2 (by omega)]; exact h2
  have q7 : pj_set u1 24 d 6 (c + 1) 24 d 7 = m := by rw [pj_sne (by omega), hx 24 d 7 (by omega)]; exact h7
  have q2' : pj_set (pj_set u1 24 d 6 (c + 1)) 35 0 e m 14 0 2 = e := by rw [pj_sne (by omega)]; exact q2
  unfold fDT_beginStep_25
  rw [if_neg (by decide)]
  unfold fDT_beginStep_48
  rw [h4, if_pos d0, h6, if_pos c1, if_neg (by decide), h2, if_pos e1]
  unfold fDT_beginStep_96
  rw [ht, Option.bind_some]
  have e4 : u1 14 0 4 = d := (hx 14 0 4 (by omega)).trans h4
  have e6 : pj_set u1 24 (u1 14 0 4) 6 (pj_wr (u1 24 (u1 14 0 4) 6 + 1)) = pj_set u1 24 d 6 (c + 1) := by
    rw [e4, hx 24 d 6 (by omega), h6, pj_wr_id (x := c + 1) (by omega) (by omega)]
  refine (if_pos ?_).trans ?_
  · show 0 ≤ u1 14 0 4
    rw [e4]; exact d0
  rw [if_neg (by decide)]
  refine (if_pos ?_).trans ?_
  · show 0 ≤ pj_set u1 24 (u1 14 0 4) 6 (pj_wr (u1 24 (u1 14 0 4) 6 + 1)) 14 0 4
    rw [e6, q4]; exact d0
  refine (if_pos ?_).trans ?_
  · show 0 ≤ pj_set u1 24 (u1 14 0 4) 6 (pj_wr (u1 24 (u1 14 0 4) 6 + 1)) 14 0 2 ∧ pj_set u1 24 (u1 14 0 4) 6 (pj_wr (u1 24 (u1 14 0 4) 6 + 1)) 14 0 2 < 3
    rw [e6, q2]; exact ⟨e0, e1⟩
  rw [Option.bind_some]
  show fDT_beginStep_148 i (pj_set (pj_set (pj_set u1 24 (u1 14 0 4) 6 (pj_wr (u1 24 (u1 14 0 4) 6 + 1))) 35 0 (pj_set u1 24 (u1 14 0 4) 6 (pj_wr (u1 24 (u1 14 0 4) 6 + 1)) 14 0 2) (pj_set u1 24 (u1 14 0 4) 6 (pj_wr (u1 24 (u1 14 0 4) 6 + 1)) 24 (pj_set u1 24 (u1 14 0 4) 6 (pj_wr (u1 24 (u1 14 0 4) 6 + 1)) 14 0 4) 7)) 14 0 2 (pj_wr (pj_set (pj_set u1 24 (u1 14 0 4) 6 (pj_wr (u1 24 (u1 14 0 4) 6 + 1))) 35 0 (pj_set u1 24 (u1 14 0 4) 6 (pj_wr (u1 24 (u1 14 0 4) 6 + 1)) 14 0 2) (pj_set u1 24 (u1 14 0 4) 6 (pj_wr (u1 24 (u1 14 0 4) 6 + 1)) 24 (pj_set u1 24 (u1 14 0 4) 6 (pj_wr (u1 24 (u1 14 0 4) 6 + 1)) 14 0 4) 7) 14 0 2 + 1))) = _
  rw [e6, q4, q2, q7, q2', pj_wr_id (x := e + 1) (by omega) (by omega)]
/-- what of a step stands behind its row in the model -/
noncomputable def dm_tail (y m r op : Int) (v : pj_W) : Option (Int × pj_W) := (fM_ahead v).bind fun p2 => ((fM_dayOrder y r p2).bind fun p4 => (if p4.1 = 0 then (some (0, p4.2)) else (if op = 0 then (fM_dayStep_227 y m r p4.2) else (if 0 ≤ (p4.2 26 0 23) ∧ (p4.2 26 0 23) < 3 then (fM_dayStep_227 y m r (pj_set (pj_set p4.2 67 0 (p4.2 26 0 23) m) 26 0 23 (pj_wr (((pj_set p4.2 67 0 (p4.2 26 0 23) m) 26 0 23) + 1)))) else none))))
/-- the model's row is made -/
theorem dm_row {v : pj_W} {y m r op c s2 : Int} (hm : v 60 0 5609 = m) (m0 : 0 ≤ m) (m1 : m < 60) (hr : r = 6630 + 6 * m) (c0 : 0 ≤ c) (c1 : c ≤ 30) (hs : 0 ≤ s2 ∧ s2 ≤ 1) : ∃ v1, fM_dayStep_138 y m r op c s2 v = dm_tail y m r op v1 ∧ v1 60 0 r = y ∧ v1 60 0 (r + 4) = 0 ∧ v1 60 0 5609 = m + 1 ∧ v1 26 0 24 = c + s2 ∧ ∀ k i s, ¬ (k = 26 ∧ i = 0 ∧ s = 24) → ¬ (k = 60 ∧ i = 0 ∧ (s = 5609 ∨ r ≤ s ∧ s ≤ r + 5)) → v1 k i s = v k i s := by
  have st : ∀ (x : Int) (w : pj_W), 1 ≤ x → x ≤ 5 → fM_dayStep_152 y m r op (x, w) = fM_dayStep_152 y m r op (x + 1, pj_set w 60 0 (r + x) 0) := fun x w x1 x5 => by
    unfold fM_dayStep_152
    refine pj_Lp_st ?_
    show fM_dayStep_152b y m r op x w = _
    unfold fM_dayStep_152b
    rw [if_neg (by omega), pj_wr_id (x := r + x) (by omega) (by omega), if_pos (by omega), pj_wr_id (x := x + 1) (by omega) (by omega)]
  have en : ∀ w : pj_W, w 60 0 5609 = m → fM_dayStep_152 y m r op (6, w) = dm_tail y m r op (pj_set w 60 0 5609 (m + 1)) := fun w hw => by
    unfold fM_dayStep_152
    refine pj_Lp_map ?_
    show fM_dayStep_152b y m r op 6 w = _
    unfold fM_dayStep_152b dm_tail
    rw [if_pos (by decide), hw, pj_wr_id (x := m + 1) (by omega) (by omega)]
    cases fM_ahead (pj_set w 60 0 5609 (m + 1)) with
    | none => rfl
    | some p2 =>
      rw [Option.bind_some, Option.bind_some]
      cases fM_dayOrder y r p2 with
      | none => rfl
      | some p4 =>
        simp only [Option.bind_some]
        by_cases q1 : p4.1 = 0
        · rw [if_pos q1, if_pos q1]; rfl
        · rw [if_neg q1, if_neg q1]
          by_cases q2 : op = 0
          · rw [if_pos q2, if_pos q2]
          · rw [if_neg q2, if_neg q2]
            by_cases q3 : 0 ≤ (p4.2 26 0 23) ∧ (p4.2 26 0 23) < 3
            · rw [if_pos q3, if_pos q3]
            · rw [if_neg q3, if_neg q3]; first | done | rfl
  refine ⟨pj_set (pj_set (pj_set (pj_set (pj_set (pj_set (pj_set (pj_set v 26 0 24 (c + s2)) 60 0 r y) 60 0 (r + 1) 0) 60 0 (r + 2) 0) 60 0 (r + 3) 0) 60 0 (r + 4) 0) 60 0 (r + 5) 0) 60 0 5609 (m + 1), ?_, ?_, ?_, pj_set_at, ?_, fun k i s g1 g2 => ?_⟩
  · unfold fM_dayStep_138
    rw [if_pos (by omega), pj_wr_id (x := c + s2) (by omega) (by omega), st 1 _ (by decide) (by decide), st (1 + 1) _ (by decide) (by decide), st (1 + 1 + 1) _ (by decide) (by decide), st (1 + 1 + 1 + 1) _ (by decide) (by decide), st (1 + 1 + 1 + 1 + 1) _ (by decide) (by decide)]
    refine en _ ?_
    rw [pj_sne (by omega), pj_sne (by omega), pj_sne (by omega), pj_sne (by omega), pj_sne (by omega), pj_sne (by omega), pj_sne (by omega)]; exact hm
  · rw [pj_sne (by omega), pj_sne (by omega), pj_sne (by omega), pj_sne (by omega), pj_sne (by omega), pj_sne (by omega), pj_set_at]
  · rw [pj_sne (by omega), pj_sne (by omega), pj_set_at]
  · rw [pj_sne (by omega), pj_sne (by omega), pj_sne (by omega), pj_sne (by omega), pj_sne (by omega), pj_sne (by omega), pj_sne (by omega), pj_set_at]
  · rw [pj_sne (by omega), pj_sne (by omega), pj_sne (by omega), pj_sne (by omega), pj_sne (by omega), pj_sne (by omega), pj_sne (by omega), pj_sne (by omega)]
/-- the model's step by its word -/
theorem dm_step {v : pj_W} {y m r op : Int} (hw : fM_inWords v = some y) (hy : y = 1 ∨ (18 ≤ y ∧ y ≤ 25) ∨ y = 27) (hop : (y = 24 ∨ y = 25) ∧ op = 1 ∨ ¬ (y = 24 ∨ y = 25) ∧ op = 0) (hm : v 60 0 5609 = m) (m0 : 0 ≤ m) (m1 : m ≤ 60) (hr : r = 6630 + 6 * m) : fM_dayStep v = if v 26 0 24 = 30 then ((fM_fails 6 v).bind fun p3 => (if p3.1 = 0 ∨ p3.1 = 1 then (some ((p3.1, p3.2))) else none)) else if op = 1 ∧ v 26 0 23 = 3 then ((fM_fails 7 v).bind fun p3 => (if p3.1 = 0 ∨ p3.1 = 1 then (some ((p3.1, p3.2))) else none)) else fM_dayStep_138 y m r op (v 26 0 24) 1 v := by
  subst hr
  have h42 : fM_dayStep v = fM_dayStep_42 y m (6630 + 6 * m) op v := by
    unfold fM_dayStep fM_dayStep_37
    rw [hw, Option.bind_some, hm, pj_wr_id (x := 6 * m) (by omega) (by omega), pj_wr_id (x := 6630 + 6 * m) (by omega) (by omega)]
    rcases hop with ⟨h1 | h1, h2⟩ | ⟨h1, h2⟩
    · rw [if_pos h1, h2]
    · rw [if_neg (by omega), if_pos h1, h2]
    · rw [if_neg (by omega), if_neg (by omega), h2]
  rw [h42]
  have h61 : fM_dayStep_42 y m (6630 + 6 * m) op v = fM_dayStep_61 y m (6630 + 6 * m) op v := by
    unfold fM_dayStep_42
    by_cases c1 : y = 1
    · rw [if_pos c1]
    · rw [if_neg c1, if_neg (by omega), if_neg (by omega)]
  rw [h61]
  unfold fM_dayStep_61 fM_dayStep_80
  rw [if_neg (show ¬ y = 26 by omega), if_neg (show ¬ y = 26 by omega)]
  by_cases c30 : v 26 0 24 = 30
  · rw [if_pos c30, if_pos c30]
  rw [if_neg c30, if_neg c30]
  unfold fM_dayStep_102 fM_dayStep_122
  rw [if_neg (show ¬ y = 26 by omega)]
  by_cases co : op = 0
  · rw [if_pos co, if_neg (by omega)]
  · rw [if_neg co]
    by_cases c3 : v 26 0 23 = 3
    · rw [if_pos c3, if_pos (by omega)]
    · rw [if_neg c3, if_neg (by omega)]
