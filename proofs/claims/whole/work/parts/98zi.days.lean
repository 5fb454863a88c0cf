/-! DAYS FROM A TEXT: a row of them -/
def dt_wh (A : pj_Q) (x a b c c0 c1 c2 c5 : Int) : Prop :=
  (x = 25 ∧ c0 = 2428 ∧ a = c1 ∧ b = c2 ∧ c = c5 ∧ pj_isF A a) ∨
  (x = 15 ∧ c0 = 2415 ∧ a = c1 ∧ b = c2 ∧ pj_isF A a ∧ pj_isD A b) ∨
  (x = 26 ∧ c0 = 2429 ∧ b = c1 ∧ pj_isD A b)
def dt_lo (A : pj_Q) (x a b c c0 c1 c2 c5 : Int) : Prop := x = 27 ∧ c0 = 25 ∧ a = c1 ∧ 1 ≤ a ∧ a ≤ 99
def dt_pl (A : pj_Q) (x a b c c0 c1 c2 c5 : Int) : Prop :=
  (x = 18 ∧ c0 = 18 ∧ a = c1 ∧ b = c2 ∧ pj_isF A a ∧ 0 ≤ b ∧ b < A 0) ∨
  ((x = 19 ∧ c0 = 19 ∨ x = 21 ∧ c0 = 21) ∧ a = c1 ∧ b = c2 ∧ pj_isF A a ∧ pj_isD A b) ∨
  (x = 20 ∧ c0 = 20 ∧ a = c1 ∧ b = c2 ∧ pj_isF A a ∧ 1 ≤ b ∧ b ≤ 240) ∨
  (x = 22 ∧ c0 = 22 ∧ a = c1 ∧ 0 ≤ a ∧ a ≤ 16) ∨
  (x = 23 ∧ c0 = 23 ∧ a = c1 ∧ 0 ≤ a ∧ a ≤ 40) ∨
  (x = 1 ∧ c0 = 1) ∨
  (x = 29 ∧ c0 = 27)
/-- the class has a row more -/
def dt_app (d m : Int) (u u' : pj_W) (x a b c : Int) : Prop := (u' 47 d m = x ∧ u' 48 d m = a ∧ u' 49 d m = b ∧ u' 50 d m = c ∧ u' 51 d m = -1 ∧ u' 24 d 7 = m + 1) ∧ ∀ k i s, ¬ (k = 12 ∧ i = 0 ∧ (s = 6 ∨ s = 7 ∨ s = 11)) → ¬ ((k = 47 ∨ k = 48 ∨ k = 49 ∨ k = 50 ∨ k = 51) ∧ i = d ∧ s = m) → ¬ (k = 24 ∧ i = d ∧ s = 7) → u' k i s = u k i s
/-- what the model writes of a row -/
def dv_f (r : Int) (v v' : pj_W) : Prop := ∀ k i s, ¬ (k = 26 ∧ i = 0 ∧ 12 ≤ s ∧ s ≤ 18) → ¬ (k = 60 ∧ i = 0 ∧ r ≤ s ∧ s ≤ r + 5) → v' k i s = v k i s
theorem dv_f.tr {r : Int} {x y z : pj_W} (h : dv_f r x y) (h2 : dv_f r y z) : dv_f r x z := fun k i s a c => (h2 k i s a c).trans (h k i s a c)
theorem tk_vf.d {r : Int} {v v' : pj_W} (h : tk_vf v v') : dv_f r v v' := fun k i s a _ => h k i s a
theorem dv_f.s {r to z : Int} {v v' : pj_W} (h : tk_vf (pj_set v 60 0 to z) v') (h1 : r ≤ to) (h2 : to ≤ r + 5) : dv_f r v v' := fun k i s a c => (h k i s a).trans (pj_sne (by omega))
theorem dt_app.pre {d m : Int} {u u1 u2 : pj_W} {x a b c : Int} (h : tk_xf u u1) (p : dt_app d m u1 u2 x a b c) : dt_app d m u u2 x a b c := ⟨p.1, fun k i s g1 g2 g3 => (p.2 k i s g1 g2 g3).trans (h k i s g1)⟩
theorem dx_app {u : pj_W} {d m : Int} (h7 : u 24 d 7 = m) (m0 : 0 ≤ m) (m1 : m < 60) (x a b c : Int) : ∃ u', fD_append d x a b c u = some u' ∧ dt_app d m u u' x a b c ∧ ∀ k i s, ¬ ((k = 47 ∨ k = 48 ∨ k = 49 ∨ k = 50 ∨ k = 51) ∧ i = d ∧ s = m) → ¬ (k = 24 ∧ i = d ∧ s = 7) → u' k i s = u k i s := by
  have f : ∀ k i s, ¬ ((k = 47 ∨ k = 48 ∨ k = 49 ∨ k = 50 ∨ k = 51) ∧ i = d ∧ s = m) → ¬ (k = 24 ∧ i = d ∧ s = 7) → pj_set (pj_set (pj_set (pj_set (pj_set (pj_set u 47 d m x) 48 d m a) 49 d m b) 50 d m c) 51 d m (-1)) 24 d 7 (m + 1) k i s = u k i s := fun k i s g1 g2 => by
    rw [pj_sne (by omega), pj_sne (by omega), pj_sne (by omega), pj_sne (by omega), pj_sne (by omega), pj_sne (by omega)]
  refine ⟨pj_set (pj_set (pj_set (pj_set (pj_set (pj_set u 47 d m x) 48 d m a) 49 d m b) 50 d m c) 51 d m (-1)) 24 d 7 (m + 1), ?_, ⟨⟨?_, ?_, ?_, ?_, ?_, pj_set_at⟩, fun k i s _ g2 g3 => f k i s g2 g3⟩, f⟩
  · have e1 : pj_set u 47 d m x 24 d 7 = m := (pj_sne (by omega)).trans h7
    have e2 : pj_set (pj_set u 47 d m x) 48 d m a 24 d 7 = m := (pj_sne (by omega)).trans e1
    have e3 : pj_set (pj_set (pj_set u 47 d m x) 48 d m a) 49 d m b 24 d 7 = m := (pj_sne (by omega)).trans e2
    have e4 : pj_set (pj_set (pj_set (pj_set u 47 d m x) 48 d m a) 49 d m b) 50 d m c 24 d 7 = m := (pj_sne (by omega)).trans e3
    have e5 : pj_set (pj_set (pj_set (pj_set (pj_set u 47 d m x) 48 d m a) 49 d m b) 50 d m c) 51 d m (-1) 24 d 7 = m := (pj_sne (by omega)).trans e4
    unfold fD_append
    rw [h7, if_pos m1, if_pos ⟨m0, m1⟩, e1, if_pos ⟨m0, m1⟩, Option.bind_some, e2, if_pos ⟨m0, m1⟩, e3, if_pos ⟨m0, m1⟩, Option.bind_some, e4, if_pos ⟨m0, m1⟩, e5, pj_wr_id (by omega) (by omega)]
  · rw [pj_sne (by omega), pj_sne (by omega), pj_sne (by omega), pj_sne (by omega), pj_sne (by omega), pj_set_at]
  · rw [pj_sne (by omega), pj_sne (by omega), pj_sne (by omega), pj_sne (by omega), pj_set_at]
  · rw [pj_sne (by omega), pj_sne (by omega), pj_sne (by omega), pj_set_at]
  · rw [pj_sne (by omega), pj_sne (by omega), pj_set_at]
  · rw [pj_sne (by omega), pj_set_at]
theorem dx_add {u : pj_W} {d m : Int} (h4 : u 14 0 4 = d) (d0 : 0 ≤ d) (h7 : u 24 d 7 = m) (m0 : 0 ≤ m) (m1 : m < 60) (x a b c : Int) : ∃ u', fDT_add x a b c u = some (1, u') ∧ dt_app d m u u' x a b c ∧ ∀ k i s, ¬ ((k = 47 ∨ k = 48 ∨ k = 49 ∨ k = 50 ∨ k = 51) ∧ i = d ∧ s = m) → ¬ (k = 24 ∧ i = d ∧ s = 7) → u' k i s = u k i s := by
  obtain ⟨u', e, h⟩ := dx_app h7 m0 m1 x a b c
  refine ⟨u', ?_, h⟩
  unfold fDT_add
  rw [h4, if_pos d0, e, Option.bind_some]
theorem dw_1 {t : Option (Int × pj_W)} {w : pj_W} (h : t = some (1, w)) : (t.bind fun p => (if p.1 = 0 ∨ p.1 = 1 then (some ((p.1, p.2))) else none)) = some (1, w) := by
  rw [h, Option.bind_some, if_pos (Or.inr rfl)]
theorem dw_0 {t : Option (Int × pj_W)} {w : pj_W} (h : t = some (0, w)) : (t.bind fun p => (if p.1 = 0 ∨ p.1 = 1 then (some ((p.1, p.2))) else none)) = some (0, w) := by
  rw [h, Option.bind_some, if_pos (Or.inl rfl)]
section
variable {B : Int → Int} {n0 : Int} {E : Int → Int} {N : Int} {A : pj_Q} {b d m r : Int} {u v u' v' : pj_W} {k k' : Int} {Q : Int → Int → Int → Int → Int → Int → Int → Int → Prop}
/-- where both stand as a row is read -/
def dt_S (B : Int → Int) (n0 : Int) (E : Int → Int) (N : Int) (A : pj_Q) (b d m r : Int) (u v : pj_W) (k : Int) : Prop := tk_J B n0 E N u v k ∧ tk_nF b u v 0 (A 1) (A 2) ∧ (u 14 0 3 = b ∧ u 14 0 4 = d ∧ u 24 d 7 = m ∧ 0 ≤ b ∧ 0 ≤ d ∧ 0 ≤ m ∧ m < 60 ∧ r = 6630 + 6 * m) ∧ (u 19 b 2 = A 0 ∧ v 60 0 0 = A 0 ∧ v 60 0 1 = A 1 ∧ v 60 0 2 = A 2 ∧ 2 ≤ A 0 ∧ A 0 ≤ 40)
theorem dt_S.ex (S : dt_S B n0 E N A b d m r u v k) (J : tk_J B n0 E N u' v' k') (hx : tk_xf u u') (hv : dv_f r v v') : dt_S B n0 E N A b d m r u' v' k' := by
  obtain ⟨_, ⟨⟨h1, h2, h3, h4, h5, h6⟩, hf, hd⟩, ⟨a1, a2, a3, a4, a5, a6, a7, a8⟩, b1, b2, b3, b4, b5⟩ := S
  refine ⟨J, ⟨⟨(hx 19 b 7 (by omega)).trans h1, h2, h3, (hx 19 b 8 (by omega)).trans h4, h5, h6⟩, fun f f0 f1 => ?_, fun x x0 x1 => ?_⟩, ⟨(hx 14 0 3 (by omega)).trans a1, (hx 14 0 4 (by omega)).trans a2, (hx 24 d 7 (by omega)).trans a3, a4, a5, a6, a7, a8⟩, (hx 19 b 2 (by omega)).trans b1, (hv 60 0 0 (by omega) (by omega)).trans b2, (hv 60 0 1 (by omega) (by omega)).trans b3, (hv 60 0 2 (by omega) (by omega)).trans b4, b5⟩
  · rw [hx 22 _ 0 (by omega), hv 61 0 _ (by omega) (by omega)]; exact hf f f0 f1
  · rw [hx 23 _ 2 (by omega), hv 61 0 _ (by omega) (by omega)]; exact hd x x0 x1
def dt_bad (r : Int) (u v : pj_W) (fx fm : Option (Int × pj_W)) : Prop := ∃ u' v', fx = some (0, u') ∧ fm = some (0, v') ∧ tk_F u' v' ∧ tk_xf u u' ∧ dv_f r v v'
def dt_O (B : Int → Int) (n0 : Int) (E : Int → Int) (N : Int) (Q : Int → Int → Int → Int → Int → Int → Int → Int → Prop) (d m r : Int) (u v : pj_W) (k : Int) (fx fm : Option (Int × pj_W)) : Prop :=
  (∃ x a b c u' v' k', fx = some (1, u') ∧ fm = some (1, v') ∧ k ≤ k' ∧ tk_J B n0 E N u' v' k' ∧ dt_app d m u u' x a b c ∧ dv_f r v v' ∧ Q x a b c (v' 60 0 r) (v' 60 0 (r + 1)) (v' 60 0 (r + 2)) (v' 60 0 (r + 5))) ∨ dt_bad r u v fx fm
/-- the row that the class has read is added -/
theorem dt_add (S : dt_S B n0 E N A b d m r u v k) (x a b' c : Int) : ∃ u', fDT_add x a b' c u = some (1, u') ∧ dt_app d m u u' x a b' c ∧ tk_J B n0 E N u' v k := by
  obtain ⟨J, _, ⟨a1, a2, a3, a4, a5, a6, a7, a8⟩, _⟩ := S
  obtain ⟨u', e, h1, h2⟩ := dx_add a2 a5 a3 a6 a7 x a b' c
  exact ⟨u', e, h1, J.ex (fun k i s hk => h2 k i s (by omega) (by omega)) (fun _ _ _ _ => rfl)⟩
theorem dt_finder (S : dt_S B n0 E N A b d m r u v k) {to : Int} (t1 : r ≤ to) (t2 : to ≤ r + 5) :
    (∃ z u2 v2, pj_isF A z ∧ fR_takeFinder (u 14 0 3) u = some (z, u2) ∧ fM_finderTo to v = some (1, v2) ∧ dt_S B n0 E N A b d m r u2 v2 (k + 1) ∧ tk_xf u u2 ∧ tk_vf (pj_set v 60 0 to z) v2) ∨
    (∃ u2 v2, fR_takeFinder (u 14 0 3) u = some (-1, u2) ∧ fM_finderTo to v = some (0, v2) ∧ tk_F u2 v2 ∧ tk_xf u u2 ∧ dv_f r v v2) := by
  have S' := S
  obtain ⟨J, nF, ⟨a1, a2, a3, a4, a5, a6, a7, a8⟩, b1, b2, b3, b4⟩ := S
  unfold fM_finderTo
  rw [a1, b3]
  rcases tk_takeFinder J (to := to) a4 nF (Int.le_refl 0) (by decide) (by omega) (by omega) with ⟨z, u2, v2, z0, z1, e1, e2, J2, x2, y2⟩ | ⟨u2, v2, e1, e2, F2, x2, y2⟩
  · exact Or.inl ⟨z, u2, v2, ⟨z0, z1⟩, e1, dw_1 e2, S'.ex J2 x2 (dv_f.s y2 t1 t2), x2, y2⟩
  · exact Or.inr ⟨u2, v2, e1, dw_0 e2, F2, x2, fun k i s g1 g2 => y2 k i s (by omega) g1⟩
theorem dt_find (S : dt_S B n0 E N A b d m r u v k) {to : Int} (t1 : r ≤ to) (t2 : to ≤ r + 5) :
    (∃ z u2 v2, pj_isD A z ∧ fR_takeFind (u 14 0 3) u = some (z, u2) ∧ fM_findTo to v = some (1, v2) ∧ dt_S B n0 E N A b d m r u2 v2 (k + 1) ∧ tk_xf u u2 ∧ tk_vf (pj_set v 60 0 to z) v2) ∨
    (∃ u2 v2, fR_takeFind (u 14 0 3) u = some (-1, u2) ∧ fM_findTo to v = some (0, v2) ∧ tk_F u2 v2 ∧ tk_xf u u2 ∧ dv_f r v v2) := by
  have S' := S
  obtain ⟨J, nF, ⟨a1, a2, a3, a4, a5, a6, a7, a8⟩, b1, b2, b3, b4, b5⟩ := S
  unfold fM_findTo
  rw [a1, b4]
  rcases tk_takeFind J (to := to) a4 nF (Int.le_refl 0) (by decide) (by omega) (by omega) with ⟨z, u2, v2, z0, z1, e1, e2, J2, x2, y2⟩ | ⟨u2, v2, e1, e2, F2, x2, y2⟩
  · exact Or.inl ⟨z, u2, v2, ⟨z0, z1⟩, e1, dw_1 e2, S'.ex J2 x2 (dv_f.s y2 t1 t2), x2, y2⟩
  · exact Or.inr ⟨u2, v2, e1, dw_0 e2, F2, x2, fun k i s g1 g2 => y2 k i s (by omega) g1⟩
theorem dt_num (S : dt_S B n0 E N A b d m r u v k) {to lo hi : Int} (t1 : r ≤ to) (t2 : to ≤ r + 5) :
    (∃ z u2 v2, lo ≤ z ∧ z ≤ hi ∧ 0 ≤ z ∧ fR_takeNumber lo hi u = some (z, u2) ∧ fM_number to lo hi v = some (1, v2) ∧ dt_S B n0 E N A b d m r u2 v2 (k + 1) ∧ tk_xf u u2 ∧ tk_vf (pj_set v 60 0 to z) v2) ∨
    (∃ u2 v2, fR_takeNumber lo hi u = some (-1, u2) ∧ fM_number to lo hi v = some (0, v2) ∧ tk_F u2 v2 ∧ tk_xf u u2 ∧ dv_f r v v2) := by
  have S' := S
  obtain ⟨J, nF, ⟨a1, a2, a3, a4, a5, a6, a7, a8⟩, b1, b2, b3, b4, b5⟩ := S
  rcases tk_takeNumber J (to := to) (lo := lo) (hi := hi) (by omega) (by omega) with ⟨z, u2, v2, z0, z1, z2, e1, e2, J2, x2, y2⟩ | ⟨u2, v2, e1, e2, F2, x2, y2⟩
  · exact Or.inl ⟨z, u2, v2, z0, z1, z2, e1, e2, S'.ex J2 x2 (dv_f.s y2 t1 t2), x2, y2⟩
  · exact Or.inr ⟨u2, v2, e1, e2, F2, x2, y2.d⟩
end
