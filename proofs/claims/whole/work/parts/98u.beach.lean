/-! A BEACH FROM A TEXT: what both have of it so far -/
def bt_A (v : pj_W) : pj_Q := fun x => v 60 0 (5600 + x)
def bt_C (b : Int) (u v : pj_W) : Prop := u 13 0 1 = b ∧ (u 13 0 2 = v 26 0 20 ∧ (u 13 0 2 = 0 ∨ u 13 0 2 = 1)) ∧ v 26 0 21 = bt_A v 8
def bt_B (b : Int) (u v : pj_W) : Prop := pj_IV (bt_A v) ∧ pj_RB b u (bt_A v) ∧ tk_nF b u v 56 (bt_A v 1) (bt_A v 2) ∧ (bt_A v 6 = 0 ∧ bt_A v 7 = 2 ^ (bt_A v 2).toNat - 1 ∧ bt_A v 8 ≤ 30 ∧ bt_A v 9 = -1) ∧ (∀ f : Int, 0 ≤ f → f < bt_A v 1 → bt_A v (10 + 5 * f + 2) ≤ 20 ∧ bt_A v (10 + 5 * f + 4) = 0) ∧ ((∀ x : Int, 10 + 5 * bt_A v 1 ≤ x → x < 40 → bt_A v x = 0) ∧ ∀ x : Int, 40 + 3 * bt_A v 2 ≤ x → x < 64 → bt_A v x = 0) ∧ bt_C b u v
def bt_fx (b : Int) (u u' : pj_W) : Prop := ∀ k i s, ¬ (k = 12 ∧ i = 0 ∧ (s = 6 ∨ s = 7 ∨ s = 11)) → ¬ (k = 13 ∧ i = 0 ∧ (s = 1 ∨ s = 2)) → ¬ pj_in b k i → u' k i s = u k i s
def bt_fv (v v' : pj_W) : Prop := ∀ k i s, ¬ (k = 26 ∧ i = 0 ∧ 12 ≤ s ∧ s ≤ 21) → ¬ (k = 60 ∧ i = 0 ∧ 5600 ≤ s) → ¬ (k = 61 ∧ i = 0 ∧ 56 ≤ s) → v' k i s = v k i s
theorem tk_xf.b {b : Int} {u u' : pj_W} (h : tk_xf u u') : bt_fx b u u' := fun k i s h1 _ _ => h k i s h1
theorem tk_vf.b {v v' : pj_W} (h : tk_vf v v') : bt_fv v v' := fun k i s h1 _ _ => h k i s (by omega)
theorem bt_fx.tr {b : Int} {x y z : pj_W} (h : bt_fx b x y) (h2 : bt_fx b y z) : bt_fx b x z := fun k i s a c d => (h2 k i s a c d).trans (h k i s a c d)
theorem bt_fv.tr {x y z : pj_W} (h : bt_fv x y) (h2 : bt_fv y z) : bt_fv x z := fun k i s a c d => (h2 k i s a c d).trans (h k i s a c d)
theorem bt_fv.set {v : pj_W} {to z : Int} (h : 5600 ≤ to) : bt_fv v (pj_set v 60 0 to z) := fun k i s a c d => pj_sne (by omega)
theorem bt_fv.nam {v : pj_W} {to z : Int} (h : 56 ≤ to) : bt_fv v (pj_set v 61 0 to z) := fun k i s a c d => pj_sne (by omega)
theorem bt_fv.cnt {v : pj_W} {to z : Int} (h : 20 ≤ to) (h2 : to ≤ 21) : bt_fv v (pj_set v 26 0 to z) := fun k i s a c d => pj_sne (by omega)
section
variable {B : Int → Int} {n : Int} {E : Int → Int} {N b : Int} {u v u' v' : pj_W} {k : Int}
theorem bt_A.ex (h : tk_vf v v') : bt_A v' = bt_A v := funext fun x => h 60 0 _ (by omega)
theorem bt_B.ex (R : bt_B b u v) (hx : tk_xf u u') (hv : tk_vf v v') : bt_B b u' v' := by
  unfold bt_B bt_C at R ⊢
  rw [bt_A.ex hv, hv 26 0 20 (by omega), hv 26 0 21 (by omega), hx 13 0 1 (by omega), hx 13 0 2 (by omega)]
  obtain ⟨I, RB, nF, R⟩ := R
  refine ⟨I, RB.ex I (fun k i s hk => hx k i s ?_), nF.ex hx hv, R⟩
  unfold pj_in at hk
  omega
def bt_res (B : Int → Int) (n : Int) (E : Int → Int) (N b : Int) (u v : pj_W) (k : Int) (fx fm : Option (Int × pj_W)) : Prop :=
  (∃ u' v' k', fx = some (1, u') ∧ fm = some (1, v') ∧ k < k' ∧ tk_J B n E N u' v' k' ∧ bt_B b u' v' ∧ bt_fx b u u' ∧ bt_fv v v') ∨
  (∃ u' v', fx = some (0, u') ∧ fm = some (0, v') ∧ tk_F u' v' ∧ bt_fx b u u' ∧ bt_fv v v')
/-- the beach behind its head -/
def bt_H (b : Int) (u v : pj_W) : Prop := (u 19 b 2 = bt_A v 0 ∧ 2 ≤ bt_A v 0 ∧ bt_A v 0 ≤ 40 ∧ u 19 b 3 = bt_A v 3 ∧ 1 ≤ bt_A v 3 ∧ bt_A v 3 ≤ 240 ∧ u 19 b 4 = bt_A v 4 ∧ 0 ≤ bt_A v 4 ∧ bt_A v 4 ≤ 60) ∧ (u 19 b 5 = 1 ∧ u 19 b 6 = 0 ∧ u 19 b 7 = 0 ∧ u 19 b 8 = 0) ∧ (bt_A v 1 = 0 ∧ bt_A v 2 = 0 ∧ bt_A v 5 = 1 ∧ bt_A v 6 = 0 ∧ bt_A v 7 = 0 ∧ bt_A v 8 = 0 ∧ bt_A v 9 = -1) ∧ (∀ x : Int, 10 ≤ x → x < 64 → bt_A v x = 0) ∧ bt_C b u v
theorem bt_H.toB (h : bt_H b u v) : bt_B b u v := by
  obtain ⟨⟨a1, a2, a3, a4, a5, a6, a7, a8, a9⟩, ⟨b1, b2, b3, b4⟩, ⟨c1, c2, c3, c4, c5, c6, c7⟩, hZ, C⟩ := h
  refine ⟨⟨by omega, Or.inl (by rw [c2, c5]; rfl), fun f f0 f1 => by omega, fun d d0 d1 => by omega, fun d k d0 d1 => by omega, fun d k l d0 d1 => by omega, ⟨by rw [c2, c6]; rfl, by omega⟩, ?_⟩, ⟨by omega, fun f hf => ?_, fun d hd => ?_, fun d k hd => ?_⟩, ⟨by omega, fun f f0 f1 => by omega, fun d d0 d1 => by omega⟩, ⟨c4, by rw [c2, c5]; rfl, by omega, c7⟩, fun f f0 f1 => by omega, ⟨fun x h0 h1 => hZ x (by omega) (by omega), fun x h0 h1 => hZ x (by omega) h1⟩, C⟩
  · rw [c1, c6]; exact (by decide : (0 : Int) + 0 ≤ 150)
  · have := hf.1; have := hf.2; omega
  · have := hd.1; have := hd.2; omega
  · have := hd.1; have := hd.2; omega
theorem bt_H.ex (h : bt_H b u v) (hx : tk_xf u u') (hv : tk_vf v v') : bt_H b u' v' := by
  unfold bt_H bt_C at h ⊢
  rw [bt_A.ex hv, hv 26 0 20 (by omega), hv 26 0 21 (by omega), hx 13 0 1 (by omega), hx 13 0 2 (by omega), hx 19 b 2 (by omega), hx 19 b 3 (by omega), hx 19 b 4 (by omega), hx 19 b 5 (by omega), hx 19 b 6 (by omega), hx 19 b 7 (by omega), hx 19 b 8 (by omega)]
  exact h
/-- the sign behind a part -/
theorem bt_semi (J : tk_J B n E N u v k) (R : ∀ u' v', tk_xf u u' → tk_vf v v' → bt_B b u' v') : bt_res B n E N b u v k ((fR_takeSign 59 u).bind fun p1 => (if p1.1 = 0 ∨ p1.1 = 1 then (some ((p1.1, p1.2))) else none)) (fM_wantSign 59 v) := by
  rcases tk_takeSign J 59 with ⟨u', v', a1, a2, a3, a4, a5⟩ | ⟨u', v', a1, a2, a3, a4, a5⟩
  · exact Or.inl ⟨u', v', k + 1, by rw [a1, Option.bind_some, if_pos (Or.inr rfl)], a2, by omega, a3, R u' v' a4 a5, a4.b, a5.b⟩
  · exact Or.inr ⟨u', v', by rw [a1, Option.bind_some, if_pos (Or.inl rfl)], a2, a3, a4.b, a5.b⟩
end
