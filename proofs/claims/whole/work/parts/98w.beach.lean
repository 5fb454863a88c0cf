/-! A BEACH FROM A TEXT: a finder more -/
theorem x_addFinder {u : pj_W} {b c x1 x3 x4 x5 : Int} (h7 : u 19 b 7 = c) (h0 : 0 ≤ c) (h6 : c < 6) : ∃ u', fB_addFinder b x1 x3 x4 x5 u = some u' ∧ (u' 22 (6 * b + c) 0 = x1 ∧ u' 22 (6 * b + c) 1 = x3 ∧ u' 22 (6 * b + c) 2 = x4 ∧ u' 22 (6 * b + c) 3 = x5 ∧ u' 22 (6 * b + c) 4 = 0 ∧ u' 22 (6 * b + c) 5 = 0 ∧ u' 19 b 7 = c + 1) ∧ ∀ k i s, ¬ (k = 22 ∧ i = 6 * b + c) → ¬ (k = 19 ∧ i = b ∧ s = 7) → u' k i s = u k i s := by
  have e7 : pj_set (pj_set (pj_set (pj_set (pj_set (pj_set u 22 (6 * b + c) 0 x1) 22 (6 * b + c) 1 x3) 22 (6 * b + c) 2 x4) 22 (6 * b + c) 3 x5) 22 (6 * b + c) 4 0) 22 (6 * b + c) 5 0 19 b 7 = c := by
    rw [pj_sne (by omega), pj_sne (by omega), pj_sne (by omega), pj_sne (by omega), pj_sne (by omega), pj_sne (by omega)]
    exact h7
  refine ⟨pj_set (pj_set (pj_set (pj_set (pj_set (pj_set (pj_set u 22 (6 * b + c) 0 x1) 22 (6 * b + c) 1 x3) 22 (6 * b + c) 2 x4) 22 (6 * b + c) 3 x5) 22 (6 * b + c) 4 0) 22 (6 * b + c) 5 0) 19 b 7 (c + 1), ?_, ⟨?_, ?_, ?_, ?_, ?_, ?_, pj_set_at⟩, fun k i s a1 a2 => ?_⟩
  · unfold fB_addFinder
    rw [h7, if_pos h6, if_pos ⟨h0, h6⟩, Option.bind_some, Option.bind_some, e7, pj_wr_id (by omega) (by omega)]
  · rw [pj_sne (by omega), pj_sne (by omega), pj_sne (by omega), pj_sne (by omega), pj_sne (by omega), pj_sne (by omega), pj_set_at]
  · rw [pj_sne (by omega), pj_sne (by omega), pj_sne (by omega), pj_sne (by omega), pj_sne (by omega), pj_set_at]
  · rw [pj_sne (by omega), pj_sne (by omega), pj_sne (by omega), pj_sne (by omega), pj_set_at]
  · rw [pj_sne (by omega), pj_sne (by omega), pj_sne (by omega), pj_set_at]
  · rw [pj_sne (by omega), pj_sne (by omega), pj_set_at]
  · rw [pj_sne (by omega), pj_set_at]
  · rw [pj_sne (by omega), pj_sne (by omega), pj_sne (by omega), pj_sne (by omega), pj_sne (by omega), pj_sne (by omega), pj_sne (by omega)]
section
variable {B : Int → Int} {n : Int} {E : Int → Int} {N b : Int} {u v u' v' : pj_W} {k : Int}
theorem q_addF {A A' : pj_Q} {c z1 z2 z3 : Int} (I : pj_IV A) (hc : A 1 = c) (hc6 : c < 6) (h1 : A' 1 = c + 1) (g1 : A' (10 + 5 * c) = z1) (g2 : A' (10 + 5 * c + 1) = z2) (g3 : A' (10 + 5 * c + 2) = z3) (g4 : A (10 + 5 * c + 3) = 0) (hA : ∀ x, x ≠ 1 → x ≠ 10 + 5 * c → x ≠ 10 + 5 * c + 1 → x ≠ 10 + 5 * c + 2 → A' x = A x) (b1 : 0 ≤ z1 ∧ z1 < A 0) (b2 : 1 ≤ z2 ∧ z2 ≤ 9) (b3 : 0 ≤ z3 ∧ z3 ≤ 20) (h7 : A 7 = 2 ^ (A 2).toNat - 1) (h8 : A 8 ≤ 30) (hh : ∀ f : Int, 0 ≤ f → f < A 1 → A (10 + 5 * f + 2) ≤ 20) : pj_IV A' := by
  obtain ⟨I1, I2, I3, I4, I5, I6, I7, I8⟩ := I
  have hi : ∀ x, (x < 10 ∨ 40 ≤ x) → x ≠ 1 → A' x = A x := fun x hx hx1 => hA x hx1 (by omega) (by omega) (by omega)
  have hf : ∀ f : Int, 0 ≤ f → f < c → ∀ j, 0 ≤ j → j < 5 → A' (10 + 5 * f + j) = A (10 + 5 * f + j) := fun f f0 f1 j j0 j1 => hA _ (by omega) (by omega) (by omega) (by omega)
  have hm : ∀ d : Int, 0 ≤ d → pj_many A' d = pj_many A d := fun d d0 => hi _ (by omega) (by omega)
  refine ⟨?_, Or.inl ?_, fun f f0 f1 => ?_, fun d d0 d1 => ?_, fun d k d0 d1 k0 k1 => ?_, fun d k l d0 d1 k0 kl k1 => ?_, ⟨?_, ?_⟩, ?_⟩
  · rw [hi 0 (by omega) (by omega), h1, hi 2 (by omega) (by omega), hi 3 (by omega) (by omega), hi 4 (by omega) (by omega), hi 5 (by omega) (by omega), hi 6 (by omega) (by omega)]
    omega
  · rw [hi 7 (by omega) (by omega), hi 2 (by omega) (by omega)]; exact h7
  · rw [hi 0 (by omega) (by omega), hi 3 (by omega) (by omega)]
    rw [h1] at f1
    by_cases cf : f = c
    · subst cf
      rw [g1, g2, g3, hA (10 + 5 * f + 3) (by omega) (by omega) (by omega) (by omega), g4]
      omega
    · have e0 := hf f f0 (by omega) 0 (by omega) (by omega)
      rw [show 10 + 5 * f + 0 = 10 + 5 * f by omega] at e0
      rw [e0, hf f f0 (by omega) 1 (by omega) (by omega), hf f f0 (by omega) 2 (by omega) (by omega), hf f f0 (by omega) 3 (by omega) (by omega)]
      exact I3 f f0 (by omega)
  · rw [hi 2 (by omega) (by omega)] at d1
    rw [hi 0 (by omega) (by omega), hi (40 + 3 * d) (by omega) (by omega), hi (40 + 3 * d + 1) (by omega) (by omega), hm d d0]
    exact I4 d d0 d1
  · rw [hi 2 (by omega) (by omega)] at d1
    rw [hm d d0] at k1
    have := I5 d k d0 d1 k0 k1
    rw [h1, show pj_who A' d k = pj_who A d k from hi _ (by omega) (by omega), show pj_min A' d k = pj_min A d k from hi _ (by omega) (by omega), hi 3 (by omega) (by omega)]
    omega
  · rw [hi 2 (by omega) (by omega)] at d1
    rw [hm d d0] at k1
    rw [show pj_min A' d k = pj_min A d k from hi _ (by omega) (by omega), show pj_min A' d l = pj_min A d l from hi _ (by omega) (by omega)]
    exact I6 d k l d0 d1 k0 kl k1
  · rw [hi 8 (by omega) (by omega), hi 2 (by omega) (by omega), I7.1]
    exact pj_sum_ex fun i hi2 => (hm i (by omega)).symm
  · rw [hi 8 (by omega) (by omega)]; exact I7.2
  · have hs := pj_sum_in (g := fun f : Nat => A' (10 + 5 * (f : Int) + 2)) (n := (A' 1).toNat) (M := 20) (fun i hi2 => by
      rw [h1] at hi2
      by_cases cf : (i : Int) = c
      · rw [cf, g3]; exact b3
      · rw [hf i (by omega) (by omega) 2 (by omega) (by omega)]
        exact ⟨(I3 i (by omega) (by omega)).2.2.2.2.1, hh i (by omega) (by omega)⟩)
    rw [hi 8 (by omega) (by omega)]
    rw [h1] at hs ⊢
    omega
theorem bt_addF (R : bt_B b u v) {c z1 z2 z3 : Int} {L : List Nat} (hb : 0 ≤ b) (hc : bt_A v 1 = c) (hc6 : c < 6) (hL : pj_nc L) (b1 : 0 ≤ z1 ∧ z1 < bt_A v 0) (b2 : 1 ≤ z2 ∧ z2 ≤ 9) (b3 : 0 ≤ z3 ∧ z3 ≤ 20)
    (hu : u' 22 (6 * b + c) 0 = pj_n5 L ∧ u' 22 (6 * b + c) 1 = z1 ∧ u' 22 (6 * b + c) 2 = z2 ∧ u' 22 (6 * b + c) 3 = z3 ∧ u' 22 (6 * b + c) 4 = 0 ∧ u' 22 (6 * b + c) 5 = 0 ∧ u' 19 b 7 = c + 1)
    (fu : ∀ k i s, ¬ (k = 12 ∧ i = 0 ∧ (s = 6 ∨ s = 7 ∨ s = 11)) → ¬ (k = 22 ∧ i = 6 * b + c) → ¬ (k = 19 ∧ i = b ∧ s = 7) → u' k i s = u k i s)
    (hv : bt_A v' 1 = c + 1 ∧ bt_A v' (10 + 5 * c) = z1 ∧ bt_A v' (10 + 5 * c + 1) = z2 ∧ bt_A v' (10 + 5 * c + 2) = z3 ∧ v' 61 0 (56 + c) = pj_n8 L)
    (fA : ∀ x, x ≠ 1 → x ≠ 10 + 5 * c → x ≠ 10 + 5 * c + 1 → x ≠ 10 + 5 * c + 2 → bt_A v' x = bt_A v x) (f6 : ∀ s, s ≠ 56 + c → v' 61 0 s = v 61 0 s) (f20 : v' 26 0 20 = v 26 0 20) (f21 : v' 26 0 21 = v 26 0 21) : bt_B b u' v' := by
  obtain ⟨I, RB, ⟨⟨n1, n2, n3, n4, n5, n6⟩, nf, nd⟩, ⟨X6, X7, X8, X9⟩, H, ⟨Z1, Z2⟩, C1, C2, C3⟩ := R
  rw [hc] at n1 n2 n3 nf
  obtain ⟨u0, u1, u2, u3, u4, u5, u6⟩ := hu
  obtain ⟨v1, v2, v3, v4, v5⟩ := hv
  have I' := q_addF I hc hc6 v1 v2 v3 v4 (Z1 _ (by omega) (by omega)) fA b1 b2 b3 X7 X8 (fun f f0 f1 => (H f f0 f1).1)
  have g3 := Z1 (10 + 5 * c + 3) (by omega) (by omega)
  have g4 := Z1 (10 + 5 * c + 4) (by omega) (by omega)
  have hi : ∀ x, (x < 10 ∨ 40 ≤ x) → x ≠ 1 → bt_A v' x = bt_A v x := fun x hx hx1 => fA x hx1 (by omega) (by omega) (by omega)
  have e2 := hi 2 (by omega) (by omega)
  refine ⟨I', ⟨?_, fun f hf => ?_, fun d hd => ?_, fun d k hd k0 k1 => ?_⟩, ?_, ?_, fun f f0 f1 => ?_, ⟨fun x x0 x1 => ?_, fun x x0 x1 => ?_⟩, ?_, ?_, ?_⟩
  · rw [hi 0 (by omega) (by omega), hi 3 (by omega) (by omega), hi 4 (by omega) (by omega), hi 5 (by omega) (by omega), hi 6 (by omega) (by omega), v1, e2, u6, fu 19 b 2 (by omega) (by omega) (by omega), fu 19 b 3 (by omega) (by omega) (by omega), fu 19 b 4 (by omega) (by omega) (by omega), fu 19 b 5 (by omega) (by omega) (by omega), fu 19 b 6 (by omega) (by omega) (by omega), fu 19 b 8 (by omega) (by omega) (by omega)]
    exact ⟨RB.1.1, RB.1.2.1, RB.1.2.2.1, RB.1.2.2.2.1, RB.1.2.2.2.2.1, rfl, RB.1.2.2.2.2.2.2⟩
  · obtain ⟨f0, f1⟩ := hf
    rw [v1] at f1
    by_cases cf : f = c
    · subst cf
      rw [u1, u2, u3, u4, u5, v2, v3, v4, fA (10 + 5 * f + 3) (by omega) (by omega) (by omega) (by omega), fA (10 + 5 * f + 4) (by omega) (by omega) (by omega) (by omega), g3, g4]
      exact ⟨rfl, rfl, rfl, rfl, rfl⟩
    · have ux : ∀ s, u' 22 (6 * b + f) s = u 22 (6 * b + f) s := fun s => fu 22 _ s (by omega) (by omega) (by omega)
      rw [ux, ux, ux, ux, ux, fA (10 + 5 * f) (by omega) (by omega) (by omega) (by omega), fA (10 + 5 * f + 1) (by omega) (by omega) (by omega) (by omega), fA (10 + 5 * f + 2) (by omega) (by omega) (by omega) (by omega), fA (10 + 5 * f + 3) (by omega) (by omega) (by omega) (by omega), fA (10 + 5 * f + 4) (by omega) (by omega) (by omega) (by omega)]
      exact RB.2.1 f ⟨f0, by omega⟩
  · rw [pj_isD, e2] at hd
    have d0 := hd.1
    unfold pj_there
    rw [hi 7 (by omega) (by omega), hi (40 + 3 * d) (by omega) (by omega), hi (40 + 3 * d + 1) (by omega) (by omega), show pj_many (bt_A v') d = pj_many (bt_A v) d from hi _ (by omega) (by omega), fu 23 _ 3 (by omega) (by omega) (by omega), fu 23 _ 4 (by omega) (by omega) (by omega), fu 23 _ 5 (by omega) (by omega) (by omega), fu 23 _ 6 (by omega) (by omega) (by omega)]
    exact RB.2.2.1 d hd
  · rw [pj_isD, e2] at hd
    have d0 := hd.1
    rw [show pj_many (bt_A v') d = pj_many (bt_A v) d from hi _ (by omega) (by omega)] at k1
    rw [show pj_who (bt_A v') d k = pj_who (bt_A v) d k from hi _ (by omega) (by omega), show pj_min (bt_A v') d k = pj_min (bt_A v) d k from hi _ (by omega) (by omega), fu 45 _ k (by omega) (by omega) (by omega), fu 46 _ k (by omega) (by omega) (by omega)]
    exact RB.2.2.2 d k hd k0 k1
  · rw [v1, e2]
    refine ⟨⟨u6, by omega, by omega, (fu 19 b 8 (by omega) (by omega) (by omega)).trans n4, n5, n6⟩, fun f f0 f1 => ?_, fun d d0 d1 => ?_⟩
    · by_cases cf : f = c
      · subst cf
        rw [u0, v5]
        exact ⟨L, hL, rfl, rfl⟩
      · rw [fu 22 _ 0 (by omega) (by omega) (by omega), f6 _ (by omega)]
        exact nf f f0 (by omega)
    · rw [fu 23 _ 2 (by omega) (by omega) (by omega), f6 _ (by omega)]
      exact nd d d0 d1
  · rw [hi 6 (by omega) (by omega), hi 7 (by omega) (by omega), hi 8 (by omega) (by omega), hi 9 (by omega) (by omega), e2]
    exact ⟨X6, X7, X8, X9⟩
  · rw [v1] at f1
    by_cases cf : f = c
    · subst cf
      rw [v4, fA (10 + 5 * f + 4) (by omega) (by omega) (by omega) (by omega), g4]
      exact ⟨b3.2, rfl⟩
    · rw [fA (10 + 5 * f + 2) (by omega) (by omega) (by omega) (by omega), fA (10 + 5 * f + 4) (by omega) (by omega) (by omega) (by omega)]
      exact H f f0 (by omega)
  · rw [v1] at x0
    rw [fA x (by omega) (by omega) (by omega) (by omega)]
    exact Z1 x (by omega) x1
  · rw [e2] at x0
    have := I.1
    rw [hi x (by omega) (by omega)]
    exact Z2 x x0 x1
  · rw [fu 13 0 1 (by omega) (by omega) (by omega)]; exact C1
  · rw [fu 13 0 2 (by omega) (by omega) (by omega), f20]; exact C2
  · rw [f21, hi 8 (by omega) (by omega)]; exact C3
end
