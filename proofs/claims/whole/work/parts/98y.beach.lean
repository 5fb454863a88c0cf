/-! A BEACH FROM A TEXT: a find more -/
theorem tk_th_d : ∀ n : Fin 9, ∀ d : Fin 8, d.val < n.val → pj_and (pj_shr ((2 : Int) ^ n.val - 1) (d.val : Int)) 1 = 1 := by decide +kernel
theorem tk_th {A : pj_Q} {c d : Int} (h7 : A 7 = 2 ^ c.toNat - 1) (c8 : c ≤ 8) (d0 : 0 ≤ d) (dc : d < c) : pj_there A d := by
  have := tk_th_d ⟨c.toNat, by omega⟩ ⟨d.toNat, by omega⟩ (by show d.toNat < c.toNat; omega)
  dsimp only at this
  rw [show ((d.toNat : Nat) : Int) = d by omega] at this
  unfold pj_there
  rw [h7]
  exact this
theorem tk_or_d : ∀ d : Fin 8, pj_or ((2 : Int) ^ d.val - 1) (pj_shl 1 (d.val : Int)) = 2 ^ (d.val + 1) - 1 := by decide +kernel
theorem x_addFind {u : pj_W} {b c x1 x3 x4 : Int} (h7 : u 19 b 8 = c) (h0 : 0 ≤ c) (h6 : c < 8) : ∃ u', fB_addFind b x1 x3 x4 u = some u' ∧ (u' 23 (8 * b + c) 2 = x1 ∧ u' 23 (8 * b + c) 3 = x3 ∧ u' 23 (8 * b + c) 4 = x4 ∧ u' 23 (8 * b + c) 5 = 1 ∧ u' 23 (8 * b + c) 6 = 0 ∧ u' 19 b 8 = c + 1) ∧ ∀ k i s, ¬ (k = 23 ∧ i = 8 * b + c) → ¬ (k = 19 ∧ i = b ∧ s = 8) → u' k i s = u k i s := by
  have e7 : pj_set (pj_set (pj_set (pj_set (pj_set u 23 (8 * b + c) 2 x1) 23 (8 * b + c) 3 x3) 23 (8 * b + c) 4 x4) 23 (8 * b + c) 5 1) 23 (8 * b + c) 6 0 19 b 8 = c := by
    rw [pj_sne (by omega), pj_sne (by omega), pj_sne (by omega), pj_sne (by omega), pj_sne (by omega)]
    exact h7
  refine ⟨pj_set (pj_set (pj_set (pj_set (pj_set (pj_set u 23 (8 * b + c) 2 x1) 23 (8 * b + c) 3 x3) 23 (8 * b + c) 4 x4) 23 (8 * b + c) 5 1) 23 (8 * b + c) 6 0) 19 b 8 (c + 1), ?_, ⟨?_, ?_, ?_, ?_, ?_, pj_set_at⟩, fun k i s a1 a2 => ?_⟩
  · unfold fB_addFind
    rw [h7, if_pos h6, if_pos ⟨h0, h6⟩, Option.bind_some, e7, pj_wr_id (by omega) (by omega)]
  · rw [pj_sne (by omega), pj_sne (by omega), pj_sne (by omega), pj_sne (by omega), pj_sne (by omega), pj_set_at]
  · rw [pj_sne (by omega), pj_sne (by omega), pj_sne (by omega), pj_sne (by omega), pj_set_at]
  · rw [pj_sne (by omega), pj_sne (by omega), pj_sne (by omega), pj_set_at]
  · rw [pj_sne (by omega), pj_sne (by omega), pj_set_at]
  · rw [pj_sne (by omega), pj_set_at]
  · rw [pj_sne (by omega), pj_sne (by omega), pj_sne (by omega), pj_sne (by omega), pj_sne (by omega), pj_sne (by omega)]
section
variable {B : Int → Int} {n : Int} {E : Int → Int} {N b : Int} {u v u' v' : pj_W} {k : Int}
theorem q_addD {A A' : pj_Q} {c z1 z2 : Int} (I : pj_IV A) (hc : A 2 = c) (hc6 : c < 8) (h1 : A' 2 = c + 1) (g1 : A' (40 + 3 * c) = z1) (g2 : A' (40 + 3 * c + 1) = z2) (g3 : A (40 + 3 * c + 2) = 0) (hA : ∀ x, x ≠ 2 → x ≠ 7 → x ≠ 40 + 3 * c → x ≠ 40 + 3 * c + 1 → A' x = A x) (b1 : 0 ≤ z1 ∧ z1 < A 0) (b2 : 0 ≤ z2 ∧ z2 ≤ 999) (h7 : A' 7 = 2 ^ (c + 1).toNat - 1) : pj_IV A' := by
  obtain ⟨I1, I2, I3, I4, I5, I6, I7, I8⟩ := I
  have hi : ∀ x, (x < 40 ∨ 64 ≤ x) → x ≠ 2 → x ≠ 7 → A' x = A x := fun x hx hx1 hx2 => hA x hx1 hx2 (by omega) (by omega)
  have hd : ∀ d : Int, 0 ≤ d → d < c → ∀ j, 0 ≤ j → j < 3 → A' (40 + 3 * d + j) = A (40 + 3 * d + j) := fun d d0 d1 j j0 j1 => hA _ (by omega) (by omega) (by omega) (by omega)
  have hm : ∀ d : Int, 0 ≤ d → d < c + 1 → pj_many A' d = pj_many A d := fun d d0 d1 => hA _ (by omega) (by omega) (by omega) (by omega)
  have hmc : pj_many A' c = 0 := (hm c (by omega) (by omega)).trans g3
  refine ⟨?_, Or.inl ?_, fun f f0 f1 => ?_, fun d d0 d1 => ?_, fun d k d0 d1 k0 k1 => ?_, fun d k l d0 d1 k0 kl k1 => ?_, ⟨?_, ?_⟩, ?_⟩
  · rw [hi 0 (by omega) (by omega) (by omega), h1, hi 1 (by omega) (by omega) (by omega), hi 3 (by omega) (by omega) (by omega), hi 4 (by omega) (by omega) (by omega), hi 5 (by omega) (by omega) (by omega), hi 6 (by omega) (by omega) (by omega)]
    omega
  · rw [h1]; exact h7
  · rw [hi 1 (by omega) (by omega) (by omega)] at f1
    rw [hi 0 (by omega) (by omega) (by omega), hi 3 (by omega) (by omega) (by omega), hi (10 + 5 * f) (by omega) (by omega) (by omega), hi (10 + 5 * f + 1) (by omega) (by omega) (by omega), hi (10 + 5 * f + 2) (by omega) (by omega) (by omega), hi (10 + 5 * f + 3) (by omega) (by omega) (by omega)]
    exact I3 f f0 f1
  · rw [h1] at d1
    rw [hi 0 (by omega) (by omega) (by omega)]
    by_cases cf : d = c
    · subst cf
      rw [g1, g2, hmc]
      omega
    · have e0 := hd d d0 (by omega) 0 (by omega) (by omega)
      rw [show 40 + 3 * d + 0 = 40 + 3 * d by omega] at e0
      rw [e0, hd d d0 (by omega) 1 (by omega) (by omega), hm d d0 (by omega)]
      exact I4 d d0 (by omega)
  · rw [h1] at d1
    by_cases cf : d = c
    · subst cf
      rw [hmc] at k1
      omega
    · rw [hm d d0 (by omega)] at k1
      rw [show pj_who A' d k = pj_who A d k from hi _ (by omega) (by omega) (by omega), show pj_min A' d k = pj_min A d k from hi _ (by omega) (by omega) (by omega), hi 1 (by omega) (by omega) (by omega), hi 3 (by omega) (by omega) (by omega)]
      exact I5 d k d0 (by omega) k0 k1
  · rw [h1] at d1
    by_cases cf : d = c
    · subst cf
      rw [hmc] at k1
      omega
    · rw [hm d d0 (by omega)] at k1
      rw [show pj_min A' d k = pj_min A d k from hi _ (by omega) (by omega) (by omega), show pj_min A' d l = pj_min A d l from hi _ (by omega) (by omega) (by omega)]
      exact I6 d k l d0 (by omega) k0 kl k1
  · rw [hi 8 (by omega) (by omega) (by omega), h1, I7.1, hc, show (c + 1).toNat = c.toNat + 1 by omega]
    have e : pj_sum (fun d : Nat => pj_many A' d) (c.toNat + 1) = pj_sum (fun d : Nat => pj_many A' d) c.toNat + pj_many A' (c.toNat : Int) := rfl
    rw [e, show ((c.toNat : Nat) : Int) = c by omega, hmc, Int.add_zero]
    exact pj_sum_ex fun i hi2 => (hm i (by omega) (by omega)).symm
  · rw [hi 8 (by omega) (by omega) (by omega)]; exact I7.2
  · rw [hi 8 (by omega) (by omega) (by omega), hi 1 (by omega) (by omega) (by omega)]
    have e : pj_sum (fun f : Nat => A' (10 + 5 * (f : Int) + 2)) (A 1).toNat = pj_sum (fun f : Nat => A (10 + 5 * (f : Int) + 2)) (A 1).toNat := pj_sum_ex fun i hi2 => hi _ (by omega) (by omega) (by omega)
    rw [e]
    exact I8
theorem bt_addD (R : bt_B b u v) {c z1 z2 : Int} {L : List Nat} (hb : 0 ≤ b) (hc : bt_A v 2 = c) (hc6 : c < 8) (hL : pj_nc L) (b1 : 0 ≤ z1 ∧ z1 < bt_A v 0) (b2 : 0 ≤ z2 ∧ z2 ≤ 999)
    (hu : u' 23 (8 * b + c) 2 = pj_n5 L ∧ u' 23 (8 * b + c) 3 = z1 ∧ u' 23 (8 * b + c) 4 = z2 ∧ u' 23 (8 * b + c) 5 = 1 ∧ u' 23 (8 * b + c) 6 = 0 ∧ u' 19 b 8 = c + 1)
    (fu : ∀ k i s, ¬ (k = 12 ∧ i = 0 ∧ (s = 6 ∨ s = 7 ∨ s = 11)) → ¬ (k = 23 ∧ i = 8 * b + c) → ¬ (k = 19 ∧ i = b ∧ s = 8) → u' k i s = u k i s)
    (hv : bt_A v' 2 = c + 1 ∧ bt_A v' (40 + 3 * c) = z1 ∧ bt_A v' (40 + 3 * c + 1) = z2 ∧ bt_A v' 7 = 2 ^ (c + 1).toNat - 1 ∧ v' 61 0 (62 + c) = pj_n8 L)
    (fA : ∀ x, x ≠ 2 → x ≠ 7 → x ≠ 40 + 3 * c → x ≠ 40 + 3 * c + 1 → bt_A v' x = bt_A v x) (f6 : ∀ s, s ≠ 62 + c → v' 61 0 s = v 61 0 s) (f20 : v' 26 0 20 = v 26 0 20) (f21 : v' 26 0 21 = v 26 0 21) : bt_B b u' v' := by
  obtain ⟨I, RB, ⟨⟨n1, n2, n3, n4, n5, n6⟩, nf, nd⟩, ⟨X6, X7, X8, X9⟩, H, ⟨Z1, Z2⟩, C1, C2, C3⟩ := R
  rw [hc] at n4 n5 n6 nd X7
  obtain ⟨u0, u1, u2, u3, u4, u5⟩ := hu
  obtain ⟨v1, v2, v3, v4, v5⟩ := hv
  have g3 := Z2 (40 + 3 * c + 2) (by omega) (by omega)
  have I' := q_addD I hc hc6 v1 v2 v3 g3 fA b1 b2 v4
  have hi : ∀ x, (x < 40 ∨ 64 ≤ x) → x ≠ 2 → x ≠ 7 → bt_A v' x = bt_A v x := fun x hx hx1 hx2 => fA x hx1 hx2 (by omega) (by omega)
  have e1 := hi 1 (by omega) (by omega) (by omega)
  have I1 := I.1
  have hm : ∀ d : Int, 0 ≤ d → d < c + 1 → pj_many (bt_A v') d = pj_many (bt_A v) d := fun d d0 d1 => fA _ (by omega) (by omega) (by omega) (by omega)
  refine ⟨I', ⟨?_, fun f hf => ?_, fun d hd => ?_, fun d k hd k0 k1 => ?_⟩, ?_, ?_, fun f f0 f1 => ?_, ⟨fun x x0 x1 => ?_, fun x x0 x1 => ?_⟩, ?_, ?_, ?_⟩
  · rw [hi 0 (by omega) (by omega) (by omega), hi 3 (by omega) (by omega) (by omega), hi 4 (by omega) (by omega) (by omega), hi 5 (by omega) (by omega) (by omega), hi 6 (by omega) (by omega) (by omega), v1, e1, u5, fu 19 b 2 (by omega) (by omega) (by omega), fu 19 b 3 (by omega) (by omega) (by omega), fu 19 b 4 (by omega) (by omega) (by omega), fu 19 b 5 (by omega) (by omega) (by omega), fu 19 b 6 (by omega) (by omega) (by omega), fu 19 b 7 (by omega) (by omega) (by omega)]
    exact ⟨RB.1.1, RB.1.2.1, RB.1.2.2.1, RB.1.2.2.2.1, RB.1.2.2.2.2.1, RB.1.2.2.2.2.2.1, rfl⟩
  · rw [pj_isF, e1] at hf
    have f0 := hf.1
    have f1 := hf.2
    have ux : ∀ s, u' 22 (6 * b + f) s = u 22 (6 * b + f) s := fun s => fu 22 _ s (by omega) (by omega) (by omega)
    rw [ux, ux, ux, ux, ux, hi (10 + 5 * f) (by omega) (by omega) (by omega), hi (10 + 5 * f + 1) (by omega) (by omega) (by omega), hi (10 + 5 * f + 2) (by omega) (by omega) (by omega), hi (10 + 5 * f + 3) (by omega) (by omega) (by omega), hi (10 + 5 * f + 4) (by omega) (by omega) (by omega)]
    exact RB.2.1 f hf
  · obtain ⟨d0, d1⟩ := hd
    rw [v1] at d1
    have th' : pj_there (bt_A v') d := tk_th (c := c + 1) v4 (by omega) d0 d1
    rw [if_pos th', hm d d0 d1]
    by_cases cf : d = c
    · subst cf
      rw [u1, u2, u3, u4, v2, v3]
      exact ⟨rfl, rfl, rfl, g3.symm⟩
    · have h := RB.2.2.1 d ⟨d0, by omega⟩
      rw [if_pos (tk_th (c := c) X7 (by omega) d0 (by omega))] at h
      rw [fA (40 + 3 * d) (by omega) (by omega) (by omega) (by omega), fA (40 + 3 * d + 1) (by omega) (by omega) (by omega) (by omega), fu 23 _ 3 (by omega) (by omega) (by omega), fu 23 _ 4 (by omega) (by omega) (by omega), fu 23 _ 5 (by omega) (by omega) (by omega), fu 23 _ 6 (by omega) (by omega) (by omega)]
      exact h
  · obtain ⟨d0, d1⟩ := hd
    rw [v1] at d1
    rw [hm d d0 d1] at k1
    by_cases cf : d = c
    · subst cf
      rw [show pj_many (bt_A v) d = 0 from g3] at k1
      omega
    · rw [show pj_who (bt_A v') d k = pj_who (bt_A v) d k from hi _ (by omega) (by omega) (by omega), show pj_min (bt_A v') d k = pj_min (bt_A v) d k from hi _ (by omega) (by omega) (by omega), fu 45 _ k (by omega) (by omega) (by omega), fu 46 _ k (by omega) (by omega) (by omega)]
      exact RB.2.2.2 d k ⟨d0, by omega⟩ k0 k1
  · rw [v1, e1]
    refine ⟨⟨(fu 19 b 7 (by omega) (by omega) (by omega)).trans n1, n2, n3, u5, by omega, by omega⟩, fun f f0 f1 => ?_, fun d d0 d1 => ?_⟩
    · rw [fu 22 _ 0 (by omega) (by omega) (by omega), f6 _ (by omega)]
      exact nf f f0 f1
    · by_cases cf : d = c
      · subst cf
        rw [u0, show (56 + 6 + d : Int) = 62 + d by omega, v5]
        exact ⟨L, hL, rfl, rfl⟩
      · rw [fu 23 _ 2 (by omega) (by omega) (by omega), f6 _ (by omega)]
        exact nd d d0 (by omega)
  · rw [hi 6 (by omega) (by omega) (by omega), v1, v4, hi 8 (by omega) (by omega) (by omega), hi 9 (by omega) (by omega) (by omega)]
    exact ⟨X6, rfl, X8, X9⟩
  · rw [e1] at f1
    rw [hi (10 + 5 * f + 2) (by omega) (by omega) (by omega), hi (10 + 5 * f + 4) (by omega) (by omega) (by omega)]
    exact H f f0 f1
  · rw [e1] at x0
    rw [hi x (by omega) (by omega) (by omega)]
    exact Z1 x x0 x1
  · rw [v1] at x0
    rw [fA x (by omega) (by omega) (by omega) (by omega)]
    exact Z2 x (by omega) x1
  · rw [fu 13 0 1 (by omega) (by omega) (by omega)]; exact C1
  · rw [fu 13 0 2 (by omega) (by omega) (by omega), f20]; exact C2
  · rw [f21, hi 8 (by omega) (by omega) (by omega)]; exact C3
end
