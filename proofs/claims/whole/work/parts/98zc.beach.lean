/-! A BEACH FROM A TEXT: the duel; any part -/
theorem tk_kx_d4 : ∀ i : Fin 30, (tk_kx i.val < 13 ↔ ¬ (13 ≤ i.val ∧ i.val ≤ 16) ∧ tk_kx i.val < 13) ∧ (13 ≤ i.val ∧ i.val ≤ 16 ↔ 13 ≤ tk_kx i.val ∧ tk_kx i.val ≤ 16) ∧ (13 ≤ i.val ∧ i.val ≤ 16 → tk_kx i.val = i.val) := by decide +kernel
section
variable {B : Int → Int} {n : Int} {E : Int → Int} {N b : Int} {u v u' v' : pj_W} {k : Int}
theorem bt_duel1 (R : bt_B b u v) (hb : 0 ≤ b) {z : Int} (z0 : 0 ≤ z) (z3 : z ≤ 3) (fu : ∀ k i s, ¬ (k = 12 ∧ i = 0 ∧ (s = 6 ∨ s = 7 ∨ s = 11)) → ¬ (k = 19 ∧ i = b ∧ s = 5) → ¬ (k = 13 ∧ i = 0 ∧ s = 2) → u' k i s = u k i s) (h5 : u' 19 b 5 = z) (h13 : u' 13 0 2 = 1) (hv5 : bt_A v' 5 = z) (fA : ∀ x, x ≠ 5 → bt_A v' x = bt_A v x) (f6 : ∀ s, v' 61 0 s = v 61 0 s) (f20 : v' 26 0 20 = 1) (f21 : v' 26 0 21 = v 26 0 21) : bt_B b u' v' := by
  obtain ⟨I, RB, ⟨⟨n1, n2, n3, n4, n5, n6⟩, nf, nd⟩, ⟨X6, X7, X8, X9⟩, H, ⟨Z1, Z2⟩, C1, C2, C3⟩ := R
  have I1 := I.1
  have hi : ∀ x, x ≠ 5 → bt_A v' x = bt_A v x := fA
  have e1 := hi 1 (by omega)
  have e2 := hi 2 (by omega)
  have e3 := hi 3 (by omega)
  have e0 := hi 0 (by omega)
  have e7 := hi 7 (by omega)
  have e8 := hi 8 (by omega)
  obtain ⟨I1', I2, I3, I4, I5, I6, I7, I8⟩ := I
  have hm : ∀ d : Int, 0 ≤ d → pj_many (bt_A v') d = pj_many (bt_A v) d := fun d d0 => hi _ (by omega)
  refine ⟨⟨?_, Or.inl (by rw [e7, e2]; exact X7), fun f f0 f1 => ?_, fun d d0 d1 => ?_, fun d k d0 d1 k0 k1 => ?_, fun d k l d0 d1 k0 kl k1 => ?_, ⟨?_, ?_⟩, ?_⟩, ⟨?_, fun f hf => ?_, fun d hd => ?_, fun d k hd k0 k1 => ?_⟩, ?_, ?_, fun f f0 f1 => ?_, ⟨fun x x0 x1 => ?_, fun x x0 x1 => ?_⟩, ?_, ?_, ?_⟩
  · rw [e0, e1, e2, e3, hi 4 (by omega), hv5, hi 6 (by omega)]; omega
  · rw [e1] at f1
    rw [e0, e3, hi _ (by omega), hi _ (by omega), hi _ (by omega), hi _ (by omega)]
    exact I3 f f0 f1
  · rw [e2] at d1
    rw [e0, hm d d0, hi _ (by omega), hi _ (by omega)]
    exact I4 d d0 d1
  · rw [e2] at d1
    rw [hm d d0] at k1
    rw [e1, e3, show pj_who (bt_A v') d k = pj_who (bt_A v) d k from hi _ (by omega), show pj_min (bt_A v') d k = pj_min (bt_A v) d k from hi _ (by omega)]
    exact I5 d k d0 d1 k0 k1
  · rw [e2] at d1
    rw [hm d d0] at k1
    rw [show pj_min (bt_A v') d k = pj_min (bt_A v) d k from hi _ (by omega), show pj_min (bt_A v') d l = pj_min (bt_A v) d l from hi _ (by omega)]
    exact I6 d k l d0 d1 k0 kl k1
  · rw [e8, e2, I7.1]
    exact pj_sum_ex fun i hi2 => (hm i (by omega)).symm
  · rw [e8]; exact I7.2
  · rw [e8, e1]
    have e : pj_sum (fun f : Nat => bt_A v' (10 + 5 * (f : Int) + 2)) (bt_A v 1).toNat = pj_sum (fun f : Nat => bt_A v (10 + 5 * (f : Int) + 2)) (bt_A v 1).toNat := pj_sum_ex fun i hi2 => hi _ (by omega)
    rw [e]; exact I8
  · rw [e0, e1, e2, e3, hi 4 (by omega), hv5, h5, hi 6 (by omega), fu 19 b 2 (by omega) (by omega) (by omega), fu 19 b 3 (by omega) (by omega) (by omega), fu 19 b 4 (by omega) (by omega) (by omega), fu 19 b 6 (by omega) (by omega) (by omega), fu 19 b 7 (by omega) (by omega) (by omega), fu 19 b 8 (by omega) (by omega) (by omega)]
    exact ⟨RB.1.1, RB.1.2.1, RB.1.2.2.1, rfl, RB.1.2.2.2.2.1, RB.1.2.2.2.2.2.1, RB.1.2.2.2.2.2.2⟩
  · rw [pj_isF, e1] at hf
    have f0 := hf.1
    have ux : ∀ s, u' 22 (6 * b + f) s = u 22 (6 * b + f) s := fun s => fu 22 _ s (by omega) (by omega) (by omega)
    rw [ux, ux, ux, ux, ux, hi (10 + 5 * f) (by omega), hi (10 + 5 * f + 1) (by omega), hi (10 + 5 * f + 2) (by omega), hi (10 + 5 * f + 3) (by omega), hi (10 + 5 * f + 4) (by omega)]
    exact RB.2.1 f hf
  · rw [pj_isD, e2] at hd
    have d0 := hd.1
    have ux : ∀ s, u' 23 (8 * b + d) s = u 23 (8 * b + d) s := fun s => fu 23 _ s (by omega) (by omega) (by omega)
    unfold pj_there
    rw [ux, ux, ux, ux, e7, hm d d0, hi (40 + 3 * d) (by omega), hi (40 + 3 * d + 1) (by omega)]
    exact RB.2.2.1 d hd
  · rw [pj_isD, e2] at hd
    have d0 := hd.1
    rw [hm d d0] at k1
    rw [show pj_who (bt_A v') d k = pj_who (bt_A v) d k from hi _ (by omega), show pj_min (bt_A v') d k = pj_min (bt_A v) d k from hi _ (by omega), fu 45 _ k (by omega) (by omega) (by omega), fu 46 _ k (by omega) (by omega) (by omega)]
    exact RB.2.2.2 d k hd k0 k1
  · rw [e1, e2]
    refine ⟨⟨(fu 19 b 7 (by omega) (by omega) (by omega)).trans n1, n2, n3, (fu 19 b 8 (by omega) (by omega) (by omega)).trans n4, n5, n6⟩, fun f f0 f1 => ?_, fun d d0 d1 => ?_⟩
    · rw [fu 22 _ 0 (by omega) (by omega) (by omega), f6]; exact nf f f0 f1
    · rw [fu 23 _ 2 (by omega) (by omega) (by omega), f6]; exact nd d d0 d1
  · rw [hi 6 (by omega), e7, e8, hi 9 (by omega), e2]; exact ⟨X6, X7, X8, X9⟩
  · rw [e1] at f1
    rw [hi _ (by omega), hi _ (by omega)]; exact H f f0 f1
  · rw [e1] at x0
    rw [hi x (by omega)]; exact Z1 x x0 x1
  · rw [e2] at x0
    rw [hi x (by omega)]; exact Z2 x x0 x1
  · rw [fu 13 0 1 (by omega) (by omega) (by omega)]; exact C1
  · rw [h13, f20]; exact ⟨rfl, Or.inr rfl⟩
  · rw [f21, e8]; exact C3
end
