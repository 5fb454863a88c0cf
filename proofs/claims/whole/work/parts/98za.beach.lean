/-! A BEACH FROM A TEXT: a pebble more -/
theorem bt_insA {v : pj_W} {d who m : Int} : bt_A (pj_put v (q_ins (v 60 0) 5600 d who m)) = q_ins (bt_A v) 0 d who m := by
  have hp : pj_pos (fun k => v 60 0 (5600 + 64 + 120 * d + 2 * k + 1)) m (v 60 0 (5600 + 40 + 3 * d + 2)).toNat = pj_pos (fun k => bt_A v (0 + 64 + 120 * d + 2 * k + 1)) m (bt_A v (0 + 40 + 3 * d + 2)).toNat := by
    have e : bt_A v (0 + 40 + 3 * d + 2) = v 60 0 (5600 + 40 + 3 * d + 2) := by unfold bt_A; congr 1; omega
    rw [e]
    refine pj_pos_ex m (fun k _ => ?_)
    unfold bt_A
    congr 1
    omega
  funext x
  show pj_put v (q_ins (v 60 0) 5600 d who m) 60 0 (5600 + x) = _
  rw [pj_put_at]
  unfold q_ins
  rw [hp]
  generalize pj_pos (fun k => bt_A v (0 + 64 + 120 * d + 2 * k + 1)) m (bt_A v (0 + 40 + 3 * d + 2)).toNat = p
  unfold q_put q_up q_sh
  have e1 : bt_A v (0 + 40 + 3 * d + 2) = v 60 0 (5600 + 40 + 3 * d + 2) := by unfold bt_A; congr 1; omega
  have e2 : bt_A v (0 + 8) = v 60 0 (5600 + 8) := rfl
  have e3 : bt_A v (x - 2) = v 60 0 (5600 + x - 2) := by unfold bt_A; congr 1; omega
  have e4 : bt_A v x = v 60 0 (5600 + x) := rfl
  rw [e1, e2, e3, e4]
  by_cases c1 : x = 0 + 8
  · rw [if_pos (show 5600 + x = 5600 + 8 by omega), if_pos c1]
  rw [if_neg (show ¬ 5600 + x = 5600 + 8 by omega), if_neg c1]
  by_cases c2 : x = 0 + 40 + 3 * d + 2
  · rw [if_pos (show 5600 + x = 5600 + 40 + 3 * d + 2 by omega), if_pos c2]
  rw [if_neg (show ¬ 5600 + x = 5600 + 40 + 3 * d + 2 by omega), if_neg c2]
  by_cases c3 : x = 0 + 64 + 120 * d + 2 * p + 1
  · rw [if_pos (show 5600 + x = 5600 + 64 + 120 * d + 2 * p + 1 by omega), if_pos c3]
  rw [if_neg (show ¬ 5600 + x = 5600 + 64 + 120 * d + 2 * p + 1 by omega), if_neg c3]
  by_cases c4 : x = 0 + 64 + 120 * d + 2 * p
  · rw [if_pos (show 5600 + x = 5600 + 64 + 120 * d + 2 * p by omega), if_pos c4]
  rw [if_neg (show ¬ 5600 + x = 5600 + 64 + 120 * d + 2 * p by omega), if_neg c4]
  by_cases c5 : 0 + 64 + 120 * d + 2 * p + 2 ≤ x ∧ x < 0 + 64 + 120 * d + 2 * v 60 0 (5600 + 40 + 3 * d + 2) + 2
  · rw [if_pos (show 5600 + 64 + 120 * d + 2 * p + 2 ≤ 5600 + x ∧ 5600 + x < 5600 + 64 + 120 * d + 2 * v 60 0 (5600 + 40 + 3 * d + 2) + 2 by omega), if_pos c5]
  · rw [if_neg (show ¬ (5600 + 64 + 120 * d + 2 * p + 2 ≤ 5600 + x ∧ 5600 + x < 5600 + 64 + 120 * d + 2 * v 60 0 (5600 + 40 + 3 * d + 2) + 2) by omega), if_neg c5]
section
variable {B : Int → Int} {n : Int} {E : Int → Int} {N b : Int} {u v u' v' : pj_W} {k : Int}
theorem bt_B.ex2 (R : bt_B b u v) (hx : tk_xf u u') (hA : ∀ x, 0 ≤ x → x < 1024 → bt_A v' x = bt_A v x) (h61 : ∀ s, v' 61 0 s = v 61 0 s) (c20 : v' 26 0 20 = v 26 0 20) (c21 : v' 26 0 21 = v 26 0 21) : bt_B b u' v' := by
  obtain ⟨I, RB, ⟨⟨n1, n2, n3, n4, n5, n6⟩, nf, nd⟩, ⟨X6, X7, X8, X9⟩, H, ⟨Z1, Z2⟩, C1, C2, C3⟩ := R
  have I1 := I.1
  have e1 := hA 1 (by omega) (by omega)
  have e2 := hA 2 (by omega) (by omega)
  refine ⟨I.ex (fun x x0 x1 _ _ => hA x x0 x1), (RB.ex I (fun k i s hk => hx k i s ?_)).exA I (fun x x0 x1 _ => hA x x0 x1), ?_, ?_, fun f f0 f1 => ?_, ⟨fun x x0 x1 => ?_, fun x x0 x1 => ?_⟩, ?_, ?_, ?_⟩
  · unfold pj_in at hk; omega
  · rw [e1, e2]
    refine ⟨⟨(hx 19 b 7 (by omega)).trans n1, n2, n3, (hx 19 b 8 (by omega)).trans n4, n5, n6⟩, fun f f0 f1 => ?_, fun d d0 d1 => ?_⟩
    · rw [hx 22 _ 0 (by omega), h61]; exact nf f f0 f1
    · rw [hx 23 _ 2 (by omega), h61]; exact nd d d0 d1
  · rw [hA 6 (by omega) (by omega), hA 7 (by omega) (by omega), hA 8 (by omega) (by omega), hA 9 (by omega) (by omega), e2]
    exact ⟨X6, X7, X8, X9⟩
  · rw [e1] at f1
    rw [hA _ (by omega) (by omega), hA _ (by omega) (by omega)]; exact H f f0 f1
  · rw [e1] at x0
    rw [hA x (by omega) (by omega)]; exact Z1 x x0 x1
  · rw [e2] at x0
    rw [hA x (by omega) (by omega)]; exact Z2 x x0 x1
  · rw [hx 13 0 1 (by omega)]; exact C1
  · rw [hx 13 0 2 (by omega), c20]; exact C2
  · rw [c21, hA 8 (by omega) (by omega)]; exact C3
theorem bt_ins (R : bt_B b u v) (hb : 0 ≤ b) {d who m : Int} (d0 : 0 ≤ d) (d1 : d < bt_A v 2) (w0 : 0 ≤ who) (w1 : who < bt_A v 1) (m0 : 0 ≤ m) (m1 : m ≤ bt_A v 3) (h8 : bt_A v 8 < 30) :
    ∃ u', fN_insert (8 * b + d) who m u = some u' ∧ fM_comes 5600 d who m v = some (pj_put v (q_ins (v 60 0) 5600 d who m)) ∧ bt_B b u' (pj_set (pj_put v (q_ins (v 60 0) 5600 d who m)) 26 0 21 (v 26 0 21 + 1)) ∧ pj_fr b u u' := by
  have R' := R
  obtain ⟨I, RB, ⟨⟨n1, n2, n3, n4, n5, n6⟩, nf, nd⟩, ⟨X6, X7, X8, X9⟩, H, ⟨Z1, Z2⟩, C1, C2, C3⟩ := R'
  have I1 := I.1
  have hm := I.2.2.2.1 d d0 d1
  have hs := pj_sum_in (g := fun i : Nat => pj_many (bt_A v) i) (n := (bt_A v 2).toNat) (M := 60) (fun i hi => (I.2.2.2.1 i (by omega) (by omega)).2.2.2.2)
  have hle : pj_many (bt_A v) d ≤ bt_A v 8 := pj_many_le I ⟨d0, d1⟩
  have hth : pj_there (bt_A v) d := tk_th X7 (by omega) d0 d1
  have hsF := pj_sum_in (g := fun f : Nat => bt_A v (10 + 5 * (f : Int) + 2)) (n := (bt_A v 1).toNat) (M := 20) (fun i hi => ⟨(I.2.2.1 i (by omega) (by omega)).2.2.2.2.1, (H i (by omega) (by omega)).1⟩)
  have IA := q_ins_IV I (d := d) (who := who) (m := m) ⟨d0, d1⟩ hth ⟨w0, w1⟩ m0 m1 (by omega) (by omega) (by omega)
  obtain ⟨u', a1, a2, a3, a4, a5, a6⟩ := xr_ins RB I (d := d) (who := who) (m := m) ⟨d0, d1⟩ (by omega)
  have hkn : pj_kn u u' := kn_insert (w := u) (u := u) ⟨fun _ => rfl, fun _ => rfl⟩ (8 * b + d) who m u' a1
  have em : v 60 0 (5600 + 40 + 3 * d + 2) = pj_many (bt_A v) d := by unfold pj_many bt_A; congr 1; omega
  have hpos := pj_pos_le (fun k => bt_A v (0 + 64 + 120 * d + 2 * k + 1)) m (bt_A v (0 + 40 + 3 * d + 2)).toNat
  have eo : bt_A v (0 + 40 + 3 * d + 2) = pj_many (bt_A v) d := by unfold pj_many; congr 1
  have out : ∀ x, x ≠ 8 → x ≠ 40 + 3 * d + 2 → (x < 64 + 120 * d ∨ 64 + 120 * d + 120 ≤ x) → q_ins (bt_A v) 0 d who m x = bt_A v x := fun x x8 xm xr => by
    unfold q_ins
    exact q_put_out (by omega) (by rw [eo] at hpos ⊢; omega) (by omega) x8 xm xr
  have o8 : q_ins (bt_A v) 0 d who m 8 = bt_A v 8 + 1 := by unfold q_ins; exact q_put_lie
  have eA : bt_A (pj_set (pj_put v (q_ins (v 60 0) 5600 d who m)) 26 0 21 (v 26 0 21 + 1)) = q_ins (bt_A v) 0 d who m := by
    rw [← bt_insA]
    exact funext fun x => pj_sne (by omega)
  have ex : ∀ k i s, k ≠ 60 → pj_put v (q_ins (v 60 0) 5600 d who m) k i s = v k i s := fun k i s h => by
    unfold pj_put
    rw [if_neg (by omega)]
  have x12 : ∀ x : Int, 10 ≤ x → x < 40 → q_ins (bt_A v) 0 d who m x = bt_A v x := fun x x0 x1 => out x (by omega) (by omega) (by omega)
  refine ⟨u', a1, mc_comes (by decide) (by decide) d0 (by omega) (by omega) (by omega) (by show -1000 ≤ bt_A v 8; omega) (by show bt_A v 8 ≤ 1000; omega), ?_, a3⟩
  have o1 := out 1 (by omega) (by omega) (by omega)
  have o2 := out 2 (by omega) (by omega) (by omega)
  have fu : ∀ k i s, ¬ pj_in b k i → u' k i s = u k i s := a3
  unfold bt_B
  rw [eA]
  refine ⟨IA, a2, ?_, ?_, fun f f0 f1 => ?_, ⟨fun x x0 x1 => ?_, fun x x0 x1 => ?_⟩, ?_, ?_, ?_⟩
  · rw [o1, o2]
    refine ⟨⟨(a4 7).trans n1, n2, n3, (a4 8).trans n4, n5, n6⟩, fun f f0 f1 => ?_, fun e e0 e1 => ?_⟩
    · rw [pj_sne (by omega), ex _ _ _ (by decide), hkn.1]; exact nf f f0 f1
    · rw [pj_sne (by omega), ex _ _ _ (by decide), hkn.2]; exact nd e e0 e1
  · rw [out 6 (by omega) (by omega) (by omega), out 7 (by omega) (by omega) (by omega), o2, o8, out 9 (by omega) (by omega) (by omega)]
    exact ⟨X6, X7, by omega, X9⟩
  · rw [o1] at f1
    rw [x12 _ (by omega) (by omega), x12 _ (by omega) (by omega)]; exact H f f0 f1
  · rw [o1] at x0
    rw [x12 _ (by omega) x1]; exact Z1 x x0 x1
  · rw [o2] at x0
    rw [out x (by omega) (by omega) (by omega)]; exact Z2 x x0 x1
  · rw [fu 13 0 1 (by unfold pj_in; omega)]; exact C1
  · rw [fu 13 0 2 (by unfold pj_in; omega), pj_sne (by omega), ex _ _ _ (by decide)]; exact C2
  · rw [pj_set_at, eA, o8, C3]
end
