/-! A BEACH FROM A TEXT: the duel -/
theorem tk_kx_13 : ∀ i : Fin 30, (tk_kx i.val < 13 ↔ i.val < 13) ∧ (tk_kx i.val ≤ 16 ↔ i.val ≤ 16) ∧ (13 ≤ i.val → i.val ≤ 16 → tk_kx i.val = i.val) := by decide +kernel
section
variable {B : Int → Int} {n : Int} {E : Int → Int} {N b : Int} {u v u' v' : pj_W} {k : Int}
theorem bt_duel (J : tk_J B n E N u v k) (R : bt_B b u v) (hb : 0 ≤ b) (h5 : u 31 0 k = 5) (h3 : u 33 0 k = 12) : bt_res B n E N b u v k (fBT_takeDuelPart u) ((fM_aDuel v).bind fun p4 => fM_beachPart_74 p4.1 p4.2) := by
  have C := R.2.2.2.2.2.2
  have h13 : u 13 0 1 = b := C.1
  have h20 : u 13 0 2 = v 26 0 20 := C.2.1.1
  by_cases c0 : u 13 0 2 = 0
  · obtain ⟨u1, v1, a1, a2, J1, x1, y1⟩ := tk_word (J.ex (u' := u) (v' := pj_set v 26 0 20 1) (fun _ _ _ _ => rfl) (fun k i s hk => pj_sne (by omega))) (i := 12) h5 h3
    have a1' : fR_takeWord 12 u = some (1, u1) := a1
    have e13 : u1 13 0 1 = b := (x1 13 0 1 (by omega)).trans h13
    have yv : bt_fv v v1 := (bt_fv.cnt (by decide) (by decide)).tr y1.b
    have bad : ∀ a m : Int, fR_wordHere u1 = some a → fM_inWords v1 = some m → (a < 13 ∨ 16 < a) → (m < 13 ∨ 16 < m) → bt_res B n E N b u v k (fBT_takeDuelPart u) ((fM_aDuel v).bind fun p4 => fM_beachPart_74 p4.1 p4.2) := fun a m ha hm h1 h2 => by
      obtain ⟨u2, v2, b1, b2, F2, x2, y2⟩ := tk_fail J1 (x := 2) (by decide)
      refine bt_bad (u1 := u2) (v1 := v2) ?_ ?_ F2 (x1.tr x2).b (yv.tr y2.b)
      · unfold fBT_takeDuelPart fBT_takeDuelPart_46
        rw [if_pos c0, a1', Option.bind_some]
        show ((fR_wordHere u1).bind _) = _
        rw [ha, Option.bind_some]
        by_cases c1 : a < 13
        · rw [if_pos c1]
          show ((fR_fail 2 u1).bind _) = _
          rw [b1, Option.bind_some, if_pos (Or.inl rfl)]
        · rw [if_neg c1, if_neg (by omega)]
          show ((fR_fail 2 u1).bind _) = _
          rw [b1, Option.bind_some, if_pos (Or.inl rfl)]
      · unfold fM_aDuel fM_aDuel_41
        rw [if_pos (show v 26 0 20 = 0 by omega), a2, Option.bind_some, hm, Option.bind_some]
        by_cases c1 : m < 13
        · rw [if_pos c1, b2, Option.bind_some, if_pos (Or.inl rfl)]
        · rw [if_neg c1, if_neg (by omega), b2, Option.bind_some, if_pos (Or.inl rfl)]
    rcases tk_here J1 with ⟨i, hi, g1, g2, g3, g4⟩ | ⟨g1, g2, g3⟩
    · obtain ⟨k1, k2, k3⟩ := tk_kx_13 ⟨i, hi⟩
      dsimp only at k1 k2 k3
      by_cases ci : 13 ≤ i ∧ i ≤ 16
      · have ek := k3 ci.1 ci.2
        rw [ek] at g2
        obtain ⟨u2, v2, b1, b2, J2, x2, y2⟩ := tk_word (J1.ex (u' := u1) (v' := pj_set v1 60 0 5605 ((i : Int) - 13)) (fun _ _ _ _ => rfl) (fun k i s hk => pj_sne (by omega))) (i := i) g3 g4
        have xx : tk_xf u u2 := x1.tr x2
        have e13b : u2 13 0 1 = b := (xx 13 0 1 (by omega)).trans h13
        have yy : tk_vf (pj_set (pj_set v 26 0 20 1) 60 0 5605 ((i : Int) - 13)) v2 := (y1.cong 60 0 5605 ((i : Int) - 13)).tr y2
        have R3 : bt_B b (pj_set (pj_set u2 19 b 5 ((i : Int) - 13)) 13 0 2 1) v2 := by
          refine bt_duel1 R hb (z := (i : Int) - 13) (by omega) (by omega) (fun k i s t1 t2 t3 => by rw [pj_sne (by omega), pj_sne (by omega)]; exact xx k i s t1) (by rw [pj_sne (by omega), pj_set_at]) pj_set_at ?_ (fun x hx => ?_) (fun s => ?_) ?_ ?_
          · show v2 60 0 5605 = _
            rw [yy 60 0 5605 (by omega), pj_set_at]
          · unfold bt_A
            rw [yy 60 0 _ (by omega), pj_sne (by omega), pj_sne (by omega)]
          · rw [yy 61 0 s (by omega), pj_sne (by omega), pj_sne (by omega)]
          · rw [yy 26 0 20 (by omega), pj_sne (by omega), pj_set_at]
          · rw [yy 26 0 21 (by omega), pj_sne (by omega), pj_sne (by omega)]
        refine bt_good (u1 := pj_set (pj_set u2 19 b 5 ((i : Int) - 13)) 13 0 2 1) (v1 := v2) (k1 := k + 1 + 1) ?_ ?_ (J2.ex (fun k i s hk => by rw [pj_sne (by omega), pj_sne (by omega)]) (fun _ _ _ _ => rfl)) R3 (by omega) (fun k i s t1 t2 t3 => by rw [pj_sne (by omega), pj_sne (by unfold pj_in at t3; omega)]; exact xx k i s t1) (fun k i s t1 t2 t3 => by rw [yy k i s (by omega), pj_sne (by omega), pj_sne (by omega)])
        · unfold fM_aDuel
          rw [if_pos (show v 26 0 20 = 0 by omega), a2, Option.bind_some, g2, Option.bind_some, if_neg (show ¬ (i : Int) < 13 by omega), if_pos (show (i : Int) ≤ 16 by omega), pj_wr_id (x := (i : Int) - 13) (by omega) (by omega), b2, Option.bind_some]
        · unfold fBT_takeDuelPart
          rw [if_pos c0, a1', Option.bind_some]
          show ((fR_wordHere u1).bind _) = _
          rw [g1, Option.bind_some, if_neg (show ¬ (i : Int) < 13 by omega), if_pos (show (i : Int) ≤ 16 by omega)]
          show ((fR_takeWord (i : Int) u1).bind _) = _
          rw [b1, Option.bind_some, if_pos (show 0 ≤ u2 13 0 1 by rw [e13b]; exact hb)]
          show ((fR_takeSign 59 (pj_set (pj_set u2 19 (u2 13 0 1) 5 (pj_wr ((i : Int) - 13))) 13 0 2 1)).bind _) = _
          rw [e13b, pj_wr_id (x := (i : Int) - 13) (by omega) (by omega)]
      · exact bad _ _ g1 g2 (by omega) (by omega)
    · exact bad _ _ g1 g2 (by omega) (by omega)
  · obtain ⟨u1, v1, a1, a2, F1, x1, y1⟩ := tk_fail J (x := 5) (by decide)
    refine bt_bad (u1 := u1) (v1 := v1) ?_ ?_ F1 x1.b y1.b
    · unfold fBT_takeDuelPart
      rw [if_neg c0, a1, Option.bind_some, if_pos (Or.inl rfl)]
    · unfold fM_aDuel
      rw [if_neg (show ¬ v 26 0 20 = 0 by omega), a2, Option.bind_some, if_pos (Or.inl rfl)]
theorem tk_kx_p : ∀ i : Fin 30, (tk_kx i.val = 3 ↔ i.val = 3) ∧ (tk_kx i.val = 4 ↔ i.val = 7) ∧ (tk_kx i.val = 5 ↔ i.val = 9) ∧ (tk_kx i.val = 6 ↔ i.val = 12) := by decide +kernel
/-- any part -/
theorem bt_part (J : tk_J B n E N u v k) (R : bt_B b u v) (hb : 0 ≤ b) : bt_res B n E N b u v k (fBT_takePart u) (fM_beachPart v) := by
  have wrap : ∀ fx fm, bt_res B n E N b u v k fx fm → bt_res B n E N b u v k (fx.bind fun p4 => (if p4.1 = 0 ∨ p4.1 = 1 then (some ((p4.1, p4.2))) else none)) fm := fun fx fm h => by
    rcases h with ⟨u', v', k', a1, a2⟩ | ⟨u', v', a1, a2⟩
    · exact Or.inl ⟨u', v', k', by rw [a1, Option.bind_some, if_pos (Or.inr rfl)], a2⟩
    · exact Or.inr ⟨u', v', by rw [a1, Option.bind_some, if_pos (Or.inl rfl)], a2⟩
  have bad : ∀ fx fm, fx = fBT_takePart_80 u → fm = ((fM_fails 2 v).bind fun p15 => (if p15.1 = 0 ∨ p15.1 = 1 then (some ((p15.1, p15.2))) else none)) → bt_res B n E N b u v k fx fm := fun fx fm h1 h2 => by
    obtain ⟨u2, v2, b1, b2, F2, x2, y2⟩ := tk_fail J (x := 2) (by decide)
    subst h1 h2
    unfold fBT_takePart_80
    exact Or.inr ⟨u2, v2, by rw [b1, Option.bind_some, if_pos (Or.inl rfl)], by rw [b2, Option.bind_some, if_pos (Or.inl rfl)], F2, x2.b, y2.b⟩
  have none : ∀ a m : Int, fR_wordHere u = some a → fM_inWords v = some m → (a ≠ 3 ∧ a ≠ 7 ∧ a ≠ 9 ∧ a ≠ 12) → (m ≠ 3 ∧ m ≠ 4 ∧ m ≠ 5 ∧ m ≠ 6) → bt_res B n E N b u v k (fBT_takePart u) (fM_beachPart v) := fun a m ha hm ⟨h3, h7, h9, h12⟩ ⟨m3, m4, m5, m6⟩ => by
    refine bad _ _ ?_ ?_
    · unfold fBT_takePart
      rw [ha, Option.bind_some, if_neg h3]
      by_cases c4 : a = 4
      · rw [if_pos c4]
      rw [if_neg c4]
      by_cases c5 : a = 5
      · rw [if_pos c5]
      rw [if_neg c5]
      by_cases c6 : a = 6
      · rw [if_pos c6]
      rw [if_neg c6, if_neg h7]
      by_cases c8 : a = 8
      · rw [if_pos c8]
      rw [if_neg c8, if_neg h9]
      by_cases c10 : a = 10
      · rw [if_pos c10]
      rw [if_neg c10]
      by_cases c11 : a = 11
      · rw [if_pos c11]
      rw [if_neg c11, if_neg h12]
    · unfold fM_beachPart
      rw [hm, Option.bind_some, if_neg m3, if_neg m4, if_neg m5, if_neg m6]
  rcases tk_here J with ⟨i, hi, g1, g2, g3, g4⟩ | ⟨g1, g2, g3⟩
  · obtain ⟨k1, k2, k3, k4⟩ := tk_kx_p ⟨i, hi⟩
    dsimp only at k1 k2 k3 k4
    by_cases c3 : i = 3
    · have e := k1.mpr c3
      rw [e] at g2
      subst c3
      have h := wrap _ _ (bt_finder J R hb g3 g4)
      unfold fBT_takePart fM_beachPart
      rw [g1, g2, Option.bind_some, Option.bind_some, if_pos (show ((3 : Nat) : Int) = 3 from rfl), if_pos (show ((3 : Nat) : Int) = 3 from rfl)]
      exact h
    by_cases c7 : i = 7
    · have e := k2.mpr c7
      rw [e] at g2
      subst c7
      have h := wrap _ _ (bt_find J R hb g3 g4)
      unfold fBT_takePart fM_beachPart
      rw [g1, g2, Option.bind_some, Option.bind_some, if_neg (show ¬ ((7 : Nat) : Int) = 3 by decide), if_neg (show ¬ ((7 : Nat) : Int) = 4 by decide), if_neg (show ¬ ((7 : Nat) : Int) = 5 by decide), if_neg (show ¬ ((7 : Nat) : Int) = 6 by decide), if_pos (show ((7 : Nat) : Int) = 7 from rfl), if_neg (show ¬ ((4 : Nat) : Int) = 3 by decide), if_pos (show ((4 : Nat) : Int) = 4 from rfl)]
      exact h
    by_cases c9 : i = 9
    · have e := k3.mpr c9
      rw [e] at g2
      subst c9
      have h := wrap _ _ (bt_pebble J R hb g3 g4)
      unfold fBT_takePart fM_beachPart
      rw [g1, g2, Option.bind_some, Option.bind_some, if_neg (show ¬ ((9 : Nat) : Int) = 3 by decide), if_neg (show ¬ ((9 : Nat) : Int) = 4 by decide), if_neg (show ¬ ((9 : Nat) : Int) = 5 by decide), if_neg (show ¬ ((9 : Nat) : Int) = 6 by decide), if_neg (show ¬ ((9 : Nat) : Int) = 7 by decide), if_neg (show ¬ ((9 : Nat) : Int) = 8 by decide), if_pos (show ((9 : Nat) : Int) = 9 from rfl), if_neg (show ¬ ((5 : Nat) : Int) = 3 by decide), if_neg (show ¬ ((5 : Nat) : Int) = 4 by decide), if_pos (show ((5 : Nat) : Int) = 5 from rfl)]
      exact h
    by_cases c12 : i = 12
    · have e := k4.mpr c12
      rw [e] at g2
      subst c12
      have h := wrap _ _ (bt_duel J R hb g3 g4)
      unfold fBT_takePart fM_beachPart
      rw [g1, g2, Option.bind_some, Option.bind_some, if_neg (show ¬ ((12 : Nat) : Int) = 3 by decide), if_neg (show ¬ ((12 : Nat) : Int) = 4 by decide), if_neg (show ¬ ((12 : Nat) : Int) = 5 by decide), if_neg (show ¬ ((12 : Nat) : Int) = 6 by decide), if_neg (show ¬ ((12 : Nat) : Int) = 7 by decide), if_neg (show ¬ ((12 : Nat) : Int) = 8 by decide), if_neg (show ¬ ((12 : Nat) : Int) = 9 by decide), if_neg (show ¬ ((12 : Nat) : Int) = 10 by decide), if_neg (show ¬ ((12 : Nat) : Int) = 11 by decide), if_pos (show ((12 : Nat) : Int) = 12 from rfl), if_neg (show ¬ ((6 : Nat) : Int) = 3 by decide), if_neg (show ¬ ((6 : Nat) : Int) = 4 by decide), if_neg (show ¬ ((6 : Nat) : Int) = 5 by decide), if_pos (show ((6 : Nat) : Int) = 6 from rfl)]
      exact h
    exact none _ _ g1 g2 ⟨by omega, by omega, by omega, by omega⟩ ⟨fun e => c3 (k1.mp (by omega)), fun e => c7 (k2.mp (by omega)), fun e => c9 (k3.mp (by omega)), fun e => c12 (k4.mp (by omega))⟩
  · exact none _ _ g1 g2 (by decide) (by decide)
end
