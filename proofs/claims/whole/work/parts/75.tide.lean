/-! THE TIDE AND THE DAWN: bounds; the model -/
theorem pj_sum_add (g h : Nat → Int) (n : Nat) : pj_sum (fun i => g i + h i) n = pj_sum g n + pj_sum h n := by
  induction n with
  | zero => rfl
  | succ n ih =>
    show pj_sum (fun i => g i + h i) n + (g n + h n) = pj_sum g n + g n + (pj_sum h n + h n)
    rw [ih]; omega
theorem pj_sum_swap (g : Nat → Nat → Int) (n m : Nat) : pj_sum (fun i => pj_sum (fun j => g i j) m) n = pj_sum (fun j => pj_sum (fun i => g i j) n) m := by
  induction n with
  | zero => exact (pj_sum_0 (fun i hi => rfl)).symm
  | succ n ih =>
    show pj_sum (fun i => pj_sum (fun j => g i j) m) n + pj_sum (fun j => g n j) m = pj_sum (fun j => pj_sum (fun i => g i j) n + g n j) m
    rw [pj_sum_add, ih]
theorem pj_sum_ind {a : Int} {n : Nat} (h0 : 0 ≤ a) (h1 : a < n) : pj_sum (fun f => if a = (f : Int) then 1 else 0) n = 1 := by
  have h : pj_sum (fun f : Nat => if a = (f : Int) then (1 : Int) else 0) n = pj_sum (fun _ => 0) n + 1 := pj_sum_up (j := a.toNat) (by omega) (fun i hi hne => if_neg (by omega)) (by rw [if_pos (by omega)]; omega)
  rw [h, pj_sum_0 (fun i hi => rfl)]; rfl
theorem pj_strewn_all {A : pj_Q} (I : pj_IV A) : pj_sum (fun f => pj_strewn A f) (A 1).toNat = A 8 := by
  have hA := I.1
  unfold pj_strewn
  rw [pj_sum_swap (fun f d : Nat => pj_tal A f d), I.2.2.2.2.2.2.1.1]
  refine pj_sum_ex fun d hd => ?_
  unfold pj_tal
  have hD := I.2.2.2.1 d (by omega) (by omega)
  rw [pj_sum_swap (fun f k : Nat => if pj_who A d k = f then (1 : Int) else 0)]
  rw [pj_sum_ex (g' := fun _ => 1) (fun k hk => by
    have := I.2.2.2.2.1 d k (by omega) (by omega) (by omega) (by omega)
    exact pj_sum_ind this.1 (by omega))]
  have hc : ∀ n : Nat, pj_sum (fun _ => 1) n = n := fun n => by
    induction n with
    | zero => rfl
    | succ n ih => show pj_sum (fun _ => 1) n + 1 = _; rw [ih]; rfl
  rw [hc]; omega
theorem q_tided_IV {A B : pj_Q} (I : pj_IV A) (T : q_tided A B) (h6 : A 6 < 99) : pj_IV B := by
  have hA := I.1
  obtain ⟨T0, T1, TF, TD⟩ := T
  have c : ∀ x, x < 10 → x ≠ 3 → x ≠ 6 → x ≠ 7 → x ≠ 8 → B x = A x := fun x h h3 h6 h7 h8 => T0 x (fun _ => ⟨h3, h6, h7, h8⟩) (fun _ => by omega) (fun _ => by omega)
  have hF1 : ∀ f : Int, 0 ≤ f → f < 6 → B (10 + 5 * f) = A (10 + 5 * f) ∧ B (10 + 5 * f + 1) = A (10 + 5 * f + 1) := fun f hf hf2 => ⟨T0 _ (fun _ => by omega) (fun _ _ => ⟨f, Or.inl rfl⟩) (fun _ => by omega), T0 _ (fun _ => by omega) (fun _ _ => ⟨f, Or.inr rfl⟩) (fun _ => by omega)⟩
  have hD1 : ∀ d : Int, 0 ≤ d → d < 8 → B (40 + 3 * d) = A (40 + 3 * d) ∧ B (40 + 3 * d + 1) = A (40 + 3 * d + 1) := fun f hf hf2 => ⟨T0 _ (fun _ => by omega) (fun _ => by omega) (fun _ _ => ⟨f, Or.inl rfl⟩), T0 _ (fun _ => by omega) (fun _ => by omega) (fun _ _ => ⟨f, Or.inr rfl⟩)⟩
  have e1 := c 1 (by omega) (by omega) (by omega) (by omega) (by omega)
  have e2 := c 2 (by omega) (by omega) (by omega) (by omega) (by omega)
  refine ⟨?_, ?_, ?_, ?_, ?_, ?_, ?_, ?_⟩
  · rw [c 0 (by omega) (by omega) (by omega) (by omega) (by omega), e1, e2, c 4 (by omega) (by omega) (by omega) (by omega) (by omega), c 5 (by omega) (by omega) (by omega) (by omega) (by omega)]
    omega
  · rw [e2]
    exact Or.inr ⟨T1.2.2.1, fun d hd hd2 => TD d ⟨hd, hd2⟩⟩
  · intro f hf hf2
    rw [e1] at hf2
    have h1 := hF1 f hf (by omega)
    have h2 := TF f ⟨hf, hf2⟩
    have h3 := I.2.2.1 f hf hf2
    have h4 := pj_strewn_in I f
    rw [c 0 (by omega) (by omega) (by omega) (by omega) (by omega), h1.1, h1.2, h2.1, h2.2.1]
    omega
  · intro d hd hd2
    rw [e2] at hd2
    have h1 := hD1 d hd (by omega)
    have h3 := I.2.2.2.1 d hd hd2
    rw [TD d ⟨hd, hd2⟩, c 0 (by omega) (by omega) (by omega) (by omega) (by omega), h1.1, h1.2]
    omega
  · intro d k hd hd2 hk hk2
    rw [e2] at hd2
    rw [TD d ⟨hd, hd2⟩] at hk2
    omega
  · intro d k l hd hd2 hk hk2 hl
    rw [e2] at hd2
    rw [TD d ⟨hd, hd2⟩] at hl
    omega
  · rw [T1.2.2.2, e2]
    refine ⟨(pj_sum_0 fun d hd => TD d ⟨by omega, by omega⟩).symm, by omega⟩
  · rw [T1.2.2.2, e1, pj_sum_ex (g' := fun f : Nat => A (10 + 5 * f + 2) + pj_strewn A f) (fun f hf => (TF f ⟨by omega, by omega⟩).1), pj_sum_add (fun f : Nat => A (10 + 5 * f + 2)) (fun f : Nat => pj_strewn A f), pj_strewn_all I]
    have := I.2.2.2.2.2.2.2
    omega
theorem q_tided_IK {A B : pj_Q} (I : pj_IV A) (K : pj_IK A) (T : q_tided A B) : pj_IK B := by
  have hA := I.1
  obtain ⟨T0, T1, TF, TD⟩ := T
  intro f hf
  have e1 : B 1 = A 1 := T0 1 (fun _ => by omega) (fun _ => by omega) (fun _ => by omega)
  have hf' : pj_isF A f := by unfold pj_isF at hf ⊢; omega
  have h1 := (TF f hf').2.2
  have h2 := K f hf'
  have h3 := pj_lead_in I hf'.1 (by have := hf'.2; omega)
  rw [h1, T1.2.1]
  omega
def q_tide (A : pj_Q) : pj_R := if A 6 = 99 then (4, 0, A) else if A 7 = 0 then (7, 0, A) else (0, A 6 + 1, q_floods A)
def q_dawns (A : pj_Q) : pj_Q := q_up A 7 (2 ^ (A 2).toNat - 1)
def q_dawn (A : pj_Q) : pj_R := if A 7 = 0 then (0, A 2, q_dawns A) else (7, 0, A)
theorem q_tide_IV {A : pj_Q} (I : pj_IV A) : pj_IV (q_tide A).2.2 := by
  have hA := I.1
  unfold q_tide
  split
  · exact I
  · split
    · exact I
    · exact q_tided_IV I (q_floods_is I) (by omega)
theorem q_tide_IK {A : pj_Q} (I : pj_IV A) (K : pj_IK A) : pj_IK (q_tide A).2.2 := by
  unfold q_tide
  split
  · exact K
  · split
    · exact K
    · exact q_tided_IK I K (q_floods_is I)
theorem q_dawns_IV {A : pj_Q} (I : pj_IV A) : pj_IV (q_dawns A) := by
  have hne : ∀ x, x ≠ 7 → q_dawns A x = A x := fun x h => q_up_ne _ _ h
  obtain ⟨I0, I7, IF, ID, IK, IS, I8, IP⟩ := I
  refine ⟨?_, ?_, ?_, ?_, ?_, ?_, ?_, ?_⟩
  · rw [hne 0 (by omega), hne 1 (by omega), hne 2 (by omega), hne 3 (by omega), hne 4 (by omega), hne 5 (by omega), hne 6 (by omega)]; exact I0
  · rw [hne 2 (by omega)]; exact Or.inl (q_up_at _ _ _)
  · intro f hf hf2
    rw [hne 1 (by omega)] at hf2
    rw [hne 0 (by omega), hne 3 (by omega), hne (10 + 5 * f) (by omega), hne (10 + 5 * f + 1) (by omega), hne (10 + 5 * f + 2) (by omega), hne (10 + 5 * f + 3) (by omega)]
    exact IF f hf hf2
  · intro d hd hd2
    rw [hne 2 (by omega)] at hd2
    rw [show pj_many (q_dawns A) d = pj_many A d from hne _ (by omega), hne 0 (by omega), hne (40 + 3 * d) (by omega), hne (40 + 3 * d + 1) (by omega)]
    exact ID d hd hd2
  · intro d k hd hd2 hk hk2
    rw [hne 2 (by omega)] at hd2
    rw [show pj_many (q_dawns A) d = pj_many A d from hne _ (by omega)] at hk2
    rw [hne 1 (by omega), hne 3 (by omega), show pj_who (q_dawns A) d k = pj_who A d k from hne _ (by omega), show pj_min (q_dawns A) d k = pj_min A d k from hne _ (by omega)]
    exact IK d k hd hd2 hk hk2
  · intro d k l hd hd2 hk hk2 hl
    rw [hne 2 (by omega)] at hd2
    rw [show pj_many (q_dawns A) d = pj_many A d from hne _ (by omega)] at hl
    rw [show pj_min (q_dawns A) d k = pj_min A d k from hne _ (by omega), show pj_min (q_dawns A) d l = pj_min A d l from hne _ (by omega)]
    exact IS d k l hd hd2 hk hk2 hl
  · rw [hne 8 (by omega), hne 2 (by omega), pj_sum_ex (g := fun d : Nat => pj_many (q_dawns A) d) (g' := fun d : Nat => pj_many A d) (fun d hd => hne _ (by omega))]; exact I8
  · rw [hne 8 (by omega), hne 1 (by omega), pj_sum_ex (g := fun g : Nat => q_dawns A (10 + 5 * g + 2)) (g' := fun g : Nat => A (10 + 5 * g + 2)) (fun d hd => hne _ (by omega))]; exact IP
theorem q_dawn_IV {A : pj_Q} (I : pj_IV A) : pj_IV (q_dawn A).2.2 := by
  unfold q_dawn
  split
  · exact q_dawns_IV I
  · exact I
theorem mt_tide {w : pj_W} (I : pj_IV (w 60 0)) (K : pj_IK (w 60 0)) : fM_tide w = pj_aP (q_tide (w 60 0)) w := by
  have hA := I.1
  unfold fM_tide q_tide
  by_cases c1 : w 60 0 6 = 99
  · rw [if_pos c1, if_pos c1]
    show some (-1, pj_set w 26 0 2 4) = some (-1, pj_set (pj_put w (w 60 0)) 26 0 2 4)
    rw [pj_put_self]
  · rw [if_neg c1, if_neg c1]
    by_cases c2 : w 60 0 7 = 0
    · rw [if_pos c2, if_pos c2]
      show some (-1, pj_set w 26 0 2 7) = some (-1, pj_set (pj_put w (w 60 0)) 26 0 2 7)
      rw [pj_put_self]
    · rw [if_neg c2, if_neg c2, mc_floods I K, Option.bind_some, pj_put_at, (q_floods_is I).2.1.2.1]
      rfl
theorem pj_pow_wr {n : Nat} (h : n ≤ 8) : pj_wr ((2 : Int) ^ n - 1) = 2 ^ n - 1 := by
  have h1 : (2 : Int) ^ n ≤ 256 := by
    have := Nat.pow_le_pow_right (n := 2) (by decide) h
    rw [← pj_pow_cast]
    omega
  have h2 : (0 : Int) < 2 ^ n := by
    have := Nat.two_pow_pos n
    rw [← pj_pow_cast]
    omega
  exact pj_wr_id (by omega) (by omega)
theorem mc_dawns {w : pj_W} (I : pj_IV (w 60 0)) : fM_dawns w = some (pj_put w (q_dawns (w 60 0))) := by
  have hA := I.1
  unfold fM_dawns q_dawns
  rw [pj_shl1 (by omega) (by omega), pj_pow_wr (by omega), pj_put_of]
theorem mt_dawn {w : pj_W} (I : pj_IV (w 60 0)) : fM_dawn w = pj_aP (q_dawn (w 60 0)) w := by
  have hA := I.1
  unfold fM_dawn q_dawn
  by_cases c2 : w 60 0 7 = 0
  · rw [if_pos c2, if_pos c2, mc_dawns I, Option.bind_some, pj_put_at]
    rw [show q_dawns (w 60 0) 2 = w 60 0 2 from q_up_ne _ _ (by decide)]
    rfl
  · rw [if_neg c2, if_neg c2]
    show some (-1, pj_set w 26 0 2 7) = some (-1, pj_set (pj_put w (w 60 0)) 26 0 2 7)
    rw [pj_put_self]
