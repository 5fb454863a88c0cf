/-! WHAT CHANGES THE STATE -/
/-- the model's numbers become others -/
def pj_put (w : pj_W) (B : pj_Q) : pj_W := fun k i s => if k = 60 ∧ i = 0 then B s else w k i s
def q_up (A : pj_Q) (s v : Int) : pj_Q := fun x => if x = s then v else A x
theorem pj_put_self (w : pj_W) : pj_put w (w 60 0) = w := by
  funext k i s
  unfold pj_put
  by_cases h : k = 60 ∧ i = 0
  · rw [if_pos h, h.1, h.2]
  · rw [if_neg h]
theorem pj_put_set (w : pj_W) (B : pj_Q) (s v : Int) : pj_set (pj_put w B) 60 0 s v = pj_put w (q_up B s v) := by
  funext k i x
  unfold pj_set pj_put q_up
  by_cases h : k = 60 ∧ i = 0
  · by_cases h2 : x = s
    · rw [if_pos ⟨h.1, h.2, h2⟩, if_pos h, if_pos h2]
    · rw [if_neg (fun y => h2 y.2.2), if_pos h, if_pos h, if_neg h2]
  · rw [if_neg (fun y => h ⟨y.1, y.2.1⟩), if_neg h, if_neg h]
theorem pj_put_of (w : pj_W) (s v : Int) : pj_set w 60 0 s v = pj_put w (q_up (w 60 0) s v) := by
  rw [← pj_put_set, pj_put_self]
theorem pj_put_at (w : pj_W) (B : pj_Q) : (pj_put w B) 60 0 = B := by
  funext s
  unfold pj_put
  rw [if_pos ⟨rfl, rfl⟩]
theorem pj_put_put (w : pj_W) (B C : pj_Q) : pj_put (pj_put w B) C = pj_put w C := by
  funext k i s
  unfold pj_put
  by_cases h : k = 60 ∧ i = 0
  · rw [if_pos h, if_pos h]
  · rw [if_neg h, if_neg h, if_neg h]
theorem q_up_at (A : pj_Q) (s v : Int) : q_up A s v s = v := if_pos rfl
theorem q_up_ne (A : pj_Q) {s x : Int} (v : Int) (h : x ≠ s) : q_up A s v x = A x := if_neg h
theorem pj_sum_up {g g' : Nat → Int} {n j : Nat} {c : Int} (hj : j < n) (h : ∀ i, i < n → i ≠ j → g' i = g i) (hc : g' j = g j + c) : pj_sum g' n = pj_sum g n + c := by
  induction n with
  | zero => omega
  | succ n ih =>
    show pj_sum g' n + g' n = pj_sum g n + g n + c
    by_cases e : j = n
    · subst e
      rw [pj_sum_ex (g := g') (g' := g) (fun i hi => h i (by omega) (by omega)), hc]; omega
    · rw [ih (by omega) (fun i hi => h i (by omega)), h n (by omega) (by omega)]; omega
/-- a finder's numbers change -/
theorem pj_IV.fin {A A' : pj_Q} (I : pj_IV A) {f : Int} (hf : pj_isF A f) (ha : ∀ x, x < 10 + 5 * f ∨ 10 + 5 * f + 5 ≤ x → A' x = A x)
    (h0 : 0 ≤ A' (10 + 5 * f) ∧ A' (10 + 5 * f) < A 0) (h1 : A' (10 + 5 * f + 1) = A (10 + 5 * f + 1))
    (h2 : 0 ≤ A' (10 + 5 * f + 2) ∧ pj_sum (fun g => A (10 + 5 * g + 2)) (A 1).toNat + A 8 + (A' (10 + 5 * f + 2) - A (10 + 5 * f + 2)) ≤ 150)
    (h3 : 0 ≤ A' (10 + 5 * f + 3) ∧ A' (10 + 5 * f + 3) ≤ A 3) : pj_IV A' := by
  have hA := I.1
  have c : ∀ x, x < 10 → A' x = A x := fun x hx => ha x (by have := hf.1; omega)
  have e : ∀ x, 40 ≤ x → A' x = A x := fun x hx => ha x (by have := hf.2; omega)
  obtain ⟨I0, I7, IF, ID, IK, IS, I8, IP⟩ := I
  have hm : ∀ d : Int, 0 ≤ d → pj_many A' d = pj_many A d := fun d hd => e _ (by omega)
  have hw : ∀ d k : Int, 0 ≤ d → 0 ≤ k → pj_who A' d k = pj_who A d k := fun d k hd hk => e _ (by omega)
  have hn : ∀ d k : Int, 0 ≤ d → 0 ≤ k → pj_min A' d k = pj_min A d k := fun d k hd hk => e _ (by omega)
  refine ⟨?_, ?_, ?_, ?_, ?_, ?_, ?_, ?_⟩
  · rw [c 0 (by omega), c 1 (by omega), c 2 (by omega), c 3 (by omega), c 4 (by omega), c 5 (by omega), c 6 (by omega)]; exact I0
  · rw [c 7 (by omega), c 2 (by omega)]
    exact I7.imp id fun h => ⟨h.1, fun d hd hd2 => by rw [hm d hd]; exact h.2 d hd hd2⟩
  · intro g hg hg2
    rw [c 1 (by omega)] at hg2
    rw [c 0 (by omega), c 3 (by omega)]
    by_cases eg : g = f
    · subst eg
      have := IF g hg hg2
      exact ⟨h0.1, h0.2, by omega, by omega, h2.1, h3.1, h3.2⟩
    · have := IF g hg hg2
      rw [ha (10 + 5 * g) (by omega), ha (10 + 5 * g + 1) (by omega), ha (10 + 5 * g + 2) (by omega), ha (10 + 5 * g + 3) (by omega)]
      exact this
  · intro d hd hd2
    rw [c 2 (by omega)] at hd2
    rw [hm d hd, c 0 (by omega), e (40 + 3 * d) (by omega), e (40 + 3 * d + 1) (by omega)]
    exact ID d hd hd2
  · intro d k hd hd2 hk hk2
    rw [c 2 (by omega)] at hd2
    rw [hm d hd] at hk2
    rw [hw d k hd hk, hn d k hd hk, c 1 (by omega), c 3 (by omega)]
    exact IK d k hd hd2 hk hk2
  · intro d k l hd hd2 hk hk2 hl
    rw [c 2 (by omega)] at hd2
    rw [hm d hd] at hl
    rw [hn d k hd hk, hn d l hd (by omega)]
    exact IS d k l hd hd2 hk hk2 hl
  · rw [c 8 (by omega), c 2 (by omega), pj_sum_ex (g := fun d : Nat => pj_many A' d) (g' := fun d : Nat => pj_many A d) (fun i hi => hm i (by omega))]; exact I8
  · rw [c 8 (by omega), c 1 (by omega), pj_sum_up (g := fun g : Nat => A (10 + 5 * g + 2)) (g' := fun g : Nat => A' (10 + 5 * g + 2)) (n := (A 1).toNat) (j := f.toNat) (c := A' (10 + 5 * f + 2) - A (10 + 5 * f + 2)) (by have := hf.2; have := hf.1; omega) (fun i hi hne => ha _ (by have := hf.1; omega)) (by rw [Int.toNat_of_nonneg hf.1]; omega)]
    omega
/-- another world in which all else of the class stands as it was: only of beach b cells may differ -/
def pj_in (b : Int) (k : Nat) (i : Int) : Prop := (k = 19 ∧ i = b) ∨ (k = 22 ∧ 6 * b ≤ i ∧ i < 6 * b + 6) ∨ ((k = 23 ∨ k = 45 ∨ k = 46) ∧ 8 * b ≤ i ∧ i < 8 * b + 8)
def pj_fr (b : Int) (w w' : pj_W) : Prop := ∀ k i s, ¬ pj_in b k i → w' k i s = w k i s
theorem pj_fr.refl (b : Int) (w : pj_W) : pj_fr b w w := fun _ _ _ _ => rfl
theorem pj_fr.trans {b : Int} {u v w : pj_W} (h : pj_fr b u v) (h' : pj_fr b v w) : pj_fr b u w := fun k i s hn => (h' k i s hn).trans (h k i s hn)
theorem pj_fr.set {b : Int} {u w : pj_W} (h : pj_fr b u w) {k : Nat} {i : Int} (s v : Int) (hk : pj_in b k i) : pj_fr b u (pj_set w k i s v) := fun k' i' s' hn => by
  unfold pj_set
  rw [if_neg (fun y => hn (by rw [y.1, y.2.1]; exact hk))]
  exact h k' i' s' hn
/-- the finder's numbers change in the class too -/
theorem pj_RB.fin {b : Int} {w w' : pj_W} {A A' : pj_Q} (R : pj_RB b w A) {f : Int} (hf : pj_isF A f) (hA : A 1 ≤ 6) (ha : ∀ x, x < 10 + 5 * f ∨ 10 + 5 * f + 5 ≤ x → A' x = A x)
    (h : ∀ k i s, k = 19 ∨ k = 22 ∨ k = 23 ∨ k = 45 ∨ k = 46 → ¬ (k = 22 ∧ i = 6 * b + f) → ¬ (k = 19 ∧ s = 9) → w' k i s = w k i s)
    (h1 : w' 22 (6 * b + f) 1 = A' (10 + 5 * f) ∧ w' 22 (6 * b + f) 2 = A' (10 + 5 * f + 1) ∧ w' 22 (6 * b + f) 3 = A' (10 + 5 * f + 2) ∧ w' 22 (6 * b + f) 4 = A' (10 + 5 * f + 3) ∧ w' 22 (6 * b + f) 5 = A' (10 + 5 * f + 4)) : pj_RB b w' A' := by
  have c : ∀ x, x < 10 → A' x = A x := fun x hx => ha x (by have := hf.1; omega)
  have e : ∀ x, 40 ≤ x → A' x = A x := fun x hx => ha x (by have := hf.2; omega)
  obtain ⟨R0, RF, RD, RK⟩ := R
  have hm : ∀ d : Int, 0 ≤ d → pj_many A' d = pj_many A d := fun d hd => e _ (by omega)
  refine ⟨?_, ?_, ?_, ?_⟩
  · rw [c 0 (by omega), c 1 (by omega), c 2 (by omega), c 3 (by omega), c 4 (by omega), c 5 (by omega), c 6 (by omega)]
    rw [h 19 b 2 (by omega) (by omega) (by omega), h 19 b 3 (by omega) (by omega) (by omega), h 19 b 4 (by omega) (by omega) (by omega), h 19 b 5 (by omega) (by omega) (by omega), h 19 b 6 (by omega) (by omega) (by omega), h 19 b 7 (by omega) (by omega) (by omega), h 19 b 8 (by omega) (by omega) (by omega)]
    exact R0
  · intro g hg
    have hg' : pj_isF A g := by rw [pj_isF, c 1 (by omega)] at hg; exact hg
    by_cases eg : g = f
    · subst eg; exact h1
    · rw [h 22 _ 1 (by omega) (by omega) (by omega), h 22 _ 2 (by omega) (by omega) (by omega), h 22 _ 3 (by omega) (by omega) (by omega), h 22 _ 4 (by omega) (by omega) (by omega), h 22 _ 5 (by omega) (by omega) (by omega), ha (10 + 5 * g) (by omega), ha (10 + 5 * g + 1) (by omega), ha (10 + 5 * g + 2) (by omega), ha (10 + 5 * g + 3) (by omega), ha (10 + 5 * g + 4) (by omega)]
      exact RF g hg'
  · intro d hd
    have hd' : pj_isD A d := by rw [pj_isD, c 2 (by omega)] at hd; exact hd
    rw [h 23 _ 3 (by omega) (by omega) (by omega), h 23 _ 4 (by omega) (by omega) (by omega), h 23 _ 5 (by omega) (by omega) (by omega), h 23 _ 6 (by omega) (by omega) (by omega), hm d hd.1, e (40 + 3 * d) (by have := hd.1; omega), e (40 + 3 * d + 1) (by have := hd.1; omega)]
    have := RD d hd'
    unfold pj_there
    rw [c 7 (by omega)]
    exact this
  · intro d k hd hk hk2
    have hd' : pj_isD A d := by rw [pj_isD, c 2 (by omega)] at hd; exact hd
    rw [hm d hd.1] at hk2
    rw [h 45 _ k (by omega) (by omega) (by omega), h 46 _ k (by omega) (by omega) (by omega), show pj_who A' d k = pj_who A d k from e _ (by have := hd.1; omega), show pj_min A' d k = pj_min A d k from e _ (by have := hd.1; omega)]
    exact RK d k hd' hk hk2
