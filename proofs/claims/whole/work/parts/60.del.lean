/-! A PEBBLE GOES, in the class -/
def x_sl (w : pj_W) (i k n : Int) : pj_W := fun k' i' x => if (k' = 45 ∨ k' = 46) ∧ i' = i ∧ k ≤ x ∧ x < n then w k' i' (x + 1) else w k' i' x
theorem x_sl_no {w : pj_W} {i k n : Int} {k' : Nat} {i' x : Int} (h : n ≤ x) : x_sl w i k n k' i' x = w k' i' x := if_neg (by omega)
theorem x_sl_off {w : pj_W} {i k n : Int} {k' : Nat} {i' x : Int} (h : ¬ (k' = 45 ∨ k' = 46)) : x_sl w i k n k' i' x = w k' i' x := if_neg fun y => h y.1
theorem x_sl_self (w : pj_W) (i n : Int) : x_sl w i n n = w := by funext k' i' x; exact if_neg (by omega)
theorem x_sl_st (w : pj_W) (i : Int) {k n : Int} (hk : k ≤ n) : pj_set (pj_set (x_sl w i k n) 46 i n (w 46 i (n + 1))) 45 i n (w 45 i (n + 1)) = x_sl w i k (n + 1) := by
  funext k' i' x
  unfold pj_set x_sl
  by_cases c : k' = 45 ∧ i' = i ∧ x = n
  · rw [if_pos c, if_pos (by omega), c.1, c.2.1, c.2.2]
  · rw [if_neg c]
    by_cases c2 : k' = 46 ∧ i' = i ∧ x = n
    · rw [if_pos c2, if_pos (by omega), c2.1, c2.2.1, c2.2.2]
    · rw [if_neg c2]
      by_cases c3 : (k' = 45 ∨ k' = 46) ∧ i' = i ∧ k ≤ x ∧ x < n
      · rw [if_pos c3, if_pos (by omega)]
      · rw [if_neg c3, if_neg (by omega)]
def x_del (w : pj_W) (i k : Int) : pj_W := x_sl (pj_set w 23 i 6 (w 23 i 6 - 1)) i k (w 23 i 6 - 1)
theorem xc_removeAt {i : Int} {k : Nat} {w : pj_W} (hk : (k : Int) < w 23 i 6) (hn2 : w 23 i 6 ≤ 60) : fN_removeAt i k w = some (x_del w i k) := by
  have em : ∀ n : Int, x_sl (pj_set w 23 i 6 (w 23 i 6 - 1)) i k n 23 i 6 = w 23 i 6 - 1 := fun n => by
    rw [x_sl_off (by omega), pj_set_at]
  have hlp : ∀ m n : Nat, (k : Int) ≤ n → (n : Int) + m = w 23 i 6 - 1 → fN_removeAt_21 i ((n : Int), x_sl (pj_set w 23 i 6 (w 23 i 6 - 1)) i k n) = some (x_del w i k) := by
    intro m
    induction m with
    | zero =>
      intro n hn hm
      refine pj_Lp_end ?_
      unfold fN_removeAt_21b
      dsimp only
      rw [if_pos (by rw [em]; omega)]
      unfold x_del
      rw [show w 23 i 6 - 1 = (n : Int) by omega]
    | succ m ih =>
      intro n hn hm
      have hk1 : ((n + 1 : Nat) : Int) = n + 1 := by omega
      have h1 : ∀ k' : Nat, x_sl (pj_set w 23 i 6 (w 23 i 6 - 1)) i k n k' i ((n : Int) + 1) = pj_set w 23 i 6 (w 23 i 6 - 1) k' i ((n : Int) + 1) := fun k' => x_sl_no (by omega)
      have h2 : ∀ v, pj_set (x_sl (pj_set w 23 i 6 (w 23 i 6 - 1)) i k n) 46 i (n : Int) v 45 i ((n : Int) + 1) = pj_set w 23 i 6 (w 23 i 6 - 1) 45 i ((n : Int) + 1) := fun v => by
        rw [← h1]
        exact if_neg (by omega)
      rw [← ih (n + 1) (by omega) (by omega)]
      refine pj_Lp_st ?_
      unfold fN_removeAt_21b
      dsimp only
      rw [if_neg (by rw [em]; omega), pj_wr_id (x := (n : Int) + 1) (by omega) (by omega), if_pos (by omega), if_pos (by omega), h2, h1, Option.bind_some, hk1, x_sl_st _ _ hn]
  unfold fN_removeAt fN_has
  rw [if_neg (by omega), if_neg (by omega), Option.bind_some, if_neg (by omega), pj_wr_id (x := w 23 i 6 - 1) (by omega) (by omega)]
  have := hlp (w 23 i 6 - 1 - k).toNat k (by omega) (by omega)
  rw [x_sl_self] at this
  exact this
/-! THE RELATION, OVER A CHANGE OF ONE FIND'S PEBBLES -/
/-- one find's pebbles change: the rest stays -/
theorem pj_RB.find {b : Int} {w w' : pj_W} {A A' : pj_Q} (R : pj_RB b w A) {d : Int} (hd : pj_isD A d) (hA : A 2 ≤ 8) (hA1 : A 1 ≤ 6)
    (c : ∀ x, x ≠ 8 → x ≠ 40 + 3 * d + 2 → x < 64 + 120 * d ∨ 64 + 120 * d + 120 ≤ x → A' x = A x)
    (hm : 0 ≤ pj_many A' d ∧ pj_many A' d ≤ 60) (hK : ∀ e, pj_isD A e → 0 ≤ pj_many A e ∧ pj_many A e ≤ 60)
    (h : ∀ k i s, k = 19 ∨ k = 22 ∨ k = 23 ∨ k = 45 ∨ k = 46 → ¬ (k = 23 ∧ i = 8 * b + d ∧ s = 6) → ¬ ((k = 45 ∨ k = 46) ∧ i = 8 * b + d) → w' k i s = w k i s)
    (h6 : w' 23 (8 * b + d) 6 = pj_many A' d)
    (hp : ∀ k : Int, 0 ≤ k → k < pj_many A' d → w' 45 (8 * b + d) k = pj_who A' d k ∧ w' 46 (8 * b + d) k = pj_min A' d k) : pj_RB b w' A' := by
  have d0 := hd.1
  have d1 := hd.2
  obtain ⟨R0, RF, RD, RK⟩ := R
  refine ⟨?_, ?_, ?_, ?_⟩
  · rw [c 0 (by omega) (by omega) (by omega), c 1 (by omega) (by omega) (by omega), c 2 (by omega) (by omega) (by omega), c 3 (by omega) (by omega) (by omega), c 4 (by omega) (by omega) (by omega), c 5 (by omega) (by omega) (by omega), c 6 (by omega) (by omega) (by omega)]
    rw [h 19 b 2 (by omega) (by omega) (by omega), h 19 b 3 (by omega) (by omega) (by omega), h 19 b 4 (by omega) (by omega) (by omega), h 19 b 5 (by omega) (by omega) (by omega), h 19 b 6 (by omega) (by omega) (by omega), h 19 b 7 (by omega) (by omega) (by omega), h 19 b 8 (by omega) (by omega) (by omega)]
    exact R0
  · intro g hg
    have hg' : pj_isF A g := by rw [pj_isF, c 1 (by omega) (by omega) (by omega)] at hg; exact hg
    have g0 := hg'.1
    have g1 := hg'.2
    rw [h 22 _ 1 (by omega) (by omega) (by omega), h 22 _ 2 (by omega) (by omega) (by omega), h 22 _ 3 (by omega) (by omega) (by omega), h 22 _ 4 (by omega) (by omega) (by omega), h 22 _ 5 (by omega) (by omega) (by omega), c (10 + 5 * g) (by omega) (by omega) (by omega), c (10 + 5 * g + 1) (by omega) (by omega) (by omega), c (10 + 5 * g + 2) (by omega) (by omega) (by omega), c (10 + 5 * g + 3) (by omega) (by omega) (by omega), c (10 + 5 * g + 4) (by omega) (by omega) (by omega)]
    exact RF g hg'
  · intro e he
    have he' : pj_isD A e := by rw [pj_isD, c 2 (by omega) (by omega) (by omega)] at he; exact he
    have e0 := he'.1
    have e1 := he'.2
    have hr := RD e he'
    unfold pj_there
    rw [h 23 _ 3 (by omega) (by omega) (by omega), h 23 _ 4 (by omega) (by omega) (by omega), h 23 _ 5 (by omega) (by omega) (by omega), c 7 (by omega) (by omega) (by omega), c (40 + 3 * e) (by omega) (by omega) (by omega), c (40 + 3 * e + 1) (by omega) (by omega) (by omega)]
    refine ⟨hr.1, hr.2.1, hr.2.2.1, ?_⟩
    by_cases q : e = d
    · subst q; exact h6
    · rw [h 23 _ 6 (by omega) (by omega) (by omega), show pj_many A' e = pj_many A e from c _ (by omega) (by omega) (by omega)]
      exact hr.2.2.2
  · intro e k he hk hk2
    have he' : pj_isD A e := by rw [pj_isD, c 2 (by omega) (by omega) (by omega)] at he; exact he
    have e0 := he'.1
    have e1 := he'.2
    by_cases q : e = d
    · subst q; exact hp k hk hk2
    · have hq := hK e he'
      rw [show pj_many A' e = pj_many A e from c _ (by omega) (by omega) (by omega)] at hk2
      rw [h 45 _ k (by omega) (by omega) (by omega), h 46 _ k (by omega) (by omega) (by omega), show pj_who A' e k = pj_who A e k from c _ (by omega) (by omega) (by omega), show pj_min A' e k = pj_min A e k from c _ (by omega) (by omega) (by omega)]
      exact RK e k he' hk hk2

theorem q_put_out {A : pj_Q} {d who m p x : Int} (hp : 0 ≤ p) (hpn : p ≤ pj_many A d) (hn : pj_many A d ≤ 59) (h8 : x ≠ 8) (hm : x ≠ 40 + 3 * d + 2) (h : x < 64 + 120 * d ∨ 64 + 120 * d + 120 ≤ x) : q_put A 0 d who m p x = A x := by
  unfold pj_many at hpn hn
  unfold q_put
  simp only [Int.zero_add]
  rw [q_up_ne _ _ h8, q_up_ne _ _ hm, q_up_ne _ _ (by omega), q_up_ne _ _ (by omega), q_sh_no (by omega)]
theorem q_put_many {A : pj_Q} {d who m p : Int} (hd : 0 ≤ d) : pj_many (q_put A 0 d who m p) d = pj_many A d + 1 := by
  unfold pj_many q_put
  simp only [Int.zero_add]
  rw [q_up_ne _ _ (by omega), q_up_at]
theorem q_put_lie {A : pj_Q} {d who m p : Int} : q_put A 0 d who m p 8 = A 8 + 1 := by
  unfold q_put
  simp only [Int.zero_add]
  rw [q_up_at]
/-- the pebbles behind: which one stands where -/
theorem q_put_peb {A : pj_Q} {d who m p k : Int} (hd : 0 ≤ d) (hd2 : d < 8) (hp : 0 ≤ p) (hpn : p ≤ pj_many A d) (hn : pj_many A d ≤ 59) (hk : 0 ≤ k) (hk2 : k ≤ pj_many A d) :
    pj_who (q_put A 0 d who m p) d k = (if k < p then pj_who A d k else if k = p then who else pj_who A d (k - 1)) ∧ pj_min (q_put A 0 d who m p) d k = (if k < p then pj_min A d k else if k = p then m else pj_min A d (k - 1)) := by
  unfold pj_many at hpn hn hk2
  unfold pj_who pj_min q_put
  simp only [Int.zero_add]
  refine ⟨?_, ?_⟩
  · rw [q_up_ne _ _ (by omega), q_up_ne _ _ (by omega), q_up_ne _ _ (by omega)]
    by_cases c1 : k < p
    · rw [if_pos c1, q_up_ne _ _ (by omega), q_sh_no (by omega)]
    · rw [if_neg c1]
      by_cases c2 : k = p
      · subst c2; rw [if_pos rfl, q_up_at]
      · rw [if_neg c2, q_up_ne _ _ (by omega), q_sh, if_pos (by omega)]; congr 1; omega
  · rw [q_up_ne _ _ (by omega), q_up_ne _ _ (by omega)]
    by_cases c1 : k < p
    · rw [if_pos c1, q_up_ne _ _ (by omega), q_up_ne _ _ (by omega), q_sh_no (by omega)]
    · rw [if_neg c1]
      by_cases c2 : k = p
      · subst c2; rw [if_pos rfl, q_up_at]
      · rw [if_neg c2, q_up_ne _ _ (by omega), q_up_ne _ _ (by omega), q_sh, if_pos (by omega)]; congr 1; omega
theorem x_put_peb {w : pj_W} {i who m p k : Int} (hp : 0 ≤ p) (hk2 : k ≤ w 23 i 6) :
    x_put w i who m p 45 i k = (if k < p then w 45 i k else if k = p then who else w 45 i (k - 1)) ∧ x_put w i who m p 46 i k = (if k < p then w 46 i k else if k = p then m else w 46 i (k - 1)) := by
  unfold x_put pj_set x_sh
  refine ⟨?_, ?_⟩
  · rw [if_neg (by omega)]
    by_cases c2 : k = p
    · subst c2; rw [if_pos (by omega), if_neg (by omega), if_pos rfl]
    · rw [if_neg (by omega), if_neg (by omega)]
      by_cases c1 : k < p
      · rw [if_pos c1, if_neg (by omega)]
      · rw [if_neg c1, if_neg c2, if_pos (by omega)]
  · rw [if_neg (by omega), if_neg (by omega)]
    by_cases c2 : k = p
    · subst c2; rw [if_pos (by omega), if_neg (by omega), if_pos rfl]
    · rw [if_neg (by omega)]
      by_cases c1 : k < p
      · rw [if_pos c1, if_neg (by omega)]
      · rw [if_neg c1, if_neg c2, if_pos (by omega)]
