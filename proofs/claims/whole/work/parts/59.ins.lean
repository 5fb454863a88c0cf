/-! A PEBBLE COMES, in the class -/
def x_sh (w : pj_W) (i k n : Int) : pj_W := fun k' i' x => if (k' = 45 ∨ k' = 46) ∧ i' = i ∧ k < x ∧ x ≤ n then w k' i' (x - 1) else w k' i' x
theorem x_sh_no {w : pj_W} {i k n : Int} {k' : Nat} {i' x : Int} (h : x ≤ k) : x_sh w i k n k' i' x = w k' i' x := if_neg (by omega)
theorem x_sh_off {w : pj_W} {i k n : Int} {k' : Nat} {i' x : Int} (h : ¬ (k' = 45 ∨ k' = 46)) : x_sh w i k n k' i' x = w k' i' x := if_neg fun y => h y.1
theorem x_sh_self (w : pj_W) (i n : Int) : x_sh w i n n = w := by funext k' i' x; exact if_neg (by omega)
theorem x_sh_st (w : pj_W) (i : Int) {k n : Int} (hk : k < n) : pj_set (pj_set (x_sh w i (k + 1) n) 46 i (k + 1) (w 46 i k)) 45 i (k + 1) (w 45 i k) = x_sh w i k n := by
  funext k' i' x
  unfold pj_set x_sh
  by_cases c : k' = 45 ∧ i' = i ∧ x = k + 1
  · rw [if_pos c, if_pos (by omega), c.1, c.2.1, c.2.2]; congr 1; omega
  · rw [if_neg c]
    by_cases c2 : k' = 46 ∧ i' = i ∧ x = k + 1
    · rw [if_pos c2, if_pos (by omega), c2.1, c2.2.1, c2.2.2]; congr 1; omega
    · rw [if_neg c2]
      by_cases c3 : (k' = 45 ∨ k' = 46) ∧ i' = i ∧ k < x ∧ x ≤ n
      · rw [if_pos c3, if_pos (by omega)]
      · rw [if_neg c3, if_neg (by omega)]
def x_put (w : pj_W) (i who m p : Int) : pj_W := pj_set (pj_set (pj_set (x_sh w i p (w 23 i 6)) 46 i p m) 45 i p who) 23 i 6 (w 23 i 6 + 1)
theorem xc_insert {i who m : Int} {w : pj_W} (hn : 0 ≤ w 23 i 6) (hn2 : w 23 i 6 < 60) : fN_insert i who m w = some (x_put w i who m (pj_pos (fun k => w 46 i k) m (w 23 i 6).toNat)) := by
  have hend : ∀ k : Nat, (k : Int) ≤ w 23 i 6 → fN_insert_65 i who m k (x_sh w i k (w 23 i 6)) = some (x_put w i who m k) := by
    intro k hk
    unfold fN_insert_65 x_put
    have e : pj_set (pj_set (x_sh w i k (w 23 i 6)) 46 i k m) 45 i k who 23 i 6 = w 23 i 6 := by
      unfold pj_set
      rw [if_neg (by omega), if_neg (by omega), x_sh_off (by omega)]
    rw [if_pos (by omega), e, pj_wr_id (by omega) (by omega)]
  have hlp : ∀ k : Nat, (k : Int) ≤ w 23 i 6 → fN_insert_15 i who m ((k : Int), x_sh w i k (w 23 i 6)) = some (x_put w i who m (pj_pos (fun k => w 46 i k) m k)) := by
    intro k
    induction k with
    | zero =>
      intro hk
      refine pj_Lp_end ?_
      unfold fN_insert_15b
      dsimp only
      rw [if_pos (by omega), hend 0 hk]; rfl
    | succ k ih =>
      intro hk
      have hk1 : ((k + 1 : Nat) : Int) = k + 1 := by omega
      have h1 : ∀ k' : Nat, x_sh w i ((k + 1 : Nat) : Int) (w 23 i 6) k' i k = w k' i k := fun k' => x_sh_no (by omega)
      have h2 : ∀ v, pj_set (x_sh w i ((k + 1 : Nat) : Int) (w 23 i 6)) 46 i ((k + 1 : Nat) : Int) v 45 i k = w 45 i k := fun v => by
        unfold pj_set
        rw [if_neg (by omega), h1]
      unfold pj_pos
      by_cases c : w 46 i k ≤ m
      · rw [if_pos c]
        refine pj_Lp_end ?_
        unfold fN_insert_15b
        dsimp only
        rw [if_neg (by omega), pj_wr_id (x := ((k + 1 : Nat) : Int) - 1) (by omega) (by omega), show ((k + 1 : Nat) : Int) - 1 = k by omega, if_pos (by omega), if_pos (by rw [h1]; exact c), hend (k + 1) hk]; rfl
      · rw [if_neg c, ← ih (by omega)]
        refine pj_Lp_st ?_
        unfold fN_insert_15b
        dsimp only
        rw [if_neg (by omega), pj_wr_id (x := ((k + 1 : Nat) : Int) - 1) (by omega) (by omega), show ((k + 1 : Nat) : Int) - 1 = k by omega, if_pos (by omega), if_neg (by rw [h1]; exact c), if_pos (by omega), h2, h1, Option.bind_some, pj_wr_id (by omega) (by omega), hk1, x_sh_st _ _ (by omega), show (k : Int) + 1 + -1 = k by omega]
  unfold fN_insert
  rw [if_pos hn2]
  have := hlp (w 23 i 6).toNat (by omega)
  rw [Int.toNat_of_nonneg hn, x_sh_self] at this
  exact this
/-! A PEBBLE GOES -/
def q_sl (A : pj_Q) (r : Int) (k n : Int) : pj_Q := fun x => if r + 2 * k ≤ x ∧ x < r + 2 * n then A (x + 2) else A x
theorem q_sl_no {A : pj_Q} {r k n x : Int} (h : x < r + 2 * k ∨ r + 2 * n ≤ x) : q_sl A r k n x = A x := if_neg (by omega)
theorem q_sl_self (A : pj_Q) (r n : Int) : q_sl A r n n = A := by funext x; exact if_neg (by omega)
theorem q_sl_st (A : pj_Q) (r : Int) {k n : Int} (hk : k ≤ n) : q_up (q_up (q_sl A r k n) (r + 2 * n) (A (r + 2 * (n + 1)))) (r + 2 * n + 1) (A (r + 2 * (n + 1) + 1)) = q_sl A r k (n + 1) := by
  funext x
  unfold q_up q_sl
  by_cases c : x = r + 2 * n + 1
  · subst c; rw [if_pos rfl, if_pos (by omega)]; congr 1; omega
  · rw [if_neg c]
    by_cases c2 : x = r + 2 * n
    · subst c2; rw [if_pos rfl, if_pos (by omega)]; congr 1; omega
    · rw [if_neg c2]
      by_cases c3 : r + 2 * k ≤ x ∧ x < r + 2 * n
      · rw [if_pos c3, if_pos (by omega)]
      · rw [if_neg c3, if_neg (by omega)]
def q_less (A : pj_Q) (d : Int) : pj_Q := q_up (q_up A (40 + 3 * d + 2) (A (40 + 3 * d + 2) - 1)) 8 (A 8 - 1)
def q_del (A : pj_Q) (d k : Int) : pj_Q := q_sl (q_less A d) (64 + 120 * d) k (A (40 + 3 * d + 2) - 1)
theorem mc_goes {d : Int} {k : Nat} {w : pj_W} (hd : 0 ≤ d) (hd2 : d < 8) (hk : (k : Int) < w 60 0 (40 + 3 * d + 2)) (hn2 : w 60 0 (40 + 3 * d + 2) ≤ 60) (hl : -1000 ≤ w 60 0 8) (hl2 : w 60 0 8 ≤ 1000) :
    fM_goes d k w = some (pj_put w (q_del (w 60 0) d k)) := by
  have em : ∀ n : Int, k ≤ n → n < 60 → q_sl (q_less (w 60 0) d) (64 + 120 * d) k n (40 + 3 * d + 2) = w 60 0 (40 + 3 * d + 2) - 1 := fun n _ _ => by
    rw [q_sl_no (by omega), q_less, q_up_ne _ _ (by omega), q_up_at]
  have hlp : ∀ m n : Nat, (k : Int) ≤ n → (n : Int) + m = w 60 0 (40 + 3 * d + 2) - 1 → fM_goes_32 d (40 + 3 * d) ((n : Int), pj_put w (q_sl (q_less (w 60 0) d) (64 + 120 * d) k n)) = some (pj_put w (q_del (w 60 0) d k)) := by
    intro m
    induction m with
    | zero =>
      intro n hn hm
      refine pj_Lp_end ?_
      unfold fM_goes_32b
      dsimp only
      rw [pj_wr_id (x := 40 + 3 * d + 2) (by omega) (by omega), if_pos (by omega), if_pos (by rw [pj_put_at, em _ hn (by omega)]; omega)]
      unfold q_del
      rw [show w 60 0 (40 + 3 * d + 2) - 1 = (n : Int) by omega]
    | succ m ih =>
      intro n hn hm
      have hk1 : ((n + 1 : Nat) : Int) = n + 1 := by omega
      have h1 : pj_put w (q_sl (q_less (w 60 0) d) (64 + 120 * d) k n) 60 0 (64 + 120 * d + 2 * ((n : Int) + 1)) = q_less (w 60 0) d (64 + 120 * d + 2 * ((n : Int) + 1)) := by rw [pj_put_at, q_sl_no (by omega)]
      have h2 : ∀ v, pj_put w (q_up (q_sl (q_less (w 60 0) d) (64 + 120 * d) k n) (64 + 120 * d + 2 * (n : Int)) v) 60 0 (64 + 120 * d + 2 * ((n : Int) + 1) + 1) = q_less (w 60 0) d (64 + 120 * d + 2 * ((n : Int) + 1) + 1) := fun v => by rw [pj_put_at, q_up_ne _ _ (by omega), q_sl_no (by omega)]
      rw [← ih (n + 1) (by omega) (by omega)]
      refine pj_Lp_st ?_
      unfold fM_goes_32b
      dsimp only
      rw [pj_wr_id (x := 40 + 3 * d + 2) (by omega) (by omega), if_pos (by omega), if_neg (by rw [pj_put_at, em _ hn (by omega)]; omega), pj_wr_id (x := (n : Int) + 1) (by omega) (by omega), mq_pebbleRow (by omega) (by omega) (by omega) (by omega) (by omega) (by omega), Option.bind_some, mq_pebbleRow (by omega) (by omega) (by omega) (by omega) (by omega) (by omega), Option.bind_some, Int.zero_add, if_pos (by omega), if_pos (by omega), mq_pebbleRow (by omega) (by omega) (by omega) (by omega) (by omega) (by omega), Option.bind_some, mq_pebbleRow (by omega) (by omega) (by omega) (by omega) (by omega) (by omega), Option.bind_some, Int.zero_add, pj_wr_id (x := 64 + 120 * d + 2 * ((n : Int) + 1) + 1) (by omega) (by omega), if_pos (by omega), pj_wr_id (x := 64 + 120 * d + 2 * (n : Int) + 1) (by omega) (by omega), if_pos (by omega), Option.bind_some, pj_put_set, pj_put_set, h1, h2, hk1, q_sl_st _ _ hn]
  unfold fM_goes
  rw [mq_findRow (by omega) (by omega) (by omega) (by omega), Option.bind_some, Int.zero_add, pj_wr_id (x := 40 + 3 * d + 2) (by omega) (by omega), if_pos (by omega), Option.bind_some, pj_wr_id (x := w 60 0 (40 + 3 * d + 2) - 1) (by omega) (by omega), pj_put_of w (40 + 3 * d + 2), pj_put_set, pj_put_at, q_up_ne _ _ (by omega), pj_wr_id (by omega) (by omega)]
  have := hlp (w 60 0 (40 + 3 * d + 2) - 1 - k).toNat k (by omega) (by omega)
  rw [q_sl_self] at this
  exact this
