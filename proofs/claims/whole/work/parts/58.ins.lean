/-! A PEBBLE COMES -/
def pj_pos (t : Int → Int) (m : Int) : Nat → Nat
  | 0 => 0
  | k + 1 => if t k ≤ m then k + 1 else pj_pos t m k
theorem pj_pos_le (t : Int → Int) (m : Int) (n : Nat) : pj_pos t m n ≤ n := by
  induction n with
  | zero => exact Nat.le_refl _
  | succ n ih => unfold pj_pos; split <;> omega
theorem pj_pos_ex {t u : Int → Int} (m : Int) {n : Nat} (h : ∀ k : Nat, k < n → t k = u k) : pj_pos t m n = pj_pos u m n := by
  induction n with
  | zero => rfl
  | succ n ih => unfold pj_pos; rw [h n (by omega), ih (fun k hk => h k (by omega))]
theorem pj_pos_gt {t : Int → Int} {m : Int} {n k : Nat} (h : pj_pos t m n ≤ k) (hk : k < n) : m < t k := by
  induction n with
  | zero => omega
  | succ n ih =>
    unfold pj_pos at h
    by_cases c : t n ≤ m
    · rw [if_pos c] at h; omega
    · rw [if_neg c] at h
      by_cases e : k = n
      · subst e; omega
      · exact ih h (by omega)
theorem pj_pos_last {t : Int → Int} {m : Int} {n p : Nat} (h : pj_pos t m n = p + 1) : t p ≤ m := by
  induction n with
  | zero => cases h
  | succ n ih =>
    unfold pj_pos at h
    by_cases c : t n ≤ m
    · rw [if_pos c] at h
      have : p = n := by omega
      subst this; exact c
    · rw [if_neg c] at h; exact ih h
/-- the pebbles of a row behind the k-th to the n-th, each one place on -/
def q_sh (A : pj_Q) (r : Int) (k n : Int) : pj_Q := fun x => if r + 2 * k + 2 ≤ x ∧ x < r + 2 * n + 2 then A (x - 2) else A x
theorem q_sh_no {A : pj_Q} {r k n x : Int} (h : x < r + 2 * k + 2 ∨ r + 2 * n + 2 ≤ x) : q_sh A r k n x = A x := if_neg (by omega)
theorem q_sh_self (A : pj_Q) (r n : Int) : q_sh A r n n = A := by funext x; exact if_neg (by omega)
theorem q_sh_st (A : pj_Q) (r : Int) {k n : Int} (hk : k < n) : q_up (q_up (q_sh A r (k + 1) n) (r + 2 * (k + 1)) (A (r + 2 * k))) (r + 2 * (k + 1) + 1) (A (r + 2 * k + 1)) = q_sh A r k n := by
  funext x
  unfold q_up q_sh
  by_cases c : x = r + 2 * (k + 1) + 1
  · subst c; rw [if_pos rfl, if_pos (by omega)]; congr 1; omega
  · rw [if_neg c]
    by_cases c2 : x = r + 2 * (k + 1)
    · subst c2; rw [if_pos rfl, if_pos (by omega)]; congr 1; omega
    · rw [if_neg c2]
      by_cases c3 : r + 2 * k + 2 ≤ x ∧ x < r + 2 * n + 2
      · rw [if_pos c3, if_pos (by omega)]
      · rw [if_neg c3, if_neg (by omega)]
def q_put (A : pj_Q) (s d who m : Int) (p : Int) : pj_Q :=
  q_up (q_up (q_up (q_up (q_sh A (s + 64 + 120 * d) p (A (s + 40 + 3 * d + 2))) (s + 64 + 120 * d + 2 * p) who) (s + 64 + 120 * d + 2 * p + 1) m) (s + 40 + 3 * d + 2) (A (s + 40 + 3 * d + 2) + 1)) (s + 8) (A (s + 8) + 1)
def q_ins (A : pj_Q) (s d who m : Int) : pj_Q := q_put A s d who m (pj_pos (fun k => A (s + 64 + 120 * d + 2 * k + 1)) m (A (s + 40 + 3 * d + 2)).toNat)
theorem mc_comes {s d who m : Int} {w : pj_W} (hs : 0 ≤ s) (hs2 : s ≤ 5600) (hd : 0 ≤ d) (hd2 : d < 8) (hn : 0 ≤ w 60 0 (s + 40 + 3 * d + 2)) (hn2 : w 60 0 (s + 40 + 3 * d + 2) < 60) (hl : -1000 ≤ w 60 0 (s + 8)) (hl2 : w 60 0 (s + 8) ≤ 1000) :
    fM_comes s d who m w = some (pj_put w (q_ins (w 60 0) s d who m)) := by
  have hend : ∀ k : Nat, (k : Int) ≤ w 60 0 (s + 40 + 3 * d + 2) → fM_comes_102 s d who m k (pj_put w (q_sh (w 60 0) (s + 64 + 120 * d) k (w 60 0 (s + 40 + 3 * d + 2)))) = some (pj_put w (q_put (w 60 0) s d who m k)) := by
    intro k hk
    unfold fM_comes_102
    rw [mq_pebbleRow hs (by omega) (by omega) (by omega) (by omega) (by omega), Option.bind_some, if_pos (by omega), mq_pebbleRow hs (by omega) (by omega) (by omega) (by omega) (by omega), Option.bind_some, pj_wr_id (x := s + 64 + 120 * d + 2 * (k : Int) + 1) (by omega) (by omega), if_pos (by omega), mq_findRow hs (by omega) (by omega) (by omega), Option.bind_some, pj_wr_id (x := s + 40 + 3 * d + 2) (by omega) (by omega), if_pos (by omega), Option.bind_some, pj_wr_id (x := s + 8) (by omega) (by omega), if_pos (by omega)]
    rw [pj_put_set, pj_put_set, pj_put_set, pj_put_set, pj_put_at, pj_put_at]
    unfold q_put
    have e1 : q_up (q_up (q_sh (w 60 0) (s + 64 + 120 * d) k (w 60 0 (s + 40 + 3 * d + 2))) (s + 64 + 120 * d + 2 * k) who) (s + 64 + 120 * d + 2 * k + 1) m (s + 40 + 3 * d + 2) = w 60 0 (s + 40 + 3 * d + 2) := by
      rw [q_up_ne _ _ (by omega), q_up_ne _ _ (by omega), q_sh_no (by omega)]
    have e2 : q_up (q_up (q_up (q_sh (w 60 0) (s + 64 + 120 * d) k (w 60 0 (s + 40 + 3 * d + 2))) (s + 64 + 120 * d + 2 * k) who) (s + 64 + 120 * d + 2 * k + 1) m) (s + 40 + 3 * d + 2) (w 60 0 (s + 40 + 3 * d + 2) + 1) (s + 8) = w 60 0 (s + 8) := by
      rw [q_up_ne _ _ (by omega), q_up_ne _ _ (by omega), q_up_ne _ _ (by omega), q_sh_no (by omega)]
    rw [e1, pj_wr_id (x := w 60 0 (s + 40 + 3 * d + 2) + 1) (by omega) (by omega), e2, pj_wr_id (by omega) (by omega)]
  have hlp : ∀ k : Nat, (k : Int) ≤ w 60 0 (s + 40 + 3 * d + 2) → fM_comes_14 s d who m ((k : Int), pj_put w (q_sh (w 60 0) (s + 64 + 120 * d) k (w 60 0 (s + 40 + 3 * d + 2)))) = some (pj_put w (q_put (w 60 0) s d who m (pj_pos (fun k => w 60 0 (s + 64 + 120 * d + 2 * k + 1)) m k))) := by
    intro k
    induction k with
    | zero =>
      intro hk
      refine pj_Lp_end ?_
      unfold fM_comes_14b
      dsimp only
      rw [if_pos (by omega), hend 0 hk]; rfl
    | succ k ih =>
      intro hk
      have hk1 : ((k + 1 : Nat) : Int) = k + 1 := by omega
      have h1 : pj_put w (q_sh (w 60 0) (s + 64 + 120 * d) ((k + 1 : Nat) : Int) (w 60 0 (s + 40 + 3 * d + 2))) 60 0 (s + 64 + 120 * d + 2 * k) = w 60 0 (s + 64 + 120 * d + 2 * k) := by rw [pj_put_at]; exact q_sh_no (by omega)
      have h2 : pj_put w (q_sh (w 60 0) (s + 64 + 120 * d) ((k + 1 : Nat) : Int) (w 60 0 (s + 40 + 3 * d + 2))) 60 0 (s + 64 + 120 * d + 2 * k + 1) = w 60 0 (s + 64 + 120 * d + 2 * k + 1) := by rw [pj_put_at]; exact q_sh_no (by omega)
      have h3 : ∀ v, pj_put w (q_up (q_sh (w 60 0) (s + 64 + 120 * d) ((k + 1 : Nat) : Int) (w 60 0 (s + 40 + 3 * d + 2))) (s + 64 + 120 * d + 2 * ((k + 1 : Nat) : Int)) v) 60 0 (s + 64 + 120 * d + 2 * k + 1) = w 60 0 (s + 64 + 120 * d + 2 * k + 1) := fun v => by rw [pj_put_at, q_up_ne _ _ (by omega)]; exact q_sh_no (by omega)
      unfold pj_pos
      by_cases c : w 60 0 (s + 64 + 120 * d + 2 * k + 1) ≤ m
      · rw [if_pos c]
        refine pj_Lp_end ?_
        unfold fM_comes_14b
        dsimp only
        rw [if_neg (by omega), pj_wr_id (x := ((k + 1 : Nat) : Int) - 1) (by omega) (by omega), show ((k + 1 : Nat) : Int) - 1 = k by omega, mq_pebbleRow hs (by omega) (by omega) (by omega) (by omega) (by omega), Option.bind_some, pj_wr_id (x := s + 64 + 120 * d + 2 * (k : Int) + 1) (by omega) (by omega), if_pos (by omega), if_pos (by rw [h2]; exact c), hend (k + 1) hk]; rfl
      · rw [if_neg c, ← ih (by omega)]
        refine pj_Lp_st ?_
        unfold fM_comes_14b
        dsimp only
        rw [if_neg (by omega), pj_wr_id (x := ((k + 1 : Nat) : Int) - 1) (by omega) (by omega), show ((k + 1 : Nat) : Int) - 1 = k by omega, mq_pebbleRow hs (by omega) (by omega) (by omega) (by omega) (by omega), Option.bind_some, pj_wr_id (x := s + 64 + 120 * d + 2 * (k : Int) + 1) (by omega) (by omega), if_pos (by omega), if_neg (by rw [h2]; exact c), mq_pebbleRow hs (by omega) (by omega) (by omega) (by omega) (by omega), Option.bind_some, Option.bind_some, if_pos (by omega), if_pos (by omega), h1, mq_pebbleRow hs (by omega) (by omega) (by omega) (by omega) (by omega), Option.bind_some, mq_pebbleRow hs (by omega) (by omega) (by omega) (by omega) (by omega), Option.bind_some, pj_wr_id (x := s + 64 + 120 * d + 2 * (k : Int) + 1) (by omega) (by omega), if_pos (by omega), pj_wr_id (x := s + 64 + 120 * d + 2 * ((k + 1 : Nat) : Int) + 1) (by omega) (by omega), if_pos (by omega), Option.bind_some, pj_put_set, pj_put_set, h3, pj_wr_id (by omega) (by omega), hk1, q_sh_st _ _ (by omega), show (k : Int) + 1 + -1 = k by omega]
  unfold fM_comes
  rw [mq_findRow hs (by omega) (by omega) (by omega), Option.bind_some, pj_wr_id (by omega) (by omega), if_pos (by omega)]
  have := hlp (w 60 0 (s + 40 + 3 * d + 2)).toNat (by omega)
  rw [Int.toNat_of_nonneg hn, q_sh_self, pj_put_self] at this
  exact this
