/-! WHAT IS ASKED, over the numbers A of the model's state -/
abbrev pj_Q : Type := Int → Int
def pj_sum (g : Nat → Int) (n : Nat) : Int := pj_fo (fun i a => a + g i) n 0
theorem pj_sum_in {g : Nat → Int} {n : Nat} {M : Int} (h : ∀ i, i < n → 0 ≤ g i ∧ g i ≤ M) : 0 ≤ pj_sum g n ∧ pj_sum g n ≤ M * n := by
  induction n with
  | zero => exact ⟨Int.le_refl _, by show (0 : Int) ≤ M * ((0 : Nat) : Int); omega⟩
  | succ n ih =>
    have h1 := ih (fun i hi => h i (by omega))
    have h2 := h n (by omega)
    show 0 ≤ pj_sum g n + g n ∧ pj_sum g n + g n ≤ M * ((n + 1 : Nat) : Int)
    rw [show M * ((n + 1 : Nat) : Int) = M * n + M from by rw [Int.natCast_add, Int.mul_add]; simp]
    omega
theorem pj_sum_ex {g g' : Nat → Int} {n : Nat} (h : ∀ i, i < n → g i = g' i) : pj_sum g n = pj_sum g' n := pj_fo_ex fun i hi a => by rw [h i hi]
theorem pj_wr_sum {g : Nat → Int} {i n : Nat} {M : Int} (h : ∀ i, i < n → 0 ≤ g i ∧ g i ≤ M) (hi : i < n) (hM : M ≤ 1000000) (hM0 : 0 ≤ M) (hn : n ≤ 2000) : pj_wr (pj_sum g i + g i) = pj_sum g (i + 1) := by
  have h1 := pj_sum_in (g := g) (n := i) (M := M) (fun j hj => h j (by omega))
  have h2 := h i hi
  have h3 : M * (i : Int) ≤ 1000000 * i := Int.mul_le_mul_of_nonneg_right hM (by omega)
  show _ = pj_sum g i + g i
  exact pj_wr_id (by omega) (by omega)
/-- the set of the numbers below n that it holds of -/
def pj_un (p : Nat → Prop) [DecidablePred p] (n : Nat) : Int := pj_fo (fun i a => if p i then pj_or a (pj_shl 1 i) else a) n 0
theorem pj_or_n {a i : Nat} (ha : a < 256) (hi : i < 8) : pj_or (a : Int) (pj_shl 1 (i : Int)) = ((a ||| 2 ^ i : Nat) : Int) := pj_or_d ⟨a, ha⟩ ⟨i, hi⟩
theorem pj_un_n (p : Nat → Prop) [DecidablePred p] (n : Nat) (hn : n ≤ 8) : ∃ s : Nat, pj_un p n = s ∧ s < 2 ^ n ∧ ∀ i, s.testBit i = true ↔ i < n ∧ p i := by
  induction n with
  | zero => exact ⟨0, rfl, by decide, fun i => ⟨fun h => by simp at h, fun h => by omega⟩⟩
  | succ n ih =>
    obtain ⟨s, h1, h2, h3⟩ := ih (by omega)
    have h256 : s < 256 := Nat.lt_of_lt_of_le h2 (Nat.pow_le_pow_right (n := 2) (by decide) (show n ≤ 8 by omega))
    by_cases hp : p n
    · refine ⟨s ||| 2 ^ n, ?_, ?_, fun i => ?_⟩
      · show (if p n then pj_or (pj_un p n) (pj_shl 1 (n : Int)) else _) = _
        rw [if_pos hp, h1, pj_or_n h256 (by omega)]
      · exact Nat.or_lt_two_pow (Nat.lt_of_lt_of_le h2 (Nat.pow_le_pow_right (by decide) (by omega))) (Nat.pow_lt_pow_right (by decide) (by omega))
      · rw [Nat.testBit_or, Nat.testBit_two_pow, Bool.or_eq_true, h3, decide_eq_true_eq]
        constructor
        · rintro (⟨a, b⟩ | rfl)
          · exact ⟨by omega, b⟩
          · exact ⟨by omega, hp⟩
        · rintro ⟨a, b⟩
          by_cases e : n = i
          · exact Or.inr e
          · exact Or.inl ⟨by omega, b⟩
    · refine ⟨s, ?_, Nat.lt_of_lt_of_le h2 (Nat.pow_le_pow_right (by decide) (by omega)), fun i => ?_⟩
      · show (if p n then _ else pj_un p n) = _
        rw [if_neg hp, h1]
      · rw [h3]
        constructor
        · rintro ⟨a, b⟩; exact ⟨by omega, b⟩
        · rintro ⟨a, b⟩
          have : i ≠ n := fun e => hp (e ▸ b)
          exact ⟨by omega, b⟩
theorem pj_un_in (p : Nat → Prop) [DecidablePred p] {n : Nat} (hn : n ≤ 8) : 0 ≤ pj_un p n ∧ pj_un p n < 2 ^ n ∧ pj_un p n < 256 := by
  obtain ⟨s, h1, h2, _⟩ := pj_un_n p n hn
  have h256 : s < 256 := Nat.lt_of_lt_of_le h2 (Nat.pow_le_pow_right (n := 2) (by decide) (show n ≤ 8 by omega))
  rw [h1]
  refine ⟨by omega, ?_, by omega⟩
  have : ((s : Nat) : Int) < ((2 ^ n : Nat) : Int) := by omega
  rwa [Int.natCast_pow] at this
theorem pj_un_ex {p q : Nat → Prop} [DecidablePred p] [DecidablePred q] {n : Nat} (h : ∀ i, i < n → (p i ↔ q i)) : pj_un p n = pj_un q n := by
  unfold pj_un
  refine pj_fo_ex fun i hi a => ?_
  by_cases hp : p i
  · rw [if_pos hp, if_pos ((h i hi).mp hp)]
  · rw [if_neg hp, if_neg (fun hq => hp ((h i hi).mpr hq))]
theorem pj_or_zero {a : Int} (h : -2147483648 ≤ a) (h2 : a < 2147483648) : pj_or a 0 = a := by
  unfold pj_or
  rw [show Int32.ofInt 0 = 0 from rfl, Int32.or_zero, Int32.toInt_ofInt_of_le (by omega) (by omega)]
theorem pj_bit_n {s i : Nat} (hs : s < 256) (hi : i < 8) : pj_and (pj_shr (s : Int) (i : Int)) 1 = if s.testBit i then 1 else 0 := pj_bit_d ⟨s, hs⟩ ⟨i, hi⟩
abbrev pj_there (A : pj_Q) (d : Int) : Prop := pj_and (pj_shr (A 7) d) 1 = 1
abbrev pj_many (A : pj_Q) (d : Int) : Int := A (40 + 3 * d + 2)
abbrev pj_who (A : pj_Q) (d k : Int) : Int := A (64 + 120 * d + 2 * k)
abbrev pj_min (A : pj_Q) (d k : Int) : Int := A (64 + 120 * d + 2 * k + 1)
/-- the bounds that the state keeps -/
def pj_IV (A : pj_Q) : Prop :=
  (2 ≤ A 0 ∧ A 0 ≤ 40 ∧ 0 ≤ A 1 ∧ A 1 ≤ 6 ∧ 0 ≤ A 2 ∧ A 2 ≤ 8 ∧ 1 ≤ A 3 ∧ A 3 ≤ 240 ∧ 0 ≤ A 4 ∧ A 4 ≤ 60 ∧ 0 ≤ A 5 ∧ A 5 ≤ 3 ∧ 0 ≤ A 6 ∧ A 6 ≤ 99) ∧
  (A 7 = 2 ^ (A 2).toNat - 1 ∨ A 7 = 0 ∧ ∀ d : Int, 0 ≤ d → d < A 2 → pj_many A d = 0) ∧
  (∀ f : Int, 0 ≤ f → f < A 1 → 0 ≤ A (10 + 5 * f) ∧ A (10 + 5 * f) < A 0 ∧ 1 ≤ A (10 + 5 * f + 1) ∧ A (10 + 5 * f + 1) ≤ 9 ∧ 0 ≤ A (10 + 5 * f + 2) ∧ 0 ≤ A (10 + 5 * f + 3) ∧ A (10 + 5 * f + 3) ≤ A 3) ∧
  (∀ d : Int, 0 ≤ d → d < A 2 → 0 ≤ A (40 + 3 * d) ∧ A (40 + 3 * d) < A 0 ∧ 0 ≤ A (40 + 3 * d + 1) ∧ A (40 + 3 * d + 1) ≤ 999 ∧ 0 ≤ pj_many A d ∧ pj_many A d ≤ 60) ∧
  (∀ d k : Int, 0 ≤ d → d < A 2 → 0 ≤ k → k < pj_many A d → 0 ≤ pj_who A d k ∧ pj_who A d k < A 1 ∧ 0 ≤ pj_min A d k ∧ pj_min A d k ≤ A 3) ∧
  (∀ d k l : Int, 0 ≤ d → d < A 2 → 0 ≤ k → k ≤ l → l < pj_many A d → pj_min A d k ≤ pj_min A d l) ∧
  (A 8 = pj_sum (fun d => pj_many A d) (A 2).toNat ∧ A 8 ≤ 60) ∧
  pj_sum (fun f => A (10 + 5 * f + 2)) (A 1).toNat + A 8 ≤ 150
/-- the last of all on a find -/
def pj_lst (A : pj_Q) (d : Int) : Nat → Int → Int
  | 0, s => s
  | k + 1, s => if pj_min A d k = pj_min A d (pj_many A d - 1) then pj_lst A d k (pj_or s (pj_shl 1 (pj_who A d k))) else s
def q_last (A : pj_Q) (d : Int) : Int := pj_lst A d (pj_many A d).toNat 0
def pj_lo (s : Int) : Int := match pj_ff (fun i => s.toNat.testBit i = true) 0 6 with | some i => 2 ^ i | none => 0
def pj_hi (s : Int) : Int := match pj_ff (fun i => s.toNat.testBit (5 - i) = true) 0 6 with | some i => 2 ^ (5 - i) | none => 0
def pj_own (A : pj_Q) (d : Int) : Int :=
  if pj_pc (q_last A d) < 2 ∨ A 5 = 3 then q_last A d else if A 5 = 0 then 0 else if A 5 = 1 then pj_lo (q_last A d) else pj_hi (q_last A d)
def pj_share (A : pj_Q) (f d : Int) : Int :=
  if pj_there A d ∧ pj_and (pj_shr (pj_own A d) f) 1 = 1 then A (40 + 3 * d + 1) / pj_pc (pj_own A d) else 0
def pj_lead (A : pj_Q) (f : Int) : Int := pj_sum (fun d => pj_share A f d) (A 2).toNat
def pj_ahead (A : pj_Q) (f : Int) : Int := pj_sum (fun g => if pj_lead A g > pj_lead A f ∨ pj_lead A g = pj_lead A f ∧ (g : Int) < f then 1 else 0) (A 1).toNat
def pj_rank (A : pj_Q) (k : Int) : Int := match pj_ff (fun f => pj_ahead A f = k) 0 (A 1).toNat with | some i => i | none => -1
def pj_tal (A : pj_Q) (f d : Int) : Int := pj_sum (fun k => if pj_who A d k = f then 1 else 0) (pj_many A d).toNat
def pj_strewn (A : pj_Q) (f : Int) : Int := pj_sum (fun d => pj_tal A f d) (A 2).toNat
/-- one behind the latest of all others -/
def pj_bhd (A : pj_Q) (f d : Int) : Int := pj_fo (fun k a => if pj_who A d k = f then a else max a (pj_min A d k + 1)) (pj_many A d).toNat 0
abbrev pj_walk (A : pj_Q) (f c : Int) : Int := A (10 + 5 * f + 1) * pj_abs (A (10 + 5 * f) - c)
def pj_soon (A : pj_Q) (f d : Int) : Int :=
  if pj_there A d ∧ A (10 + 5 * f + 2) ≠ 0 then (if max (A (10 + 5 * f + 3) + pj_walk A f (A (40 + 3 * d))) (pj_bhd A f d) ≤ A 3 then max (A (10 + 5 * f + 3) + pj_walk A f (A (40 + 3 * d))) (pj_bhd A f d) else -1) else -1
def pj_thr (A : pj_Q) (d : Int) : Int := pj_un (fun f => pj_soon A f d ≠ -1) (A 1).toNat
def pj_sight (A : pj_Q) (f c : Int) : Int := pj_un (fun d => pj_there A d ∧ pj_abs (A (40 + 3 * d) - A (10 + 5 * f)) ≤ c) (A 2).toNat
/-- the leftmost find from a cell on -/
def pj_lm (A : pj_Q) (c : Int) : Int := pj_fo (fun d a => if pj_there A d ∧ c ≤ A (40 + 3 * d) ∧ (a = -1 ∨ A (40 + 3 * d) < a) then A (40 + 3 * d) else a) (A 2).toNat (-1)
def pj_nb (A : pj_Q) (r c : Int) : Int := if pj_lm A c = -1 then -1 else min (pj_lm A c + r) (A 0 - 1)
def pj_boy (A : pj_Q) (r : Int) : Nat → Int
  | 0 => pj_nb A r 0
  | k + 1 => if pj_boy A r k = -1 then -1 else pj_nb A r (pj_boy A r k + r + 1)
