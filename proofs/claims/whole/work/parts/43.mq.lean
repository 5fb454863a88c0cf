/-! THE MODEL'S QUESTIONS, further -/
theorem mq_bits_d : ∀ s : Fin 256, pj_LpN (fun s : (Int × Int) => fM_bits_4b (fun _ _ _ => 0) s.1 s.2) 9 (0, (s.val : Int)) = some (pj_pc s.val) := by decide +kernel
theorem mq_bits {s : Int} (h : 0 ≤ s) (h2 : s < 256) (w : pj_W) : fM_bits s w = some (pj_pc s) := by
  have := mq_bits_d ⟨s.toNat, by omega⟩
  rw [show (((⟨s.toNat, by omega⟩ : Fin 256).val : Nat) : Int) = s from Int.toNat_of_nonneg h] at this
  exact pj_Lp_of (n := 9) this
theorem xq_bitCount {s : Int} (h : 0 ≤ s) (h2 : s < 256) (w : pj_W) : fInt_bitCount s w = some (pj_pc s) := by
  have := fInt_bitCount_d w ⟨s.toNat, by omega⟩
  rwa [show (((⟨s.toNat, by omega⟩ : Fin 256).val : Nat) : Int) = s from Int.toNat_of_nonneg h] at this
theorem pj_pc_d : ∀ s : Fin 256, 0 ≤ pj_pc s.val ∧ pj_pc s.val ≤ 8 ∧ (pj_pc s.val = 0 ↔ s.val = 0) := by decide +kernel
theorem pj_pc_in {s : Int} (h : 0 ≤ s) (h2 : s < 256) : 0 ≤ pj_pc s ∧ pj_pc s ≤ 8 ∧ (pj_pc s = 0 ↔ s = 0) := by
  have := pj_pc_d ⟨s.toNat, by omega⟩
  rw [show (((⟨s.toNat, by omega⟩ : Fin 256).val : Nat) : Int) = s from Int.toNat_of_nonneg h] at this
  refine ⟨this.1, this.2.1, this.2.2.trans ?_⟩
  show s.toNat = 0 ↔ s = 0
  omega
theorem pj_or_lt {a i n : Nat} (hn : n ≤ 8) (ha : a < 2 ^ n) (hi : i < n) : pj_or (a : Int) (pj_shl 1 (i : Int)) = ((a ||| 2 ^ i : Nat) : Int) ∧ (a ||| 2 ^ i) < 2 ^ n := by
  have h256 : a < 256 := Nat.lt_of_lt_of_le ha (Nat.pow_le_pow_right (n := 2) (by decide) hn)
  exact ⟨pj_or_n h256 (by omega), Nat.or_lt_two_pow ha (Nat.pow_lt_pow_right (by decide) hi)⟩
theorem pj_pow_cast (n : Nat) : ((2 ^ n : Nat) : Int) = 2 ^ n := Int.natCast_pow 2 n
/-- the set of the last: below two to the how many finders -/
theorem pj_lst_in {A : pj_Q} {d : Int} {m : Nat} (hm : m ≤ 6) : ∀ n : Nat, (∀ k : Int, 0 ≤ k → k < n → 0 ≤ pj_who A d k ∧ pj_who A d k < m) → ∀ s : Nat, s < 2 ^ m → ∃ s' : Nat, pj_lst A d n s = s' ∧ s' < 2 ^ m := by
  intro n
  induction n with
  | zero => exact fun _ s hs => ⟨s, rfl, hs⟩
  | succ n ih =>
    intro hk s hs
    unfold pj_lst
    split
    · have h1 := hk n (by omega) (by omega)
      have h2 := pj_or_lt (a := s) (i := (pj_who A d n).toNat) (n := m) (by omega) hs (by omega)
      rw [show ((pj_who A d n).toNat : Int) = pj_who A d n from Int.toNat_of_nonneg h1.1] at h2
      rw [h2.1]
      exact ih (fun k h3 h4 => hk k h3 (by omega)) _ h2.2
    · exact ⟨s, rfl, hs⟩
theorem pj_last_n {A : pj_Q} (I : pj_IV A) {d : Int} (h : 0 ≤ d) (h2 : d < A 2) : ∃ s : Nat, q_last A d = s ∧ s < 2 ^ (A 1).toNat := by
  obtain ⟨⟨i0, i1, i2, i3, i4, i5, _⟩, _, _, hD, hK, _⟩ := I
  refine pj_lst_in (m := (A 1).toNat) (by omega) _ (fun k hk hk2 => ?_) 0 (Nat.two_pow_pos _)
  have h3 := hD d h h2
  have := hK d k h h2 hk (by omega)
  omega
theorem pj_64 {m : Nat} (hm : m ≤ 6) : 2 ^ m ≤ 64 := Nat.pow_le_pow_right (n := 2) (by decide) hm
theorem pj_last_in {A : pj_Q} (I : pj_IV A) {d : Int} (h : 0 ≤ d) (h2 : d < A 2) : 0 ≤ q_last A d ∧ q_last A d < 64 := by
  obtain ⟨s, h3, h4⟩ := pj_last_n I h h2
  have := pj_64 (m := (A 1).toNat) (by have := I.1; omega)
  omega
theorem mq_own_d : ∀ n : Fin 7, ∀ s : Fin 64, s.val < 2 ^ n.val → 2 ≤ pj_pc s.val → ∀ u : Fin 2, pj_LpN (fun t : (Int × Int) => fM_ownersOf_42b s.val (fun k _ j => if k = 60 then (if j = 1 then n.val else if j = 5 then (u.val : Int) + 1 else 0) else 0) t.1 t.2) 7 (-1, 0) = some (if u.val = 0 then pj_lo s.val else pj_hi s.val) := by decide +kernel
theorem pj_lohi_d : ∀ n : Fin 7, ∀ s : Fin 64, s.val < 2 ^ n.val → 0 ≤ pj_lo s.val ∧ pj_lo s.val < 2 ^ n.val ∧ 0 ≤ pj_hi s.val ∧ pj_hi s.val < 2 ^ n.val := by decide +kernel
