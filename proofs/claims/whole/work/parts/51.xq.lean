/-! THE CLASS'S BEACHES, further -/
section
variable {b : Int} {w : pj_W} {A : pj_Q}
theorem xq_ownerSet (R : pj_RB b w A) (I : pj_IV A) {d : Int} (h : pj_isD A d) : fN_ownerSet (8 * b + d) w = some (pj_all A d) := by
  have hD := I.2.2.2.1 d h.1 h.2
  have h6 : w 23 (8 * b + d) 6 = pj_many A d := (R.2.2.1 d h).2.2.2
  unfold fN_ownerSet pj_all
  refine pj_Lp_fo (fun i => (pj_fo (fun k a => pj_or a (pj_shl 1 (pj_who A d k))) i 0, (i : Int))) (pj_many A d).toNat (fun i hi => ?_) ?_
  · show fN_ownerSet_4b (8 * b + d) w _ i = some (Sum.inl (pj_or _ _, _))
    have hK := R.2.2.2 d i h (by omega) (by omega)
    unfold fN_ownerSet_4b
    rw [h6, if_neg (by omega), if_pos (by omega), hK.1, pj_wri (by omega)]; rfl
  · show fN_ownerSet_4b (8 * b + d) w _ _ = _
    unfold fN_ownerSet_4b
    rw [h6, if_pos (by omega)]
theorem xq_findersIn (R : pj_RB b w A) (I : pj_IV A) (c r : Int) (hc : 0 ≤ c) (hc2 : c < 40) (hr : 0 ≤ r) (hr2 : r ≤ 40) : fB_findersIn b c r w = some (pj_inC A c r) := by
  have hA := I.1
  have h7 : w 19 b 7 = A 1 := R.1.2.2.2.2.2.1
  unfold fB_findersIn pj_inC
  refine pj_Lp_cnt (fun f : Nat => c ≤ A (10 + 5 * f) ∧ A (10 + 5 * f) < c + r) (A 1).toNat (by omega) (fun i hi a => ?_) ?_
  · show fB_findersIn_5b b c r w a i = _
    have hRF := R.2.1 i ⟨by omega, by omega⟩
    unfold fB_findersIn_5b fB_findersIn_47
    rw [h7, if_neg (by omega), if_pos (by omega), hRF.1, pj_wri (by omega), pj_wr_id (x := c + r) (by omega) (by omega)]
    by_cases c1 : A (10 + 5 * (i : Int)) < c
    · rw [if_pos c1, if_neg (by omega)]
    · rw [if_neg c1]
      by_cases c2 : c + r ≤ A (10 + 5 * (i : Int))
      · rw [if_pos c2, if_neg (by omega)]
      · rw [if_neg c2, if_pos (by omega)]
  · show fB_findersIn_5b b c r w _ _ = _
    unfold fB_findersIn_5b
    rw [h7, if_pos (by omega)]
theorem xq_leftmostFrom (R : pj_RB b w A) (I : pj_IV A) (c : Int) : fB_leftmostFrom b c w = some (pj_lm A c) := by
  have hA := I.1
  have h8 : w 19 b 8 = A 2 := R.1.2.2.2.2.2.2
  unfold fB_leftmostFrom pj_lm
  refine pj_Lp_fo (fun i => (pj_fo (fun d a => if pj_there A d ∧ c ≤ A (40 + 3 * d) ∧ (a = -1 ∨ A (40 + 3 * d) < a) then A (40 + 3 * d) else a) i (-1), (i : Int))) (A 2).toNat (fun i hi => ?_) ?_
  · show fB_leftmostFrom_4b b c w _ i = some (Sum.inl (ite _ _ _, _))
    generalize pj_fo _ i (-1 : Int) = a
    have hi' : pj_isD A (i : Int) := ⟨by omega, by omega⟩
    have hRD := R.2.2.1 i hi'
    unfold fB_leftmostFrom_4b fB_leftmostFrom_51 fB_leftmostFrom_57
    dsimp only
    rw [h8, if_neg (by omega), if_pos (by omega), hRD.1, pj_wri (by omega)]
    by_cases c1 : pj_there A i
    · rw [if_neg (by rw [R.th hi']; exact fun x => x c1)]
      by_cases c2 : A (40 + 3 * (i : Int)) < c
      · rw [if_pos c2, if_neg (by omega)]; rfl
      · rw [if_neg c2]
        by_cases c3 : a = -1
        · rw [if_pos c3, if_pos (by exact ⟨c1, by omega, Or.inl c3⟩)]; rfl
        · rw [if_neg c3]
          by_cases c4 : a ≤ A (40 + 3 * (i : Int))
          · rw [if_pos c4, if_neg (by omega)]; rfl
          · rw [if_neg c4, if_pos (by exact ⟨c1, by omega, Or.inr (by omega)⟩)]; rfl
    · rw [if_pos ((R.th hi').mpr c1), if_neg (fun x => c1 x.1)]; rfl
  · show fB_leftmostFrom_4b b c w _ _ = _
    unfold fB_leftmostFrom_4b
    rw [h8, if_pos (by omega)]
theorem xq_boy_lp (R : pj_RB b w A) (I : pj_IV A) {r k : Int} (hr : 0 ≤ r) (hr2 : r ≤ 40) (K : Nat) (hK : (K : Int) ≤ k) (hK8 : K ≤ 8) (hk : k = K ∨ K = 8) : ∀ m i : Nat, ∀ c u : Int, i + m = K + 1 → (i = 0 → c = -1 ∧ u = 0) → (∀ j, i = j + 1 → c = pj_boy A r j ∧ c ≠ -1 ∧ u = c + r + 1) → fB_boyCell_8 b r k w (c, u, (i : Int)) = some (pj_boy A r K) := by
  have hA := I.1
  have h2 : w 19 b 2 = A 0 := R.1.1
  intro m
  induction m with
  | zero =>
    intro i c u hi h0 h1
    refine pj_Lp_end ?_
    have hc := h1 K (by omega)
    unfold fB_boyCell_8b
    dsimp only
    by_cases e : k < i
    · rw [if_pos e, hc.1]
    · rw [if_neg e, if_pos (by omega), hc.1]
  | succ m ih =>
    intro i c u hi h0 h1
    have hnb : pj_boy A r i = pj_nb A r u := by
      cases i with
      | zero => rw [(h0 rfl).2]; rfl
      | succ j =>
        have hc := h1 j rfl
        rw [pj_boy, ← hc.1, if_neg hc.2.1, hc.2.2]
    have hl := pj_lm_in I u
    unfold pj_nb at hnb
    by_cases e : pj_lm A u = -1
    · rw [if_pos e] at hnb
      refine pj_Lp_end ?_
      have := pj_boy_none hnb (K - i)
      rw [show i + (K - i) = K by omega] at this
      unfold fB_boyCell_8b
      dsimp only
      rw [if_neg (by omega), if_neg (by omega), xq_leftmostFrom R I, Option.bind_some, if_pos e, this]
    · rw [if_neg e] at hnb
      refine Eq.trans (pj_Lp_st (s' := (pj_boy A r i, pj_boy A r i + r + 1, ((i + 1 : Nat) : Int))) ?_) (ih (i + 1) _ _ (by omega) (fun x => by omega) (fun j hj => ?_))
      · unfold fB_boyCell_8b
        dsimp only
        rw [if_neg (by omega), if_neg (by omega), xq_leftmostFrom R I, Option.bind_some, if_neg e, h2, pj_wr_id (x := pj_lm A u + r) (by omega) (by omega), pj_wr_id (x := A 0 - 1) (by omega) (by omega), ← hnb, pj_wri (by omega)]
        have := pj_boy_in I hr i
        rw [pj_wr_id (x := pj_boy A r i + r) (by omega) (by omega), pj_wr_id (by omega) (by omega)]; rfl
      · have : j = i := by omega
        subst this
        exact ⟨rfl, by omega, rfl⟩
theorem xq_boyCell (R : pj_RB b w A) (I : pj_IV A) {r k : Int} (hr : 0 ≤ r) (hr2 : r ≤ 40) : fB_boyCell b r k w = some (if k < 0 then -1 else pj_boy A r (min k 8).toNat) := by
  unfold fB_boyCell
  by_cases c : k < 0
  · rw [if_pos c]
    refine pj_Lp_end ?_
    unfold fB_boyCell_8b
    dsimp only
    rw [if_pos c]
  · rw [if_neg c]
    exact xq_boy_lp R I hr hr2 (min k 8).toNat (by omega) (by omega) (by omega) _ 0 (-1) 0 (Nat.zero_add _) (fun _ => ⟨rfl, rfl⟩) (fun j hj => by omega)
/-- finds that are there, from a cell on -/
def q_nf (A : pj_Q) (c : Int) : Int := pj_sum (fun d => if pj_there A d ∧ c ≤ A (40 + 3 * d) then 1 else 0) (A 2).toNat
theorem pj_sum_le {g h : Nat → Int} {n : Nat} (hh : ∀ i, i < n → g i ≤ h i) : pj_sum g n ≤ pj_sum h n := by
  induction n with
  | zero => exact Int.le_refl _
  | succ n ih =>
    have h1 := ih (fun i hi => hh i (by omega))
    have h2 := hh n (by omega)
    show pj_sum g n + g n ≤ pj_sum h n + h n
    omega
theorem pj_sum_lt {g h : Nat → Int} {n i : Nat} (hh : ∀ i, i < n → g i ≤ h i) (hi : i < n) (hl : g i < h i) : pj_sum g n < pj_sum h n := by
  induction n with
  | zero => omega
  | succ n ih =>
    show pj_sum g n + g n < pj_sum h n + h n
    by_cases e : i = n
    · subst e
      have := pj_sum_le (g := g) (h := h) (n := i) (fun j hj => hh j (by omega))
      omega
    · have h1 := ih (fun i hi => hh i (by omega)) (by omega)
      have h2 := hh n (by omega)
      omega
theorem pj_lm_ex (c : Int) (h : pj_lm A c ≠ -1) : ∃ d : Nat, d < (A 2).toNat ∧ pj_there A d ∧ c ≤ A (40 + 3 * d) ∧ A (40 + 3 * d) = pj_lm A c := by
  unfold pj_lm at h ⊢
  generalize (A 2).toNat = n at h ⊢
  induction n with
  | zero => exact absurd rfl h
  | succ n ih =>
    unfold pj_fo at h ⊢
    by_cases c1 : pj_there A (n : Int) ∧ c ≤ A (40 + 3 * n) ∧ (pj_fo (fun d a => if pj_there A d ∧ c ≤ A (40 + 3 * d) ∧ (a = -1 ∨ A (40 + 3 * d) < a) then A (40 + 3 * d) else a) n (-1) = -1 ∨ A (40 + 3 * n) < pj_fo (fun d a => if pj_there A d ∧ c ≤ A (40 + 3 * d) ∧ (a = -1 ∨ A (40 + 3 * d) < a) then A (40 + 3 * d) else a) n (-1))
    · rw [if_pos c1]
      exact ⟨n, by omega, c1.1, c1.2.1, rfl⟩
    · rw [if_neg c1] at h ⊢
      obtain ⟨d, h1, h2⟩ := ih h
      exact ⟨d, by omega, h2⟩
theorem pj_nf_lt {c c' : Int} (h : pj_lm A c ≠ -1) (h' : pj_lm A c < c') : q_nf A c' < q_nf A c := by
  obtain ⟨d, h1, h2, h3, h4⟩ := pj_lm_ex c h
  unfold q_nf
  have hd := h4 ▸ h'
  refine pj_sum_lt (i := d) (fun i hi => ?_) h1 ?_
  · by_cases c1 : pj_there A (i : Int) ∧ c' ≤ A (40 + 3 * i)
    · rw [if_pos c1, if_pos ⟨c1.1, by omega⟩]; omega
    · rw [if_neg c1]; split <;> omega
  · rw [if_neg (by omega), if_pos ⟨h2, h3⟩]; omega
theorem pj_boy8 (I : pj_IV A) {r : Int} (hr : 0 ≤ r) : pj_boy A r 8 = -1 := by
  have hA := I.1
  have hnf : ∀ c, 0 ≤ q_nf A c ∧ q_nf A c ≤ 8 := fun c => by
    have := pj_sum_in (g := fun d : Nat => if pj_there A d ∧ c ≤ A (40 + 3 * d) then 1 else 0) (n := (A 2).toNat) (M := 1) (fun i hi => by split <;> omega)
    unfold q_nf
    omega
  have hlm : ∀ c, pj_nb A r c ≠ -1 → pj_lm A c ≠ -1 ∧ pj_lm A c < pj_nb A r c + r + 1 := fun c h => by
    have hl := pj_lm_in I c
    unfold pj_nb at h ⊢
    by_cases e : pj_lm A c = -1
    · rw [if_pos e] at h; omega
    · rw [if_neg e] at h ⊢
      exact ⟨e, by omega⟩
  have key : ∀ n : Nat, pj_boy A r n ≠ -1 → q_nf A (pj_boy A r n + r + 1) + n + 1 ≤ 8 := by
    intro n
    induction n with
    | zero =>
      intro h
      have h1 := hlm 0 h
      have h2 := pj_nf_lt h1.1 h1.2
      have h3 := hnf 0
      show q_nf A (pj_nb A r 0 + r + 1) + _ + 1 ≤ 8
      omega
    | succ n ih =>
      intro h
      by_cases e : pj_boy A r n = -1
      · exact absurd (pj_boy_none e 1) h
      · have h0 := ih e
        have hb : pj_boy A r (n + 1) = pj_nb A r (pj_boy A r n + r + 1) := by rw [pj_boy, if_neg e]
        rw [hb] at h ⊢
        have h1 := hlm _ h
        have h2 := pj_nf_lt h1.1 h1.2
        omega
  by_cases e : pj_boy A r 8 = -1
  · exact e
  · have := key 8 e
    have := hnf (pj_boy A r 8 + r + 1)
    omega
theorem xq_thereSet (R : pj_RB b w A) (I : pj_IV A) : fB_thereSet b w = some (A 7) := by
  have hA := I.1
  have h8 : w 19 b 8 = A 2 := R.1.2.2.2.2.2.2
  have hl : fB_thereSet b w = some (pj_un (fun d => pj_there A d) (A 2).toNat) := by
    unfold fB_thereSet
    refine pj_Lp_un (fun d => pj_there A d) (A 2).toNat (by omega) (fun i hi a ha ha2 => ?_) ?_
    · show fB_thereSet_4b b w a i = _
      have hi' : pj_isD A (i : Int) := ⟨by omega, by omega⟩
      unfold fB_thereSet_4b fB_thereSet_30
      rw [h8, if_neg (by omega), if_pos (by omega), pj_wri (by omega)]
      by_cases c1 : pj_there A i
      · rw [if_neg (by rw [R.th hi']; exact fun x => x c1), if_pos c1]
      · rw [if_pos ((R.th hi').mpr c1), if_neg c1]
    · show fB_thereSet_4b b w _ _ = _
      unfold fB_thereSet_4b
      rw [h8, if_pos (by omega)]
  rw [hl]
  obtain ⟨s, h1, h2, h3⟩ := pj_un_n (fun d => pj_there A d) (A 2).toNat (by omega)
  have hp : (2 : Int) ^ (A 2).toNat - 1 = ((2 ^ (A 2).toNat - 1 : Nat) : Int) := by
    have := Nat.two_pow_pos (A 2).toNat
    rw [Int.ofNat_sub (by omega), Int.natCast_pow]; rfl
  have h256 : 2 ^ (A 2).toNat ≤ 2 ^ 8 := Nat.pow_le_pow_right (by decide) (by omega)
  have ht : ∃ t : Nat, A 7 = t ∧ t < 2 ^ (A 2).toNat := by
    rcases I.2.1 with h | h
    · exact ⟨2 ^ (A 2).toNat - 1, by rw [h, hp], by have := Nat.two_pow_pos (A 2).toNat; omega⟩
    · exact ⟨0, h.1, Nat.two_pow_pos _⟩
  obtain ⟨t, h4, h5⟩ := ht
  rw [h1, h4]
  congr 2
  refine Nat.eq_of_testBit_eq fun i => ?_
  by_cases hi : i < (A 2).toNat
  · have := pj_bit_n (s := t) (i := i) (by omega) (by omega)
    have h6 : pj_there A (i : Int) ↔ t.testBit i = true := by
      show pj_and (pj_shr (A 7) i) 1 = 1 ↔ _
      rw [h4, this]
      split <;> rename_i h9 <;> simp [h9]
    have h7 := h3 i
    cases e1 : s.testBit i <;> cases e2 : t.testBit i
    · rfl
    · exact absurd (h7.mpr ⟨hi, h6.mpr e2⟩) (by rw [e1]; decide)
    · exact absurd (h6.mp (h7.mp e1).2) (by rw [e2]; decide)
    · rfl
  · rw [Nat.testBit_lt_two_pow (Nat.lt_of_lt_of_le h2 (Nat.pow_le_pow_right (by decide) (by omega))), Nat.testBit_lt_two_pow (Nat.lt_of_lt_of_le h5 (Nat.pow_le_pow_right (by decide) (by omega)))]
theorem xq_lying (R : pj_RB b w A) (I : pj_IV A) : fB_lying b w = some (A 8) := by
  have hA := I.1
  have h8 : w 19 b 8 = A 2 := R.1.2.2.2.2.2.2
  rw [I.2.2.2.2.2.2.1.1]
  unfold fB_lying
  refine pj_Lp_sum (fun d : Nat => pj_many A d) (A 2).toNat 60 (fun i hi => by have := I.2.2.2.1 i (by omega) (by omega); omega) (by omega) (by omega) (by omega) (fun i hi a => ?_) ?_
  · show fB_lying_4b b w a i = _
    have h6 := (R.2.2.1 i ⟨by omega, by omega⟩).2.2.2
    unfold fB_lying_4b
    rw [h8, if_neg (by omega), if_pos (by omega), h6, pj_wri (by omega)]
  · show fB_lying_4b b w _ _ = _
    unfold fB_lying_4b
    rw [h8, if_pos (by omega)]
theorem xq_latestMinute (R : pj_RB b w A) (I : pj_IV A) {d : Int} (h : pj_isD A d) : fN_latestMinute (8 * b + d) w = some (if 0 < pj_many A d then pj_min A d (pj_many A d - 1) else -1) := by
  have hD := I.2.2.2.1 d h.1 h.2
  have h6 : w 23 (8 * b + d) 6 = pj_many A d := (R.2.2.1 d h).2.2.2
  unfold fN_latestMinute
  rw [h6]
  by_cases c : pj_many A d ≤ 0
  · rw [if_pos c, if_neg (by omega)]
  · rw [if_neg c, pj_wr_id (by omega) (by omega), if_pos (by omega), if_pos (by omega), (R.2.2.2 d (pj_many A d - 1) h (by omega) (by omega)).2]
end
