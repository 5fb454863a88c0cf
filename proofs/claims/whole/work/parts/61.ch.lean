/-! THE BOUNDS, OVER A CHANGE OF ONE FIND'S PEBBLES -/
theorem pj_IV.find {A A' : pj_Q} (I : pj_IV A) {d : Int} (hd : pj_isD A d)
    (c : ∀ x, x ≠ 8 → x ≠ 40 + 3 * d + 2 → x < 64 + 120 * d ∨ 64 + 120 * d + 120 ≤ x → A' x = A x)
    (hth : pj_there A d ∨ pj_many A' d ≤ pj_many A d) (hm : 0 ≤ pj_many A' d) (hm2 : pj_many A' d ≤ 60)
    (hK : ∀ k : Int, 0 ≤ k → k < pj_many A' d → 0 ≤ pj_who A' d k ∧ pj_who A' d k < A 1 ∧ 0 ≤ pj_min A' d k ∧ pj_min A' d k ≤ A 3)
    (hS : ∀ k l : Int, 0 ≤ k → k ≤ l → l < pj_many A' d → pj_min A' d k ≤ pj_min A' d l)
    (h8 : A' 8 = A 8 + (pj_many A' d - pj_many A d)) (h60 : A' 8 ≤ 60)
    (hP : pj_sum (fun f => A (10 + 5 * f + 2)) (A 1).toNat + A' 8 ≤ 150) : pj_IV A' := by
  have hA := I.1
  have d0 := hd.1
  have d1 := hd.2
  obtain ⟨I0, I7, IF, ID, IK, IS, I8, IP⟩ := I
  have cf : ∀ x, x < 40 → x ≠ 8 → A' x = A x := fun x hx hx8 => c x hx8 (by omega) (by omega)
  have cm : ∀ e, e ≠ d → 0 ≤ e → e < 8 → pj_many A' e = pj_many A e := fun e he h0 h1 => c _ (by omega) (by omega) (by omega)
  refine ⟨?_, ?_, ?_, ?_, ?_, ?_, ?_, ?_⟩
  · rw [cf 0 (by omega) (by omega), cf 1 (by omega) (by omega), cf 2 (by omega) (by omega), cf 3 (by omega) (by omega), cf 4 (by omega) (by omega), cf 5 (by omega) (by omega), cf 6 (by omega) (by omega)]; exact I0
  · rw [cf 7 (by omega) (by omega), cf 2 (by omega) (by omega)]
    rcases I7 with h | h
    · exact Or.inl h
    · refine Or.inr ⟨h.1, fun e he he2 => ?_⟩
      have h0 := h.2 e he he2
      by_cases q : e = d
      · subst q
        have hn : ¬ pj_there A e := fun x => by
          have hx : pj_and (pj_shr (A 7) e) 1 = 1 := x
          rw [h.1] at hx
          exact absurd (pj_bit_pc (s := 0) (by omega) (by omega) he (by omega : e < 8) hx) (by decide)
        rcases hth with h9 | h9
        · exact absurd h9 hn
        · omega
      · rw [cm e q he (by omega)]; exact h0
  · intro g hg hg2
    rw [cf 1 (by omega) (by omega)] at hg2
    rw [cf 0 (by omega) (by omega), cf 3 (by omega) (by omega), cf (10 + 5 * g) (by omega) (by omega), cf (10 + 5 * g + 1) (by omega) (by omega), cf (10 + 5 * g + 2) (by omega) (by omega), cf (10 + 5 * g + 3) (by omega) (by omega)]
    exact IF g hg hg2
  · intro e he he2
    rw [cf 2 (by omega) (by omega)] at he2
    rw [cf 0 (by omega) (by omega), c (40 + 3 * e) (by omega) (by omega) (by omega), c (40 + 3 * e + 1) (by omega) (by omega) (by omega)]
    have hr := ID e he he2
    by_cases q : e = d
    · subst q; exact ⟨hr.1, hr.2.1, hr.2.2.1, hr.2.2.2.1, hm, hm2⟩
    · rw [cm e q he (by omega)]; exact hr
  · intro e k he he2 hk hk2
    rw [cf 2 (by omega) (by omega)] at he2
    rw [cf 1 (by omega) (by omega), cf 3 (by omega) (by omega)]
    by_cases q : e = d
    · subst q; exact hK k hk hk2
    · have hr := ID e he he2
      rw [cm e q he (by omega)] at hk2
      rw [show pj_who A' e k = pj_who A e k from c _ (by omega) (by omega) (by omega), show pj_min A' e k = pj_min A e k from c _ (by omega) (by omega) (by omega)]
      exact IK e k he he2 hk hk2
  · intro e k l he he2 hk hk2 hl
    rw [cf 2 (by omega) (by omega)] at he2
    by_cases q : e = d
    · subst q; exact hS k l hk hk2 hl
    · have hr := ID e he he2
      rw [cm e q he (by omega)] at hl
      rw [show pj_min A' e k = pj_min A e k from c _ (by omega) (by omega) (by omega), show pj_min A' e l = pj_min A e l from c _ (by omega) (by omega) (by omega)]
      exact IS e k l he he2 hk hk2 hl
  · rw [cf 2 (by omega) (by omega)]
    refine ⟨?_, h60⟩
    rw [h8, I8.1, pj_sum_up (g := fun e : Nat => pj_many A e) (g' := fun e : Nat => pj_many A' e) (n := (A 2).toNat) (j := d.toNat) (c := pj_many A' d - pj_many A d) (by omega) (fun i hi hne => cm i (by omega) (by omega) (by omega)) (by rw [Int.toNat_of_nonneg d0]; omega)]
  · rw [cf 1 (by omega) (by omega), pj_sum_ex (g := fun f : Nat => A' (10 + 5 * f + 2)) (g' := fun f : Nat => A (10 + 5 * f + 2)) (fun i hi => cf _ (by omega) (by omega))]
    exact hP
/-- a pebble comes: bounds and relation -/
theorem q_ins_IV {A : pj_Q} (I : pj_IV A) {d who m : Int} (hd : pj_isD A d) (hth : pj_there A d) (hw : pj_isF A who) (hm : 0 ≤ m) (hm2 : m ≤ A 3) (h8 : A 8 ≤ 59) (hn : pj_many A d ≤ 59)
    (hP : pj_sum (fun f => A (10 + 5 * f + 2)) (A 1).toNat + A 8 + 1 ≤ 150) : pj_IV (q_ins A 0 d who m) := by
  have hA := I.1
  have d0 := hd.1
  have d1 := hd.2
  have hD := I.2.2.2.1 d d0 d1
  have hm0 : A (0 + 40 + 3 * d + 2) = pj_many A d := by rw [Int.zero_add]
  have hple := pj_pos_le (fun k => A (0 + 64 + 120 * d + 2 * k + 1)) m (pj_many A d).toNat
  have hgt : ∀ k : Int, 0 ≤ k → (pj_pos (fun k => A (0 + 64 + 120 * d + 2 * k + 1)) m (pj_many A d).toNat : Int) ≤ k → k < pj_many A d → m < pj_min A d k := fun k h0 h1 h2 => by
    have := pj_pos_gt (t := fun k => A (0 + 64 + 120 * d + 2 * k + 1)) (m := m) (n := (pj_many A d).toNat) (k := k.toNat) (by omega) (by omega)
    simp only [Int.zero_add, Int.toNat_of_nonneg h0] at this
    exact this
  have hle : ∀ k : Int, 0 ≤ k → k < (pj_pos (fun k => A (0 + 64 + 120 * d + 2 * k + 1)) m (pj_many A d).toNat : Int) → pj_min A d k ≤ m := fun k h0 h1 => by
    cases hq : pj_pos (fun k => A (0 + 64 + 120 * d + 2 * k + 1)) m (pj_many A d).toNat with
    | zero => omega
    | succ p =>
      have h9 := pj_pos_last hq
      simp only [Int.zero_add] at h9
      have := I.2.2.2.2.2.1 d k p d0 d1 h0 (by omega) (by omega)
      exact Int.le_trans this h9
  unfold q_ins
  rw [hm0]
  generalize pj_pos (fun k => A (0 + 64 + 120 * d + 2 * k + 1)) m (pj_many A d).toNat = p at hple hgt hle
  have hpeb := fun k h0 h1 => q_put_peb (A := A) (d := d) (who := who) (m := m) (p := p) (k := k) d0 (by omega) (by omega) (by omega) hn h0 h1
  have hmany := q_put_many (A := A) (d := d) (who := who) (m := m) (p := p) d0
  refine I.find hd (fun x h1 h2 h3 => q_put_out (by omega) (by omega) hn h1 h2 h3) (Or.inl hth) (by omega) (by omega) (fun k hk hk2 => ?_) (fun k l hk hkl hl => ?_) (by rw [q_put_lie, hmany]; omega) (by rw [q_put_lie]; omega) (by rw [q_put_lie]; omega)
  · rw [(hpeb k hk (by omega)).1, (hpeb k hk (by omega)).2]
    by_cases c1 : k < p
    · rw [if_pos c1, if_pos c1]; exact I.2.2.2.2.1 d k d0 d1 hk (by omega)
    · rw [if_neg c1, if_neg c1]
      by_cases c2 : k = p
      · rw [if_pos c2, if_pos c2]; exact ⟨hw.1, hw.2, hm, hm2⟩
      · rw [if_neg c2, if_neg c2]; exact I.2.2.2.2.1 d (k - 1) d0 d1 (by omega) (by omega)
  · rw [(hpeb k hk (by omega)).2, (hpeb l (by omega) (by omega)).2]
    have hS := I.2.2.2.2.2.1 d
    by_cases c1 : k < p
    · rw [if_pos c1]
      by_cases c3 : l < p
      · rw [if_pos c3]; exact hS k l d0 d1 hk hkl (by omega)
      · rw [if_neg c3]
        by_cases c4 : l = p
        · rw [if_pos c4]; exact hle k hk c1
        · rw [if_neg c4]; exact hS k (l - 1) d0 d1 hk (by omega) (by omega)
    · rw [if_neg c1, if_neg (show ¬ l < (p : Int) by omega)]
      by_cases c2 : k = p
      · rw [if_pos c2]
        by_cases c4 : l = p
        · rw [if_pos c4]; exact Int.le_refl _
        · rw [if_neg c4]; exact Int.le_of_lt (hgt (l - 1) (by omega) (by omega) (by omega))
      · rw [if_neg c2, if_neg (by omega)]; exact hS (k - 1) (l - 1) d0 d1 (by omega) (by omega) (by omega)
theorem xr_ins {b : Int} {w : pj_W} {A : pj_Q} (R : pj_RB b w A) (I : pj_IV A) {d who m : Int} (hd : pj_isD A d) (hn : pj_many A d ≤ 59) :
    ∃ w', fN_insert (8 * b + d) who m w = some w' ∧ pj_RB b w' (q_ins A 0 d who m) ∧ pj_fr b w w' ∧ (∀ s, w' 19 b s = w 19 b s) ∧ (∀ i s, w' 22 i s = w 22 i s) ∧ w' 23 (8 * b + d) 6 = pj_many A d + 1 := by
  have hA := I.1
  have d0 := hd.1
  have d1 := hd.2
  have hD := I.2.2.2.1 d d0 d1
  have h6 : w 23 (8 * b + d) 6 = pj_many A d := (R.2.2.1 d hd).2.2.2
  have hm0 : A (0 + 40 + 3 * d + 2) = pj_many A d := by rw [Int.zero_add]
  have hpos : pj_pos (fun k => w 46 (8 * b + d) k) m (pj_many A d).toNat = pj_pos (fun k => A (0 + 64 + 120 * d + 2 * k + 1)) m (pj_many A d).toNat := pj_pos_ex m fun k hk => by
    rw [(R.2.2.2 d k hd (by omega) (by omega)).2, Int.zero_add]
  have hple := pj_pos_le (fun k => A (0 + 64 + 120 * d + 2 * k + 1)) m (pj_many A d).toNat
  rw [xc_insert (by omega) (by omega), h6, hpos]
  unfold q_ins
  rw [hm0]
  generalize pj_pos (fun k => A (0 + 64 + 120 * d + 2 * k + 1)) m (pj_many A d).toNat = p at hple
  have hmany := q_put_many (A := A) (d := d) (who := who) (m := m) (p := p) d0
  have hx6 : x_put w (8 * b + d) who m p 23 (8 * b + d) 6 = pj_many A d + 1 := by unfold x_put; rw [pj_set_at, h6]
  have hoff : ∀ k i s, ¬ (k = 23 ∧ i = 8 * b + d ∧ s = 6) → ¬ ((k = 45 ∨ k = 46) ∧ i = 8 * b + d) → x_put w (8 * b + d) who m p k i s = w k i s := fun k i s h1 h2 => by
    unfold x_put pj_set x_sh
    rw [if_neg h1, if_neg (by omega), if_neg (by omega), if_neg (by omega)]
  refine ⟨_, rfl, ?_, ?_, ?_, ?_, hx6⟩
  · refine R.find hd (by omega) (by omega) (fun x h1 h2 h3 => q_put_out (by omega) (by omega) hn h1 h2 h3) (by omega) (fun e he => by have := I.2.2.2.1 e he.1 he.2; omega) (fun k i s _ h1 h2 => hoff k i s h1 h2) (by rw [hx6, hmany]) (fun k hk hk2 => ?_)
    have h1 := q_put_peb (A := A) (d := d) (who := who) (m := m) (p := p) (k := k) d0 (by omega) (by omega) (by omega) hn hk (by omega)
    have h2 := x_put_peb (w := w) (i := 8 * b + d) (who := who) (m := m) (p := p) (k := k) (by omega) (by omega)
    rw [h1.1, h1.2, h2.1, h2.2]
    by_cases c1 : k < p
    · rw [if_pos c1, if_pos c1, if_pos c1, if_pos c1]; exact R.2.2.2 d k hd hk (by omega)
    · rw [if_neg c1, if_neg c1, if_neg c1, if_neg c1]
      by_cases c2 : k = p
      · rw [if_pos c2, if_pos c2, if_pos c2, if_pos c2]; exact ⟨rfl, rfl⟩
      · rw [if_neg c2, if_neg c2, if_neg c2, if_neg c2]; exact R.2.2.2 d (k - 1) hd (by omega) (by omega)
  · intro k i s hni
    unfold pj_in at hni
    exact hoff k i s (by omega) (by omega)
  · exact fun s => hoff 19 b s (by omega) (by omega)
  · exact fun i s => hoff 22 i s (by omega) (by omega)
