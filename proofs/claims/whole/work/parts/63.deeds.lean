/-! SET, LIFT, GULL: what is asked -/
/-- which of a finder's pebbles on a find is the latest -/
def q_newest (A : pj_Q) (f d : Int) : Nat → Int
  | 0 => -1
  | k + 1 => if pj_who A d k = f then (k : Int) else q_newest A f d k
theorem q_newest_in (A : pj_Q) (f d : Int) (n : Nat) : -1 ≤ q_newest A f d n ∧ q_newest A f d n < n ∧ (q_newest A f d n ≠ -1 → pj_who A d (q_newest A f d n) = f) := by
  induction n with
  | zero => exact ⟨show (-1 : Int) ≤ -1 by omega, show (-1 : Int) < ((0 : Nat) : Int) by omega, fun h => absurd rfl h⟩
  | succ n ih =>
    unfold q_newest
    by_cases c : pj_who A d n = f
    · rw [if_pos c]; exact ⟨by omega, by omega, fun _ => c⟩
    · rw [if_neg c]; exact ⟨ih.1, by omega, ih.2.2⟩
theorem mq_ownOn {f d : Int} {w : pj_W} (I : pj_IV (w 60 0)) (h : pj_isD (w 60 0) d) : fM_ownOn f d w = some (q_newest (w 60 0) f d (pj_many (w 60 0) d).toNat) := by
  have hA := I.1
  have h0 := h.1
  have h1 := h.2
  have hD := I.2.2.2.1 d h0 h1
  have hl : ∀ n : Nat, (n : Int) ≤ pj_many (w 60 0) d → fM_ownOn_8 f d w ((n : Int) - 1) = some (q_newest (w 60 0) f d n) := by
    intro n
    induction n with
    | zero =>
      intro _
      refine pj_Lp_end ?_
      unfold fM_ownOn_8b
      rw [if_pos (by simp)]
      rfl
    | succ n ih =>
      intro hn
      have hn' : ((n + 1 : Nat) : Int) - 1 = n := by omega
      unfold q_newest
      rw [hn']
      by_cases c : pj_who (w 60 0) d n = f
      · rw [if_pos c]
        refine pj_Lp_end ?_
        unfold fM_ownOn_8b
        rw [if_neg (by omega), mq_whoAt h0 (by omega) (by omega) (by omega), Option.bind_some, if_pos c]
      · rw [if_neg c, ← ih (by omega)]
        refine pj_Lp_st ?_
        unfold fM_ownOn_8b
        rw [if_neg (by omega), mq_whoAt h0 (by omega) (by omega) (by omega), Option.bind_some, if_neg c, pj_wr_id (by omega) (by omega)]; rfl
  unfold fM_ownOn
  rw [mq_manyOn h0 (by omega), Option.bind_some, pj_wr_id (by omega) (by omega)]
  have := hl (pj_many (w 60 0) d).toNat (by omega)
  rwa [show ((pj_many (w 60 0) d).toNat : Int) = pj_many (w 60 0) d from Int.toNat_of_nonneg (by omega)] at this
theorem xq_newestOf {b : Int} {w : pj_W} {A : pj_Q} (R : pj_RB b w A) (I : pj_IV A) (f : Int) {d : Int} (h : pj_isD A d) : fN_newestOf (8 * b + d) f w = some (q_newest A f d (pj_many A d).toNat) := by
  have hD := I.2.2.2.1 d h.1 h.2
  have h6 : w 23 (8 * b + d) 6 = pj_many A d := (R.2.2.1 d h).2.2.2
  have hl : ∀ n : Nat, (n : Int) ≤ pj_many A d → fN_newestOf_7 (8 * b + d) f w ((n : Int) - 1) = some (q_newest A f d n) := by
    intro n
    induction n with
    | zero =>
      intro _
      refine pj_Lp_end ?_
      unfold fN_newestOf_7b
      rw [if_pos (by simp)]
      rfl
    | succ n ih =>
      intro hn
      have hn' : ((n + 1 : Nat) : Int) - 1 = n := by omega
      have hK := (R.2.2.2 d n h (by omega) (by omega)).1
      unfold q_newest
      rw [hn']
      by_cases c : pj_who A d n = f
      · rw [if_pos c]
        refine pj_Lp_end ?_
        unfold fN_newestOf_7b
        rw [if_neg (by omega), if_pos (by omega), hK, if_pos c]
      · rw [if_neg c, ← ih (by omega)]
        refine pj_Lp_st ?_
        unfold fN_newestOf_7b
        rw [if_neg (by omega), if_pos (by omega), hK, if_neg c, pj_wr_id (by omega) (by omega)]; rfl
  unfold fN_newestOf
  rw [h6, pj_wr_id (by omega) (by omega)]
  have := hl (pj_many A d).toNat (by omega)
  rwa [show ((pj_many A d).toNat : Int) = pj_many A d from Int.toNat_of_nonneg (by omega)] at this
/-- a finder's pebbles become others -/
def q_peb (A : pj_Q) (f v : Int) : pj_Q := q_up A (10 + 5 * f + 2) v
theorem q_peb_IV {A : pj_Q} (I : pj_IV A) {f v : Int} (hf : pj_isF A f) (hv : 0 ≤ v) (hP : pj_sum (fun g => A (10 + 5 * g + 2)) (A 1).toNat + A 8 + (v - A (10 + 5 * f + 2)) ≤ 150) : pj_IV (q_peb A f v) := by
  have hF := I.2.2.1 f hf.1 hf.2
  have hne : ∀ x, x ≠ 10 + 5 * f + 2 → q_peb A f v x = A x := fun x hx => q_up_ne _ _ hx
  refine I.fin hf (fun x hx => hne x (by omega)) ?_ ?_ ?_ ?_
  · rw [hne _ (by omega)]; omega
  · rw [hne _ (by omega)]
  · rw [show q_peb A f v (10 + 5 * f + 2) = v from q_up_at _ _ _]; exact ⟨hv, hP⟩
  · rw [hne _ (by omega)]; omega
theorem q_peb_sum {A : pj_Q} {f v : Int} (hf : pj_isF A f) : pj_sum (fun g => q_peb A f v (10 + 5 * g + 2)) (A 1).toNat = pj_sum (fun g => A (10 + 5 * g + 2)) (A 1).toNat + (v - A (10 + 5 * f + 2)) := by
  have := hf.1
  have := hf.2
  refine pj_sum_up (j := f.toNat) (by omega) (fun i hi hne => q_up_ne _ _ (by omega)) ?_
  rw [Int.toNat_of_nonneg hf.1, show q_peb A f v (10 + 5 * f + 2) = v from q_up_at _ _ _]; omega
def q_wrongSet (A : pj_Q) (f d : Int) : Int := if A 8 = 60 then 4 else if A (10 + 5 * f + 2) = 0 then 6 else if pj_there A d ∧ A (10 + 5 * f) = A (40 + 3 * d) then 0 else 7
def q_sets (A : pj_Q) (f d : Int) : pj_Q := q_ins (q_peb A f (A (10 + 5 * f + 2) - 1)) 0 d f (A (10 + 5 * f + 3))
def q_set (A : pj_Q) (f d : Int) : pj_R := if pj_isF A f ∧ pj_isD A d then (if q_wrongSet A f d = 0 then (0, pj_many A d + 1, q_sets A f d) else (q_wrongSet A f d, 0, A)) else (1, 0, A)
theorem mq_wrongSet {f d : Int} {w : pj_W} (I : pj_IV (w 60 0)) (hf : pj_isF (w 60 0) f) (hd : pj_isD (w 60 0) d) : fM_wrongSet f d w = some (q_wrongSet (w 60 0) f d) := by
  have hA := I.1
  have := hf.1
  have := hf.2
  have := hd.1
  have := hd.2
  unfold fM_wrongSet q_wrongSet
  by_cases c1 : w 60 0 8 = 60
  · rw [if_pos c1, if_pos c1]
  · rw [if_neg c1, if_neg c1, mq_finderRow (by omega) (by omega), Option.bind_some, pj_wr_id (x := 10 + 5 * f + 2) (by omega) (by omega), if_pos (by omega)]
    by_cases c2 : w 60 0 (10 + 5 * f + 2) = 0
    · rw [if_pos c2, if_pos c2]
    · rw [if_neg c2, if_neg c2, mq_isThere, Option.bind_some]
      by_cases c3 : pj_there (w 60 0) d
      · rw [if_pos c3, if_neg (by omega), Option.bind_some, if_pos (by omega), mq_findRow (by omega) (by omega) (by omega) (by omega), Option.bind_some, Int.zero_add, if_pos (by omega)]
        by_cases c4 : w 60 0 (10 + 5 * f) = w 60 0 (40 + 3 * d)
        · rw [if_pos c4, if_pos ⟨c3, c4⟩]
        · rw [if_neg c4, if_neg (fun x => c4 x.2)]
      · rw [if_neg c3, if_pos rfl, if_neg (fun x => c3 x.1)]
theorem pj_many_le {A : pj_Q} (I : pj_IV A) {d : Int} (hd : pj_isD A d) : pj_many A d ≤ A 8 := by
  have hA := I.1
  have d0 := hd.1
  have d1 := hd.2
  rw [I.2.2.2.2.2.2.1.1]
  have h : pj_sum (fun e => if e = d.toNat then pj_many A d else 0) (A 2).toNat = pj_sum (fun _ => 0) (A 2).toNat + pj_many A d := pj_sum_up (j := d.toNat) (by omega) (fun i hi hne => if_neg hne) (by rw [if_pos rfl]; omega)
  rw [pj_sum_0 (fun i hi => rfl)] at h
  have h2 := pj_sum_le (g := fun e : Nat => if e = d.toNat then pj_many A d else 0) (h := fun e : Nat => pj_many A e) (n := (A 2).toNat) (fun i hi => by
    by_cases c : i = d.toNat
    · rw [if_pos c, c, Int.toNat_of_nonneg d0]; exact Int.le_refl _
    · rw [if_neg c]; have := I.2.2.2.1 i (by omega) (by omega); omega)
  omega
theorem q_sets_IV {A : pj_Q} (I : pj_IV A) {f d : Int} (hf : pj_isF A f) (hd : pj_isD A d) (h : q_wrongSet A f d = 0) : pj_IV (q_sets A f d) := by
  have hA := I.1
  have f0 := hf.1
  have f1 := hf.2
  have d0 := hd.1
  have d1 := hd.2
  have hF := I.2.2.1 f f0 f1
  have hP := I.2.2.2.2.2.2.2
  have h8 := I.2.2.2.2.2.2.1.2
  have hm := pj_many_le I hd
  unfold q_wrongSet at h
  by_cases c1 : A 8 = 60
  · rw [if_pos c1] at h; omega
  rw [if_neg c1] at h
  by_cases c2 : A (10 + 5 * f + 2) = 0
  · rw [if_pos c2] at h; omega
  rw [if_neg c2] at h
  have c3 : pj_there A d ∧ A (10 + 5 * f) = A (40 + 3 * d) := by
    by_cases c3 : pj_there A d ∧ A (10 + 5 * f) = A (40 + 3 * d)
    · exact c3
    · rw [if_neg c3] at h; omega
  have hne : ∀ v x, x ≠ 10 + 5 * f + 2 → q_peb A f v x = A x := fun v x hx => q_up_ne _ _ hx
  have I2 := q_peb_IV I hf (v := A (10 + 5 * f + 2) - 1) (by omega) (by omega)
  have hs := q_peb_sum (A := A) (f := f) (v := A (10 + 5 * f + 2) - 1) hf
  unfold q_sets
  refine q_ins_IV I2 ?_ ?_ ?_ (by omega) ?_ ?_ ?_ ?_
  · rw [pj_isD, hne _ 2 (by omega)]; exact hd
  · unfold pj_there; rw [hne _ 7 (by omega)]; exact c3.1
  · rw [pj_isF, hne _ 1 (by omega)]; exact hf
  · rw [hne _ 3 (by omega)]; omega
  · rw [hne _ 8 (by omega)]; omega
  · unfold pj_many; rw [hne _ _ (by omega)]; unfold pj_many at hm; omega
  · rw [hne _ 1 (by omega), hne _ 8 (by omega), hs]; omega
