/-! TO SET A PEBBLE -/
theorem mc_sets {f d : Int} {w : pj_W} (I : pj_IV (w 60 0)) (hf : pj_isF (w 60 0) f) (hd : pj_isD (w 60 0) d) (h8 : w 60 0 8 ≤ 59) : fM_sets f d w = some (pj_put w (q_sets (w 60 0) f d)) := by
  have hA := I.1
  have f0 := hf.1
  have f1 := hf.2
  have d0 := hd.1
  have d1 := hd.2
  have hF := I.2.2.1 f f0 f1
  have hP := I.2.2.2.2.2.2.2
  have hD := I.2.2.2.1 d d0 d1
  have hm := pj_many_le I hd
  have hs0 : 0 ≤ pj_sum (fun g : Nat => w 60 0 (10 + 5 * g + 2)) (w 60 0 1).toNat := by
    have := pj_sum_le (g := fun _ : Nat => 0) (h := fun g : Nat => w 60 0 (10 + 5 * g + 2)) (n := (w 60 0 1).toNat) (fun i hi => (I.2.2.1 i (by omega) (by omega)).2.2.2.2.1)
    rwa [pj_sum_0 (fun i hi => rfl)] at this
  have hp150 : w 60 0 (10 + 5 * f + 2) ≤ 1000 := by
    have := pj_sum_le (g := fun e : Nat => if e = f.toNat then w 60 0 (10 + 5 * f + 2) else 0) (h := fun g : Nat => w 60 0 (10 + 5 * g + 2)) (n := (w 60 0 1).toNat) (fun i hi => by
      by_cases c : i = f.toNat
      · rw [if_pos c, c, Int.toNat_of_nonneg f0]; exact Int.le_refl _
      · rw [if_neg c]; exact (I.2.2.1 i (by omega) (by omega)).2.2.2.2.1)
    have h : pj_sum (fun e => if e = f.toNat then w 60 0 (10 + 5 * f + 2) else 0) (w 60 0 1).toNat = pj_sum (fun _ => 0) (w 60 0 1).toNat + w 60 0 (10 + 5 * f + 2) := pj_sum_up (j := f.toNat) (by omega) (fun i hi hne => if_neg hne) (by rw [if_pos rfl]; omega)
    rw [pj_sum_0 (fun i hi => rfl)] at h
    omega
  have hne : ∀ x, x ≠ 10 + 5 * f + 2 → q_peb (w 60 0) f (w 60 0 (10 + 5 * f + 2) - 1) x = w 60 0 x := fun x hx => q_up_ne _ _ hx
  have hc := mc_comes (s := 0) (d := d) (who := f) (m := w 60 0 (10 + 5 * f + 3)) (w := pj_put w (q_peb (w 60 0) f (w 60 0 (10 + 5 * f + 2) - 1))) (by omega) (by omega) d0 (by omega) (by rw [pj_put_at, hne _ (by omega), Int.zero_add]; exact hD.2.2.2.2.1) (by rw [pj_put_at, hne _ (by omega), Int.zero_add]; unfold pj_many at hm; omega) (by rw [pj_put_at, hne _ (by omega), Int.zero_add]; have := hD.2.2.2.2.1; omega) (by rw [pj_put_at, hne _ (by omega), Int.zero_add]; omega)
  unfold fM_sets
  rw [mq_finderRow (by omega) (by omega), Option.bind_some, pj_wr_id (x := 10 + 5 * f + 2) (by omega) (by omega), if_pos (by omega), mq_finderRow (by omega) (by omega), Option.bind_some, pj_wr_id (x := 10 + 5 * f + 3) (by omega) (by omega), if_pos (by omega), pj_wr_id (x := w 60 0 (10 + 5 * f + 2) - 1) (by omega) (by omega), pj_put_of w (10 + 5 * f + 2)]
  have e : pj_put w (q_up (w 60 0) (10 + 5 * f + 2) (w 60 0 (10 + 5 * f + 2) - 1)) 60 0 (10 + 5 * f + 3) = w 60 0 (10 + 5 * f + 3) := by rw [pj_put_at, q_up_ne _ _ (by omega)]
  rw [e]
  have e2 : fM_comes 0 d f (w 60 0 (10 + 5 * f + 3)) (pj_put w (q_up (w 60 0) (10 + 5 * f + 2) (w 60 0 (10 + 5 * f + 2) - 1))) = some (pj_put w (q_sets (w 60 0) f d)) := by
    refine hc.trans ?_
    rw [pj_put_put, pj_put_at]
    rfl
  rw [e2]
  rfl
theorem q_sets_many {A : pj_Q} {f d : Int} (hf : pj_isF A f) (hA : A 1 ≤ 6) (d0 : 0 ≤ d) : pj_many (q_sets A f d) d = pj_many A d + 1 := by
  have := hf.1
  have := hf.2
  unfold q_sets q_ins
  rw [q_put_many d0]
  unfold pj_many q_peb
  rw [q_up_ne _ _ (by omega)]
theorem q_wrongSet_in (A : pj_Q) (f d : Int) : 0 ≤ q_wrongSet A f d ∧ (q_wrongSet A f d = 0 → A 8 ≠ 60) := by
  unfold q_wrongSet
  by_cases c : A 8 = 60
  · rw [if_pos c]; omega
  · rw [if_neg c]; exact ⟨by split <;> (try split) <;> omega, fun _ => c⟩
theorem mt_set (f d : Int) {w : pj_W} (I : pj_IV (w 60 0)) : fM_set f d w = pj_aP (q_set (w 60 0) f d) w := by
  have hA := I.1
  have h8 := I.2.2.2.2.2.2.1.2
  unfold fM_set fM_set_16 q_set
  rw [mq_isFinder, Option.bind_some, mq_isFind]
  by_cases h : pj_isF (w 60 0) f
  · rw [if_pos h, if_neg (by omega), Option.bind_some]
    by_cases h2 : pj_isD (w 60 0) d
    · have hw := q_wrongSet_in (w 60 0) f d
      rw [if_pos h2, if_neg (by omega), if_pos ⟨h, h2⟩, mq_wrongSet I h h2, Option.bind_some]
      by_cases c : q_wrongSet (w 60 0) f d = 0
      · have := hw.2 c
        rw [if_pos (by omega), if_pos c, mc_sets I h h2 (by omega), Option.bind_some, mq_manyOn h2.1 (by have := h2.2; omega), Option.bind_some, pj_put_at, q_sets_many h (by omega) h2.1]
        rfl
      · rw [if_neg (by omega), if_neg c]
        show some (-1, pj_set w 26 0 2 _) = some (if q_wrongSet (w 60 0) f d = 0 then (0 : Int) else -1, pj_set (pj_put w (w 60 0)) 26 0 2 (q_wrongSet (w 60 0) f d))
        rw [pj_put_self, if_neg c]
    · rw [if_neg h2, if_pos rfl, if_neg (fun x => h2 x.2)]
      show some (-1, pj_set w 26 0 2 1) = some (-1, pj_set (pj_put w (w 60 0)) 26 0 2 1)
      rw [pj_put_self]
  · rw [if_neg h, if_pos rfl, if_neg (fun x => h x.1)]
    show some (-1, pj_set w 26 0 2 1) = some (-1, pj_set (pj_put w (w 60 0)) 26 0 2 1)
    rw [pj_put_self]
