/-! TO LIFT A PEBBLE -/
def q_wrongLift (A : pj_Q) (f d : Int) : Int := if q_newest A f d (pj_many A d).toNat = -1 then 6 else if A (10 + 5 * f) = A (40 + 3 * d) then 0 else 7
def q_lifts (A : pj_Q) (f d : Int) : pj_Q := q_peb (q_del A d (q_newest A f d (pj_many A d).toNat)) f (A (10 + 5 * f + 2) + 1)
def q_lift (A : pj_Q) (f d : Int) : pj_R := if pj_isF A f ∧ pj_isD A d then (if q_wrongLift A f d = 0 then (0, pj_min A d (q_newest A f d (pj_many A d).toNat), q_lifts A f d) else (q_wrongLift A f d, 0, A)) else (1, 0, A)
theorem q_newest_ok {A : pj_Q} (I : pj_IV A) {f d : Int} (hd : pj_isD A d) (h : q_wrongLift A f d = 0) : 0 ≤ q_newest A f d (pj_many A d).toNat ∧ q_newest A f d (pj_many A d).toNat < pj_many A d ∧ A (10 + 5 * f) = A (40 + 3 * d) := by
  have hD := I.2.2.2.1 d hd.1 hd.2
  have hn := q_newest_in A f d (pj_many A d).toNat
  unfold q_wrongLift at h
  by_cases c : q_newest A f d (pj_many A d).toNat = -1
  · rw [if_pos c] at h; omega
  · rw [if_neg c] at h
    by_cases c2 : A (10 + 5 * f) = A (40 + 3 * d)
    · exact ⟨by omega, by omega, c2⟩
    · rw [if_neg c2] at h; omega
theorem q_del_fin {A : pj_Q} {d k x : Int} (hd : 0 ≤ d) (hk : 0 ≤ k) (hx : x < 40) (h8 : x ≠ 8) : q_del A d k x = A x := by
  unfold q_del
  rw [q_sl_no (by omega), q_less, q_up_ne _ _ h8, q_up_ne _ _ (by omega)]
theorem q_del_isF {A : pj_Q} {d k f : Int} (hd : 0 ≤ d) (hk : 0 ≤ k) : pj_isF (q_del A d k) f ↔ pj_isF A f := by
  unfold pj_isF
  rw [q_del_fin hd hk (by omega) (by omega)]
theorem q_del_isD {A : pj_Q} {d k e : Int} (hd : 0 ≤ d) (hk : 0 ≤ k) : pj_isD (q_del A d k) e ↔ pj_isD A e := by
  unfold pj_isD
  rw [q_del_fin hd hk (by omega) (by omega)]
theorem q_del_sum {A : pj_Q} (hA : A 1 ≤ 6) {d k : Int} (hd : 0 ≤ d) (hk : 0 ≤ k) : pj_sum (fun g => q_del A d k (10 + 5 * g + 2)) (q_del A d k 1).toNat = pj_sum (fun g => A (10 + 5 * g + 2)) (A 1).toNat := by
  rw [q_del_fin hd hk (by omega) (by omega)]
  exact pj_sum_ex fun i hi => q_del_fin hd hk (by omega) (by omega)
theorem q_lifts_IV {A : pj_Q} (I : pj_IV A) {f d : Int} (hf : pj_isF A f) (hd : pj_isD A d) (h : q_wrongLift A f d = 0) : pj_IV (q_lifts A f d) := by
  have hA := I.1
  have f0 := hf.1
  have f1 := hf.2
  have hn := q_newest_ok I hd h
  have I2 := q_del_IV I hd hn.1 hn.2.1
  have hF := I.2.2.1 f f0 f1
  have hP := I.2.2.2.2.2.2.2
  unfold q_lifts
  refine q_peb_IV I2 ((q_del_isF hd.1 hn.1).mpr hf) (by omega) ?_
  rw [q_del_sum (by omega) hd.1 hn.1, q_del_lie hd.1 hn.1, q_del_fin hd.1 hn.1 (by omega) (by omega)]
  omega
theorem mq_wrongLift {f d : Int} {w : pj_W} (I : pj_IV (w 60 0)) (hf : pj_isF (w 60 0) f) (hd : pj_isD (w 60 0) d) : fM_wrongLift f d w = some (q_wrongLift (w 60 0) f d) := by
  have hA := I.1
  have := hf.1
  have := hf.2
  have := hd.1
  have := hd.2
  unfold fM_wrongLift q_wrongLift
  rw [mq_ownOn I hd, Option.bind_some]
  by_cases c1 : q_newest (w 60 0) f d (pj_many (w 60 0) d).toNat = -1
  · rw [if_pos c1, if_pos c1]
  · rw [if_neg c1, if_neg c1, mq_finderRow (by omega) (by omega), Option.bind_some, if_pos (by omega), mq_findRow (by omega) (by omega) (by omega) (by omega), Option.bind_some, Int.zero_add, if_pos (by omega)]
    by_cases c4 : w 60 0 (10 + 5 * f) = w 60 0 (40 + 3 * d)
    · rw [if_pos c4, if_pos c4]
    · rw [if_neg c4, if_neg c4]
theorem mc_lifts {f d : Int} {w : pj_W} (I : pj_IV (w 60 0)) (hf : pj_isF (w 60 0) f) (hd : pj_isD (w 60 0) d) (h : q_wrongLift (w 60 0) f d = 0) : fM_lifts f d w = some (pj_min (w 60 0) d (q_newest (w 60 0) f d (pj_many (w 60 0) d).toNat), pj_put w (q_lifts (w 60 0) f d)) := by
  have hA := I.1
  have f0 := hf.1
  have f1 := hf.2
  have d0 := hd.1
  have d1 := hd.2
  have hn := q_newest_ok I hd h
  have hD := I.2.2.2.1 d d0 d1
  have h8 := I.2.2.2.2.2.2.1.2
  have hm := pj_many_le I hd
  have hs := pj_sum_peb I hf
  have hP := I.2.2.2.2.2.2.2
  have hF := I.2.2.1 f f0 f1
  have hg := mc_goes (d := d) (k := (q_newest (w 60 0) f d (pj_many (w 60 0) d).toNat).toNat) (w := w) d0 (by omega) (by rw [Int.toNat_of_nonneg hn.1]; exact hn.2.1) hD.2.2.2.2.2 (by omega) (by omega)
  rw [Int.toNat_of_nonneg hn.1] at hg
  unfold fM_lifts
  rw [mq_ownOn I hd, Option.bind_some, mq_minuteAt d0 (by omega) (by omega) (by omega), Option.bind_some, hg, Option.bind_some, mq_finderRow (by omega) (by omega), Option.bind_some, pj_wr_id (x := 10 + 5 * f + 2) (by omega) (by omega), if_pos (by omega), pj_put_set, pj_put_at, q_del_fin d0 hn.1 (by omega) (by omega), pj_wr_id (by omega) (by omega)]
  rfl
theorem mt_lift (f d : Int) {w : pj_W} (I : pj_IV (w 60 0)) : fM_lift f d w = pj_aP (q_lift (w 60 0) f d) w := by
  unfold fM_lift fM_lift_16 q_lift
  rw [mq_isFinder, Option.bind_some, mq_isFind]
  by_cases h : pj_isF (w 60 0) f
  · rw [if_pos h, if_neg (by omega), Option.bind_some]
    by_cases h2 : pj_isD (w 60 0) d
    · have hw : 0 ≤ q_wrongLift (w 60 0) f d := by unfold q_wrongLift; split <;> (try split) <;> omega
      rw [if_pos h2, if_neg (by omega), if_pos ⟨h, h2⟩, mq_wrongLift I h h2, Option.bind_some]
      by_cases c : q_wrongLift (w 60 0) f d = 0
      · rw [if_pos (by omega), if_pos c, mc_lifts I h h2 c, Option.bind_some]
        rfl
      · rw [if_neg (by omega), if_neg c]
        show some (-1, pj_set w 26 0 2 _) = some (if q_wrongLift (w 60 0) f d = 0 then (0 : Int) else -1, pj_set (pj_put w (w 60 0)) 26 0 2 (q_wrongLift (w 60 0) f d))
        rw [pj_put_self, if_neg c]
    · rw [if_neg h2, if_pos rfl, if_neg (fun x => h2 x.2)]
      show some (-1, pj_set w 26 0 2 1) = some (-1, pj_set (pj_put w (w 60 0)) 26 0 2 1)
      rw [pj_put_self]
  · rw [if_neg h, if_pos rfl, if_neg (fun x => h x.1)]
    show some (-1, pj_set w 26 0 2 1) = some (-1, pj_set (pj_put w (w 60 0)) 26 0 2 1)
    rw [pj_put_self]
