/-! A GULL, in the model -/
theorem mc_carries {d e : Int} {w : pj_W} (I : pj_IV (w 60 0)) (hd : pj_isD (w 60 0) d) (he : pj_isD (w 60 0) e) (hne : d ≠ e) (h : q_wrongGull (w 60 0) d e = 0) : fM_carries d e w = some (pj_who (w 60 0) d (pj_many (w 60 0) d - 1), pj_put w (q_carries (w 60 0) d e)) := by
  have hA := I.1
  have hg := q_gull_ok I hd h
  have d0 := hd.1
  have d1 := hd.2
  have e0 := he.1
  have e1 := he.2
  have hD := I.2.2.2.1 d d0 d1
  have hk : 0 ≤ pj_many (w 60 0) d - 1 := by omega
  have I2 := q_del_IV I hd hk (by omega)
  have h8 := I.2.2.2.2.2.2.1.2
  have hm := pj_many_le I hd
  have hE := I2.2.2.2.1 e ((q_del_isD d0 hk).mpr he).1 ((q_del_isD d0 hk).mpr he).2
  have hle := pj_many_le I2 ((q_del_isD d0 hk).mpr he)
  have hl := q_del_lie (A := w 60 0) (d := d) (k := pj_many (w 60 0) d - 1) d0 hk
  have hgo := mc_goes (d := d) (k := (pj_many (w 60 0) d - 1).toNat) (w := w) d0 (by omega) (by rw [Int.toNat_of_nonneg hk]; unfold pj_many; omega) hD.2.2.2.2.2 (by omega) (by omega)
  rw [Int.toNat_of_nonneg hk] at hgo
  have hc := mc_comes (s := 0) (d := e) (who := pj_who (w 60 0) d (pj_many (w 60 0) d - 1)) (m := pj_min (w 60 0) d (pj_many (w 60 0) d - 1)) (w := pj_put w (q_del (w 60 0) d (pj_many (w 60 0) d - 1))) (by omega) (by omega) e0 (by omega) (by rw [pj_put_at, Int.zero_add]; exact hE.2.2.2.2.1) (by rw [pj_put_at, Int.zero_add]; unfold pj_many at hle hl hm ⊢; omega) (by rw [pj_put_at, Int.zero_add]; omega) (by rw [pj_put_at, Int.zero_add]; omega)
  unfold fM_carries
  rw [mq_manyOn d0 (by omega), Option.bind_some, pj_wr_id (by omega) (by omega), mq_whoAt d0 (by omega) hk (by omega), Option.bind_some, mq_minuteAt d0 (by omega) (by omega) (by omega), Option.bind_some, hgo, Option.bind_some, hc, Option.bind_some, pj_put_put, pj_put_at]
  rfl
theorem mt_gull (d e : Int) {w : pj_W} (I : pj_IV (w 60 0)) : fM_gull d e w = pj_aP (q_gull (w 60 0) d e) w := by
  have hA := I.1
  unfold fM_gull fM_gull_21 q_gull
  rw [mq_isFind, mq_isFind, Option.bind_some]
  by_cases h : pj_isD (w 60 0) d
  · have d0 := h.1
    have d1 := h.2
    rw [if_pos h, if_neg (by omega), Option.bind_some]
    by_cases h2 : pj_isD (w 60 0) e
    · rw [if_pos h2, if_neg (by omega)]
      by_cases h3 : d = e
      · rw [if_pos h3, if_neg (fun x => x.2.2 h3)]
        show some (-1, pj_set w 26 0 2 1) = some (-1, pj_set (pj_put w (w 60 0)) 26 0 2 1)
        rw [pj_put_self]
      · have hw : 0 ≤ q_wrongGull (w 60 0) d e := by unfold q_wrongGull; split <;> (try split) <;> omega
        rw [if_neg h3, if_pos ⟨h, h2, h3⟩, mq_wrongGull d0 (by omega), Option.bind_some]
        by_cases c : q_wrongGull (w 60 0) d e = 0
        · rw [if_pos (by omega), if_pos c, mc_carries I h h2 h3 c, Option.bind_some]
          rfl
        · rw [if_neg (by omega), if_neg c]
          show some (-1, pj_set w 26 0 2 _) = some (if q_wrongGull (w 60 0) d e = 0 then (0 : Int) else -1, pj_set (pj_put w (w 60 0)) 26 0 2 (q_wrongGull (w 60 0) d e))
          rw [pj_put_self, if_neg c]
    · rw [if_neg h2, if_pos rfl, if_neg (fun x => h2 x.2.1)]
      show some (-1, pj_set w 26 0 2 1) = some (-1, pj_set (pj_put w (w 60 0)) 26 0 2 1)
      rw [pj_put_self]
  · rw [if_neg h, if_pos rfl, if_neg (fun x => h x.1)]
    show some (-1, pj_set w 26 0 2 1) = some (-1, pj_set (pj_put w (w 60 0)) 26 0 2 1)
    rw [pj_put_self]
