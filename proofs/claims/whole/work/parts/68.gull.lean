/-! A GULL -/
def q_wrongGull (A : pj_Q) (d e : Int) : Int := if pj_many A d = 0 then 6 else if pj_there A d ∧ pj_there A e then 0 else 7
def q_carries (A : pj_Q) (d e : Int) : pj_Q := q_ins (q_del A d (pj_many A d - 1)) 0 e (pj_who A d (pj_many A d - 1)) (pj_min A d (pj_many A d - 1))
def q_gull (A : pj_Q) (d e : Int) : pj_R := if pj_isD A d ∧ pj_isD A e ∧ d ≠ e then (if q_wrongGull A d e = 0 then (0, pj_who A d (pj_many A d - 1), q_carries A d e) else (q_wrongGull A d e, 0, A)) else (1, 0, A)
theorem q_gull_ok {A : pj_Q} (I : pj_IV A) {d e : Int} (hd : pj_isD A d) (h : q_wrongGull A d e = 0) : 0 < pj_many A d ∧ pj_there A d ∧ pj_there A e := by
  have hD := I.2.2.2.1 d hd.1 hd.2
  unfold q_wrongGull at h
  by_cases c : pj_many A d = 0
  · rw [if_pos c] at h; omega
  · rw [if_neg c] at h
    by_cases c2 : pj_there A d ∧ pj_there A e
    · exact ⟨by omega, c2.1, c2.2⟩
    · rw [if_neg c2] at h; omega
theorem q_del_other {A : pj_Q} {d k e : Int} (hd : 0 ≤ d) (he : 0 ≤ e) (he8 : e < 8) (hk : 0 ≤ k) (hn : pj_many A d ≤ 60) (hne : e ≠ d) : pj_many (q_del A d k) e = pj_many A e := q_del_out hk hn (by omega) (by omega) (by omega)
theorem q_carries_IV {A : pj_Q} (I : pj_IV A) {d e : Int} (hd : pj_isD A d) (he : pj_isD A e) (hne : d ≠ e) (h : q_wrongGull A d e = 0) : pj_IV (q_carries A d e) := by
  have hA := I.1
  have hg := q_gull_ok I hd h
  have hD := I.2.2.2.1 d hd.1 hd.2
  have hE := I.2.2.2.1 e he.1 he.2
  have e0 := he.1
  have e1 := he.2
  have hk : 0 ≤ pj_many A d - 1 := by omega
  have I2 := q_del_IV I hd hk (by omega)
  have hK := I.2.2.2.2.1 d (pj_many A d - 1) hd.1 hd.2 hk (by omega)
  have hP := I.2.2.2.2.2.2.2
  have h8 := I.2.2.2.2.2.2.1.2
  have hl := q_del_lie (A := A) (d := d) (k := pj_many A d - 1) hd.1 hk
  have hmo := q_del_other (A := A) (d := d) (e := e) (k := pj_many A d - 1) hd.1 e0 (by omega) hk hD.2.2.2.2.2 (fun x => hne x.symm)
  have hle := pj_many_le I2 ((q_del_isD hd.1 hk).mpr he)
  unfold q_carries
  refine q_ins_IV I2 ((q_del_isD hd.1 hk).mpr he) ?_ ((q_del_isF hd.1 hk).mpr ⟨hK.1, hK.2.1⟩) hK.2.2.1 ?_ (by omega) (by omega) ?_
  · unfold pj_there; rw [q_del_fin hd.1 hk (by omega) (by omega)]; exact hg.2.2
  · rw [q_del_fin hd.1 hk (by omega) (by omega)]; exact hK.2.2.2
  · rw [q_del_sum (by omega) hd.1 hk, hl]; omega
theorem mq_wrongGull {d e : Int} {w : pj_W} (hd : 0 ≤ d) (hd8 : d < 8) : fM_wrongGull d e w = some (q_wrongGull (w 60 0) d e) := by
  unfold fM_wrongGull q_wrongGull
  rw [mq_manyOn hd hd8, Option.bind_some]
  by_cases c : pj_many (w 60 0) d = 0
  · rw [if_pos c, if_pos c]
  · rw [if_neg c, if_neg c, mq_isThere, Option.bind_some, mq_isThere]
    by_cases c1 : pj_there (w 60 0) d
    · rw [if_pos c1, if_neg (by omega), Option.bind_some]
      by_cases c2 : pj_there (w 60 0) e
      · rw [if_pos c2, if_neg (by omega), if_pos ⟨c1, c2⟩]
      · rw [if_neg c2, if_pos rfl, if_neg (fun x => c2 x.2)]
    · rw [if_neg c1, if_pos rfl, if_neg (fun x => c1 x.1)]
