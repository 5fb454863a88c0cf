/-! TO LIFT A PEBBLE, in the class -/
theorem xc_takeUp {b : Int} {w : pj_W} {A : pj_Q} (R : pj_RB b w A) (I : pj_IV A) (hb : 0 ≤ b) (f d : Int) : ∃ w', fB_takeUp b f d w = some ((q_lift A f d).1, w') ∧ pj_dB b w w' (q_lift A f d) := by
  have hA := I.1
  have h8 := I.2.2.2.2.2.2.1.2
  have hP := I.2.2.2.2.2.2.2
  unfold fB_takeUp q_lift
  rw [xq_finderAt R I, Option.bind_some, xq_findAt R I, Option.bind_some]
  by_cases hf : pj_isF A f
  · have f0 := hf.1
    have f1 := hf.2
    rw [if_pos hf, if_neg (by omega)]
    by_cases hd : pj_isD A d
    · have d0 := hd.1
      have d1 := hd.2
      have hq : pj_isF A f ∧ pj_isD A d := ⟨hf, hd⟩
      have hm := pj_many_le I hd
      have hs := pj_sum_peb I hf
      have hF := I.2.2.1 f f0 f1
      have hD := I.2.2.2.1 d d0 d1
      have hRF := R.2.1 f hf
      have hRD := R.2.2.1 d hd
      have hni := q_newest_in A f d (pj_many A d).toNat
      have hhas : fN_has (8 * b + d) (q_newest A f d (pj_many A d).toNat) w = some (if q_newest A f d (pj_many A d).toNat = -1 then 0 else 1) := by
        unfold fN_has
        rw [hRD.2.2.2]
        by_cases c : q_newest A f d (pj_many A d).toNat = -1
        · rw [if_pos c, if_pos (by omega)]
        · rw [if_neg c, if_neg (by omega), if_neg (by omega)]
      rw [if_pos hd, if_neg (by omega), if_pos hq, xq_newestOf R I f hd, Option.bind_some, hhas, Option.bind_some]
      by_cases c1 : q_newest A f d (pj_many A d).toNat = -1
      · have hw : q_wrongLift A f d = 6 := by unfold q_wrongLift; rw [if_pos c1]
        rw [if_pos c1, if_pos rfl, hw, if_neg (by decide)]
        exact ⟨w, rfl, pj_dB.no R 6 (by decide)⟩
      · rw [if_neg c1, if_neg (by decide), hRF.1, hRD.1]
        by_cases c4 : A (10 + 5 * f) = A (40 + 3 * d)
        · have hw : q_wrongLift A f d = 0 := by unfold q_wrongLift; rw [if_neg c1, if_pos c4]
          have hn := q_newest_ok I hd hw
          have I2 := q_del_IV I hd hn.1 hn.2.1
          obtain ⟨w2, e, r2, fr, _, e22, _⟩ := xr_del R I hd hn.1 hn.2.1
          have hK := R.2.2.2 d _ hd hn.1 hn.2.1
          rw [if_pos c4, if_pos (by omega), e, Option.bind_some, e22, hRF.2.2.1, hK.2, if_pos hw, pj_wr_id (by omega) (by omega)]
          unfold fB_done
          have r3 := r2.peb I2 ((q_del_isF d0 hn.1).mpr hf) (v := A (10 + 5 * f + 2) + 1)
          refine ⟨pj_set (pj_set w2 22 (6 * b + f) 3 (A (10 + 5 * f + 2) + 1)) 19 b 9 (pj_min A d (q_newest A f d (pj_many A d).toNat)), rfl, r3.out _, ?_, fun _ => ?_⟩
          · exact (fr.set _ _ (Or.inr (Or.inl ⟨rfl, by omega, by omega⟩))).set _ _ (Or.inl ⟨rfl, rfl⟩)
          · exact pj_set_at
        · have hw : q_wrongLift A f d = 7 := by unfold q_wrongLift; rw [if_neg c1, if_neg c4]
          rw [if_neg c4, hw, if_neg (by decide)]
          exact ⟨w, rfl, pj_dB.no R 7 (by decide)⟩
    · rw [if_neg hd, if_pos (by omega), if_neg (fun x => hd x.2)]
      exact ⟨w, rfl, pj_dB.no R 1 (by decide)⟩
  · rw [if_neg hf, if_pos (by omega), if_neg (fun x => hf x.1)]
    exact ⟨w, rfl, pj_dB.no R 1 (by decide)⟩
theorem xs_lift {w : pj_W} {A : pj_Q} (R : pj_RB (w 10 0 10) w A) (I : pj_IV A) (hb : 0 ≤ w 10 0 10) (f d : Int) : pj_xD w (fX_lift f d w) (q_lift A f d) := by
  obtain ⟨w', e, d'⟩ := xc_takeUp R I hb f d
  unfold fX_lift
  rw [if_pos hb, e, Option.bind_some]
  dsimp only
  rw [xs_settle hb d']
  exact ⟨w', rfl, d'⟩
theorem q_set_IV {A : pj_Q} (I : pj_IV A) (f d : Int) : pj_IV (q_set A f d).2.2 := by
  unfold q_set
  split
  · rename_i h
    split
    · exact q_sets_IV I h.1 h.2 (by assumption)
    · exact I
  · exact I
theorem q_lift_IV {A : pj_Q} (I : pj_IV A) (f d : Int) : pj_IV (q_lift A f d).2.2 := by
  unfold q_lift
  split
  · rename_i h
    split
    · exact q_lifts_IV I h.1 h.2 (by assumption)
    · exact I
  · exact I
