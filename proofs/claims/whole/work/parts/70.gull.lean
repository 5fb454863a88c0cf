/-! A GULL, in the class -/
theorem xc_carry {b : Int} {w : pj_W} {A : pj_Q} (R : pj_RB b w A) (I : pj_IV A) (hb : 0 ≤ b) (d e : Int) : ∃ w', fB_carry b d e w = some ((q_gull A d e).1, w') ∧ pj_dB b w w' (q_gull A d e) := by
  have hA := I.1
  have h8 := I.2.2.2.2.2.2.1.2
  unfold fB_carry q_gull
  rw [xq_findAt R I, Option.bind_some, xq_findAt R I, Option.bind_some]
  by_cases hd : pj_isD A d
  · have d0 := hd.1
    have d1 := hd.2
    rw [if_pos hd, if_neg (by omega)]
    by_cases he : pj_isD A e
    · have e0 := he.1
      have e1 := he.2
      rw [if_pos he, if_neg (by omega)]
      by_cases hne : d = e
      · rw [if_pos hne, if_neg (fun x => x.2.2 hne)]
        exact ⟨w, rfl, pj_dB.no R 1 (by decide)⟩
      · have hq : pj_isD A d ∧ pj_isD A e ∧ d ≠ e := ⟨hd, he, hne⟩
        have hD := I.2.2.2.1 d d0 d1
        have hRD := R.2.2.1 d hd
        have hhas : fN_has (8 * b + d) (pj_many A d - 1) w = some (if pj_many A d = 0 then 0 else 1) := by
          unfold fN_has
          rw [hRD.2.2.2]
          by_cases c : pj_many A d = 0
          · rw [if_pos c, if_pos (by omega)]
          · rw [if_neg c, if_neg (by omega), if_neg (by omega)]
        rw [if_neg hne, if_pos hq, hRD.2.2.2, pj_wr_id (by omega) (by omega), hhas, Option.bind_some]
        by_cases c1 : pj_many A d = 0
        · have hw : q_wrongGull A d e = 6 := by unfold q_wrongGull; rw [if_pos c1]
          rw [if_pos c1, if_pos rfl, hw, if_neg (by decide)]
          exact ⟨w, rfl, pj_dB.no R 6 (by decide)⟩
        · rw [if_neg c1, if_neg (by decide)]
          by_cases c2 : pj_there A d
          · rw [if_neg (by rw [R.th hd]; exact fun x => x c2)]
            by_cases c3 : pj_there A e
            · have hw : q_wrongGull A d e = 0 := by unfold q_wrongGull; rw [if_neg c1, if_pos ⟨c2, c3⟩]
              have hk : 0 ≤ pj_many A d - 1 := by omega
              have I2 := q_del_IV I hd hk (by omega)
              obtain ⟨w2, er, r2, fr, _, _, _⟩ := xr_del R I hd hk (by omega)
              have hK := R.2.2.2 d (pj_many A d - 1) hd hk (by omega)
              have hm := pj_many_le I hd
              have hl := q_del_lie (A := A) (d := d) (k := pj_many A d - 1) d0 hk
              have hle := pj_many_le I2 ((q_del_isD d0 hk).mpr he)
              obtain ⟨w3, ei, r3, fr3, _⟩ := xr_ins r2 I2 (d := e) (who := pj_who A d (pj_many A d - 1)) (m := pj_min A d (pj_many A d - 1)) ((q_del_isD d0 hk).mpr he) (by omega)
              rw [if_neg (by rw [R.th he]; exact fun x => x c3), if_pos (by omega), er, Option.bind_some, hK.1, hK.2, ei, Option.bind_some, if_pos hw]
              unfold fB_done
              refine ⟨pj_set w3 19 b 9 (pj_who A d (pj_many A d - 1)), rfl, r3.out _, (fr.trans fr3).set _ _ (Or.inl ⟨rfl, rfl⟩), fun _ => pj_set_at⟩
            · have hw : q_wrongGull A d e = 7 := by unfold q_wrongGull; rw [if_neg c1, if_neg (fun x => c3 x.2)]
              rw [if_pos ((R.th he).mpr c3), hw, if_neg (by decide)]
              exact ⟨w, rfl, pj_dB.no R 7 (by decide)⟩
          · have hw : q_wrongGull A d e = 7 := by unfold q_wrongGull; rw [if_neg c1, if_neg (fun x => c2 x.1)]
            rw [if_pos ((R.th hd).mpr c2), hw, if_neg (by decide)]
            exact ⟨w, rfl, pj_dB.no R 7 (by decide)⟩
    · rw [if_neg he, if_pos (by omega), if_neg (fun x => he x.2.1)]
      exact ⟨w, rfl, pj_dB.no R 1 (by decide)⟩
  · rw [if_neg hd, if_pos (by omega), if_neg (fun x => hd x.1)]
    exact ⟨w, rfl, pj_dB.no R 1 (by decide)⟩
theorem xs_gull {w : pj_W} {A : pj_Q} (R : pj_RB (w 10 0 10) w A) (I : pj_IV A) (hb : 0 ≤ w 10 0 10) (d e : Int) : pj_xD w (fX_gull d e w) (q_gull A d e) := by
  obtain ⟨w', er, d'⟩ := xc_carry R I hb d e
  unfold fX_gull
  rw [if_pos hb, er, Option.bind_some]
  dsimp only
  rw [xs_settle hb d']
  exact ⟨w', rfl, d'⟩
theorem q_gull_IV {A : pj_Q} (I : pj_IV A) (d e : Int) : pj_IV (q_gull A d e).2.2 := by
  unfold q_gull
  split
  · rename_i h
    split
    · exact q_carries_IV I h.1 h.2.1 h.2.2 (by assumption)
    · exact I
  · exact I
