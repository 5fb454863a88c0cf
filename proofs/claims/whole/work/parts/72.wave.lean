/-! A WAVE, in the class -/
theorem mt_wave (c : Int) {w : pj_W} (I : pj_IV (w 60 0)) : fM_wave c w = pj_aP (q_wave (w 60 0) c) w := by
  unfold fM_wave q_wave
  rw [mq_isFrom, Option.bind_some]
  by_cases h : 0 ≤ c ∧ c ≤ 40
  · rw [if_pos h, if_neg (by omega), if_pos h, mc_washes I, Option.bind_some]
    rfl
  · rw [if_neg h, if_pos rfl, if_neg h]
    show some (-1, pj_set w 26 0 2 1) = some (-1, pj_set (pj_put w (w 60 0)) 26 0 2 1)
    rw [pj_put_self]
theorem xr_empty {b : Int} {w : pj_W} {A : pj_Q} (R : pj_RB b w A) (I : pj_IV A) {d : Int} (hd : pj_isD A d) : pj_RB b (pj_set w 23 (8 * b + d) 6 0) (q_empty A d) := by
  have hA := I.1
  have hm : pj_many (q_empty A d) d = 0 := q_empty_many
  refine R.find hd (by omega) (by omega) (fun x h1 h2 h3 => q_empty_ne h1 h2) (by omega) (fun e he => by have := I.2.2.2.1 e he.1 he.2; omega) (fun k i s _ h1 h2 => ?_) (by rw [pj_set_at, hm]) (fun k hk hk2 => by omega)
  unfold pj_set
  rw [if_neg h1]
theorem xc_washBelow {b : Int} {w : pj_W} {A : pj_Q} (R : pj_RB b w A) (I : pj_IV A) (hb : 0 ≤ b) (c : Int) : ∃ w', fB_washBelow b c w = some ((q_wave A c).1, w') ∧ pj_dB b w w' (q_wave A c) := by
  have hA := I.1
  unfold fB_washBelow q_wave
  by_cases h : c < 0
  · rw [if_pos h, if_neg (by omega)]
    exact ⟨w, rfl, pj_dB.no R 1 (by decide)⟩
  · by_cases h2 : c ≤ 40
    · have h3 : 0 ≤ c ∧ c ≤ 40 := ⟨by omega, h2⟩
      rw [if_neg h, if_pos h2, if_pos h3]
      have key : ∀ m i : Nat, ∀ v : pj_W, (i : Int) + m = A 2 → pj_RB b v (q_wash A c i).2 → pj_fr b w v → ∃ w', fB_washBelow_16 b c ((q_wash A c i).1, (i : Int), v) = some (0, w') ∧ pj_dB b w w' (0, (q_wash A c (A 2).toNat).1, (q_wash A c (A 2).toNat).2) := by
        intro m
        induction m with
        | zero =>
          intro i v hi Rv fv
          obtain ⟨J, e2, e0, g0, g1⟩ := q_wash_IV I c (n := i) (by omega)
          have h8 : v 19 b 8 = A 2 := Rv.1.2.2.2.2.2.2.trans e2
          have hn : (A 2).toNat = i := by omega
          rw [hn]
          refine ⟨pj_set v 19 b 9 (q_wash A c i).1, ?_, Rv.out _, fv.set _ _ (Or.inl ⟨rfl, rfl⟩), fun _ => pj_set_at⟩
          refine pj_Lp_end ?_
          unfold fB_washBelow_16b
          dsimp only
          rw [if_pos (by omega)]
          rfl
        | succ m ih =>
          intro i v hi Rv fv
          obtain ⟨J, e2, e0, g0, g1⟩ := q_wash_IV I c (n := i) (by omega)
          have h8 : v 19 b 8 = A 2 := Rv.1.2.2.2.2.2.2.trans e2
          have hs : q_wash A c (i + 1) = if (q_wash A c i).2 (40 + 3 * i) < c then ((q_wash A c i).1 + pj_many (q_wash A c i).2 i, q_empty (q_wash A c i).2 i) else q_wash A c i := rfl
          have hd : pj_isD (q_wash A c i).2 (i : Int) := ⟨by omega, by rw [e2]; omega⟩
          have hD := J.2.2.2.1 i hd.1 hd.2
          have hRD := Rv.2.2.1 i hd
          by_cases cc : (q_wash A c i).2 (40 + 3 * (i : Int)) < c
          · rw [if_pos cc] at hs
            obtain ⟨w', e, d⟩ := ih (i + 1) (pj_set v 23 (8 * b + i) 6 0) (by omega) (by rw [hs]; exact xr_empty Rv J hd) (fv.set _ _ (Or.inr (Or.inr ⟨Or.inl rfl, by omega, by omega⟩)))
            refine ⟨w', ?_, d⟩
            rw [← e]
            refine pj_Lp_st ?_
            unfold fB_washBelow_16b fB_washBelow_59
            dsimp only
            rw [if_neg (by omega), if_pos (by omega), if_neg (by rw [hRD.1]; omega), hRD.2.2.2, pj_wr_id (by omega) (by omega), pj_wri (by omega), hs]
            rfl
          · rw [if_neg cc] at hs
            obtain ⟨w', e, d⟩ := ih (i + 1) v (by omega) (by rw [hs]; exact Rv) fv
            refine ⟨w', ?_, d⟩
            rw [← e]
            refine pj_Lp_st ?_
            unfold fB_washBelow_16b fB_washBelow_59
            dsimp only
            rw [if_neg (by omega), if_pos (by omega), if_pos (by rw [hRD.1]; omega), pj_wri (by omega), hs]
            rfl
      exact key (A 2).toNat 0 w (by omega) R (pj_fr.refl b w)
    · rw [if_neg h, if_neg h2, if_neg (by omega)]
      exact ⟨w, rfl, pj_dB.no R 1 (by decide)⟩
theorem xs_wave {w : pj_W} {A : pj_Q} (R : pj_RB (w 10 0 10) w A) (I : pj_IV A) (hb : 0 ≤ w 10 0 10) (c : Int) : pj_xD w (fX_wave c w) (q_wave A c) := by
  obtain ⟨w', er, d'⟩ := xc_washBelow R I hb c
  unfold fX_wave
  rw [if_pos hb, er, Option.bind_some]
  dsimp only
  rw [xs_settle hb d']
  exact ⟨w', rfl, d'⟩
theorem q_wave_IV {A : pj_Q} (I : pj_IV A) (c : Int) : pj_IV (q_wave A c).2.2 := by
  have hA := I.1
  unfold q_wave
  split
  · exact (q_wash_IV I c (n := (A 2).toNat) (by omega)).1
  · exact I
