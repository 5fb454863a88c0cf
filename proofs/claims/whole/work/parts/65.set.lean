/-! TO SET A PEBBLE, in the class -/
theorem pj_RB.peb {b : Int} {w : pj_W} {A : pj_Q} (R : pj_RB b w A) (I : pj_IV A) {f v : Int} (hf : pj_isF A f) : pj_RB b (pj_set w 22 (6 * b + f) 3 v) (q_peb A f v) := by
  have hA := I.1
  have f0 := hf.1
  have f1 := hf.2
  have hRF := R.2.1 f hf
  have hne : ∀ x, x ≠ 10 + 5 * f + 2 → q_peb A f v x = A x := fun x hx => q_up_ne _ _ hx
  refine pj_RB.fin (w' := pj_set w 22 (6 * b + f) 3 v) (A' := q_peb A f v) R hf (by omega) (fun x hx => hne x (by omega)) (fun k i s hk h1 h2 => ?_) ?_
  · unfold pj_set
    rw [if_neg (by omega)]
  · rw [show q_peb A f v (10 + 5 * f + 2) = v from q_up_at _ _ _, hne (10 + 5 * f) (by omega), hne (10 + 5 * f + 1) (by omega), hne (10 + 5 * f + 3) (by omega), hne (10 + 5 * f + 4) (by omega), pj_set_at, pj_set_ne (by decide), pj_set_ne (by decide), pj_set_ne (by decide), pj_set_ne (by decide)]
    exact ⟨hRF.1, hRF.2.1, rfl, hRF.2.2.2.1, hRF.2.2.2.2⟩
theorem pj_RB.out {b : Int} {w : pj_W} {A : pj_Q} (R : pj_RB b w A) (v : Int) : pj_RB b (pj_set w 19 b 9 v) A := by
  obtain ⟨R0, RF, RD, RK⟩ := R
  have h : ∀ k i s, ¬ (k = 19 ∧ s = 9) → pj_set w 19 b 9 v k i s = w k i s := fun k i s hn => by
    unfold pj_set
    rw [if_neg (fun y => hn ⟨y.1, y.2.2⟩)]
  refine ⟨?_, fun f hf => ?_, fun d hd => ?_, fun d k hd h0 h1 => ?_⟩
  · rw [h 19 b 2 (by omega), h 19 b 3 (by omega), h 19 b 4 (by omega), h 19 b 5 (by omega), h 19 b 6 (by omega), h 19 b 7 (by omega), h 19 b 8 (by omega)]; exact R0
  · rw [h 22 _ 1 (by omega), h 22 _ 2 (by omega), h 22 _ 3 (by omega), h 22 _ 4 (by omega), h 22 _ 5 (by omega)]; exact RF f hf
  · rw [h 23 _ 3 (by omega), h 23 _ 4 (by omega), h 23 _ 5 (by omega), h 23 _ 6 (by omega)]; exact RD d hd
  · rw [h 45 _ k (by omega), h 46 _ k (by omega)]; exact RK d k hd h0 h1
theorem pj_sum_peb {A : pj_Q} (I : pj_IV A) {f : Int} (hf : pj_isF A f) : 0 ≤ pj_sum (fun g => A (10 + 5 * g + 2)) (A 1).toNat ∧ A (10 + 5 * f + 2) ≤ pj_sum (fun g => A (10 + 5 * g + 2)) (A 1).toNat := by
  have f0 := hf.1
  have f1 := hf.2
  constructor
  · have := pj_sum_le (g := fun _ : Nat => 0) (h := fun g : Nat => A (10 + 5 * g + 2)) (n := (A 1).toNat) (fun i hi => (I.2.2.1 i (by omega) (by omega)).2.2.2.2.1)
    rwa [pj_sum_0 (fun i hi => rfl)] at this
  · have := pj_sum_le (g := fun e : Nat => if e = f.toNat then A (10 + 5 * f + 2) else 0) (h := fun g : Nat => A (10 + 5 * g + 2)) (n := (A 1).toNat) (fun i hi => by
      by_cases c : i = f.toNat
      · rw [if_pos c, c, Int.toNat_of_nonneg f0]; exact Int.le_refl _
      · rw [if_neg c]; exact (I.2.2.1 i (by omega) (by omega)).2.2.2.2.1)
    have h : pj_sum (fun e => if e = f.toNat then A (10 + 5 * f + 2) else 0) (A 1).toNat = pj_sum (fun _ => 0) (A 1).toNat + A (10 + 5 * f + 2) := pj_sum_up (j := f.toNat) (by omega) (fun i hi hne => if_neg hne) (by rw [if_pos rfl]; omega)
    rw [pj_sum_0 (fun i hi => rfl)] at h
    omega
theorem xc_layOn {b : Int} {w : pj_W} {A : pj_Q} (R : pj_RB b w A) (I : pj_IV A) (hb : 0 ≤ b) (f d : Int) : ∃ w', fB_layOn b f d w = some ((q_set A f d).1, w') ∧ pj_dB b w w' (q_set A f d) := by
  have hA := I.1
  have h8 := I.2.2.2.2.2.2.1.2
  have hP := I.2.2.2.2.2.2.2
  unfold fB_layOn q_set
  rw [xq_finderAt R I, Option.bind_some, xq_findAt R I, Option.bind_some]
  by_cases hf : pj_isF A f
  · have f0 := hf.1
    have f1 := hf.2
    rw [if_pos hf, if_neg (by omega)]
    by_cases hd : pj_isD A d
    · have d0 := hd.1
      have d1 := hd.2
      have hm := pj_many_le I hd
      have hs := pj_sum_peb I hf
      have hF := I.2.2.1 f f0 f1
      have hD := I.2.2.2.1 d d0 d1
      have hRF := R.2.1 f hf
      have hRD := R.2.2.1 d hd
      have hq : pj_isF A f ∧ pj_isD A d := ⟨hf, hd⟩
      rw [if_pos hd, if_neg (by omega), if_pos hq, xq_lying R I, Option.bind_some]
      by_cases c1 : A 8 = 60
      · have hw : q_wrongSet A f d = 4 := by unfold q_wrongSet; rw [if_pos c1]
        rw [if_neg (by omega), hw, if_neg (by decide)]
        exact ⟨w, rfl, pj_dB.no R 4 (by decide)⟩
      · rw [if_pos (by omega), hRF.2.2.1]
        by_cases c2 : A (10 + 5 * f + 2) = 0
        · have hw : q_wrongSet A f d = 6 := by unfold q_wrongSet; rw [if_neg c1, if_pos c2]
          rw [if_pos c2, hw, if_neg (by decide)]
          exact ⟨w, rfl, pj_dB.no R 6 (by decide)⟩
        · rw [if_neg c2, hRF.1, hRD.1]
          by_cases c4 : A (10 + 5 * f) = A (40 + 3 * d)
          · rw [if_pos c4]
            by_cases c3 : pj_there A d
            · have hw : q_wrongSet A f d = 0 := by unfold q_wrongSet; rw [if_neg c1, if_neg c2, if_pos ⟨c3, c4⟩]
              rw [if_neg (by rw [R.th hd]; exact fun x => x c3), if_pos hw]
              have I2 := q_peb_IV I hf (v := A (10 + 5 * f + 2) - 1) (by omega) (by omega)
              have R2 := R.peb I hf (v := A (10 + 5 * f + 2) - 1)
              have hne : ∀ x, x ≠ 10 + 5 * f + 2 → q_peb A f (A (10 + 5 * f + 2) - 1) x = A x := fun x hx => q_up_ne _ _ hx
              have hmn : pj_many (q_peb A f (A (10 + 5 * f + 2) - 1)) d = pj_many A d := hne _ (by omega)
              obtain ⟨w2, e, r2, fr, _, _, e6⟩ := xr_ins R2 I2 (d := d) (who := f) (m := A (10 + 5 * f + 3)) (by rw [pj_isD, hne 2 (by omega)]; exact hd) (by rw [hmn]; omega)
              rw [pj_wr_id (by omega) (by omega), pj_set_ne (by decide), hRF.2.2.2.1, e, Option.bind_some]
              unfold fB_done
              refine ⟨pj_set w2 19 b 9 (w2 23 (8 * b + d) 6), rfl, r2.out _, ?_, fun _ => ?_⟩
              · exact (((pj_fr.refl b w).set _ _ (Or.inr (Or.inl ⟨rfl, by omega, by omega⟩))).trans fr).set _ _ (Or.inl ⟨rfl, rfl⟩)
              · exact pj_set_at.trans (e6.trans (by rw [hmn]))
            · have hw : q_wrongSet A f d = 7 := by unfold q_wrongSet; rw [if_neg c1, if_neg c2, if_neg (fun x => c3 x.1)]
              rw [if_pos ((R.th hd).mpr c3), hw, if_neg (by decide)]
              exact ⟨w, rfl, pj_dB.no R 7 (by decide)⟩
          · have hw : q_wrongSet A f d = 7 := by unfold q_wrongSet; rw [if_neg c1, if_neg c2, if_neg (fun x => c4 x.2)]
            rw [if_neg c4, hw, if_neg (by decide)]
            exact ⟨w, rfl, pj_dB.no R 7 (by decide)⟩
    · rw [if_neg hd, if_pos (by omega), if_neg (fun x => hd x.2)]
      exact ⟨w, rfl, pj_dB.no R 1 (by decide)⟩
  · rw [if_neg hf, if_pos (by omega), if_neg (fun x => hf x.1)]
    exact ⟨w, rfl, pj_dB.no R 1 (by decide)⟩
theorem xs_set {w : pj_W} {A : pj_Q} (R : pj_RB (w 10 0 10) w A) (I : pj_IV A) (hb : 0 ≤ w 10 0 10) (f d : Int) : pj_xD w (fX_set f d w) (q_set A f d) := by
  obtain ⟨w', e, d'⟩ := xc_layOn R I hb f d
  unfold fX_set
  rw [if_pos hb, e, Option.bind_some]
  dsimp only
  rw [xs_settle hb d']
  exact ⟨w', rfl, d'⟩
