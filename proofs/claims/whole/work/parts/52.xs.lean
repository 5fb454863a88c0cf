/-! THE CLASS'S ANSWERS -/
abbrev pj_aX (r : Int × Int) (w : pj_W) : Option (Int × pj_W) := some (r.1, pj_set w 10 0 15 r.2)
section
variable {w : pj_W} {A : pj_Q}
theorem xs_told (R : pj_RB (w 10 0 10) w A) (I : pj_IV A) (hb : 0 ≤ w 10 0 10) (k : Int) : fX_told k w = pj_aX (qs_told A k) w := by
  obtain ⟨r0, r3, r4, r5, r6, r1, r2⟩ := R.1
  unfold fX_told qs_told
  rw [xq_thereSet R I, xq_lying R I, r0, r1, r2, r3, r4, r5, r6]
  simp only [if_pos hb]
  by_cases c0 : k = 0
  · subst c0; rfl
  by_cases c1 : k = 1
  · subst c1; rfl
  by_cases c2 : k = 2
  · subst c2; rfl
  by_cases c3 : k = 3
  · subst c3; rfl
  by_cases c4 : k = 4
  · subst c4; rfl
  by_cases c5 : k = 5
  · subst c5; rfl
  by_cases c6 : k = 6
  · subst c6; rfl
  by_cases c7 : k = 7
  · subst c7; rfl
  by_cases c8 : k = 8
  · subst c8; rfl
  rw [if_neg c0, if_neg c1, if_neg c2, if_neg c3, if_neg c4, if_neg c5, if_neg c6, if_neg c7, if_neg c8, if_neg (by omega)]
  rfl
theorem xs_finder (R : pj_RB (w 10 0 10) w A) (I : pj_IV A) (hb : 0 ≤ w 10 0 10) (f k : Int) : fX_finder f k w = pj_aX (qs_finder A f k) w := by
  unfold fX_finder qs_finder
  rw [if_pos hb, xq_finderAt R I, Option.bind_some]
  by_cases c : pj_isF A f
  · obtain ⟨e1, e2, e3, e4, e5⟩ := R.2.1 f c
    rw [if_pos c, if_neg (by have := c.1; omega), e1, e2, e3, e4, e5]
    by_cases c0 : k = 0
    · subst c0; rw [if_pos rfl, if_pos ⟨c, by omega, by omega⟩, Int.add_zero]; rfl
    by_cases c1 : k = 1
    · subst c1; rw [if_neg c0, if_pos rfl, if_pos ⟨c, by omega, by omega⟩]; rfl
    by_cases c2 : k = 2
    · subst c2; rw [if_neg c0, if_neg c1, if_pos rfl, if_pos ⟨c, by omega, by omega⟩]; rfl
    by_cases c3 : k = 3
    · subst c3; rw [if_neg c0, if_neg c1, if_neg c2, if_pos rfl, if_pos ⟨c, by omega, by omega⟩]; rfl
    by_cases c4 : k = 4
    · subst c4; rw [if_neg c0, if_neg c1, if_neg c2, if_neg c3, if_pos rfl, if_pos ⟨c, by omega, by omega⟩]; rfl
    rw [if_neg c0, if_neg c1, if_neg c2, if_neg c3, if_neg c4, if_neg (by omega)]; rfl
  · rw [if_neg c, if_pos (by omega), if_neg (fun x => c x.1)]; rfl
theorem xs_find (R : pj_RB (w 10 0 10) w A) (I : pj_IV A) (hb : 0 ≤ w 10 0 10) (d k : Int) : fX_find d k w = pj_aX (qs_find A d k) w := by
  unfold fX_find qs_find
  rw [if_pos hb, xq_findAt R I, Option.bind_some]
  by_cases c : pj_isD A d
  · obtain ⟨e1, e2, e3, e4⟩ := R.2.2.1 d c
    rw [if_pos c, if_neg (by have := c.1; omega), e1, e2, e4]
    by_cases c0 : k = 0
    · subst c0; rw [if_pos rfl, if_pos ⟨c, by omega, by omega⟩, Int.add_zero]; rfl
    by_cases c1 : k = 1
    · subst c1; rw [if_neg c0, if_pos rfl, if_pos ⟨c, by omega, by omega⟩]; rfl
    by_cases c2 : k = 2
    · subst c2; rw [if_neg c0, if_neg c1, if_pos rfl, if_pos ⟨c, by omega, by omega⟩]; rfl
    rw [if_neg c0, if_neg c1, if_neg c2, if_neg (by omega)]; rfl
  · rw [if_neg c, if_pos (by omega), if_neg (fun x => c x.1)]; rfl
theorem xq_has (R : pj_RB (w 10 0 10) w A) {d : Int} (h : pj_isD A d) (k : Int) : fN_has (8 * (w 10 0 10) + d) k w = some (if 0 ≤ k ∧ k < pj_many A d then 1 else 0) := by
  have h6 : w 23 (8 * (w 10 0 10) + d) 6 = pj_many A d := (R.2.2.1 d h).2.2.2
  unfold fN_has
  rw [h6]
  by_cases c : k < 0
  · rw [if_pos c, if_neg (by omega)]
  · by_cases c2 : pj_many A d ≤ k
    · rw [if_neg c, if_pos c2, if_neg (by omega)]
    · rw [if_neg c, if_neg c2, if_pos (by omega)]
theorem xs_pebble (R : pj_RB (w 10 0 10) w A) (I : pj_IV A) (hb : 0 ≤ w 10 0 10) (d k j : Int) : fX_pebble d k j w = pj_aX (qs_pebble A d k j) w := by
  unfold fX_pebble fX_pebble_24 fX_pebble_68 qs_pebble
  rw [if_pos hb, xq_findAt R I, Option.bind_some]
  by_cases c : pj_isD A d
  · have hD := I.2.2.2.1 d c.1 c.2
    rw [if_pos c, if_neg (by have := c.1; omega)]
    by_cases c1 : j < 0
    · rw [if_pos c1, if_neg (by omega)]; rfl
    · by_cases c2 : j ≤ 1
      · rw [if_neg c1, if_pos c2, xq_has R c, Option.bind_some, if_pos (⟨c, by omega, c2⟩ : pj_isD A d ∧ 0 ≤ j ∧ j ≤ 1)]
        by_cases c3 : 0 ≤ k ∧ k < pj_many A d
        · obtain ⟨k1, k2⟩ := R.2.2.2 d k c c3.1 c3.2
          rw [if_pos c3, if_neg (by omega), if_pos c3, k1, k2]
          by_cases c4 : j = 0
          · rw [if_pos c4, if_pos (by omega), c4, Int.add_zero]; rfl
          · have : j = 1 := by omega
            rw [if_neg c4, if_pos (by omega), this]; rfl
        · rw [if_neg c3, if_pos rfl, if_neg c3]; rfl
      · rw [if_neg c1, if_neg c2, if_neg (by omega)]; rfl
  · rw [if_neg c, if_pos (by omega), if_neg (fun x => c x.1)]; rfl
theorem xs_last (R : pj_RB (w 10 0 10) w A) (I : pj_IV A) (hb : 0 ≤ w 10 0 10) (d : Int) : fX_last d w = pj_aX (qs_onD A d (q_last A d)) w := by
  unfold fX_last qs_onD
  rw [if_pos hb, xq_findAt R I, Option.bind_some]
  by_cases c : pj_isD A d
  · rw [if_pos c, if_pos c, if_neg (by have := c.1; omega)]
    by_cases c1 : pj_there A d
    · rw [if_neg (by rw [R.th c]; exact fun x => x c1), if_pos c1, xq_lastSet R I c]; rfl
    · rw [if_pos ((R.th c).mpr c1), if_neg c1]; rfl
  · rw [if_neg c, if_neg c, if_pos (by omega)]; rfl
theorem xs_whose (R : pj_RB (w 10 0 10) w A) (I : pj_IV A) (hb : 0 ≤ w 10 0 10) (d : Int) : fX_whose d w = pj_aX (qs_onD A d (pj_own A d)) w := by
  unfold fX_whose qs_onD
  rw [if_pos hb, xq_findAt R I, Option.bind_some]
  by_cases c : pj_isD A d
  · rw [if_pos c, if_pos c, if_neg (by have := c.1; omega)]
    by_cases c1 : pj_there A d
    · rw [if_neg (by rw [R.th c]; exact fun x => x c1), if_pos c1, xq_heirs R I hb c]; rfl
    · rw [if_pos ((R.th c).mpr c1), if_neg c1]; rfl
  · rw [if_neg c, if_neg c, if_pos (by omega)]; rfl
theorem xs_threat (R : pj_RB (w 10 0 10) w A) (I : pj_IV A) (hb : 0 ≤ w 10 0 10) (d : Int) : fX_threat d w = pj_aX (qs_onD A d (pj_thr A d)) w := by
  unfold fX_threat qs_onD
  rw [if_pos hb, xq_findAt R I, Option.bind_some]
  by_cases c : pj_isD A d
  · rw [if_pos c, if_pos c, if_neg (by have := c.1; omega)]
    by_cases c1 : pj_there A d
    · rw [if_neg (by rw [R.th c]; exact fun x => x c1), if_pos c1, xq_threatTo R I hb c]; rfl
    · rw [if_pos ((R.th c).mpr c1), if_neg c1]; rfl
  · rw [if_neg c, if_neg c, if_pos (by omega)]; rfl
theorem xs_leads (R : pj_RB (w 10 0 10) w A) (I : pj_IV A) (hb : 0 ≤ w 10 0 10) (f : Int) : fX_leads f w = pj_aX (qs_onF A f (pj_lead A f)) w := by
  have hA := I.1
  unfold fX_leads qs_onF
  rw [if_pos hb, xq_finderAt R I, Option.bind_some]
  by_cases c : pj_isF A f
  · rw [if_pos c, if_pos c, if_neg (by have := c.1; omega), xq_leadOf R I hb c.1 (by have := c.2; omega)]; rfl
  · rw [if_neg c, if_neg c, if_pos (by omega)]; rfl
theorem xs_or (v : Int) (w : pj_W) : (if v = -1 then (fX_refuse 6 w).bind fun p5 => (some (p5.1, p5.2)) else (fX_answer v w).bind fun p7 => (some (p7.1, p7.2))) = pj_aX (qs_or v) w := by
  unfold qs_or
  by_cases c : v = -1
  · rw [if_pos c, if_pos c]; rfl
  · rw [if_neg c, if_neg c]; rfl
theorem xs_leader (R : pj_RB (w 10 0 10) w A) (I : pj_IV A) (hb : 0 ≤ w 10 0 10) : fX_leader w = pj_aX (qs_or (pj_rank A 0)) w := by
  unfold fX_leader
  rw [if_pos hb, xq_ranking R I hb, Option.bind_some]
  exact xs_or _ w
theorem xs_ranked (R : pj_RB (w 10 0 10) w A) (I : pj_IV A) (hb : 0 ≤ w 10 0 10) (k : Int) : fX_ranked k w = pj_aX (qs_or (pj_rank A k)) w := by
  unfold fX_ranked
  rw [if_pos hb, xq_ranking R I hb, Option.bind_some]
  exact xs_or _ w
theorem xs_strewn (R : pj_RB (w 10 0 10) w A) (I : pj_IV A) (hb : 0 ≤ w 10 0 10) (f : Int) : fX_strewn f w = pj_aX (qs_onF A f (pj_strewn A f)) w := by
  unfold fX_strewn qs_onF
  rw [if_pos hb, xq_finderAt R I, Option.bind_some]
  by_cases c : pj_isF A f
  · rw [if_pos c, if_pos c, if_neg (by have := c.1; omega), xq_strewnBy R I]; rfl
  · rw [if_neg c, if_neg c, if_pos (by omega)]; rfl
theorem xs_needs (R : pj_RB (w 10 0 10) w A) (I : pj_IV A) (hb : 0 ≤ w 10 0 10) (f : Int) : fX_needs f w = pj_aX (qs_onF A f (pj_needs A f)) w := by
  have hA := I.1
  have h8 : w 19 (w 10 0 10) 8 = A 2 := R.1.2.2.2.2.2.2
  unfold fX_needs qs_onF
  rw [if_pos hb, xq_finderAt R I, Option.bind_some]
  by_cases c : pj_isF A f
  · rw [if_pos c, if_pos c, if_neg (by have := c.1; omega)]
    refine pj_Lp_cnt (fun d => pj_there A d ∧ q_last A d ≠ pj_shl 1 f) (A 2).toNat (by omega) (fun i hi a => ?_) ?_
    · show fX_needs_21b f w a i = _
      have hi' : pj_isD A (i : Int) := ⟨by omega, by omega⟩
      unfold fX_needs_21b fX_needs_65
      rw [if_pos hb, h8, if_neg (by omega), if_pos (by omega), pj_wri (by omega), xq_lastSet R I hi']
      by_cases c1 : pj_there A i
      · rw [if_neg (by rw [R.th hi']; exact fun x => x c1), Option.bind_some]
        by_cases c2 : q_last A i = pj_shl 1 f
        · rw [if_pos c2, if_neg (fun x => x.2 c2)]
        · rw [if_neg c2, if_pos ⟨c1, c2⟩]
      · rw [if_pos ((R.th hi').mpr c1), if_neg (fun x => c1 x.1)]
    · show fX_needs_21b f w _ _ = _
      unfold fX_needs_21b
      rw [if_pos hb, h8, if_pos (by omega)]; rfl
  · rw [if_neg c, if_neg c, if_pos (by omega)]; rfl
theorem xs_duels (R : pj_RB (w 10 0 10) w A) (I : pj_IV A) (hb : 0 ≤ w 10 0 10) : fX_duels w = pj_aX (pj_duels A, 0) w := by
  have hA := I.1
  have h8 : w 19 (w 10 0 10) 8 = A 2 := R.1.2.2.2.2.2.2
  unfold fX_duels
  refine pj_Lp_un (fun d => 1 < pj_pc (q_last A d)) (A 2).toNat (by omega) (fun i hi a ha ha2 => ?_) ?_
  · show fX_duels_4b w a i = _
    have hi' : pj_isD A (i : Int) := ⟨by omega, by omega⟩
    have hl := pj_last_in I hi'.1 hi'.2
    unfold fX_duels_4b fX_duels_40
    rw [if_pos hb, h8, if_neg (by omega), if_pos (by omega), pj_wri (by omega), xq_lastSet R I hi', Option.bind_some, xq_bitCount hl.1 (by omega), Option.bind_some]
    by_cases c : pj_pc (q_last A i) ≤ 1
    · rw [if_pos c, if_neg (by omega)]
    · rw [if_neg c, if_pos (by omega)]
  · show fX_duels_4b w _ _ = _
    unfold fX_duels_4b
    rw [if_pos hb, h8, if_pos (by omega)]; rfl
theorem pj_last_shl (I : pj_IV A) {f d : Int} (hf : pj_isF A f) (h : pj_isD A d) (e : q_last A d = pj_shl 1 f) : pj_there A d := by
  have hA := I.1
  by_cases c : pj_there A d
  · exact c
  · rw [pj_last_0 (pj_notThere I h c), pj_shl1 hf.1 (by have := hf.2; omega)] at e
    have := Int.pow_pos (n := 2) (m := f.toNat) (by decide)
    omega
theorem xs_safe (R : pj_RB (w 10 0 10) w A) (I : pj_IV A) (hb : 0 ≤ w 10 0 10) (f : Int) : fX_safe f w = pj_aX (qs_onF A f (pj_safe A f)) w := by
  have hA := I.1
  have h8 : w 19 (w 10 0 10) 8 = A 2 := R.1.2.2.2.2.2.2
  unfold fX_safe qs_onF
  rw [if_pos hb, xq_finderAt R I, Option.bind_some]
  by_cases c : pj_isF A f
  · rw [if_pos c, if_pos c, if_neg (by have := c.1; omega)]
    refine pj_Lp_un (fun d => pj_there A d ∧ q_last A d = pj_shl 1 f ∧ pj_and (pj_thr A d) (pj_xor (pj_shl 1 f) (-1)) = 0) (A 2).toNat (by omega) (fun i hi a ha ha2 => ?_) ?_
    · show fX_safe_26b (pj_shl 1 f) w a i = _
      have hi' : pj_isD A (i : Int) := ⟨by omega, by omega⟩
      unfold fX_safe_26b fX_safe_82
      rw [if_pos hb, h8, if_neg (by omega), if_pos (by omega), pj_wri (by omega), xq_lastSet R I hi', Option.bind_some]
      by_cases c2 : q_last A i = pj_shl 1 f
      · have hth := pj_last_shl I c hi' c2
        rw [if_pos c2, xq_threatTo R I hb hi', Option.bind_some]
        by_cases c3 : pj_and (pj_thr A i) (pj_xor (pj_shl 1 f) (-1)) = 0
        · rw [if_pos c3, if_pos ⟨hth, c2, c3⟩]
        · rw [if_neg c3, if_neg (fun x => c3 x.2.2)]
      · rw [if_neg c2, if_neg (fun x => c2 x.2.1)]
    · show fX_safe_26b (pj_shl 1 f) w _ _ = _
      unfold fX_safe_26b
      rw [if_pos hb, h8, if_pos (by omega)]; rfl
  · rw [if_neg c, if_neg c, if_pos (by omega)]; rfl
theorem xs_lies (R : pj_RB (w 10 0 10) w A) (I : pj_IV A) (hb : 0 ≤ w 10 0 10) (f k : Int) : fX_lies f k w = pj_aX (if pj_isF A f then pj_lies A f k else (-1, 1)) w := by
  have hA := I.1
  have h8 : w 19 (w 10 0 10) 8 = A 2 := R.1.2.2.2.2.2.2
  unfold fX_lies pj_lies
  rw [if_pos hb, xq_finderAt R I, Option.bind_some]
  by_cases c : pj_isF A f
  · rw [if_pos c, if_pos c, if_neg (by have := c.1; omega)]
    refine (pj_Lp_ff (fun i : Nat => (pj_sum (fun d => pj_tal A f d) i, (i : Int))) (fun d => 0 ≤ k ∧ k < pj_sum (fun d => pj_tal A f d) (d + 1)) (A 2).toNat (r := fun d => ((d : Int), pj_set w 10 0 15 0)) (e := (-1, pj_set w 10 0 15 6)) (fun i hi hp => ?_) (fun i hi hp => ?_) ?_).trans ?_
    · show fX_lies_22b f k w _ i = some (Sum.inl (pj_sum (fun d => pj_tal A f d) i + pj_tal A f i, _))
      have h1 := pj_sum_in' I f (n := i) (by omega)
      have h2 := pj_tal_in I f (d := (i : Int)) (by omega) (by omega)
      have h3 : pj_sum (fun d => pj_tal A f d) (i + 1) = pj_sum (fun d => pj_tal A f d) i + pj_tal A f i := rfl
      rw [h3] at hp
      unfold fX_lies_22b fX_lies_67
      dsimp only
      rw [if_pos hb, h8, if_neg (by omega), if_pos (by omega), xq_tallyOf R I f ⟨by omega, by omega⟩, Option.bind_some, pj_wr_id (by omega) (by omega), pj_wri (by omega)]
      by_cases c1 : k < 0
      · rw [if_pos c1]; rfl
      · rw [if_neg c1, if_pos (by omega)]; rfl
    · show fX_lies_22b f k w _ i = _
      have h1 := pj_sum_in' I f (n := i) (by omega)
      have h2 := pj_tal_in I f (d := (i : Int)) (by omega) (by omega)
      have h3 : pj_sum (fun d => pj_tal A f d) (i + 1) = pj_sum (fun d => pj_tal A f d) i + pj_tal A f i := rfl
      rw [h3] at hp
      unfold fX_lies_22b fX_lies_67
      dsimp only
      rw [if_pos hb, h8, if_neg (by omega), if_pos (by omega), xq_tallyOf R I f ⟨by omega, by omega⟩, Option.bind_some, pj_wr_id (by omega) (by omega), if_neg (by omega), if_neg (by omega)]; rfl
    · show fX_lies_22b f k w _ _ = _
      unfold fX_lies_22b
      rw [if_pos hb, h8, if_pos (by omega)]; rfl
    · by_cases c1 : 0 ≤ k
      · rw [if_pos c1, pj_ff_ex (q := fun d => k < pj_sum (fun d => pj_tal A f d) (d + 1)) (fun i _ _ => ⟨fun x => x.2, fun x => ⟨c1, x⟩⟩)]
        cases pj_ff (fun d => k < pj_sum (fun d => pj_tal A f d) (d + 1)) 0 (A 2).toNat <;> rfl
      · rw [if_neg c1]
        cases hq : pj_ff (fun d => 0 ≤ k ∧ k < pj_sum (fun d => pj_tal A f d) (d + 1)) 0 (A 2).toNat with
        | none => rfl
        | some i => exact absurd (pj_ff_some hq).2.2.1.1 c1
  · rw [if_neg c, if_neg c, if_pos (by omega)]; rfl
end
