/-! THE DAWN in the class; what all deeds keep -/
def x_dwn (w : pj_W) (b : Int) (n : Int) : pj_W := fun k i s => if k = 23 ∧ 8 * b ≤ i ∧ i < 8 * b + n ∧ s = 5 then 1 else w k i s
theorem x_dwn_st (w : pj_W) (b : Int) {n : Int} (hn : 0 ≤ n) : pj_set (x_dwn w b n) 23 (8 * b + n) 5 1 = x_dwn w b (n + 1) := by
  funext k i s
  unfold pj_set x_dwn
  by_cases h1 : k = 23 ∧ i = 8 * b + n ∧ s = 5
  · rw [if_pos h1, if_pos (by omega)]
  · rw [if_neg h1]
    by_cases h3 : k = 23 ∧ 8 * b ≤ i ∧ i < 8 * b + n ∧ s = 5
    · rw [if_pos h3, if_pos (by omega)]
    · rw [if_neg h3, if_neg (by omega)]
theorem x_dwn_0 (w : pj_W) (b : Int) : x_dwn w b 0 = w := by
  funext k i s
  unfold x_dwn
  rw [if_neg (by omega)]
theorem pj_all_there {n : Nat} (hn : n ≤ 8) {d : Int} (hd : 0 ≤ d) (hd2 : d < n) : pj_and (pj_shr ((2 : Int) ^ n - 1) d) 1 = 1 := by
  have hp : (2 : Int) ^ n - 1 = ((2 ^ n - 1 : Nat) : Int) := by
    have := Nat.two_pow_pos n
    rw [Int.ofNat_sub (by omega), Int.natCast_pow]; rfl
  have h256 : 2 ^ n ≤ 2 ^ 8 := Nat.pow_le_pow_right (by decide) (by omega)
  have := pj_bit_n (s := 2 ^ n - 1) (i := d.toNat) (by omega) (by omega)
  rw [Int.toNat_of_nonneg hd] at this
  rw [hp, this, Nat.testBit_two_pow_sub_one, if_pos (by rw [decide_eq_true_eq]; omega)]
section
variable {b : Int} {w : pj_W} {A : pj_Q}
theorem xc_comeDawn (R : pj_RB b w A) (I : pj_IV A) (hb : 0 ≤ b) : ∃ w', fB_comeDawn b w = some ((q_dawn A).1, w') ∧ pj_dB b w w' (q_dawn A) := by
  have hA := I.1
  unfold fB_comeDawn q_dawn
  rw [xq_thereSet R I, Option.bind_some]
  by_cases c2 : A 7 = 0
  case neg =>
    rw [if_neg c2, if_neg c2]
    exact ⟨w, rfl, pj_dB.no R 7 (by decide)⟩
  rw [if_pos c2, if_pos c2]
  have v8 : w 19 b 8 = A 2 := R.1.2.2.2.2.2.2
  have gof : ∀ j k i t, k ≠ 23 → x_dwn w b j k i t = w k i t := fun j k i t hk => by unfold x_dwn; rw [if_neg (by omega)]
  have h := pj_Lp_fo (body := fun t : (Int × pj_W) => fB_comeDawn_12b b t.1 t.2) (r := ((0 : Int), pj_set (x_dwn w b (A 2).toNat) 19 b 9 (A 2))) (fun j => ((j : Int), x_dwn w b j)) (A 2).toNat (fun j hj => ?_) ?_
  · have e0 : (((0 : Nat) : Int), x_dwn w b ((0 : Nat) : Int)) = ((0 : Int), w) := by rw [show ((0 : Nat) : Int) = 0 from rfl, x_dwn_0]
    rw [e0] at h
    refine ⟨pj_set (x_dwn w b (A 2).toNat) 19 b 9 (A 2), h, ?_, ?_, fun _ => pj_set_at⟩
    · refine pj_RB.out ?_ _
      show pj_RB b _ (q_dawns A)
      have hne : ∀ x, x ≠ 7 → q_dawns A x = A x := fun x h => q_up_ne _ _ h
      refine ⟨?_, fun f hf => ?_, fun d hd => ?_, fun d k hd hk hk2 => ?_⟩
      · rw [hne 0 (by omega), hne 1 (by omega), hne 2 (by omega), hne 3 (by omega), hne 4 (by omega), hne 5 (by omega), hne 6 (by omega)]
        simp only [gof _ 19 _ _ (by decide)]
        exact R.1
      · rw [pj_isF, hne 1 (by omega)] at hf
        have := hf.1
        rw [hne (10 + 5 * f) (by omega), hne (10 + 5 * f + 1) (by omega), hne (10 + 5 * f + 2) (by omega), hne (10 + 5 * f + 3) (by omega), hne (10 + 5 * f + 4) (by omega)]
        simp only [gof _ 22 _ _ (by decide)]
        exact R.2.1 f hf
      · rw [pj_isD, hne 2 (by omega)] at hd
        have := hd.1
        have := hd.2
        have hRD := R.2.2.1 d hd
        have ht : pj_there (q_dawns A) d := by
          show pj_and (pj_shr (q_dawns A 7) d) 1 = 1
          rw [q_dawns, q_up_at]
          exact pj_all_there (by omega) hd.1 (by omega)
        rw [if_pos ht, hne (40 + 3 * d) (by omega), hne (40 + 3 * d + 1) (by omega), show pj_many (q_dawns A) d = pj_many A d from hne _ (by omega)]
        unfold x_dwn
        rw [if_neg (by omega), if_neg (by omega), if_pos (by omega), if_neg (by omega)]
        exact ⟨hRD.1, hRD.2.1, rfl, hRD.2.2.2⟩
      · rw [pj_isD, hne 2 (by omega)] at hd
        have := hd.1
        rw [show pj_many (q_dawns A) d = pj_many A d from hne _ (by omega)] at hk2
        rw [show pj_who (q_dawns A) d k = pj_who A d k from hne _ (by omega), show pj_min (q_dawns A) d k = pj_min A d k from hne _ (by omega), gof _ 45 _ _ (by decide), gof _ 46 _ _ (by decide)]
        exact R.2.2.2 d k hd hk hk2
    · refine pj_fr.set ?_ _ _ (Or.inl ⟨rfl, rfl⟩)
      intro k j s hni
      unfold pj_in at hni
      unfold x_dwn
      rw [if_neg (by omega)]
  · show fB_comeDawn_12b b j (x_dwn w b j) = some (Sum.inl (((j + 1 : Nat) : Int), x_dwn w b ((j + 1 : Nat) : Int)))
    unfold fB_comeDawn_12b
    rw [gof _ 19 b 8 (by decide), v8, if_neg (by omega), if_pos (by omega), x_dwn_st w b (by omega), pj_wri (by omega)]; rfl
  · show fB_comeDawn_12b b (((A 2).toNat : Nat) : Int) (x_dwn w b (A 2).toNat) = _
    unfold fB_comeDawn_12b fB_done
    rw [gof _ 19 b 8 (by decide), v8, if_pos (by omega)]
    rfl
theorem xs_tide (R : pj_RB (w 10 0 10) w A) (I : pj_IV A) (K : pj_IK A) (hb : 0 ≤ w 10 0 10) : pj_xD w (fX_tide w) (q_tide A) := by
  obtain ⟨w', er, d'⟩ := xc_comeTide R I K hb
  unfold fX_tide
  rw [if_pos hb, er, Option.bind_some]
  dsimp only
  rw [xs_settle hb d']
  exact ⟨w', rfl, d'⟩
theorem xs_dawn (R : pj_RB (w 10 0 10) w A) (I : pj_IV A) (hb : 0 ≤ w 10 0 10) : pj_xD w (fX_dawn w) (q_dawn A) := by
  obtain ⟨w', er, d'⟩ := xc_comeDawn R I hb
  unfold fX_dawn
  rw [if_pos hb, er, Option.bind_some]
  dsimp only
  rw [xs_settle hb d']
  exact ⟨w', rfl, d'⟩
end
/-- what all deeds but tide and dawn keep; what these keep too -/
def pj_kp (A B : pj_Q) : Prop := ∀ x, (x < 8 ∨ x = 9 ∨ (10 ≤ x ∧ x < 40 ∧ x % 5 = 4) ∨ 1024 ≤ x) → B x = A x
def pj_kd (A B : pj_Q) : Prop := ∀ x, ((x < 10 ∧ x ≠ 3 ∧ x ≠ 6 ∧ x ≠ 7 ∧ x ≠ 8) ∨ 1024 ≤ x) → B x = A x
theorem pj_kp.refl (A : pj_Q) : pj_kp A A := fun _ _ => rfl
theorem pj_kp.trans {A B C : pj_Q} (h : pj_kp A B) (h' : pj_kp B C) : pj_kp A C := fun x hx => (h' x hx).trans (h x hx)
theorem pj_kd.trans {A B C : pj_Q} (h : pj_kd A B) (h' : pj_kd B C) : pj_kd A C := fun x hx => (h' x hx).trans (h x hx)
theorem pj_kp.kd {A B : pj_Q} (h : pj_kp A B) : pj_kd A B := fun x hx => h x (by omega)
theorem pj_kp.IK {A B : pj_Q} (I : pj_IV A) (K : pj_IK A) (h : pj_kp A B) : pj_IK B := fun f hf => by
  have hA := I.1
  have hf' : pj_isF A f := by unfold pj_isF at hf ⊢; rw [h 1 (by omega)] at hf; exact hf
  have := hf'.1
  have := hf'.2
  rw [h (10 + 5 * f + 4) (by omega), h 6 (by omega)]
  exact K f hf'
theorem q_go_kp {A : pj_Q} (I : pj_IV A) (f c : Int) : pj_kp A (q_go A f c).2.2 := by
  have hA := I.1
  unfold q_go
  split
  · rename_i h
    have := h.1.1
    have := h.1.2
    split
    · intro x hx
      show q_up (q_up A _ _) _ _ x = _
      rw [q_up_ne _ _ (by omega), q_up_ne _ _ (by omega)]
    · exact pj_kp.refl A
  · exact pj_kp.refl A
theorem q_pass_kp {A : pj_Q} (I : pj_IV A) (f c : Int) : pj_kp A (q_pass A f c).2.2 := by
  have hA := I.1
  unfold q_pass
  split
  · rename_i h
    have := h.1.1
    have := h.1.2
    split
    · intro x hx
      show q_up A _ _ x = _
      rw [q_up_ne _ _ (by omega)]
    · exact pj_kp.refl A
  · exact pj_kp.refl A
theorem q_ins_kp {A : pj_Q} {d who m : Int} (hd : 0 ≤ d) (hd2 : d < 8) (hm : 0 ≤ pj_many A d) (hm2 : pj_many A d ≤ 59) : pj_kp A (q_ins A 0 d who m) := fun x hx => by
  have hm0 : A (0 + 40 + 3 * d + 2) = pj_many A d := by rw [Int.zero_add]
  have hple := pj_pos_le (fun k => A (0 + 64 + 120 * d + 2 * k + 1)) m (pj_many A d).toNat
  unfold q_ins
  rw [hm0]
  exact q_put_out (by omega) (by omega) hm2 (by omega) (by omega) (by omega)
theorem q_peb_kp {A : pj_Q} {f v : Int} (hf : 0 ≤ f) (hf2 : f < 6) : pj_kp A (q_peb A f v) := fun x hx => by
  unfold q_peb
  exact q_up_ne _ _ (by omega)
theorem q_del_kp {A : pj_Q} {d k : Int} (hd : 0 ≤ d) (hd2 : d < 8) (hk : 0 ≤ k) (hn : pj_many A d ≤ 60) : pj_kp A (q_del A d k) := fun x hx => q_del_out hk hn (by omega) (by omega) (by omega)
theorem q_set_kp {A : pj_Q} (I : pj_IV A) (f d : Int) : pj_kp A (q_set A f d).2.2 := by
  have hA := I.1
  unfold q_set
  split
  · rename_i h
    have := h.1.1
    have := h.1.2
    have := h.2.1
    have := h.2.2
    split
    · rename_i h2
      have hD := I.2.2.2.1 d h.2.1 h.2.2
      have hm := pj_many_le I h.2
      have h8 := I.2.2.2.2.2.2.1.2
      have hn8 : A 8 ≠ 60 := fun x => by unfold q_wrongSet at h2; rw [if_pos x] at h2; omega
      have hpm : pj_many (q_peb A f (A (10 + 5 * f + 2) - 1)) d = pj_many A d := q_up_ne _ _ (by omega)
      exact (q_peb_kp (by omega) (by omega)).trans (q_ins_kp (by omega) (by omega) (by omega) (by omega))
    · exact pj_kp.refl A
  · exact pj_kp.refl A
theorem q_lift_kp {A : pj_Q} (I : pj_IV A) (f d : Int) : pj_kp A (q_lift A f d).2.2 := by
  have hA := I.1
  unfold q_lift
  split
  · rename_i h
    have := h.1.1
    have := h.1.2
    have := h.2.1
    have := h.2.2
    split
    · rename_i h2
      have hD := I.2.2.2.1 d h.2.1 h.2.2
      have hn := q_newest_ok I h.2 h2
      exact (q_del_kp (by omega) (by omega) hn.1 (by omega)).trans (q_peb_kp (by omega) (by omega))
    · exact pj_kp.refl A
  · exact pj_kp.refl A
theorem q_gull_kp {A : pj_Q} (I : pj_IV A) (d e : Int) : pj_kp A (q_gull A d e).2.2 := by
  have hA := I.1
  unfold q_gull
  split
  · rename_i h
    have := h.1.1
    have := h.1.2
    have := h.2.1.1
    have := h.2.1.2
    split
    · rename_i h2
      have hD := I.2.2.2.1 d h.1.1 h.1.2
      have hE := I.2.2.2.1 e h.2.1.1 h.2.1.2
      have hg := q_gull_ok I h.1 h2
      have hm : pj_many A d + pj_many A e ≤ 60 := by
        have h8 := I.2.2.2.2.2.2.1
        have hup : pj_sum (fun j => if j = d.toNat then pj_many A d else if j = e.toNat then pj_many A e else 0) (A 2).toNat = pj_sum (fun j => if j = e.toNat then pj_many A e else 0) (A 2).toNat + pj_many A d := pj_sum_up (j := d.toNat) (by omega) (fun i hi hne => if_neg hne) (by rw [if_pos rfl, if_neg (by omega)]; omega)
        have hup2 : pj_sum (fun j => if j = e.toNat then pj_many A e else 0) (A 2).toNat = pj_sum (fun _ => 0) (A 2).toNat + pj_many A e := pj_sum_up (j := e.toNat) (by omega) (fun i hi hne => if_neg hne) (by rw [if_pos rfl]; omega)
        rw [pj_sum_0 (fun i hi => rfl)] at hup2
        have hle := pj_sum_le (g := fun j => if j = d.toNat then pj_many A d else if j = e.toNat then pj_many A e else 0) (h := fun e : Nat => pj_many A e) (n := (A 2).toNat) (fun i hi => by
          have hI := I.2.2.2.1 i (by omega) (by omega)
          by_cases c : i = d.toNat
          · rw [if_pos c, c, Int.toNat_of_nonneg h.1.1]; exact Int.le_refl _
          · rw [if_neg c]
            by_cases c2 : i = e.toNat
            · rw [if_pos c2, c2, Int.toNat_of_nonneg h.2.1.1]; exact Int.le_refl _
            · rw [if_neg c2]; omega)
        omega
      have ho := q_del_other (A := A) (d := d) (k := pj_many A d - 1) (e := e) (by omega) (by omega) (by omega) (by omega) (by omega) (fun x => h.2.2 x.symm)
      exact (q_del_kp (by omega) (by omega) (by omega) (by omega)).trans (q_ins_kp (by omega) (by omega) (by omega) (by omega))
    · exact pj_kp.refl A
  · exact pj_kp.refl A
theorem q_wash_kp (A : pj_Q) (c : Int) {n : Nat} (hn : n ≤ 8) : pj_kp A (q_wash A c n).2 := by
  induction n with
  | zero => exact pj_kp.refl A
  | succ n ih =>
    have hs : q_wash A c (n + 1) = if (q_wash A c n).2 (40 + 3 * n) < c then ((q_wash A c n).1 + pj_many (q_wash A c n).2 n, q_empty (q_wash A c n).2 n) else q_wash A c n := rfl
    rw [hs]
    split
    · exact (ih (by omega)).trans (fun x hx => q_empty_ne (by omega) (by omega))
    · exact ih (by omega)
theorem q_wave_kp {A : pj_Q} (I : pj_IV A) (c : Int) : pj_kp A (q_wave A c).2.2 := by
  have hA := I.1
  unfold q_wave
  split
  · exact q_wash_kp A c (by omega)
  · exact pj_kp.refl A
theorem q_tide_kd {A : pj_Q} (I : pj_IV A) : pj_kd A (q_tide A).2.2 := by
  unfold q_tide
  split
  · exact (pj_kp.refl A).kd
  · split
    · exact (pj_kp.refl A).kd
    · exact fun x hx => (q_floods_is I).1 x (fun _ => by omega) (fun _ => by omega) (fun _ => by omega)
theorem q_dawn_kd {A : pj_Q} (I : pj_IV A) : pj_kd A (q_dawn A).2.2 := by
  unfold q_dawn
  split
  · exact fun x hx => q_up_ne _ _ (by omega)
  · exact (pj_kp.refl A).kd
theorem q_dawns_IK {A : pj_Q} (K : pj_IK A) : pj_IK (q_dawns A) := fun f hf => by
  have hne : ∀ x, x ≠ 7 → q_dawns A x = A x := fun x h => q_up_ne _ _ h
  rw [pj_isF, hne 1 (by omega)] at hf
  rw [hne (10 + 5 * f + 4) (by have := hf.1; omega), hne 6 (by omega)]
  exact K f hf
