/-! A PEBBLE GOES: bounds and relation -/
theorem q_del_out {A : pj_Q} {d k x : Int} (hk : 0 ≤ k) (hn : pj_many A d ≤ 60) (h8 : x ≠ 8) (hm : x ≠ 40 + 3 * d + 2) (h : x < 64 + 120 * d ∨ 64 + 120 * d + 120 ≤ x) : q_del A d k x = A x := by
  unfold pj_many at hn
  unfold q_del
  rw [q_sl_no (by omega), q_less, q_up_ne _ _ h8, q_up_ne _ _ hm]
theorem q_del_many {A : pj_Q} {d k : Int} (hd : 0 ≤ d) (hk : 0 ≤ k) : pj_many (q_del A d k) d = pj_many A d - 1 := by
  unfold pj_many q_del
  rw [q_sl_no (by omega), q_less, q_up_ne _ _ (by omega), q_up_at]
theorem q_del_lie {A : pj_Q} {d k : Int} (hd : 0 ≤ d) (hk : 0 ≤ k) : q_del A d k 8 = A 8 - 1 := by
  unfold q_del
  rw [q_sl_no (by omega), q_less, q_up_at]
theorem q_sl_yes {A : pj_Q} {r k n x : Int} (h : r + 2 * k ≤ x ∧ x < r + 2 * n) : q_sl A r k n x = A (x + 2) := if_pos h
theorem q_del_peb {A : pj_Q} {d k j : Int} (hd : 0 ≤ d) (hd2 : d < 8) (hk : 0 ≤ k) (hn : pj_many A d ≤ 60) (hj : 0 ≤ j) (hj2 : j < pj_many A d - 1) :
    pj_who (q_del A d k) d j = pj_who A d (if j < k then j else j + 1) ∧ pj_min (q_del A d k) d j = pj_min A d (if j < k then j else j + 1) := by
  unfold pj_many at hn hj2
  unfold pj_who pj_min q_del
  by_cases c : j < k
  · rw [if_pos c, q_sl_no (by omega), q_sl_no (by omega), q_less, q_up_ne _ _ (by omega), q_up_ne _ _ (by omega), q_up_ne _ _ (by omega), q_up_ne _ _ (by omega)]
    exact ⟨rfl, rfl⟩
  · rw [if_neg c, q_sl_yes (by omega), q_sl_yes (by omega), q_less, q_up_ne _ _ (by omega), q_up_ne _ _ (by omega), q_up_ne _ _ (by omega), q_up_ne _ _ (by omega)]
    exact ⟨by congr 1; omega, by congr 1; omega⟩
theorem q_del_IV {A : pj_Q} (I : pj_IV A) {d k : Int} (hd : pj_isD A d) (hk : 0 ≤ k) (hk2 : k < pj_many A d) : pj_IV (q_del A d k) := by
  have hA := I.1
  have d0 := hd.1
  have d1 := hd.2
  have hD := I.2.2.2.1 d d0 d1
  have hP := I.2.2.2.2.2.2.2
  have h8 := I.2.2.2.2.2.2.1.2
  have hmany := q_del_many (A := A) (d := d) (k := k) d0 hk
  have hlie := q_del_lie (A := A) (d := d) (k := k) d0 hk
  have hpeb := fun j h0 h1 => q_del_peb (A := A) (d := d) (k := k) (j := j) d0 (by omega) hk hD.2.2.2.2.2 h0 h1
  refine I.find hd (fun x h1 h2 h3 => q_del_out hk hD.2.2.2.2.2 h1 h2 h3) (Or.inr (by omega)) (by omega) (by omega) (fun j hj hj2 => ?_) (fun j l hj hjl hl => ?_) (by rw [hlie, hmany]; omega) (by rw [hlie]; omega) (by rw [hlie]; omega)
  · rw [(hpeb j hj (by omega)).1, (hpeb j hj (by omega)).2]
    exact I.2.2.2.2.1 d _ d0 d1 (by split <;> omega) (by split <;> omega)
  · rw [(hpeb j hj (by omega)).2, (hpeb l (by omega) (by omega)).2]
    exact I.2.2.2.2.2.1 d _ _ d0 d1 (by split <;> omega) (by split <;> split <;> omega) (by split <;> omega)
theorem x_del_peb {w : pj_W} {i k j : Int} (hj2 : j < w 23 i 6 - 1) : x_del w i k 45 i j = w 45 i (if j < k then j else j + 1) ∧ x_del w i k 46 i j = w 46 i (if j < k then j else j + 1) := by
  unfold x_del x_sl
  by_cases c : j < k
  · rw [if_pos c, if_neg (by omega), if_neg (by omega)]
    unfold pj_set
    rw [if_neg (by omega), if_neg (by omega)]
    exact ⟨rfl, rfl⟩
  · rw [if_neg c, if_pos (by omega), if_pos (by omega)]
    unfold pj_set
    rw [if_neg (by omega), if_neg (by omega)]
    exact ⟨rfl, rfl⟩
theorem xr_del {b : Int} {w : pj_W} {A : pj_Q} (R : pj_RB b w A) (I : pj_IV A) {d k : Int} (hd : pj_isD A d) (hk : 0 ≤ k) (hk2 : k < pj_many A d) :
    ∃ w', fN_removeAt (8 * b + d) k w = some w' ∧ pj_RB b w' (q_del A d k) ∧ pj_fr b w w' ∧ (∀ s, w' 19 b s = w 19 b s) ∧ (∀ i s, w' 22 i s = w 22 i s) ∧ w' 23 (8 * b + d) 6 = pj_many A d - 1 := by
  have hA := I.1
  have d0 := hd.1
  have d1 := hd.2
  have hD := I.2.2.2.1 d d0 d1
  have h6 : w 23 (8 * b + d) 6 = pj_many A d := (R.2.2.1 d hd).2.2.2
  have hmany := q_del_many (A := A) (d := d) (k := k) d0 hk
  have hx6 : x_del w (8 * b + d) k 23 (8 * b + d) 6 = pj_many A d - 1 := by unfold x_del; rw [x_sl_off (by omega), pj_set_at, h6]
  have hoff : ∀ k' i s, ¬ (k' = 23 ∧ i = 8 * b + d ∧ s = 6) → ¬ ((k' = 45 ∨ k' = 46) ∧ i = 8 * b + d) → x_del w (8 * b + d) k k' i s = w k' i s := fun k' i s h1 h2 => by
    unfold x_del x_sl pj_set
    rw [if_neg (by omega), if_neg h1]
  have hrm := xc_removeAt (i := 8 * b + d) (k := k.toNat) (w := w) (by omega) (by omega)
  rw [Int.toNat_of_nonneg hk] at hrm
  refine ⟨_, hrm, ?_, ?_, ?_, ?_, hx6⟩
  · refine R.find hd (by omega) (by omega) (fun x h1 h2 h3 => q_del_out hk hD.2.2.2.2.2 h1 h2 h3) (by omega) (fun e he => by have := I.2.2.2.1 e he.1 he.2; omega) (fun k i s _ h1 h2 => hoff k i s h1 h2) (by rw [hx6, hmany]) (fun j hj hj2 => ?_)
    have h1 := q_del_peb (A := A) (d := d) (k := k) (j := j) d0 (by omega) hk hD.2.2.2.2.2 hj (by omega)
    have h2 := x_del_peb (w := w) (i := 8 * b + d) (k := k) (j := j) (by omega)
    rw [h1.1, h1.2, h2.1, h2.2]
    exact R.2.2.2 d _ hd (by split <;> omega) (by split <;> omega)
  · intro k i s hni
    unfold pj_in at hni
    exact hoff k i s (by omega) (by omega)
  · exact fun s => hoff 19 b s (by omega) (by omega)
  · exact fun i s => hoff 22 i s (by omega) (by omega)
