/-! A WAVE -/
def q_empty (A : pj_Q) (d : Int) : pj_Q := q_up (q_up A 8 (A 8 - pj_many A d)) (40 + 3 * d + 2) 0
def q_wash (A : pj_Q) (c : Int) (n : Nat) : Int × pj_Q := pj_fo (fun (d : Nat) (s : Int × pj_Q) => if s.2 (40 + 3 * d) < c then (s.1 + pj_many s.2 d, q_empty s.2 d) else s) n (0, A)
def q_wave (A : pj_Q) (c : Int) : pj_R := if 0 ≤ c ∧ c ≤ 40 then (0, (q_wash A c (A 2).toNat).1, (q_wash A c (A 2).toNat).2) else (1, 0, A)
theorem q_empty_ne {A : pj_Q} {d x : Int} (h8 : x ≠ 8) (hm : x ≠ 40 + 3 * d + 2) : q_empty A d x = A x := by
  unfold q_empty
  rw [q_up_ne _ _ hm, q_up_ne _ _ h8]
theorem q_empty_many {A : pj_Q} {d : Int} : pj_many (q_empty A d) d = 0 := q_up_at _ _ _
theorem q_empty_lie {A : pj_Q} {d : Int} (hd : 0 ≤ d) : q_empty A d 8 = A 8 - pj_many A d := by
  unfold q_empty
  rw [q_up_ne _ _ (by omega), q_up_at]
theorem q_empty_IV {A : pj_Q} (I : pj_IV A) {d : Int} (hd : pj_isD A d) : pj_IV (q_empty A d) := by
  have hA := I.1
  have d0 := hd.1
  have d1 := hd.2
  have hD := I.2.2.2.1 d d0 d1
  have hP := I.2.2.2.2.2.2.2
  have h8 := I.2.2.2.2.2.2.1.2
  have hm : pj_many (q_empty A d) d = 0 := q_empty_many
  have hl := q_empty_lie (A := A) d0
  refine I.find hd (fun x h1 h2 h3 => q_empty_ne h1 h2) (Or.inr (by omega)) (by omega) (by omega) (fun j hj hj2 => by omega) (fun j l hj hjl hl => by omega) (by omega) (by omega) (by omega)
theorem q_wash_IV {A : pj_Q} (I : pj_IV A) (c : Int) {n : Nat} (hn : (n : Int) ≤ A 2) : pj_IV (q_wash A c n).2 ∧ (q_wash A c n).2 2 = A 2 ∧ (q_wash A c n).2 0 = A 0 ∧ 0 ≤ (q_wash A c n).1 ∧ (q_wash A c n).1 ≤ 60 * n := by
  have hA := I.1
  induction n with
  | zero => exact ⟨I, rfl, rfl, show (0 : Int) ≤ 0 by omega, show (0 : Int) ≤ 60 * ((0 : Nat) : Int) by omega⟩
  | succ n ih =>
    obtain ⟨J, e2, e0, h0, h1⟩ := ih (by omega)
    have hs : q_wash A c (n + 1) = if (q_wash A c n).2 (40 + 3 * n) < c then ((q_wash A c n).1 + pj_many (q_wash A c n).2 n, q_empty (q_wash A c n).2 n) else q_wash A c n := rfl
    rw [hs]
    have hd : pj_isD (q_wash A c n).2 (n : Int) := ⟨by omega, by rw [e2]; omega⟩
    have hD := J.2.2.2.1 n hd.1 hd.2
    by_cases cc : (q_wash A c n).2 (40 + 3 * n) < c
    · rw [if_pos cc]
      exact ⟨q_empty_IV J hd, by dsimp only; rw [q_empty_ne (by omega) (by omega), e2], by dsimp only; rw [q_empty_ne (by omega) (by omega), e0], by dsimp only; omega, by dsimp only; omega⟩
    · rw [if_neg cc]
      exact ⟨J, e2, e0, h0, by omega⟩
theorem mc_washes {c : Int} {w : pj_W} (I : pj_IV (w 60 0)) : fM_washes c w = some ((q_wash (w 60 0) c (w 60 0 2).toNat).1, pj_put w (q_wash (w 60 0) c (w 60 0 2).toNat).2) := by
  have hA := I.1
  unfold fM_washes
  have h := pj_Lp_fo (body := fun s : (Int × Int × pj_W) => fM_washes_4b c s.1 s.2.1 s.2.2) (r := ((q_wash (w 60 0) c (w 60 0 2).toNat).1, pj_put w (q_wash (w 60 0) c (w 60 0 2).toNat).2)) (fun i => ((q_wash (w 60 0) c i).1, (i : Int), pj_put w (q_wash (w 60 0) c i).2)) (w 60 0 2).toNat (fun i hi => ?_) ?_
  · have h0 : q_wash (w 60 0) c 0 = (0, w 60 0) := rfl
    have h2 : (((q_wash (w 60 0) c 0).1, ((0 : Nat) : Int), pj_put w (q_wash (w 60 0) c 0).2) : Int × Int × pj_W) = (0, 0, w) := by rw [h0, pj_put_self]; rfl
    unfold fM_washes_4
    rw [← h2]
    exact h
  · obtain ⟨J, e2, e0, g0, g1⟩ := q_wash_IV I c (n := i) (by omega)
    have hs : q_wash (w 60 0) c (i + 1) = if (q_wash (w 60 0) c i).2 (40 + 3 * i) < c then ((q_wash (w 60 0) c i).1 + pj_many (q_wash (w 60 0) c i).2 i, q_empty (q_wash (w 60 0) c i).2 i) else q_wash (w 60 0) c i := rfl
    have hd : pj_isD (q_wash (w 60 0) c i).2 (i : Int) := ⟨by omega, by rw [e2]; omega⟩
    have hD := J.2.2.2.1 i hd.1 hd.2
    have h8 := J.2.2.2.2.2.2.1.2
    have hm := pj_many_le J hd
    show fM_washes_4b c (q_wash (w 60 0) c i).1 i (pj_put w (q_wash (w 60 0) c i).2) = some (Sum.inl ((q_wash (w 60 0) c (i + 1)).1, _, pj_put w (q_wash (w 60 0) c (i + 1)).2))
    rw [hs]
    generalize q_wash (w 60 0) c i = q at J e2 e0 g0 g1 hd hD h8 hm ⊢
    have r2 : pj_put w q.2 60 0 2 = w 60 0 2 := by rw [pj_put_at, e2]
    have r3 : pj_put w q.2 60 0 (40 + 3 * (i : Int)) = q.2 (40 + 3 * i) := by rw [pj_put_at]
    unfold fM_washes_4b fM_washes_67
    rw [if_neg (by rw [r2]; omega), mq_findRow (by omega) (by omega) (by omega) (by omega), Option.bind_some, Int.zero_add, if_pos (by omega), pj_wri (by omega)]
    by_cases cc : q.2 (40 + 3 * (i : Int)) < c
    · rw [if_pos (by rw [r3]; exact cc), if_pos cc, mq_manyOn (by omega) (by omega), Option.bind_some, Option.bind_some, mq_findRow (by omega) (by omega) (by omega) (by omega), Option.bind_some, Int.zero_add, pj_wr_id (x := 40 + 3 * (i : Int) + 2) (by omega) (by omega), if_pos (by omega), pj_put_set, pj_put_set, pj_put_at, pj_wr_id (x := q.2 8 - pj_many q.2 i) (by omega) (by omega), pj_wr_id (x := q.1 + pj_many q.2 i) (by omega) (by omega)]
      rfl
    · rw [if_neg (by rw [r3]; exact cc), if_neg cc]
      rfl
  · obtain ⟨J, e2, e0, g0, g1⟩ := q_wash_IV I c (n := (w 60 0 2).toNat) (by omega)
    show fM_washes_4b c _ (((w 60 0 2).toNat : Nat) : Int) (pj_put w (q_wash (w 60 0) c (w 60 0 2).toNat).2) = _
    unfold fM_washes_4b
    rw [if_pos (by rw [pj_put_at, e2]; omega)]
