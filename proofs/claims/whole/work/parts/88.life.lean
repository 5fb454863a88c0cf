/-! A LIFE, in numbers alone; the model's steps -/
def lf_nx (D : Int) : Int := Int.tmod (pj_wr (pj_wr (D * 2843) + 10709)) 65536
def lf_dr (D n : Int) : Int := Int.tmod (pj_div D 8) n
abbrev pj_Z : Type := pj_Q × Int × pj_Q
def lf_inc (C : pj_Q) (i v : Int) : pj_Q := q_up C i (pj_wr (C i + v))
def lf_miss (C : pj_Q) (y : Int) : pj_Q := if y = 0 then C else lf_inc C 0 1
def lf_to (f t : Int) : Int := if t < f then t else t + 1
def lf_gull (A : pj_Q) (D : Int) (C : pj_Q) (n : Int) : pj_Z :=
  if n ≤ lf_dr (lf_nx D) 16 then (A, lf_nx D, C) else if A 2 < 2 then (A, lf_nx D, C) else
  if (q_gull A (lf_dr (lf_nx (lf_nx D)) (A 2)) (lf_to (lf_dr (lf_nx (lf_nx D)) (A 2)) (lf_dr (lf_nx (lf_nx (lf_nx D))) (A 2 - 1)))).1 = 0 then
    ((q_gull A (lf_dr (lf_nx (lf_nx D)) (A 2)) (lf_to (lf_dr (lf_nx (lf_nx D)) (A 2)) (lf_dr (lf_nx (lf_nx (lf_nx D))) (A 2 - 1)))).2.2, lf_nx (lf_nx (lf_nx D)), lf_inc C 1 1)
  else (A, lf_nx (lf_nx (lf_nx D)), C)
def lf_of (r : pj_R) (D : Int) (C : pj_Q) : pj_Z := (r.2.2, D, lf_miss C r.1)
def lf_deed (A : pj_Q) (D : Int) (C : pj_Q) (c0 one two : Int) : pj_Z :=
  if c0 = 18 then lf_of (q_go A one two) D C else if c0 = 19 then lf_of (q_set A one two) D C else if c0 = 20 then lf_of (q_pass A one two) D C else if c0 = 21 then lf_of (q_lift A one two) D C
  else if c0 = 22 then lf_gull A D C one else if c0 = 23 then ((q_wave A one).2.2, D, lf_inc C 2 (q_wave A one).2.1)
  else if c0 = 1 then (if A 6 = 99 ∨ A 7 = 0 then (A, D, lf_inc C 0 1) else (q_dawns (q_floods A), D, lf_inc C 3 1)) else (A, D, C)
def lf_hv (A : pj_Q) (c0 one two c5 : Int) : Int := if c0 = 2429 then (if pj_there A one ∧ pj_many A one = 0 then 1 else 0) else if c0 = 2415 then (if pj_and (pj_shr (q_last A two) one) 1 = 1 then 1 else 0) else if c5 = 60 then (if pj_lead A one < two then 1 else 0) else if c5 = 62 then (if two < pj_lead A one then 1 else 0) else (if pj_lead A one = two then 1 else 0)
theorem lf_nx_in (D : Int) (h : 0 ≤ D) (h2 : D < 65536) : 0 ≤ lf_nx D ∧ lf_nx D < 65536 := by
  unfold lf_nx
  rw [pj_wr_id (x := D * 2843) (by omega) (by omega), pj_wr_id (by omega) (by omega)]
  exact pj_tmod (by omega) (by decide)
theorem lf_dr_in {D n : Int} (h : 0 ≤ D) (h2 : D < 65536) (hn : 0 < n) : 0 ≤ lf_dr D n ∧ lf_dr D n < n := by
  unfold lf_dr
  rw [pj_div_id h (by omega) (by decide)]
  exact pj_tmod (Int.ediv_nonneg h (by decide)) hn
/-- the model's world in a life -/
def mw (u : pj_W) (s : Int) (A : pj_Q) (D : Int) (C L : pj_Q) : pj_W := fun k i x => if k = 60 ∧ i = 0 then A x else if k = 73 ∧ i = 0 then C x else if k = 72 ∧ i = 0 then L x else if k = 26 ∧ i = 0 ∧ x = 31 then D else if k = 26 ∧ i = 0 ∧ x = 32 then s else u k i x
section
variable {u : pj_W} {s : Int} {A : pj_Q} {D : Int} {C L : pj_Q}
theorem mw_60 : mw u s A D C L 60 0 = A := funext fun x => if_pos ⟨rfl, rfl⟩
theorem mw_73 (x : Int) : mw u s A D C L 73 0 x = C x := by unfold mw; rw [if_neg (by omega), if_pos ⟨rfl, rfl⟩]
theorem mw_72 (x : Int) : mw u s A D C L 72 0 x = L x := by unfold mw; rw [if_neg (by omega), if_neg (by omega), if_pos ⟨rfl, rfl⟩]
theorem mw_D : mw u s A D C L 26 0 31 = D := by unfold mw; rw [if_neg (by omega), if_neg (by omega), if_neg (by omega), if_pos ⟨rfl, rfl, rfl⟩]
theorem mw_s : mw u s A D C L 26 0 32 = s := by unfold mw; rw [if_neg (by omega), if_neg (by omega), if_neg (by omega), if_neg (by omega), if_pos ⟨rfl, rfl, rfl⟩]
theorem mw_put (B : pj_Q) : pj_put (mw u s A D C L) B = mw u s B D C L := by
  funext k i x
  unfold pj_put mw
  by_cases h : k = 60 ∧ i = 0
  · rw [if_pos h, if_pos h]
  · rw [if_neg h, if_neg h, if_neg h]
theorem mw_s73 (i v : Int) : pj_set (mw u s A D C L) 73 0 i v = mw u s A D (q_up C i v) L := by
  funext k j x
  unfold pj_set mw q_up
  by_cases h : k = 73 ∧ j = 0
  · by_cases hx : x = i
    · rw [if_pos ⟨h.1, h.2, hx⟩, if_neg (by omega), if_pos h, if_pos hx]
    · rw [if_neg (fun y => hx y.2.2), if_neg (by omega), if_pos h, if_neg (by omega), if_pos h, if_neg hx]
  · rw [if_neg (fun y => h ⟨y.1, y.2.1⟩), if_neg h, if_neg h]
theorem mw_s72 (i v : Int) : pj_set (mw u s A D C L) 72 0 i v = mw u s A D C (q_up L i v) := by
  funext k j x
  unfold pj_set mw q_up
  by_cases h : k = 72 ∧ j = 0
  · by_cases hx : x = i
    · rw [if_pos ⟨h.1, h.2, hx⟩, if_neg (by omega), if_neg (by omega), if_pos h, if_pos hx]
    · rw [if_neg (fun y => hx y.2.2), if_neg (by omega), if_neg (by omega), if_pos h, if_neg (by omega), if_neg (by omega), if_pos h, if_neg hx]
  · rw [if_neg (fun y => h ⟨y.1, y.2.1⟩), if_neg h, if_neg h]
theorem mw_sD (v : Int) : pj_set (mw u s A D C L) 26 0 31 v = mw u s A v C L := by
  funext k j x
  unfold pj_set mw
  by_cases h : k = 26 ∧ j = 0 ∧ x = 31
  · rw [if_pos h, if_neg (by omega), if_neg (by omega), if_neg (by omega), if_pos h]
  · rw [if_neg h, if_neg h, if_neg h]
theorem mw_ss (v : Int) : pj_set (mw u s A D C L) 26 0 32 v = mw u v A D C L := by
  funext k j x
  unfold pj_set mw
  by_cases h : k = 26 ∧ j = 0 ∧ x = 32
  · rw [if_pos h, if_neg (by omega), if_neg (by omega), if_neg (by omega), if_neg (by omega), if_pos h]
  · rw [if_neg h, if_neg h, if_neg h]
theorem m_draw {n : Int} (hn : n ≠ 0) : fM_draw n (mw u s A D C L) = some (lf_dr (lf_nx D) n, mw u s A (lf_nx D) C L) := by
  unfold fM_draw
  rw [if_pos hn, mw_D, mw_sD, mw_D]; rfl
theorem m_gullComes (I : pj_IV A) (hD : 0 ≤ D) (hD2 : D < 65536) (n : Int) : fM_gullComes n (mw u s A D C L) = some (mw u s (lf_gull A D C n).1 (lf_gull A D C n).2.1 (lf_gull A D C n).2.2 L) := by
  have hA := I.1
  have d1 := lf_nx_in D hD hD2
  have d2 := lf_nx_in _ d1.1 d1.2
  have d3 := lf_nx_in _ d2.1 d2.2
  unfold fM_gullComes lf_gull
  rw [m_draw (by decide), Option.bind_some]
  dsimp only
  by_cases c1 : n ≤ lf_dr (lf_nx D) 16
  · rw [if_pos c1, if_pos c1]
  · have e2 : mw u s A (lf_nx D) C L 60 0 2 = A 2 := by rw [mw_60]
    rw [if_neg c1, if_neg c1]
    by_cases c2 : A 2 < 2
    · rw [if_neg (by omega), if_pos c2]
    · have f1 := lf_dr_in (n := A 2) d2.1 d2.2 (by omega)
      have f2 := lf_dr_in (n := A 2 - 1) d3.1 d3.2 (by omega)
      have e3 : mw u s A (lf_nx (lf_nx D)) C L 60 0 2 = A 2 := by rw [mw_60]
      rw [if_pos (by omega), if_neg c2, e2, m_draw (by omega), Option.bind_some]
      dsimp only
      rw [e3, pj_wr_id (x := A 2 - 1) (by omega) (by omega), m_draw (by omega), Option.bind_some]
      dsimp only
      generalize lf_dr (lf_nx (lf_nx D)) (A 2) = f at f1 ⊢
      generalize lf_dr (lf_nx (lf_nx (lf_nx D))) (A 2 - 1) = t at f2 ⊢
      generalize lf_nx (lf_nx (lf_nx D)) = D3 at d3 ⊢
      unfold fM_gullComes_56
      have ht : pj_wr (t + if t < f then (0 : Int) else 1) = lf_to f t := by
        unfold lf_to
        split
        · rw [Int.add_zero, pj_wr_id (by omega) (by omega)]
        · rw [pj_wr_id (by omega) (by omega)]
      have hto : 0 ≤ lf_to f t ∧ lf_to f t < A 2 ∧ lf_to f t ≠ f := by unfold lf_to; split <;> omega
      rw [ht]
      generalize lf_to f t = e at hto ⊢
      rw [mq_wrongGull (by omega) (by omega), Option.bind_some, mw_60]
      have hq : pj_isD A f ∧ pj_isD A e ∧ f ≠ e := ⟨⟨by omega, by omega⟩, ⟨by omega, by omega⟩, fun x => hto.2.2 x.symm⟩
      by_cases c3 : q_wrongGull A f e = 0
      · have hg : q_gull A f e = (0, pj_who A f (pj_many A f - 1), q_carries A f e) := by unfold q_gull; rw [if_pos hq, if_pos c3]
        rw [hg, c3, if_pos (by decide), mc_carries (by rw [mw_60]; exact I) (by rw [mw_60]; exact hq.1) (by rw [mw_60]; exact hq.2.1) hq.2.2 (by rw [mw_60]; exact c3), Option.bind_some]
        dsimp only
        rw [if_pos rfl, mw_60, mw_put, mw_73, mw_s73]; rfl
      · have hg : q_gull A f e = (q_wrongGull A f e, 0, A) := by unfold q_gull; rw [if_pos hq, if_neg c3]
        have : ¬ q_wrongGull A f e ≤ 0 := by
          unfold q_wrongGull at c3 ⊢
          split
          · decide
          · split
            · rename_i h1 h2; rw [if_neg h1, if_pos h2] at c3; omega
            · decide
        rw [hg, if_neg this]
        dsimp only
        rw [if_neg c3]
theorem lf_ws_in (A : pj_Q) (f d : Int) : q_wrongSet A f d = 0 ∨ 0 < q_wrongSet A f d := by
  unfold q_wrongSet
  repeat' split
  all_goals omega
theorem lf_wl_in (A : pj_Q) (f d : Int) : q_wrongLift A f d = 0 ∨ 0 < q_wrongLift A f d := by
  unfold q_wrongLift
  repeat' split
  all_goals omega
/-- does a row: whether it could be, and what it made -/
theorem m_does {n : Int} {W : Int → Int} {k F S T P : Int} (I : pj_IV A) (K : pj_IK A) (hD : 0 ≤ D) (hD2 : D < 65536) (hk : 0 ≤ k) (hk2 : k < 60) (hC : -2147483648 ≤ C 0 ∧ C 0 < 2147483648)
    (r : pj_row A n W k F S T P (A (1030 + 6 * k)) (A (1030 + 6 * k + 1)) (A (1030 + 6 * k + 2)) (A (1030 + 6 * k + 4)) (A (1030 + 6 * k + 5))) :
    ∃ (y : Int) (C1 : pj_Q), fM_does (1030 + 6 * k) (mw u s A D C L) = some (y, mw u s (lf_deed A D C (A (1030 + 6 * k)) (A (1030 + 6 * k + 1)) (A (1030 + 6 * k + 2))).1 (lf_deed A D C (A (1030 + 6 * k)) (A (1030 + 6 * k + 1)) (A (1030 + 6 * k + 2))).2.1 C1 L) ∧ q_up C1 0 (pj_wr (C 0 + if y = 0 then (1 : Int) else 0)) = (lf_deed A D C (A (1030 + 6 * k)) (A (1030 + 6 * k + 1)) (A (1030 + 6 * k + 2))).2.2 := by
  have hA := I.1
  have hC0 : pj_wr (C 0 + 0) = C 0 := by rw [Int.add_zero]; exact pj_wr_id hC.1 hC.2
  have hok : q_up C 0 (pj_wr (C 0 + 0)) = C := by rw [hC0, q_up_self]
  have h6 : mw u s A D C L 60 0 = A := mw_60
  have Iw : pj_IV (mw u s A D C L 60 0) := by rw [mw_60]; exact I
  have Kw : pj_IK (mw u s A D C L 60 0) := by rw [mw_60]; exact K
  generalize h0 : A (1030 + 6 * k) = c0 at r ⊢
  generalize h1 : A (1030 + 6 * k + 1) = one at r ⊢
  generalize h2 : A (1030 + 6 * k + 2) = two at r ⊢
  unfold fM_does
  rw [pj_wr_id (x := 1030 + 6 * k + 1) (by omega) (by omega), pj_wr_id (x := 1030 + 6 * k + 2) (by omega) (by omega), if_pos (by omega), if_pos (by omega), if_pos (by omega), h6, h0, h1, h2]
  unfold lf_deed
  rcases r with ⟨_, rfl, rfl, rfl, v1, v2, v3⟩ | ⟨hh, rfl, rfl, v1, v2⟩ | ⟨_, rfl, rfl, rfl, v1, v2, v3⟩ | ⟨_, rfl, rfl, v1, v2⟩ | ⟨_, rfl, rfl, v1, v2⟩ | ⟨_, rfl⟩ | ⟨_, rfl, _⟩ | ⟨_, rfl⟩ | ⟨_, rfl, _⟩ | ⟨_, rfl, _⟩ | ⟨_, rfl, _⟩ | ⟨_, rfl, _⟩
  · simp only [Int.reduceEq, if_false, if_true]
    rw [mc_went Iw (by rw [h6]; exact v1) v2 (by rw [h6]; exact v3), Option.bind_some, h6]
    by_cases c : A (10 + 5 * F + 3) + pj_walk A F S ≤ A 3
    · have hq : q_go A F S = (0, A (10 + 5 * F + 3) + pj_walk A F S, q_went A F S) := by unfold q_go; rw [if_pos ⟨v1, v2, v3⟩, if_pos c]
      rw [if_pos c, hq]
      refine ⟨1, C, ?_, ?_⟩
      · dsimp only [lf_of]; rw [if_pos (Or.inr rfl), mw_put]
      · rw [if_neg (by decide), hok]; rfl
    · have hq : q_go A F S = (7, 0, A) := by unfold q_go; rw [if_pos ⟨v1, v2, v3⟩, if_neg c]
      rw [if_neg c, hq]
      refine ⟨0, C, ?_, ?_⟩
      · dsimp only [lf_of]; rw [if_pos (Or.inl rfl)]
      · rw [if_pos rfl]; rfl
  · rcases hh with ⟨_, rfl⟩ | ⟨_, rfl⟩
    · simp only [Int.reduceEq, if_false, if_true]
      rw [mq_wrongSet Iw (by rw [h6]; exact v1) (by rw [h6]; exact v2), Option.bind_some, h6]
      by_cases c : q_wrongSet A F S = 0
      · have hq : q_set A F S = (0, pj_many A S + 1, q_sets A F S) := by unfold q_set; rw [if_pos ⟨v1, v2⟩, if_pos c]
        have h8 := I.2.2.2.2.2.2.1.2
        have hn8 : A 8 ≠ 60 := fun x => by unfold q_wrongSet at c; rw [if_pos x] at c; omega
        rw [hq, c, if_pos (by decide), mc_sets Iw (by rw [h6]; exact v1) (by rw [h6]; exact v2) (by rw [h6]; omega), Option.bind_some, h6]
        refine ⟨1, C, ?_, ?_⟩
        · dsimp only [lf_of]; rw [mw_put]
        · rw [if_neg (by decide), hok]; rfl
      · have hq : q_set A F S = (q_wrongSet A F S, 0, A) := by unfold q_set; rw [if_pos ⟨v1, v2⟩, if_neg c]
        have := lf_ws_in A F S
        rw [hq, if_neg (by omega)]
        refine ⟨0, C, rfl, ?_⟩
        rw [if_pos rfl]
        dsimp only [lf_of, lf_miss]
        rw [if_neg c]; rfl
    · simp only [Int.reduceEq, if_false, if_true]
      rw [mq_wrongLift Iw (by rw [h6]; exact v1) (by rw [h6]; exact v2), Option.bind_some, h6]
      by_cases c : q_wrongLift A F S = 0
      · have hq : q_lift A F S = (0, pj_min A S (q_newest A F S (pj_many A S).toNat), q_lifts A F S) := by unfold q_lift; rw [if_pos ⟨v1, v2⟩, if_pos c]
        have hn := q_newest_ok I v2 c
        have hm := I.2.2.2.2.1 S _ v2.1 v2.2 hn.1 hn.2.1
        rw [hq, c, if_pos rfl, mc_lifts Iw (by rw [h6]; exact v1) (by rw [h6]; exact v2) (by rw [h6]; exact c), Option.bind_some, h6]
        refine ⟨1, C, ?_, ?_⟩
        · dsimp only [lf_of]; rw [if_neg (by omega), mw_put]
        · rw [if_neg (by decide), hok]; rfl
      · have hq : q_lift A F S = (q_wrongLift A F S, 0, A) := by unfold q_lift; rw [if_pos ⟨v1, v2⟩, if_neg c]
        rw [hq, if_neg c]
        refine ⟨0, C, rfl, ?_⟩
        rw [if_pos rfl]
        dsimp only [lf_of, lf_miss]
        rw [if_neg c]; rfl
  · simp only [Int.reduceEq, if_false, if_true]
    rw [mc_waited Iw (by rw [h6]; exact v1) (by omega) (by omega), Option.bind_some, h6]
    by_cases c : A (10 + 5 * F + 3) + S ≤ A 3
    · have hq : q_pass A F S = (0, A (10 + 5 * F + 3) + S, q_spent A F S) := by unfold q_pass; rw [if_pos ⟨v1, v2, v3⟩, if_pos c]
      rw [if_pos c, hq]
      refine ⟨1, C, ?_, ?_⟩
      · dsimp only [lf_of]; rw [if_pos (Or.inr rfl), mw_put]
      · rw [if_neg (by decide), hok]; rfl
    · have hq : q_pass A F S = (7, 0, A) := by unfold q_pass; rw [if_pos ⟨v1, v2, v3⟩, if_neg c]
      rw [if_neg c, hq]
      refine ⟨0, C, ?_, ?_⟩
      · dsimp only [lf_of]; rw [if_pos (Or.inl rfl)]
      · rw [if_pos rfl]; rfl
  · simp only [Int.reduceEq, if_false, if_true]
    rw [m_gullComes I hD hD2, Option.bind_some]
    refine ⟨1, _, rfl, ?_⟩
    rw [if_neg (by decide), hC0]
    have : (lf_gull A D C F).2.2 0 = C 0 := by
      unfold lf_gull
      split
      · rfl
      · split
        · rfl
        · split
          · show lf_inc C 1 1 0 = C 0
            exact q_up_ne C (pj_wr (C 1 + 1)) (show (0 : Int) ≠ 1 by decide)
          · rfl
    rw [← this, q_up_self]
  · simp only [Int.reduceEq, if_false, if_true]
    rw [mc_washes Iw, Option.bind_some]
    dsimp only
    have hq : q_wave A F = (0, (q_wash A F (A 2).toNat).1, (q_wash A F (A 2).toNat).2) := by unfold q_wave; rw [if_pos ⟨v1, by omega⟩]
    rw [hq, mw_put, mw_73, mw_s73, h6]
    refine ⟨1, lf_inc C 2 (q_wash A F (A 2).toNat).1, rfl, ?_⟩
    rw [if_neg (by decide), hC0]
    have : lf_inc C 2 (q_wash A F (A 2).toNat).1 0 = C 0 := by unfold lf_inc; exact q_up_ne _ _ (by omega)
    rw [← this, q_up_self]
  · simp only [Int.reduceEq, if_false, if_true]
    by_cases c1 : A 6 = 99
    · rw [if_pos c1, if_pos (Or.inl c1)]
      exact ⟨0, C, rfl, by rw [if_pos rfl]; rfl⟩
    · rw [if_neg c1]
      by_cases c2 : A 7 = 0
      · rw [if_pos c2, if_pos (Or.inr c2)]
        exact ⟨0, C, rfl, by rw [if_pos rfl]; rfl⟩
      · have J := q_tided_IV I (q_floods_is I) (by omega)
        rw [if_neg c2, if_neg (by omega), mc_floods Iw Kw, Option.bind_some, h6, mw_put, mc_dawns (by rw [mw_60]; exact J), Option.bind_some, mw_60, mw_put, mw_73, mw_s73]
        refine ⟨1, lf_inc C 3 1, rfl, ?_⟩
        rw [if_neg (by decide), hC0]
        have : lf_inc C 3 1 0 = C 0 := q_up_ne _ _ (by omega)
        rw [← this, q_up_self]
  · simp only [Int.reduceEq, if_false, if_true]
    exact ⟨1, C, rfl, by rw [if_neg (by decide), hok]⟩
  · simp only [Int.reduceEq, if_false, if_true]
    exact ⟨1, C, rfl, by rw [if_neg (by decide), hok]⟩
  · simp only [Int.reduceEq, if_false, if_true]
    exact ⟨1, C, rfl, by rw [if_neg (by decide), hok]⟩
  · simp only [Int.reduceEq, if_false, if_true]
    exact ⟨1, C, rfl, by rw [if_neg (by decide), hok]⟩
  · simp only [Int.reduceEq, if_false, if_true]
    exact ⟨1, C, rfl, by rw [if_neg (by decide), hok]⟩
  · simp only [Int.reduceEq, if_false, if_true]
    exact ⟨1, C, rfl, by rw [if_neg (by decide), hok]⟩
end
