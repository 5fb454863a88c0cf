/-! TRAYS -/
def pj_tr1 (w : pj_W) (t : Int) : Prop := (w 25 t 1 = 0 ∧ w 63 0 t = w 25 t 3 ∧ 0 ≤ w 25 t 3 ∧ w 25 t 3 ≤ 60 ∧ w 62 0 t = w 25 t 2 ∧ ∀ i, 0 ≤ i → i < w 25 t 3 → w 64 0 (60 * t + i) = w 52 t i) ∨ (w 25 t 1 = 1 ∧ w 63 0 t = -1)
def pj_RT (w : pj_W) : Prop := ∀ t : Int, 0 ≤ t → t < 4 → pj_tr1 w t
/-- what a call on trays may change -/
def pj_onT (k : Nat) (i s : Int) : Prop := k = 25 ∨ k = 52 ∨ k = 62 ∨ k = 63 ∨ k = 64 ∨ (k = 10 ∧ i = 0 ∧ s = 15) ∨ (k = 26 ∧ i = 0 ∧ s = 2)
/-- both answer alike; the trays stay alike -/
def pj_tB (w : pj_W) (fx fm : pj_W → Option (Int × pj_W)) : Prop := ∃ a w1 w2, fx w = some (a, w1) ∧ fm w1 = some (a, w2) ∧ pj_RT w2 ∧ w2 10 0 15 = w2 26 0 2 ∧ ∀ k i s, ¬ pj_onT k i s → w2 k i s = w k i s
theorem pj_sne {w : pj_W} {k k' : Nat} {i i' s s' v : Int} (h : ¬ (k' = k ∧ i' = i ∧ s' = s)) : pj_set w k i s v k' i' s' = w k' i' s' := if_neg h
theorem pj_RT.ex {w w' : pj_W} (T : pj_RT w) (h : ∀ k i s, k = 25 ∨ k = 52 ∨ k = 62 ∨ k = 63 ∨ k = 64 → w' k i s = w k i s) : pj_RT w' := fun t h0 h1 => by
  have := T t h0 h1
  unfold pj_tr1 at this ⊢
  rw [h 25 t 1 (by omega), h 63 0 t (by omega), h 25 t 3 (by omega), h 62 0 t (by omega), h 25 t 2 (by omega)]
  rcases this with ⟨a, b, c, d, e, f⟩ | g
  · exact Or.inl ⟨a, b, c, d, e, fun i hi hi2 => by rw [h 64 0 _ (by omega), h 52 t i (by omega)]; exact f i hi hi2⟩
  · exact Or.inr g
theorem pj_tB.no {w : pj_W} (T : pj_RT w) {fx fm : pj_W → Option (Int × pj_W)} {a y : Int} (hx : fx w = some (a, pj_set w 10 0 15 y)) (hm : ∀ u : pj_W, (∀ k i s, ¬ (k = 10 ∧ i = 0 ∧ s = 15) → u k i s = w k i s) → fm u = some (a, pj_set u 26 0 2 y)) : pj_tB w fx fm := by
  refine ⟨a, _, _, hx, hm _ (fun k i s h => pj_sne h), T.ex (fun k i s hk => ?_), ?_, fun k i s hn => ?_⟩
  · rw [pj_sne (by omega), pj_sne (by omega)]
  · rw [pj_sne (by omega), pj_set_at, pj_set_at]
  · unfold pj_onT at hn
    rw [pj_sne (by omega), pj_sne (by omega)]
theorem x_trayAt (t : Int) (w : pj_W) : fX_trayAt t w = some (if 0 ≤ t ∧ t < 4 then t else -1) := by
  unfold fX_trayAt fX_trayAt_22
  by_cases h : t < 0
  · rw [if_pos h, if_neg (by omega)]
  · by_cases h2 : 4 ≤ t
    · rw [if_neg h, if_pos h2, if_neg (by omega)]
    · rw [if_neg h, if_neg h2, if_pos (by omega), if_pos (by omega)]
theorem m_isTray (t : Int) (w : pj_W) : fM_isTray t w = some (if 0 ≤ t ∧ t < 4 then 1 else 0) := by
  unfold fM_isTray
  by_cases h : t < 0
  · rw [if_pos h, if_neg (by omega)]
  · by_cases h2 : 4 ≤ t
    · rw [if_neg h, if_pos h2, if_neg (by omega)]
    · rw [if_neg h, if_neg h2, if_pos (by omega)]
theorem x_deny {y : Int} (w : pj_W) : fX_deny y w = some (0, pj_set w 10 0 15 y) := rfl
theorem x_grant (w : pj_W) : fX_grant w = some (1, pj_set w 10 0 15 0) := rfl
theorem m_is {y : Int} (hy : y ≠ 0) (w : pj_W) : fM_is y w = some (0, pj_set w 26 0 2 y) := by
  unfold fM_is; rw [if_neg hy]
theorem m_is0 (w : pj_W) : fM_is 0 w = some (1, pj_set w 26 0 2 0) := by
  unfold fM_is; rw [if_pos rfl]
/-- a row of 0s of a length -/
def pj_zr (w : pj_W) (k : Nat) (i a n : Int) : pj_W := fun k' i' s => if k' = k ∧ i' = i ∧ a ≤ s ∧ s < a + n then 0 else w k' i' s
theorem pj_zne {w : pj_W} {k k' : Nat} {i i' a n s : Int} (h : ¬ (k' = k ∧ i' = i ∧ a ≤ s ∧ s < a + n)) : pj_zr w k i a n k' i' s = w k' i' s := if_neg h
theorem pj_zat {w : pj_W} {k : Nat} {i a n s : Int} (h : a ≤ s) (h2 : s < a + n) : pj_zr w k i a n k i s = 0 := if_pos ⟨rfl, rfl, h, h2⟩
theorem pj_zr_0 (w : pj_W) (k : Nat) (i a : Int) : pj_zr w k i a 0 = w := by
  funext k' i' s
  unfold pj_zr
  rw [if_neg (by omega)]
theorem pj_zr_st (w : pj_W) (k : Nat) (i a : Int) {n : Int} (hn : 0 ≤ n) : pj_set (pj_zr w k i a n) k i (a + n) 0 = pj_zr w k i a (n + 1) := by
  funext k' i' s
  unfold pj_set pj_zr
  by_cases h : k' = k ∧ i' = i ∧ s = a + n
  · rw [if_pos h, if_pos ⟨h.1, h.2.1, by omega, by omega⟩]
  · rw [if_neg h]
    by_cases h2 : k' = k ∧ i' = i ∧ a ≤ s ∧ s < a + n
    · rw [if_pos h2, if_pos ⟨h2.1, h2.2.1, by omega, by omega⟩]
    · rw [if_neg h2, if_neg (fun x => by
        rcases Classical.em (s = a + n) with e | e
        · exact h ⟨x.1, x.2.1, e⟩
        · exact h2 ⟨x.1, x.2.1, x.2.2.1, by omega⟩)]
theorem x_lay {t so n : Int} (ht : 0 ≤ t) (w : pj_W) : fT_lay t so n w = some (pj_zr (pj_set (pj_set (pj_set w 25 t 1 0) 25 t 2 so) 25 t 3 n) 52 t 0 60) := by
  unfold fT_lay
  generalize pj_set (pj_set (pj_set w 25 t 1 0) 25 t 2 so) 25 t 3 n = v
  have h := pj_Lp_fo (body := fun q : (Int × pj_W) => fT_lay_17b t q.1 q.2) (r := pj_zr v 52 t 0 60) (fun j => ((j : Int), pj_zr v 52 t 0 j)) 60 (fun j hj => ?_) ?_
  · have e0 : (((0 : Nat) : Int), pj_zr v 52 t 0 ((0 : Nat) : Int)) = ((0 : Int), v) := by rw [show ((0 : Nat) : Int) = 0 from rfl, pj_zr_0]
    rw [e0] at h
    exact h
  · show fT_lay_17b t j (pj_zr v 52 t 0 j) = some (Sum.inl (((j + 1 : Nat) : Int), pj_zr v 52 t 0 ((j + 1 : Nat) : Int)))
    unfold fT_lay_17b
    have := pj_zr_st v 52 t 0 (n := j) (by omega)
    rw [Int.zero_add] at this
    rw [if_neg (by omega), if_pos (by omega), this, pj_wri (by omega)]; rfl
  · show fT_lay_17b t ((60 : Nat) : Int) (pj_zr v 52 t 0 60) = _
    unfold fT_lay_17b
    rw [if_pos (by omega)]
theorem tb_tray {w : pj_W} (T : pj_RT w) (t so n : Int) : pj_tB w (fX_tray t so n) (fM_tray t so n) := by
  by_cases hb : (0 ≤ t ∧ t < 4) ∧ 0 ≤ so ∧ so ≤ 3 ∧ 0 ≤ n ∧ n ≤ 60
  case neg =>
    refine pj_tB.no T (a := 0) (y := 1) ?_ (fun u hu => ?_)
    · unfold fX_tray fX_tray_31
      rw [x_trayAt, Option.bind_some, x_deny, Option.bind_some, if_pos (Or.inl rfl)]
      by_cases h : 0 ≤ t ∧ t < 4
      · rw [if_pos h, if_neg (by omega)]
        by_cases h1 : so < 0
        · rw [if_pos h1]
        · by_cases h2 : 3 < so
          · rw [if_neg h1, if_pos h2]
          · by_cases h3 : n < 0
            · rw [if_neg h1, if_neg h2, if_pos h3]
            · rw [if_neg h1, if_neg h2, if_neg h3, if_neg (by omega)]
      · rw [if_neg h, if_pos (by omega)]
    · unfold fM_tray fM_tray_26
      rw [m_isTray, Option.bind_some, m_is (by decide), Option.bind_some, if_pos (Or.inl rfl)]
      by_cases h : 0 ≤ t ∧ t < 4
      · rw [if_pos h, if_neg (by omega)]
        by_cases h1 : so < 0
        · rw [if_pos h1]
        · by_cases h2 : 3 < so
          · rw [if_neg h1, if_pos h2]
          · by_cases h3 : n < 0
            · rw [if_neg h1, if_neg h2, if_pos h3]
            · rw [if_neg h1, if_neg h2, if_neg h3, if_neg (by omega)]
      · rw [if_neg h, if_pos rfl]
  case pos =>
    obtain ⟨h, h1, h2, h3, h4⟩ := hb
    have hx : fX_tray t so n w = some (1, pj_set (pj_zr (pj_set (pj_set (pj_set w 25 t 1 0) 25 t 2 so) 25 t 3 n) 52 t 0 60) 10 0 15 0) := by
      unfold fX_tray
      rw [x_trayAt, Option.bind_some, if_pos h, if_neg (by omega), if_neg (by omega), if_neg (by omega), if_neg (by omega), if_pos h4, x_lay h.1, Option.bind_some, x_grant, Option.bind_some, if_pos (Or.inr rfl)]
    refine ⟨1, _, pj_set (pj_zr (pj_set (pj_set (pj_set (pj_zr (pj_set (pj_set (pj_set w 25 t 1 0) 25 t 2 so) 25 t 3 n) 52 t 0 60) 10 0 15 0) 62 0 t so) 63 0 t n) 64 0 (60 * t) n) 26 0 2 0, hx, ?_, ?_, ?_, ?_⟩
    · generalize pj_set (pj_zr (pj_set (pj_set (pj_set w 25 t 1 0) 25 t 2 so) 25 t 3 n) 52 t 0 60) 10 0 15 0 = v
      unfold fM_tray
      rw [m_isTray, Option.bind_some, if_pos h, if_neg (by omega), if_neg (by omega), if_neg (by omega), if_neg (by omega), if_pos h4, if_pos h]
      generalize pj_set (pj_set v 62 0 t so) 63 0 t n = u
      have hl := pj_Lp_fo (body := fun q : (Int × pj_W) => fM_tray_49b t n q.1 q.2) (r := ((1 : Int), pj_set (pj_zr u 64 0 (60 * t) n) 26 0 2 0)) (fun j => ((j : Int), pj_zr u 64 0 (60 * t) j)) n.toNat (fun j hj => ?_) ?_
      · have e0 : (((0 : Nat) : Int), pj_zr u 64 0 (60 * t) ((0 : Nat) : Int)) = ((0 : Int), u) := by rw [show ((0 : Nat) : Int) = 0 from rfl, pj_zr_0]
        rw [e0] at hl
        exact hl
      · show fM_tray_49b t n j (pj_zr u 64 0 (60 * t) j) = some (Sum.inl (((j + 1 : Nat) : Int), pj_zr u 64 0 (60 * t) ((j + 1 : Nat) : Int)))
        unfold fM_tray_49b
        rw [if_neg (by omega), pj_wr_id (x := 60 * t) (by omega) (by omega), pj_wr_id (x := 60 * t + (j : Int)) (by omega) (by omega), if_pos (by omega), pj_zr_st u 64 0 (60 * t) (by omega), pj_wri (by omega)]; rfl
      · show fM_tray_49b t n ((n.toNat : Nat) : Int) (pj_zr u 64 0 (60 * t) ((n.toNat : Nat) : Int)) = _
        unfold fM_tray_49b
        rw [Int.toNat_of_nonneg h3, if_pos (Int.le_refl _), m_is0, Option.bind_some, if_pos (Or.inr rfl)]
    · intro q hq hq2
      have hT := T q hq hq2
      unfold pj_tr1 at hT ⊢
      by_cases e : q = t
      · subst e
        refine Or.inl ?_
        have e1 : pj_set (pj_zr (pj_set (pj_set (pj_set (pj_zr (pj_set (pj_set (pj_set w 25 q 1 0) 25 q 2 so) 25 q 3 n) 52 q 0 60) 10 0 15 0) 62 0 q so) 63 0 q n) 64 0 (60 * q) n) 26 0 2 0 25 q 1 = 0 := by
          rw [pj_sne (by omega), pj_zne (by omega), pj_sne (by omega), pj_sne (by omega), pj_sne (by omega), pj_zne (by omega), pj_sne (by omega), pj_sne (by omega), pj_set_at]
        have e3 : pj_set (pj_zr (pj_set (pj_set (pj_set (pj_zr (pj_set (pj_set (pj_set w 25 q 1 0) 25 q 2 so) 25 q 3 n) 52 q 0 60) 10 0 15 0) 62 0 q so) 63 0 q n) 64 0 (60 * q) n) 26 0 2 0 25 q 3 = n := by
          rw [pj_sne (by omega), pj_zne (by omega), pj_sne (by omega), pj_sne (by omega), pj_sne (by omega), pj_zne (by omega), pj_set_at]
        have e2 : pj_set (pj_zr (pj_set (pj_set (pj_set (pj_zr (pj_set (pj_set (pj_set w 25 q 1 0) 25 q 2 so) 25 q 3 n) 52 q 0 60) 10 0 15 0) 62 0 q so) 63 0 q n) 64 0 (60 * q) n) 26 0 2 0 25 q 2 = so := by
          rw [pj_sne (by omega), pj_zne (by omega), pj_sne (by omega), pj_sne (by omega), pj_sne (by omega), pj_zne (by omega), pj_sne (by omega), pj_set_at]
        rw [e1, e2, e3]
        refine ⟨rfl, ?_, h3, h4, ?_, fun i hi hi2 => ?_⟩
        · rw [pj_sne (by omega), pj_zne (by omega), pj_set_at]
        · rw [pj_sne (by omega), pj_zne (by omega), pj_sne (by omega), pj_set_at]
        · rw [pj_sne (by omega), pj_zat (by omega) (by omega), pj_sne (by omega), pj_zne (by omega), pj_sne (by omega), pj_sne (by omega), pj_sne (by omega), pj_zat (by omega) (by omega)]
      · have ho : ∀ k i s, (k = 25 ∧ i = q) ∨ (k = 52 ∧ i = q) ∨ (k = 62 ∧ s = q) ∨ (k = 63 ∧ s = q) ∨ (k = 64 ∧ 60 * q ≤ s ∧ s < 60 * q + 60) → pj_set (pj_zr (pj_set (pj_set (pj_set (pj_zr (pj_set (pj_set (pj_set w 25 t 1 0) 25 t 2 so) 25 t 3 n) 52 t 0 60) 10 0 15 0) 62 0 t so) 63 0 t n) 64 0 (60 * t) n) 26 0 2 0 k i s = w k i s := fun k i s hk => by
          rw [pj_sne (by omega), pj_zne (by omega), pj_sne (by omega), pj_sne (by omega), pj_sne (by omega), pj_zne (by omega), pj_sne (by omega), pj_sne (by omega), pj_sne (by omega)]
        rw [ho 25 q 1 (by omega), ho 63 0 q (by omega), ho 25 q 3 (by omega), ho 62 0 q (by omega), ho 25 q 2 (by omega)]
        rcases hT with ⟨a, b, c, d, e, f⟩ | g
        · exact Or.inl ⟨a, b, c, d, e, fun i hi hi2 => by rw [ho 64 0 _ (by omega), ho 52 q i (by omega)]; exact f i hi hi2⟩
        · exact Or.inr g
    · rw [pj_set_at, pj_sne (by omega), pj_zne (by omega), pj_sne (by omega), pj_sne (by omega), pj_set_at]
    · intro k i s hn
      unfold pj_onT at hn
      rw [pj_sne (by omega), pj_zne (by omega), pj_sne (by omega), pj_sne (by omega), pj_sne (by omega), pj_zne (by omega), pj_sne (by omega), pj_sne (by omega), pj_sne (by omega)]
/-- which status a place of a tray has -/
def pj_tw (w : pj_W) (t p : Int) : Int := if 0 ≤ t ∧ t < 4 then (if w 25 t 1 = 1 then 2 else if 0 ≤ p ∧ p < w 25 t 3 then 0 else 3) else 1
theorem x_holds {t p m : Int} {w : pj_W} (h : 0 ≤ w 25 t 3) (h2 : w 25 t 3 ≤ 60) (hm : m < 2147483648) : fT_holds t p m w = some (if 0 ≤ p ∧ 0 ≤ m ∧ p ≤ w 25 t 3 - m then 1 else 0) := by
  unfold fT_holds
  by_cases c1 : p < 0
  · rw [if_pos c1, if_neg (by omega)]
  · by_cases c2 : m < 0
    · rw [if_neg c1, if_pos c2, if_neg (by omega)]
    · rw [if_neg c1, if_neg c2, pj_wr_id (by omega) (by omega)]
      by_cases c3 : w 25 t 3 - m < p
      · rw [if_pos c3, if_neg (by omega)]
      · rw [if_neg c3, if_pos (by omega)]
theorem m_wrongPlace {w u : pj_W} (T : pj_RT w) (t p : Int) (hu : ∀ s, u 63 0 s = w 63 0 s) : fM_wrongPlace t p u = some (pj_tw w t p) := by
  unfold fM_wrongPlace fM_wrongPlace_39 pj_tw
  rw [m_isTray, Option.bind_some]
  by_cases h : 0 ≤ t ∧ t < 4
  · rw [if_pos h, if_neg (by decide), if_pos h, if_pos h, hu]
    rcases T t h.1 h.2 with ⟨a, b, c, d, e, f⟩ | ⟨g, g2⟩
    · rw [if_neg (by omega), b, if_neg (show ¬ w 25 t 1 = 1 by omega)]
      by_cases c1 : p < 0
      · rw [if_pos c1, if_neg (by omega)]
      · rw [if_neg c1]
        by_cases c2 : p < w 25 t 3
        · rw [if_pos c2, if_pos ⟨by omega, c2⟩]
        · rw [if_neg c2, if_neg (by omega)]
    · rw [if_pos g2, if_pos g]
  · rw [if_neg h, if_pos rfl, if_neg h]
/-- a number cut to a sort -/
def pj_cut (so v : Int) : Int := if so = 0 then pj_w8 (pj_wr v) else if so = 1 then pj_w16 (pj_wr v) else if so = 2 then pj_wr v else v
theorem x_cut (t v : Int) (w : pj_W) : fT_cut t v w = some (pj_cut (w 25 t 2) v) := by
  unfold fT_cut pj_cut
  split
  · rfl
  · split
    · rfl
    · split <;> rfl
theorem m_cut (v so : Int) (w : pj_W) : fM_cut v so w = some (pj_cut so v) := by
  unfold fM_cut pj_cut
  split
  · rfl
  · split
    · rfl
    · split <;> rfl
theorem tb_write {w : pj_W} (T : pj_RT w) (t p v : Int) : pj_tB w (fX_write t p v) (fM_write t p v) := by
  by_cases hy : pj_tw w t p = 0
  case neg =>
    refine pj_tB.no T (a := 0) (y := pj_tw w t p) ?_ (fun u hu => ?_)
    · unfold fX_write
      rw [x_trayAt, Option.bind_some]
      unfold pj_tw at hy ⊢
      by_cases h : 0 ≤ t ∧ t < 4
      · rw [if_pos h] at hy
        rw [if_pos h, if_pos h, if_neg (by omega)]
        rcases T t h.1 h.2 with ⟨a, b, c, d, e, f⟩ | ⟨g, g2⟩
        · rw [if_neg (by omega)] at hy
          have hp : ¬ (0 ≤ p ∧ p < w 25 t 3) := fun x => hy (if_pos x)
          rw [if_pos a, if_neg (by omega), if_neg hp, x_holds c d (by decide), Option.bind_some, if_neg (show ¬ (0 ≤ p ∧ (0 : Int) ≤ 1 ∧ p ≤ w 25 t 3 - 1) by omega), if_pos rfl, x_deny, Option.bind_some, if_pos (Or.inl rfl)]
        · rw [if_neg (by omega), if_pos g, x_deny, Option.bind_some, if_pos (Or.inl rfl)]
      · rw [if_neg h, if_neg h, if_pos (by omega), x_deny, Option.bind_some, if_pos (Or.inl rfl)]
    · unfold fM_write fM_write_34
      rw [m_wrongPlace T t p (fun s => hu 63 0 s (by omega)), Option.bind_some, if_neg hy, m_is hy, Option.bind_some, if_pos (Or.inl rfl)]
  case pos =>
    have h : 0 ≤ t ∧ t < 4 := by
      by_cases h : 0 ≤ t ∧ t < 4
      · exact h
      · unfold pj_tw at hy; rw [if_neg h] at hy; omega
    rcases T t h.1 h.2 with ⟨a, b, c, d, e, f⟩ | ⟨g, g2⟩
    case inr => unfold pj_tw at hy; rw [if_pos h, if_pos g] at hy; omega
    have hp : 0 ≤ p ∧ p < w 25 t 3 := by
      by_cases hp : 0 ≤ p ∧ p < w 25 t 3
      · exact hp
      · unfold pj_tw at hy; rw [if_pos h, if_neg (by omega), if_neg hp] at hy; omega
    refine ⟨1, pj_set (pj_set w 52 t p (pj_cut (w 25 t 2) v)) 10 0 15 0, pj_set (pj_set (pj_set (pj_set w 52 t p (pj_cut (w 25 t 2) v)) 10 0 15 0) 64 0 (60 * t + p) (pj_cut (w 25 t 2) v)) 26 0 2 0, ?_, ?_, ?_, ?_, ?_⟩
    · unfold fX_write fT_put
      rw [x_trayAt, Option.bind_some, if_pos h, if_neg (by omega), if_pos a, x_holds c d (by decide), Option.bind_some, if_pos (show 0 ≤ p ∧ (0 : Int) ≤ 1 ∧ p ≤ w 25 t 3 - 1 by omega), if_neg (by decide), Option.bind_some, if_neg (by decide), x_cut, Option.bind_some, if_pos (by omega), Option.bind_some, x_grant, Option.bind_some, if_pos (Or.inr rfl)]
    · have h62 : pj_set (pj_set w 52 t p (pj_cut (w 25 t 2) v)) 10 0 15 0 62 0 t = w 25 t 2 := by
        rw [pj_sne (by omega), pj_sne (by omega), e]
      unfold fM_write fM_write_34
      rw [m_wrongPlace T t p (fun s => by rw [pj_sne (by omega), pj_sne (by omega)]), Option.bind_some, hy, if_pos rfl, if_pos h, m_cut, Option.bind_some, h62, pj_wr_id (x := 60 * t) (by omega) (by omega), pj_wr_id (x := 60 * t + p) (by omega) (by omega), if_pos (by omega), m_is0, Option.bind_some, if_pos (Or.inr rfl)]
    · intro q hq hq2
      have hT := T q hq hq2
      unfold pj_tr1 at hT ⊢
      have ho : ∀ k i s, k ≠ 26 → k ≠ 10 → k ≠ 64 → k ≠ 52 → pj_set (pj_set (pj_set (pj_set w 52 t p (pj_cut (w 25 t 2) v)) 10 0 15 0) 64 0 (60 * t + p) (pj_cut (w 25 t 2) v)) 26 0 2 0 k i s = w k i s := fun k i s h1 h2 h3 h4 => by
        rw [pj_sne (by omega), pj_sne (by omega), pj_sne (by omega), pj_sne (by omega)]
      rw [ho 25 q 1 (by omega) (by omega) (by omega) (by omega), ho 63 0 q (by omega) (by omega) (by omega) (by omega), ho 25 q 3 (by omega) (by omega) (by omega) (by omega), ho 62 0 q (by omega) (by omega) (by omega) (by omega), ho 25 q 2 (by omega) (by omega) (by omega) (by omega)]
      rcases hT with ⟨a1, b1, c1, d1, e1, f1⟩ | g1
      · refine Or.inl ⟨a1, b1, c1, d1, e1, fun i hi hi2 => ?_⟩
        by_cases ec : q = t ∧ i = p
        · obtain ⟨rfl, rfl⟩ := ec
          rw [pj_sne (by omega), pj_set_at, pj_sne (by omega), pj_sne (by omega), pj_sne (by omega), pj_set_at]
        · rw [pj_sne (by omega), pj_sne (by omega), pj_sne (by omega), pj_sne (by omega), pj_sne (by omega), pj_sne (by omega), pj_sne (by omega), pj_sne (by omega)]
          exact f1 i hi hi2
      · exact Or.inr g1
    · rw [pj_set_at, pj_sne (by omega), pj_sne (by omega), pj_set_at]
    · intro k i s hn
      unfold pj_onT at hn
      rw [pj_sne (by omega), pj_sne (by omega), pj_sne (by omega), pj_sne (by omega)]
theorem tb_read {w : pj_W} (T : pj_RT w) (t p : Int) : pj_tB w (fX_read t p) (fM_read t p) := by
  by_cases hy : pj_tw w t p = 0
  case neg =>
    have hpos : 0 < pj_tw w t p := by
      unfold pj_tw at hy ⊢
      split
      · split
        · omega
        · split
          · rename_i h1 h2 h3; rw [if_pos h1, if_neg h2, if_pos h3] at hy; omega
          · omega
      · omega
    refine pj_tB.no T (a := -1) (y := pj_tw w t p) ?_ (fun u hu => ?_)
    · unfold fX_read
      rw [x_trayAt, Option.bind_some]
      unfold pj_tw at hy ⊢
      by_cases h : 0 ≤ t ∧ t < 4
      · rw [if_pos h] at hy
        rw [if_pos h, if_pos h, if_neg (by omega)]
        rcases T t h.1 h.2 with ⟨a, b, c, d, e, f⟩ | ⟨g, g2⟩
        · rw [if_neg (by omega)] at hy
          have hp : ¬ (0 ≤ p ∧ p < w 25 t 3) := fun x => hy (if_pos x)
          rw [if_pos a, if_neg (by omega), if_neg hp, x_holds c d (by decide), Option.bind_some, if_neg (show ¬ (0 ≤ p ∧ (0 : Int) ≤ 1 ∧ p ≤ w 25 t 3 - 1) by omega), if_pos rfl]; rfl
        · rw [if_neg (by omega), if_pos g]; rfl
      · rw [if_neg h, if_neg h, if_pos (by omega)]; rfl
    · unfold fM_read
      rw [m_wrongPlace T t p (fun s => hu 63 0 s (by omega)), Option.bind_some, pj_set_at, if_neg (by omega)]
  case pos =>
    have h : 0 ≤ t ∧ t < 4 := by
      by_cases h : 0 ≤ t ∧ t < 4
      · exact h
      · unfold pj_tw at hy; rw [if_neg h] at hy; omega
    rcases T t h.1 h.2 with ⟨a, b, c, d, e, f⟩ | ⟨g, g2⟩
    case inr => unfold pj_tw at hy; rw [if_pos h, if_pos g] at hy; omega
    have hp : 0 ≤ p ∧ p < w 25 t 3 := by
      by_cases hp : 0 ≤ p ∧ p < w 25 t 3
      · exact hp
      · unfold pj_tw at hy; rw [if_pos h, if_neg (by omega), if_neg hp] at hy; omega
    refine pj_tB.no T (a := w 52 t p) (y := 0) ?_ (fun u hu => ?_)
    · have h3 : pj_set w 10 0 15 0 25 t 3 = w 25 t 3 := pj_sne (by omega)
      unfold fX_read fT_numberAt
      rw [x_trayAt, Option.bind_some, if_pos h, if_neg (by omega), if_pos a, x_holds c d (by decide), Option.bind_some, if_pos (show 0 ≤ p ∧ (0 : Int) ≤ 1 ∧ p ≤ w 25 t 3 - 1 by omega), if_neg (by decide), x_holds (by rw [h3]; exact c) (by rw [h3]; exact d) (by decide), h3, if_pos (show 0 ≤ p ∧ (0 : Int) ≤ 1 ∧ p ≤ w 25 t 3 - 1 by omega), Option.bind_some, if_neg (by decide), if_pos (by omega), Option.bind_some, pj_sne (by omega)]
    · unfold fM_read
      rw [m_wrongPlace T t p (fun s => hu 63 0 s (by omega)), Option.bind_some, pj_set_at, if_pos (by omega), pj_wr_id (x := 60 * t) (by omega) (by omega), pj_wr_id (x := 60 * t + p) (by omega) (by omega), if_pos (by omega), pj_sne (by omega), hu 64 0 _ (by omega), f p hp.1 hp.2, hy]
