/-! TO POUR -/
/-- which status a pouring has -/
def pj_pw (w : pj_W) (t p q a n : Int) : Int :=
  if (0 ≤ t ∧ t < 4) ∧ (0 ≤ q ∧ q < 4) ∧ 0 ≤ p ∧ 0 ≤ a ∧ 0 ≤ n then (if w 25 t 1 = 1 ∨ w 25 q 1 = 1 then 2 else if w 25 t 2 = w 25 q 2 then (if p ≤ w 25 t 3 - n ∧ a ≤ w 25 q 3 - n then 0 else 3) else 8) else 1
theorem pj_cpy_0 (w : pj_W) (k1 : Nat) (i1 s1 : Int) (k2 : Nat) (i2 s2 : Int) : pj_cpy w k1 i1 s1 k2 i2 s2 0 = w := by
  funext k i s
  unfold pj_cpy
  rw [if_neg (by omega)]
theorem pj_cpy_asc {u : pj_W} {F G i : Int} (hi : 0 ≤ i) (h : ¬ (G ≤ F + i ∧ F + i < G + i)) : pj_set (pj_cpy u 64 0 F 64 0 G i) 64 0 (G + i) (pj_cpy u 64 0 F 64 0 G i 64 0 (F + i)) = pj_cpy u 64 0 F 64 0 G (i + 1) := by
  have hr : pj_cpy u 64 0 F 64 0 G i 64 0 (F + i) = u 64 0 (F + i) := by unfold pj_cpy; rw [if_neg (by omega)]
  rw [hr]
  funext k j s
  unfold pj_set pj_cpy
  by_cases h1 : k = 64 ∧ j = 0 ∧ s = G + i
  · rw [if_pos h1, if_pos (by omega)]
    congr 1; omega
  · rw [if_neg h1]
    by_cases h2 : k = 64 ∧ j = 0 ∧ G ≤ s ∧ s < G + i
    · rw [if_pos h2, if_pos (by omega)]
    · rw [if_neg h2, if_neg (by omega)]
theorem pj_cpy_desc {u : pj_W} {F G i n : Int} (hi : 0 ≤ i) (hn : i < n) (h : ¬ (G + n - i ≤ F + (n - 1 - i) ∧ F + (n - 1 - i) < G + n)) : pj_set (pj_cpy u 64 0 (F + n - i) 64 0 (G + n - i) i) 64 0 (G + (n - 1 - i)) (pj_cpy u 64 0 (F + n - i) 64 0 (G + n - i) i 64 0 (F + (n - 1 - i))) = pj_cpy u 64 0 (F + n - (i + 1)) 64 0 (G + n - (i + 1)) (i + 1) := by
  have hr : pj_cpy u 64 0 (F + n - i) 64 0 (G + n - i) i 64 0 (F + (n - 1 - i)) = u 64 0 (F + (n - 1 - i)) := by unfold pj_cpy; rw [if_neg (by omega)]
  rw [hr]
  funext k j s
  unfold pj_set pj_cpy
  by_cases h1 : k = 64 ∧ j = 0 ∧ s = G + (n - 1 - i)
  · rw [if_pos h1, if_pos (by omega)]
    congr 1; omega
  · rw [if_neg h1]
    by_cases h2 : k = 64 ∧ j = 0 ∧ G + n - i ≤ s ∧ s < G + n - i + i
    · rw [if_pos h2, if_pos (by omega)]
      congr 1; omega
    · rw [if_neg h2, if_neg (by omega)]
theorem m_pour_lp {u : pj_W} {t p q a n : Int} (ht : 0 ≤ t ∧ t < 4) (hq : 0 ≤ q ∧ q < 4) (hp : 0 ≤ p) (ha : 0 ≤ a) (hn : 0 ≤ n) (hp2 : p + n ≤ 60) (ha2 : a + n ≤ 60) : fM_pour_118 t p q a n (0, u) = some (1, pj_set (pj_cpy u 64 0 (60 * t + p) 64 0 (60 * q + a) n) 26 0 2 0) := by
  have wr1 : pj_wr (60 * t) = 60 * t := pj_wr_id (by omega) (by omega)
  have wr2 : pj_wr (60 * q) = 60 * q := pj_wr_id (by omega) (by omega)
  have wr3 : pj_wr (60 * t + p) = 60 * t + p := pj_wr_id (by omega) (by omega)
  have wr4 : pj_wr (60 * q + a) = 60 * q + a := pj_wr_id (by omega) (by omega)
  by_cases hd : a ≤ p
  · have h := pj_Lp_fo (body := fun s : (Int × pj_W) => fM_pour_118b t p q a n s.1 s.2) (r := ((1 : Int), pj_set (pj_cpy u 64 0 (60 * t + p) 64 0 (60 * q + a) n) 26 0 2 0)) (fun j => ((j : Int), pj_cpy u 64 0 (60 * t + p) 64 0 (60 * q + a) j)) n.toNat (fun j hj => ?_) ?_
    · have e0 : (((0 : Nat) : Int), pj_cpy u 64 0 (60 * t + p) 64 0 (60 * q + a) ((0 : Nat) : Int)) = ((0 : Int), u) := by rw [show ((0 : Nat) : Int) = 0 from rfl, pj_cpy_0]
      rw [e0] at h
      exact h
    · show fM_pour_118b t p q a n j (pj_cpy u 64 0 (60 * t + p) 64 0 (60 * q + a) j) = some (Sum.inl (((j + 1 : Nat) : Int), pj_cpy u 64 0 (60 * t + p) 64 0 (60 * q + a) ((j + 1 : Nat) : Int)))
      unfold fM_pour_118b fM_pour_143
      rw [if_neg (by omega), if_pos hd, wr1, wr2, wr3, wr4, pj_wr_id (x := 60 * t + p + (j : Int)) (by omega) (by omega), pj_wr_id (x := 60 * q + a + (j : Int)) (by omega) (by omega), if_pos (by omega), if_pos (by omega), Option.bind_some, pj_cpy_asc (by omega) (by omega), pj_wri (by omega)]; rfl
    · show fM_pour_118b t p q a n ((n.toNat : Nat) : Int) (pj_cpy u 64 0 (60 * t + p) 64 0 (60 * q + a) ((n.toNat : Nat) : Int)) = _
      unfold fM_pour_118b
      rw [Int.toNat_of_nonneg hn, if_pos (Int.le_refl _), m_is0, Option.bind_some, if_pos (Or.inr rfl)]
  · have h := pj_Lp_fo (body := fun s : (Int × pj_W) => fM_pour_118b t p q a n s.1 s.2) (r := ((1 : Int), pj_set (pj_cpy u 64 0 (60 * t + p) 64 0 (60 * q + a) n) 26 0 2 0)) (fun j => ((j : Int), pj_cpy u 64 0 (60 * t + p + n - j) 64 0 (60 * q + a + n - j) j)) n.toNat (fun j hj => ?_) ?_
    · have e0 : (((0 : Nat) : Int), pj_cpy u 64 0 (60 * t + p + n - ((0 : Nat) : Int)) 64 0 (60 * q + a + n - ((0 : Nat) : Int)) ((0 : Nat) : Int)) = ((0 : Int), u) := by rw [show ((0 : Nat) : Int) = 0 from rfl, pj_cpy_0]
      rw [e0] at h
      exact h
    · show fM_pour_118b t p q a n j (pj_cpy u 64 0 (60 * t + p + n - j) 64 0 (60 * q + a + n - j) j) = some (Sum.inl (((j + 1 : Nat) : Int), pj_cpy u 64 0 (60 * t + p + n - ((j + 1 : Nat) : Int)) 64 0 (60 * q + a + n - ((j + 1 : Nat) : Int)) ((j + 1 : Nat) : Int)))
      have hs := pj_cpy_desc (u := u) (F := 60 * t + p) (G := 60 * q + a) (i := j) (n := n) (by omega) (by omega) (by omega)
      unfold fM_pour_118b fM_pour_143
      rw [if_neg (by omega), if_neg hd, wr1, wr2, wr3, wr4, pj_wr_id (x := n - 1) (by omega) (by omega), pj_wr_id (x := n - 1 - (j : Int)) (by omega) (by omega), pj_wr_id (x := 60 * t + p + (n - 1 - (j : Int))) (by omega) (by omega), pj_wr_id (x := 60 * q + a + (n - 1 - (j : Int))) (by omega) (by omega), if_pos (by omega), if_pos (by omega), Option.bind_some, hs, pj_wri (by omega)]; rfl
    · show fM_pour_118b t p q a n ((n.toNat : Nat) : Int) (pj_cpy u 64 0 (60 * t + p + n - ((n.toNat : Nat) : Int)) 64 0 (60 * q + a + n - ((n.toNat : Nat) : Int)) ((n.toNat : Nat) : Int)) = _
      unfold fM_pour_118b
      rw [Int.toNat_of_nonneg hn, if_pos (Int.le_refl _), m_is0, Option.bind_some, if_pos (Or.inr rfl), show 60 * t + p + n - n = 60 * t + p by omega, show 60 * q + a + n - n = 60 * q + a by omega]
theorem tb_pour {w : pj_W} (T : pj_RT w) (t p q a n : Int) (hn9 : n < 2147483648) (hp9 : p < 2147483648) (ha9 : a < 2147483648) : pj_tB w (fX_pour t p q a n) (fM_pour t p q a n) := by
  by_cases hy : pj_pw w t p q a n = 0
  case neg =>
    refine pj_tB.no T (a := 0) (y := pj_pw w t p q a n) ?_ (fun u hu => ?_)
    · unfold fX_pour fX_pour_38 fX_pour_60 fX_pour_109
      rw [x_trayAt, Option.bind_some, x_trayAt, Option.bind_some]
      unfold pj_pw at hy ⊢
      simp only [x_deny, Option.bind_some, true_or, if_true]
      by_cases h : (0 ≤ t ∧ t < 4) ∧ (0 ≤ q ∧ q < 4) ∧ 0 ≤ p ∧ 0 ≤ a ∧ 0 ≤ n
      · rw [if_pos h] at hy
        rw [if_pos h.1, if_pos h.2.1, if_pos h, if_neg (by omega), if_neg (by omega), if_neg (by omega), if_neg (by omega), if_pos (by omega)]
        rcases T t h.1.1 h.1.2 with ⟨a1, b1, c1, d1, e1, f1⟩ | ⟨g1, g2⟩
        · rcases T q h.2.1.1 h.2.1.2 with ⟨a2, b2, c2, d2, e2, f2⟩ | ⟨g3, g4⟩
          · rw [if_neg (by omega)] at hy
            rw [if_pos a1, if_pos a2, if_neg (show ¬ (w 25 t 1 = 1 ∨ w 25 q 1 = 1) by omega)]
            by_cases c : w 25 t 2 = w 25 q 2
            · rw [if_pos c] at hy
              have hc : ¬ (p ≤ w 25 t 3 - n ∧ a ≤ w 25 q 3 - n) := fun x => hy (if_pos x)
              rw [if_pos c, if_pos c, if_neg hc, x_holds c1 d1 hn9, Option.bind_some]
              by_cases h1 : 0 ≤ p ∧ 0 ≤ n ∧ p ≤ w 25 t 3 - n
              · rw [if_pos h1, if_neg (by decide), x_holds c2 d2 hn9, Option.bind_some, if_neg (show ¬ (0 ≤ a ∧ 0 ≤ n ∧ a ≤ w 25 q 3 - n) by omega), if_pos rfl]
              · rw [if_neg h1, if_pos rfl]
            · rw [if_neg c, if_neg c]
          · rw [if_pos a1, if_neg (by omega), if_pos (Or.inr g3)]
        · rw [if_neg (by omega), if_pos (Or.inl g1)]
      · rw [if_neg h]
        by_cases h1 : 0 ≤ t ∧ t < 4
        · rw [if_pos h1, if_neg (by omega)]
          by_cases h2 : 0 ≤ q ∧ q < 4
          · rw [if_pos h2, if_neg (by omega)]
            by_cases h3 : p < 0
            · rw [if_pos h3]
            · by_cases h4 : a < 0
              · rw [if_neg h3, if_pos h4]
              · rw [if_neg h3, if_neg h4, if_neg (by omega)]
          · rw [if_neg h2, if_pos (by omega)]
        · rw [if_neg h1, if_pos (by omega)]
    · have h63 : ∀ s, u 63 0 s = w 63 0 s := fun s => hu 63 0 s (by omega)
      have h62 : ∀ s, u 62 0 s = w 62 0 s := fun s => hu 62 0 s (by omega)
      unfold fM_pour fM_pour_28 fM_pour_54 fM_pour_109
      rw [m_isTray, Option.bind_some, m_isTray, Option.bind_some]
      unfold pj_pw at hy ⊢
      simp only [m_is (show (1 : Int) ≠ 0 by decide), m_is (show (2 : Int) ≠ 0 by decide), m_is (show (3 : Int) ≠ 0 by decide), m_is (show (8 : Int) ≠ 0 by decide), Option.bind_some, true_or, if_true, h63, h62]
      by_cases h : (0 ≤ t ∧ t < 4) ∧ (0 ≤ q ∧ q < 4) ∧ 0 ≤ p ∧ 0 ≤ a ∧ 0 ≤ n
      · rw [if_pos h] at hy
        rw [if_pos h.1, if_pos h.2.1, if_pos h, if_neg (by decide), if_neg (by decide), if_neg (by omega), if_neg (by omega), if_pos (by omega), if_pos h.1, if_pos h.2.1]
        rcases T t h.1.1 h.1.2 with ⟨a1, b1, c1, d1, e1, f1⟩ | ⟨g1, g2⟩
        · rcases T q h.2.1.1 h.2.1.2 with ⟨a2, b2, c2, d2, e2, f2⟩ | ⟨g3, g4⟩
          · rw [if_neg (by omega)] at hy
            rw [b1, b2, e1, e2, if_neg (by omega), if_neg (by omega), if_neg (show ¬ (w 25 t 1 = 1 ∨ w 25 q 1 = 1) by omega)]
            by_cases c : w 25 t 2 = w 25 q 2
            · rw [if_pos c] at hy
              have hc : ¬ (p ≤ w 25 t 3 - n ∧ a ≤ w 25 q 3 - n) := fun x => hy (if_pos x)
              rw [if_pos c, if_pos c, if_neg hc, pj_wr_id (x := w 25 t 3 - p) (by omega) (by omega), pj_wr_id (x := w 25 q 3 - a) (by omega) (by omega)]
              by_cases h1 : w 25 t 3 - p < n
              · rw [if_pos h1]
              · rw [if_neg h1, if_neg (by omega)]
            · rw [if_neg c, if_neg c]
          · rw [if_neg (by omega), if_pos g4, if_pos (Or.inr g3)]
        · rw [if_pos g2, if_pos (Or.inl g1)]
      · rw [if_neg h]
        by_cases h1 : 0 ≤ t ∧ t < 4
        · rw [if_pos h1, if_neg (by decide)]
          by_cases h2 : 0 ≤ q ∧ q < 4
          · rw [if_pos h2, if_neg (by decide)]
            by_cases h3 : p < 0
            · rw [if_pos h3]
            · by_cases h4 : a < 0
              · rw [if_neg h3, if_pos h4]
              · rw [if_neg h3, if_neg h4, if_neg (by omega)]
          · rw [if_neg h2, if_pos rfl]
        · rw [if_neg h1, if_pos rfl]
  case pos =>
    have h : (0 ≤ t ∧ t < 4) ∧ (0 ≤ q ∧ q < 4) ∧ 0 ≤ p ∧ 0 ≤ a ∧ 0 ≤ n := by
      by_cases h : (0 ≤ t ∧ t < 4) ∧ (0 ≤ q ∧ q < 4) ∧ 0 ≤ p ∧ 0 ≤ a ∧ 0 ≤ n
      · exact h
      · unfold pj_pw at hy; rw [if_neg h] at hy; omega
    unfold pj_pw at hy
    rw [if_pos h] at hy
    obtain ⟨h1, h2, hp, ha, hn⟩ := h
    rcases T t h1.1 h1.2 with ⟨a1, b1, c1, d1, e1, f1⟩ | ⟨g1, g2⟩
    case inr => rw [if_pos (Or.inl g1)] at hy; omega
    rcases T q h2.1 h2.2 with ⟨a2, b2, c2, d2, e2, f2⟩ | ⟨g3, g4⟩
    case inr => rw [if_pos (Or.inr g3)] at hy; omega
    rw [if_neg (by omega)] at hy
    have hso : w 25 t 2 = w 25 q 2 := by
      by_cases c : w 25 t 2 = w 25 q 2
      · exact c
      · rw [if_neg c] at hy; omega
    rw [if_pos hso] at hy
    have hc : p ≤ w 25 t 3 - n ∧ a ≤ w 25 q 3 - n := by
      by_cases c : p ≤ w 25 t 3 - n ∧ a ≤ w 25 q 3 - n
      · exact c
      · rw [if_neg c] at hy; omega
    refine ⟨1, pj_set (pj_cpy w 52 t p 52 q a n) 10 0 15 0, pj_set (pj_cpy (pj_set (pj_cpy w 52 t p 52 q a n) 10 0 15 0) 64 0 (60 * t + p) 64 0 (60 * q + a) n) 26 0 2 0, ?_, ?_, ?_, ?_, ?_⟩
    · unfold fX_pour
      rw [x_trayAt, Option.bind_some, x_trayAt, Option.bind_some, if_pos h1, if_pos h2, if_neg (by omega), if_neg (by omega), if_neg (by omega), if_neg (by omega), if_pos hn, if_pos a1, if_pos a2, if_pos hso, x_holds c1 d1 hn9, Option.bind_some, if_pos (show 0 ≤ p ∧ 0 ≤ n ∧ p ≤ w 25 t 3 - n by omega), if_neg (by decide), x_holds c2 d2 hn9, Option.bind_some, if_pos (show 0 ≤ a ∧ 0 ≤ n ∧ a ≤ w 25 q 3 - n by omega), if_neg (by decide), if_pos (by omega), x_grant, Option.bind_some, if_pos (Or.inr rfl)]
    · have hv : ∀ k i s, k ≠ 52 → k ≠ 10 → pj_set (pj_cpy w 52 t p 52 q a n) 10 0 15 0 k i s = w k i s := fun k i s k1 k2 => by
        rw [pj_sne (by omega)]
        unfold pj_cpy
        rw [if_neg (by omega)]
      generalize pj_set (pj_cpy w 52 t p 52 q a n) 10 0 15 0 = v at hv ⊢
      unfold fM_pour
      rw [m_isTray, Option.bind_some, m_isTray, Option.bind_some, if_pos h1, if_pos h2, if_neg (by decide), if_neg (by decide), if_neg (by omega), if_neg (by omega), if_pos hn, if_pos h1, hv 63 0 t (by decide) (by decide), b1, if_neg (by omega), if_pos h2, hv 63 0 q (by decide) (by decide), b2, if_neg (by omega), hv 62 0 t (by decide) (by decide), hv 62 0 q (by decide) (by decide), e1, e2, if_pos hso, pj_wr_id (x := w 25 t 3 - p) (by omega) (by omega), if_neg (by omega), pj_wr_id (x := w 25 q 3 - a) (by omega) (by omega), if_pos (by omega)]
      exact m_pour_lp h1 h2 hp ha hn (by omega) (by omega)
    · have ho : ∀ k i s, k ≠ 52 → k ≠ 10 → k ≠ 26 → k ≠ 64 → pj_set (pj_cpy (pj_set (pj_cpy w 52 t p 52 q a n) 10 0 15 0) 64 0 (60 * t + p) 64 0 (60 * q + a) n) 26 0 2 0 k i s = w k i s := fun k i s k1 k2 k3 k4 => by
        rw [pj_sne (by omega)]
        unfold pj_cpy
        rw [if_neg (by omega), pj_sne (by omega), if_neg (by omega)]
      have h52 : ∀ i s, pj_set (pj_cpy (pj_set (pj_cpy w 52 t p 52 q a n) 10 0 15 0) 64 0 (60 * t + p) 64 0 (60 * q + a) n) 26 0 2 0 52 i s = if i = q ∧ a ≤ s ∧ s < a + n then w 52 t (p + (s - a)) else w 52 i s := fun i s => by
        rw [pj_sne (by omega)]
        unfold pj_cpy
        rw [if_neg (by omega), pj_sne (by omega)]
        by_cases c : i = q ∧ a ≤ s ∧ s < a + n
        · rw [if_pos ⟨rfl, c⟩, if_pos c]
        · rw [if_neg (fun x => c x.2), if_neg c]
      have h64 : ∀ s, pj_set (pj_cpy (pj_set (pj_cpy w 52 t p 52 q a n) 10 0 15 0) 64 0 (60 * t + p) 64 0 (60 * q + a) n) 26 0 2 0 64 0 s = if 60 * q + a ≤ s ∧ s < 60 * q + a + n then w 64 0 (60 * t + p + (s - (60 * q + a))) else w 64 0 s := fun s => by
        rw [pj_sne (by omega)]
        unfold pj_cpy
        by_cases c : 60 * q + a ≤ s ∧ s < 60 * q + a + n
        · rw [if_pos ⟨rfl, rfl, c⟩, if_pos c, pj_sne (by omega), if_neg (by omega)]
        · rw [if_neg (fun x => c x.2.2), if_neg c, pj_sne (by omega), if_neg (by omega)]
      intro z hz hz2
      have hT := T z hz hz2
      unfold pj_tr1 at hT ⊢
      rw [ho 25 z 1 (by omega) (by omega) (by omega) (by omega), ho 63 0 z (by omega) (by omega) (by omega) (by omega), ho 25 z 3 (by omega) (by omega) (by omega) (by omega), ho 62 0 z (by omega) (by omega) (by omega) (by omega), ho 25 z 2 (by omega) (by omega) (by omega) (by omega)]
      rcases hT with ⟨a3, b3, c3, d3, e3, f3⟩ | g5
      · refine Or.inl ⟨a3, b3, c3, d3, e3, fun i hi hi2 => ?_⟩
        rw [h64, h52]
        by_cases ec : z = q ∧ a ≤ i ∧ i < a + n
        · rw [if_pos ec, if_pos (by omega)]
          have := f1 (p + (i - a)) (by omega) (by omega)
          rw [← this]
          congr 1; omega
        · rw [if_neg ec, if_neg (by omega)]
          exact f3 i hi hi2
      · exact Or.inr g5
    · rw [pj_set_at, pj_sne (by omega)]
      unfold pj_cpy
      rw [if_neg (by omega), pj_set_at]
    · intro k i s hk
      unfold pj_onT at hk
      rw [pj_sne (by omega)]
      unfold pj_cpy
      rw [if_neg (by omega), pj_sne (by omega), if_neg (by omega)]
