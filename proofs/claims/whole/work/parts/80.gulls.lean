/-! GULLS TOLD -/
abbrev pj_gbad (N : Int → Int) (i : Nat) : Prop := N i < 0 ∨ 60 < N i
abbrev pj_ggone (A : pj_Q) (N : Int → Int) (i : Nat) : Prop := 0 < N i ∧ ¬ pj_there A i
def pj_glack (A : pj_Q) (N : Int → Int) (n : Nat) : Int := pj_sum (fun i => max 0 (N i - pj_many A i)) n
def pj_gsum (N : Int → Int) (n : Nat) : Int := pj_sum (fun i => N i) n
theorem pj_cmp_lt {a b : Int} : pj_cmp a b < 0 ↔ a < b := by
  unfold pj_cmp
  split
  · omega
  · split <;> omega
theorem pj_cmp_le {a b : Int} : pj_cmp a b ≤ 0 ↔ a ≤ b := by
  unfold pj_cmp
  split
  · omega
  · split <;> omega
theorem pj_cmp_eq {a b : Int} : pj_cmp a b = 0 ↔ a = b := by
  unfold pj_cmp
  split
  · omega
  · split <;> omega
theorem x_numberAt {t p : Int} {w : pj_W} (h : 0 ≤ w 25 t 3) (h2 : w 25 t 3 ≤ 60) (hp : 0 ≤ p) (hp2 : p < w 25 t 3) : fT_numberAt t p w = some (w 52 t p) := by
  unfold fT_numberAt
  rw [x_holds h h2 (by decide), Option.bind_some, if_pos (show 0 ≤ p ∧ (0 : Int) ≤ 1 ∧ p ≤ w 25 t 3 - 1 by omega), if_neg (by decide), if_pos (by omega)]
theorem pj_Lp_fs {σ ρ : Type} {body : σ → Option (σ ⊕ ρ)} (S : Nat → σ) {p : Nat → Prop} [DecidablePred p] {n j : Nat} (hj : pj_ff p 0 n = some j) (h : ∀ i, i < n → ¬ p i → body (S i) = some (.inl (S (i + 1)))) {r : ρ} (hp : j < n → p j → body (S j) = some (.inr r)) : pj_Lp body (S 0) = some r := by
  obtain ⟨_, hi, hpi, hn⟩ := pj_ff_some hj
  rw [pj_Lp_to S j (fun i hi2 => h i (by omega) (hn i (by omega) hi2)), pj_Lp_end (hp (by omega) hpi)]
theorem pj_Lp_fn {σ ρ : Type} {body : σ → Option (σ ⊕ ρ)} (S : Nat → σ) {p : Nat → Prop} [DecidablePred p] {n : Nat} (hj : pj_ff p 0 n = none) (h : ∀ i, i < n → ¬ p i → body (S i) = some (.inl (S (i + 1)))) : pj_Lp body (S 0) = pj_Lp body (S n) :=
  pj_Lp_to S n (fun i hi => h i hi (pj_ff_none hj i (by omega) (by omega)))
section
variable {A : pj_Q} {N : Int → Int} {w : pj_W}
theorem pj_gin (I : pj_IV A) (hN : ∀ i : Nat, i < (A 2).toNat → 0 ≤ N i ∧ N i ≤ 60) {i : Nat} (hi : i ≤ (A 2).toNat) : 0 ≤ pj_gsum N i ∧ pj_gsum N i ≤ 60 * i ∧ 0 ≤ pj_glack A N i ∧ pj_glack A N i ≤ 60 * i := by
  have hA := I.1
  have h1 := pj_sum_in (g := fun i : Nat => N i) (n := i) (M := 60) (fun j hj => hN j (by omega))
  have h2 := pj_sum_in (g := fun i : Nat => max 0 (N i - pj_many A i)) (n := i) (M := 60) (fun j hj => by
    have := hN j (by omega)
    have := I.2.2.2.1 j (by omega) (by omega)
    omega)
  exact ⟨h1.1, h1.2, h2.1, h2.2⟩
theorem x_fewest {t : Int} (R : pj_RB (w 10 0 10) w A) (I : pj_IV A) (hb : 0 ≤ w 10 0 10) (ht : 0 ≤ t) (h0 : 0 ≤ w 25 t 3) (h60 : w 25 t 3 ≤ 60) (hl : A 2 ≤ w 25 t 3) (hN : ∀ i : Nat, i < (A 2).toNat → 0 ≤ w 52 t i ∧ w 52 t i ≤ 60) :
    fX_fewestGulls t w = some (match pj_ff (pj_ggone A (w 52 t)) 0 (A 2).toNat with | some _ => -1 | none => if pj_gsum (w 52 t) (A 2).toNat = A 8 then pj_glack A (w 52 t) (A 2).toNat else -1) := by
  have hA := I.1
  have h8 : w 19 (w 10 0 10) 8 = A 2 := R.1.2.2.2.2.2.2
  unfold fX_fewestGulls
  refine pj_Lp_ff (body := fun s : (Int × Int × Int) => fX_fewestGulls_7b t w s.1 s.2.1 s.2.2) (fun i : Nat => (pj_gsum (w 52 t) i, pj_glack A (w 52 t) i, (i : Int))) (pj_ggone A (w 52 t)) (A 2).toNat (r := fun _ => -1) (e := if pj_gsum (w 52 t) (A 2).toNat = A 8 then pj_glack A (w 52 t) (A 2).toNat else -1) (fun i hi hp => ?_) (fun i hi hp => ?_) ?_
  · show fX_fewestGulls_7b t w _ _ i = some (Sum.inl (pj_gsum (w 52 t) i + w 52 t i, pj_glack A (w 52 t) i + max 0 (w 52 t i - pj_many A i), _))
    have hd : pj_isD A (i : Int) := ⟨by omega, by omega⟩
    have hn : 0 ≤ w 52 t i ∧ w 52 t i ≤ 60 := hN i hi
    have hg := pj_gin I hN (i := i) (by omega)
    have hD := I.2.2.2.1 i hd.1 hd.2
    have hc := (R.2.2.1 i hd).2.2.2
    have h55 : fX_fewestGulls_55 t (pj_gsum (w 52 t) i) (pj_glack A (w 52 t) i) i (8 * w 10 0 10 + i) (w 52 t i) w = some (Sum.inl (pj_gsum (w 52 t) i + w 52 t i, pj_glack A (w 52 t) i + max 0 (w 52 t i - pj_many A i), ((i + 1 : Nat) : Int))) := by
      unfold fX_fewestGulls_55
      rw [hc, pj_wr_id (x := w 52 t i - pj_many A i) (by omega) (by omega), pj_wr_id (x := pj_gsum (w 52 t) i + w 52 t i) (by omega) (by omega), pj_wr_id (x := pj_glack A (w 52 t) i + max 0 (w 52 t i - pj_many A i)) (by omega) (by omega), pj_wri (by omega)]; rfl
    unfold fX_fewestGulls_7b
    rw [if_pos hb, if_neg (by omega), if_pos (by omega), if_pos ht, x_numberAt h0 h60 (by omega) (by omega), Option.bind_some, pj_wr_id (x := w 52 t i) (by omega) (by omega)]
    by_cases c : w 52 t i ≤ 0
    · rw [if_pos c, h55]
    · have hth : pj_there A i := by
        rcases Classical.em (pj_there A i) with e | e
        · exact e
        · exact absurd (show 0 < w 52 t i ∧ ¬ pj_there A i from ⟨by omega, e⟩) hp
      rw [if_neg c, if_neg (fun x => (R.th hd).mp x hth), h55]
  · show fX_fewestGulls_7b t w _ _ i = some (Sum.inr (-1))
    have hd : pj_isD A (i : Int) := ⟨by omega, by omega⟩
    have hn : 0 ≤ w 52 t i ∧ w 52 t i ≤ 60 := hN i hi
    have hp1 : 0 < w 52 t i := hp.1
    unfold fX_fewestGulls_7b
    rw [if_pos hb, if_neg (by omega), if_pos (by omega), if_pos ht, x_numberAt h0 h60 (by omega) (by omega), Option.bind_some, pj_wr_id (x := w 52 t i) (by omega) (by omega), if_neg (by omega), if_pos ((R.th hd).mpr hp.2)]
  · show fX_fewestGulls_7b t w _ _ (((A 2).toNat : Nat) : Int) = _
    unfold fX_fewestGulls_7b
    rw [if_pos hb, if_pos (by omega), xq_lying R I, Option.bind_some]
    by_cases c : pj_gsum (w 52 t) (A 2).toNat = A 8
    · rw [if_pos c, if_pos c]
    · rw [if_neg c, if_neg c]
theorem m_gulls_lp {t : Int} (I : pj_IV (w 60 0)) (ht : 0 ≤ t ∧ t < 4) (hN : ∀ i : Nat, i < (w 60 0 2).toNat → 0 ≤ w 64 0 (60 * t + i) ∧ w 64 0 (60 * t + i) ≤ 60) :
    fM_gulls_102 t w (0, 0, 0) = pj_aM (match pj_ff (pj_ggone (w 60 0) (fun i => w 64 0 (60 * t + i))) 0 (w 60 0 2).toNat with | some _ => (-1, 7) | none => if pj_gsum (fun i => w 64 0 (60 * t + i)) (w 60 0 2).toNat = w 60 0 8 then (pj_glack (w 60 0) (fun i => w 64 0 (60 * t + i)) (w 60 0 2).toNat, 0) else (-1, 7)) w := by
  have hA := I.1
  have wr1 : pj_wr (60 * t) = 60 * t := pj_wr_id (by omega) (by omega)
  refine (pj_Lp_ff (body := fun s : (Int × Int × Int) => fM_gulls_102b t w s.1 s.2.1 s.2.2) (fun i : Nat => (pj_gsum (fun i => w 64 0 (60 * t + i)) i, pj_glack (w 60 0) (fun i => w 64 0 (60 * t + i)) i, (i : Int))) (pj_ggone (w 60 0) (fun i => w 64 0 (60 * t + i))) (w 60 0 2).toNat (r := fun _ => ((-1 : Int), pj_set w 26 0 2 7)) (e := if pj_gsum (fun i => w 64 0 (60 * t + i)) (w 60 0 2).toNat = w 60 0 8 then (pj_glack (w 60 0) (fun i => w 64 0 (60 * t + i)) (w 60 0 2).toNat, pj_set w 26 0 2 0) else (-1, pj_set w 26 0 2 7)) (fun i hi hp => ?_) (fun i hi hp => ?_) ?_).trans ?_
  · show fM_gulls_102b t w _ _ i = some (Sum.inl (pj_gsum (fun i => w 64 0 (60 * t + i)) i + w 64 0 (60 * t + i), pj_glack (w 60 0) (fun i => w 64 0 (60 * t + i)) i + max 0 (w 64 0 (60 * t + i) - pj_many (w 60 0) i), _))
    have hn : 0 ≤ w 64 0 (60 * t + i) ∧ w 64 0 (60 * t + i) ≤ 60 := hN i hi
    have hg := pj_gin (N := fun i => w 64 0 (60 * t + i)) I hN (i := i) (by omega)
    have hD := I.2.2.2.1 i (by omega) (by omega)
    have h149 : fM_gulls_149 t (pj_gsum (fun i => w 64 0 (60 * t + i)) i) (pj_glack (w 60 0) (fun i => w 64 0 (60 * t + i)) i) i (w 64 0 (60 * t + i)) w = some (Sum.inl (pj_gsum (fun i => w 64 0 (60 * t + i)) i + w 64 0 (60 * t + i), pj_glack (w 60 0) (fun i => w 64 0 (60 * t + i)) i + max 0 (w 64 0 (60 * t + i) - pj_many (w 60 0) i), ((i + 1 : Nat) : Int))) := by
      unfold fM_gulls_149
      rw [mq_manyOn (by omega) (by omega), Option.bind_some, pj_wr_id (x := w 64 0 (60 * t + i) - pj_many (w 60 0) i) (by omega) (by omega), pj_wr_id (x := pj_gsum (fun i => w 64 0 (60 * t + i)) i + w 64 0 (60 * t + i)) (by omega) (by omega), pj_wr_id (x := pj_glack (w 60 0) (fun i => w 64 0 (60 * t + i)) i + max 0 (w 64 0 (60 * t + i) - pj_many (w 60 0) i)) (by omega) (by omega), pj_wri (by omega)]; rfl
    unfold fM_gulls_102b
    rw [if_neg (by omega), wr1, pj_wr_id (x := 60 * t + (i : Int)) (by omega) (by omega), if_pos (by omega), pj_wr_id (x := w 64 0 (60 * t + i)) (by omega) (by omega)]
    by_cases c : w 64 0 (60 * t + i) ≤ 0
    · rw [if_pos c, h149]
    · have hth : pj_there (w 60 0) i := by
        rcases Classical.em (pj_there (w 60 0) i) with e | e
        · exact e
        · exact absurd (show 0 < w 64 0 (60 * t + i) ∧ ¬ pj_there (w 60 0) i from ⟨by omega, e⟩) hp
      rw [if_neg c, mq_isThere, Option.bind_some, if_pos hth, if_neg (by decide), h149]
  · show fM_gulls_102b t w _ _ i = some (Sum.inr (-1, pj_set w 26 0 2 7))
    have hn : 0 ≤ w 64 0 (60 * t + i) ∧ w 64 0 (60 * t + i) ≤ 60 := hN i hi
    have hp1 : 0 < w 64 0 (60 * t + i) := hp.1
    unfold fM_gulls_102b
    rw [if_neg (by omega), wr1, pj_wr_id (x := 60 * t + (i : Int)) (by omega) (by omega), if_pos (by omega), pj_wr_id (x := w 64 0 (60 * t + i)) (by omega) (by omega), if_neg (by omega), mq_isThere, Option.bind_some, if_neg hp.2, if_pos rfl]; rfl
  · show fM_gulls_102b t w _ _ (((w 60 0 2).toNat : Nat) : Int) = _
    unfold fM_gulls_102b
    rw [if_pos (by omega)]
    by_cases c : pj_gsum (fun i => w 64 0 (60 * t + i)) (w 60 0 2).toNat = w 60 0 8
    · rw [if_pos c, if_pos c]; rfl
    · rw [if_neg c, if_neg c]; rfl
  · cases pj_ff (pj_ggone (w 60 0) (fun i => w 64 0 (60 * t + i))) 0 (w 60 0 2).toNat with
    | some _ => rfl
    | none =>
      show some (if _ then _ else _) = some ((if _ then _ else _ : Int × Int).1, pj_set w 26 0 2 (if _ then _ else _ : Int × Int).2)
      split <;> rfl
theorem tb_gulls (T : pj_RT w) (R : pj_RB (w 10 0 10) w (w 60 0)) (I : pj_IV (w 60 0)) (hb : 0 ≤ w 10 0 10) (t : Int) : pj_tB w (fX_gulls t) (fM_gulls t) := by
  have hA := I.1
  have h8 : w 19 (w 10 0 10) 8 = w 60 0 2 := R.1.2.2.2.2.2.2
  by_cases h : 0 ≤ t ∧ t < 4
  case neg =>
    refine pj_tB.no T (a := -1) (y := 1) ?_ (fun u hu => ?_)
    · unfold fX_gulls
      rw [x_trayAt, Option.bind_some, if_neg h, if_pos (by decide)]; rfl
    · unfold fM_gulls
      rw [m_isTray, Option.bind_some, if_neg h, if_pos rfl]; rfl
  rcases T t h.1 h.2 with ⟨a1, b1, c1, d1, e1, f1⟩ | ⟨g1, g2⟩
  case inr =>
    refine pj_tB.no T (a := -1) (y := 2) ?_ (fun u hu => ?_)
    · unfold fX_gulls
      rw [x_trayAt, Option.bind_some, if_pos h, if_neg (by omega), if_neg (by omega)]; rfl
    · unfold fM_gulls
      rw [m_isTray, Option.bind_some, if_pos h, if_neg (by decide), if_pos h, hu 63 0 t (by omega), if_pos g2]; rfl
  by_cases hl : w 60 0 2 ≤ w 25 t 3
  case neg =>
    refine pj_tB.no T (a := -1) (y := 3) ?_ (fun u hu => ?_)
    · unfold fX_gulls
      rw [x_trayAt, Option.bind_some, if_pos h, if_neg (by omega), if_pos a1, if_pos hb, h8, x_holds c1 d1 (by omega), Option.bind_some, if_neg (show ¬ ((0 : Int) ≤ 0 ∧ 0 ≤ w 60 0 2 ∧ (0 : Int) ≤ w 25 t 3 - w 60 0 2) by omega), if_pos rfl]; rfl
    · unfold fM_gulls
      rw [m_isTray, Option.bind_some, if_pos h, if_neg (by decide), if_pos h, hu 63 0 t (by omega), hu 60 0 2 (by omega), b1, if_neg (by omega), if_neg hl]; rfl
  have hx : ∀ r, fX_gulls_52 t w 0 = r → fX_gulls t w = r := fun r hr => by
    unfold fX_gulls
    rw [x_trayAt, Option.bind_some, if_pos h, if_neg (by omega), if_pos a1, if_pos hb, h8, x_holds c1 d1 (by omega), Option.bind_some, if_pos (show ((0 : Int) ≤ 0 ∧ 0 ≤ w 60 0 2 ∧ (0 : Int) ≤ w 25 t 3 - w 60 0 2) by omega), if_neg (by decide)]
    exact hr
  have hm : ∀ u : pj_W, (∀ k i s, ¬ (k = 10 ∧ i = 0 ∧ s = 15) → u k i s = w k i s) → ∀ r, fM_gulls_52 t u 0 = r → fM_gulls t u = r := fun u hu r hr => by
    unfold fM_gulls
    rw [m_isTray, Option.bind_some, if_pos h, if_neg (by decide), if_pos h, hu 63 0 t (by omega), hu 60 0 2 (by omega), b1, if_neg (by omega), if_pos hl]
    exact hr
  have wr1 : pj_wr (60 * t) = 60 * t := pj_wr_id (by omega) (by omega)
  have hN : ∀ i : Nat, i < (w 60 0 2).toNat → w 64 0 (60 * t + i) = w 52 t i := fun i hi => f1 i (by omega) (by omega)
  have xst : ∀ i, i < (w 60 0 2).toNat → ¬ pj_gbad (w 52 t) i → fX_gulls_52b t w i = some (Sum.inl (((i + 1 : Nat) : Int))) := fun i hi hp => by
    have hp' : ¬ (w 52 t i < 0 ∨ 60 < w 52 t i) := hp
    unfold fX_gulls_52b
    rw [if_pos hb, h8, if_neg (by omega), x_numberAt c1 d1 (by omega) (by omega), Option.bind_some, Option.bind_some, if_neg (fun x => hp' (Or.inl (pj_cmp_lt.mp x))), if_pos (pj_cmp_le.mpr (by omega)), pj_wri (by omega)]; rfl
  have mst : ∀ u : pj_W, (∀ k i s, ¬ (k = 10 ∧ i = 0 ∧ s = 15) → u k i s = w k i s) → ∀ i, i < (w 60 0 2).toNat → ¬ pj_gbad (w 52 t) i → fM_gulls_52b t u i = some (Sum.inl (((i + 1 : Nat) : Int))) := fun u hu i hi hp => by
    have hp' : ¬ (w 52 t i < 0 ∨ 60 < w 52 t i) := hp
    unfold fM_gulls_52b
    rw [hu 60 0 2 (by omega), if_neg (by omega), wr1, pj_wr_id (x := 60 * t + (i : Int)) (by omega) (by omega), if_pos (by omega), mq_isFrom, Option.bind_some, hu 64 0 _ (by omega), hN i hi, if_pos (show 0 ≤ w 52 t i ∧ w 52 t i ≤ 60 by omega), if_neg (by decide), pj_wri (by omega)]; rfl
  cases hf : pj_ff (pj_gbad (w 52 t)) 0 (w 60 0 2).toNat with
  | some j =>
    obtain ⟨_, hj, hbad, _⟩ := pj_ff_some hf
    have hbad' : w 52 t j < 0 ∨ 60 < w 52 t j := hbad
    refine pj_tB.no T (a := -1) (y := 5) (hx _ ?_) (fun u hu => hm u hu _ ?_)
    · refine pj_Lp_fs (body := fun s : Int => fX_gulls_52b t w s) (fun i : Nat => (i : Int)) hf xst (fun h9 h7 => ?_)
      show fX_gulls_52b t w j = _
      unfold fX_gulls_52b
      rw [if_pos hb, h8, if_neg (by omega), x_numberAt c1 d1 (by omega) (by omega), Option.bind_some, Option.bind_some]
      by_cases c : pj_cmp (w 52 t j) 0 < 0
      · rw [if_pos c]; rfl
      · have c' : ¬ pj_cmp (w 52 t j) 60 ≤ 0 := fun x => by
          have := pj_cmp_le.mp x
          rcases hbad' with y | y
          · exact c (pj_cmp_lt.mpr y)
          · omega
        rw [if_neg c, if_neg c']; rfl
    · refine pj_Lp_fs (body := fun s : Int => fM_gulls_52b t u s) (fun i : Nat => (i : Int)) hf (mst u hu) (fun h9 h7 => ?_)
      show fM_gulls_52b t u j = _
      unfold fM_gulls_52b
      rw [hu 60 0 2 (by omega), if_neg (by omega), wr1, pj_wr_id (x := 60 * t + (j : Int)) (by omega) (by omega), if_pos (by omega), mq_isFrom, Option.bind_some, hu 64 0 _ (by omega), hN j (by omega), if_neg (show ¬ (0 ≤ w 52 t j ∧ w 52 t j ≤ 60) by omega), if_pos rfl]; rfl
  | none =>
    have hok : ∀ i : Nat, i < (w 60 0 2).toNat → 0 ≤ w 52 t i ∧ w 52 t i ≤ 60 := fun i hi => by
      have h9 : ¬ (w 52 t i < 0 ∨ 60 < w 52 t i) := pj_ff_none hf i (by omega) (by omega)
      omega
    have hk : fX_fewestGulls t w = _ := x_fewest R I hb h.1 c1 d1 hl hok
    have hgl := pj_gin I hok (Nat.le_refl _)
    have xe : ∀ z y, (match pj_ff (pj_ggone (w 60 0) (w 52 t)) 0 (w 60 0 2).toNat with | some _ => ((-1 : Int), (7 : Int)) | none => if pj_gsum (w 52 t) (w 60 0 2).toNat = w 60 0 8 then (pj_glack (w 60 0) (w 52 t) (w 60 0 2).toNat, 0) else (-1, 7)) = (z, y) → fX_gulls t w = some (z, pj_set w 10 0 15 y) := fun z y hz => by
      refine hx _ ?_
      have h1 := pj_Lp_fn (body := fun s : Int => fX_gulls_52b t w s) (fun i : Nat => (i : Int)) hf xst
      refine h1.trans (pj_Lp_end ?_)
      show fX_gulls_52b t w (((w 60 0 2).toNat : Nat) : Int) = _
      unfold fX_gulls_52b
      rw [if_pos hb, h8, if_pos (by omega), hk, Option.bind_some]
      cases hg : pj_ff (pj_ggone (w 60 0) (w 52 t)) 0 (w 60 0 2).toNat with
      | some j =>
        rw [hg] at hz
        cases hz
        rfl
      | none =>
        rw [hg] at hz
        dsimp only at hz ⊢
        by_cases c : pj_gsum (w 52 t) (w 60 0 2).toNat = w 60 0 8
        · rw [if_pos c] at hz
          cases hz
          rw [if_pos c, if_neg (by omega)]; rfl
        · rw [if_neg c] at hz
          cases hz
          rw [if_neg c, if_pos rfl]; rfl
    obtain ⟨z, y, hz⟩ : ∃ z y, (match pj_ff (pj_ggone (w 60 0) (w 52 t)) 0 (w 60 0 2).toNat with | some _ => ((-1 : Int), (7 : Int)) | none => if pj_gsum (w 52 t) (w 60 0 2).toNat = w 60 0 8 then (pj_glack (w 60 0) (w 52 t) (w 60 0 2).toNat, 0) else (-1, 7)) = (z, y) := ⟨_, _, rfl⟩
    refine pj_tB.no T (a := z) (y := y) (xe z y hz) (fun u hu => hm u hu _ ?_)
    have h1 := pj_Lp_fn (body := fun s : Int => fM_gulls_52b t u s) (fun i : Nat => (i : Int)) hf (mst u hu)
    refine h1.trans (pj_Lp_end ?_)
    show fM_gulls_52b t u (((w 60 0 2).toNat : Nat) : Int) = _
    have hu6 : u 60 0 = w 60 0 := funext fun s => hu 60 0 s (by omega)
    have hN2 : ∀ i : Nat, i < (w 60 0 2).toNat → u 64 0 (60 * t + i) = w 52 t i := fun i hi => (hu 64 0 _ (by omega)).trans (hN i hi)
    have h2 := m_gulls_lp (w := u) (t := t) (by rw [hu6]; exact I) h (by rw [hu6]; exact fun i hi => by rw [hN2 i hi]; exact hok i hi)
    rw [hu6] at h2
    have e1 : pj_ff (pj_ggone (w 60 0) (fun i => u 64 0 (60 * t + i))) 0 (w 60 0 2).toNat = pj_ff (pj_ggone (w 60 0) (w 52 t)) 0 (w 60 0 2).toNat := pj_ff_ex (fun i h0 h1 => by unfold pj_ggone; dsimp only; rw [hN2 i (by omega)])
    have e2 : pj_gsum (fun i => u 64 0 (60 * t + i)) (w 60 0 2).toNat = pj_gsum (w 52 t) (w 60 0 2).toNat := pj_sum_ex (fun i hi => hN2 i hi)
    have e3 : pj_glack (w 60 0) (fun i => u 64 0 (60 * t + i)) (w 60 0 2).toNat = pj_glack (w 60 0) (w 52 t) (w 60 0 2).toNat := pj_sum_ex (fun i hi => by dsimp only; rw [hN2 i hi])
    rw [e1, e2, e3, hz] at h2
    unfold fM_gulls_52b
    rw [hu 60 0 2 (by omega), if_pos (by omega), h2]; rfl
end
