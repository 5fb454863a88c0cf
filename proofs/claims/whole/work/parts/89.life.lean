/-! A LIFE, move by move -/
abbrev pj_cf : Type := Int × Int × pj_Q × Int × pj_Q × pj_Q
def lf_row (A : pj_Q) (k j : Int) : Int := A (1030 + 6 * k + j)
def lf_zd (k : Int) (A : pj_Q) (D : Int) (C : pj_Q) : pj_Z := lf_deed A D C (A (1030 + 6 * k)) (A (1030 + 6 * k + 1)) (A (1030 + 6 * k + 2))
def lf_zL (k : Int) (A L : pj_Q) : pj_Q := if A (1030 + 6 * k) = 25 then q_up L k (A (1030 + 6 * k + 1) - 1) else L
def lf_zk (k : Int) (A : pj_Q) : Int := if 2400 ≤ A (1030 + 6 * k) ∧ lf_hv A (A (1030 + 6 * k)) (A (1030 + 6 * k + 1)) (A (1030 + 6 * k + 2)) (A (1030 + 6 * k + 5)) = 0 then A (1030 + 6 * k + 4) + 1 else k + 1
def lf_flb (k s : Int) (A : pj_Q) (D : Int) (C L : pj_Q) : Option (pj_cf ⊕ pj_cf) :=
  if A 9 ≤ k then some (.inr (k, s, A, D, C, L)) else
  if A (1030 + 6 * k) = 26 then (if A (1030 + 6 * A (1030 + 6 * k + 4)) = 25 ∧ 0 < L (A (1030 + 6 * k + 4)) then some (.inl (A (1030 + 6 * k + 4) + 1, s, A, D, C, q_up L (A (1030 + 6 * k + 4)) (L (A (1030 + 6 * k + 4)) - 1))) else some (.inl (k + 1, s, A, D, C, L))) else
  if s = 300 then some (.inr (k, s, A, D, q_up C 4 1, L)) else
  if A (1030 + 6 * k) = 27 then some (.inr (k, s + 1, A, D, C, L)) else
  some (.inl (lf_zk k A, s + 1, (lf_zd k A D C).1, (lf_zd k A D C).2.1, (lf_zd k A D C).2.2, lf_zL k A L))
def lf_fl (c : pj_cf) : Option (pj_cf ⊕ pj_cf) := lf_flb c.1 c.2.1 c.2.2.1 c.2.2.2.1 c.2.2.2.2.1 c.2.2.2.2.2
def lf_rows (A : pj_Q) (W F S T P : Int → Int) : Prop := A 9 ≤ 60 ∧ ∀ k : Int, 0 ≤ k → k < A 9 → pj_row A (A 9) W k (F k) (S k) (T k) (P k) (A (1030 + 6 * k)) (A (1030 + 6 * k + 1)) (A (1030 + 6 * k + 2)) (A (1030 + 6 * k + 4)) (A (1030 + 6 * k + 5))
def lf_ok (A0 : pj_Q) (W F S T P : Int → Int) (c : pj_cf) : Prop :=
  pj_IV c.2.2.1 ∧ pj_IK c.2.2.1 ∧ pj_kd A0 c.2.2.1 ∧ (0 ≤ c.2.2.2.1 ∧ c.2.2.2.1 < 65536) ∧ (∀ i, 0 ≤ i → i < 5 → -2147483648 ≤ c.2.2.2.2.1 i ∧ c.2.2.2.2.1 i < 2147483648) ∧ (∀ i, 0 ≤ i → i < 60 → 0 ≤ c.2.2.2.2.2 i ∧ c.2.2.2.2.2 i ≤ 98) ∧ (0 ≤ c.1 ∧ c.1 ≤ c.2.2.1 9) ∧ (0 ≤ c.2.1 ∧ c.2.1 ≤ 300) ∧ lf_rows c.2.2.1 W F S T P
def lf_P (c : pj_cf) : Int := (c.2.2.1 9 - c.1) + pj_sum (fun i => c.2.2.2.2.2 i) 60 + 160 * (300 - c.2.1) + (if c.1 < c.2.2.1 9 ∧ c.2.2.1 (1030 + 6 * c.1) ≠ 26 then 0 else 61)
theorem lf_rows.kd {A B : pj_Q} {W F S T P : Int → Int} (r : lf_rows A W F S T P) (h : pj_kd A B) : lf_rows B W F S T P := by
  have e9 : B 9 = A 9 := h 9 (by omega)
  refine ⟨by rw [e9]; exact r.1, fun k h0 h1 => ?_⟩
  rw [e9] at h1 ⊢
  rw [h _ (by omega), h _ (by omega), h _ (by omega), h _ (by omega), h _ (by omega)]
  exact (r.2 k h0 h1).exA (h 0 (by omega)) (h 1 (by omega)) (h 2 (by omega))
theorem pj_wr_r (x : Int) : -2147483648 ≤ pj_wr x ∧ pj_wr x < 2147483648 := pj_wr_in x
theorem lf_inc_r {C : pj_Q} (h : ∀ i, 0 ≤ i → i < 5 → -2147483648 ≤ C i ∧ C i < 2147483648) (j v : Int) : ∀ i, 0 ≤ i → i < 5 → -2147483648 ≤ lf_inc C j v i ∧ lf_inc C j v i < 2147483648 := fun i h0 h1 => by
  unfold lf_inc q_up
  split
  · exact pj_wr_in _
  · exact h i h0 h1
theorem lf_deed_ok {A : pj_Q} {D : Int} {C : pj_Q} (I : pj_IV A) (K : pj_IK A) (hD : 0 ≤ D ∧ D < 65536) (hC : ∀ i, 0 ≤ i → i < 5 → -2147483648 ≤ C i ∧ C i < 2147483648) (c0 one two : Int) :
    pj_IV (lf_deed A D C c0 one two).1 ∧ pj_IK (lf_deed A D C c0 one two).1 ∧ pj_kd A (lf_deed A D C c0 one two).1 ∧ (0 ≤ (lf_deed A D C c0 one two).2.1 ∧ (lf_deed A D C c0 one two).2.1 < 65536) ∧ ∀ i, 0 ≤ i → i < 5 → -2147483648 ≤ (lf_deed A D C c0 one two).2.2 i ∧ (lf_deed A D C c0 one two).2.2 i < 2147483648 := by
  have hA := I.1
  have hm : ∀ y, ∀ i, 0 ≤ i → i < 5 → -2147483648 ≤ lf_miss C y i ∧ lf_miss C y i < 2147483648 := fun y i h0 h1 => by
    unfold lf_miss
    split
    · exact hC i h0 h1
    · exact lf_inc_r hC 0 1 i h0 h1
  have d1 := lf_nx_in D hD.1 hD.2
  have d2 := lf_nx_in _ d1.1 d1.2
  have d3 := lf_nx_in _ d2.1 d2.2
  have kr := (pj_kp.refl A).kd
  have of : ∀ r : pj_R, pj_IV r.2.2 → pj_kp A r.2.2 → pj_IV (lf_of r D C).1 ∧ pj_IK (lf_of r D C).1 ∧ pj_kd A (lf_of r D C).1 ∧ (0 ≤ (lf_of r D C).2.1 ∧ (lf_of r D C).2.1 < 65536) ∧ ∀ i, 0 ≤ i → i < 5 → -2147483648 ≤ (lf_of r D C).2.2 i ∧ (lf_of r D C).2.2 i < 2147483648 := fun r h1 h2 => ⟨h1, h2.IK I K, h2.kd, hD, hm r.1⟩
  unfold lf_deed
  split
  · exact of _ (q_go_IV I _ _) (q_go_kp I _ _)
  split
  · exact of _ (q_set_IV I _ _) (q_set_kp I _ _)
  split
  · exact of _ (q_pass_IV I _ _) (q_pass_kp I _ _)
  split
  · exact of _ (q_lift_IV I _ _) (q_lift_kp I _ _)
  split
  · unfold lf_gull
    split
    · exact ⟨I, K, kr, d1, hC⟩
    split
    · exact ⟨I, K, kr, d1, hC⟩
    split
    · exact ⟨q_gull_IV I _ _, (q_gull_kp I _ _).IK I K, (q_gull_kp I _ _).kd, d3, lf_inc_r hC 1 1⟩
    · exact ⟨I, K, kr, d3, hC⟩
  split
  · exact ⟨q_wave_IV I _, (q_wave_kp I _).IK I K, (q_wave_kp I _).kd, hD, lf_inc_r hC 2 _⟩
  split
  · split
    · exact ⟨I, K, kr, hD, lf_inc_r hC 0 1⟩
    · rename_i h
      have T := q_floods_is I
      have J := q_tided_IV I T (by omega)
      have K2 := q_tided_IK I K T
      refine ⟨q_dawns_IV J, q_dawns_IK K2, fun x hx => ?_, hD, lf_inc_r hC 3 1⟩
      have e1 : q_dawns (q_floods A) x = q_floods A x := q_up_ne _ _ (by omega)
      show q_dawns (q_floods A) x = A x
      rw [e1]
      exact T.1 x (fun _ => by omega) (fun _ => by omega) (fun _ => by omega)
  · exact ⟨I, K, kr, hD, hC⟩
/-- what kinds of rows there are -/
theorem lf_row_k {A : pj_Q} {n : Int} {W : Int → Int} {k F S T P c0 c1 c2 c4 c5 : Int} (r : pj_row A n W k F S T P c0 c1 c2 c4 c5) :
    (c0 = 26 ↔ W k = 28) ∧ (c0 = 25 ↔ W k = 27) ∧ (c0 = 27 ↔ W k = 29) ∧ (c0 = 26 → P = c4 ∧ 0 ≤ P ∧ P < k ∧ (W (P + 1) = 28 → P + 1 = k)) ∧ (c0 = 25 → F = c1 ∧ 1 ≤ F ∧ F ≤ 99) ∧ (2400 ≤ c0 → P = c4 ∧ k < P ∧ P < n) := by
  unfold pj_row at r
  omega
theorem lf_sum_up {L : pj_Q} {o v : Int} (h : 0 ≤ o) (h2 : o < 60) : pj_sum (fun i => q_up L o v i) 60 = pj_sum (fun i => L i) 60 + (v - L o) := by
  refine pj_sum_up (j := o.toNat) (by omega) (fun i hi hne => q_up_ne _ _ (by omega)) ?_
  rw [Int.toNat_of_nonneg h, q_up_at]; omega
theorem lf_P_in {A0 : pj_Q} {W F S T P : Int → Int} {c : pj_cf} (h : lf_ok A0 W F S T P c) : 0 ≤ lf_P c ∧ lf_P c ≤ 54001 := by
  obtain ⟨I, K, kd, hD, hC, hL, hk, hs, hr⟩ := h
  have h60 := hr.1
  have hsum := pj_sum_in (g := fun i : Nat => c.2.2.2.2.2 i) (n := 60) (M := 98) (fun i hi => hL i (by omega) (by omega))
  unfold lf_P
  split <;> omega
theorem lf_step {A0 : pj_Q} {W F S T P : Int → Int} {k s : Int} {A : pj_Q} {D : Int} {C L : pj_Q} (h : lf_ok A0 W F S T P (k, s, A, D, C, L)) {c' : pj_cf} (e : lf_flb k s A D C L = some (.inl c')) : lf_ok A0 W F S T P c' ∧ lf_P c' < lf_P (k, s, A, D, C, L) := by
  have hok := h
  obtain ⟨I, K, kd, hD, hC, hL, hk, hs, hr⟩ := h
  dsimp only at I K kd hD hC hL hk hs hr
  have h60 := hr.1
  unfold lf_flb at e
  by_cases c1 : A 9 ≤ k
  · rw [if_pos c1] at e; cases e
  rw [if_neg c1] at e
  have hrk := lf_row_k (hr.2 k hk.1 (by omega))
  by_cases c2 : A (1030 + 6 * k) = 26
  · rw [if_pos c2] at e
    have he := hrk.2.2.2.1 c2
    rw [← he.1] at e
    by_cases c3 : A (1030 + 6 * P k) = 25 ∧ 0 < L (P k)
    · rw [if_pos c3] at e
      cases e
      have hLo := hL (P k) he.2.1 (by omega)
      refine ⟨⟨I, K, kd, hD, hC, fun i h0 h1 => ?_, ⟨by dsimp only; omega, by dsimp only; omega⟩, hs, hr⟩, ?_⟩
      · dsimp only
        unfold q_up
        split
        · rename_i hi; omega
        · exact hL i h0 h1
      · unfold lf_P
        dsimp only
        rw [lf_sum_up he.2.1 (by omega), if_neg (show ¬ (k < A 9 ∧ A (1030 + 6 * k) ≠ 26) by omega)]
        by_cases c4 : P k + 1 = k
        · rw [c4, if_neg (by omega)]; omega
        · have hrk2 := lf_row_k (hr.2 (P k + 1) (by omega) (by omega))
          have hne : A (1030 + 6 * (P k + 1)) ≠ 26 := fun x => c4 (he.2.2.2 (hrk2.1.mp x))
          rw [if_pos ⟨by omega, hne⟩]; omega
    · rw [if_neg c3] at e
      cases e
      refine ⟨⟨I, K, kd, hD, hC, hL, ⟨by dsimp only; omega, by dsimp only; omega⟩, hs, hr⟩, ?_⟩
      unfold lf_P
      dsimp only
      rw [if_neg (show ¬ (k < A 9 ∧ A (1030 + 6 * k) ≠ 26) by omega)]
      split <;> omega
  rw [if_neg c2] at e
  by_cases c3 : s = 300
  · rw [if_pos c3] at e; cases e
  rw [if_neg c3] at e
  by_cases c4 : A (1030 + 6 * k) = 27
  · rw [if_pos c4] at e; cases e
  rw [if_neg c4] at e
  cases e
  obtain ⟨I', K', kd', hD', hC'⟩ := lf_deed_ok I K hD hC (A (1030 + 6 * k)) (A (1030 + 6 * k + 1)) (A (1030 + 6 * k + 2))
  have e9 : (lf_zd k A D C).1 9 = A 9 := kd' 9 (by omega)
  have hzk : k < lf_zk k A ∧ lf_zk k A ≤ A 9 := by
    unfold lf_zk
    split
    · rename_i hh
      have := hrk.2.2.2.2.2 hh.1
      omega
    · omega
  have hzL : (∀ i, 0 ≤ i → i < 60 → 0 ≤ lf_zL k A L i ∧ lf_zL k A L i ≤ 98) ∧ pj_sum (fun i => lf_zL k A L i) 60 ≤ pj_sum (fun i => L i) 60 + 98 := by
    unfold lf_zL
    split
    · rename_i hh
      have := hrk.2.2.2.2.1 hh
      have := hL k hk.1 (by omega)
      refine ⟨fun i h0 h1 => ?_, ?_⟩
      · unfold q_up
        split
        · omega
        · exact hL i h0 h1
      · rw [lf_sum_up hk.1 (by omega)]; omega
    · exact ⟨hL, by omega⟩
  refine ⟨⟨I', K', kd.trans kd', hD', hC', hzL.1, ⟨by dsimp only; omega, by dsimp only; omega⟩, ⟨by dsimp only; omega, by dsimp only; omega⟩, hr.kd kd'⟩, ?_⟩
  unfold lf_P
  dsimp only
  rw [e9, if_pos (show k < A 9 ∧ A (1030 + 6 * k) ≠ 26 from ⟨by omega, c2⟩)]
  split <;> omega
section
variable {A0 : pj_Q} {W F S T P : Int → Int}
theorem m_ends_st {k s : Int} {A : pj_Q} {D : Int} {C L : pj_Q} (h : lf_ok A0 W F S T P (k, s, A, D, C, L)) (c1 : k < A 9) (c2 : A (1030 + 6 * k) = 26) (u : pj_W) :
    ∃ k' L', lf_flb k s A D C L = some (.inl (k', s, A, D, C, L')) ∧ fM_behindEnds_2 (k, mw u s A D C L) = fM_behindEnds_2 (k', mw u s A D C L') := by
  obtain ⟨I, K, kd, hD, hC, hL, hk, hs, hr⟩ := h
  dsimp only at I K kd hD hC hL hk hs hr
  have h60 := hr.1
  have hrk := lf_row_k (hr.2 k hk.1 c1)
  have he := hrk.2.2.2.1 c2
  have hLo := hL (P k) he.2.1 (by omega)
  have h6 : mw u s A D C L 60 0 = A := mw_60
  unfold lf_flb
  rw [if_neg (by omega), if_pos c2, ← he.1]
  have hbody : fM_behindEnds_2b k (mw u s A D C L) = if A (1030 + 6 * P k) = 25 then (if L (P k) ≤ 0 then fM_behindEnds_78 k (P k) (mw u s A D C L) else fM_behindEnds_79 k (P k) 1 (mw u s A D C L)) else fM_behindEnds_78 k (P k) (mw u s A D C L) := by
    unfold fM_behindEnds_2b
    rw [h6, pj_wr_id (x := 6 * k) (by omega) (by omega), pj_wr_id (x := 1030 + 6 * k) (by omega) (by omega), pj_wr_id (x := 1030 + 6 * k + 4) (by omega) (by omega), ← he.1, pj_wr_id (x := 6 * P k) (by omega) (by omega), pj_wr_id (x := 1030 + 6 * P k) (by omega) (by omega), if_neg (by omega), if_pos (by omega), if_pos c2, if_pos (by omega), if_pos (by omega)]
    by_cases c5 : A (1030 + 6 * P k) = 25
    · rw [if_pos c5, if_pos c5, if_pos (by omega), mw_72]
    · rw [if_neg c5, if_neg c5]
  have h78 : fM_behindEnds_78 k (P k) (mw u s A D C L) = some (Sum.inl (k + 1, mw u s A D C L)) := by
    unfold fM_behindEnds_78 fM_behindEnds_79 fM_behindEnds_98 fM_behindEnds_114
    rw [if_pos (by omega), if_pos (by omega), if_pos rfl, if_pos rfl, mw_72, mw_s72, Int.sub_zero, pj_wr_id (x := L (P k)) (by omega) (by omega), q_up_self, pj_wr_id (by omega) (by omega)]
  have h79 : fM_behindEnds_79 k (P k) 1 (mw u s A D C L) = some (Sum.inl (P k + 1, mw u s A D C (q_up L (P k) (L (P k) - 1)))) := by
    unfold fM_behindEnds_79 fM_behindEnds_98 fM_behindEnds_114
    rw [if_pos (by omega), if_pos (by omega), if_neg (by decide), if_neg (by decide), mw_72, mw_s72, pj_wr_id (x := L (P k) - 1) (by omega) (by omega), pj_wr_id (by omega) (by omega)]
  by_cases c3 : A (1030 + 6 * P k) = 25 ∧ 0 < L (P k)
  · rw [if_pos c3]
    refine ⟨_, _, rfl, pj_Lp_st ?_⟩
    dsimp only
    rw [hbody, if_pos c3.1, if_neg (by omega), h79]
  · rw [if_neg c3]
    refine ⟨_, _, rfl, pj_Lp_st ?_⟩
    dsimp only
    rw [hbody]
    by_cases c4 : A (1030 + 6 * P k) = 25
    · rw [if_pos c4, if_pos (by omega), h78]
    · rw [if_neg c4, h78]
theorem m_holds {k s : Int} {A : pj_Q} {D : Int} {C L : pj_Q} (I : pj_IV A) {n F S T P : Int} {W : Int → Int} (hk : 0 ≤ k) (hk2 : k < 60) (h24 : 2400 ≤ A (1030 + 6 * k)) (r : pj_row A n W k F S T P (A (1030 + 6 * k)) (A (1030 + 6 * k + 1)) (A (1030 + 6 * k + 2)) (A (1030 + 6 * k + 4)) (A (1030 + 6 * k + 5))) (u : pj_W) :
    fM_holds (1030 + 6 * k) (mw u s A D C L) = some (lf_hv A (A (1030 + 6 * k)) (A (1030 + 6 * k + 1)) (A (1030 + 6 * k + 2)) (A (1030 + 6 * k + 5))) := by
  have hA := I.1
  have h6 : mw u s A D C L 60 0 = A := mw_60
  have Iw : pj_IV (mw u s A D C L 60 0) := by rw [mw_60]; exact I
  unfold fM_holds
  rw [if_pos (by omega), pj_wr_id (x := 1030 + 6 * k + 1) (by omega) (by omega), if_pos (by omega), pj_wr_id (x := 1030 + 6 * k + 2) (by omega) (by omega), if_pos (by omega), pj_wr_id (x := 1030 + 6 * k + 5) (by omega) (by omega), h6]
  generalize A (1030 + 6 * k) = c0 at r h24 ⊢
  generalize A (1030 + 6 * k + 1) = one at r ⊢
  generalize A (1030 + 6 * k + 2) = two at r ⊢
  generalize A (1030 + 6 * k + 4) = c4 at r ⊢
  generalize A (1030 + 6 * k + 5) = c5 at r ⊢
  have hcase : (c0 = 2428 ∧ pj_isF A one) ∨ (c0 = 2415 ∧ pj_isD A two) ∨ (c0 = 2429 ∧ pj_isD A one) := by
    unfold pj_row at r
    rcases r with h | h | h | h | h | h | h | h | h | h | h | h
    · omega
    · omega
    · omega
    · omega
    · omega
    · omega
    · omega
    · omega
    · omega
    · exact Or.inl ⟨h.2.1, h.2.2.1 ▸ h.2.2.2.2.2.1⟩
    · exact Or.inr (Or.inl ⟨h.2.1, h.2.2.2.1 ▸ h.2.2.2.2.2.1⟩)
    · exact Or.inr (Or.inr ⟨h.2.1, h.2.2.1 ▸ h.2.2.2.1⟩)
  rcases hcase with ⟨rfl, v⟩ | ⟨rfl, v⟩ | ⟨rfl, v⟩
  · have := v.1
    have := v.2
    rw [pj_wr_id (by omega) (by omega), if_neg (by decide), if_neg (by decide), mq_leadOf Iw (by omega) (by omega), Option.bind_some, h6, if_pos (by omega)]
    unfold lf_hv
    rw [if_neg (show ¬ ((2428 : Int) = 2429) by decide), if_neg (show ¬ ((2428 : Int) = 2415) by decide)]
    by_cases e1 : c5 = 60
    · rw [if_pos e1, if_pos e1]
      by_cases e2 : two ≤ pj_lead A one
      · rw [if_pos e2, if_neg (by omega)]
      · rw [if_neg e2, if_pos (by omega)]
    · rw [if_neg e1, if_neg e1]
      by_cases e3 : c5 = 62
      · rw [if_pos e3, if_pos e3]
        by_cases e2 : pj_lead A one ≤ two
        · rw [if_pos e2, if_neg (by omega)]
        · rw [if_neg e2, if_pos (by omega)]
      · rw [if_neg e3, if_neg e3]
        by_cases e2 : pj_lead A one = two
        · rw [if_pos e2, if_pos e2]
        · rw [if_neg e2, if_neg e2]
  · have := v.1
    have := v.2
    have hD := I.2.2.2.1 two v.1 v.2
    rw [pj_wr_id (by omega) (by omega), if_neg (by decide), if_pos (by decide), mq_lastOn (by omega) (by omega) (by rw [h6]; omega) (by rw [h6]; omega), Option.bind_some, h6]
    unfold lf_hv
    rw [if_neg (show ¬ ((2415 : Int) = 2429) by decide), if_pos (show (2415 : Int) = 2415 from rfl)]
    by_cases e2 : pj_and (pj_shr (q_last A two) one) 1 = 1
    · rw [if_pos e2, if_pos e2]
    · rw [if_neg e2, if_neg e2]
  · have := v.1
    have := v.2
    rw [pj_wr_id (by omega) (by omega), if_pos (by decide), mq_isThere, Option.bind_some, h6]
    unfold lf_hv
    rw [if_pos (show (2429 : Int) = 2429 from rfl)]
    by_cases e1 : pj_there A one
    · rw [if_pos e1, if_neg (by decide), mq_manyOn (by omega) (by omega), Option.bind_some, h6]
      by_cases e2 : pj_many A one = 0
      · rw [if_pos e2, if_pos ⟨e1, e2⟩]
      · rw [if_neg e2, if_neg (fun x => e2 x.2)]
    · rw [if_neg e1, if_pos rfl, if_neg (fun x => e1 x.1)]
end
