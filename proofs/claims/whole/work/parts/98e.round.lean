/-! ROUNDS, in the model: one after another -/
theorem pj_Lp_map {σ ρ : Type} {body : σ → Option (σ ⊕ ρ)} {s : σ} {x : Option ρ} (h : body s = x.map Sum.inr) : pj_Lp body s = x := by
  rw [pj_Lp_eq, h]
  cases x with
  | none => rfl
  | some r => rfl
def bs_ar (Y : bs_Y) (w u : pj_W) (l b : List Nat) : Prop := (∀ j : Nat, j < l.length → u 68 0 j = (l.getD j 0 : Int) ∧ u 69 0 j = (bs_end Y (l.take (j + 1))).2) ∧ (u 26 0 29 = b.length ∧ ∀ j : Nat, j < b.length → u 70 0 j = (b.getD j 0 : Int)) ∧ ∀ k i s, k ≠ 68 → k ≠ 69 → k ≠ 70 → ¬ (k = 26 ∧ i = 0 ∧ s = 29) → u k i s = w k i s
/-- a row so far -/
def bs_lk (Y : bs_Y) (l : List Nat) : Prop := l.Nodup ∧ (∀ x ∈ l, x < bs_n Y) ∧ (l.length : Int) ≤ bs_H Y ∧ 0 ≤ (bs_end Y l).2 ∧ (bs_end Y l).2 ≤ bs_T Y ∧ ((bs_end Y l).1 < bs_n Y ∨ (bs_end Y l).1 = 8)
section
variable {w : pj_W} {A : pj_Q} {f T : Int}
theorem r_156 (hA0 : w 60 0 = A) (I : pj_IV A) (hf : pj_isF A f) (k : bs_ok (bs_of A f T)) {l b : List Nat} (hl : bs_lk (bs_of A f T) l) {S : Nat} (hS : S < 256) (hst : bs_st S l) (x4 x5 : Int) : ∀ m c : Nat, c + m = (A 2).toNat → ∀ u : pj_W, bs_ar (bs_of A f T) w u l b →
    ∃ (d : Nat) (u' : pj_W), fM_rounds_156 f T (10 + 5 * f) x4 x5 S l.length (bs_cl A f (bs_end (bs_of A f T) l).1) (bs_end (bs_of A f T) l).2 ((c : Int), u) = fM_rounds_252 f T (10 + 5 * f) x4 x5 S l.length d u' ∧ bs_ar (bs_of A f T) w u' l b ∧ u' 68 0 l.length = u 68 0 l.length ∧ c ≤ d ∧ d ≤ (A 2).toNat ∧
      (∀ i, c ≤ i → i < d → ¬ (i ∉ l ∧ pj_there A i ∧ bs_mn (bs_of A f T) (bs_end (bs_of A f T) l).1 (bs_end (bs_of A f T) l).2 i ≤ T)) ∧ (d < (A 2).toNat → d ∉ l ∧ pj_there A d ∧ bs_mn (bs_of A f T) (bs_end (bs_of A f T) l).1 (bs_end (bs_of A f T) l).2 d ≤ T ∧ u' 69 0 l.length = bs_mn (bs_of A f T) (bs_end (bs_of A f T) l).1 (bs_end (bs_of A f T) l).2 d) := by
  have hA := I.1
  have hF := I.2.2.1 f hf.1 hf.2
  have f0 := hf.1
  have f1 := hf.2
  have hlen : l.length ≤ (A 2).toNat := bs_nodup_len hl.1 hl.2.1
  intro m
  induction m with
  | zero =>
    intro c hc u hu
    have h2 : u 60 0 2 = A 2 := by rw [hu.2.2 60 0 2 (by decide) (by decide) (by decide) (by omega), hA0]
    refine ⟨c, u, pj_Lp_map ?_, hu, rfl, Nat.le_refl _, by omega, fun i _ _ => by omega, fun h => by omega⟩
    unfold fM_rounds_156b
    dsimp only
    rw [if_pos (by omega)]
  | succ m ih =>
    intro c hc u hu
    have h60 : u 60 0 = A := by rw [← hA0]; exact funext fun s => hu.2.2 60 0 s (by decide) (by decide) (by decide) (by omega)
    have hD := I.2.2.2.1 c (by omega) (by omega)
    have hds : bs_ds (bs_of A f T) (bs_end (bs_of A f T) l).1 c = A (10 + 5 * f + 1) * pj_abs (bs_cl A f (bs_end (bs_of A f T) l).1 - A (40 + 3 * (c : Int))) := if_pos ⟨hl.2.2.2.2.2, by omega⟩
    have ho : bs_o (bs_of A f T) c = pj_bhd A f c := if_pos (by omega)
    have hcl : 0 ≤ bs_cl A f (bs_end (bs_of A f T) l).1 ∧ bs_cl A f (bs_end (bs_of A f T) l).1 < 40 := by
      have hp : (bs_end (bs_of A f T) l).1 < (A 2).toNat ∨ (bs_end (bs_of A f T) l).1 = 8 := hl.2.2.2.2.2
      unfold bs_cl
      split
      · omega
      · have := I.2.2.2.1 (bs_end (bs_of A f T) l).1 (by omega) (by omega)
        omega
    have hmn : bs_mn (bs_of A f T) (bs_end (bs_of A f T) l).1 (bs_end (bs_of A f T) l).2 c = max ((bs_end (bs_of A f T) l).2 + A (10 + 5 * f + 1) * pj_abs (bs_cl A f (bs_end (bs_of A f T) l).1 - A (40 + 3 * (c : Int)))) (pj_bhd A f c) := by unfold bs_mn; rw [hds, ho]
    have hb1 := bs_abs_mul hF.2.2.1 hF.2.2.2.1 hcl.1 hcl.2 hD.1 (show A (40 + 3 * (c : Int)) < 40 by omega)
    have hT9 := k.2.2.2.2.1
    have hT8 : (bs_end (bs_of A f T) l).2 ≤ T := hl.2.2.2.2.1
    have hT7 := hl.2.2.2.1
    have hTT : T ≤ 1000 := hT9
    obtain ⟨M, hM⟩ : ∃ M, M = bs_mn (bs_of A f T) (bs_end (bs_of A f T) l).1 (bs_end (bs_of A f T) l).2 c := ⟨_, rfl⟩
    have e69 : bs_ar (bs_of A f T) w (pj_set u 69 0 l.length M) l b := by
      refine ⟨fun j hj => ?_, ?_, fun kk i s a1 a2 a3 a4 => ?_⟩
      · rw [pj_sne (by omega), pj_sne (by omega)]; exact hu.1 j hj
      · rw [pj_sne (by omega)]
        exact ⟨hu.2.1.1, fun j hj => by rw [pj_sne (by omega)]; exact hu.2.1.2 j hj⟩
      · rw [pj_sne (by omega)]; exact hu.2.2 kk i s a1 a2 a3 a4
    have h60' : pj_set u 69 0 l.length M 60 0 = A := by rw [← h60]; exact funext fun s => pj_sne (by omega)
    have hbody : fM_rounds_156b f T (10 + 5 * f) x4 x5 S l.length (bs_cl A f (bs_end (bs_of A f T) l).1) (bs_end (bs_of A f T) l).2 c u = if pj_there A c then (if S.testBit c = true then some (Sum.inl (((c + 1 : Nat) : Int), pj_set u 69 0 l.length M)) else if T < M then some (Sum.inl (((c + 1 : Nat) : Int), pj_set u 69 0 l.length M)) else (fM_rounds_252 f T (10 + 5 * f) x4 x5 S l.length c (pj_set u 69 0 l.length M)).map Sum.inr) else some (Sum.inl (((c + 1 : Nat) : Int), pj_set u 69 0 l.length M)) := by
      have h2 : u 60 0 2 = A 2 := by rw [h60]
      have hp : u 60 0 (10 + 5 * f + 1) = A (10 + 5 * f + 1) := by rw [h60]
      have hcc : u 60 0 (40 + 3 * (c : Int)) = A (40 + 3 * (c : Int)) := by rw [h60]
      unfold fM_rounds_156b fM_rounds_246
      rw [if_neg (by omega), pj_wr_id (x := 10 + 5 * f + 1) (by omega) (by omega), if_pos (by omega), mq_findRow (by omega) (by omega) (by omega) (by omega), Option.bind_some, Int.zero_add, if_pos (by omega), mq_behindOthers (by rw [h60]; exact I) (by omega) (by omega), Option.bind_some, if_pos (by omega), hp, hcc, h60, pj_wr_id (x := bs_cl A f (bs_end (bs_of A f T) l).1 - A (40 + 3 * (c : Int))) (by omega) (by omega), pj_wr_id (x := A (10 + 5 * f + 1) * pj_abs (bs_cl A f (bs_end (bs_of A f T) l).1 - A (40 + 3 * (c : Int)))) (by omega) (by omega), pj_wr_id (x := (bs_end (bs_of A f T) l).2 + A (10 + 5 * f + 1) * pj_abs (bs_cl A f (bs_end (bs_of A f T) l).1 - A (40 + 3 * (c : Int)))) (by omega) (by omega), ← hmn, ← hM, Option.bind_some, mq_isThere, Option.bind_some, h60', pj_set_at, pj_wri (by omega)]
      by_cases c1 : pj_there A c
      · rw [if_pos c1, if_neg (by decide), if_pos c1]
        have hbit := bs_bitI (S := S) (i := c) hS (by omega)
        by_cases c2 : S.testBit c = true
        · have := hbit.mpr c2
          rw [if_pos c2, if_neg (by omega)]; rfl
        · have h01 := pj_bit01 (s := (S : Int)) (f := (c : Int)) (by omega) (by omega) (by omega) (by omega)
          have : pj_and (pj_shr (S : Int) (c : Int)) 1 = 0 := by
            rcases h01 with h | h
            · exact h
            · exact absurd (hbit.mp h) c2
          rw [if_neg c2, if_pos this]
          by_cases c3 : T < M
          · rw [if_pos c3, if_pos c3]; rfl
          · rw [if_neg c3, if_neg c3]
      · rw [if_neg c1, if_pos rfl, if_neg c1]; rfl
    have hno : ¬ (c ∉ l ∧ pj_there A c ∧ M ≤ T) → ∃ (d : Nat) (u' : pj_W), fM_rounds_156 f T (10 + 5 * f) x4 x5 S l.length (bs_cl A f (bs_end (bs_of A f T) l).1) (bs_end (bs_of A f T) l).2 ((c : Int), u) = fM_rounds_252 f T (10 + 5 * f) x4 x5 S l.length d u' ∧ bs_ar (bs_of A f T) w u' l b ∧ u' 68 0 l.length = u 68 0 l.length ∧ c ≤ d ∧ d ≤ (A 2).toNat ∧
      (∀ i, c ≤ i → i < d → ¬ (i ∉ l ∧ pj_there A i ∧ bs_mn (bs_of A f T) (bs_end (bs_of A f T) l).1 (bs_end (bs_of A f T) l).2 i ≤ T)) ∧ (d < (A 2).toNat → d ∉ l ∧ pj_there A d ∧ bs_mn (bs_of A f T) (bs_end (bs_of A f T) l).1 (bs_end (bs_of A f T) l).2 d ≤ T ∧ u' 69 0 l.length = bs_mn (bs_of A f T) (bs_end (bs_of A f T) l).1 (bs_end (bs_of A f T) l).2 d) := fun hn => by
      obtain ⟨d, u', q1, q2, q3, q4, q5, q6, q7⟩ := ih (c + 1) (by omega) (pj_set u 69 0 l.length M) e69
      refine ⟨d, u', ?_, q2, q3.trans (pj_sne (by omega)), by omega, q5, fun i h1 h2 => ?_, q7⟩
      · rw [← q1]
        refine pj_Lp_st ?_
        dsimp only
        rw [hbody]
        by_cases c1 : pj_there A c
        · rw [if_pos c1]
          by_cases c2 : S.testBit c = true
          · rw [if_pos c2]
          · rw [if_neg c2]
            have c3 : T < M := by
              rcases Int.lt_or_le T M with h | h
              · exact h
              · exact absurd ⟨fun x => c2 ((hst.2 c).mpr x), c1, h⟩ hn
            rw [if_pos c3]
        · rw [if_neg c1]
      · by_cases e : i = c
        · rw [e, ← hM]; exact hn
        · exact q6 i (by omega) h2
    by_cases hc1 : c ∉ l ∧ pj_there A c ∧ M ≤ T
    · refine ⟨c, pj_set u 69 0 l.length M, pj_Lp_map ?_, e69, pj_sne (by omega), Nat.le_refl _, by omega, fun i _ _ => by omega, fun _ => ⟨hc1.1, hc1.2.1, by rw [← hM]; exact hc1.2.2, by rw [pj_set_at, ← hM]⟩⟩
      dsimp only
      rw [hbody, if_pos hc1.2.1, if_neg (fun x => hc1.1 ((hst.2 c).mp x)), if_neg (by have := hc1.2.2; omega)]
    · exact hno hc1
end
