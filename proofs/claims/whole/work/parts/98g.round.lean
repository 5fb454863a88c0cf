/-! ROUNDS, in the model: to the end -/
section
variable {w : pj_W} {A : pj_Q} {f T : Int}
/-- where the search stands: it goes on with c behind a row l -/
def bs_hd (Y : bs_Y) (u : pj_W) (l : List Nat) (c : Nat) (x5 x6 : Int) : Prop := ∃ S, S < 2 ^ bs_n Y ∧ ((c = 0 ∧ u 68 0 l.length = -1 ∧ bs_st S l ∧ x6 = (S : Int) ∧ x5 = bs_w Y l) ∨ ∃ e, c = e + 1 ∧ e < bs_n Y ∧ u 68 0 l.length = (e : Int) ∧ bs_st S (l ++ [e]) ∧ x6 = (S : Int) ∧ x5 = bs_w Y (l ++ [e]))
theorem r_head (hA0 : w 60 0 = A) (I : pj_IV A) (hf : pj_isF A f) (k : bs_ok (bs_of A f T)) {l b : List Nat} (hl : bs_lk (bs_of A f T) l) {c : Nat} (hc : c ≤ (A 2).toNat) {x4 x5 x6 : Int} {u : pj_W} (hu : bs_ar (bs_of A f T) w u l b) (hh : bs_hd (bs_of A f T) u l c x5 x6) :
    ∃ S, S < 2 ^ (A 2).toNat ∧ bs_st S l ∧ fM_rounds_29b f T (10 + 5 * f) x4 x5 x6 l.length u = fM_rounds_156 f T (10 + 5 * f) x4 (bs_w (bs_of A f T) l) S l.length (bs_cl A f (bs_end (bs_of A f T) l).1) (bs_end (bs_of A f T) l).2 ((c : Int), u) := by
  have hA := I.1
  have f0 := hf.1
  have f1 := hf.2
  have h256 : 2 ^ (A 2).toNat ≤ 256 := Nat.pow_le_pow_right (n := 2) (by decide) (show (A 2).toNat ≤ 8 by omega)
  have hlen : l.length ≤ (A 2).toNat := bs_nodup_len hl.1 hl.2.1
  have h60 : u 60 0 = A := by rw [← hA0]; exact funext fun s => hu.2.2 60 0 s (by decide) (by decide) (by decide) (by omega)
  have h84 : ∀ S : Nat, (u 68 0 l.length = (c : Int) - 1) → fM_rounds_84 f T (10 + 5 * f) x4 (bs_w (bs_of A f T) l) S l.length u = fM_rounds_156 f T (10 + 5 * f) x4 (bs_w (bs_of A f T) l) S l.length (bs_cl A f (bs_end (bs_of A f T) l).1) (bs_end (bs_of A f T) l).2 ((c : Int), u) := fun S h68 => by
    unfold fM_rounds_84 fM_rounds_127 fM_rounds_154
    rw [if_pos (by omega), h68, pj_wr_id (x := (c : Int) - 1 + 1) (by omega) (by omega), show (c : Int) - 1 + 1 = c by omega, h60]
    rcases List.eq_nil_or_concat l with e | ⟨l0, x, e⟩
    · subst e
      have e0 : (([] : List Nat).length : Int) = 0 := rfl
      rw [if_pos e0, if_pos (by omega), if_pos e0, pj_wr_id (x := 10 + 5 * f + 3) (by omega) (by omega), if_pos (by omega)]; rfl
    · rw [List.concat_eq_append] at e
      subst e
      have hL : (l0 ++ [x]).length = l0.length + 1 := by rw [List.length_append]; rfl
      have hx : x < (A 2).toNat := hl.2.1 x (List.mem_append.mpr (Or.inr (List.mem_singleton.mpr rfl)))
      obtain ⟨h1, h2⟩ := hu.1 l0.length (by omega)
      rw [bs_getD_last] at h1
      rw [List.take_of_length_le (by omega), bs_end_s] at h2
      have hcl : bs_cl A f x = A (40 + 3 * (x : Int)) := by unfold bs_cl; rw [if_neg (by omega)]
      rw [bs_end_s]
      dsimp only
      rw [hL, if_neg (by omega), pj_wr_id (x := ((l0.length + 1 : Nat) : Int) - 1) (by omega) (by omega), show ((l0.length + 1 : Nat) : Int) - 1 = (l0.length : Int) by omega, if_pos (by omega), h1, mq_findRow (by omega) (by omega) (by omega) (by omega), Option.bind_some, Int.zero_add, if_pos (by omega), if_neg (by omega), if_pos (by omega), h2, hcl]
  obtain ⟨S, hS, hh⟩ := hh
  rcases hh with ⟨h1, h2, h3, h4, h5⟩ | ⟨e, h1, h2, h3, h4, h5, h6⟩
  · refine ⟨S, hS, h3, ?_⟩
    unfold fM_rounds_29b
    rw [if_neg (by omega), if_pos (by omega), if_pos h2, h4, h5]
    exact h84 S (by omega)
  · have h2' : e < (A 2).toNat := h2
    have hS' : S < 2 ^ (A 2).toNat := hS
    have hst := (bs_st_cons (S := S) (by omega)).mp (bs_st_snoc h4)
    have hB := bs_bit (S := S) (by omega) hst.1
    have hand := bs_and_d ⟨S, by omega⟩ ⟨e, hB.1⟩ hst.1
    simp only at hand
    have hg : bs_g (bs_of A f T) e = A (40 + 3 * (e : Int) + 1) := if_pos h2'
    have hw := bs_w_s (bs_of A f T) l e
    have hwl := bs_w_in k l
    have hgd := k.2.2.2.2.2.2.2.2 e
    refine ⟨S - 2 ^ e, by omega, hst.2, ?_⟩
    unfold fM_rounds_29b
    rw [if_neg (by omega), if_pos (by omega), if_neg (by omega), h3, mq_findRow (by omega) (by omega) (by omega) (by omega), Option.bind_some, Int.zero_add, pj_wr_id (x := 40 + 3 * (e : Int) + 1) (by omega) (by omega), if_pos (by omega), h60, ← hg, h5, hand, h6, hw, pj_wr_id (by omega) (by omega), show bs_w (bs_of A f T) l + bs_g (bs_of A f T) e - bs_g (bs_of A f T) e = bs_w (bs_of A f T) l by omega]
    exact h84 (S - 2 ^ e) (by omega)
theorem r_main (hA0 : w 60 0 = A) (I : pj_IV A) (hf : pj_isF A f) (k : bs_ok (bs_of A f T)) (q : Nat) : ∀ (l : List Nat), bs_lk (bs_of A f T) l → (A 2).toNat ≤ q + l.length → ∀ r c : Nat, c + r = (A 2).toNat → ∀ (b : List Nat) (x5 x6 : Int) (u : pj_W), b.length ≤ 8 → bs_ar (bs_of A f T) w u l b → bs_hd (bs_of A f T) u l c x5 x6 →
    ∃ (S : Nat) (u' : pj_W), S < 2 ^ (A 2).toNat ∧ bs_st S l ∧ fM_rounds_29 f T (10 + 5 * f) (bs_w (bs_of A f T) b, x5, x6, (l.length : Int), u) = fM_rounds_29 f T (10 + 5 * f) (bs_w (bs_of A f T) (bs_E (bs_of A f T) q l b (List.range' c r)), bs_w (bs_of A f T) l, (S : Int), (l.length : Int) - 1, u') ∧ bs_ar (bs_of A f T) w u' l (bs_E (bs_of A f T) q l b (List.range' c r)) ∧ (bs_E (bs_of A f T) q l b (List.range' c r)).length ≤ 8 := by
  have hA := I.1
  have h256 : 2 ^ (A 2).toNat ≤ 256 := Nat.pow_le_pow_right (n := 2) (by decide) (show (A 2).toNat ≤ 8 by omega)
  induction q with
  | zero =>
    intro l hl hq r c hr b x5 x6 u hb hu hh
    have hlen : l.length ≤ (A 2).toNat := bs_nodup_len hl.1 hl.2.1
    obtain ⟨S, hS, hst, hbody⟩ := r_head hA0 I hf k hl (c := c) (x4 := bs_w (bs_of A f T) b) (by omega) hu hh
    obtain ⟨d, u', p1, p2, p3, p4, p5, p6, p7⟩ := r_156 hA0 I hf k hl (S := S) (by omega) hst (bs_w (bs_of A f T) b) (bs_w (bs_of A f T) l) r c hr u hu
    have hd : d = (A 2).toNat := by
      rcases Nat.lt_or_ge d (A 2).toNat with h | h
      · exfalso
        have h1 : (d :: l).length ≤ (A 2).toNat := bs_nodup_len (List.nodup_cons.mpr ⟨(p7 h).1, hl.1⟩) (fun x hx => by
          rcases List.mem_cons.mp hx with e | e
          · rw [e]; exact h
          · exact hl.2.1 x e)
        rw [List.length_cons] at h1
        omega
      · omega
    have h2 : u' 60 0 2 = A 2 := by rw [p2.2.2 60 0 2 (by decide) (by decide) (by decide) (by omega), hA0]
    refine ⟨S, u', hS, hst, pj_Lp_st ?_, p2, hb⟩
    dsimp only
    rw [hbody, p1]
    unfold fM_rounds_252 fM_rounds_276
    rw [if_pos (by omega), pj_wr_id (by omega) (by omega)]; rfl
  | succ q ih =>
    intro l hl hq r
    have hlen : l.length ≤ (A 2).toNat := bs_nodup_len hl.1 hl.2.1
    induction r using Nat.strongRecOn with
    | _ r ihr =>
    intro c hr b x5 x6 u hb hu hh
    obtain ⟨S, hS, hst, hbody⟩ := r_head hA0 I hf k hl (c := c) (x4 := bs_w (bs_of A f T) b) (by omega) hu hh
    obtain ⟨d, u', p1, p2, p3, p4, p5, p6, p7⟩ := r_156 hA0 I hf k hl (S := S) (by omega) hst (bs_w (bs_of A f T) b) (bs_w (bs_of A f T) l) r c hr u hu
    have h60 : u' 60 0 = A := by rw [← hA0]; exact funext fun s => p2.2.2 60 0 s (by decide) (by decide) (by decide) (by omega)
    have hno : ∀ i, c ≤ i → i < d → ¬ bs_can (bs_of A f T) l i := fun i i0 i1 hc => p6 i i0 i1 ⟨hc.1, of_decide_eq_true hc.2.2.1, hc.2.2.2⟩
    by_cases hd : d < (A 2).toNat ∧ (l.length : Int) < bs_H (bs_of A f T)
    · obtain ⟨g1, g2, g3, g4⟩ := p7 hd.1
      have hc : bs_can (bs_of A f T) l d := ⟨g1, hd.2, decide_eq_true g2, g3⟩
      have hl2 := bs_lk_snoc k hl (d := d) hd.1 hc
      have hL : (l ++ [d]).length = l.length + 1 := by rw [List.length_append]; rfl
      have hlen2 : (l ++ [d]).length ≤ (A 2).toNat := bs_nodup_len hl2.1 hl2.2.1
      obtain ⟨u2, t1, t2, t3⟩ := r_252 hA0 I hf k hl hb hS p2 hd.1 hc g4
      have hb2 : (bs_up (bs_of A f T) b (l ++ [d])).length ≤ 8 := by
        unfold bs_up
        split <;> omega
      obtain ⟨S2, u3, w1, w2, w3, w4, w5⟩ := ih (l ++ [d]) hl2 (by omega) (A 2).toNat 0 (by omega) (bs_up (bs_of A f T) b (l ++ [d])) _ _ u2 hb2 t2 ⟨S ||| 2 ^ d, Nat.or_lt_two_pow hS (Nat.pow_lt_pow_right (by decide) hd.1), Or.inl ⟨rfl, by rw [hL]; exact t3, bs_st_or hst g1, rfl, rfl⟩⟩
      rw [show List.range' 0 (A 2).toNat = List.range (bs_n (bs_of A f T)) from List.range_eq_range'.symm] at w3 w4 w5
      have hpre := bs_ar_pre w4
      obtain ⟨S3, u4, y1, y2, y3, y4, y5⟩ := ihr ((A 2).toNat - (d + 1)) (by omega) (d + 1) (by omega) (bs_E (bs_of A f T) q (l ++ [d]) (bs_up (bs_of A f T) b (l ++ [d])) (List.range (bs_n (bs_of A f T)))) _ _ u3 w5 hpre.1 ⟨S2, w1, Or.inr ⟨d, rfl, hd.1, hpre.2, w2, rfl, rfl⟩⟩
      have hE := bs_E_to (k := q) (b := b) hc r c p4 (by omega) hno
      rw [show c + r - (d + 1) = (A 2).toNat - (d + 1) by omega] at hE
      rw [hE]
      refine ⟨S3, u4, y1, y2, ?_, y4, y5⟩
      refine Eq.trans (pj_Lp_st (s' := (bs_w (bs_of A f T) (bs_up (bs_of A f T) b (l ++ [d])), bs_w (bs_of A f T) (l ++ [d]), ((S ||| 2 ^ d : Nat) : Int), ((l.length + 1 : Nat) : Int), u2)) ?_) ?_
      · dsimp only
        rw [hbody, p1, t1]
      · rw [hL, show ((l.length + 1 : Nat) : Int) - 1 = (l.length : Int) by omega] at w3
        exact w3.trans y3
    · have hall : ∀ i, c ≤ i → i < c + r → ¬ bs_can (bs_of A f T) l i := fun i i0 i1 hc => by
        by_cases hdd : d < (A 2).toNat
        · exact hd ⟨hdd, hc.2.1⟩
        · exact hno i i0 (by omega) hc
      rw [bs_E_no r c hall]
      refine ⟨S, u', hS, hst, pj_Lp_st ?_, p2, hb⟩
      dsimp only
      rw [hbody, p1]
      unfold fM_rounds_252 fM_rounds_276
      have f0 := hf.1
      have f1 := hf.2
      rw [h60, pj_wr_id (x := 10 + 5 * f + 2) (by omega) (by omega), pj_wr_id (x := (l.length : Int) + -1) (by omega) (by omega)]
      by_cases e : (d : Int) = A 2
      · rw [if_pos e]; rfl
      · have hlH := hl.2.2.1
        have hH : bs_H (bs_of A f T) = A (10 + 5 * f + 2) := rfl
        have hle : ¬ (l.length : Int) < A (10 + 5 * f + 2) := fun x => hd ⟨by omega, x⟩
        rw [if_neg e, if_pos (by omega), if_pos (by omega)]; rfl
/-- all rounds: the best -/
theorem m_rounds (hA0 : w 60 0 = A) (I : pj_IV A) (hf : pj_isF A f) (h0 : A (10 + 5 * f + 3) ≤ T) (hT : T ≤ 1000) :
    ∃ u', fM_rounds f T w = some (bs_w (bs_of A f T) (bs_B (bs_of A f T)), u') ∧ u' 26 0 29 = (bs_B (bs_of A f T)).length ∧ (∀ j : Nat, j < (bs_B (bs_of A f T)).length → u' 70 0 j = ((bs_B (bs_of A f T)).getD j 0 : Int)) ∧ ∀ k i s, k ≠ 68 → k ≠ 69 → k ≠ 70 → ¬ (k = 26 ∧ i = 0 ∧ s = 29) → u' k i s = w k i s := by
  have hA := I.1
  have f0 := hf.1
  have f1 := hf.2
  have k := bs_of_ok I hf h0 hT
  have hl : bs_lk (bs_of A f T) [] := ⟨List.nodup_nil, fun x hx => absurd hx List.not_mem_nil, k.2.2.2.2.2.2.2.1, k.2.2.2.2.2.1, k.2.2.2.2.2.2.1, Or.inr rfl⟩
  obtain ⟨S, u', h1, h2, h3, h4, h5⟩ := r_main (q := 9) hA0 I hf k [] hl (by simp only [List.length_nil]; omega) (A 2).toNat 0 (by omega) [] 0 0 (pj_set (pj_set w 26 0 29 0) 68 0 0 (-1)) (by decide) ⟨fun j hj => absurd hj (Nat.not_lt_zero j), ⟨by rw [pj_sne (by omega), pj_set_at]; rfl, fun j hj => absurd hj (Nat.not_lt_zero j)⟩, fun kk i s a1 a2 a3 a4 => by rw [pj_sne (by omega), pj_sne (by omega)]⟩ ⟨0, Nat.two_pow_pos _, Or.inl ⟨rfl, pj_set_at, bs_st_nil.mpr rfl, rfl, rfl⟩⟩
  rw [show List.range' 0 (A 2).toNat = List.range (bs_n (bs_of A f T)) from List.range_eq_range'.symm] at h3 h4
  refine ⟨u', ?_, h4.2.1.1, h4.2.1.2, h4.2.2⟩
  unfold fM_rounds
  rw [mq_finderRow (by omega) (by omega), Option.bind_some]
  refine Eq.trans h3 (pj_Lp_end ?_)
  unfold fM_rounds_29b
  dsimp only
  rw [if_pos (by simp only [List.length_nil]; decide)]; rfl
end
