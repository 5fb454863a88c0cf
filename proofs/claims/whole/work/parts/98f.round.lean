/-! ROUNDS, in the model: all of them -/
theorem bs_E_no {Y : bs_Y} {k : Nat} {l b : List Nat} (m : Nat) : ∀ c : Nat, (∀ i, c ≤ i → i < c + m → ¬ bs_can Y l i) → bs_E Y (k + 1) l b (List.range' c m) = b := by
  induction m with
  | zero => exact fun _ _ => rfl
  | succ m ih =>
    intro c h
    rw [List.range'_succ]
    show bs_E Y (k + 1) l (if bs_can Y l c then _ else b) (List.range' (c + 1) m) = b
    rw [if_neg (h c (by omega) (by omega))]
    exact ih (c + 1) (fun i h1 h2 => h i (by omega) (by omega))
theorem bs_E_to {Y : bs_Y} {k : Nat} {l b : List Nat} {d : Nat} (hc : bs_can Y l d) (m : Nat) : ∀ c : Nat, c ≤ d → d < c + m → (∀ i, c ≤ i → i < d → ¬ bs_can Y l i) → bs_E Y (k + 1) l b (List.range' c m) = bs_E Y (k + 1) l (bs_E Y k (l ++ [d]) (bs_up Y b (l ++ [d])) (List.range (bs_n Y))) (List.range' (d + 1) (c + m - (d + 1))) := by
  induction m with
  | zero => intro c h1 h2; omega
  | succ m ih =>
    intro c h1 h2 h
    rw [List.range'_succ]
    by_cases e : c = d
    · subst e
      show bs_E Y (k + 1) l (if bs_can Y l c then _ else b) (List.range' (c + 1) m) = _
      rw [if_pos hc, show c + (m + 1) - (c + 1) = m by omega]
    · show bs_E Y (k + 1) l (if bs_can Y l c then _ else b) (List.range' (c + 1) m) = _
      rw [if_neg (h c (by omega) (by omega)), ih (c + 1) (by omega) (by omega) (fun i h3 h4 => h i (by omega) h4), show c + 1 + m = c + (m + 1) by omega]
theorem bs_st_snoc {S e : Nat} {l : List Nat} (h : bs_st S (l ++ [e])) : bs_st S (e :: l) := by
  have hn := List.nodup_append.mp h.1
  refine ⟨List.nodup_cons.mpr ⟨fun x => hn.2.2 e x e (List.mem_singleton.mpr rfl) rfl, hn.1⟩, fun j => (h.2 j).trans ?_⟩
  rw [List.mem_append, List.mem_singleton, List.mem_cons]
  exact Or.comm
theorem bs_st_or {S e : Nat} {l : List Nat} (h : bs_st S l) (he : e ∉ l) : bs_st (S ||| 2 ^ e) (l ++ [e]) := by
  refine ⟨bs_snoc_nodup h.1 he, fun j => ?_⟩
  rw [Nat.testBit_or, Nat.testBit_two_pow, Bool.or_eq_true, h.2, decide_eq_true_eq, List.mem_append, List.mem_singleton]
  constructor
  · rintro (x | x)
    · exact Or.inl x
    · exact Or.inr x.symm
  · rintro (x | x)
    · exact Or.inl x
    · exact Or.inr x.symm
theorem bs_getD_app {l : List Nat} {e j : Nat} (h : j < l.length) : (l ++ [e]).getD j 0 = l.getD j 0 := by
  rw [List.getD_eq_getElem?_getD, List.getD_eq_getElem?_getD, List.getElem?_append_left h]
theorem bs_getD_last (l : List Nat) (e : Nat) : (l ++ [e]).getD l.length 0 = e := by
  rw [List.getD_eq_getElem?_getD, List.getElem?_append_right (Nat.le_refl _), Nat.sub_self]; rfl
theorem bs_ar_pre {Y : bs_Y} {w u : pj_W} {l b : List Nat} {e : Nat} (h : bs_ar Y w u (l ++ [e]) b) : bs_ar Y w u l b ∧ u 68 0 l.length = e := by
  have hl : (l ++ [e]).length = l.length + 1 := by rw [List.length_append]; rfl
  refine ⟨⟨fun j hj => ?_, h.2⟩, ?_⟩
  · have := h.1 j (by omega)
    rw [bs_getD_app hj, List.take_append_of_le_length (by omega)] at this
    exact this
  · have := (h.1 l.length (by omega)).1
    rw [bs_getD_last] at this
    exact this
theorem bs_lk_snoc {Y : bs_Y} (k : bs_ok Y) {l : List Nat} (h : bs_lk Y l) {d : Nat} (hd : d < bs_n Y) (hc : bs_can Y l d) : bs_lk Y (l ++ [d]) := by
  have hl : (l ++ [d]).length = l.length + 1 := by rw [List.length_append]; rfl
  have e := bs_end_s Y l d
  have hmn := bs_mn_ge k (bs_end Y l).1 (bs_end Y l).2 d
  have h4 := h.2.2.2.1
  have hH := hc.2.1
  refine ⟨bs_snoc_nodup h.1 hc.1, bs_snoc_lt h.2.1 hd, by rw [hl]; omega, ?_, ?_, ?_⟩
  · rw [e]; show 0 ≤ bs_mn Y _ _ d; omega
  · rw [e]; exact hc.2.2.2
  · rw [e]; exact Or.inl hd
section
variable {w : pj_W} {A : pj_Q} {f T : Int}
theorem r_385 {x4 x5 x6 : Int} {L : Nat} (hL : L ≤ 7) (u : pj_W) : fM_rounds_385 f T (10 + 5 * f) x4 x5 x6 L u = some (Sum.inl (x4, x5, x6, ((L + 1 : Nat) : Int), pj_set u 68 0 ((L + 1 : Nat) : Int) (-1))) := by
  unfold fM_rounds_385
  rw [pj_wri (by omega), if_pos (by omega)]; rfl
theorem r_343 {x5 x6 : Int} {L : Nat} (hL : L ≤ 7) (u : pj_W) : ∃ u', fM_rounds_343 f T (10 + 5 * f) x5 x6 L u = some (Sum.inl (x5, x5, x6, ((L + 1 : Nat) : Int), pj_set u' 68 0 ((L + 1 : Nat) : Int) (-1))) ∧ u' 26 0 29 = (L : Int) + 1 ∧ (∀ j : Int, 0 ≤ j → j ≤ L → u' 70 0 j = u 68 0 j) ∧ ∀ k i s, k ≠ 70 → ¬ (k = 26 ∧ i = 0 ∧ s = 29) → u' k i s = u k i s := by
  have key : ∀ m c : Nat, c + m = L + 1 → ∀ z : pj_W, z 26 0 29 = (L : Int) + 1 → (∀ j : Int, 0 ≤ j → j < c → z 70 0 j = u 68 0 j) → (∀ k i s, k ≠ 70 → ¬ (k = 26 ∧ i = 0 ∧ s = 29) → z k i s = u k i s) → ∃ u', fM_rounds_358 f T (10 + 5 * f) x5 x5 x6 L ((c : Int), z) = some (Sum.inl (x5, x5, x6, ((L + 1 : Nat) : Int), pj_set u' 68 0 ((L + 1 : Nat) : Int) (-1))) ∧ u' 26 0 29 = (L : Int) + 1 ∧ (∀ j : Int, 0 ≤ j → j ≤ L → u' 70 0 j = u 68 0 j) ∧ ∀ k i s, k ≠ 70 → ¬ (k = 26 ∧ i = 0 ∧ s = 29) → u' k i s = u k i s := by
    intro m
    induction m with
    | zero =>
      intro c hc z z1 z2 z3
      refine ⟨z, pj_Lp_end ?_, z1, fun j j0 j1 => z2 j j0 (by omega), z3⟩
      unfold fM_rounds_358b
      dsimp only
      rw [if_pos (by omega), r_385 hL]; rfl
    | succ m ih =>
      intro c hc z z1 z2 z3
      obtain ⟨u', e, r⟩ := ih (c + 1) (by omega) (pj_set z 70 0 c (z 68 0 c)) (by rw [pj_sne (by omega)]; exact z1) (fun j j0 j1 => by
        by_cases cj : j = c
        · rw [cj, pj_set_at, z3 68 0 c (by decide) (by omega)]
        · rw [pj_sne (by omega)]; exact z2 j j0 (by omega)) (fun k i s a1 a2 => by rw [pj_sne (by omega)]; exact z3 k i s a1 a2)
      refine ⟨u', ?_, r⟩
      rw [← e]
      refine pj_Lp_st ?_
      unfold fM_rounds_358b
      dsimp only
      rw [if_neg (by omega), if_pos (by omega), if_pos (by omega), pj_wri (by omega)]; rfl
  unfold fM_rounds_343
  rw [pj_wr_id (x := (L : Int) + 1) (by omega) (by omega)]
  exact key (L + 1) 0 (by omega) _ pj_set_at (fun j j0 j1 => by omega) (fun k i s a1 a2 => pj_sne (by omega))
/-- one is taken -/
theorem r_252 (hA0 : w 60 0 = A) (I : pj_IV A) (hf : pj_isF A f) (k : bs_ok (bs_of A f T)) {l b : List Nat} (hl : bs_lk (bs_of A f T) l) (hb8 : b.length ≤ 8) {S : Nat} (hS : S < 2 ^ (A 2).toNat) {u : pj_W} (hu : bs_ar (bs_of A f T) w u l b) {d : Nat} (hd : d < (A 2).toNat) (hc : bs_can (bs_of A f T) l d) (h69 : u 69 0 l.length = bs_mn (bs_of A f T) (bs_end (bs_of A f T) l).1 (bs_end (bs_of A f T) l).2 d) :
    ∃ u', fM_rounds_252 f T (10 + 5 * f) (bs_w (bs_of A f T) b) (bs_w (bs_of A f T) l) S l.length d u = some (Sum.inl (bs_w (bs_of A f T) (bs_up (bs_of A f T) b (l ++ [d])), bs_w (bs_of A f T) (l ++ [d]), ((S ||| 2 ^ d : Nat) : Int), ((l.length + 1 : Nat) : Int), u')) ∧ bs_ar (bs_of A f T) w u' (l ++ [d]) (bs_up (bs_of A f T) b (l ++ [d])) ∧ u' 68 0 ((l.length + 1 : Nat) : Int) = -1 := by
  have hA := I.1
  have f0 := hf.1
  have f1 := hf.2
  have h256 : 2 ^ (A 2).toNat ≤ 256 := Nat.pow_le_pow_right (n := 2) (by decide) (show (A 2).toNat ≤ 8 by omega)
  have h1 : (d :: l).length ≤ (A 2).toNat := bs_nodup_len (List.nodup_cons.mpr ⟨hc.1, hl.1⟩) (fun x hx => by
    rcases List.mem_cons.mp hx with e | e
    · rw [e]; exact hd
    · exact hl.2.1 x e)
  rw [List.length_cons] at h1
  have hlen : (l ++ [d]).length = l.length + 1 := by rw [List.length_append]; rfl
  have h60 : u 60 0 = A := by rw [← hA0]; exact funext fun s => hu.2.2 60 0 s (by decide) (by decide) (by decide) (by omega)
  have hg : bs_g (bs_of A f T) d = A (40 + 3 * (d : Int) + 1) := if_pos hd
  have hws := bs_w_s (bs_of A f T) l d
  have hwl := bs_w_in k l
  have hwb := bs_w_in k b
  have hgd := k.2.2.2.2.2.2.2.2 d
  have hor : pj_or (S : Int) (pj_shl 1 (d : Int)) = ((S ||| 2 ^ d : Nat) : Int) := pj_or_n (by omega) (by omega)
  have hH : u 60 0 (10 + 5 * f + 2) = bs_H (bs_of A f T) := by rw [h60]; rfl
  have hcH := hc.2.1
  have hu1 : ∀ kk i s, ¬ (kk = 68 ∧ i = 0 ∧ s = (l.length : Int)) → pj_set u 68 0 l.length d kk i s = u kk i s := fun kk i s h => pj_sne h
  have e1 : pj_set u 68 0 l.length d 60 0 (40 + 3 * (d : Int) + 1) = bs_g (bs_of A f T) d := by rw [hu1 60 0 _ (by omega), h60, hg]
  have e29 : pj_set u 68 0 l.length d 26 0 29 = (b.length : Int) := by rw [hu1 26 0 29 (by omega)]; exact hu.2.1.1
  have har : ∀ (u2 : pj_W) (b2 : List Nat), (∀ j : Int, 0 ≤ j → j ≤ (l.length : Int) → u2 68 0 j = pj_set u 68 0 l.length d 68 0 j ∧ u2 69 0 j = u 69 0 j) → (u2 26 0 29 = b2.length ∧ ∀ j : Nat, j < b2.length → u2 70 0 j = (b2.getD j 0 : Int)) → (∀ kk i s, kk ≠ 68 → kk ≠ 69 → kk ≠ 70 → ¬ (kk = 26 ∧ i = 0 ∧ s = 29) → u2 kk i s = u kk i s) → bs_ar (bs_of A f T) w u2 (l ++ [d]) b2 := fun u2 b2 q1 q2 q3 => by
    refine ⟨fun j hj => ?_, q2, fun kk i s a1 a2 a3 a4 => (q3 kk i s a1 a2 a3 a4).trans (hu.2.2 kk i s a1 a2 a3 a4)⟩
    have hq := q1 j (by omega) (by omega)
    rw [hq.1, hq.2]
    by_cases e : j = l.length
    · rw [e, pj_set_at, bs_getD_last, h69, List.take_of_length_le (by omega), bs_end_s]
      exact ⟨rfl, rfl⟩
    · have := hu.1 j (by omega)
      rw [hu1 68 0 j (by omega), bs_getD_app (by omega), List.take_append_of_le_length (by omega)]
      exact this
  unfold fM_rounds_252
  rw [h60, if_neg (by omega), pj_wr_id (x := 10 + 5 * f + 2) (by omega) (by omega), if_pos (by omega), if_neg (by rw [← h60, hH]; omega), if_pos (by omega), mq_findRow (by omega) (by omega) (by omega) (by omega), Option.bind_some, Int.zero_add, pj_wr_id (x := 40 + 3 * (d : Int) + 1) (by omega) (by omega), if_pos (by omega), e1, pj_wr_id (x := bs_w (bs_of A f T) l + bs_g (bs_of A f T) d) (by omega) (by omega), hor, e29, pj_wr_id (x := (l.length : Int) + 1) (by omega) (by omega), ← hws]
  have hup : bs_up (bs_of A f T) b (l ++ [d]) = if bs_w (bs_of A f T) b < bs_w (bs_of A f T) (l ++ [d]) ∨ bs_w (bs_of A f T) (l ++ [d]) = bs_w (bs_of A f T) b ∧ l.length + 1 < b.length then l ++ [d] else b := by
    unfold bs_up bs_ky
    rw [hlen]
    by_cases c1 : bs_w (bs_of A f T) b < bs_w (bs_of A f T) (l ++ [d]) ∨ bs_w (bs_of A f T) (l ++ [d]) = bs_w (bs_of A f T) b ∧ l.length + 1 < b.length
    · rw [if_pos c1, if_pos (by omega)]
    · rw [if_neg c1, if_neg (by omega)]
  have take : ∃ u', fM_rounds_343 f T (10 + 5 * f) (bs_w (bs_of A f T) (l ++ [d])) ((S ||| 2 ^ d : Nat) : Int) l.length (pj_set u 68 0 l.length d) = some (Sum.inl (bs_w (bs_of A f T) (l ++ [d]), bs_w (bs_of A f T) (l ++ [d]), ((S ||| 2 ^ d : Nat) : Int), ((l.length + 1 : Nat) : Int), u')) ∧ bs_ar (bs_of A f T) w u' (l ++ [d]) (l ++ [d]) ∧ u' 68 0 ((l.length + 1 : Nat) : Int) = -1 := by
    obtain ⟨u', r1, r2, r3, r4⟩ := r_343 (f := f) (T := T) (x5 := bs_w (bs_of A f T) (l ++ [d])) (x6 := ((S ||| 2 ^ d : Nat) : Int)) (L := l.length) (by omega) (pj_set u 68 0 l.length d)
    refine ⟨_, r1, har _ _ (fun j j0 j1 => ?_) ⟨?_, fun j hj => ?_⟩ (fun kk i s a1 a2 a3 a4 => ?_), pj_set_at⟩
    · refine ⟨?_, ?_⟩
      · rw [pj_sne (by omega), r4 68 0 j (by decide) (by omega)]
      · rw [pj_sne (by omega), r4 69 0 j (by decide) (by omega), hu1 69 0 j (by omega)]
    · rw [pj_sne (by omega), r2, hlen]; omega
    · rw [pj_sne (by omega), r3 j (by omega) (by omega)]
      by_cases e : j = l.length
      · rw [e, pj_set_at, bs_getD_last]
      · rw [hu1 68 0 j (by omega), bs_getD_app (by omega)]
        exact (hu.1 j (by omega)).1
    · rw [pj_sne (by omega), r4 kk i s a3 a4, hu1 kk i s (by omega)]
  have leave : ∃ u', fM_rounds_385 f T (10 + 5 * f) (bs_w (bs_of A f T) b) (bs_w (bs_of A f T) (l ++ [d])) ((S ||| 2 ^ d : Nat) : Int) l.length (pj_set u 68 0 l.length d) = some (Sum.inl (bs_w (bs_of A f T) b, bs_w (bs_of A f T) (l ++ [d]), ((S ||| 2 ^ d : Nat) : Int), ((l.length + 1 : Nat) : Int), u')) ∧ bs_ar (bs_of A f T) w u' (l ++ [d]) b ∧ u' 68 0 ((l.length + 1 : Nat) : Int) = -1 := by
    refine ⟨_, r_385 (by omega) _, har _ _ (fun j j0 j1 => ?_) ⟨?_, fun j hj => ?_⟩ (fun kk i s a1 a2 a3 a4 => ?_), pj_set_at⟩
    · refine ⟨?_, ?_⟩
      · rw [pj_sne (by omega)]
      · rw [pj_sne (by omega), hu1 69 0 j (by omega)]
    · rw [pj_sne (by omega)]; exact e29
    · rw [pj_sne (by omega), hu1 70 0 j (by omega)]; exact hu.2.1.2 j hj
    · rw [pj_sne (by omega), hu1 kk i s (by omega)]
  rw [hup]
  by_cases c1 : bs_w (bs_of A f T) b < bs_w (bs_of A f T) (l ++ [d])
  · rw [if_pos c1, if_pos (Or.inl c1)]
    exact take
  · rw [if_neg c1]
    by_cases c2 : bs_w (bs_of A f T) (l ++ [d]) = bs_w (bs_of A f T) b
    · rw [if_pos c2]
      by_cases c3 : (b.length : Int) ≤ (l.length : Int) + 1
      · rw [if_pos c3, if_neg (by omega)]
        exact leave
      · rw [if_neg c3, if_pos (by omega)]
        exact take
    · rw [if_neg c2, if_neg (by omega)]
      exact leave
end
