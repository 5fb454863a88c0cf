/-! WHAT IS TAKEN OVER FROM ANOTHER: beaches and days of the class -/
theorem pj_cne {w : pj_W} {k1 : Nat} {i1 s1 : Int} {k2 : Nat} {i2 s2 n : Int} {k : Nat} {i s : Int} (h : ¬ (k = k2 ∧ i = i2 ∧ s2 ≤ s ∧ s < s2 + n)) : pj_cpy w k1 i1 s1 k2 i2 s2 n k i s = w k i s := if_neg h
theorem pj_cat {w : pj_W} {k1 : Nat} {i1 : Int} {k2 : Nat} {i2 n : Int} {s : Int} (h : 0 ≤ s) (h2 : s < n) : pj_cpy w k1 i1 0 k2 i2 0 n k2 i2 s = w k1 i1 s := by
  unfold pj_cpy
  rw [if_pos ⟨rfl, rfl, h, by omega⟩, show (0 : Int) + (s - 0) = s by omega]
theorem pj_c2 (w : pj_W) {k : Nat} {i j a b : Int} (hij : i ≠ j) (hab : a ≠ b) : ∃ u, pj_set (pj_set w k i a (w k j a)) k i b (pj_set w k i a (w k j a) k j b) = u ∧ (u k i a = w k j a ∧ u k i b = w k j b) ∧ ∀ k' i' s, ¬ (k' = k ∧ i' = i ∧ (s = a ∨ s = b)) → u k' i' s = w k' i' s := by
  refine ⟨_, rfl, ⟨?_, ?_⟩, fun k' i' s hn => ?_⟩
  · rw [pj_sne (by omega), pj_set_at]
  · rw [pj_set_at, pj_sne (by omega)]
  · rw [pj_sne (by omega), pj_sne (by omega)]
theorem pj_c3 (w : pj_W) {k : Nat} {i j a b c : Int} (hij : i ≠ j) (hab : a ≠ b) (hac : a ≠ c) (hbc : b ≠ c) : ∃ u, pj_set (pj_set (pj_set w k i a (w k j a)) k i b (pj_set w k i a (w k j a) k j b)) k i c (pj_set (pj_set w k i a (w k j a)) k i b (pj_set w k i a (w k j a) k j b) k j c) = u ∧ (u k i a = w k j a ∧ u k i b = w k j b ∧ u k i c = w k j c) ∧ ∀ k' i' s, ¬ (k' = k ∧ i' = i ∧ (s = a ∨ s = b ∨ s = c)) → u k' i' s = w k' i' s := by
  refine ⟨_, rfl, ⟨?_, ?_, ?_⟩, fun k' i' s hn => ?_⟩
  · rw [pj_sne (by omega), pj_sne (by omega), pj_set_at]
  · rw [pj_sne (by omega), pj_set_at, pj_sne (by omega)]
  · rw [pj_set_at, pj_sne (by omega), pj_sne (by omega)]
  · rw [pj_sne (by omega), pj_sne (by omega), pj_sne (by omega)]
theorem x_likeF {i j : Int} (hj : 0 ≤ j) (hij : i ≠ j) (w : pj_W) : ∃ w', fF_becomeLike i j w = some w' ∧ (∀ s : Int, 0 ≤ s → s ≤ 5 → w' 22 i s = w 22 j s) ∧ ∀ k i' s, ¬ (k = 22 ∧ i' = i) → w' k i' s = w k i' s := by
  unfold fF_becomeLike
  rw [if_pos hj, Option.bind_some, Option.bind_some]
  refine ⟨_, rfl, fun s h0 h5 => ?_, fun k i' s hn => ?_⟩
  · rcases (by omega : s = 0 ∨ s = 1 ∨ s = 2 ∨ s = 3 ∨ s = 4 ∨ s = 5) with rfl | rfl | rfl | rfl | rfl | rfl <;> simp (disch := omega) only [pj_sne, pj_set_at]
  · simp (disch := omega) only [pj_sne]
theorem x_likeN {i j : Int} (hj : 0 ≤ j) (hij : i ≠ j) {w : pj_W} (h5 : w 23 j 5 = 0 ∨ w 23 j 5 = 1) (h0 : 0 ≤ w 23 j 6) (h60 : w 23 j 6 ≤ 60) : ∃ w', fN_becomeLike i j w = some w' ∧ (∀ s : Int, 2 ≤ s → s ≤ 6 → w' 23 i s = w 23 j s) ∧ (∀ k : Int, 0 ≤ k → k < w 23 j 6 → w' 45 i k = w 45 j k ∧ w' 46 i k = w 46 j k) ∧ ∀ k i' s, ¬ ((k = 23 ∨ k = 45 ∨ k = 46) ∧ i' = i) → w' k i' s = w k i' s := by
  unfold fN_becomeLike
  rw [if_pos hj, Option.bind_some]
  have e5 : pj_set (pj_set (pj_set w 23 i 2 (w 23 j 2)) 23 i 3 (pj_set w 23 i 2 (w 23 j 2) 23 j 3)) 23 i 4 (pj_set (pj_set w 23 i 2 (w 23 j 2)) 23 i 3 (pj_set w 23 i 2 (w 23 j 2) 23 j 3) 23 j 4) 23 j 5 = w 23 j 5 := by
    simp (disch := omega) only [pj_sne]
  have e6 : pj_set (pj_set (pj_set w 23 i 2 (w 23 j 2)) 23 i 3 (pj_set w 23 i 2 (w 23 j 2) 23 j 3)) 23 i 4 (pj_set (pj_set w 23 i 2 (w 23 j 2)) 23 i 3 (pj_set w 23 i 2 (w 23 j 2) 23 j 3) 23 j 4) 23 j 6 = w 23 j 6 := by
    simp (disch := omega) only [pj_sne]
  have v2 : ∀ s : Int, 2 ≤ s → s ≤ 4 → pj_set (pj_set (pj_set w 23 i 2 (w 23 j 2)) 23 i 3 (pj_set w 23 i 2 (w 23 j 2) 23 j 3)) 23 i 4 (pj_set (pj_set w 23 i 2 (w 23 j 2)) 23 i 3 (pj_set w 23 i 2 (w 23 j 2) 23 j 3) 23 j 4) 23 i s = w 23 j s := fun s h1 h2 => by
    rcases (by omega : s = 2 ∨ s = 3 ∨ s = 4) with rfl | rfl | rfl <;> simp (disch := omega) only [pj_sne, pj_set_at]
  have vo : ∀ k i' s, ¬ (k = 23 ∧ i' = i) → pj_set (pj_set (pj_set w 23 i 2 (w 23 j 2)) 23 i 3 (pj_set w 23 i 2 (w 23 j 2) 23 j 3)) 23 i 4 (pj_set (pj_set w 23 i 2 (w 23 j 2)) 23 i 3 (pj_set w 23 i 2 (w 23 j 2) 23 j 3) 23 j 4) k i' s = w k i' s := fun k i' s hn => by
    simp (disch := omega) only [pj_sne]
  generalize pj_set (pj_set (pj_set w 23 i 2 (w 23 j 2)) 23 i 3 (pj_set w 23 i 2 (w 23 j 2) 23 j 3)) 23 i 4 (pj_set (pj_set w 23 i 2 (w 23 j 2)) 23 i 3 (pj_set w 23 i 2 (w 23 j 2) 23 j 3) 23 j 4) = u at e5 e6 v2 vo ⊢
  rw [if_pos (by rw [e5]; exact h5), Option.bind_some]
  have f6 : pj_set (pj_set u 23 i 5 (u 23 j 5)) 23 i 6 (pj_set u 23 i 5 (u 23 j 5) 23 j 6) 23 i 6 = w 23 j 6 := by
    rw [pj_set_at, pj_sne (by omega), e6]
  have g2 : ∀ s : Int, 2 ≤ s → s ≤ 6 → pj_set (pj_set u 23 i 5 (u 23 j 5)) 23 i 6 (pj_set u 23 i 5 (u 23 j 5) 23 j 6) 23 i s = w 23 j s := fun s h1 h2 => by
    rcases (by omega : (s = 2 ∨ s = 3 ∨ s = 4) ∨ s = 5 ∨ s = 6) with h | rfl | rfl
    · rw [pj_sne (by omega), pj_sne (by omega), v2 s (by omega) (by omega)]
    · rw [pj_sne (by omega), pj_set_at, e5]
    · exact f6
  have go : ∀ k i' s, ¬ (k = 23 ∧ i' = i) → pj_set (pj_set u 23 i 5 (u 23 j 5)) 23 i 6 (pj_set u 23 i 5 (u 23 j 5) 23 j 6) k i' s = w k i' s := fun k i' s hn => by
    rw [pj_sne (by omega), pj_sne (by omega), vo k i' s hn]
  generalize pj_set (pj_set u 23 i 5 (u 23 j 5)) 23 i 6 (pj_set u 23 i 5 (u 23 j 5) 23 j 6) = v at f6 g2 go ⊢
  have c6 : pj_cpy v 45 j 0 45 i 0 (v 23 i 6) 23 i 6 = w 23 j 6 := by rw [pj_cne (by omega), f6]
  rw [if_pos (by omega), if_pos (by omega), c6, f6]
  refine ⟨_, rfl, fun s h1 h2 => ?_, fun k h1 h2 => ⟨?_, ?_⟩, fun k i' s hn => ?_⟩
  · rw [pj_cne (by omega), pj_cne (by omega), g2 s h1 h2]
  · rw [pj_cne (by omega), pj_cat h1 h2, go 45 j k (by omega)]
  · rw [pj_cat h1 h2, pj_cne (by omega), go 46 j k (by omega)]
  · rw [pj_cne (by omega), pj_cne (by omega), go k i' s (by omega)]
/-- what a beach of the class is made of: counts alone matter -/
def pj_cb (b c : Int) (w w' : pj_W) (nf nd : Int) : Prop :=
  (∀ s : Int, 2 ≤ s → s ≤ 9 → w' 19 b s = w 19 c s) ∧
  (∀ f s : Int, 0 ≤ f → f < nf → 0 ≤ s → s ≤ 5 → w' 22 (6 * b + f) s = w 22 (6 * c + f) s) ∧
  (∀ d s : Int, 0 ≤ d → d < nd → 2 ≤ s → s ≤ 6 → w' 23 (8 * b + d) s = w 23 (8 * c + d) s) ∧
  (∀ d k : Int, 0 ≤ d → d < nd → 0 ≤ k → k < w 23 (8 * c + d) 6 → w' 45 (8 * b + d) k = w 45 (8 * c + d) k ∧ w' 46 (8 * b + d) k = w 46 (8 * c + d) k) ∧ pj_fr b w w'
theorem x_copyB {b c : Int} {w : pj_W} (hb : 0 ≤ b) (hc : 0 ≤ c) (hbc : b ≠ c) {nf nd : Int} (h7 : w 19 c 7 = nf) (h8 : w 19 c 8 = nd) (hf : 0 ≤ nf) (hf6 : nf ≤ 6) (hd : 0 ≤ nd) (hd8 : nd ≤ 8) (hD : ∀ d : Int, 0 ≤ d → d < nd → (w 23 (8 * c + d) 5 = 0 ∨ w 23 (8 * c + d) 5 = 1) ∧ 0 ≤ w 23 (8 * c + d) 6 ∧ w 23 (8 * c + d) 6 ≤ 60) :
    ∃ w', fB_copyFrom b c w = some w' ∧ pj_cb b c w w' nf nd := by
  unfold fB_copyFrom
  rw [if_pos hc, Option.bind_some]
  obtain ⟨u1, e1, v1, o1⟩ := pj_c3 w (k := 19) (a := 2) (b := 3) (c := 4) hbc (by decide) (by decide) (by decide)
  rw [e1]
  obtain ⟨u2, e2, v2, o2⟩ := pj_c2 u1 (k := 19) (a := 5) (b := 6) hbc (by decide)
  rw [Option.bind_some, e2]
  obtain ⟨u3, e3, v3, o3⟩ := pj_c2 u2 (k := 19) (a := 7) (b := 8) hbc (by decide)
  rw [Option.bind_some, e3]
  have hu : ∀ s : Int, 2 ≤ s → s ≤ 9 → pj_set u3 19 b 9 (u3 19 c 9) 19 b s = w 19 c s := fun s h1 h2 => by
    rcases (by omega : s = 2 ∨ s = 3 ∨ s = 4 ∨ s = 5 ∨ s = 6 ∨ s = 7 ∨ s = 8 ∨ s = 9) with rfl | rfl | rfl | rfl | rfl | rfl | rfl | rfl
    · rw [pj_sne (by omega), o3 _ _ _ (by omega), o2 _ _ _ (by omega), v1.1]
    · rw [pj_sne (by omega), o3 _ _ _ (by omega), o2 _ _ _ (by omega), v1.2.1]
    · rw [pj_sne (by omega), o3 _ _ _ (by omega), o2 _ _ _ (by omega), v1.2.2]
    · rw [pj_sne (by omega), o3 _ _ _ (by omega), v2.1, o1 _ _ _ (by omega)]
    · rw [pj_sne (by omega), o3 _ _ _ (by omega), v2.2, o1 _ _ _ (by omega)]
    · rw [pj_sne (by omega), v3.1, o2 _ _ _ (by omega), o1 _ _ _ (by omega)]
    · rw [pj_sne (by omega), v3.2, o2 _ _ _ (by omega), o1 _ _ _ (by omega)]
    · rw [pj_set_at, o3 _ _ _ (by omega), o2 _ _ _ (by omega), o1 _ _ _ (by omega)]
  have ho : ∀ k i s, ¬ (k = 19 ∧ i = b) → pj_set u3 19 b 9 (u3 19 c 9) k i s = w k i s := fun k i s hn => by
    rw [pj_sne (by omega), o3 _ _ _ (by omega), o2 _ _ _ (by omega), o1 _ _ _ (by omega)]
  generalize pj_set u3 19 b 9 (u3 19 c 9) = u at hu ho ⊢
  clear e1 e2 e3 v1 v2 v3 o1 o2 o3
  have key2 : ∀ m i : Nat, ∀ v : pj_W, (i : Int) + m = nd → pj_cb b c w v nf i → ∃ w', fB_copyFrom_97 b c ((i : Int), v) = some w' ∧ pj_cb b c w w' nf nd := by
    intro m
    induction m with
    | zero =>
      intro i v hi hv
      have e8 : v 19 b 8 = nd := (hv.1 8 (by omega) (by omega)).trans h8
      have hin : (i : Int) = nd := by omega
      rw [hin] at hv
      refine ⟨v, pj_Lp_end ?_, hv⟩
      unfold fB_copyFrom_97b
      dsimp only
      rw [if_pos (by omega)]
    | succ m ih =>
      intro i v hi hv
      have e8 : v 19 b 8 = nd := (hv.1 8 (by omega) (by omega)).trans h8
      have hDi := hD i (by omega) (by omega)
      have fr : ∀ k s, (k = 23 ∨ k = 45 ∨ k = 46) → v k (8 * c + i) s = w k (8 * c + i) s := fun k s hk => hv.2.2.2.2 k _ s (by unfold pj_in; omega)
      obtain ⟨v', ev, w1, w2, w3⟩ := x_likeN (i := 8 * b + i) (j := 8 * c + i) (w := v) (by omega) (by omega) (by rw [fr 23 5 (by omega)]; exact hDi.1) (by rw [fr 23 6 (by omega)]; exact hDi.2.1) (by rw [fr 23 6 (by omega)]; exact hDi.2.2)
      have hcb : pj_cb b c w v' nf ((i + 1 : Nat) : Int) := by
        refine ⟨fun s h1 h2 => (w3 19 b s (by omega)).trans (hv.1 s h1 h2), fun f s h1 h2 h3 h4 => (w3 22 _ s (by omega)).trans (hv.2.1 f s h1 h2 h3 h4), fun d s h1 h2 h3 h4 => ?_, fun d k h1 h2 h3 h4 => ?_, fun k j s hn => (w3 k j s (fun x => hn (Or.inr (Or.inr ⟨x.1, by omega, by omega⟩)))).trans (hv.2.2.2.2 k j s hn)⟩
        · by_cases ed : d = i
          · subst ed; rw [w1 s h3 h4, fr 23 s (by omega)]
          · rw [w3 23 _ s (by omega)]; exact hv.2.2.1 d s h1 (by omega) h3 h4
        · by_cases ed : d = i
          · subst ed
            have := w2 k h3 (by rw [fr 23 6 (by omega)]; exact h4)
            rw [this.1, this.2, fr 45 k (by omega), fr 46 k (by omega)]
            exact ⟨rfl, rfl⟩
          · rw [w3 45 _ k (by omega), w3 46 _ k (by omega)]; exact hv.2.2.2.1 d k h1 (by omega) h3 h4
      obtain ⟨w', e, r⟩ := ih (i + 1) v' (by omega) hcb
      refine ⟨w', ?_, r⟩
      rw [← e]
      refine pj_Lp_st ?_
      unfold fB_copyFrom_97b
      dsimp only
      rw [if_neg (by omega), if_pos (by omega), ev, Option.bind_some, pj_wri (by omega)]; rfl
  have key1 : ∀ m i : Nat, ∀ v : pj_W, (i : Int) + m = nf → pj_cb b c w v i 0 → ∃ w', fB_copyFrom_66 b c ((i : Int), v) = some w' ∧ pj_cb b c w w' nf nd := by
    intro m
    induction m with
    | zero =>
      intro i v hi hv
      have e7 : v 19 b 7 = nf := (hv.1 7 (by omega) (by omega)).trans h7
      have hin : (i : Int) = nf := by omega
      rw [hin] at hv
      obtain ⟨w', e, r⟩ := key2 nd.toNat 0 v (by omega) hv
      refine ⟨w', pj_Lp_end ?_, r⟩
      unfold fB_copyFrom_66b
      dsimp only
      rw [if_pos (by omega), show ((0 : Int), v) = (((0 : Nat) : Int), v) from rfl, e]; rfl
    | succ m ih =>
      intro i v hi hv
      have e7 : v 19 b 7 = nf := (hv.1 7 (by omega) (by omega)).trans h7
      have fr : ∀ s, v 22 (6 * c + i) s = w 22 (6 * c + i) s := fun s => hv.2.2.2.2 22 _ s (by unfold pj_in; omega)
      obtain ⟨v', ev, w1, w3⟩ := x_likeF (i := 6 * b + i) (j := 6 * c + i) (by omega) (by omega) v
      have hcb : pj_cb b c w v' ((i + 1 : Nat) : Int) 0 := by
        refine ⟨fun s h1 h2 => (w3 19 b s (by omega)).trans (hv.1 s h1 h2), fun f s h1 h2 h3 h4 => ?_, fun d s h1 h2 => by omega, fun d k h1 h2 => by omega, fun k j s hn => (w3 k j s (fun x => hn (Or.inr (Or.inl ⟨x.1, by omega, by omega⟩)))).trans (hv.2.2.2.2 k j s hn)⟩
        by_cases ed : f = i
        · subst ed; rw [w1 s h3 h4, fr s]
        · rw [w3 22 _ s (by omega)]; exact hv.2.1 f s h1 (by omega) h3 h4
      obtain ⟨w', e, r⟩ := ih (i + 1) v' (by omega) hcb
      refine ⟨w', ?_, r⟩
      rw [← e]
      refine pj_Lp_st ?_
      unfold fB_copyFrom_66b
      dsimp only
      rw [if_neg (by omega), if_pos (by omega), ev, Option.bind_some, pj_wri (by omega)]; rfl
  exact key1 nf.toNat 0 u (by omega) ⟨hu, fun f s h1 h2 => by omega, fun d s h1 h2 => by omega, fun d k h1 h2 => by omega, fun k i s hn => ho k i s (fun x => hn (Or.inl x))⟩
/-- the days of the class are taken over -/
theorem x_copyD {b c : Int} {w : pj_W} (hc : 0 ≤ c) (hbc : b ≠ c) (h5 : w 24 c 5 = 0 ∨ w 24 c 5 = 1) (h7 : 0 ≤ w 24 c 7) (h60 : w 24 c 7 ≤ 60) :
    ∃ w', fD_copyFrom b c w = some w' ∧ (w' 24 b 5 = w 24 c 5 ∧ w' 24 b 6 = w 24 c 6 ∧ w' 24 b 7 = w 24 c 7) ∧ (∀ k : Int, 0 ≤ k → k < w 24 c 7 → w' 47 b k = w 47 c k ∧ w' 48 b k = w 48 c k ∧ w' 49 b k = w 49 c k ∧ w' 50 b k = w 50 c k ∧ w' 51 b k = w 51 c k) ∧ ∀ k i s, ¬ ((k = 24 ∨ k = 47 ∨ k = 48 ∨ k = 49 ∨ k = 50 ∨ k = 51) ∧ i = b) → w' k i s = w k i s := by
  unfold fD_copyFrom
  rw [if_pos hc, if_pos h5, Option.bind_some]
  obtain ⟨u, e1, v1, o1⟩ := pj_c3 w (k := 24) (a := 5) (b := 6) (c := 7) hbc (by decide) (by decide) (by decide)
  rw [e1]
  have l7 : u 24 b 7 = w 24 c 7 := v1.2.2
  have g : ∀ (z : pj_W) (k1 : Nat), k1 ≠ 24 → pj_cpy z k1 c 0 k1 b 0 (w 24 c 7) 24 b 7 = z 24 b 7 := fun z k1 hk => pj_cne (by omega)
  rw [l7, if_pos (by omega), g _ _ (by decide), l7, if_pos (by omega), Option.bind_some, g _ _ (by decide), g _ _ (by decide), l7, if_pos (by omega), g _ _ (by decide), g _ _ (by decide), g _ _ (by decide), l7, if_pos (by omega), Option.bind_some, g _ _ (by decide), g _ _ (by decide), g _ _ (by decide), g _ _ (by decide), l7, if_pos (by omega)]
  have r : ∀ k s, k = 47 ∨ k = 48 ∨ k = 49 ∨ k = 50 ∨ k = 51 → u k c s = w k c s := fun k s hk => o1 _ _ _ (by omega)
  refine ⟨_, rfl, ⟨?_, ?_, ?_⟩, fun k h1 h2 => ⟨?_, ?_, ?_, ?_, ?_⟩, fun k i s hn => ?_⟩
  · rw [pj_cne (by omega), pj_cne (by omega), pj_cne (by omega), pj_cne (by omega), pj_cne (by omega), v1.1]
  · rw [pj_cne (by omega), pj_cne (by omega), pj_cne (by omega), pj_cne (by omega), pj_cne (by omega), v1.2.1]
  · rw [pj_cne (by omega), pj_cne (by omega), pj_cne (by omega), pj_cne (by omega), pj_cne (by omega), v1.2.2]
  · rw [pj_cne (by omega), pj_cne (by omega), pj_cne (by omega), pj_cne (by omega), pj_cat h1 h2, r _ _ (by omega)]
  · rw [pj_cne (by omega), pj_cne (by omega), pj_cne (by omega), pj_cat h1 h2, pj_cne (by omega), r _ _ (by omega)]
  · rw [pj_cne (by omega), pj_cne (by omega), pj_cat h1 h2, pj_cne (by omega), pj_cne (by omega), r _ _ (by omega)]
  · rw [pj_cne (by omega), pj_cat h1 h2, pj_cne (by omega), pj_cne (by omega), pj_cne (by omega), r _ _ (by omega)]
  · rw [pj_cat h1 h2, pj_cne (by omega), pj_cne (by omega), pj_cne (by omega), pj_cne (by omega), r _ _ (by omega)]
  · rw [pj_cne (by omega), pj_cne (by omega), pj_cne (by omega), pj_cne (by omega), pj_cne (by omega), o1 _ _ _ (by omega)]
