/-! WHAT THE CONSTRUCTORS MAKE: finds, beaches, days, trays -/
theorem vn_0 {w : pj_W} {n k : Nat} {z : Int} (hn : pj_n w = n) (h : pj_L.getD n (0, 0) = (k, z)) : pj_nk w = k := by unfold pj_nk; rw [hn, h]
theorem vn_1 {w : pj_W} {n k : Nat} {z : Int} (hn : pj_n w = n) (h : pj_L.getD n (0, 0) = (k, z)) : pj_nx w = z := by unfold pj_nx; rw [hn, h]
theorem vn_s {w : pj_W} {n k : Nat} {i s v : Int} (hn : pj_n w = n) (hk : k ≠ 0) : pj_n (pj_set w k i s v) = n := by
  rw [← hn]
  unfold pj_n
  rw [pj_sne (by omega)]
theorem vn_u {w : pj_W} {n : Nat} (hn : pj_n w = n) : pj_n (pj_up w) = n + 1 := by
  unfold pj_up
  rw [hn]
  unfold pj_n
  rw [pj_set_at]
  omega
theorem vn_e {w : pj_W} {k : Nat} {i s : Int} (hk : k ≠ 0) : pj_up w k i s = w k i s := by
  unfold pj_up
  exact pj_sne (by omega)
theorem vi_N {w : pj_W} {n : Nat} {i j j' : Int} (hn : pj_n w = n) (h0 : pj_L.getD n (0, 0) = (45, j)) (h1 : pj_L.getD (n + 1) (0, 0) = (46, j')) (j0 : 0 ≤ j) (j1 : 0 ≤ j') : ∃ w', fN_init_c i w = some w' ∧ pj_n w' = n + 2 ∧ w' 23 i 0 = j ∧ w' 23 i 1 = j' ∧ ∀ k a s, k ≠ 0 → ¬ (k = 23 ∧ a = i ∧ (s = 0 ∨ s = 1)) → w' k a s = w k a s := by
  have n1 : pj_n (pj_set (pj_up w) 23 i 0 j) = n + 1 := vn_s (vn_u hn) (by decide)
  refine ⟨pj_set (pj_up (pj_set (pj_up w) 23 i 0 j)) 23 i 1 j', ?_, vn_s (vn_u n1) (by decide), ?_, pj_set_at, fun k a s g1 g2 => ?_⟩
  · unfold fN_init_c
    rw [vn_1 hn h0, vn_0 hn h0, if_pos rfl, if_pos j0, Option.bind_some, vn_1 n1 h1, vn_0 n1 h1, if_pos rfl, if_pos j1, Option.bind_some]
  · rw [pj_sne (by omega), vn_e (by decide), pj_set_at]
  · rw [pj_sne (by omega), vn_e g1, pj_sne (by omega), vn_e g1]
theorem vi_B1 {i : Int} {n : Nat} (i0 : 0 ≤ i) (hF : ∀ c : Nat, c < 6 → pj_L.getD (n + c) (0, 0) = (22, 6 * i + c)) : ∀ m c : Nat, c + m = 6 → ∀ w : pj_W, pj_n w = n + c → w 19 i 0 = i → ∃ w', fB_init_c_24 i ((c : Int), w) = fB_init_c_51 i (0, w') ∧ pj_n w' = n + 6 ∧ (∀ s : Int, (c : Int) ≤ s → s < 6 → w' 20 i s = 6 * i + s) ∧ ∀ k a s, k ≠ 0 → ¬ (k = 20 ∧ a = i ∧ (c : Int) ≤ s) → w' k a s = w k a s := by
  intro m
  induction m with
  | zero =>
    intro c hc w hn h19
    have : c = 6 := by omega
    subst this
    refine ⟨w, ?_, hn, fun s s0 s1 => by omega, fun _ _ _ _ _ => rfl⟩
    unfold fB_init_c_24
    refine pj_Lp_map ?_
    show fB_init_c_24b i 6 w = _
    unfold fB_init_c_24b
    rw [if_pos (by decide)]
  | succ m ih =>
    intro c hc w hn h19
    have hL := hF c (by omega)
    obtain ⟨w', a1, a2, a3, a4⟩ := ih (c + 1) (by omega) (pj_set (pj_up w) 20 i (c : Int) (6 * i + c)) (vn_s (vn_u hn) (by decide)) (by rw [pj_sne (by omega), vn_e (by decide)]; exact h19)
    refine ⟨w', ?_, a2, fun s s0 s1 => ?_, fun k a s g1 g2 => ?_⟩
    · rw [← a1]
      unfold fB_init_c_24
      refine pj_Lp_st ?_
      show fB_init_c_24b i (c : Int) w = _
      unfold fB_init_c_24b fF_init_c
      rw [if_neg (by omega), vn_1 hn hL, vn_0 hn hL, if_pos rfl, if_pos (by omega), Option.bind_some, Option.bind_some, h19, if_pos i0, if_pos (by omega), pj_wr_id (by omega) (by omega)]
      rfl
    · by_cases e : s = (c : Int)
      · subst e
        rw [a4 20 i _ (by decide) (by omega), pj_set_at]
      · exact a3 s (by omega) s1
    · rw [a4 k a s g1 (by omega), pj_sne (by omega), vn_e g1]
theorem vi_B2 {i : Int} {n : Nat} (i0 : 0 ≤ i) (hF : ∀ c : Nat, c < 8 → pj_L.getD (n + 3 * c) (0, 0) = (23, 8 * i + c) ∧ pj_L.getD (n + 3 * c + 1) (0, 0) = (45, 8 * i + c) ∧ pj_L.getD (n + 3 * c + 2) (0, 0) = (46, 8 * i + c)) : ∀ m c : Nat, c + m = 8 → ∀ w : pj_W, pj_n w = n + 3 * c → w 19 i 1 = i → ∃ w' w'', fB_init_c_51 i ((c : Int), w) = some w'' ∧ fB_clear i w' = some w'' ∧ pj_n w' = n + 24 ∧ (∀ s : Int, (c : Int) ≤ s → s < 8 → w' 21 i s = 8 * i + s ∧ w' 23 (8 * i + s) 0 = 8 * i + s ∧ w' 23 (8 * i + s) 1 = 8 * i + s) ∧ ∀ k a s, k ≠ 0 → ¬ (k = 21 ∧ a = i ∧ (c : Int) ≤ s) → ¬ (k = 23 ∧ 8 * i + (c : Int) ≤ a ∧ a < 8 * i + 8 ∧ (s = 0 ∨ s = 1)) → w' k a s = w k a s := by
  intro m
  induction m with
  | zero =>
    intro c hc w hn h19
    have : c = 8 := by omega
    subst this
    have hcl : ∃ w'', fB_clear i w = some w'' := ⟨_, rfl⟩
    obtain ⟨w'', hcl⟩ := hcl
    refine ⟨w, w'', ?_, hcl, hn, fun s s0 s1 => by omega, fun _ _ _ _ _ _ => rfl⟩
    unfold fB_init_c_51
    refine pj_Lp_end ?_
    show fB_init_c_51b i 8 w = _
    unfold fB_init_c_51b
    rw [if_pos (by decide), hcl, Option.bind_some]
  | succ m ih =>
    intro c hc w hn h19
    obtain ⟨l1, l2, l3⟩ := hF c (by omega)
    obtain ⟨w1, b1, b2, b3, b4, b5⟩ := vi_N (w := pj_up w) (i := 8 * i + c) (vn_u hn) l2 l3 (by omega) (by omega)
    obtain ⟨w', w'', a1, a2, a3, a4, a5⟩ := ih (c + 1) (by omega) (pj_set w1 21 i (c : Int) (8 * i + c)) (vn_s (by omega) (by decide)) (by rw [pj_sne (by omega), b5 19 i 1 (by decide) (by omega), vn_e (by decide)]; exact h19)
    refine ⟨w', w'', ?_, a2, a3, fun s s0 s1 => ?_, fun k a s g1 g2 g3 => ?_⟩
    · rw [← a1]
      unfold fB_init_c_51
      refine pj_Lp_st ?_
      show fB_init_c_51b i (c : Int) w = _
      unfold fB_init_c_51b
      rw [if_neg (by omega), vn_1 hn l1, vn_0 hn l1, if_pos rfl, if_pos (by omega), Option.bind_some, b1, Option.bind_some, h19, if_pos i0, if_pos (by omega), pj_wr_id (by omega) (by omega)]
      rfl
    · by_cases e : s = (c : Int)
      · subst e
        rw [a5 21 i _ (by decide) (by omega) (by omega), a5 23 _ 0 (by decide) (by omega) (by omega), a5 23 _ 1 (by decide) (by omega) (by omega), pj_set_at, pj_sne (by omega), pj_sne (by omega)]
        exact ⟨rfl, b3, b4⟩
      · exact a4 s (by omega) s1
    · rw [a5 k a s g1 (by omega) (by omega), pj_sne (by omega), b5 k a s g1 (by omega), vn_e g1]
/-- a beach's cells, in the order of their making -/
def vi_bl (i : Int) (n : Nat) : Prop := (pj_L.getD n (0, 0) = (20, i) ∧ pj_L.getD (n + 1) (0, 0) = (21, i)) ∧ (∀ c : Nat, c < 6 → pj_L.getD (n + 2 + c) (0, 0) = (22, 6 * i + c)) ∧ ∀ c : Nat, c < 8 → pj_L.getD (n + 2 + 6 + 3 * c) (0, 0) = (23, 8 * i + c) ∧ pj_L.getD (n + 2 + 6 + 3 * c + 1) (0, 0) = (45, 8 * i + c) ∧ pj_L.getD (n + 2 + 6 + 3 * c + 2) (0, 0) = (46, 8 * i + c)
/-- what is set once, and the rest of a new beach -/
def vi_bf (i : Int) (w : pj_W) : Prop := (w 19 i 0 = i ∧ w 19 i 1 = i) ∧ (∀ s : Int, 0 ≤ s → s < 6 → w 20 i s = 6 * i + s) ∧ ∀ s : Int, 0 ≤ s → s < 8 → w 21 i s = 8 * i + s ∧ w 23 (8 * i + s) 0 = 8 * i + s ∧ w 23 (8 * i + s) 1 = 8 * i + s
def vi_bn (i : Int) (w : pj_W) : Prop := w 19 i 2 = 2 ∧ w 19 i 3 = 60 ∧ w 19 i 4 = 0 ∧ w 19 i 5 = 1 ∧ w 19 i 6 = 0 ∧ w 19 i 7 = 0 ∧ w 19 i 8 = 0 ∧ w 19 i 9 = 0
def vi_bx (i : Int) (k : Nat) (a : Int) : Prop := (k = 19 ∧ a = i) ∨ ((k = 20 ∨ k = 21) ∧ a = i) ∨ (k = 23 ∧ 8 * i ≤ a ∧ a < 8 * i + 8)
theorem vi_B {w : pj_W} {n : Nat} {i : Int} (hn : pj_n w = n) (i0 : 0 ≤ i) (hL : vi_bl i n) : ∃ w', fB_init_c i w = some w' ∧ pj_n w' = n + 32 ∧ vi_bf i w' ∧ vi_bn i w' ∧ ∀ k a s, k ≠ 0 → ¬ vi_bx i k a → w' k a s = w k a s := by
  obtain ⟨⟨l0, l1⟩, l2, l3⟩ := hL
  have n1 : pj_n (pj_set (pj_up w) 19 i 0 i) = n + 1 := vn_s (vn_u hn) (by decide)
  have n2 : pj_n (pj_set (pj_up (pj_set (pj_up w) 19 i 0 i)) 19 i 1 i) = n + 2 := vn_s (vn_u n1) (by decide)
  obtain ⟨w1, a1, a2, a3, a4⟩ := vi_B1 i0 l2 6 0 rfl _ n2 (by rw [pj_sne (by omega), vn_e (by decide), pj_set_at])
  have k1 : w1 19 i 1 = i := by rw [a4 19 i 1 (by decide) (by omega), pj_set_at]
  have k0 : w1 19 i 0 = i := by rw [a4 19 i 0 (by decide) (by omega), pj_sne (by omega), vn_e (by decide), pj_set_at]
  obtain ⟨w2, w3, b1, b2, b3, b4, b5⟩ := vi_B2 i0 l3 8 0 rfl w1 (by omega) k1
  have hw3 : w3 = pj_set (pj_set (pj_set (pj_set (pj_set (pj_set (pj_set (pj_set w2 19 i 2 2) 19 i 3 60) 19 i 4 0) 19 i 5 1) 19 i 6 0) 19 i 7 0) 19 i 8 0) 19 i 9 0 := by
    unfold fB_clear at b2
    rw [Option.bind_some] at b2
    exact (Option.some.inj b2).symm
  have f3 : ∀ k a s, ¬ (k = 19 ∧ a = i ∧ 2 ≤ s) → w3 k a s = w2 k a s := fun k a s g => by
    rw [hw3, pj_sne (by omega), pj_sne (by omega), pj_sne (by omega), pj_sne (by omega), pj_sne (by omega), pj_sne (by omega), pj_sne (by omega), pj_sne (by omega)]
  refine ⟨w3, ?_, ?_, ⟨⟨?_, ?_⟩, fun s s0 s1 => ?_, fun s s0 s1 => ⟨?_, ?_, ?_⟩⟩, ?_, fun k a s g1 g2 => ?_⟩
  · unfold fB_init_c
    rw [vn_1 hn l0, vn_0 hn l0, if_pos rfl, if_pos i0, Option.bind_some, vn_1 n1 l1, vn_0 n1 l1, if_pos rfl, if_pos i0, Option.bind_some]
    exact a1.trans b1
  · rw [← show pj_n w2 = n + 32 by omega]
    unfold pj_n
    rw [f3 0 0 0 (by omega)]
  · rw [f3 19 i 0 (by omega), b5 19 i 0 (by decide) (by omega) (by omega)]; exact k0
  · rw [f3 19 i 1 (by omega), b5 19 i 1 (by decide) (by omega) (by omega)]; exact k1
  · rw [f3 20 i s (by omega), b5 20 i s (by decide) (by omega) (by omega)]; exact a3 s s0 s1
  · rw [f3 21 i s (by omega)]; exact (b4 s s0 s1).1
  · rw [f3 23 _ 0 (by omega)]; exact (b4 s s0 s1).2.1
  · rw [f3 23 _ 1 (by omega)]; exact (b4 s s0 s1).2.2
  · unfold vi_bn
    rw [hw3]
    refine ⟨?_, ?_, ?_, ?_, ?_, ?_, ?_, pj_set_at⟩
    · rw [pj_sne (by omega), pj_sne (by omega), pj_sne (by omega), pj_sne (by omega), pj_sne (by omega), pj_sne (by omega), pj_sne (by omega), pj_set_at]
    · rw [pj_sne (by omega), pj_sne (by omega), pj_sne (by omega), pj_sne (by omega), pj_sne (by omega), pj_sne (by omega), pj_set_at]
    · rw [pj_sne (by omega), pj_sne (by omega), pj_sne (by omega), pj_sne (by omega), pj_sne (by omega), pj_set_at]
    · rw [pj_sne (by omega), pj_sne (by omega), pj_sne (by omega), pj_sne (by omega), pj_set_at]
    · rw [pj_sne (by omega), pj_sne (by omega), pj_sne (by omega), pj_set_at]
    · rw [pj_sne (by omega), pj_sne (by omega), pj_set_at]
    · rw [pj_sne (by omega), pj_set_at]
  · unfold vi_bx at g2
    rw [f3 k a s (by omega), b5 k a s g1 (by omega) (by omega), a4 k a s g1 (by omega), pj_sne (by omega), vn_e g1, pj_sne (by omega), vn_e g1]
def vi_dl (i : Int) (n : Nat) : Prop := pj_L.getD n (0, 0) = (47, i) ∧ pj_L.getD (n + 1) (0, 0) = (48, i) ∧ pj_L.getD (n + 2) (0, 0) = (49, i) ∧ pj_L.getD (n + 3) (0, 0) = (50, i) ∧ pj_L.getD (n + 4) (0, 0) = (51, i)
def vi_df (i : Int) (w : pj_W) : Prop := w 24 i 0 = i ∧ w 24 i 1 = i ∧ w 24 i 2 = i ∧ w 24 i 3 = i ∧ w 24 i 4 = i
theorem vi_D {w : pj_W} {n : Nat} {i : Int} (hn : pj_n w = n) (i0 : 0 ≤ i) (hL : vi_dl i n) : ∃ w', fD_init_c i w = some w' ∧ pj_n w' = n + 5 ∧ vi_df i w' ∧ ∀ k a s, k ≠ 0 → ¬ (k = 24 ∧ a = i ∧ s ≤ 4) → w' k a s = w k a s := by
  obtain ⟨l0, l1, l2, l3, l4⟩ := hL
  have n1 : pj_n (pj_set (pj_up w) 24 i 0 i) = n + 1 := vn_s (vn_u hn) (by decide)
  have n2 : pj_n (pj_set (pj_up (pj_set (pj_up w) 24 i 0 i)) 24 i 1 i) = n + 2 := vn_s (vn_u n1) (by decide)
  have n3 : pj_n (pj_set (pj_up (pj_set (pj_up (pj_set (pj_up w) 24 i 0 i)) 24 i 1 i)) 24 i 2 i) = n + 3 := vn_s (vn_u n2) (by decide)
  have n4 : pj_n (pj_set (pj_up (pj_set (pj_up (pj_set (pj_up (pj_set (pj_up w) 24 i 0 i)) 24 i 1 i)) 24 i 2 i)) 24 i 3 i) = n + 4 := vn_s (vn_u n3) (by decide)
  refine ⟨pj_set (pj_up (pj_set (pj_up (pj_set (pj_up (pj_set (pj_up (pj_set (pj_up w) 24 i 0 i)) 24 i 1 i)) 24 i 2 i)) 24 i 3 i)) 24 i 4 i, ?_, vn_s (vn_u n4) (by decide), ⟨?_, ?_, ?_, ?_, pj_set_at⟩, fun k a s g1 g2 => ?_⟩
  · unfold fD_init_c
    rw [vn_1 hn l0, vn_0 hn l0, if_pos rfl, if_pos i0, Option.bind_some, vn_1 n1 l1, vn_0 n1 l1, if_pos rfl, if_pos i0, Option.bind_some, vn_1 n2 l2, vn_0 n2 l2, if_pos rfl, if_pos i0, Option.bind_some, vn_1 n3 l3, vn_0 n3 l3, if_pos rfl, if_pos i0, Option.bind_some, Option.bind_some, vn_1 n4 l4, vn_0 n4 l4, if_pos rfl, if_pos i0, Option.bind_some]
  · rw [pj_sne (by omega), vn_e (by decide), pj_sne (by omega), vn_e (by decide), pj_sne (by omega), vn_e (by decide), pj_sne (by omega), vn_e (by decide), pj_set_at]
  · rw [pj_sne (by omega), vn_e (by decide), pj_sne (by omega), vn_e (by decide), pj_sne (by omega), vn_e (by decide), pj_set_at]
  · rw [pj_sne (by omega), vn_e (by decide), pj_sne (by omega), vn_e (by decide), pj_set_at]
  · rw [pj_sne (by omega), vn_e (by decide), pj_set_at]
  · rw [pj_sne (by omega), vn_e g1, pj_sne (by omega), vn_e g1, pj_sne (by omega), vn_e g1, pj_sne (by omega), vn_e g1, pj_sne (by omega), vn_e g1]
theorem vi_T {w : pj_W} {n : Nat} {i : Int} (hn : pj_n w = n) (i0 : 0 ≤ i) (l0 : pj_L.getD n (0, 0) = (52, i)) : ∃ w', fT_init_c i w = some w' ∧ pj_n w' = n + 1 ∧ (w' 25 i 0 = i ∧ w' 25 i 1 = 1) ∧ ∀ k a s, k ≠ 0 → ¬ (k = 25 ∧ a = i ∧ (s = 0 ∨ s = 1)) → w' k a s = w k a s := by
  have n1 : pj_n (pj_set (pj_up w) 25 i 0 i) = n + 1 := vn_s (vn_u hn) (by decide)
  refine ⟨pj_set (pj_set (pj_up w) 25 i 0 i) 25 i 1 1, ?_, vn_s n1 (by decide), ⟨?_, pj_set_at⟩, fun k a s g1 g2 => ?_⟩
  · unfold fT_init_c
    rw [vn_1 hn l0, vn_0 hn l0, if_pos rfl, if_pos i0, Option.bind_some]
  · rw [pj_sne (by omega), pj_set_at]
  · rw [pj_sne (by omega), pj_sne (by omega), vn_e g1]
