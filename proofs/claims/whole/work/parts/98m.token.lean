/-! TOKENS, as the class makes them: one after the other -/
theorem x_tok {w : pj_W} {B : Int → Int} {n P T : Int} (t : tk_T w B n) (hW : tk_W w) (hp : w 12 0 9 = P) (h0 : 0 ≤ P) (h1 : P < n) (hT : w 12 0 10 = T) (hT0 : 0 ≤ T) (hT1 : T ≤ 900) : ∃ u K V E, fR_scanToken w = some u ∧ tk_at B n P K V E ∧ tk_new w u T P K V E ∧ P < E ∧ E ≤ n := by
  have t' := t
  obtain ⟨t8, t0, t9, tB⟩ := t'
  have eB : w 30 0 P = B P := tB P h0 h1
  have one : ∀ K : Int, tk_at B n P K (B P) (P + 1) → ∃ u K2 V E, fR_scanToken_78 (B P) K w = some u ∧ tk_at B n P K2 V E ∧ tk_new w u T P K2 V E ∧ P < E ∧ E ≤ n := fun K ha => by
    obtain ⟨u, a1, a2, a3, a4, a5, a6, a7⟩ := x_add hT hT0 hT1 K P (B P)
    unfold fR_scanToken_78
    rw [hp, a1, Option.bind_some, a2, hp, pj_wr_id (by omega) (by omega)]
    refine ⟨_, K, B P, P + 1, rfl, ha, ⟨pj_set_at, ?_, ?_, ?_, ?_, fun k i s b c => ?_⟩, by omega, by omega⟩
    · rw [pj_sne (by omega)]; exact a3
    · rw [pj_sne (by omega)]; exact a4
    · rw [pj_sne (by omega)]; exact a5
    · rw [pj_sne (by omega)]; exact a6
    · rw [pj_sne (by omega)]; exact a7 k i s b c
  unfold fR_scanToken
  rw [hp, eB, if_pos (by omega)]
  by_cases cs : tk_sm (B P)
  · obtain ⟨u, K, V, E, a1, a2⟩ := x_word t hW hp h0 h1 cs hT hT0 hT1
    rw [x_isL1 cs, Option.bind_some, if_neg (by decide), a1, Option.bind_some]
    exact ⟨u, K, V, E, rfl, a2⟩
  rw [x_isL0 cs, Option.bind_some, if_pos rfl]
  by_cases cd : tk_dg (B P)
  · obtain ⟨u, K, V, E, a1, a2⟩ := x_num t hp h0 h1 cd hT hT0 hT1
    rw [x_isD1 cd, Option.bind_some, if_neg (by decide), a1, Option.bind_some]
    exact ⟨u, K, V, E, rfl, a2⟩
  rw [x_isD0 cd, Option.bind_some, if_pos rfl]
  have hsg : tk_sg (B P) → fR_scanToken_62 (B P) w = fR_scanToken_78 (B P) 2 w := fun _ => by
    unfold fR_scanToken_62 fR_scanToken_67
    rw [if_neg (by decide)]
  by_cases cg : tk_sg (B P)
  · have h := one 2 (Or.inr (Or.inr (Or.inl ⟨cg, rfl, rfl, rfl⟩)))
    rw [← hsg cg] at h
    unfold tk_sg at cg
    by_cases c1 : B P = 59
    · rw [if_pos c1]; exact h
    rw [if_neg c1]
    by_cases c2 : B P = 60
    · rw [if_pos c2]; exact h
    rw [if_neg c2]
    by_cases c3 : B P = 62
    · rw [if_pos c3]; exact h
    rw [if_neg c3, if_pos (by omega)]; exact h
  · have h := one 1 (Or.inr (Or.inr (Or.inr ⟨cs, cd, cg, rfl, rfl⟩)))
    unfold tk_sg at cg
    rw [if_neg (by omega), if_neg (by omega), if_neg (by omega), if_neg (by omega)]
    unfold fR_scanToken_67
    rw [if_pos rfl]
    exact h
/-- the k-th token, from the end of the one before -/
def tk_one (u : pj_W) (B : Int → Int) (n : Int) (E : Int → Int) (k : Int) : Prop := tk_run tk_bl B n (E k) (u 32 0 k) ∧ 0 ≤ u 32 0 k ∧ u 32 0 k < n ∧ tk_at B n (u 32 0 k) (u 31 0 k) (u 33 0 k) (E (k + 1))
/-- all the tokens; N how many -/
def tk_all (u : pj_W) (B : Int → Int) (n : Int) (E : Int → Int) (N : Int) : Prop := u 12 0 10 = N ∧ 1 ≤ N ∧ N ≤ n + 1 ∧ 0 ≤ n ∧ n ≤ 900 ∧ E 0 = 0 ∧ (∀ k, 0 ≤ k → k < N - 1 → tk_one u B n E k) ∧ tk_run tk_bl B n (E (N - 1)) n ∧ u 31 0 (N - 1) = 0 ∧ u 32 0 (N - 1) = n
def tk_ft (w u : pj_W) : Prop := ∀ k i s, k ≠ 31 → k ≠ 32 → k ≠ 33 → ¬ (k = 12 ∧ i = 0 ∧ (s = 9 ∨ s = 10)) → u k i s = w k i s
theorem tk_one.ex {u v : pj_W} {B : Int → Int} {n : Int} {E E' : Int → Int} {k : Int} (h : tk_one u B n E k) (h1 : v 31 0 k = u 31 0 k) (h2 : v 32 0 k = u 32 0 k) (h3 : v 33 0 k = u 33 0 k) (e1 : E' k = E k) (e2 : E' (k + 1) = E (k + 1)) : tk_one v B n E' k := by
  unfold tk_one at h ⊢
  rw [h1, h2, h3, e1, e2]
  exact h
theorem tk_T.ex {w u : pj_W} {B : Int → Int} {n : Int} (t : tk_T w B n) (h8 : u 12 0 8 = w 12 0 8) (h30 : ∀ p, u 30 0 p = w 30 0 p) : tk_T u B n := ⟨h8.trans t.1, t.2.1, t.2.2.1, fun p h0 h1 => (h30 p).trans (t.2.2.2 p h0 h1)⟩
theorem x_toks_e {B : Int → Int} {n : Int} {w : pj_W} {E : Int → Int} {T : Int} (t : tk_T w B n) (h9 : w 12 0 9 = n) (h10 : w 12 0 10 = T) (T0 : 0 ≤ T) (T1 : T ≤ n) (E0 : E 0 = 0) (hr : tk_run tk_bl B n (E T) n) (hk : ∀ k, 0 ≤ k → k < T → tk_one w B n E k) : ∃ u E' N, fR_begin_48 (T, w) = some u ∧ tk_all u B n E' N ∧ tk_ft w u := by
  have hn9 := t.2.2.1
  obtain ⟨u, a1, a2, a3, a4, a5, a6, a7⟩ := x_add h10 T0 (by omega) 0 n 0
  refine ⟨u, E, T + 1, ?_, ⟨a3, by omega, by omega, t.2.1, t.2.2.1, E0, fun k k0 k1 => (hk k k0 (by omega)).ex (a7 31 0 k (by omega) (by omega)) (a7 32 0 k (by omega) (by omega)) (a7 33 0 k (by omega) (by omega)) rfl rfl, by rw [show T + 1 - 1 = T by omega]; exact hr, by rw [show T + 1 - 1 = T by omega]; exact a4, by rw [show T + 1 - 1 = T by omega]; exact a5⟩, fun k i s b1 b2 b3 b4 => a7 k i s b4 (by omega)⟩
  unfold fR_begin_48
  refine pj_Lp_map ?_
  show fR_begin_48b T w = _
  unfold fR_begin_48b fR_begin_80
  rw [t.1, h9, a1, Option.bind_some]
  by_cases c : 900 ≤ T
  · rw [if_pos c]
  · rw [if_neg c, if_pos (by omega)]
theorem x_toks {B : Int → Int} {n : Int} : ∀ m : Nat, ∀ (w : pj_W) (E : Int → Int) (T q : Int), n - q ≤ m → tk_T w B n → tk_W w → w 12 0 9 = q → w 12 0 10 = T → 0 ≤ T → T ≤ q → q ≤ n → E 0 = 0 → tk_run tk_bl B n (E T) q → (∀ k, 0 ≤ k → k < T → tk_one w B n E k) → ∃ u E' N, fR_begin_48 (T, w) = some u ∧ tk_all u B n E' N ∧ tk_ft w u := by
  intro m
  induction m with
  | zero =>
    intro w E T q hm t hW h9 h10 T0 T1 q1 E0 hr hk
    have cq : q = n := by omega
    subst cq
    exact x_toks_e t h9 h10 T0 T1 E0 hr hk
  | succ m ih =>
    intro w E T q hm t hW h9 h10 T0 T1 q1 E0 hr hk
    by_cases cq : q = n
    · subst cq
      exact x_toks_e t h9 h10 T0 T1 E0 hr hk
    · have hn9 := t.2.2.1
      obtain ⟨u, K, V, e, a1, a2, ⟨b1, b2, b3, b4, b5, b6⟩, a3, a4⟩ := x_tok t hW h9 (by omega) (by omega) h10 T0 (by omega)
      obtain ⟨u2, e2, c1, c2, c3, c4⟩ := x_skip (t.ex (b6 12 0 8 (by omega) (by omega)) (fun p => b6 30 0 p (by omega) (by omega))) b1 (by omega) a4
      have f2 : ∀ k i s, ¬ (k = 12 ∧ i = 0 ∧ (s = 9 ∨ s = 10)) → ¬ ((k = 31 ∨ k = 32 ∨ k = 33) ∧ i = 0 ∧ s = T) → u2 k i s = w k i s := fun k i s x y => (c4 k i s (by omega)).trans (b6 k i s x y)
      obtain ⟨u3, E', N, d1, d2, d3⟩ := ih u2 (fun k => if k = T + 1 then e else E k) (T + 1) e2 (by have := c2.1; omega) (t.ex (f2 12 0 8 (by omega) (by omega)) (fun p => f2 30 0 p (by omega) (by omega))) (fun i hi => (f2 34 0 i (by omega) (by omega)).trans (hW i hi)) c3 ((c4 12 0 10 (by omega)).trans b2) (by omega) (by have := c2.1; omega) c2.2.1 ((if_neg (by omega)).trans E0) (by rw [if_pos rfl]; exact c2) (fun k k0 k1 => by
        by_cases ck : k = T
        · subst ck
          unfold tk_one
          dsimp only
          rw [if_neg (show ¬ k = k + 1 by omega), if_pos rfl, c4 31 0 k (by omega), c4 32 0 k (by omega), c4 33 0 k (by omega), b3, b4, b5]
          exact ⟨hr, by omega, by omega, a2⟩
        · exact (hk k k0 (by omega)).ex (f2 31 0 k (by omega) (by omega)) (f2 32 0 k (by omega) (by omega)) (f2 33 0 k (by omega) (by omega)) (if_neg (by omega)) (if_neg (by omega)))
      refine ⟨u3, E', N, ?_, d2, fun k i s x1 x2 x3 x4 => (d3 k i s x1 x2 x3 x4).trans (f2 k i s x4 (by omega))⟩
      rw [← d1]
      unfold fR_begin_48
      refine pj_Lp_st ?_
      show fR_begin_48b T w = _
      unfold fR_begin_48b
      rw [t.1, h9, if_neg (by omega), if_neg (by omega), a1, Option.bind_some, c1, Option.bind_some, pj_wr_id (by omega) (by omega)]
theorem x_begin {w : pj_W} {x : Int} {B : Int → Int} (hW : tk_W w) (h0 : 0 ≤ x) (h1 : x ≤ w 12 0 5) (h9 : x ≤ 900) (hB : ∀ p, 0 ≤ p → p < x → w 30 0 p = B p) : ∃ u E N, fR_begin x w = some u ∧ tk_all u B x E N ∧ u 12 0 5 = 0 ∧ u 12 0 6 = 0 ∧ u 12 0 7 = -1 ∧ u 12 0 8 = x ∧ u 12 0 11 = 0 ∧ ∀ k i s, k ≠ 31 → k ≠ 32 → k ≠ 33 → ¬ (k = 12 ∧ i = 0 ∧ 5 ≤ s ∧ s ≤ 11) → u k i s = w k i s := by
  unfold fR_begin
  rw [Option.bind_some, show min x (w 12 0 5) = x by omega]
  have f1 : ∀ k i s, ¬ (k = 12 ∧ i = 0 ∧ 5 ≤ s ∧ s ≤ 11) → (pj_set (pj_set (pj_set (pj_set (pj_set (pj_set (pj_set w 12 0 8 x) 12 0 5 0) 12 0 6 0) 12 0 7 (-1)) 12 0 10 0) 12 0 9 0) 12 0 11 0) k i s = w k i s := fun k i s h => by
    rw [pj_sne (by omega), pj_sne (by omega), pj_sne (by omega), pj_sne (by omega), pj_sne (by omega), pj_sne (by omega), pj_sne (by omega)]
  have g8 : (pj_set (pj_set (pj_set (pj_set (pj_set (pj_set (pj_set w 12 0 8 x) 12 0 5 0) 12 0 6 0) 12 0 7 (-1)) 12 0 10 0) 12 0 9 0) 12 0 11 0) 12 0 8 = x := by
    rw [pj_sne (by omega), pj_sne (by omega), pj_sne (by omega), pj_sne (by omega), pj_sne (by omega), pj_sne (by omega), pj_set_at]
  have g5 : (pj_set (pj_set (pj_set (pj_set (pj_set (pj_set (pj_set w 12 0 8 x) 12 0 5 0) 12 0 6 0) 12 0 7 (-1)) 12 0 10 0) 12 0 9 0) 12 0 11 0) 12 0 5 = 0 := by
    rw [pj_sne (by omega), pj_sne (by omega), pj_sne (by omega), pj_sne (by omega), pj_sne (by omega), pj_set_at]
  have g6 : (pj_set (pj_set (pj_set (pj_set (pj_set (pj_set (pj_set w 12 0 8 x) 12 0 5 0) 12 0 6 0) 12 0 7 (-1)) 12 0 10 0) 12 0 9 0) 12 0 11 0) 12 0 6 = 0 := by
    rw [pj_sne (by omega), pj_sne (by omega), pj_sne (by omega), pj_sne (by omega), pj_set_at]
  have g7 : (pj_set (pj_set (pj_set (pj_set (pj_set (pj_set (pj_set w 12 0 8 x) 12 0 5 0) 12 0 6 0) 12 0 7 (-1)) 12 0 10 0) 12 0 9 0) 12 0 11 0) 12 0 7 = -1 := by
    rw [pj_sne (by omega), pj_sne (by omega), pj_sne (by omega), pj_set_at]
  have g10 : (pj_set (pj_set (pj_set (pj_set (pj_set (pj_set (pj_set w 12 0 8 x) 12 0 5 0) 12 0 6 0) 12 0 7 (-1)) 12 0 10 0) 12 0 9 0) 12 0 11 0) 12 0 10 = 0 := by
    rw [pj_sne (by omega), pj_sne (by omega), pj_set_at]
  have g9 : (pj_set (pj_set (pj_set (pj_set (pj_set (pj_set (pj_set w 12 0 8 x) 12 0 5 0) 12 0 6 0) 12 0 7 (-1)) 12 0 10 0) 12 0 9 0) 12 0 11 0) 12 0 9 = 0 := by
    rw [pj_sne (by omega), pj_set_at]
  have g11 : (pj_set (pj_set (pj_set (pj_set (pj_set (pj_set (pj_set w 12 0 8 x) 12 0 5 0) 12 0 6 0) 12 0 7 (-1)) 12 0 10 0) 12 0 9 0) 12 0 11 0) 12 0 11 = 0 := pj_set_at
  revert f1 g8 g5 g6 g7 g10 g9 g11
  generalize (pj_set (pj_set (pj_set (pj_set (pj_set (pj_set (pj_set w 12 0 8 x) 12 0 5 0) 12 0 6 0) 12 0 7 (-1)) 12 0 10 0) 12 0 9 0) 12 0 11 0) = v
  intro f1 g8 g5 g6 g7 g10 g9 g11
  have t : tk_T v B x := ⟨g8, h0, h9, fun p p0 p1 => (f1 30 0 p (by omega)).trans (hB p p0 p1)⟩
  obtain ⟨u, e, a1, a2, a3, a4⟩ := x_skip t g9 (Int.le_refl 0) h0
  obtain ⟨u2, E, N, b1, b2, b3⟩ := x_toks x.toNat u (fun _ => 0) 0 e (by have := a2.1; omega) (t.ex (a4 12 0 8 (by omega)) (fun p => a4 30 0 p (by omega))) (fun i hi => (a4 34 0 i (by omega)).trans ((f1 34 0 i (by omega)).trans (hW i hi))) a3 ((a4 12 0 10 (by omega)).trans g10) (Int.le_refl 0) a2.1 a2.2.1 rfl a2 (fun k k0 k1 => by omega)
  refine ⟨u2, E, N, ?_, b2, ?_, ?_, ?_, ?_, ?_, fun k i s c1 c2 c3 c4 => ?_⟩
  · rw [a1, Option.bind_some, b1]
  · rw [b3 12 0 5 (by decide) (by decide) (by decide) (by omega), a4 12 0 5 (by omega)]; exact g5
  · rw [b3 12 0 6 (by decide) (by decide) (by decide) (by omega), a4 12 0 6 (by omega)]; exact g6
  · rw [b3 12 0 7 (by decide) (by decide) (by decide) (by omega), a4 12 0 7 (by omega)]; exact g7
  · rw [b3 12 0 8 (by decide) (by decide) (by decide) (by omega), a4 12 0 8 (by omega)]; exact g8
  · rw [b3 12 0 11 (by decide) (by decide) (by decide) (by omega), a4 12 0 11 (by omega)]; exact g11
  · rw [b3 k i s c1 c2 c3 (by omega), a4 k i s (by omega)]; exact f1 k i s c4
