/-! TOKENS, as the class makes them -/
def tk_T (w : pj_W) (B : Int → Int) (n : Int) : Prop := w 12 0 8 = n ∧ 0 ≤ n ∧ n ≤ 900 ∧ ∀ p, 0 ≤ p → p < n → w 30 0 p = B p
/-- one token from where it begins: its kind, what it holds, its end -/
def tk_at (B : Int → Int) (n P K V E : Int) : Prop :=
  (tk_sm (B P) ∧ tk_run tk_sm B n P E ∧ ((8 < E - P ∧ K = 6) ∨ (E - P ≤ 8 ∧ ((∃ i : Nat, i < 30 ∧ K = 5 ∧ V = i ∧ tk_ls B P (E - P).toNat = tk_w i) ∨ (K = 4 ∧ V = pj_n5 (tk_ls B P (E - P).toNat) ∧ ∀ i : Nat, i < 30 → tk_ls B P (E - P).toNat ≠ tk_w i))))) ∨
  (tk_dg (B P) ∧ tk_run tk_dg B n P E ∧ ((4 < E - P ∧ K = 1) ∨ (E - P ≤ 4 ∧ K = 3 ∧ V = tk_dv (tk_ls B P (E - P).toNat)))) ∨
  (tk_sg (B P) ∧ E = P + 1 ∧ K = 2 ∧ V = B P) ∨
  (¬ tk_sm (B P) ∧ ¬ tk_dg (B P) ∧ ¬ tk_sg (B P) ∧ E = P + 1 ∧ K = 1)
def tk_f9 (w u : pj_W) : Prop := ∀ k i s, ¬ (k = 12 ∧ i = 0 ∧ s = 9) → u k i s = w k i s
/-- a token more -/
def tk_new (w u : pj_W) (T P K V E : Int) : Prop := u 12 0 9 = E ∧ u 12 0 10 = T + 1 ∧ u 31 0 T = K ∧ u 32 0 T = P ∧ u 33 0 T = V ∧ ∀ k i s, ¬ (k = 12 ∧ i = 0 ∧ (s = 9 ∨ s = 10)) → ¬ ((k = 31 ∨ k = 32 ∨ k = 33) ∧ i = 0 ∧ s = T) → u k i s = w k i s
theorem x_isL1 {c : Int} (h : tk_sm c) (w : pj_W) : fR_isLetter c w = some 1 := by
  unfold tk_sm at h
  unfold fR_isLetter
  rw [if_neg (by omega), if_neg (by omega)]
theorem x_isL0 {c : Int} (h : ¬ tk_sm c) (w : pj_W) : fR_isLetter c w = some 0 := by
  unfold tk_sm at h
  unfold fR_isLetter
  by_cases c1 : c < 97
  · rw [if_pos c1]
  · rw [if_neg c1, if_pos (by omega)]
theorem x_isD1 {c : Int} (h : tk_dg c) (w : pj_W) : fR_isDigit c w = some 1 := by
  unfold tk_dg at h
  unfold fR_isDigit
  rw [if_neg (by omega), if_neg (by omega)]
theorem x_isD0 {c : Int} (h : ¬ tk_dg c) (w : pj_W) : fR_isDigit c w = some 0 := by
  unfold tk_dg at h
  unfold fR_isDigit
  by_cases c1 : c < 48
  · rw [if_pos c1]
  · rw [if_neg c1, if_pos (by omega)]
theorem x_add {w : pj_W} {T : Int} (hT : w 12 0 10 = T) (h0 : 0 ≤ T) (h1 : T ≤ 900) (K P V : Int) : ∃ u, fR_addToken K P V w = some u ∧ tk_new w u T P K V (w 12 0 9) := by
  subst hT
  refine ⟨pj_set (pj_set (pj_set (pj_set w 31 0 (w 12 0 10) K) 32 0 (w 12 0 10) P) 33 0 (w 12 0 10) V) 12 0 10 (w 12 0 10 + 1), ?_, ?_, ?_, ?_, ?_, ?_, fun k i s a b => ?_⟩
  · have e1 : pj_set w 31 0 (w 12 0 10) K 12 0 10 = w 12 0 10 := pj_sne (by omega)
    have e2 : pj_set (pj_set w 31 0 (w 12 0 10) K) 32 0 (w 12 0 10) P 12 0 10 = w 12 0 10 := by rw [pj_sne (by omega), e1]
    have e3 : pj_set (pj_set (pj_set w 31 0 (w 12 0 10) K) 32 0 (w 12 0 10) P) 33 0 (w 12 0 10) V 12 0 10 = w 12 0 10 := by rw [pj_sne (by omega), e2]
    unfold fR_addToken
    rw [e1, e2, if_neg (by omega), if_pos (by omega), if_pos (by omega), if_pos (by omega), Option.bind_some, e3, pj_wr_id (by omega) (by omega)]
  · rw [pj_sne (by omega), pj_sne (by omega), pj_sne (by omega), pj_sne (by omega)]
  · rw [pj_set_at]
  · rw [pj_sne (by omega), pj_sne (by omega), pj_sne (by omega), pj_set_at]
  · rw [pj_sne (by omega), pj_sne (by omega), pj_set_at]
  · rw [pj_sne (by omega), pj_set_at]
  · rw [pj_sne (by omega), pj_sne (by omega), pj_sne (by omega), pj_sne (by omega)]
theorem x_skip {w : pj_W} {B : Int → Int} {n p : Int} (t : tk_T w B n) (hp : w 12 0 9 = p) (h0 : 0 ≤ p) (h1 : p ≤ n) : ∃ u e, fR_skipBlanks w = some u ∧ tk_run tk_bl B n p e ∧ u 12 0 9 = e ∧ tk_f9 w u := by
  obtain ⟨t8, t0, t9, tB⟩ := t
  obtain ⟨e, s', r, ⟨J1, J2, J3⟩, hl⟩ := tk_lp (body := fun s : pj_W => fR_skipBlanks_0b s) (P := tk_bl) (B := B) (n := n) (fun q s => p ≤ q ∧ s 12 0 9 = q ∧ tk_f9 w s) (fun q s hq hb ⟨J1, J2, J3⟩ => by
    refine ⟨pj_set s 12 0 9 (q + 1), ?_, by omega, pj_set_at, fun k i x hx => by rw [pj_sne hx]; exact J3 k i x hx⟩
    have e8 : s 12 0 8 = n := by rw [J3 12 0 8 (by omega)]; exact t8
    have eB : s 30 0 q = B q := by rw [J3 30 0 q (by omega)]; exact tB q (by omega) hq
    unfold fR_skipBlanks_0b fR_skipBlanks_39
    rw [J2, e8, eB, if_neg (by omega), if_pos (by omega), pj_wr_id (by omega) (by omega)]
    rcases hb with hb | hb
    · rw [if_pos hb]
    · rw [if_neg (by omega), if_pos hb]) (n - p).toNat p w (by omega) h1 ⟨Int.le_refl p, hp, fun _ _ _ _ => rfl⟩
  refine ⟨s', e, ?_, r, J2, J3⟩
  unfold fR_skipBlanks fR_skipBlanks_0
  rw [hl]
  refine pj_Lp_end ?_
  have e8 : s' 12 0 8 = n := by rw [J3 12 0 8 (by omega)]; exact t8
  unfold fR_skipBlanks_0b
  rw [J2, e8]
  by_cases c : n ≤ e
  · rw [if_pos c]
  · have hb := r.2.2.2 (by omega)
    have eB : s' 30 0 e = B e := by rw [J3 30 0 e (by omega)]; exact tB e (by omega) (by omega)
    unfold tk_bl at hb
    rw [if_neg c, if_pos (by omega), eB, if_neg (by omega), if_neg (by omega)]
theorem x_wordOf {w : pj_W} (hW : tk_W w) (x : Int) : (fR_wordOf x w = some (-1) ∧ ∀ i : Nat, i < 30 → pj_n5 (tk_w i) ≠ x) ∨ ∃ i : Nat, i < 30 ∧ fR_wordOf x w = some (i : Int) ∧ pj_n5 (tk_w i) = x := by
  have key : ∀ i : Nat, i < 30 → (¬ pj_n5 (tk_w i) = x → fR_wordOf_2b x w (i : Int) = some (.inl ((i + 1 : Nat) : Int))) ∧ (pj_n5 (tk_w i) = x → fR_wordOf_2b x w (i : Int) = some (.inr (i : Int))) := fun i hi => by
    unfold fR_wordOf_2b
    rw [if_neg (by omega), if_pos (by omega), hW i hi]
    refine ⟨fun hx => ?_, fun hx => ?_⟩
    · rw [if_neg (fun e => hx (pj_cmp_eq.mp e)), pj_wr_id (by omega) (by omega)]; rfl
    · rw [if_pos (pj_cmp_eq.mpr hx)]
  cases hj : pj_ff (fun i => pj_n5 (tk_w i) = x) 0 30 with
  | none =>
    refine Or.inl ⟨?_, fun i hi => pj_ff_none hj i (by omega) (by omega)⟩
    unfold fR_wordOf fR_wordOf_2
    refine (pj_Lp_fn (fun i : Nat => (i : Int)) hj (fun i hi hp => (key i hi).1 hp)).trans (pj_Lp_end ?_)
    unfold fR_wordOf_2b
    rw [if_pos (by omega)]
  | some j =>
    obtain ⟨_, h2, h3, _⟩ := pj_ff_some hj
    refine Or.inr ⟨j, by omega, ?_, h3⟩
    unfold fR_wordOf fR_wordOf_2
    exact pj_Lp_fs (fun i : Nat => (i : Int)) hj (fun i hi hp => (key i hi).1 hp) (fun hj2 hp => (key j hj2).2 hp)
