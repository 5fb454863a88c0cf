/-! NAMES, as the model and the class find them -/
theorem tk_shl8 {x c : Int} (h0 : 0 ≤ x) (h1 : x < 36028797018963968) (c0 : 0 ≤ c) (c1 : c < 256) : pj_lorl (pj_shll x 8) c = x * 256 + c := by
  have e8 : (Int32.ofInt 8).toInt64 &&& 63 = (8 : Int64) := by decide
  unfold pj_lorl pj_shll
  rw [e8, Int64.ofInt_toInt]
  show (Int64.ofInt x <<< 8 ||| Int64.ofInt c).toBitVec.toInt = _
  rw [Int64.toBitVec_or, Int64.toBitVec_shiftLeft, show (8 : Int64).toBitVec.smod 64 = 8#64 by decide, BitVec.shiftLeft_eq']
  have nx : (Int64.ofInt x).toBitVec.toNat = x.toNat := by
    show (BitVec.ofInt 64 x).toNat = _
    rw [BitVec.toNat_ofInt]
    omega
  have nc : (Int64.ofInt c).toBitVec.toNat = c.toNat := by
    show (BitVec.ofInt 64 c).toNat = _
    rw [BitVec.toNat_ofInt]
    omega
  have hN : ((Int64.ofInt x).toBitVec <<< (8#64).toNat ||| (Int64.ofInt c).toBitVec).toNat = x.toNat * 256 + c.toNat := by
    rw [BitVec.toNat_or, BitVec.toNat_shiftLeft, nx, nc, show (8#64).toNat = 8 from rfl]
    have e1 : x.toNat <<< 8 = x.toNat * 256 := by rw [Nat.shiftLeft_eq]
    rw [Nat.mod_eq_of_lt (by rw [e1]; omega), ← Nat.shiftLeft_add_eq_or_of_lt (by omega : c.toNat < 2 ^ 8), e1]
  rw [BitVec.toInt_eq_toNat_of_lt (by rw [hN]; omega), hN]
  omega
theorem pj_n8_h : ∀ m : Nat, ∀ l : List Nat, l.length = m → tk_lt l → pj_n8 l * 2 < 256 ^ m := by
  intro m
  induction m with
  | zero =>
    intro l hl _
    rw [List.length_eq_zero_iff.mp hl]
    decide
  | succ m ih =>
    intro l hl ht
    rcases tk_nc l with e | ⟨a, c, e⟩
    · rw [e] at hl; cases hl
    · subst e
      obtain ⟨h1, h2, h3⟩ := tk_lt_s ht
      have g := ih a (by rw [List.length_append] at hl; simp only [List.length_cons, List.length_nil] at hl; omega) h1
      rw [pj_n8_s, Int.pow_succ]
      omega
theorem tk_p256 : ∀ i : Fin 8, (256 : Int) ^ i.val ≤ 72057594037927936 := by decide +kernel
theorem m_name {v : pj_W} {B : Int → Int} {n P E : Int} (t : tk_M v B n) (h13 : v 26 0 13 = P) (h14 : v 26 0 14 = E) (h0 : 0 ≤ P) (hr : tk_run tk_sm B n P E) (h8 : E - P ≤ 8) : fM_nameHere v = some (pj_n8 (tk_ls B P (E - P).toNat)) := by
  have hn := t.2.2.1
  have hE := hr.2.1
  have hPE := hr.1
  have e0 : fM_nameHere v = pj_Lp (fun s : (Int × Int) => fM_nameHere_7b v s.1 s.2) (pj_n8 (tk_ls B P 0), P + ((0 : Nat) : Int)) := by
    unfold fM_nameHere fM_nameHere_7
    rw [h13, show P + ((0 : Nat) : Int) = P by omega]
    rfl
  rw [e0]
  refine pj_Lp_fo (body := fun s : (Int × Int) => fM_nameHere_7b v s.1 s.2) (fun i : Nat => (pj_n8 (tk_ls B P i), P + (i : Int))) (E - P).toNat (fun i hi => ?_) ?_
  · have gs := hr.2.2.1 (P + i) (by omega) (by omega)
    unfold tk_sm at gs
    have hl := tk_ls_lt hr (m := i) (by omega)
    have hb := pj_n8_b i _ (tk_ls_len B P i) hl
    have hh := pj_n8_h i _ (tk_ls_len B P i) hl
    have hpw : (256 : Int) ^ i ≤ 72057594037927936 := tk_p256 ⟨i, by omega⟩
    show fM_nameHere_7b v (pj_n8 (tk_ls B P i)) (P + (i : Int)) = _
    unfold fM_nameHere_7b
    rw [h14, if_neg (by omega), m_byteI t (by omega) (by omega), Option.bind_some, show B (P + i) % 256 = B (P + i) by omega, tk_shl8 hb.1 (by omega) (by omega) (by omega), pj_wr_id (by omega) (by omega), tk_ls_succ, pj_n8_s, show (((B (P + i)).toNat : Nat) : Int) = B (P + i) by omega, show P + (i : Int) + 1 = P + ((i + 1 : Nat) : Int) by omega]
  · show fM_nameHere_7b v (pj_n8 (tk_ls B P (E - P).toNat)) (P + (((E - P).toNat : Nat) : Int)) = _
    unfold fM_nameHere_7b
    rw [h14, if_pos (by omega)]
/-- the first of so many numbers that is like a given one -/
def tk_ix (f : Int → Int) (c : Int) (x : Int) : Int := match pj_ff (fun k : Nat => f k = x) 0 c.toNat with
  | some k => (k : Int)
  | none => -1
theorem tk_ix_in {f : Int → Int} {c x : Int} : (tk_ix f c x = -1 ∧ ∀ k : Int, 0 ≤ k → k < c → f k ≠ x) ∨ (0 ≤ tk_ix f c x ∧ tk_ix f c x < c ∧ f (tk_ix f c x) = x) := by
  unfold tk_ix
  cases h : pj_ff (fun k : Nat => f k = x) 0 c.toNat with
  | none =>
    refine Or.inl ⟨rfl, fun k h0 h1 => ?_⟩
    have := pj_ff_none h k.toNat (by omega) (by omega)
    rwa [show ((k.toNat : Nat) : Int) = k by omega] at this
  | some k =>
    obtain ⟨_, h2, h3, _⟩ := pj_ff_some h
    exact Or.inr ⟨by dsimp only; omega, by dsimp only; omega, h3⟩
theorem tk_ix_ex {f g : Int → Int} {c x y : Int} (h : ∀ k : Int, 0 ≤ k → k < c → (f k = x ↔ g k = y)) : tk_ix f c x = tk_ix g c y := by
  unfold tk_ix
  rw [pj_ff_ex (p := fun k : Nat => f k = x) (q := fun k : Nat => g k = y) (fun i h1 h2 => h i (by omega) (by omega))]
theorem m_findHere {v : pj_W} {B : Int → Int} {n P E b c : Int} (t : tk_M v B n) (h13 : v 26 0 13 = P) (h14 : v 26 0 14 = E) (h0 : 0 ≤ P) (hr : tk_run tk_sm B n P E) (h8 : E - P ≤ 8) (hb : 0 ≤ b) (hc : 0 ≤ c) (hbc : b + c ≤ 80) : fM_findHere b c v = some (tk_ix (fun k => v 61 0 (b + k)) c (pj_n8 (tk_ls B P (E - P).toNat))) := by
  have key : ∀ i : Nat, i < c.toNat → (¬ v 61 0 (b + i) = pj_n8 (tk_ls B P (E - P).toNat) → fM_findHere_2b b c v (i : Int) = some (.inl ((i + 1 : Nat) : Int))) ∧ (v 61 0 (b + i) = pj_n8 (tk_ls B P (E - P).toNat) → fM_findHere_2b b c v (i : Int) = some (.inr (i : Int))) := fun i hi => by
    unfold fM_findHere_2b
    rw [if_neg (by omega), pj_wr_id (x := b + i) (by omega) (by omega), if_pos (by omega), m_name t h13 h14 h0 hr h8, Option.bind_some]
    refine ⟨fun hx => ?_, fun hx => ?_⟩
    · rw [if_neg (fun e => hx (pj_cmp_eq.mp e)), pj_wr_id (by omega) (by omega)]; rfl
    · rw [if_pos (pj_cmp_eq.mpr hx)]
  unfold fM_findHere fM_findHere_2 tk_ix
  cases hj : pj_ff (fun k : Nat => v 61 0 (b + (k : Int)) = pj_n8 (tk_ls B P (E - P).toNat)) 0 c.toNat with
  | none =>
    refine (pj_Lp_fn (fun i : Nat => (i : Int)) hj (fun i hi hp => (key i hi).1 hp)).trans (pj_Lp_end ?_)
    unfold fM_findHere_2b
    rw [if_pos (by omega)]
  | some j => exact pj_Lp_fs (fun i : Nat => (i : Int)) hj (fun i hi hp => (key i hi).1 hp) (fun hj2 hp => (key j hj2).2 hp)
theorem x_finderNamed {w : pj_W} {b x c : Int} (h7 : w 19 b 7 = c) (hc : 0 ≤ c) (hc6 : c ≤ 6) : fB_finderNamed b x w = some (tk_ix (fun k => w 22 (6 * b + k) 0) c x) := by
  have key : ∀ i : Nat, i < c.toNat → (¬ w 22 (6 * b + i) 0 = x → fB_finderNamed_2b b x w (i : Int) = some (.inl ((i + 1 : Nat) : Int))) ∧ (w 22 (6 * b + i) 0 = x → fB_finderNamed_2b b x w (i : Int) = some (.inr (i : Int))) := fun i hi => by
    unfold fB_finderNamed_2b
    rw [h7, if_neg (by omega), if_pos (by omega)]
    refine ⟨fun hx => ?_, fun hx => ?_⟩
    · rw [if_neg (fun e => hx (pj_cmp_eq.mp e)), pj_wr_id (by omega) (by omega)]; rfl
    · rw [if_pos (pj_cmp_eq.mpr hx)]
  unfold fB_finderNamed fB_finderNamed_2 tk_ix
  cases hj : pj_ff (fun k : Nat => w 22 (6 * b + (k : Int)) 0 = x) 0 c.toNat with
  | none =>
    refine (pj_Lp_fn (fun i : Nat => (i : Int)) hj (fun i hi hp => (key i hi).1 hp)).trans (pj_Lp_end ?_)
    unfold fB_finderNamed_2b
    rw [h7, if_pos (by omega)]
  | some j => exact pj_Lp_fs (fun i : Nat => (i : Int)) hj (fun i hi hp => (key i hi).1 hp) (fun hj2 hp => (key j hj2).2 hp)
theorem x_findNamed {w : pj_W} {b x c : Int} (h7 : w 19 b 8 = c) (hc : 0 ≤ c) (hc6 : c ≤ 8) : fB_findNamed b x w = some (tk_ix (fun k => w 23 (8 * b + k) 2) c x) := by
  have key : ∀ i : Nat, i < c.toNat → (¬ w 23 (8 * b + i) 2 = x → fB_findNamed_2b b x w (i : Int) = some (.inl ((i + 1 : Nat) : Int))) ∧ (w 23 (8 * b + i) 2 = x → fB_findNamed_2b b x w (i : Int) = some (.inr (i : Int))) := fun i hi => by
    unfold fB_findNamed_2b
    rw [h7, if_neg (by omega), if_pos (by omega)]
    refine ⟨fun hx => ?_, fun hx => ?_⟩
    · rw [if_neg (fun e => hx (pj_cmp_eq.mp e)), pj_wr_id (by omega) (by omega)]; rfl
    · rw [if_pos (pj_cmp_eq.mpr hx)]
  unfold fB_findNamed fB_findNamed_2 tk_ix
  cases hj : pj_ff (fun k : Nat => w 23 (8 * b + (k : Int)) 2 = x) 0 c.toNat with
  | none =>
    refine (pj_Lp_fn (fun i : Nat => (i : Int)) hj (fun i hi hp => (key i hi).1 hp)).trans (pj_Lp_end ?_)
    unfold fB_findNamed_2b
    rw [h7, if_pos (by omega)]
  | some j => exact pj_Lp_fs (fun i : Nat => (i : Int)) hj (fun i hi hp => (key i hi).1 hp) (fun hj2 hp => (key j hj2).2 hp)
