/-! ROUNDS, in the class: what is laid out ahead -/
def bs_cl (A : pj_Q) (f : Int) (a : Nat) : Int := if a = 8 then A (10 + 5 * f) else A (40 + 3 * (a : Int))
def bs_of (A : pj_Q) (f T : Int) : bs_Y := ((A 2).toNat, fun d => decide (pj_there A d), fun a d => if (a < (A 2).toNat ∨ a = 8) ∧ d < (A 2).toNat then A (10 + 5 * f + 1) * pj_abs (bs_cl A f a - A (40 + 3 * (d : Int))) else 0, fun d => if d < (A 2).toNat then pj_bhd A f d else 0, fun d => if d < (A 2).toNat then A (40 + 3 * (d : Int) + 1) else 0, T, A (10 + 5 * f + 2), A (10 + 5 * f + 3))
theorem bs_abs_mul {p x y : Int} (hp : 1 ≤ p) (hp9 : p ≤ 9) (hx : 0 ≤ x) (hx2 : x < 40) (hy : 0 ≤ y) (hy2 : y < 40) : 0 ≤ p * pj_abs (x - y) ∧ p * pj_abs (x - y) ≤ 360 := by
  have h : 0 ≤ pj_abs (x - y) ∧ pj_abs (x - y) ≤ 39 := by
    unfold pj_abs pj_wr
    split <;> omega
  refine ⟨Int.mul_nonneg (by omega) h.1, ?_⟩
  have h1 : p * pj_abs (x - y) ≤ 9 * pj_abs (x - y) := Int.mul_le_mul_of_nonneg_right hp9 h.1
  omega
theorem bs_of_ok {A : pj_Q} (I : pj_IV A) {f T : Int} (hf : pj_isF A f) (h0 : A (10 + 5 * f + 3) ≤ T) (hT : T ≤ 1000) : bs_ok (bs_of A f T) := by
  have hA := I.1
  have hF := I.2.2.1 f hf.1 hf.2
  have hcl : ∀ a : Nat, (a < (A 2).toNat ∨ a = 8) → 0 ≤ bs_cl A f a ∧ bs_cl A f a < 40 := fun a ha => by
    unfold bs_cl
    split
    · omega
    · have := I.2.2.2.1 a (by omega) (by omega)
      omega
  refine ⟨by show (A 2).toNat ≤ 8; omega, fun a d => ?_, fun d => ?_, by show 0 ≤ T; omega, hT, hF.2.2.2.2.2.1, h0, hF.2.2.2.2.1, fun d => ?_⟩
  · show 0 ≤ (if _ then _ else (0 : Int)) ∧ (if _ then _ else (0 : Int)) ≤ 1000
    split
    · rename_i h
      have h1 := hcl a h.1
      have h2 := I.2.2.2.1 d (by omega) (by omega)
      have := bs_abs_mul hF.2.2.1 hF.2.2.2.1 h1.1 h1.2 h2.1 (show A (40 + 3 * (d : Int)) < 40 by omega)
      omega
    · omega
  · show 0 ≤ (if _ then _ else (0 : Int)) ∧ (if _ then _ else (0 : Int)) ≤ 1000
    split
    · rename_i h
      have hD := I.2.2.2.1 d (by omega) (by omega)
      have : 0 ≤ pj_bhd A f d ∧ pj_bhd A f d ≤ 241 := by
        unfold pj_bhd
        refine pj_fo_inv (fun (i : Nat) (a : Int) => 0 ≤ a ∧ a ≤ 241) ⟨by omega, by omega⟩ (fun i hi a ha => ?_)
        have := I.2.2.2.2.1 d i (by omega) (by omega) (by omega) (by omega)
        split <;> omega
      omega
    · omega
  · show 0 ≤ (if _ then _ else (0 : Int)) ∧ (if _ then _ else (0 : Int)) ≤ 999
    split
    · have := I.2.2.2.1 d (by omega) (by omega)
      omega
    · omega
def bs_pr (v : pj_W) (Y : bs_Y) : Prop := (v 17 0 7 = bs_n Y ∧ v 17 0 9 = bs_t Y ∧ v 17 0 10 = bs_H Y) ∧ (∀ a d : Nat, (a < bs_n Y ∨ a = 8) → d < bs_n Y → pj_wr (v 17 0 8 * pj_abs (pj_wr (v 37 0 a - v 37 0 d))) = bs_ds Y a d) ∧ ∀ d : Nat, d < bs_n Y → v 38 0 d = bs_oo Y d ∧ v 39 0 d = bs_g Y d
theorem bs_pr.ex {v v' : pj_W} {Y : bs_Y} (h : bs_pr v Y) (h17 : ∀ s, 7 ≤ s → s ≤ 10 → v' 17 0 s = v 17 0 s) (ho : ∀ k s, k = 37 ∨ k = 38 ∨ k = 39 → v' k 0 s = v k 0 s) : bs_pr v' Y := by
  unfold bs_pr
  rw [h17 7 (by decide) (by decide), h17 8 (by decide) (by decide), h17 9 (by decide) (by decide), h17 10 (by decide) (by decide)]
  refine ⟨h.1, fun a d ha hd => ?_, fun d hd => ?_⟩
  · rw [ho 37 a (by omega), ho 37 d (by omega)]; exact h.2.1 a d ha hd
  · rw [ho 38 d (by omega), ho 39 d (by omega)]; exact h.2.2 d hd
def bs_tab (v : pj_W) : Nat → Nat → Int := fun S a => v 36 0 (9 * (S : Int) + a)
theorem bs_and_d : ∀ S : Fin 256, ∀ i : Fin 8, S.val.testBit i.val = true → pj_and (S.val : Int) (pj_xor (pj_shl 1 (i.val : Int)) (-1)) = ((S.val - 2 ^ i.val : Nat) : Int) := by decide +kernel
section
variable {v : pj_W} {Y : bs_Y}
theorem o_between (h : bs_pr v Y) (hn : bs_n Y ≤ 8) {a d : Nat} (ha : a < bs_n Y ∨ a = 8) (hd : d < bs_n Y) : fO_minutesBetween a d v = some (bs_ds Y a d) := by
  unfold fO_minutesBetween
  rw [if_pos (by omega), if_pos (by omega), h.2.1 a d ha hd]
theorem o_due {S i : Nat} (hS : S < 256) (hb : S.testBit i = true) : fO_dueAt S i v = some (bs_tab v (S - 2 ^ i) i) := by
  have hB := bs_bit hS hb
  have e := bs_and_d ⟨S, hS⟩ ⟨i, hB.1⟩ hb
  simp only at e
  unfold fO_dueAt bs_tab
  rw [e, pj_wr_id (x := ((S - 2 ^ i : Nat) : Int) * 9) (by omega) (by omega), pj_wr_id (by omega) (by omega), if_pos (by omega), Int.mul_comm]
theorem bs_bitI {S i : Nat} (hS : S < 256) (hi : i < 8) : pj_and (pj_shr (S : Int) (i : Int)) 1 = 1 ↔ S.testBit i = true := by
  rw [pj_bit_n hS hi]
  split
  · rename_i h; exact ⟨fun _ => h, fun _ => rfl⟩
  · rename_i h; exact ⟨fun x => by omega, fun x => absurd x h⟩
theorem o_latest (h : bs_pr v Y) (k : bs_ok Y) {S a : Nat} {e : Int} (hS : S < 256) (h0 : S ≠ 0) (ha : a < bs_n Y ∨ a = 8) (ht : ∀ i, i < bs_n Y → S.testBit i = true → -1000000 ≤ bs_tab v (S - 2 ^ i) i ∧ bs_tab v (S - 2 ^ i) i ≤ bs_T Y) : fO_latestFor S a e v = some (bs_lf Y (bs_tab v) S a (bs_n Y)) := by
  have hn := k.1
  have hT := k.2.2.2.2.1
  unfold fO_latestFor
  rw [if_neg (by omega)]
  have hl := pj_Lp_fo (body := fun s : (Int × Int) => fO_latestFor_13b S a v s.1 s.2) (r := bs_lf Y (bs_tab v) S a (bs_n Y)) (fun i => (bs_lf Y (bs_tab v) S a i, (i : Int))) (bs_n Y) (fun i hi => ?_) ?_
  · exact hl
  · show fO_latestFor_13b S a v (bs_lf Y (bs_tab v) S a i) i = some (Sum.inl ((if S.testBit i then (if bs_tab v (S - 2 ^ i) i < bs_oo Y i then bs_lf Y (bs_tab v) S a i else max (bs_lf Y (bs_tab v) S a i) (bs_tab v (S - 2 ^ i) i - bs_ds Y a i)) else bs_lf Y (bs_tab v) S a i), _))
    unfold fO_latestFor_13b fO_latestFor_70
    rw [h.1.1, if_neg (by omega), pj_wri (by omega)]
    by_cases c : S.testBit i = true
    · have hti := ht i hi c
      have hds := k.2.1 a i
      rw [if_pos ((bs_bitI hS (by omega)).mpr c), if_pos c, o_due hS c, Option.bind_some, if_pos (by omega), (h.2.2 i hi).1]
      by_cases c2 : bs_tab v (S - 2 ^ i) i < bs_oo Y i
      · rw [if_pos c2, if_pos c2]; rfl
      · rw [if_neg c2, if_neg c2, o_between h hn ha hi, Option.bind_some, pj_wr_id (x := bs_tab v (S - 2 ^ i) i - bs_ds Y a i) (by omega) (by omega)]; rfl
    · rw [if_neg (fun x => c ((bs_bitI hS (by omega)).mp x)), if_neg c]; rfl
  · show fO_latestFor_13b S a v _ ((bs_n Y : Nat) : Int) = _
    unfold fO_latestFor_13b
    rw [h.1.1, if_pos (Int.le_refl _)]
/-- from whatever place: something comes out -/
theorem o_latest_any (h : bs_pr v Y) (hn : bs_n Y ≤ 8) {S : Nat} (hS : S < 256) {a e : Int} (ha : 0 ≤ a) (ha9 : a < 9) : ∃ z, fO_latestFor S a e v = some z := by
  unfold fO_latestFor
  by_cases c0 : (S : Int) = 0
  · rw [if_pos c0]; exact ⟨_, rfl⟩
  · rw [if_neg c0]
    have key : ∀ m i : Nat, i + m = bs_n Y → ∀ x : Int, ∃ z, fO_latestFor_13 S a v (x, (i : Int)) = some z := by
      intro m
      induction m with
      | zero =>
        intro i hi x
        refine ⟨x, pj_Lp_end ?_⟩
        unfold fO_latestFor_13b
        dsimp only
        rw [if_pos (by rw [h.1.1]; omega)]
      | succ m ih =>
        intro i hi x
        have hst : ∃ y, fO_latestFor_13b S a v x i = some (Sum.inl (y, ((i + 1 : Nat) : Int))) := by
          unfold fO_latestFor_13b fO_latestFor_70
          rw [h.1.1, if_neg (by omega), pj_wri (by omega)]
          by_cases c : S.testBit i = true
          · rw [if_pos ((bs_bitI hS (by omega)).mpr c), o_due hS c, Option.bind_some, if_pos (by omega)]
            by_cases c2 : bs_tab v (S - 2 ^ i) i < v 38 0 i
            · rw [if_pos c2]; exact ⟨_, rfl⟩
            · rw [if_neg c2]
              unfold fO_minutesBetween
              rw [if_pos ⟨ha, ha9⟩, if_pos (by omega)]
              exact ⟨_, rfl⟩
          · rw [if_neg (fun x => c ((bs_bitI hS (by omega)).mp x))]; exact ⟨_, rfl⟩
        obtain ⟨y, hy⟩ := hst
        obtain ⟨z, hz⟩ := ih (i + 1) (by omega) y
        exact ⟨z, (pj_Lp_st hy).trans hz⟩
    exact key (bs_n Y) 0 (by omega) _
/-- the table is filled -/
theorem o_table (k : bs_ok Y) {x1 x3 : Int} (hT : ∀ u : pj_W, (∀ kk i s, kk ≠ 36 → u kk i s = v kk i s) → pj_wr (u 19 x1 3 + x3) = bs_T Y) (h : bs_pr v Y) : ∃ v', fO_prepare_140 x1 x3 (0, v) = some v' ∧ (∀ kk i s, kk ≠ 36 → v' kk i s = v kk i s) ∧ ∀ S a : Nat, S < 2 ^ bs_n Y → (a < bs_n Y ∨ a = 8) → bs_tv Y S a (bs_tab v' S a) := by
  have hn := k.1
  have h256 : 2 ^ bs_n Y ≤ 256 := Nat.pow_le_pow_right (n := 2) (by decide) hn
  have hpow : pj_shl 1 (bs_n Y : Int) = ((2 ^ bs_n Y : Nat) : Int) := by rw [pj_shl1 (by omega) (by omega), Int.toNat_natCast, pj_pow_cast]
  have inner : ∀ S : Nat, S < 2 ^ bs_n Y → ∀ m a : Nat, a + m = 9 → ∀ u : pj_W, (∀ kk i s, kk ≠ 36 → u kk i s = v kk i s) → (∀ S' a' : Nat, S' < S → (a' < bs_n Y ∨ a' = 8) → bs_tv Y S' a' (bs_tab u S' a')) → (∀ a' : Nat, a' < a → (a' < bs_n Y ∨ a' = 8) → bs_tv Y S a' (bs_tab u S a')) →
      ∃ u', fO_prepare_154 x1 x3 S ((a : Int), u) = some (Sum.inl ((S : Int) + 1, u')) ∧ (∀ kk i s, kk ≠ 36 → u' kk i s = v kk i s) ∧ ∀ S' a' : Nat, S' < S + 1 → (a' < bs_n Y ∨ a' = 8) → bs_tv Y S' a' (bs_tab u' S' a') := by
    intro S hS m
    induction m with
    | zero =>
      intro a ha u hu hd hc
      refine ⟨u, pj_Lp_end ?_, hu, fun S' a' hS' ha' => ?_⟩
      · unfold fO_prepare_154b
        dsimp only
        rw [if_pos (by omega), pj_wri (by omega)]
      · by_cases e : S' = S
        · rw [e]; exact hc a' (by omega) ha'
        · exact hd S' a' (by omega) ha'
    | succ m ih =>
      intro a ha u hu hd hc
      have hp : bs_pr u Y := h.ex (fun s _ _ => hu 17 0 s (by decide)) (fun kk s hk => hu kk 0 s (by omega))
      have hz : ∃ z, fO_latestFor S a (bs_T Y) u = some z ∧ ((a < bs_n Y ∨ a = 8) → bs_tv Y S a z) := by
        by_cases c : a < bs_n Y ∨ a = 8
        · by_cases c0 : S = 0
          · refine ⟨bs_T Y, ?_, fun _ => by rw [c0]; exact bs_tv_0 k a⟩
            unfold fO_latestFor
            rw [if_pos (by omega)]
          · refine ⟨_, o_latest hp k (by omega) c0 c (fun i hi hb => ?_), fun _ => bs_tv_s k hS c0 (fun S' a' hS' ha' => hd S' a' hS' (Or.inl ha'))⟩
            have hB := bs_bit (S := S) (by omega) hb
            have := hd (S - 2 ^ i) i hB.2.2.2.2 (Or.inl hi)
            exact ⟨this.2.1, this.1⟩
        · obtain ⟨z, hz⟩ := o_latest_any hp hn (S := S) (by omega) (a := a) (e := bs_T Y) (by omega) (by omega)
          exact ⟨z, hz, fun x => absurd x c⟩
      obtain ⟨z, ez, tz⟩ := hz
      have hset : ∀ S' a' : Nat, a' < 9 → ¬ (S' = S ∧ a' = a) → bs_tab (pj_set u 36 0 ((S : Int) * 9 + a) z) S' a' = bs_tab u S' a' := fun S' a' h9 hne => by
        unfold bs_tab
        rw [pj_sne (by omega)]
      obtain ⟨u', e, r⟩ := ih (a + 1) (by omega) (pj_set u 36 0 ((S : Int) * 9 + a) z) (fun kk i s hk => by rw [pj_sne (by omega)]; exact hu kk i s hk) (fun S' a' hS' ha' => by rw [hset S' a' (by omega) (by omega)]; exact hd S' a' hS' ha') (fun a' ha1 ha' => by
        by_cases ea : a' = a
        · rw [ea]
          have : bs_tab (pj_set u 36 0 ((S : Int) * 9 + a) z) S a = z := by
            unfold bs_tab
            rw [Int.mul_comm 9, pj_set_at]
          rw [this]
          exact tz (by omega)
        · rw [hset S a' (by omega) (by omega)]; exact hc a' (by omega) ha')
      refine ⟨u', ?_, r⟩
      rw [← e]
      refine pj_Lp_st ?_
      unfold fO_prepare_154b
      dsimp only
      rw [if_neg (by omega), hT u hu, ez, Option.bind_some, pj_wr_id (x := (S : Int) * 9) (by omega) (by omega), pj_wr_id (x := (S : Int) * 9 + a) (by omega) (by omega), if_pos (by omega), pj_wri (by omega)]; rfl
  have outer : ∀ m S : Nat, S + m = 2 ^ bs_n Y → ∀ u : pj_W, (∀ kk i s, kk ≠ 36 → u kk i s = v kk i s) → (∀ S' a' : Nat, S' < S → (a' < bs_n Y ∨ a' = 8) → bs_tv Y S' a' (bs_tab u S' a')) → ∃ v', fO_prepare_140 x1 x3 ((S : Int), u) = some v' ∧ (∀ kk i s, kk ≠ 36 → v' kk i s = v kk i s) ∧ ∀ S a : Nat, S < 2 ^ bs_n Y → (a < bs_n Y ∨ a = 8) → bs_tv Y S a (bs_tab v' S a) := by
    intro m
    induction m with
    | zero =>
      intro S hS u hu hd
      have e7 : u 17 0 7 = (bs_n Y : Int) := (hu 17 0 7 (by decide)).trans h.1.1
      refine ⟨u, pj_Lp_end ?_, hu, fun S' a' hS' ha' => hd S' a' (by omega) ha'⟩
      unfold fO_prepare_140b
      dsimp only
      rw [if_pos (by rw [e7, hpow]; omega)]
    | succ m ih =>
      intro S hS u hu hd
      have e7 : u 17 0 7 = (bs_n Y : Int) := (hu 17 0 7 (by decide)).trans h.1.1
      obtain ⟨u', e, hu', hd'⟩ := inner S (by omega) 9 0 rfl u hu hd (fun a' ha' => by omega)
      obtain ⟨v', e2, r⟩ := ih (S + 1) (by omega) u' hu' hd'
      refine ⟨v', ?_, r⟩
      rw [← e2]
      refine pj_Lp_st ?_
      unfold fO_prepare_140b
      dsimp only
      rw [if_neg (by rw [e7, hpow]; omega)]
      exact e
  exact outer (2 ^ bs_n Y) 0 (by omega) v (fun _ _ _ _ => rfl) (fun S' a' hS' => by omega)
end
