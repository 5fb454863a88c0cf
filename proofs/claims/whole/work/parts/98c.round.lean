/-! ROUNDS, in the class: laid out; sets that fit; the most they are worth -/
section
variable {b : Int} {w : pj_W} {A : pj_Q} {f : Int}
def bs_fr (w v : pj_W) : Prop := ∀ k i s, ¬ (k = 17 ∧ i = 0 ∧ 7 ≤ s ∧ s ≤ 10) → k ≠ 36 → k ≠ 37 → k ≠ 38 → k ≠ 39 → v k i s = w k i s
theorem o_prepare (R : pj_RB b w A) (I : pj_IV A) (hb : 0 ≤ b) (hf : pj_isF A f) {x3 : Int} (hx : 0 ≤ x3) (hx2 : x3 ≤ 240) :
    ∃ v, fO_prepare b f x3 w = some v ∧ bs_pr v (bs_of A f (A 3 + x3)) ∧ (∀ S a : Nat, S < 2 ^ (A 2).toNat → (a < (A 2).toNat ∨ a = 8) → bs_tv (bs_of A f (A 3 + x3)) S a (bs_tab v S a)) ∧ bs_fr w v := by
  have hA := I.1
  have hF := I.2.2.1 f hf.1 hf.2
  have hRF := R.2.1 f hf
  have f0 := hf.1
  have k : bs_ok (bs_of A f (A 3 + x3)) := bs_of_ok I hf (by omega) (by omega)
  unfold fO_prepare
  rw [if_pos hb, xq_finderAt R I, Option.bind_some, if_pos hf, if_neg (by omega), Option.bind_some, Option.bind_some]
  have v0 : ∃ z : pj_W, pj_set (pj_set (pj_set (pj_set (pj_set w 17 0 7 (w 19 b 8)) 17 0 8 (pj_set w 17 0 7 (w 19 b 8) 22 (6 * b + f) 2)) 17 0 9 (pj_set (pj_set w 17 0 7 (w 19 b 8)) 17 0 8 (pj_set w 17 0 7 (w 19 b 8) 22 (6 * b + f) 2) 22 (6 * b + f) 4)) 17 0 10 (pj_set (pj_set (pj_set w 17 0 7 (w 19 b 8)) 17 0 8 (pj_set w 17 0 7 (w 19 b 8) 22 (6 * b + f) 2)) 17 0 9 (pj_set (pj_set w 17 0 7 (w 19 b 8)) 17 0 8 (pj_set w 17 0 7 (w 19 b 8) 22 (6 * b + f) 2) 22 (6 * b + f) 4) 22 (6 * b + f) 3)) 37 0 8 (pj_set (pj_set (pj_set (pj_set w 17 0 7 (w 19 b 8)) 17 0 8 (pj_set w 17 0 7 (w 19 b 8) 22 (6 * b + f) 2)) 17 0 9 (pj_set (pj_set w 17 0 7 (w 19 b 8)) 17 0 8 (pj_set w 17 0 7 (w 19 b 8) 22 (6 * b + f) 2) 22 (6 * b + f) 4)) 17 0 10 (pj_set (pj_set (pj_set w 17 0 7 (w 19 b 8)) 17 0 8 (pj_set w 17 0 7 (w 19 b 8) 22 (6 * b + f) 2)) 17 0 9 (pj_set (pj_set w 17 0 7 (w 19 b 8)) 17 0 8 (pj_set w 17 0 7 (w 19 b 8) 22 (6 * b + f) 2) 22 (6 * b + f) 4) 22 (6 * b + f) 3) 22 (6 * b + f) 1) = z ∧ z 17 0 7 = A 2 ∧ z 17 0 8 = A (10 + 5 * f + 1) ∧ z 17 0 9 = A (10 + 5 * f + 3) ∧ z 17 0 10 = A (10 + 5 * f + 2) ∧ z 37 0 8 = A (10 + 5 * f) ∧ bs_fr w z := by
    refine ⟨_, rfl, ?_, ?_, ?_, ?_, ?_, fun k i s h1 h2 h3 h4 h5 => ?_⟩
    · simp (disch := omega) only [pj_sne, pj_set_at]; exact R.1.2.2.2.2.2.2
    · simp (disch := omega) only [pj_sne, pj_set_at]; exact hRF.2.1
    · simp (disch := omega) only [pj_sne, pj_set_at]; exact hRF.2.2.2.1
    · simp (disch := omega) only [pj_sne, pj_set_at]; exact hRF.2.2.1
    · simp (disch := omega) only [pj_sne, pj_set_at]; exact hRF.1
    · simp (disch := omega) only [pj_sne]
  obtain ⟨z, ez, z7, z8, z9, z10, z37, zf⟩ := v0
  rw [ez]
  clear ez
  have key : ∀ m i : Nat, i + m = (A 2).toNat → ∀ u : pj_W, u 17 0 7 = A 2 → u 17 0 8 = A (10 + 5 * f + 1) → u 17 0 9 = A (10 + 5 * f + 3) → u 17 0 10 = A (10 + 5 * f + 2) → u 37 0 8 = A (10 + 5 * f) → bs_fr w u → (∀ d : Nat, d < i → u 37 0 d = A (40 + 3 * (d : Int)) ∧ u 38 0 d = bs_oo (bs_of A f (A 3 + x3)) d ∧ u 39 0 d = bs_g (bs_of A f (A 3 + x3)) d) →
      ∃ v, fO_prepare_63 b f x3 ((i : Int), u) = some v ∧ bs_pr v (bs_of A f (A 3 + x3)) ∧ (∀ S a : Nat, S < 2 ^ (A 2).toNat → (a < (A 2).toNat ∨ a = 8) → bs_tv (bs_of A f (A 3 + x3)) S a (bs_tab v S a)) ∧ bs_fr w v := by
    intro m
    induction m with
    | zero =>
      intro i hi u u7 u8 u9 u10 u37 uf ud
      have hp : bs_pr u (bs_of A f (A 3 + x3)) := by
        have hcl : ∀ a : Nat, (a < (A 2).toNat ∨ a = 8) → u 37 0 a = bs_cl A f a ∧ 0 ≤ bs_cl A f a ∧ bs_cl A f a < 40 := fun a ha => by
          unfold bs_cl
          by_cases e : a = 8
          · rw [if_pos e, e]; exact ⟨u37, by omega, by omega⟩
          · rw [if_neg e]
            have := I.2.2.2.1 a (by omega) (by omega)
            exact ⟨(ud a (by omega)).1, by omega, by omega⟩
        refine ⟨⟨?_, u9, u10⟩, fun a d ha hd => ?_, fun d hd => (ud d (show d < i by rw [show i = (A 2).toNat by omega]; exact hd)).2⟩
        · show u 17 0 7 = (((A 2).toNat : Nat) : Int)
          rw [u7]; omega
        · have ha' : a < (A 2).toNat ∨ a = 8 := ha
          have hd' : d < (A 2).toNat := hd
          have c1 := hcl a ha'
          have c2 := hcl d (Or.inl hd')
          have e2 : bs_cl A f d = A (40 + 3 * (d : Int)) := by unfold bs_cl; rw [if_neg (by omega)]
          show _ = (if (a < (A 2).toNat ∨ a = 8) ∧ d < (A 2).toNat then _ else (0 : Int))
          rw [if_pos ⟨ha', hd'⟩, u8, c1.1, c2.1, pj_wr_id (x := bs_cl A f a - bs_cl A f d) (by omega) (by omega), e2]
          rw [e2] at c2
          have := bs_abs_mul hF.2.2.1 hF.2.2.2.1 c1.2.1 c1.2.2 c2.2.1 c2.2.2
          exact pj_wr_id (by omega) (by omega)
      obtain ⟨v, e, hv, ht⟩ := o_table k (x1 := b) (x3 := x3) (v := u) (fun u' hu' => by
        rw [hu' 19 b 3 (by decide), uf 19 b 3 (by omega) (by decide) (by decide) (by decide) (by decide), R.1.2.1]
        exact pj_wr_id (by omega) (by omega)) hp
      refine ⟨v, ?_, hp.ex (fun s _ _ => hv 17 0 s (by decide)) (fun kk s hk => hv kk 0 s (by omega)), ht, fun kk j s h1 h2 h3 h4 h5 => (hv kk j s h2).trans (uf kk j s h1 h2 h3 h4 h5)⟩
      refine pj_Lp_end ?_
      unfold fO_prepare_63b
      dsimp only
      rw [if_pos (by omega), e]; rfl
    | succ m ih =>
      intro i hi u u7 u8 u9 u10 u37 uf ud
      have hd : pj_isD A (i : Int) := ⟨by omega, by omega⟩
      have hRu : pj_RB b u A := R.ex I (fun kk j s hk => uf kk j s (by unfold pj_in at hk; omega) (by unfold pj_in at hk; omega) (by unfold pj_in at hk; omega) (by unfold pj_in at hk; omega) (by unfold pj_in at hk; omega))
      have hRD := hRu.2.2.1 i hd
      have e4 : pj_set u 37 0 i (u 23 (8 * b + i) 3) 23 (8 * b + i) 4 = A (40 + 3 * (i : Int) + 1) := by rw [pj_sne (by omega)]; exact hRD.2.1
      have e5 : pj_set (pj_set u 37 0 i (u 23 (8 * b + i) 3)) 39 0 i (A (40 + 3 * (i : Int) + 1)) 23 (8 * b + i) 5 = u 23 (8 * b + i) 5 := by rw [pj_sne (by omega), pj_sne (by omega)]
      have hR4 : pj_RB b (pj_set (pj_set u 37 0 i (u 23 (8 * b + i) 3)) 39 0 i (A (40 + 3 * (i : Int) + 1))) A := hRu.ex I (fun kk j s hk => by unfold pj_in at hk; rw [pj_sne (by omega), pj_sne (by omega)])
      have hoo : bs_oo (bs_of A f (A 3 + x3)) i = if pj_there A i then pj_bhd A f i else 1000000 := by
        unfold bs_oo
        show (if decide (pj_there A (i : Int)) = true then (if i < (A 2).toNat then pj_bhd A f i else 0) else 1000000) = _
        rw [if_pos (show i < (A 2).toNat by omega)]
        by_cases c : pj_there A i
        · rw [if_pos c, if_pos (decide_eq_true c)]
        · rw [if_neg c, if_neg (by rw [decide_eq_true_eq]; exact c)]
      have hg : bs_g (bs_of A f (A 3 + x3)) i = A (40 + 3 * (i : Int) + 1) := if_pos (by omega)
      obtain ⟨v, e, r⟩ := ih (i + 1) (by omega) (pj_set (pj_set (pj_set u 37 0 i (u 23 (8 * b + i) 3)) 39 0 i (A (40 + 3 * (i : Int) + 1))) 38 0 i (if pj_there A i then pj_bhd A f i else 1000000))
        (by rw [pj_sne (by omega), pj_sne (by omega), pj_sne (by omega)]; exact u7) (by rw [pj_sne (by omega), pj_sne (by omega), pj_sne (by omega)]; exact u8) (by rw [pj_sne (by omega), pj_sne (by omega), pj_sne (by omega)]; exact u9) (by rw [pj_sne (by omega), pj_sne (by omega), pj_sne (by omega)]; exact u10) (by rw [pj_sne (by omega), pj_sne (by omega), pj_sne (by omega)]; exact u37)
        (fun kk j s h1 h2 h3 h4 h5 => by rw [pj_sne (by omega), pj_sne (by omega), pj_sne (by omega)]; exact uf kk j s h1 h2 h3 h4 h5)
        (fun d hd' => by
          by_cases c : d = i
          · rw [c, pj_sne (by omega), pj_sne (by omega), pj_set_at, pj_set_at, pj_sne (by omega), pj_set_at, hoo, hg]
            exact ⟨hRD.1, rfl, rfl⟩
          · rw [pj_sne (by omega), pj_sne (by omega), pj_sne (by omega), pj_sne (by omega), pj_sne (by omega), pj_sne (by omega), pj_sne (by omega), pj_sne (by omega), pj_sne (by omega)]
            exact ud d (by omega))
      refine ⟨v, ?_, r⟩
      rw [← e]
      refine pj_Lp_st ?_
      unfold fO_prepare_63b fO_prepare_130
      dsimp only
      rw [if_neg (by omega), if_pos (by omega), if_pos (by omega), e4, Option.bind_some, pj_wri (by omega)]
      by_cases c : pj_there A i
      · rw [if_pos c, if_neg (by rw [e5]; exact fun x => (hRu.th hd).mp x c), xq_behindOthers hR4 I f hd, Option.bind_some, if_pos (by omega)]; rfl
      · rw [if_neg c, if_pos (by rw [e5]; exact (hRu.th hd).mpr c), if_pos (by omega)]; rfl
  exact key (A 2).toNat 0 (by omega) z z7 z8 z9 z10 z37 zf (fun d hd => by omega)
end
/-- a set that fits -/
abbrev bs_fit (Y : bs_Y) (tab : Nat → Nat → Int) (S : Nat) : Prop := pj_pc (S : Int) ≤ bs_H Y ∧ bs_t Y ≤ tab S 8
theorem bs_x_0 {Y : bs_Y} (k : bs_ok Y) (s : List Nat) : bs_x Y [] s ↔ (∀ x ∈ s, x < bs_n Y) ∧ s.Nodup ∧ (s.length : Int) ≤ bs_H Y ∧ bs_c Y 8 (bs_t Y) s := by
  have hH := k.2.2.2.2.2.2.2.1
  refine (bs_x_iff k s [] k.2.2.2.2.2.2.1).trans ⟨fun h => ⟨h.1, h.2.1, ?_, h.2.2.2.2⟩, fun h => ⟨h.1, h.2.1, fun x _ => List.not_mem_nil, ?_, h.2.2.2⟩⟩
  · rcases h.2.2.2.1 with e | e
    · rw [e]; exact hH
    · simp only [List.length_nil] at e; omega
  · right
    simp only [List.length_nil]; omega
theorem bs_set_of {n : Nat} (hn : n ≤ 8) {l : List Nat} (h : l.Nodup) (hl : ∀ x ∈ l, x < n) : ∃ S, S < 2 ^ n ∧ bs_st S l := by
  induction l with
  | nil => exact ⟨0, Nat.two_pow_pos n, bs_st_nil.mpr rfl⟩
  | cons d l ih =>
    have hn' := List.nodup_cons.mp h
    obtain ⟨S, hS, h1, h2⟩ := ih hn'.2 (fun x hx => hl x (List.mem_cons.mpr (Or.inr hx)))
    have hd := hl d (List.mem_cons.mpr (Or.inl rfl))
    refine ⟨S ||| 2 ^ d, Nat.or_lt_two_pow hS (Nat.pow_lt_pow_right (by decide) hd), h, fun j => ?_⟩
    rw [Nat.testBit_or, Nat.testBit_two_pow, Bool.or_eq_true, h2, decide_eq_true_eq, List.mem_cons]
    constructor
    · rintro (e | e)
      · exact Or.inr e
      · exact Or.inl e.symm
    · rintro (e | e)
      · exact Or.inr e.symm
      · exact Or.inl e
section
variable {Y : bs_Y} {tab : Nat → Nat → Int}
theorem bs_w_in (k : bs_ok Y) (l : List Nat) : 0 ≤ bs_w Y l ∧ bs_w Y l ≤ 999 * l.length := by
  induction l with
  | nil => exact ⟨Int.le_refl _, by simp [bs_w]⟩
  | cons d l ih =>
    have := k.2.2.2.2.2.2.2.2 d
    rw [bs_w_cons, List.length_cons]
    omega
theorem bs_fit_1 (k : bs_ok Y) (h : ∀ S' a', S' < 2 ^ bs_n Y → a' < bs_n Y ∨ a' = 8 → bs_tv Y S' a' (tab S' a')) {S : Nat} (hS : S < 2 ^ bs_n Y) (hf : bs_fit Y tab S) : ∃ s, bs_x Y [] s ∧ bs_st S s ∧ bs_ws Y S (bs_n Y) = bs_w Y s ∧ pj_pc (S : Int) = s.length := by
  have h256 : 2 ^ bs_n Y ≤ 256 := Nat.pow_le_pow_right (n := 2) (by decide) k.1
  obtain ⟨s, s1, s2, s3⟩ := ((h S 8 hS (Or.inr rfl)).2.2 (bs_t Y) k.2.2.2.2.2.1).mp hf.2
  have hpc := bs_st_pc (S := S) (by omega) s1
  exact ⟨s, (bs_x_0 k s).mpr ⟨s2, s1.1, by have := hf.1; omega, s3⟩, s1, bs_st_w (by omega) s1 s2, hpc⟩
theorem bs_fit_2 (k : bs_ok Y) (h : ∀ S' a', S' < 2 ^ bs_n Y → a' < bs_n Y ∨ a' = 8 → bs_tv Y S' a' (tab S' a')) {s : List Nat} (hs : bs_x Y [] s) : ∃ S, S < 2 ^ bs_n Y ∧ bs_st S s ∧ bs_fit Y tab S ∧ bs_ws Y S (bs_n Y) = bs_w Y s ∧ pj_pc (S : Int) = s.length := by
  have h256 : 2 ^ bs_n Y ≤ 256 := Nat.pow_le_pow_right (n := 2) (by decide) k.1
  obtain ⟨x1, x2, x3, x4⟩ := (bs_x_0 k s).mp hs
  obtain ⟨S, hS, h1⟩ := bs_set_of k.1 x2 x1
  have hpc := bs_st_pc (S := S) (by omega) h1
  exact ⟨S, hS, h1, ⟨by omega, ((h S 8 hS (Or.inr rfl)).2.2 (bs_t Y) k.2.2.2.2.2.1).mpr ⟨s, h1, x1, x4⟩⟩, bs_st_w (by omega) h1 x1, hpc⟩
theorem bs_B_len (k : bs_ok Y) : (bs_B Y).length ≤ bs_n Y := by
  have := (bs_x_0 k _).mp (bs_B_sp Y k.1).1
  exact bs_nodup_len this.2.1 this.1
/-- none is worth more; of these none has fewer -/
theorem bs_B_max (k : bs_ok Y) {s : List Nat} (hs : bs_x Y [] s) : bs_w Y s ≤ bs_w Y (bs_B Y) ∧ (bs_w Y s = bs_w Y (bs_B Y) → (bs_B Y).length ≤ s.length ∧ (s.length = (bs_B Y).length → bs_lx (bs_B Y) s)) := by
  have hn := k.1
  obtain ⟨h1, h2, h3⟩ := bs_B_sp Y hn
  have hl := bs_B_len k
  have x := (bs_x_0 k s).mp hs
  have hsl := bs_nodup_len x.2.1 x.1
  have hk := h2 s hs
  unfold bs_ky at hk
  refine ⟨by omega, fun e => ⟨by omega, fun e2 => ?_⟩⟩
  rcases h3 with h3 | h3
  · rw [h3]; trivial
  · exact h3 s hs (by unfold bs_ky; omega)
variable {v : pj_W}
theorem o_fits (h : bs_pr v Y) (hn : bs_n Y ≤ 8) {S : Nat} (hS : S < 256) : fO_fits S v = some (if bs_fit Y (bs_tab v) S then 1 else 0) := by
  unfold fO_fits
  rw [xq_bitCount (by omega) (by omega), Option.bind_some, h.1.2.2, h.1.2.1, pj_wr_id (x := (S : Int) * 9) (by omega) (by omega), pj_wr_id (x := (S : Int) * 9 + 8) (by omega) (by omega), show v 36 0 ((S : Int) * 9 + 8) = bs_tab v S 8 by unfold bs_tab; rw [Int.mul_comm]; rfl]
  by_cases c1 : bs_H Y < pj_pc (S : Int)
  · rw [if_pos c1, if_neg (fun x => by have := x.1; omega)]
  · rw [if_neg c1, if_pos (by omega)]
    by_cases c2 : bs_tab v S 8 < bs_t Y
    · rw [if_pos c2, if_neg (fun x => by have := x.2; omega)]
    · rw [if_neg c2, if_pos ⟨by omega, by omega⟩]
theorem o_worth (h : bs_pr v Y) (k : bs_ok Y) {S : Nat} (hS : S < 256) : fO_worthOf S v = some (bs_ws Y S (bs_n Y)) := by
  have hn := k.1
  have hin : ∀ i : Nat, 0 ≤ bs_ws Y S i ∧ bs_ws Y S i ≤ 999 * i := fun i => pj_sum_in (fun j _ => by
    have := k.2.2.2.2.2.2.2.2 j
    split <;> omega)
  unfold fO_worthOf
  have hl := pj_Lp_fo (body := fun s : (Int × Int) => fO_worthOf_4b S v s.1 s.2) (r := bs_ws Y S (bs_n Y)) (fun i => (bs_ws Y S i, (i : Int))) (bs_n Y) (fun i hi => ?_) ?_
  · exact hl
  · show fO_worthOf_4b S v (bs_ws Y S i) i = some (Sum.inl (bs_ws Y S i + (if S.testBit i then bs_g Y i else 0), _))
    have h1 := hin i
    have h2 := k.2.2.2.2.2.2.2.2 i
    unfold fO_worthOf_4b fO_worthOf_30
    rw [h.1.1, if_neg (by omega), pj_wri (by omega)]
    by_cases c : S.testBit i = true
    · rw [if_pos ((bs_bitI hS (by omega)).mpr c), if_pos (by omega), (h.2.2 i hi).2, if_pos c, pj_wr_id (x := bs_ws Y S i + bs_g Y i) (by omega) (by omega)]; rfl
    · rw [if_neg (fun x => c ((bs_bitI hS (by omega)).mp x)), if_neg c, Int.add_zero]; rfl
  · show fO_worthOf_4b S v (bs_ws Y S (bs_n Y)) ((bs_n Y : Nat) : Int) = _
    unfold fO_worthOf_4b
    rw [h.1.1, if_pos (Int.le_refl _)]
theorem o_pow (hn : bs_n Y ≤ 8) : pj_shl 1 (bs_n Y : Int) = ((2 ^ bs_n Y : Nat) : Int) := by rw [pj_shl1 (by omega) (by omega), Int.toNat_natCast, pj_pow_cast]
/-- the most that a set that fits is worth -/
theorem o_best (h : bs_pr v Y) (k : bs_ok Y) (ht : ∀ S' a', S' < 2 ^ bs_n Y → a' < bs_n Y ∨ a' = 8 → bs_tv Y S' a' (bs_tab v S' a')) : fO_bestWorth v = some (bs_w Y (bs_B Y)) := by
  have hn := k.1
  have h256 : 2 ^ bs_n Y ≤ 256 := Nat.pow_le_pow_right (n := 2) (by decide) hn
  have hpw := o_pow (Y := Y) hn
  have hB := bs_w_in k (bs_B Y)
  have hx := (bs_B_sp Y hn).1
  obtain ⟨S0, s0, s1, s2, s3, s4⟩ := bs_fit_2 (tab := bs_tab v) k ht hx
  have key : ∀ m S : Nat, S + m = 2 ^ bs_n Y → ∀ z : Int, 0 ≤ z → z ≤ bs_w Y (bs_B Y) → (S0 < S → z = bs_w Y (bs_B Y)) → fO_bestWorth_4 v (z, (S : Int)) = some (bs_w Y (bs_B Y)) := by
    intro m
    induction m with
    | zero =>
      intro S hS z z0 z1 zB
      have : z = bs_w Y (bs_B Y) := zB (by omega)
      refine pj_Lp_end ?_
      unfold fO_bestWorth_4b
      dsimp only
      rw [if_pos (by rw [h.1.1, hpw]; omega), this]
    | succ m ih =>
      intro S hS z z0 z1 zB
      have hS' : S < 256 := by omega
      by_cases c : bs_fit Y (bs_tab v) S
      · obtain ⟨s, x1, x2, x3, x4⟩ := bs_fit_1 k ht (S := S) (by omega) c
        have hm := (bs_B_max k x1).1
        have := ih (S + 1) (by omega) (max z (bs_ws Y S (bs_n Y))) (by omega) (by omega) (fun hlt => by
          by_cases e : S0 = S
          · rw [← e, s3]; omega
          · rw [zB (by omega)]; omega)
        rw [← this]
        refine pj_Lp_st ?_
        unfold fO_bestWorth_4b fO_bestWorth_32
        dsimp only
        rw [if_neg (by rw [h.1.1, hpw]; omega), o_fits h hn hS', if_pos c, Option.bind_some, if_neg (by decide), o_worth h k hS', Option.bind_some, pj_wri (by omega)]; rfl
      · have := ih (S + 1) (by omega) z z0 z1 (fun hlt => by
          by_cases e : S0 = S
          · exact absurd (e ▸ s2) c
          · exact zB (by omega))
        rw [← this]
        refine pj_Lp_st ?_
        unfold fO_bestWorth_4b fO_bestWorth_32
        dsimp only
        rw [if_neg (by rw [h.1.1, hpw]; omega), o_fits h hn hS', if_neg c, Option.bind_some, if_pos rfl, pj_wri (by omega)]; rfl
  exact key (2 ^ bs_n Y) 0 (by omega) 0 (by omega) hB.1 (fun x => by omega)
theorem o_fewest (h : bs_pr v Y) (k : bs_ok Y) (ht : ∀ S' a', S' < 2 ^ bs_n Y → a' < bs_n Y ∨ a' = 8 → bs_tv Y S' a' (bs_tab v S' a')) : fO_fewestFor (bs_w Y (bs_B Y)) v = some ((bs_B Y).length : Int) := by
  have hn := k.1
  have h256 : 2 ^ bs_n Y ≤ 256 := Nat.pow_le_pow_right (n := 2) (by decide) hn
  have hpw := o_pow (Y := Y) hn
  have hl := bs_B_len k
  have hx := (bs_B_sp Y hn).1
  obtain ⟨S0, s0, s1, s2, s3, s4⟩ := bs_fit_2 (tab := bs_tab v) k ht hx
  have key : ∀ m S : Nat, S + m = 2 ^ bs_n Y → ∀ z : Int, ((bs_B Y).length : Int) ≤ z → z ≤ 8 → (S0 < S → z = ((bs_B Y).length : Int)) → fO_fewestFor_7 (bs_w Y (bs_B Y)) v (z, (S : Int)) = some ((bs_B Y).length : Int) := by
    intro m
    induction m with
    | zero =>
      intro S hS z z0 z1 zB
      have : z = ((bs_B Y).length : Int) := zB (by omega)
      refine pj_Lp_end ?_
      unfold fO_fewestFor_7b
      dsimp only
      rw [if_pos (by rw [h.1.1, hpw]; omega), this]
    | succ m ih =>
      intro S hS z z0 z1 zB
      have hS' : S < 256 := by omega
      have hgo : ∀ z' : Int, fO_fewestFor_7b (bs_w Y (bs_B Y)) v z S = some (Sum.inl (z', ((S + 1 : Nat) : Int))) → ((bs_B Y).length : Int) ≤ z' → z' ≤ 8 → (S0 < S + 1 → z' = ((bs_B Y).length : Int)) → fO_fewestFor_7 (bs_w Y (bs_B Y)) v (z, (S : Int)) = some ((bs_B Y).length : Int) := fun z' e q0 q1 q2 => (pj_Lp_st e).trans (ih (S + 1) (by omega) z' q0 q1 q2)
      by_cases c : bs_fit Y (bs_tab v) S
      · obtain ⟨s, x1, x2, x3, x4⟩ := bs_fit_1 k ht (S := S) (by omega) c
        have hm := bs_B_max k x1
        by_cases c2 : bs_ws Y S (bs_n Y) = bs_w Y (bs_B Y)
        · have hm2 := (hm.2 (by omega)).1
          refine hgo (min z (pj_pc (S : Int))) ?_ (by omega) (by omega) (fun hlt => ?_)
          · unfold fO_fewestFor_7b fO_fewestFor_43
            rw [if_neg (by rw [h.1.1, hpw]; omega), o_fits h hn hS', if_pos c, Option.bind_some, if_neg (by decide), o_worth h k hS', Option.bind_some, if_pos c2, xq_bitCount (by omega) (by omega), Option.bind_some, pj_wri (by omega)]; rfl
          · by_cases e : S0 = S
            · rw [← e, s4]; omega
            · rw [zB (by omega)]; omega
        · refine hgo z ?_ z0 z1 (fun hlt => ?_)
          · unfold fO_fewestFor_7b fO_fewestFor_43
            rw [if_neg (by rw [h.1.1, hpw]; omega), o_fits h hn hS', if_pos c, Option.bind_some, if_neg (by decide), o_worth h k hS', Option.bind_some, if_neg c2, pj_wri (by omega)]; rfl
          · by_cases e : S0 = S
            · exact absurd (e ▸ s3) c2
            · exact zB (by omega)
      · refine hgo z ?_ z0 z1 (fun hlt => ?_)
        · unfold fO_fewestFor_7b fO_fewestFor_43
          rw [if_neg (by rw [h.1.1, hpw]; omega), o_fits h hn hS', if_neg c, Option.bind_some, if_pos rfl, pj_wri (by omega)]; rfl
        · by_cases e : S0 = S
          · exact absurd (e ▸ s2) c
          · exact zB (by omega)
  unfold fO_fewestFor
  rw [h.1.1]
  exact key (2 ^ bs_n Y) 0 (by omega) _ (by omega) (by omega) (fun x => by omega)
end
