/-! THE TIDE AND THE DAWN, in the class -/
theorem q_up_self (A : pj_Q) (x : Int) : q_up A x (A x) = A := by
  funext y
  unfold q_up
  split
  · rename_i h; rw [h]
  · rfl
theorem q_giv_0 {g : Nat → Int} {n : Nat} {B : pj_Q} (h : ∀ f, f < n → g f = 0) : q_giv g n B = B := by
  induction n with
  | zero => rfl
  | succ n ih =>
    show q_up (q_giv g n B) _ (q_giv g n B _ + g n) = B
    rw [ih (fun f hf => h f (by omega)), h n (by omega), Int.add_zero, q_up_self]
section
variable {b : Int} {w : pj_W} {A : pj_Q}
theorem xc_give {v : pj_W} {B : pj_Q} (R : pj_RB b v B) (hb : 0 ≤ b) {s x1 : Int} {g : Nat → Int} (h1 : 0 ≤ B 1) (h16 : B 1 ≤ 6) (hs : 0 ≤ s) (hs2 : s < 64) (hx : 0 ≤ x1) (hx2 : x1 ≤ 999)
    (hg : ∀ f : Nat, (f : Int) < B 1 → g f = (if pj_and (pj_shr s f) 1 = 1 then x1 / pj_pc s else 0)) (hg2 : ∀ f : Nat, (f : Int) < B 1 → 0 ≤ g f ∧ g f ≤ 999) (hk : ∀ f : Nat, (f : Int) < B 1 → 0 ≤ B (10 + 5 * (f : Int) + 4) ∧ B (10 + 5 * (f : Int) + 4) ≤ 1000000) :
    ∃ v', fB_give b x1 s v = some v' ∧ pj_RB b v' (q_giv g (B 1).toNat B) ∧ pj_fr b v v' ∧ (∀ k i t, k ≠ 22 → v' k i t = v k i t) := by
  have hp := pj_pc_in hs (by omega : s < 256)
  unfold fB_give
  rw [xq_bitCount hs (by omega), Option.bind_some]
  by_cases c0 : pj_pc s = 0
  · have e0 := hp.2.2.mp c0
    have hz : ∀ f : Nat, f < (B 1).toNat → g f = 0 := fun f hf => by
      rw [hg f (by omega), if_neg (fun x => by have := pj_bit_pc hs (by omega : s < 256) (f := f) (by omega) (by omega) x; omega)]
    rw [q_giv_0 hz]
    refine ⟨v, ?_, R, pj_fr.refl b v, fun _ _ _ _ => rfl⟩
    refine pj_Lp_end ?_
    unfold fB_give_8b
    dsimp only
    have h7 := R.1.2.2.2.2.2.1
    by_cases c1 : B 1 ≤ 0
    · rw [if_pos (by omega)]
    · rw [if_neg (by omega), if_pos (by omega)]
  · have key : ∀ m i : Nat, ∀ u : pj_W, (i : Int) + m = B 1 → pj_RB b u (q_giv g i B) → pj_fr b v u → (∀ k i t, k ≠ 22 → u k i t = v k i t) → ∃ v', fB_give_8 b x1 s (pj_pc s) ((i : Int), u) = some v' ∧ pj_RB b v' (q_giv g (B 1).toNat B) ∧ pj_fr b v v' ∧ (∀ k i t, k ≠ 22 → v' k i t = v k i t) := by
      intro m
      induction m with
      | zero =>
        intro i u hi Ru fu hu
        have hn : (B 1).toNat = i := by omega
        have h7 : u 19 b 7 = B 1 := Ru.1.2.2.2.2.2.1.trans (q_giv_ne (fun f _ => by omega))
        rw [hn]
        refine ⟨u, ?_, Ru, fu, hu⟩
        refine pj_Lp_end ?_
        unfold fB_give_8b
        dsimp only
        rw [if_pos (by omega)]
      | succ m ih =>
        intro i u hi Ru fu hu
        have e1 : q_giv g i B 1 = B 1 := q_giv_ne (fun f _ => by omega)
        have h7 : u 19 b 7 = B 1 := Ru.1.2.2.2.2.2.1.trans e1
        have ek : q_giv g i B (10 + 5 * (i : Int) + 4) = B (10 + 5 * (i : Int) + 4) := q_giv_ne (fun f _ => by omega)
        have hsu : q_giv g (i + 1) B = q_up (q_giv g i B) (10 + 5 * (i : Int) + 4) (q_giv g i B (10 + 5 * (i : Int) + 4) + g i) := rfl
        have a1 := hg i (by omega)
        have a2 := hg2 i (by omega)
        have a3 := hk i (by omega)
        have hf : pj_isF (q_giv g i B) (i : Int) := ⟨by omega, by rw [e1]; omega⟩
        have hRF := Ru.2.1 i hf
        by_cases cb : pj_and (pj_shr s i) 1 = 1
        · rw [if_pos cb] at a1
          obtain ⟨v', e, r⟩ := ih (i + 1) (pj_set u 22 (6 * b + i) 5 (u 22 (6 * b + i) 5 + g i)) (by omega) (by
            rw [hsu]
            refine Ru.fin hf (by rw [e1]; omega) (fun x hx => q_up_ne _ _ (by omega)) (fun k j t hk h1 h2 => ?_) ?_
            · unfold pj_set; rw [if_neg (by omega)]
            · rw [q_up_at, q_up_ne _ _ (by omega), q_up_ne _ _ (by omega), q_up_ne _ _ (by omega), q_up_ne _ _ (by omega)]
              unfold pj_set
              simp only [true_and, show (1 : Int) ≠ 5 by decide, show (2 : Int) ≠ 5 by decide, show (3 : Int) ≠ 5 by decide, show (4 : Int) ≠ 5 by decide, and_false, if_false, if_true]
              exact ⟨hRF.1, hRF.2.1, hRF.2.2.1, hRF.2.2.2.1, by rw [hRF.2.2.2.2]⟩) (fu.set _ _ (Or.inr (Or.inl ⟨rfl, by omega, by omega⟩))) (fun k j t hk => by unfold pj_set; rw [if_neg (by omega)]; exact hu k j t hk)
          refine ⟨v', ?_, r⟩
          rw [← e]
          refine pj_Lp_st ?_
          unfold fB_give_8b fB_give_49
          dsimp only
          have h5 : u 22 (6 * b + i) 5 = B (10 + 5 * (i : Int) + 4) := hRF.2.2.2.2.trans ek
          rw [if_neg (by omega), if_neg (by omega), if_pos cb, if_pos (by omega), if_pos (by omega), pj_div_id (by omega) (by omega) (by omega), ← a1, pj_wri (by omega), pj_wr_id (x := u 22 (6 * b + i) 5 + g i) (by omega) (by omega)]; rfl
        · rw [if_neg cb] at a1
          obtain ⟨v', e, r⟩ := ih (i + 1) u (by omega) (by rw [hsu, a1, Int.add_zero, q_up_self]; exact Ru) fu hu
          refine ⟨v', ?_, r⟩
          rw [← e]
          refine pj_Lp_st ?_
          unfold fB_give_8b fB_give_49
          dsimp only
          rw [if_neg (by omega), if_neg (by omega), if_neg cb, pj_wri (by omega)]; rfl
    exact key (B 1).toNat 0 v (by omega) R (pj_fr.refl b v) (fun _ _ _ _ => rfl)
/-- how many of a finder's pebbles lie, by the finds' cells alone -/
theorem xq_strewn_by {v : pj_W} (I : pj_IV A) (f : Int) (h8 : v 19 b 8 = A 2) (h6 : ∀ d : Int, pj_isD A d → v 23 (8 * b + d) 6 = pj_many A d) (h45 : ∀ d k : Int, pj_isD A d → 0 ≤ k → k < pj_many A d → v 45 (8 * b + d) k = pj_who A d k) : fB_strewnBy b f v = some (pj_strewn A f) := by
  have hA := I.1
  unfold fB_strewnBy pj_strewn
  refine pj_Lp_sum (fun d : Nat => pj_tal A f d) (A 2).toNat 60 (fun i hi => by have := pj_tal_in I f (d := (i : Int)) (by omega) (by omega); omega) (by omega) (by omega) (by omega) (fun i hi a => ?_) ?_
  · show fB_strewnBy_4b b f v a i = _
    have hd : pj_isD A (i : Int) := ⟨by omega, by omega⟩
    have hD := I.2.2.2.1 i hd.1 hd.2
    have ht : fN_tallyOf (8 * b + i) f v = some (pj_tal A f i) := by
      unfold fN_tallyOf pj_tal
      refine pj_Lp_cnt (fun k : Nat => pj_who A i k = f) (pj_many A i).toNat (by omega) (fun j hj a => ?_) ?_
      · show fN_tallyOf_4b (8 * b + i) f v a j = _
        have hK := h45 i j hd (by omega) (by omega)
        unfold fN_tallyOf_4b fN_tallyOf_25
        rw [h6 i hd, if_neg (by omega), if_pos (by omega), hK, pj_wri (by omega)]
      · show fN_tallyOf_4b (8 * b + i) f v _ _ = _
        unfold fN_tallyOf_4b
        rw [h6 i hd, if_pos (by omega)]
    unfold fB_strewnBy_4b
    rw [h8, if_neg (by omega), if_pos (by omega), ht, Option.bind_some, pj_wri (by omega)]
  · show fB_strewnBy_4b b f v _ _ = _
    unfold fB_strewnBy_4b
    rw [h8, if_pos (by omega)]
def x_col (w : pj_W) (b : Int) (A : pj_Q) (n : Int) : pj_W := fun k i s => if k = 22 ∧ 6 * b ≤ i ∧ i < 6 * b + n ∧ s = 4 then 0 else if k = 22 ∧ 6 * b ≤ i ∧ i < 6 * b + n ∧ s = 3 then w k i s + pj_strewn A (i - 6 * b) else w k i s
def x_gon (w : pj_W) (b : Int) (n : Int) : pj_W := fun k i s => if k = 23 ∧ 8 * b ≤ i ∧ i < 8 * b + n ∧ (s = 5 ∨ s = 6) then 0 else w k i s
theorem x_col_st (w : pj_W) (b : Int) (A : pj_Q) {n : Int} (hn : 0 ≤ n) : pj_set (pj_set (x_col w b A n) 22 (6 * b + n) 3 (x_col w b A n 22 (6 * b + n) 3 + pj_strewn A n)) 22 (6 * b + n) 4 0 = x_col w b A (n + 1) := by
  funext k i s
  unfold pj_set
  by_cases h1 : k = 22 ∧ i = 6 * b + n ∧ s = 4
  · rw [if_pos h1]
    unfold x_col
    rw [if_pos (by omega)]
  · rw [if_neg h1]
    by_cases h2 : k = 22 ∧ i = 6 * b + n ∧ s = 3
    · rw [if_pos h2]
      obtain ⟨rfl, rfl, rfl⟩ := h2
      unfold x_col
      rw [if_neg (by omega), if_neg (by omega), if_neg (by omega), if_pos (by omega), show 6 * b + n - 6 * b = n by omega]
    · rw [if_neg h2]
      unfold x_col
      by_cases h3 : k = 22 ∧ 6 * b ≤ i ∧ i < 6 * b + n ∧ s = 4
      · rw [if_pos h3, if_pos (by omega)]
      · rw [if_neg h3, if_neg (show ¬ (k = 22 ∧ 6 * b ≤ i ∧ i < 6 * b + (n + 1) ∧ s = 4) by omega)]
        by_cases h4 : k = 22 ∧ 6 * b ≤ i ∧ i < 6 * b + n ∧ s = 3
        · rw [if_pos h4, if_pos (by omega)]
        · rw [if_neg h4, if_neg (by omega)]
theorem x_gon_st (w : pj_W) (b : Int) {n : Int} (hn : 0 ≤ n) : pj_set (pj_set (x_gon w b n) 23 (8 * b + n) 5 0) 23 (8 * b + n) 6 0 = x_gon w b (n + 1) := by
  funext k i s
  unfold pj_set x_gon
  by_cases h1 : k = 23 ∧ i = 8 * b + n ∧ s = 6
  · rw [if_pos h1, if_pos (by omega)]
  · rw [if_neg h1]
    by_cases h2 : k = 23 ∧ i = 8 * b + n ∧ s = 5
    · rw [if_pos h2, if_pos (by omega)]
    · rw [if_neg h2]
      by_cases h3 : k = 23 ∧ 8 * b ≤ i ∧ i < 8 * b + n ∧ (s = 5 ∨ s = 6)
      · rw [if_pos h3, if_pos (by omega)]
      · rw [if_neg h3, if_neg (by omega)]
theorem x_col_0 (w : pj_W) (b : Int) (A : pj_Q) : x_col w b A 0 = w := by
  funext k i s
  unfold x_col
  rw [if_neg (by omega), if_neg (by omega)]
theorem x_gon_0 (w : pj_W) (b : Int) : x_gon w b 0 = w := by
  funext k i s
  unfold x_gon
  rw [if_neg (by omega)]
theorem xc_comeTide (R : pj_RB b w A) (I : pj_IV A) (K : pj_IK A) (hb : 0 ≤ b) : ∃ w', fB_comeTide b w = some ((q_tide A).1, w') ∧ pj_dB b w w' (q_tide A) := by
  have hA := I.1
  unfold fB_comeTide q_tide
  rw [R.1.2.2.2.2.1]
  by_cases c1 : A 6 = 99
  · rw [if_neg (by omega), if_pos c1]
    exact ⟨w, rfl, pj_dB.no R 4 (by decide)⟩
  rw [if_pos (by omega), if_neg c1, xq_thereSet R I, Option.bind_some]
  by_cases c2 : A 7 = 0
  · rw [if_pos c2, if_pos c2]
    exact ⟨w, rfl, pj_dB.no R 7 (by decide)⟩
  rw [if_neg c2, if_neg c2]
  have key : ∀ m i : Nat, ∀ v : pj_W, (i : Int) + m = A 2 → pj_RB b v (q_fl1 A i) → pj_fr b w v → (∀ k i t, k ≠ 22 → v k i t = w k i t) → ∃ w', fB_comeTide_23 b ((i : Int), v) = some (0, w') ∧ pj_dB b w w' (0, A 6 + 1, q_floods A) := by
    intro m
    induction m with
    | zero =>
      intro i v hi Rv fv hv
      have hn : (A 2).toNat = i := by omega
      have hkp : ∀ x, 0 ≤ x → x < 1024 → x ≠ 9 → (x < 10 ∨ 40 ≤ x ∨ x % 5 ≠ 4) → q_fl1 A i x = A x := fun x h0 h1 h2 h3 => q_fl1_kp x h0 h1 h2 h3 (by omega)
      have v8 : v 19 b 8 = A 2 := (hv 19 b 8 (by decide)).trans R.1.2.2.2.2.2.2
      have v7 : v 19 b 7 = A 1 := (hv 19 b 7 (by decide)).trans R.1.2.2.2.2.2.1
      have v6 : v 19 b 6 = A 6 := (hv 19 b 6 (by decide)).trans R.1.2.2.2.2.1
      have v3 : v 19 b 3 = A 3 := (hv 19 b 3 (by decide)).trans R.1.2.1
      have v4 : v 19 b 4 = A 4 := (hv 19 b 4 (by decide)).trans R.1.2.2.1
      have vD : ∀ d : Int, pj_isD A d → v 23 (8 * b + d) 6 = pj_many A d := fun d hd => (hv 23 _ 6 (by decide)).trans (R.2.2.1 d hd).2.2.2
      have vK : ∀ d k : Int, pj_isD A d → 0 ≤ k → k < pj_many A d → v 45 (8 * b + d) k = pj_who A d k := fun d k hd h0 h1 => (hv 45 _ k (by decide)).trans (R.2.2.2 d k hd h0 h1).1
      have h62 : fB_comeTide_62 b (0, v) = fB_comeTide_62 b (((A 1).toNat : Nat), x_col v b A (A 1).toNat) := by
        have h := pj_Lp_to (body := fun t : (Int × pj_W) => fB_comeTide_62b b t.1 t.2) (fun j => ((j : Int), x_col v b A j)) (A 1).toNat (fun j hj => ?_)
        · have e0 : (((0 : Nat) : Int), x_col v b A ((0 : Nat) : Int)) = ((0 : Int), v) := by rw [show ((0 : Nat) : Int) = 0 from rfl, x_col_0]
          rw [e0] at h
          exact h
        · show fB_comeTide_62b b j (x_col v b A j) = some (Sum.inl (((j + 1 : Nat) : Int), x_col v b A ((j + 1 : Nat) : Int)))
          have hof : ∀ k i t, k ≠ 22 → x_col v b A j k i t = v k i t := fun k i t hk => by unfold x_col; rw [if_neg (by omega), if_neg (by omega)]
          have hsb : fB_strewnBy b j (x_col v b A j) = some (pj_strewn A j) := xq_strewn_by I j ((hof 19 b 8 (by decide)).trans v8) (fun d hd => (hof 23 _ 6 (by decide)).trans (vD d hd)) (fun d k hd h0 h1 => (hof 45 _ k (by decide)).trans (vK d k hd h0 h1))
          have hs0 := pj_strewn_in I j
          have hs1 : pj_strewn A j ≤ 60 * (A 2).toNat := (pj_sum_in (g := fun d : Nat => pj_tal A j d) (M := 60) (fun e he => by have := pj_tal_in I j (d := (e : Int)) (by omega) (by omega); omega)).2
          have h3 : x_col v b A j 22 (6 * b + j) 3 = A (10 + 5 * (j : Int) + 2) := by
            have := (Rv.2.1 j ⟨by omega, by rw [hkp 1 (by omega) (by omega) (by omega) (by omega)]; omega⟩).2.2.1
            unfold x_col
            rw [if_neg (by omega), if_neg (by omega), this, hkp _ (by omega) (by omega) (by omega) (by omega)]
          have hF := I.2.2.1 j (by omega) (by omega)
          have hP := I.2.2.2.2.2.2.2
          have h9 := I.2.2.2.2.2.2.1.1
          have h8 := pj_sum_in (g := fun d : Nat => pj_many A d) (n := (A 2).toNat) (M := 60) (fun j hj => by have := I.2.2.2.1 j (by omega) (by omega); omega)
          have hle := pj_sum_le (g := fun g : Nat => if g = j then A (10 + 5 * (j : Int) + 2) else 0) (h := fun g : Nat => A (10 + 5 * g + 2)) (n := (A 1).toNat) (fun g hg => by
            by_cases e : g = j
            · rw [if_pos e, e]; exact Int.le_refl _
            · rw [if_neg e]; have := I.2.2.1 g (by omega) (by omega); omega)
          have hup : pj_sum (fun g => if g = j then A (10 + 5 * (j : Int) + 2) else 0) (A 1).toNat = pj_sum (fun _ => 0) (A 1).toNat + A (10 + 5 * (j : Int) + 2) := pj_sum_up (j := j) (by omega) (fun g hg hne => if_neg hne) (by rw [if_pos rfl]; omega)
          rw [pj_sum_0 (fun g hg => rfl)] at hup
          unfold fB_comeTide_62b
          rw [hof 19 b 7 (by decide), v7, if_neg (by omega), if_pos (by omega), hsb, Option.bind_some, Option.bind_some, pj_wri (by omega), pj_wr_id (x := x_col v b A j 22 (6 * b + j) 3 + pj_strewn A j) (by omega) (by omega), x_col_st v b A (by omega)]; rfl
      have h107 : fB_comeTide_107 b (0, x_col v b A (A 1).toNat) = some (0, pj_set (pj_set (pj_set (x_gon (x_col v b A (A 1).toNat) b (A 2).toNat) 19 b 3 (max 1 (A 3 - A 4))) 19 b 6 (A 6 + 1)) 19 b 9 (A 6 + 1)) := by
        have cof : ∀ k i t, k ≠ 22 → x_col v b A (A 1).toNat k i t = v k i t := fun k i t hk => by unfold x_col; rw [if_neg (by omega), if_neg (by omega)]
        generalize x_col v b A (A 1).toNat = u at cof ⊢
        have gof : ∀ j k i t, k ≠ 23 → x_gon u b j k i t = u k i t := fun j k i t hk => by unfold x_gon; rw [if_neg (by omega)]
        have h := pj_Lp_fo (body := fun t : (Int × pj_W) => fB_comeTide_107b b t.1 t.2) (r := ((0 : Int), pj_set (pj_set (pj_set (x_gon u b (A 2).toNat) 19 b 3 (max 1 (A 3 - A 4))) 19 b 6 (A 6 + 1)) 19 b 9 (A 6 + 1))) (fun j => ((j : Int), x_gon u b j)) (A 2).toNat (fun j hj => ?_) ?_
        · have e0 : (((0 : Nat) : Int), x_gon u b ((0 : Nat) : Int)) = ((0 : Int), u) := by rw [show ((0 : Nat) : Int) = 0 from rfl, x_gon_0]
          rw [e0] at h
          exact h
        · show fB_comeTide_107b b j (x_gon u b j) = some (Sum.inl (((j + 1 : Nat) : Int), x_gon u b ((j + 1 : Nat) : Int)))
          unfold fB_comeTide_107b
          rw [gof _ 19 b 8 (by decide), cof 19 b 8 (by decide), v8, if_neg (by omega), if_pos (by omega), x_gon_st u b (by omega), pj_wri (by omega)]; rfl
        · show fB_comeTide_107b b (((A 2).toNat : Nat) : Int) (x_gon u b (A 2).toNat) = _
          have g3 : x_gon u b (A 2).toNat 19 b 3 = A 3 := (gof _ 19 b 3 (by decide)).trans ((cof 19 b 3 (by decide)).trans v3)
          have g4 : x_gon u b (A 2).toNat 19 b 4 = A 4 := (gof _ 19 b 4 (by decide)).trans ((cof 19 b 4 (by decide)).trans v4)
          have g6 : x_gon u b (A 2).toNat 19 b 6 = A 6 := (gof _ 19 b 6 (by decide)).trans ((cof 19 b 6 (by decide)).trans v6)
          unfold fB_comeTide_107b
          rw [gof _ 19 b 8 (by decide), cof 19 b 8 (by decide), v8, if_pos (by omega)]
          generalize x_gon u b (A 2).toNat = t at g3 g4 g6 ⊢
          unfold fB_tideAfter fB_done
          rw [Option.bind_some, g3, g4, Int.mul_one, pj_wr_id (x := A 4) (by omega) (by omega), pj_wr_id (x := A 3 - A 4) (by omega) (by omega)]
          have p6 : pj_set t 19 b 3 (max 1 (A 3 - A 4)) 19 b 6 = A 6 := by unfold pj_set; rw [if_neg (by omega), g6]
          rw [p6, pj_wr_id (x := A 6 + 1) (by omega) (by omega), pj_set_at]; rfl
      refine ⟨pj_set (pj_set (pj_set (x_gon (x_col v b A (A 1).toNat) b (A 2).toNat) 19 b 3 (max 1 (A 3 - A 4))) 19 b 6 (A 6 + 1)) 19 b 9 (A 6 + 1), ?_, ?_, ?_, fun _ => pj_set_at⟩
      · refine pj_Lp_end (r := (0, pj_set (pj_set (pj_set (x_gon (x_col v b A (A 1).toNat) b (A 2).toNat) 19 b 3 (max 1 (A 3 - A 4))) 19 b 6 (A 6 + 1)) 19 b 9 (A 6 + 1))) ?_
        unfold fB_comeTide_23b
        dsimp only
        rw [if_pos (by omega), h62]
        have hend : fB_comeTide_62 b (((A 1).toNat : Nat), x_col v b A (A 1).toNat) = fB_comeTide_107 b (0, x_col v b A (A 1).toNat) := by
          rw [h107]
          refine pj_Lp_end ?_
          have cof : x_col v b A (A 1).toNat 19 b 7 = A 1 := by unfold x_col; rw [if_neg (by omega), if_neg (by omega), v7]
          unfold fB_comeTide_62b
          dsimp only
          rw [if_pos (by omega), h107]; rfl
        rw [hend, h107]; rfl
      · obtain ⟨T0, T1, TF, TD⟩ := q_floods_is I
        have c : ∀ x, x < 10 → x ≠ 3 → x ≠ 6 → x ≠ 7 → x ≠ 8 → q_floods A x = A x := fun x h h3 h6 h7 h8 => T0 x (fun _ => ⟨h3, h6, h7, h8⟩) (fun _ => by omega) (fun _ => by omega)
        have c1' := c 1 (by omega) (by omega) (by omega) (by omega) (by omega)
        have c2' := c 2 (by omega) (by omega) (by omega) (by omega) (by omega)
        have o19 : ∀ s, s ≠ 3 → s ≠ 6 → s ≠ 9 → pj_set (pj_set (pj_set (x_gon (x_col v b A (A 1).toNat) b (A 2).toNat) 19 b 3 (max 1 (A 3 - A 4))) 19 b 6 (A 6 + 1)) 19 b 9 (A 6 + 1) 19 b s = w 19 b s := fun s h3 h6 h9 => by
          unfold pj_set x_gon x_col
          rw [if_neg (by omega), if_neg (by omega), if_neg (by omega), if_neg (by omega), if_neg (by omega), if_neg (by omega), hv 19 b s (by decide)]
        have o22 : ∀ i s, pj_set (pj_set (pj_set (x_gon (x_col v b A (A 1).toNat) b (A 2).toNat) 19 b 3 (max 1 (A 3 - A 4))) 19 b 6 (A 6 + 1)) 19 b 9 (A 6 + 1) 22 i s = x_col v b A (A 1).toNat 22 i s := fun i s => by
          unfold pj_set x_gon
          rw [if_neg (by omega), if_neg (by omega), if_neg (by omega), if_neg (by omega)]
        have o23 : ∀ i s, pj_set (pj_set (pj_set (x_gon (x_col v b A (A 1).toNat) b (A 2).toNat) 19 b 3 (max 1 (A 3 - A 4))) 19 b 6 (A 6 + 1)) 19 b 9 (A 6 + 1) 23 i s = if 8 * b ≤ i ∧ i < 8 * b + (A 2).toNat ∧ (s = 5 ∨ s = 6) then 0 else w 23 i s := fun i s => by
          unfold pj_set x_gon
          rw [if_neg (by omega), if_neg (by omega), if_neg (by omega)]
          by_cases h : 8 * b ≤ i ∧ i < 8 * b + (A 2).toNat ∧ (s = 5 ∨ s = 6)
          · rw [if_pos ⟨rfl, h⟩, if_pos h]
          · rw [if_neg (fun x => h x.2), if_neg h]
            unfold x_col
            rw [if_neg (by omega), if_neg (by omega), hv 23 i s (by decide)]
        show pj_RB b _ (q_floods A)
        refine ⟨?_, fun f hf => ?_, fun d hd => ?_, fun d k hd hk hk2 => ?_⟩
        · rw [o19 2 (by omega) (by omega) (by omega), o19 4 (by omega) (by omega) (by omega), o19 5 (by omega) (by omega) (by omega), o19 7 (by omega) (by omega) (by omega), o19 8 (by omega) (by omega) (by omega), c 0 (by omega) (by omega) (by omega) (by omega) (by omega), c 4 (by omega) (by omega) (by omega) (by omega) (by omega), c 5 (by omega) (by omega) (by omega) (by omega) (by omega), c1', c2', T1.1, T1.2.1]
          refine ⟨R.1.1, ?_, R.1.2.2.1, R.1.2.2.2.1, ?_, R.1.2.2.2.2.2.1, R.1.2.2.2.2.2.2⟩
          · unfold pj_set; rw [if_neg (by omega), if_neg (by omega), if_pos ⟨rfl, rfl, rfl⟩]
          · unfold pj_set; rw [if_neg (by omega), if_pos ⟨rfl, rfl, rfl⟩]
        · rw [pj_isF, c1'] at hf
          have hRF := Rv.2.1 f (by rw [pj_isF, hkp 1 (by omega) (by omega) (by omega) (by omega)]; exact hf)
          have h1 := TF f hf
          have := hf.1
          have := hf.2
          have hk4 := q_fl1_at (A := A) (n := i) (f := f.toNat) (by omega)
          rw [Int.toNat_of_nonneg hf.1] at hk4
          rw [o22, o22, o22, o22, o22, h1.1, h1.2.1, h1.2.2, T0 (10 + 5 * f) (fun _ => by omega) (fun _ _ => ⟨f, Or.inl rfl⟩) (fun _ => by omega), T0 (10 + 5 * f + 1) (fun _ => by omega) (fun _ _ => ⟨f, Or.inr rfl⟩) (fun _ => by omega)]
          rw [hk4] at hRF
          unfold x_col
          refine ⟨?_, ?_, ?_, ?_, ?_⟩
          · rw [if_neg (by omega), if_neg (by omega), hRF.1, hkp _ (by omega) (by omega) (by omega) (by omega)]
          · rw [if_neg (by omega), if_neg (by omega), hRF.2.1, hkp _ (by omega) (by omega) (by omega) (by omega)]
          · rw [if_neg (by omega), if_pos (by omega), hRF.2.2.1, hkp _ (by omega) (by omega) (by omega) (by omega), show 6 * b + f - 6 * b = f by omega]
          · rw [if_pos (by omega)]
          · rw [if_neg (by omega), if_neg (by omega), hRF.2.2.2.2]
            unfold pj_lead
            rw [hn]
        · rw [pj_isD, c2'] at hd
          have hRD := R.2.2.1 d hd
          have := hd.1
          have := hd.2
          rw [o23, o23, o23, o23, TD d hd, T0 (40 + 3 * d) (fun _ => by omega) (fun _ => by omega) (fun _ _ => ⟨d, Or.inl rfl⟩), T0 (40 + 3 * d + 1) (fun _ => by omega) (fun _ => by omega) (fun _ _ => ⟨d, Or.inr rfl⟩)]
          have ht : ¬ pj_there (q_floods A) d := fun x => by
            have hx : pj_and (pj_shr (q_floods A 7) d) 1 = 1 := x
            rw [T1.2.2.1] at hx
            exact absurd (pj_bit_pc (s := 0) (by omega) (by omega) hd.1 (by omega : d < 8) hx) (by decide)
          rw [if_neg ht]
          refine ⟨?_, ?_, ?_, ?_⟩
          · rw [if_neg (by omega)]; exact hRD.1
          · rw [if_neg (by omega)]; exact hRD.2.1
          · rw [if_pos (by omega)]
          · rw [if_pos (by omega)]
        · rw [pj_isD, c2'] at hd
          rw [TD d hd] at hk2
          omega
      · intro k j s hni
        have hni' := hni
        unfold pj_in at hni'
        unfold pj_set x_gon x_col
        rw [if_neg (by omega), if_neg (by omega), if_neg (by omega), if_neg (by omega), if_neg (by omega), if_neg (by omega)]
        exact fv k j s hni
    | succ m ih =>
      intro i v hi Rv fv hv
      have hkp : ∀ x, 0 ≤ x → x < 1024 → x ≠ 9 → (x < 10 ∨ 40 ≤ x ∨ x % 5 ≠ 4) → q_fl1 A i x = A x := fun x h0 h1 h2 h3 => q_fl1_kp x h0 h1 h2 h3 (by omega)
      have J : pj_IV (q_fl1 A i) := I.ex hkp
      have e1 : q_fl1 A i 1 = A 1 := hkp 1 (by omega) (by omega) (by omega) (by omega)
      have e2 : q_fl1 A i 2 = A 2 := hkp 2 (by omega) (by omega) (by omega) (by omega)
      have hd : pj_isD A (i : Int) := ⟨by omega, by omega⟩
      have eo : pj_own (q_fl1 A i) i = pj_own A i := pj_own_ex I hd hkp
      have hD := I.2.2.2.1 i hd.1 hd.2
      have ho := pj_own_in I hd.1 hd.2
      have v8 : v 19 b 8 = A 2 := (hv 19 b 8 (by decide)).trans R.1.2.2.2.2.2.2
      have v4 : v 23 (8 * b + i) 4 = A (40 + 3 * (i : Int) + 1) := (hv 23 _ 4 (by decide)).trans (R.2.2.1 i hd).2.1
      obtain ⟨v', eg, Rg, fg, hg⟩ := xc_give Rv hb (s := pj_own A i) (x1 := A (40 + 3 * (i : Int) + 1)) (g := fun f => pj_share A f i) (by omega) (by omega) ho.1 ho.2 (by omega) (by omega) (fun f hf => by
          show pj_share A f i = _
          unfold pj_share
          by_cases cb : pj_and (pj_shr (pj_own A i) f) 1 = 1
          · rw [if_pos cb]
            by_cases ct : pj_there A i
            · rw [if_pos ⟨ct, cb⟩]
            · exfalso
              rw [pj_own_0 (pj_notThere I hd ct)] at cb
              exact absurd (pj_bit_pc (s := 0) (by omega) (by omega) (by omega) (by omega : (f : Int) < 8) cb) (by decide)
          · rw [if_neg cb, if_neg (fun x => cb x.2)]) (fun f hf => pj_share_in I (by omega) (by omega) hd.1 hd.2) (fun f hf => by
          rw [q_fl1_at (by omega)]
          have h1 := K f ⟨by omega, by omega⟩
          have h2 := pj_sum_in (g := fun d : Nat => pj_share A f d) (n := i) (M := 999) (fun j hj => pj_share_in I (by omega) (by omega) (by omega) (by omega))
          omega)
      rw [e1] at Rg
      obtain ⟨w', e, r⟩ := ih (i + 1) v' (by omega) Rg (fv.trans fg) (fun k j t hk => (hg k j t hk).trans (hv k j t hk))
      refine ⟨w', ?_, r⟩
      rw [← e]
      refine pj_Lp_st ?_
      unfold fB_comeTide_23b
      dsimp only
      rw [if_neg (by omega), if_pos (by omega), xq_heirs Rv J hb (by rw [pj_isD, e2]; exact hd), Option.bind_some, eo, v4, eg, Option.bind_some, pj_wri (by omega)]; rfl
  exact key (A 2).toNat 0 w (by omega) R (pj_fr.refl b w) (fun _ _ _ _ => rfl)
end
