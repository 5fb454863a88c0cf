/-! THE TIDE, in the model -/
theorem mc_floods_32 {d s : Int} {g : Nat → Int} {w : pj_W} {B : pj_Q} (hd : 0 ≤ d) (hd2 : d < 8) (hs : 0 ≤ s) (hs2 : s < 64) (h1 : 0 ≤ B 1) (h16 : B 1 ≤ 6) (hw : 0 ≤ B (40 + 3 * d + 1)) (hw2 : B (40 + 3 * d + 1) ≤ 999)
    (hg : ∀ f : Nat, (f : Int) < B 1 → g f = (if pj_and (pj_shr s f) 1 = 1 then B (40 + 3 * d + 1) / pj_pc s else 0)) (hg2 : ∀ f : Nat, (f : Int) < B 1 → 0 ≤ g f ∧ g f ≤ 999) (hk : ∀ f : Nat, (f : Int) < B 1 → 0 ≤ B (10 + 5 * (f : Int) + 4) ∧ B (10 + 5 * (f : Int) + 4) ≤ 1000000) :
    fM_floods_32 d s (0, pj_put w B) = some (Sum.inl (d + 1, pj_put w (q_giv g (B 1).toNat B))) := by
  have h := pj_Lp_fo (body := fun t : (Int × pj_W) => fM_floods_32b d s t.1 t.2) (r := Sum.inl (d + 1, pj_put w (q_giv g (B 1).toNat B))) (fun i => ((i : Int), pj_put w (q_giv g i B))) (B 1).toNat (fun i hi => ?_) ?_
  · exact h
  · have e1 : q_giv g i B 1 = B 1 := q_giv_ne (fun f _ => by omega)
    have e2 : q_giv g i B (10 + 5 * (i : Int) + 4) = B (10 + 5 * (i : Int) + 4) := q_giv_ne (fun f _ => by omega)
    have e3 : q_giv g i B (40 + 3 * d + 1) = B (40 + 3 * d + 1) := q_giv_ne (fun f _ => by omega)
    have a1 := hg i (by omega)
    have a2 := hg2 i (by omega)
    have a3 := hk i (by omega)
    show fM_floods_32b d s i (pj_put w (q_giv g i B)) = some (Sum.inl (_, pj_put w (q_up (q_giv g i B) (10 + 5 * (i : Int) + 4) (q_giv g i B (10 + 5 * (i : Int) + 4) + g i))))
    generalize q_giv g i B = C at e1 e2 e3 ⊢
    have r1 : pj_put w C 60 0 1 = B 1 := by rw [pj_put_at, e1]
    have r2 : pj_put w C 60 0 (10 + 5 * (i : Int) + 4) = C (10 + 5 * (i : Int) + 4) := by rw [pj_put_at]
    have r3 : pj_put w C 60 0 (40 + 3 * d + 1) = B (40 + 3 * d + 1) := by rw [pj_put_at, e3]
    unfold fM_floods_32b fM_floods_84
    rw [if_neg (by rw [r1]; omega), mq_finderRow (by omega) (by omega), Option.bind_some, pj_wr_id (x := 10 + 5 * (i : Int) + 4) (by omega) (by omega), if_pos (by omega), pj_wri (by omega)]
    rcases pj_bit01 hs (by omega : s < 256) (f := i) (by omega) (by omega) with hb | hb
    · rw [if_neg (by omega)] at a1
      rw [if_neg (by omega), if_pos (by omega), pj_put_set, r2, a1, Int.add_zero, pj_wr_id (by omega) (by omega)]; rfl
    · have hp := pj_bit_pc hs (by omega : s < 256) (f := i) (by omega) (by omega) hb
      rw [if_pos hb] at a1
      rw [if_pos hb, mq_findRow (by omega) (by omega) (by omega) (by omega), Option.bind_some, Int.zero_add, pj_wr_id (x := 40 + 3 * d + 1) (by omega) (by omega), if_pos (by omega), mq_bits hs (by omega), Option.bind_some, if_pos (by omega), if_pos (by omega), pj_put_set, r2, r3, pj_div_id (by omega) (by omega) hp, ← a1, pj_wr_id (by omega) (by omega)]; rfl
  · have e1 : q_giv g (B 1).toNat B 1 = B 1 := q_giv_ne (fun f _ => by omega)
    show fM_floods_32b d s ((B 1).toNat : Int) (pj_put w (q_giv g (B 1).toNat B)) = _
    unfold fM_floods_32b
    rw [if_pos (by rw [pj_put_at, e1]; omega), pj_wr_id (by omega) (by omega)]
theorem mc_floods_112 {A : pj_Q} (I : pj_IV A) {d : Nat} {w : pj_W} {B : pj_Q} (hd : pj_isD A d) (h2 : pj_many B d = pj_many A d) (h3 : ∀ x, 64 ≤ x → B x = A x) (hk : ∀ f : Int, pj_isF A f → 0 ≤ B (10 + 5 * f + 2) ∧ B (10 + 5 * f + 2) ≤ 1000000) :
    fM_floods_112 d (0, pj_put w B) = some (Sum.inl ((d : Int) + 1, pj_put w (q_up (q_rt A d (pj_many A d).toNat B) (40 + 3 * (d : Int) + 2) 0))) := by
  have hA := I.1
  have d0 := hd.1
  have d1 := hd.2
  have hD := I.2.2.2.1 d d0 d1
  have hw : ∀ k : Nat, (k : Int) < pj_many A d → pj_isF A (pj_who A d k) := fun k hk => by
    have := I.2.2.2.2.1 d k d0 d1 (by omega) hk
    exact ⟨this.1, this.2.1⟩
  have ne : ∀ (x : Int) (k : Nat), (k : Int) ≤ pj_many A d → x < 10 ∨ 40 ≤ x → q_rt A d k B x = B x := fun x k hk hx => q_rt_ne (fun j hj => by have h9 := hw j (by omega); have h7 := h9.1; have h8 := h9.2; omega)
  have h := pj_Lp_fo (body := fun t : (Int × pj_W) => fM_floods_112b d t.1 t.2) (r := Sum.inl ((d : Int) + 1, pj_put w (q_up (q_rt A d (pj_many A d).toNat B) (40 + 3 * (d : Int) + 2) 0))) (fun i => ((i : Int), pj_put w (q_rt A d i B))) (pj_many A d).toNat (fun i hi => ?_) ?_
  · exact h
  · have e1 : pj_many (q_rt A d i B) d = pj_many A d := (ne _ i (by omega) (by omega)).trans h2
    have e2 : pj_who (q_rt A d i B) d i = pj_who A d i := (ne _ i (by omega) (by omega)).trans (h3 _ (by omega))
    have hf := hw i (by omega)
    have f0 := hf.1
    have f1 := hf.2
    have e4 : q_rt A d i B (10 + 5 * pj_who A d i + 2) = B (10 + 5 * pj_who A d i + 2) + pj_sum (fun k => if pj_who A d k = pj_who A d i then 1 else 0) i := q_rt_at
    have b4 := pj_sum_in (g := fun k : Nat => if pj_who A d k = pj_who A d i then (1 : Int) else 0) (n := i) (M := 1) (fun j hj => by split <;> omega)
    have b5 := hk _ hf
    show fM_floods_112b d i (pj_put w (q_rt A d i B)) = some (Sum.inl (_, pj_put w (q_up (q_rt A d i B) (10 + 5 * pj_who A d i + 2) (q_rt A d i B (10 + 5 * pj_who A d i + 2) + 1))))
    generalize q_rt A d i B = C at e1 e2 e4 ⊢
    have r1 : pj_many (pj_put w C 60 0) d = pj_many A d := by rw [pj_put_at, e1]
    have r2 : pj_who (pj_put w C 60 0) d i = pj_who A d i := by rw [pj_put_at, e2]
    have r3 : ∀ x, pj_put w C 60 0 x = C x := fun x => by rw [pj_put_at]
    unfold fM_floods_112b
    rw [mq_manyOn (by omega) (by omega), Option.bind_some, r1, if_neg (by omega), mq_whoAt (by omega) (by omega) (by omega) (by omega), Option.bind_some, r2, mq_finderRow (by omega) (by omega), Option.bind_some, pj_wr_id (x := 10 + 5 * pj_who A d i + 2) (by omega) (by omega), if_pos (by omega), pj_wri (by omega), pj_put_set, r3, pj_wr_id (x := C (10 + 5 * pj_who A d i + 2) + 1) (by omega) (by omega)]
    rfl
  · have e1 : pj_many (q_rt A d (pj_many A d).toNat B) d = pj_many A d := (ne _ _ (by omega) (by omega)).trans h2
    show fM_floods_112b d (((pj_many A d).toNat : Nat) : Int) (pj_put w (q_rt A d (pj_many A d).toNat B)) = _
    generalize q_rt A d (pj_many A d).toNat B = C at e1 ⊢
    have r1 : pj_many (pj_put w C 60 0) d = pj_many A d := by rw [pj_put_at, e1]
    unfold fM_floods_112b
    rw [mq_manyOn (by omega) (by omega), Option.bind_some, r1, if_pos (by omega), mq_findRow (by omega) (by omega) (by omega) (by omega), Option.bind_some, Int.zero_add, pj_wr_id (x := 40 + 3 * (d : Int) + 2) (by omega) (by omega), if_pos (by omega), pj_put_set, pj_wri (by omega)]
theorem mc_floods_168 {w : pj_W} {B : pj_Q} (h1 : 0 ≤ B 1) (h16 : B 1 ≤ 6) (h3 : 0 ≤ B 3 ∧ B 3 ≤ 1000) (h4 : 0 ≤ B 4 ∧ B 4 ≤ 1000) (h6 : 0 ≤ B 6 ∧ B 6 ≤ 1000) : fM_floods_168 (0, pj_put w B) = some (pj_put w (q_nxt (q_clk (B 1).toNat B))) := by
  have ne : ∀ (x : Int) (n : Nat), x < 10 ∨ 40 ≤ x → n ≤ 6 → q_clk n B x = B x := fun x n hx hn => q_clk_ne (fun f hf => by omega)
  have h := pj_Lp_fo (body := fun t : (Int × pj_W) => fM_floods_168b t.1 t.2) (r := pj_put w (q_nxt (q_clk (B 1).toNat B))) (fun i => ((i : Int), pj_put w (q_clk i B))) (B 1).toNat (fun i hi => ?_) ?_
  · exact h
  · have e1 := ne 1 i (by omega) (by omega)
    show fM_floods_168b i (pj_put w (q_clk i B)) = some (Sum.inl (_, pj_put w (q_up (q_clk i B) (10 + 5 * (i : Int) + 3) 0)))
    generalize q_clk i B = C at e1 ⊢
    unfold fM_floods_168b
    rw [if_neg (by rw [pj_put_at, e1]; omega), mq_finderRow (by omega) (by omega), Option.bind_some, pj_wr_id (x := 10 + 5 * (i : Int) + 3) (by omega) (by omega), if_pos (by omega), pj_put_set, pj_wri (by omega)]
    rfl
  · have e1 := ne 1 (B 1).toNat (by omega) (by omega)
    have e3 := ne 3 (B 1).toNat (by omega) (by omega)
    have e4 := ne 4 (B 1).toNat (by omega) (by omega)
    have e6 := ne 6 (B 1).toNat (by omega) (by omega)
    show fM_floods_168b (((B 1).toNat : Nat) : Int) (pj_put w (q_clk (B 1).toNat B)) = _
    generalize q_clk (B 1).toNat B = C at e1 e3 e4 e6 ⊢
    unfold fM_floods_168b
    rw [if_pos (by rw [pj_put_at, e1]; omega), Option.bind_some]
    simp only [pj_put_set, pj_put_at]
    have q6 : q_up (q_up C 8 0) 7 0 6 = C 6 := by rw [q_up_ne _ _ (by decide), q_up_ne _ _ (by decide)]
    have q3 : ∀ v, q_up (q_up (q_up C 8 0) 7 0) 6 v 3 = C 3 := fun v => by rw [q_up_ne _ _ (by decide), q_up_ne _ _ (by decide), q_up_ne _ _ (by decide)]
    have q4 : ∀ v, q_up (q_up (q_up C 8 0) 7 0) 6 v 4 = C 4 := fun v => by rw [q_up_ne _ _ (by decide), q_up_ne _ _ (by decide), q_up_ne _ _ (by decide)]
    rw [q6, q3, q4, pj_wr_id (x := C 6 + 1) (by omega) (by omega), pj_wr_id (x := C 3 - C 4) (by omega) (by omega)]
    rfl
theorem q_fl1_kp {A : pj_Q} {n : Nat} : ∀ x, 0 ≤ x → x < 1024 → x ≠ 9 → (x < 10 ∨ 40 ≤ x ∨ x % 5 ≠ 4) → (A 1).toNat ≤ 6 → q_fl1 A n x = A x := fun x h0 h1 h2 h3 h4 => q_fl1_ne (fun f hf => by omega)
theorem mc_floods {w : pj_W} (I : pj_IV (w 60 0)) (K : pj_IK (w 60 0)) : fM_floods w = some (pj_put w (q_floods (w 60 0))) := by
  have hA := I.1
  generalize hA0 : w 60 0 = A at I K hA ⊢
  have h168 := mc_floods_168 (w := w) (B := q_fl2 A (A 2).toNat (q_fl1 A (A 2).toNat))
  have c2 : ∀ (n : Nat) (x : Int), (n : Int) ≤ A 2 → x < 10 → q_fl2 A n (q_fl1 A (A 2).toNat) x = A x := fun n x hn hx => by
    rw [q_fl2_ne I hn (fun f hf => by have := hf.1; omega) (fun d _ => by omega), q_fl1_ne (fun f _ => by omega)]
  rw [c2 _ 1 (by omega) (by omega), c2 _ 3 (by omega) (by omega), c2 _ 4 (by omega) (by omega), c2 _ 6 (by omega) (by omega)] at h168
  have h100 : fM_floods_100 (0, pj_put w (q_fl1 A (A 2).toNat)) = some (pj_put w (q_floods A)) := by
    have h := pj_Lp_fo (body := fun t : (Int × pj_W) => fM_floods_100b t.1 t.2) (r := pj_put w (q_floods A)) (fun i => ((i : Int), pj_put w (q_fl2 A i (q_fl1 A (A 2).toNat)))) (A 2).toNat (fun i hi => ?_) ?_
    · exact h
    · show fM_floods_100b i (pj_put w (q_fl2 A i (q_fl1 A (A 2).toNat))) = _
      unfold fM_floods_100b
      rw [if_neg (by rw [pj_put_at, c2 i 2 (by omega) (by omega)]; omega)]
      have hs : ∀ f : Int, 0 ≤ f → f < 6 → 0 ≤ pj_sum (fun d => pj_tal A f d) i ∧ pj_sum (fun d => pj_tal A f d) i ≤ 60 * (i : Int) := fun f hf hf2 => pj_sum_in (fun j hj => by have := pj_tal_in I f (d := (j : Int)) (by omega) (by omega); omega)
      refine mc_floods_112 I ⟨by omega, by omega⟩ ?_ (fun x hx => ?_) (fun f hf => ?_)
      · unfold pj_many
        rw [q_fl2_ne I (by omega) (fun f hf => by have := hf.2; omega) (fun e he => by omega), q_fl1_ne (fun f _ => by omega)]
      · rw [q_fl2_ne I (by omega) (fun f hf => by have := hf.2; omega) (fun e he => by omega), q_fl1_ne (fun f _ => by omega)]
      · have hF := I.2.2.1 f hf.1 hf.2
        have := hf.1
        have := hf.2
        have h9 := hs f hf.1 (by omega)
        have hP := I.2.2.2.2.2.2.2
        have h8 := pj_sum_in (g := fun d : Nat => pj_many A d) (n := (A 2).toNat) (M := 60) (fun j hj => by have := I.2.2.2.1 j (by omega) (by omega); omega)
        have h7 := I.2.2.2.2.2.2.1.1
        have hle := pj_sum_le (g := fun g : Nat => if g = f.toNat then A (10 + 5 * f + 2) else 0) (h := fun g : Nat => A (10 + 5 * g + 2)) (n := (A 1).toNat) (fun g hg => by
          by_cases e : g = f.toNat
          · rw [if_pos e, e, Int.toNat_of_nonneg hf.1]; exact Int.le_refl _
          · rw [if_neg e]; have := I.2.2.1 g (by omega) (by omega); omega)
        have hup : pj_sum (fun g => if g = f.toNat then A (10 + 5 * f + 2) else 0) (A 1).toNat = pj_sum (fun _ => 0) (A 1).toNat + A (10 + 5 * f + 2) := pj_sum_up (j := f.toNat) (by omega) (fun g hg hne => if_neg hne) (by rw [if_pos rfl]; omega)
        rw [pj_sum_0 (fun g hg => rfl)] at hup
        rw [q_fl2_at hf.1 (by omega), q_fl1_ne (fun g _ => by omega)]
        omega
    · show fM_floods_100b (((A 2).toNat : Nat) : Int) (pj_put w (q_fl2 A (A 2).toNat (q_fl1 A (A 2).toNat))) = _
      unfold fM_floods_100b
      rw [if_pos (by rw [pj_put_at, c2 _ 2 (by omega) (by omega)]; omega), h168 (by omega) (by omega) (by omega) (by omega) (by omega)]
      rfl
  have h := pj_Lp_fo (body := fun t : (Int × pj_W) => fM_floods_2b t.1 t.2) (r := pj_put w (q_floods A)) (fun i => ((i : Int), pj_put w (q_fl1 A i))) (A 2).toNat (fun i hi => ?_) ?_
  · have e0 : pj_put w (q_fl1 A 0) = w := by
      show pj_put w A = w
      rw [← hA0, pj_put_self]
    have e1 : (((0 : Nat) : Int), pj_put w (q_fl1 A 0)) = ((0 : Int), w) := by rw [e0]; rfl
    unfold fM_floods fM_floods_2
    rw [← e1]
    exact h
  · have hkp : ∀ x, 0 ≤ x → x < 1024 → x ≠ 9 → (x < 10 ∨ 40 ≤ x ∨ x % 5 ≠ 4) → q_fl1 A i x = A x := fun x h0 h1 h2 h3 => q_fl1_kp x h0 h1 h2 h3 (by omega)
    have J : pj_IV (q_fl1 A i) := I.ex hkp
    have e1 : q_fl1 A i 1 = A 1 := hkp 1 (by omega) (by omega) (by omega) (by omega)
    have e2 : q_fl1 A i 2 = A 2 := hkp 2 (by omega) (by omega) (by omega) (by omega)
    have e7 : q_fl1 A i 7 = A 7 := hkp 7 (by omega) (by omega) (by omega) (by omega)
    have ew : q_fl1 A i (40 + 3 * (i : Int) + 1) = A (40 + 3 * (i : Int) + 1) := hkp _ (by omega) (by omega) (by omega) (by omega)
    have eo : pj_own (q_fl1 A i) i = pj_own A i := pj_own_ex I ⟨by omega, by omega⟩ hkp
    have hD := I.2.2.2.1 i (by omega) (by omega)
    have ho := pj_own_in I (d := i) (by omega) (by omega)
    have hsh : ∀ f : Nat, (f : Int) < A 1 → 0 ≤ pj_share A f i ∧ pj_share A f i ≤ 999 := fun f hf => pj_share_in I (by omega) (by omega) (by omega) (by omega)
    have hk : ∀ f : Nat, (f : Int) < A 1 → 0 ≤ q_fl1 A i (10 + 5 * (f : Int) + 4) ∧ q_fl1 A i (10 + 5 * (f : Int) + 4) ≤ 1000000 := fun f hf => by
      rw [q_fl1_at (by omega)]
      have h1 := K f ⟨by omega, hf⟩
      have h2 := pj_sum_in (g := fun d : Nat => pj_share A f d) (n := i) (M := 999) (fun j hj => pj_share_in I (by omega) (by omega) (by omega) (by omega))
      omega
    show fM_floods_2b i (pj_put w (q_fl1 A i)) = some (Sum.inl (_, pj_put w (q_giv (fun f => pj_share A f i) (A 1).toNat (q_fl1 A i))))
    generalize q_fl1 A i = C at J e1 e2 e7 ew eo hk hkp ⊢
    unfold fM_floods_2b fM_floods_29
    rw [if_neg (by rw [pj_put_at, e2]; omega), mq_isThere, Option.bind_some]
    have ht : pj_there (pj_put w C 60 0) i ↔ pj_there A i := by
      unfold pj_there
      rw [pj_put_at, e7]
    rw [show (fun f : Nat => pj_share A f (i : Int)) = fun f : Nat => pj_share A f i from rfl, ← e1]
    by_cases c : pj_there A i
    · rw [if_pos (ht.mpr c), if_neg (by decide), mq_ownersOf (by rw [pj_put_at]; exact J) (by omega) (by rw [pj_put_at, e2]; omega), Option.bind_some, show pj_own (pj_put w C 60 0) i = pj_own A i by rw [pj_put_at, eo]]
      refine mc_floods_32 (by omega) (by omega) ho.1 ho.2 (by omega) (by omega) (by omega) (by omega) (fun f hf => ?_) (fun f hf => hsh f (by omega)) (fun f hf => hk f (by omega))
      show pj_share A f i = _
      unfold pj_share
      rw [ew]
      by_cases cb : pj_and (pj_shr (pj_own A i) f) 1 = 1
      · rw [if_pos cb, if_pos ⟨c, cb⟩]
      · rw [if_neg cb, if_neg (fun x => cb x.2)]
    · rw [if_neg (fun x => c (ht.mp x)), if_pos rfl]
      refine mc_floods_32 (by omega) (by omega) (by omega) (by omega) (by omega) (by omega) (by omega) (by omega) (fun f hf => ?_) (fun f hf => hsh f (by omega)) (fun f hf => hk f (by omega))
      show pj_share A f i = _
      unfold pj_share
      rw [if_neg (fun x => c x.1)]
      rcases pj_bit01 (s := 0) (by omega) (by omega) (f := f) (by omega) (by omega) with hb | hb
      · rw [if_neg (by omega)]
      · exact absurd (pj_bit_pc (s := 0) (by omega) (by omega) (by omega) (by omega : (f : Int) < 8) hb) (by decide)
  · show fM_floods_2b (((A 2).toNat : Nat) : Int) (pj_put w (q_fl1 A (A 2).toNat)) = _
    unfold fM_floods_2b
    rw [if_pos (by rw [pj_put_at, q_fl1_kp 2 (by omega) (by omega) (by omega) (by omega) (by omega)]; omega), h100]
    rfl
