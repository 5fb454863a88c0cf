/-! THE TIDE: its numbers -/
theorem q_fo_ne {a : Nat → Int} {v : Nat → Int → Int} {B : pj_Q} {n : Nat} {x : Int} (h : ∀ i, i < n → x ≠ a i) : pj_fo (fun f (C : pj_Q) => q_up C (a f) (v f (C (a f)))) n B x = B x := by
  induction n with
  | zero => rfl
  | succ n ih =>
    show q_up _ _ _ x = _
    rw [q_up_ne _ _ (h n (by omega)), ih (fun i hi => h i (by omega))]
theorem q_fo_at {a : Nat → Int} {v : Nat → Int → Int} (ha : ∀ i j, a i = a j → i = j) {B : pj_Q} {n i : Nat} (hi : i < n) : pj_fo (fun f (C : pj_Q) => q_up C (a f) (v f (C (a f)))) n B (a i) = v i (B (a i)) := by
  induction n with
  | zero => omega
  | succ n ih =>
    show q_up _ _ _ (a i) = _
    by_cases e : i = n
    · subst e
      rw [q_up_at, q_fo_ne (fun j hj he => by have := ha _ _ he; omega)]
    · rw [q_up_ne _ _ (fun he => e (ha _ _ he)), ih (by omega)]
theorem pj_IV.ex {A B : pj_Q} (I : pj_IV A) (h : ∀ x, 0 ≤ x → x < 1024 → x ≠ 9 → (x < 10 ∨ 40 ≤ x ∨ x % 5 ≠ 4) → B x = A x) : pj_IV B := by
  have hA := I.1
  obtain ⟨I0, I7, IF, ID, IK, IS, I8, IP⟩ := I
  have c : ∀ x, 0 ≤ x → x < 9 → B x = A x := fun x h0 h1 => h x h0 (by omega) (by omega) (by omega)
  have e : ∀ x, 40 ≤ x → x < 1024 → B x = A x := fun x h0 h1 => h x (by omega) h1 (by omega) (by omega)
  have hm : ∀ d : Int, 0 ≤ d → d < 8 → pj_many B d = pj_many A d := fun d hd hd2 => e _ (by omega) (by omega)
  have hw : ∀ d k : Int, 0 ≤ d → d < 8 → 0 ≤ k → k < 60 → pj_who B d k = pj_who A d k := fun d k hd _ hk _ => e _ (by omega) (by omega)
  have hn : ∀ d k : Int, 0 ≤ d → d < 8 → 0 ≤ k → k < 60 → pj_min B d k = pj_min A d k := fun d k hd _ hk _ => e _ (by omega) (by omega)
  refine ⟨?_, ?_, ?_, ?_, ?_, ?_, ?_, ?_⟩
  · rw [c 0 (by omega) (by omega), c 1 (by omega) (by omega), c 2 (by omega) (by omega), c 3 (by omega) (by omega), c 4 (by omega) (by omega), c 5 (by omega) (by omega), c 6 (by omega) (by omega)]; exact I0
  · rw [c 7 (by omega) (by omega), c 2 (by omega) (by omega)]
    exact I7.imp id fun h => ⟨h.1, fun d hd hd2 => by rw [hm d hd (by omega)]; exact h.2 d hd hd2⟩
  · intro g hg hg2
    rw [c 1 (by omega) (by omega)] at hg2
    rw [c 0 (by omega) (by omega), c 3 (by omega) (by omega), h (10 + 5 * g) (by omega) (by omega) (by omega) (by omega), h (10 + 5 * g + 1) (by omega) (by omega) (by omega) (by omega), h (10 + 5 * g + 2) (by omega) (by omega) (by omega) (by omega), h (10 + 5 * g + 3) (by omega) (by omega) (by omega) (by omega)]
    exact IF g hg hg2
  · intro d hd hd2
    rw [c 2 (by omega) (by omega)] at hd2
    rw [hm d hd (by omega), c 0 (by omega) (by omega), e (40 + 3 * d) (by omega) (by omega), e (40 + 3 * d + 1) (by omega) (by omega)]
    exact ID d hd hd2
  · intro d k hd hd2 hk hk2
    rw [c 2 (by omega) (by omega)] at hd2
    rw [hm d hd (by omega)] at hk2
    have h60 := ID d hd hd2
    rw [hw d k hd (by omega) hk (by omega), hn d k hd (by omega) hk (by omega), c 1 (by omega) (by omega), c 3 (by omega) (by omega)]
    exact IK d k hd hd2 hk hk2
  · intro d k l hd hd2 hk hk2 hl
    rw [c 2 (by omega) (by omega)] at hd2
    rw [hm d hd (by omega)] at hl
    have h60 := ID d hd hd2
    rw [hn d k hd (by omega) hk (by omega), hn d l hd (by omega) (by omega) (by omega)]
    exact IS d k l hd hd2 hk hk2 hl
  · rw [c 8 (by omega) (by omega), c 2 (by omega) (by omega), pj_sum_ex (g := fun d : Nat => pj_many B d) (g' := fun d : Nat => pj_many A d) (fun i hi => hm i (by omega) (by omega))]; exact I8
  · rw [c 8 (by omega) (by omega), c 1 (by omega) (by omega), pj_sum_ex (g := fun g : Nat => B (10 + 5 * g + 2)) (g' := fun g : Nat => A (10 + 5 * g + 2)) (fun i hi => h _ (by omega) (by omega) (by omega) (by omega))]
    exact IP
theorem pj_lst_ex {A B : pj_Q} {d : Int} (hm : pj_many B d = pj_many A d) (hn : pj_min B d (pj_many A d - 1) = pj_min A d (pj_many A d - 1)) : ∀ n : Nat, (∀ k : Int, 0 ≤ k → k < n → pj_who B d k = pj_who A d k ∧ pj_min B d k = pj_min A d k) → ∀ s, pj_lst B d n s = pj_lst A d n s := by
  intro n
  induction n with
  | zero => exact fun _ _ => rfl
  | succ n ih =>
    intro hk s
    have h1 := hk n (by omega) (by omega)
    unfold pj_lst
    rw [hm, h1.1, h1.2, hn]
    split
    · exact ih (fun k h2 h3 => hk k h2 (by omega)) _
    · rfl
theorem pj_own_ex {A B : pj_Q} (I : pj_IV A) {d : Int} (hd : pj_isD A d) (h : ∀ x, 0 ≤ x → x < 1024 → x ≠ 9 → (x < 10 ∨ 40 ≤ x ∨ x % 5 ≠ 4) → B x = A x) : pj_own B d = pj_own A d := by
  have hA := I.1
  have d0 := hd.1
  have d1 := hd.2
  have hD := I.2.2.2.1 d d0 d1
  have hm : pj_many B d = pj_many A d := h _ (by omega) (by omega) (by omega) (by omega)
  have hl : q_last B d = q_last A d := by
    unfold q_last
    rw [hm]
    by_cases e : pj_many A d = 0
    · rw [e]; rfl
    · exact pj_lst_ex hm (h _ (by omega) (by omega) (by omega) (by omega)) _ (fun k h0 h1 => ⟨h _ (by omega) (by omega) (by omega) (by omega), h _ (by omega) (by omega) (by omega) (by omega)⟩) 0
  unfold pj_own
  rw [hl, h 5 (by omega) (by omega) (by omega) (by omega)]
/-- what is kept -/
def pj_IK (A : pj_Q) : Prop := ∀ f : Int, pj_isF A f → 0 ≤ A (10 + 5 * f + 4) ∧ A (10 + 5 * f + 4) ≤ 8000 * A 6
def q_giv (g : Nat → Int) (n : Nat) (B : pj_Q) : pj_Q := pj_fo (fun f C => q_up C (10 + 5 * (f : Int) + 4) (C (10 + 5 * (f : Int) + 4) + g f)) n B
theorem q_giv_at {g : Nat → Int} {n f : Nat} {B : pj_Q} (h : f < n) : q_giv g n B (10 + 5 * (f : Int) + 4) = B (10 + 5 * (f : Int) + 4) + g f :=
  q_fo_at (a := fun f => 10 + 5 * (f : Int) + 4) (v := fun f c => c + g f) (fun i j h => by have h' : 10 + 5 * (i : Int) + 4 = 10 + 5 * (j : Int) + 4 := h; omega) h
theorem q_giv_ne {g : Nat → Int} {n : Nat} {B : pj_Q} {x : Int} (h : ∀ f : Nat, f < n → x ≠ 10 + 5 * (f : Int) + 4) : q_giv g n B x = B x :=
  q_fo_ne (a := fun f => 10 + 5 * (f : Int) + 4) (v := fun f c => c + g f) h
def q_fl1 (A : pj_Q) (n : Nat) : pj_Q := pj_fo (fun d C => q_giv (fun f => pj_share A f d) (A 1).toNat C) n A
theorem q_fl1_at {A : pj_Q} {n f : Nat} (h : f < (A 1).toNat) : q_fl1 A n (10 + 5 * (f : Int) + 4) = A (10 + 5 * (f : Int) + 4) + pj_sum (fun d => pj_share A f d) n := by
  induction n with
  | zero => exact (Int.add_zero _).symm
  | succ n ih =>
    show q_giv _ _ (q_fl1 A n) _ = _ + (pj_sum _ n + pj_share A f n)
    rw [q_giv_at h, ih]; omega
theorem q_fl1_ne {A : pj_Q} {n : Nat} {x : Int} (h : ∀ f : Nat, f < (A 1).toNat → x ≠ 10 + 5 * (f : Int) + 4) : q_fl1 A n x = A x := by
  induction n with
  | zero => rfl
  | succ n ih =>
    show q_giv _ _ (q_fl1 A n) _ = _
    rw [q_giv_ne h, ih]
def q_rt (A : pj_Q) (d : Int) (n : Nat) (B : pj_Q) : pj_Q := pj_fo (fun k C => q_up C (10 + 5 * pj_who A d k + 2) (C (10 + 5 * pj_who A d k + 2) + 1)) n B
theorem q_rt_ne {A : pj_Q} {d : Int} {n : Nat} {B : pj_Q} {x : Int} (h : ∀ k : Nat, k < n → x ≠ 10 + 5 * pj_who A d k + 2) : q_rt A d n B x = B x := by
  induction n with
  | zero => rfl
  | succ n ih =>
    show q_up (q_rt A d n B) _ _ x = _
    rw [q_up_ne _ _ (h n (by omega)), ih (fun i hi => h i (by omega))]
theorem q_rt_at {A : pj_Q} {d : Int} {n : Nat} {B : pj_Q} {f : Int} : q_rt A d n B (10 + 5 * f + 2) = B (10 + 5 * f + 2) + pj_sum (fun k => if pj_who A d k = f then 1 else 0) n := by
  induction n with
  | zero => exact (Int.add_zero _).symm
  | succ n ih =>
    show q_up (q_rt A d n B) _ _ _ = _ + (pj_sum _ n + if pj_who A d n = f then 1 else 0)
    by_cases c : pj_who A d n = f
    · rw [if_pos c, c, q_up_at]
      show q_rt A d n B (10 + 5 * f + 2) + 1 = _
      rw [ih]; omega
    · rw [if_neg c, q_up_ne _ _ (by omega), ih]; omega
def q_fl2 (A : pj_Q) (n : Nat) (B : pj_Q) : pj_Q := pj_fo (fun d C => q_up (q_rt A d (pj_many A d).toNat C) (40 + 3 * (d : Int) + 2) 0) n B
theorem q_fl2_at {A : pj_Q} {n : Nat} {B : pj_Q} {f : Int} (hf : 0 ≤ f) (hf2 : f < 6) : q_fl2 A n B (10 + 5 * f + 2) = B (10 + 5 * f + 2) + pj_sum (fun d => pj_tal A f d) n := by
  induction n with
  | zero => exact (Int.add_zero _).symm
  | succ n ih =>
    show q_up (q_rt A n _ (q_fl2 A n B)) _ _ _ = _ + (pj_sum _ n + pj_tal A f n)
    rw [q_up_ne _ _ (by omega), q_rt_at, ih]
    unfold pj_tal
    omega
theorem q_fl2_ne {A : pj_Q} (I : pj_IV A) {n : Nat} (hn : (n : Int) ≤ A 2) {B : pj_Q} {x : Int} (h1 : ∀ f : Int, pj_isF A f → x ≠ 10 + 5 * f + 2) (h2 : ∀ d : Nat, d < n → x ≠ 40 + 3 * (d : Int) + 2) : q_fl2 A n B x = B x := by
  induction n with
  | zero => rfl
  | succ n ih =>
    show q_up (q_rt A n _ (q_fl2 A n B)) _ _ x = _
    have hD := I.2.2.2.1 n (by omega) (by omega)
    rw [q_up_ne _ _ (h2 n (by omega)), q_rt_ne (fun k hk => h1 _ (by have := I.2.2.2.2.1 n k (by omega) (by omega) (by omega) (by omega); exact ⟨this.1, this.2.1⟩)), ih (by omega) (fun d hd => h2 d (by omega))]
theorem q_fl2_many {A : pj_Q} (I : pj_IV A) {n : Nat} (hn : (n : Int) ≤ A 2) {B : pj_Q} {d : Nat} (hd : d < n) : q_fl2 A n B (40 + 3 * (d : Int) + 2) = 0 := by
  have hA := I.1
  induction n with
  | zero => omega
  | succ n ih =>
    show q_up (q_rt A n _ (q_fl2 A n B)) _ _ _ = _
    by_cases e : d = n
    · rw [e, q_up_at]
    · have hD := I.2.2.2.1 n (by omega) (by omega)
      rw [q_up_ne _ _ (by omega), q_rt_ne (fun k hk => by have := I.2.2.2.2.1 n k (by omega) (by omega) (by omega) (by omega); omega), ih (by omega) (by omega)]
def q_clk (n : Nat) (B : pj_Q) : pj_Q := pj_fo (fun f C => q_up C (10 + 5 * (f : Int) + 3) 0) n B
theorem q_clk_at {n f : Nat} {B : pj_Q} (h : f < n) : q_clk n B (10 + 5 * (f : Int) + 3) = 0 :=
  q_fo_at (a := fun f => 10 + 5 * (f : Int) + 3) (v := fun f c => 0) (fun i j h => by have h' : 10 + 5 * (i : Int) + 3 = 10 + 5 * (j : Int) + 3 := h; omega) h
theorem q_clk_ne {n : Nat} {B : pj_Q} {x : Int} (h : ∀ f : Nat, f < n → x ≠ 10 + 5 * (f : Int) + 3) : q_clk n B x = B x :=
  q_fo_ne (a := fun f => 10 + 5 * (f : Int) + 3) (v := fun f c => 0) h
def q_nxt (B : pj_Q) : pj_Q := q_up (q_up (q_up (q_up B 8 0) 7 0) 6 (B 6 + 1)) 3 (max 1 (B 3 - B 4))
def q_floods (A : pj_Q) : pj_Q := q_nxt (q_clk (A 1).toNat (q_fl2 A (A 2).toNat (q_fl1 A (A 2).toNat)))
theorem q_nxt_ne {B : pj_Q} {x : Int} (h : x ≠ 3) (h2 : x ≠ 6) (h3 : x ≠ 7) (h4 : x ≠ 8) : q_nxt B x = B x := by
  unfold q_nxt
  rw [q_up_ne _ _ h, q_up_ne _ _ h2, q_up_ne _ _ h3, q_up_ne _ _ h4]
theorem q_nxt_3 {B : pj_Q} : q_nxt B 3 = max 1 (B 3 - B 4) := q_up_at _ _ _
theorem q_nxt_6 {B : pj_Q} : q_nxt B 6 = B 6 + 1 := by
  unfold q_nxt
  rw [q_up_ne _ _ (by decide), q_up_at]
theorem q_nxt_7 {B : pj_Q} : q_nxt B 7 = 0 := by
  unfold q_nxt
  rw [q_up_ne _ _ (by decide), q_up_ne _ _ (by decide), q_up_at]
theorem q_nxt_8 {B : pj_Q} : q_nxt B 8 = 0 := by
  unfold q_nxt
  rw [q_up_ne _ _ (by decide), q_up_ne _ _ (by decide), q_up_ne _ _ (by decide), q_up_at]
/-- what the tide makes of all numbers -/
def q_tided (A B : pj_Q) : Prop :=
  (∀ x, (x < 10 → x ≠ 3 ∧ x ≠ 6 ∧ x ≠ 7 ∧ x ≠ 8) → (10 ≤ x → x < 40 → ∃ f : Int, x = 10 + 5 * f ∨ x = 10 + 5 * f + 1) → (40 ≤ x → x < 64 → ∃ d : Int, x = 40 + 3 * d ∨ x = 40 + 3 * d + 1) → B x = A x) ∧
  (B 3 = max 1 (A 3 - A 4) ∧ B 6 = A 6 + 1 ∧ B 7 = 0 ∧ B 8 = 0) ∧
  (∀ f : Int, pj_isF A f → B (10 + 5 * f + 2) = A (10 + 5 * f + 2) + pj_strewn A f ∧ B (10 + 5 * f + 3) = 0 ∧ B (10 + 5 * f + 4) = A (10 + 5 * f + 4) + pj_lead A f) ∧
  (∀ d : Int, pj_isD A d → pj_many B d = 0)
theorem q_floods_is {A : pj_Q} (I : pj_IV A) : q_tided A (q_floods A) := by
  have hA := I.1
  have n1 : ∀ x, (∀ f : Int, x ≠ 10 + 5 * f + 2 ∧ x ≠ 10 + 5 * f + 3 ∧ x ≠ 10 + 5 * f + 4) → (∀ d : Nat, d < (A 2).toNat → x ≠ 40 + 3 * (d : Int) + 2) → x ≠ 3 → x ≠ 6 → x ≠ 7 → x ≠ 8 → q_floods A x = A x := fun x h h2 h3 h6 h7 h8 => by
    unfold q_floods
    rw [q_nxt_ne h3 h6 h7 h8, q_clk_ne (fun f _ => (h f).2.1), q_fl2_ne I (by omega) (fun f _ => (h f).1) h2, q_fl1_ne (fun f _ => (h f).2.2)]
  refine ⟨fun x h1 h2 h3 => ?_, ⟨?_, ?_, ?_, ?_⟩, fun f hf => ⟨?_, ?_, ?_⟩, fun d hd => ?_⟩
  · by_cases c1 : x < 10
    · have := h1 c1
      unfold q_floods
      rw [q_nxt_ne (by omega) (by omega) (by omega) (by omega), q_clk_ne (fun f _ => by omega), q_fl2_ne I (by omega) (fun f hf => by have := hf.1; omega) (fun d _ => by omega), q_fl1_ne (fun f _ => by omega)]
    · by_cases c2 : x < 40
      · obtain ⟨f, hf⟩ := h2 (by omega) c2
        exact n1 x (fun g => by omega) (fun d hd => by omega) (by omega) (by omega) (by omega) (by omega)
      · have hn : ∀ d : Nat, d < (A 2).toNat → x ≠ 40 + 3 * (d : Int) + 2 := fun e he => by
          by_cases c3 : x < 64
          · obtain ⟨d, hd⟩ := h3 (by omega) c3
            omega
          · omega
        unfold q_floods
        rw [q_nxt_ne (by omega) (by omega) (by omega) (by omega), q_clk_ne (fun f _ => by omega), q_fl2_ne I (by omega) (fun f hf => by have := hf.2; omega) hn, q_fl1_ne (fun f _ => by omega)]
  · unfold q_floods
    rw [q_nxt_3, q_clk_ne (fun f _ => by omega), q_clk_ne (fun f _ => by omega), q_fl2_ne I (by omega) (fun f hf => by have := hf.1; omega) (fun d _ => by omega), q_fl2_ne I (by omega) (fun f hf => by have := hf.1; omega) (fun d _ => by omega), q_fl1_ne (fun f _ => by omega), q_fl1_ne (fun f _ => by omega)]
  · unfold q_floods
    rw [q_nxt_6, q_clk_ne (fun f _ => by omega), q_fl2_ne I (by omega) (fun f hf => by have := hf.1; omega) (fun d _ => by omega), q_fl1_ne (fun f _ => by omega)]
  · unfold q_floods; rw [q_nxt_7]
  · unfold q_floods; rw [q_nxt_8]
  · have := hf.1
    have := hf.2
    unfold q_floods pj_strewn
    rw [q_nxt_ne (by omega) (by omega) (by omega) (by omega), q_clk_ne (fun g _ => by omega), q_fl2_at (by omega) (by omega), q_fl1_ne (fun g _ => by omega)]
  · have := hf.1
    have := hf.2
    unfold q_floods
    rw [q_nxt_ne (by omega) (by omega) (by omega) (by omega)]
    have := q_clk_at (n := (A 1).toNat) (f := f.toNat) (B := q_fl2 A (A 2).toNat (q_fl1 A (A 2).toNat)) (by omega)
    rwa [Int.toNat_of_nonneg hf.1] at this
  · have := hf.1
    have := hf.2
    unfold q_floods pj_lead
    rw [q_nxt_ne (by omega) (by omega) (by omega) (by omega), q_clk_ne (fun g _ => by omega), q_fl2_ne I (by omega) (fun g _ => by omega) (fun d _ => by omega)]
    have := q_fl1_at (A := A) (n := (A 2).toNat) (f := f.toNat) (by omega)
    rwa [Int.toNat_of_nonneg hf.1] at this
  · have := hd.1
    have := hd.2
    unfold pj_many q_floods
    rw [q_nxt_ne (by omega) (by omega) (by omega) (by omega), q_clk_ne (fun g _ => by omega)]
    have := q_fl2_many I (n := (A 2).toNat) (by omega) (B := q_fl1 A (A 2).toNat) (d := d.toNat) (by omega)
    rwa [Int.toNat_of_nonneg hd.1] at this
