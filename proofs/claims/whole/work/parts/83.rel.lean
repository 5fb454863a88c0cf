/-! WHAT CLASS AND MODEL HAVE IN COMMON -/
def pj_nc (l : List Nat) : Prop := 1 ≤ l.length ∧ l.length ≤ 8 ∧ ∀ c ∈ l, 97 ≤ c ∧ c ≤ 122
def pj_n5 (l : List Nat) : Int := l.foldl (fun (a : Int) (c : Nat) => a * 32 + ((c : Int) - 96)) 0
def pj_n8 (l : List Nat) : Int := l.foldl (fun (a : Int) (c : Nat) => a * 256 + (c : Int)) 0
/-- a name, as the class and as the model holds it -/
def pj_nm (x y : Int) : Prop := ∃ l, pj_nc l ∧ x = pj_n5 l ∧ y = pj_n8 l
def pj_RN (b : Int) (w : pj_W) (base : Int) (A : pj_Q) : Prop := (∀ f : Int, pj_isF A f → pj_nm (w 22 (6 * b + f) 0) (w 61 0 (base + f))) ∧ ∀ d : Int, pj_isD A d → pj_nm (w 23 (8 * b + d) 2) (w 61 0 (base + 6 + d))
/-- a row of the days: words of the class, which row, its numbers; the model's numbers -/
def pj_row (A : pj_Q) (n : Int) (W : Int → Int) (k F S T P c0 c1 c2 c4 c5 : Int) : Prop :=
  (W k = 18 ∧ c0 = 18 ∧ F = c1 ∧ S = c2 ∧ pj_isF A F ∧ 0 ≤ S ∧ S < A 0) ∨
  ((W k = 19 ∧ c0 = 19 ∨ W k = 21 ∧ c0 = 21) ∧ F = c1 ∧ S = c2 ∧ pj_isF A F ∧ pj_isD A S) ∨
  (W k = 20 ∧ c0 = 20 ∧ F = c1 ∧ S = c2 ∧ pj_isF A F ∧ 1 ≤ S ∧ S ≤ 240) ∨
  (W k = 22 ∧ c0 = 22 ∧ F = c1 ∧ 0 ≤ F ∧ F ≤ 16) ∨
  (W k = 23 ∧ c0 = 23 ∧ F = c1 ∧ 0 ≤ F ∧ F ≤ 40) ∨
  (W k = 1 ∧ c0 = 1) ∨
  (W k = 27 ∧ c0 = 25 ∧ F = c1 ∧ 1 ≤ F ∧ F ≤ 99) ∨
  (W k = 29 ∧ c0 = 27) ∨
  (W k = 28 ∧ c0 = 26 ∧ P = c4 ∧ 0 ≤ P ∧ P < k ∧ (W (P + 1) = 28 → P + 1 = k)) ∨
  (W k = 25 ∧ c0 = 2428 ∧ F = c1 ∧ S = c2 ∧ T = c5 ∧ pj_isF A F ∧ P = c4 ∧ k < P ∧ P < n) ∨
  (W k = 15 ∧ c0 = 2415 ∧ F = c1 ∧ S = c2 ∧ pj_isF A F ∧ pj_isD A S ∧ P = c4 ∧ k < P ∧ P < n) ∨
  (W k = 26 ∧ c0 = 2429 ∧ S = c1 ∧ pj_isD A S ∧ P = c4 ∧ k < P ∧ P < n)
def pj_RD (d : Int) (w : pj_W) (A : pj_Q) : Prop :=
  (0 ≤ w 24 d 7 ∧ w 24 d 7 ≤ 60) ∧ ((w 24 d 5 = 0 ∧ A 9 = -1) ∨ (w 24 d 5 = 1 ∧ A 9 = w 24 d 7 ∧ ∀ k : Int, 0 ≤ k → k < A 9 → pj_row A (A 9) (w 47 d) k (w 48 d k) (w 49 d k) (w 50 d k) (w 51 d k) (A (1030 + 6 * k)) (A (1030 + 6 * k + 1)) (A (1030 + 6 * k + 2)) (A (1030 + 6 * k + 4)) (A (1030 + 6 * k + 5))))
def pj_RX (b d base : Int) (w : pj_W) (A : pj_Q) : Prop := pj_IV A ∧ pj_IK A ∧ pj_RB b w A ∧ pj_RN b w base A ∧ pj_RD d w A
theorem pj_RB.ex {b : Int} {w w' : pj_W} {A : pj_Q} (R : pj_RB b w A) (I : pj_IV A) (h : ∀ k i s, pj_in b k i → w' k i s = w k i s) : pj_RB b w' A := by
  have hA := I.1
  obtain ⟨R0, RF, RD, RK⟩ := R
  refine ⟨?_, fun f hf => ?_, fun d hd => ?_, fun d k hd hk hk2 => ?_⟩
  · have e : ∀ s, w' 19 b s = w 19 b s := fun s => h 19 b s (Or.inl ⟨rfl, rfl⟩)
    rw [e, e, e, e, e, e, e]; exact R0
  · have e : ∀ s, w' 22 (6 * b + f) s = w 22 (6 * b + f) s := fun s => h 22 _ s (Or.inr (Or.inl ⟨rfl, by have := hf.1; omega, by have := hf.2; omega⟩))
    rw [e, e, e, e, e]; exact RF f hf
  · have e : ∀ s, w' 23 (8 * b + d) s = w 23 (8 * b + d) s := fun s => h 23 _ s (Or.inr (Or.inr ⟨Or.inl rfl, by have := hd.1; omega, by have := hd.2; omega⟩))
    rw [e, e, e, e]; exact RD d hd
  · rw [h 45 _ k (Or.inr (Or.inr ⟨Or.inr (Or.inl rfl), by have := hd.1; omega, by have := hd.2; omega⟩)), h 46 _ k (Or.inr (Or.inr ⟨Or.inr (Or.inr rfl), by have := hd.1; omega, by have := hd.2; omega⟩))]
    exact RK d k hd hk hk2
theorem pj_RB.exA {b : Int} {w : pj_W} {A B : pj_Q} (R : pj_RB b w A) (I : pj_IV A) (h : ∀ x, 0 ≤ x → x < 1024 → x ≠ 9 → B x = A x) : pj_RB b w B := by
  have hA := I.1
  obtain ⟨R0, RF, RD, RK⟩ := R
  have e1 : B 1 = A 1 := h 1 (by omega) (by omega) (by omega)
  have e2 : B 2 = A 2 := h 2 (by omega) (by omega) (by omega)
  have e7 : B 7 = A 7 := h 7 (by omega) (by omega) (by omega)
  refine ⟨?_, fun f hf => ?_, fun d hd => ?_, fun d k hd hk hk2 => ?_⟩
  · rw [h 0 (by omega) (by omega) (by omega), e1, e2, h 3 (by omega) (by omega) (by omega), h 4 (by omega) (by omega) (by omega), h 5 (by omega) (by omega) (by omega), h 6 (by omega) (by omega) (by omega)]; exact R0
  · rw [pj_isF, e1] at hf
    have := hf.1
    have := hf.2
    rw [h (10 + 5 * f) (by omega) (by omega) (by omega), h (10 + 5 * f + 1) (by omega) (by omega) (by omega), h (10 + 5 * f + 2) (by omega) (by omega) (by omega), h (10 + 5 * f + 3) (by omega) (by omega) (by omega), h (10 + 5 * f + 4) (by omega) (by omega) (by omega)]
    exact RF f hf
  · rw [pj_isD, e2] at hd
    have := hd.1
    have := hd.2
    unfold pj_there
    rw [e7, show pj_many B d = pj_many A d from h _ (by omega) (by omega) (by omega), h (40 + 3 * d) (by omega) (by omega) (by omega), h (40 + 3 * d + 1) (by omega) (by omega) (by omega)]
    exact RD d hd
  · rw [pj_isD, e2] at hd
    have := hd.1
    have := hd.2
    have hD := I.2.2.2.1 d hd.1 hd.2
    rw [show pj_many B d = pj_many A d from h _ (by omega) (by omega) (by omega)] at hk2
    rw [show pj_who B d k = pj_who A d k from h _ (by omega) (by omega) (by omega), show pj_min B d k = pj_min A d k from h _ (by omega) (by omega) (by omega)]
    exact RK d k hd hk hk2
theorem pj_IK.exA {A B : pj_Q} (I : pj_IV A) (K : pj_IK A) (h : ∀ x, 0 ≤ x → x < 1024 → x ≠ 9 → B x = A x) : pj_IK B := fun f hf => by
  have hA := I.1
  rw [pj_isF, h 1 (by omega) (by omega) (by omega)] at hf
  have := hf.1
  have := hf.2
  rw [h (10 + 5 * f + 4) (by omega) (by omega) (by omega), h 6 (by omega) (by omega) (by omega)]
  exact K f hf
theorem pj_RN.ex {b base : Int} {w w' : pj_W} {A : pj_Q} (R : pj_RN b w base A) (I : pj_IV A) (h : ∀ i, 6 * b ≤ i → i < 6 * b + 6 → w' 22 i 0 = w 22 i 0) (h2 : ∀ i, 8 * b ≤ i → i < 8 * b + 8 → w' 23 i 2 = w 23 i 2) (h3 : ∀ s, base ≤ s → s < base + 14 → w' 61 0 s = w 61 0 s) : pj_RN b w' base A := by
  have hA := I.1
  refine ⟨fun f hf => ?_, fun d hd => ?_⟩
  · have := hf.1
    have := hf.2
    rw [h _ (by omega) (by omega), h3 _ (by omega) (by omega)]; exact R.1 f hf
  · have := hd.1
    have := hd.2
    rw [h2 _ (by omega) (by omega), h3 _ (by omega) (by omega)]; exact R.2 d hd
theorem pj_RN.exA {b base : Int} {w : pj_W} {A B : pj_Q} (R : pj_RN b w base A) (h1 : B 1 = A 1) (h2 : B 2 = A 2) : pj_RN b w base B :=
  ⟨fun f hf => R.1 f (by rw [pj_isF, h1] at hf; exact hf), fun d hd => R.2 d (by rw [pj_isD, h2] at hd; exact hd)⟩
theorem pj_RD.ex {d : Int} {w w' : pj_W} {A : pj_Q} (R : pj_RD d w A) (h : ∀ k s, k = 24 ∨ k = 47 ∨ k = 48 ∨ k = 49 ∨ k = 50 ∨ k = 51 → w' k d s = w k d s) : pj_RD d w' A := by
  have e47 : w' 47 d = w 47 d := funext fun s => h 47 s (by omega)
  unfold pj_RD at R ⊢
  rw [h 24 7 (by omega), h 24 5 (by omega), e47]
  refine ⟨R.1, R.2.imp id fun r => ⟨r.1, r.2.1, fun k h0 h1 => ?_⟩⟩
  rw [h 48 k (by omega), h 49 k (by omega), h 50 k (by omega), h 51 k (by omega)]
  exact r.2.2 k h0 h1
theorem pj_row.exA {A B : pj_Q} {n : Int} {W : Int → Int} {k F S T P c0 c1 c2 c4 c5 : Int} (h0 : B 0 = A 0) (h1 : B 1 = A 1) (h2 : B 2 = A 2) (r : pj_row A n W k F S T P c0 c1 c2 c4 c5) : pj_row B n W k F S T P c0 c1 c2 c4 c5 := by
  unfold pj_row at r ⊢
  unfold pj_isF pj_isD at r ⊢
  rw [h0, h1, h2]
  exact r
theorem pj_RD.exA {d : Int} {w : pj_W} {A B : pj_Q} (R : pj_RD d w A) (h0 : B 0 = A 0) (h1 : B 1 = A 1) (h2 : B 2 = A 2) (h9 : B 9 = A 9) (h : ∀ x, 1030 ≤ x → x < 1400 → B x = A x) : pj_RD d w B := by
  refine ⟨R.1, R.2.imp (fun r => ⟨r.1, by rw [h9]; exact r.2⟩) fun r => ⟨r.1, by rw [h9]; exact r.2.1, fun k hk hk2 => ?_⟩⟩
  have hb := R.1
  have e9 := r.2.1
  rw [h9] at hk2
  rw [h9, h _ (by omega) (by omega), h _ (by omega) (by omega), h _ (by omega) (by omega), h _ (by omega) (by omega), h _ (by omega) (by omega)]
  exact (r.2.2 k hk hk2).exA h0 h1 h2
/-- the cells that a beach with its days stands in -/
def pj_ix (b d base : Int) (k : Nat) (i s : Int) : Prop := pj_in b k i ∨ ((k = 24 ∨ k = 47 ∨ k = 48 ∨ k = 49 ∨ k = 50 ∨ k = 51) ∧ i = d) ∨ (k = 61 ∧ i = 0 ∧ base ≤ s ∧ s < base + 14)
theorem pj_RX.ex {b d base : Int} {w w' : pj_W} {A : pj_Q} (R : pj_RX b d base w A) (h : ∀ k i s, pj_ix b d base k i s → w' k i s = w k i s) : pj_RX b d base w' A := by
  obtain ⟨I, K, RB, RN, RD⟩ := R
  exact ⟨I, K, RB.ex I (fun k i s hk => h k i s (Or.inl hk)), RN.ex I (fun i h0 h1 => h 22 i 0 (Or.inl (Or.inr (Or.inl ⟨rfl, h0, h1⟩)))) (fun i h0 h1 => h 23 i 2 (Or.inl (Or.inr (Or.inr ⟨Or.inl rfl, h0, h1⟩)))) (fun s h0 h1 => h 61 0 s (Or.inr (Or.inr ⟨rfl, rfl, h0, h1⟩))), RD.ex (fun k s hk => h k d s (Or.inr (Or.inl ⟨hk, rfl⟩)))⟩
theorem pj_RX.exA {b d base : Int} {w : pj_W} {A B : pj_Q} (R : pj_RX b d base w A) (h : ∀ x, 0 ≤ x → x < 1400 → B x = A x) : pj_RX b d base w B := by
  obtain ⟨I, K, RB, RN, RD⟩ := R
  exact ⟨I.ex (fun x h0 h1 _ _ => h x h0 (by omega)), K.exA I (fun x h0 h1 _ => h x h0 (by omega)), RB.exA I (fun x h0 h1 _ => h x h0 (by omega)), RN.exA (h 1 (by omega) (by omega)) (h 2 (by omega) (by omega)), RD.exA (h 0 (by omega) (by omega)) (h 1 (by omega) (by omega)) (h 2 (by omega) (by omega)) (h 9 (by omega) (by omega)) (fun x h0 h1 => h x (by omega) h1)⟩
def pj_cb4 (b c : Int) (w w' : pj_W) (nf nd : Int) : Prop :=
  (∀ s : Int, 2 ≤ s → s ≤ 9 → w' 19 b s = w 19 c s) ∧
  (∀ f s : Int, 0 ≤ f → f < nf → 0 ≤ s → s ≤ 5 → w' 22 (6 * b + f) s = w 22 (6 * c + f) s) ∧
  (∀ d s : Int, 0 ≤ d → d < nd → 2 ≤ s → s ≤ 6 → w' 23 (8 * b + d) s = w 23 (8 * c + d) s) ∧
  (∀ d k : Int, 0 ≤ d → d < nd → 0 ≤ k → k < w 23 (8 * c + d) 6 → w' 45 (8 * b + d) k = w 45 (8 * c + d) k ∧ w' 46 (8 * b + d) k = w 46 (8 * c + d) k)
/-- the class takes beach and days over from others -/
theorem pj_RX.cb {b c d e base : Int} {w w' : pj_W} {A : pj_Q} (R : pj_RX c e base w A) (hcb : pj_cb4 b c w w' (A 1) (A 2)) (h61 : ∀ s, w' 61 0 s = w 61 0 s) (hd : w' 24 d 5 = w 24 e 5 ∧ w' 24 d 7 = w 24 e 7) (hD : ∀ k : Int, 0 ≤ k → k < w 24 e 7 → w' 47 d k = w 47 e k ∧ w' 48 d k = w 48 e k ∧ w' 49 d k = w 49 e k ∧ w' 50 d k = w 50 e k ∧ w' 51 d k = w 51 e k) : pj_RX b d base w' A := by
  obtain ⟨I, K, RB, RN, RD⟩ := R
  have hA := I.1
  obtain ⟨c1, c2, c3, c4⟩ := hcb
  refine ⟨I, K, ⟨?_, fun f hf => ?_, fun x hx => ?_, fun x k hx hk hk2 => ?_⟩, ⟨fun f hf => ?_, fun x hx => ?_⟩, ?_⟩
  · rw [c1 2 (by omega) (by omega), c1 3 (by omega) (by omega), c1 4 (by omega) (by omega), c1 5 (by omega) (by omega), c1 6 (by omega) (by omega), c1 7 (by omega) (by omega), c1 8 (by omega) (by omega)]
    exact RB.1
  · rw [c2 f 1 hf.1 hf.2 (by omega) (by omega), c2 f 2 hf.1 hf.2 (by omega) (by omega), c2 f 3 hf.1 hf.2 (by omega) (by omega), c2 f 4 hf.1 hf.2 (by omega) (by omega), c2 f 5 hf.1 hf.2 (by omega) (by omega)]
    exact RB.2.1 f hf
  · rw [c3 x 3 hx.1 hx.2 (by omega) (by omega), c3 x 4 hx.1 hx.2 (by omega) (by omega), c3 x 5 hx.1 hx.2 (by omega) (by omega), c3 x 6 hx.1 hx.2 (by omega) (by omega)]
    exact RB.2.2.1 x hx
  · have h6 := (RB.2.2.1 x hx).2.2.2
    have := c4 x k hx.1 hx.2 hk (by rw [h6]; exact hk2)
    rw [this.1, this.2]
    exact RB.2.2.2 x k hx hk hk2
  · rw [c2 f 0 hf.1 hf.2 (by omega) (by omega), h61]; exact RN.1 f hf
  · rw [c3 x 2 hx.1 hx.2 (by omega) (by omega), h61]; exact RN.2 x hx
  · refine ⟨by rw [hd.2]; exact RD.1, RD.2.imp (fun r => ⟨by rw [hd.1]; exact r.1, r.2⟩) fun r => ⟨by rw [hd.1]; exact r.1, by rw [hd.2]; exact r.2.1, fun k hk hk2 => ?_⟩⟩
    have e9 := r.2.1
    have hk3 := hD k hk (by omega)
    have hr := r.2.2 k hk hk2
    rw [hk3.2.1, hk3.2.2.1, hk3.2.2.2.1, hk3.2.2.2.2]
    unfold pj_row at hr ⊢
    rw [hk3.1]
    by_cases hP : 0 ≤ w 51 e k ∧ w 51 e k < k
    · rw [(hD (w 51 e k + 1) (by omega) (by omega)).1]
      exact hr
    · rcases hr with h | h | h | h | h | h | h | h | h | h | h | h
      · exact Or.inl h
      · exact Or.inr (Or.inl h)
      · exact Or.inr (Or.inr (Or.inl h))
      · exact Or.inr (Or.inr (Or.inr (Or.inl h)))
      · exact Or.inr (Or.inr (Or.inr (Or.inr (Or.inl h))))
      · exact Or.inr (Or.inr (Or.inr (Or.inr (Or.inr (Or.inl h)))))
      · exact Or.inr (Or.inr (Or.inr (Or.inr (Or.inr (Or.inr (Or.inl h))))))
      · exact Or.inr (Or.inr (Or.inr (Or.inr (Or.inr (Or.inr (Or.inr (Or.inl h)))))))
      · exact absurd ⟨h.2.2.2.1, h.2.2.2.2.1⟩ hP
      · exact Or.inr (Or.inr (Or.inr (Or.inr (Or.inr (Or.inr (Or.inr (Or.inr (Or.inr (Or.inl h)))))))))
      · exact Or.inr (Or.inr (Or.inr (Or.inr (Or.inr (Or.inr (Or.inr (Or.inr (Or.inr (Or.inr (Or.inl h))))))))))
      · exact Or.inr (Or.inr (Or.inr (Or.inr (Or.inr (Or.inr (Or.inr (Or.inr (Or.inr (Or.inr (Or.inr h))))))))))
