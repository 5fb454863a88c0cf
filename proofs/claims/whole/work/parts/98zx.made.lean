/-! THE START: all is made; what both have in common then (printed by wip/whole/start.py) -/
theorem fi_10 {s : Nat} {i t : Int} (h : pj_fi 10 s i = some t) : (s : Int) ≤ 8 ∧ t = 0 := by
  match s, h with
  | 0, h => exact ⟨by decide, (Option.some.inj (show some (0 : Int) = some t from h)).symm⟩
  | 1, h => exact ⟨by decide, (Option.some.inj (show some (0 : Int) = some t from h)).symm⟩
  | 2, h => exact ⟨by decide, (Option.some.inj (show some (0 : Int) = some t from h)).symm⟩
  | 3, h => exact ⟨by decide, (Option.some.inj (show some (0 : Int) = some t from h)).symm⟩
  | 4, h => exact ⟨by decide, (Option.some.inj (show some (0 : Int) = some t from h)).symm⟩
  | 5, h => exact ⟨by decide, (Option.some.inj (show some (0 : Int) = some t from h)).symm⟩
  | 6, h => exact ⟨by decide, (Option.some.inj (show some (0 : Int) = some t from h)).symm⟩
  | 7, h => exact ⟨by decide, (Option.some.inj (show some (0 : Int) = some t from h)).symm⟩
  | 8, h => exact ⟨by decide, (Option.some.inj (show some (0 : Int) = some t from h)).symm⟩
  | n + 9, h => exact absurd (show (none : Option Int) = some t from h) (by simp)
theorem fi_12 {s : Nat} {i t : Int} (h : pj_fi 12 s i = some t) : (s : Int) ≤ 4 ∧ t = 0 := by
  match s, h with
  | 0, h => exact ⟨by decide, (Option.some.inj (show some (0 : Int) = some t from h)).symm⟩
  | 1, h => exact ⟨by decide, (Option.some.inj (show some (0 : Int) = some t from h)).symm⟩
  | 2, h => exact ⟨by decide, (Option.some.inj (show some (0 : Int) = some t from h)).symm⟩
  | 3, h => exact ⟨by decide, (Option.some.inj (show some (0 : Int) = some t from h)).symm⟩
  | 4, h => exact ⟨by decide, (Option.some.inj (show some (0 : Int) = some t from h)).symm⟩
  | n + 5, h => exact absurd (show (none : Option Int) = some t from h) (by simp)
theorem fi_13 {s : Nat} {i t : Int} (h : pj_fi 13 s i = some t) : (s : Int) ≤ 0 ∧ t = 0 := by
  match s, h with
  | 0, h => exact ⟨by decide, (Option.some.inj (show some (0 : Int) = some t from h)).symm⟩
  | n + 1, h => exact absurd (show (none : Option Int) = some t from h) (by simp)
theorem fi_14 {s : Nat} {i t : Int} (h : pj_fi 14 s i = some t) : (s : Int) ≤ 1 ∧ t = 0 := by
  match s, h with
  | 0, h => exact ⟨by decide, (Option.some.inj (show some (0 : Int) = some t from h)).symm⟩
  | 1, h => exact ⟨by decide, (Option.some.inj (show some (0 : Int) = some t from h)).symm⟩
  | n + 2, h => exact absurd (show (none : Option Int) = some t from h) (by simp)
theorem fi_17 {s : Nat} {i t : Int} (h : pj_fi 17 s i = some t) : (s : Int) ≤ 5 ∧ t = 0 := by
  match s, h with
  | 0, h => exact ⟨by decide, (Option.some.inj (show some (0 : Int) = some t from h)).symm⟩
  | 1, h => exact ⟨by decide, (Option.some.inj (show some (0 : Int) = some t from h)).symm⟩
  | 2, h => exact ⟨by decide, (Option.some.inj (show some (0 : Int) = some t from h)).symm⟩
  | 3, h => exact ⟨by decide, (Option.some.inj (show some (0 : Int) = some t from h)).symm⟩
  | 4, h => exact ⟨by decide, (Option.some.inj (show some (0 : Int) = some t from h)).symm⟩
  | 5, h => exact ⟨by decide, (Option.some.inj (show some (0 : Int) = some t from h)).symm⟩
  | n + 6, h => exact absurd (show (none : Option Int) = some t from h) (by simp)
theorem fi_18 {s : Nat} {i t : Int} (h : pj_fi 18 s i = some t) : (s : Int) ≤ 1 ∧ t = 0 := by
  match s, h with
  | 0, h => exact ⟨by decide, (Option.some.inj (show some (0 : Int) = some t from h)).symm⟩
  | 1, h => exact ⟨by decide, (Option.some.inj (show some (0 : Int) = some t from h)).symm⟩
  | n + 2, h => exact absurd (show (none : Option Int) = some t from h) (by simp)
theorem fi_19 {s : Nat} {i t : Int} (h : pj_fi 19 s i = some t) : (s : Int) ≤ 1 ∧ t = i := by
  match s, h with
  | 0, h => exact ⟨by decide, (Option.some.inj (show some (i : Int) = some t from h)).symm⟩
  | 1, h => exact ⟨by decide, (Option.some.inj (show some (i : Int) = some t from h)).symm⟩
  | n + 2, h => exact absurd (show (none : Option Int) = some t from h) (by simp)
theorem fi_23 {s : Nat} {i t : Int} (h : pj_fi 23 s i = some t) : (s : Int) ≤ 1 ∧ t = i := by
  match s, h with
  | 0, h => exact ⟨by decide, (Option.some.inj (show some (i : Int) = some t from h)).symm⟩
  | 1, h => exact ⟨by decide, (Option.some.inj (show some (i : Int) = some t from h)).symm⟩
  | n + 2, h => exact absurd (show (none : Option Int) = some t from h) (by simp)
theorem fi_24 {s : Nat} {i t : Int} (h : pj_fi 24 s i = some t) : (s : Int) ≤ 4 ∧ t = i := by
  match s, h with
  | 0, h => exact ⟨by decide, (Option.some.inj (show some (i : Int) = some t from h)).symm⟩
  | 1, h => exact ⟨by decide, (Option.some.inj (show some (i : Int) = some t from h)).symm⟩
  | 2, h => exact ⟨by decide, (Option.some.inj (show some (i : Int) = some t from h)).symm⟩
  | 3, h => exact ⟨by decide, (Option.some.inj (show some (i : Int) = some t from h)).symm⟩
  | 4, h => exact ⟨by decide, (Option.some.inj (show some (i : Int) = some t from h)).symm⟩
  | n + 5, h => exact absurd (show (none : Option Int) = some t from h) (by simp)
theorem fi_25 {s : Nat} {i t : Int} (h : pj_fi 25 s i = some t) : (s : Int) ≤ 0 ∧ t = i := by
  match s, h with
  | 0, h => exact ⟨by decide, (Option.some.inj (show some (i : Int) = some t from h)).symm⟩
  | n + 1, h => exact absurd (show (none : Option Int) = some t from h) (by simp)
theorem fi_26 {s : Nat} {i t : Int} (h : pj_fi 26 s i = some t) (hs : s < 38) : (s = 0 ∨ s = 1 ∨ s = 5 ∨ s = 6 ∨ s = 7 ∨ s = 8 ∨ s = 9 ∨ s = 22 ∨ s = 25 ∨ s = 26 ∨ s = 27 ∨ s = 28 ∨ s = 33 ∨ s = 34 ∨ s = 35) ∧ t = 0 := by
  match s, h with
  | 0, h => exact ⟨by decide, (Option.some.inj (show some (0 : Int) = some t from h)).symm⟩
  | 1, h => exact ⟨by decide, (Option.some.inj (show some (0 : Int) = some t from h)).symm⟩
  | 2, h => exact absurd (show (none : Option Int) = some t from h) (by simp)
  | 3, h => exact absurd (show (none : Option Int) = some t from h) (by simp)
  | 4, h => exact absurd (show (none : Option Int) = some t from h) (by simp)
  | 5, h => exact ⟨by decide, (Option.some.inj (show some (0 : Int) = some t from h)).symm⟩
  | 6, h => exact ⟨by decide, (Option.some.inj (show some (0 : Int) = some t from h)).symm⟩
  | 7, h => exact ⟨by decide, (Option.some.inj (show some (0 : Int) = some t from h)).symm⟩
  | 8, h => exact ⟨by decide, (Option.some.inj (show some (0 : Int) = some t from h)).symm⟩
  | 9, h => exact ⟨by decide, (Option.some.inj (show some (0 : Int) = some t from h)).symm⟩
  | 10, h => exact absurd (show (none : Option Int) = some t from h) (by simp)
  | 11, h => exact absurd (show (none : Option Int) = some t from h) (by simp)
  | 12, h => exact absurd (show (none : Option Int) = some t from h) (by simp)
  | 13, h => exact absurd (show (none : Option Int) = some t from h) (by simp)
  | 14, h => exact absurd (show (none : Option Int) = some t from h) (by simp)
  | 15, h => exact absurd (show (none : Option Int) = some t from h) (by simp)
  | 16, h => exact absurd (show (none : Option Int) = some t from h) (by simp)
  | 17, h => exact absurd (show (none : Option Int) = some t from h) (by simp)
  | 18, h => exact absurd (show (none : Option Int) = some t from h) (by simp)
  | 19, h => exact absurd (show (none : Option Int) = some t from h) (by simp)
  | 20, h => exact absurd (show (none : Option Int) = some t from h) (by simp)
  | 21, h => exact absurd (show (none : Option Int) = some t from h) (by simp)
  | 22, h => exact ⟨by decide, (Option.some.inj (show some (0 : Int) = some t from h)).symm⟩
  | 23, h => exact absurd (show (none : Option Int) = some t from h) (by simp)
  | 24, h => exact absurd (show (none : Option Int) = some t from h) (by simp)
  | 25, h => exact ⟨by decide, (Option.some.inj (show some (0 : Int) = some t from h)).symm⟩
  | 26, h => exact ⟨by decide, (Option.some.inj (show some (0 : Int) = some t from h)).symm⟩
  | 27, h => exact ⟨by decide, (Option.some.inj (show some (0 : Int) = some t from h)).symm⟩
  | 28, h => exact ⟨by decide, (Option.some.inj (show some (0 : Int) = some t from h)).symm⟩
  | 29, h => exact absurd (show (none : Option Int) = some t from h) (by simp)
  | 30, h => exact absurd (show (none : Option Int) = some t from h) (by simp)
  | 31, h => exact absurd (show (none : Option Int) = some t from h) (by simp)
  | 32, h => exact absurd (show (none : Option Int) = some t from h) (by simp)
  | 33, h => exact ⟨by decide, (Option.some.inj (show some (0 : Int) = some t from h)).symm⟩
  | 34, h => exact ⟨by decide, (Option.some.inj (show some (0 : Int) = some t from h)).symm⟩
  | 35, h => exact ⟨by decide, (Option.some.inj (show some (0 : Int) = some t from h)).symm⟩
  | 36, h => exact absurd (show (none : Option Int) = some t from h) (by simp)
  | 37, h => exact absurd (show (none : Option Int) = some t from h) (by simp)
  | n + 38, h => omega
def vi_rg (k : Nat) (i : Int) : Prop := k ∈ ([10, 11, 12, 13, 14, 15, 16, 17, 18, 19, 20, 21, 22, 23, 24, 25, 26, 30, 31, 32, 33, 34, 35, 36, 37, 38, 39, 40, 41, 42, 43, 44, 45, 46, 47, 48, 49, 50, 51, 52, 60, 61, 62, 63, 64, 65, 66, 67, 68, 69, 70, 71, 72, 73, 74] : List Nat) ∧ (k = 19 ∨ k = 20 ∨ k = 21 ∨ k = 24 ∨ (47 ≤ k ∧ k ≤ 51) → 0 ≤ i ∧ i < 5) ∧ (k = 23 ∨ k = 45 ∨ k = 46 → 0 ≤ i ∧ i < 40) ∧ (k = 25 ∨ k = 52 → 0 ≤ i ∧ i < 4) ∧ (k ≤ 18 ∨ k = 26 → i = 0)
theorem vi_mem : ∀ q ∈ pj_L, vi_rg q.1 q.2 := by unfold vi_rg; decide +kernel
/-- nothing is made -/
def vi_w0 : pj_W := fun k _ s => pj_df (pj_tg k s.toNat)
theorem vi_n0 : pj_n vi_w0 = 0 := rfl
theorem vi_w0s {k : Nat} {i : Int} {s : Nat} {z : Int} (h : pj_df (pj_tg k s) = z) : vi_w0 k i (s : Int) = z := h
def vi_start (w : pj_W) : Prop := pj_n w = 243 ∧ (vi_XF w ∧ vi_MF w) ∧ pj_REL 0 w
theorem vi_all : ∃ w1 w2, fX_init_c (pj_up vi_w0) = some w1 ∧ pj_n w1 = 227 ∧ fM_init_c (pj_up w1) = some w2 ∧ vi_start w2 := by
  obtain ⟨w1, a1, a2, a3, a4, a5⟩ := vi_X (w := pj_up vi_w0) (vn_u vi_n0)
  obtain ⟨w2, b1, b2, b3, b4, b5⟩ := vi_M (w := pj_up w1) (vn_u a2)
  have g : ∀ k a s, k ≠ 0 → k ≠ 26 → k ≠ 63 → k ≠ 60 → w2 k a s = w1 k a s := fun k a s h0 h1 h2 h3 => by rw [b5 k a s h0 (by omega) (by omega) (by omega), vn_e h0]
  have z1 : ∀ (k : Nat) (a : Int) (s : Nat), ¬ vi_Xx k a s → pj_df (pj_tg k s) = 0 → w1 k a s = 0 := fun k a s hk hz => by
    rw [a5 k a s hk, vn_e (fun h => hk (Or.inl h))]; exact hz
  have z2 : ∀ (k : Nat) (a : Int) (s : Nat), ¬ vi_Xx k a s → ¬ (k = 26 ∧ a = 0 ∧ vi_My s) → k ≠ 63 → k ≠ 60 → pj_df (pj_tg k s) = 0 → w2 k a s = 0 := fun k a s hk h1 h2 h3 hz => by
    have h0 : k ≠ 0 := fun h => hk (Or.inl h)
    rw [b5 k a s h0 h1 (by omega) (by omega), vn_e h0]; exact z1 k a s hk hz
  obtain ⟨p1, p2, p3, p4, p5, p6, p7, p8⟩ := a3
  obtain ⟨⟨q10, q11, q12, q13, q17⟩, ⟨r6, r7⟩, rW, rN, rT⟩ := a4
  obtain ⟨⟨m4, m16, m17⟩, m63, m60⟩ := b4
  have g10 : ∀ s, w2 10 0 s = w1 10 0 s := fun s => g 10 0 s (by decide) (by decide) (by decide) (by decide)
  have gb : ∀ i k a s, vi_bx i k a → w2 k a s = w1 k a s := fun i k a s hk => by unfold vi_bx at hk; exact g k a s (by omega) (by omega) (by omega) (by omega)
  have A0 : w2 60 0 0 = 2 := m60 0 (by decide) (by decide)
  have A1 : w2 60 0 1 = 0 := m60 1 (by decide) (by decide)
  have A2 : w2 60 0 2 = 0 := m60 2 (by decide) (by decide)
  have A3 : w2 60 0 3 = 60 := m60 3 (by decide) (by decide)
  have A4 : w2 60 0 4 = 0 := m60 4 (by decide) (by decide)
  have A5 : w2 60 0 5 = 1 := m60 5 (by decide) (by decide)
  have A6 : w2 60 0 6 = 0 := m60 6 (by decide) (by decide)
  have A7 : w2 60 0 7 = 0 := m60 7 (by decide) (by decide)
  have A8 : w2 60 0 8 = 0 := m60 8 (by decide) (by decide)
  have A9 : w2 60 0 9 = -1 := m60 9 (by decide) (by decide)
  have y10 : ∀ s : Nat, (s = 9 ∨ s = 14 ∨ s = 15 ∨ s = 16) → w2 10 0 s = 0 := fun s hs => z2 10 0 s (by unfold vi_Xx; omega) (by omega) (by decide) (by decide) (by rcases hs with h | h | h | h <;> subst h <;> rfl)
  have y26 : ∀ s : Nat, (s = 2 ∨ s = 3 ∨ s = 10 ∨ s = 30 ∨ s = 36 ∨ s = 37) → w2 26 0 s = 0 := fun s hs => z2 26 0 s (by unfold vi_Xx; omega) (by unfold vi_My; omega) (by decide) (by decide) (by rcases hs with h | h | h | h | h | h <;> subst h <;> rfl)
  have y12 : w2 12 0 5 = 0 := z2 12 0 5 (by unfold vi_Xx; omega) (by omega) (by decide) (by decide) rfl
  have y17 : w2 17 0 6 = 0 := z2 17 0 6 (by unfold vi_Xx; omega) (by omega) (by decide) (by decide) rfl
  have y24 : ∀ s : Nat, (s = 5 ∨ s = 7) → w2 24 0 s = 0 := fun s hs => z2 24 0 s (by unfold vi_Xx; omega) (by omega) (by decide) (by decide) (by rcases hs with h | h <;> subst h <;> rfl)
  have ya : ∀ (k : Nat) (s : Int), (k = 43 ∨ k = 44 ∨ k = 72 ∨ k = 74) → 0 ≤ s → w2 k 0 s = 0 := fun k s hk hs => by
    have h := z2 k 0 s.toNat (by unfold vi_Xx; omega) (by omega) (by omega) (by omega) (by rcases hk with h | h | h | h <;> subst h <;> rfl)
    rw [show ((s.toNat : Nat) : Int) = s by omega] at h
    exact h
  refine ⟨w1, w2, a1, a2, b1, b2, ⟨⟨fun s s0 s1 => (g10 s).trans (p1 s s0 s1), fun s s0 s1 => (g 12 0 s (by decide) (by decide) (by decide) (by decide)).trans (p2 s s0 s1), ⟨(g 13 0 0 (by decide) (by decide) (by decide) (by decide)).trans p3.1, (g 14 0 0 (by decide) (by decide) (by decide) (by decide)).trans p3.2.1, (g 14 0 1 (by decide) (by decide) (by decide) (by decide)).trans p3.2.2⟩, fun s s0 s1 => (g 17 0 s (by decide) (by decide) (by decide) (by decide)).trans (p4 s s0 s1), fun s s0 s1 => (g 18 0 s (by decide) (by decide) (by decide) (by decide)).trans (p5 s s0 s1), fun i i0 i1 => ⟨(p6 i i0 i1).1.ex (gb i), (p6 i i0 i1).2.ex (fun s => g 24 i s (by decide) (by decide) (by decide) (by decide))⟩, fun i i0 i1 => ⟨(g 25 i 0 (by decide) (by decide) (by decide) (by decide)).trans (p7 i i0 i1).1, (g 11 0 i (by decide) (by decide) (by decide) (by decide)).trans (p7 i i0 i1).2⟩, fun i i0 i1 => ⟨(g 15 0 i (by decide) (by decide) (by decide) (by decide)).trans (p8 i i0 i1).1, (g 16 0 i (by decide) (by decide) (by decide) (by decide)).trans (p8 i i0 i1).2⟩⟩, b3⟩, ?_, ?_, ⟨?_, ?_, ?_⟩, ?_, ?_, ?_, ?_, ?_, ?_⟩
  · unfold pj_RC
    rw [g10, g10, g10, g10]
    exact ⟨Or.inl ⟨q10, q11⟩, Or.inl ⟨q12, q13⟩⟩
  · rw [g10, g10, q10, q12]
    obtain ⟨s2, s3, s4, s5, s6, s7, s8, _⟩ := rN
    have g19 : ∀ s, w2 19 0 s = w1 19 0 s := fun s => g 19 0 s (by decide) (by decide) (by decide) (by decide)
    refine ⟨⟨by omega, Or.inl (by rw [A2, A7]; rfl), fun f f0 f1 => by omega, fun d d0 d1 => by omega, fun d k d0 d1 => by omega, fun d k l d0 d1 => by omega, ⟨by rw [A2, A8]; rfl, by omega⟩, ?_⟩, fun f hf => ?_, ⟨?_, fun f hf => ?_, fun d hd => ?_, fun d k hd => ?_⟩, ⟨fun f hf => ?_, fun d hd => ?_⟩, ⟨?_, Or.inl ⟨y24 5 (by decide), A9⟩⟩⟩
    · rw [A1, A8]; exact (by decide : (0 : Int) + 0 ≤ 150)
    · have := hf.1; have := hf.2; omega
    · rw [g19, g19, g19, g19, g19, g19, g19, A0, A1, A2, A3, A4, A5, A6]
      exact ⟨s2, s3, s4, s5, s6, s7, s8⟩
    · have := hf.1; have := hf.2; omega
    · have := hd.1; have := hd.2; omega
    · have := hd.1; have := hd.2; omega
    · have := hf.1; have := hf.2; omega
    · have := hd.1; have := hd.2; omega
    · have := y24 7 (by decide)
      rw [show ((7 : Nat) : Int) = 7 from rfl] at this
      omega
  · exact (y10 15 (by decide)).trans (y26 2 (by decide)).symm
  · exact (y10 16 (by decide)).trans (y26 3 (by decide)).symm
  · rw [g10, q17, m4]
  · intro t t0 t1
    exact Or.inr ⟨(g 25 t 1 (by decide) (by decide) (by decide) (by decide)).trans (rT t t0 t1), m63 t t0 t1⟩
  · refine ⟨y12.trans (y26 10 (by decide)).symm, by omega, by omega, ?_, ?_, fun i i0 i1 => by omega, fun i hi => (g 34 0 i (by decide) (by decide) (by decide) (by decide)).trans (rW i hi)⟩
    · rw [g 12 0 6 (by decide) (by decide) (by decide) (by decide), r6, m16]
    · rw [g 12 0 7 (by decide) (by decide) (by decide) (by decide), r7, m17]
  · have e := y10 14 (by decide)
    rw [show ((14 : Nat) : Int) = 14 from rfl] at e
    exact ⟨e.trans (y26 37 (by decide)).symm, by omega, by omega, fun m m0 m1 => by omega⟩
  · exact ⟨y17.trans (y26 30 (by decide)).symm, by omega, by omega, fun k k0 k1 => by omega⟩
  · have e := y10 9 (by decide)
    rw [show ((9 : Nat) : Int) = 9 from rfl] at e
    exact ⟨e.trans (y26 36 (by decide)).symm, Or.inl e, fun k k0 k1 => (ya 44 k (by decide) k0).trans (ya 74 k (by decide) k0).symm⟩
  · intro k k0 k1
    have e := ya 43 k (by decide) k0
    have e2 := ya 72 k (by decide) k0
    exact Or.inr ⟨by omega, by omega, e2⟩
/-- what is set once holds what it shall -/
theorem vi_fin {w : pj_W} (h : vi_XF w ∧ vi_MF w) : ∀ (k : Nat) (i : Int) (s : Nat) (t : Int), (k, i) ∈ pj_L → s < pj_sz k → pj_fi k s i = some t → w k i s = t := by
  intro k i s t hm hs hf
  obtain ⟨⟨p1, p2, p3, p4, p5, p6, p7, p8⟩, m1, m2⟩ := h
  obtain ⟨hk, r1, r2, r3, r4⟩ := vi_mem (k, i) hm
  dsimp only at hk r1 r2 r3 r4
  simp only [List.mem_cons, List.not_mem_nil, or_false] at hk
  rcases hk with hk | hk | hk | hk | hk | hk | hk | hk | hk | hk | hk | hk | hk | hk | hk | hk | hk | hk | hk | hk | hk | hk | hk | hk | hk | hk | hk | hk | hk | hk | hk | hk | hk | hk | hk | hk | hk | hk | hk | hk | hk | hk | hk | hk | hk | hk | hk | hk | hk | hk | hk | hk | hk | hk | hk
  · subst hk
    obtain ⟨h1, h2⟩ := fi_10 hf; rw [h2, r4 (by decide)]; exact p1 s (by omega) (by omega)
  · subst hk
    have e : (s : Int) = t := Option.some.inj hf
    have hs4 : s < 4 := hs
    rw [← e, r4 (by decide)]; exact (p7 s (by omega) (by omega)).2
  · subst hk
    obtain ⟨h1, h2⟩ := fi_12 hf; rw [h2, r4 (by decide)]; exact p2 s (by omega) (by omega)
  · subst hk
    obtain ⟨h1, h2⟩ := fi_13 hf; rw [h2, r4 (by decide), show (s : Int) = 0 by omega]; exact p3.1
  · subst hk
    obtain ⟨h1, h2⟩ := fi_14 hf; rw [h2, r4 (by decide)]
    have : (s : Int) = 0 ∨ (s : Int) = 1 := by omega
    rcases this with h | h
    · rw [h]; exact p3.2.1
    · rw [h]; exact p3.2.2
  · subst hk
    have e : 2 + (s : Int) = t := Option.some.inj hf
    have hs4 : s < 3 := hs
    rw [← e, r4 (by decide)]; exact (p8 s (by omega) (by omega)).1
  · subst hk
    have e : 2 + (s : Int) = t := Option.some.inj hf
    have hs4 : s < 3 := hs
    rw [← e, r4 (by decide)]; exact (p8 s (by omega) (by omega)).2
  · subst hk
    obtain ⟨h1, h2⟩ := fi_17 hf; rw [h2, r4 (by decide)]; exact p4 s (by omega) (by omega)
  · subst hk
    obtain ⟨h1, h2⟩ := fi_18 hf; rw [h2, r4 (by decide)]; exact p5 s (by omega) (by omega)
  · subst hk
    obtain ⟨h1, h2⟩ := fi_19 hf; have r := r1 (by decide); rw [h2]
    have : (s : Int) = 0 ∨ (s : Int) = 1 := by omega
    rcases this with h | h
    · rw [h]; exact (p6 i r.1 r.2).1.1.1
    · rw [h]; exact (p6 i r.1 r.2).1.1.2
  · subst hk
    have e : 6 * i + (s : Int) = t := Option.some.inj hf
    have hs4 : s < 6 := hs
    have r := r1 (by decide); rw [← e]; exact (p6 i r.1 r.2).1.2.1 s (by omega) (by omega)
  · subst hk
    have e : 8 * i + (s : Int) = t := Option.some.inj hf
    have hs4 : s < 8 := hs
    have r := r1 (by decide); rw [← e]; exact ((p6 i r.1 r.2).1.2.2 s (by omega) (by omega)).1
  · subst hk
    exact absurd (show (none : Option Int) = some t from hf) (by simp)
  · subst hk
    obtain ⟨h1, h2⟩ := fi_23 hf; have r := r2 (by decide); rw [h2]
    have q := (p6 (i / 8) (by omega) (by omega)).1.2.2 (i - 8 * (i / 8)) (by omega) (by omega)
    rw [show 8 * (i / 8) + (i - 8 * (i / 8)) = i by omega] at q
    have : (s : Int) = 0 ∨ (s : Int) = 1 := by omega
    rcases this with h | h
    · rw [h]; exact q.2.1
    · rw [h]; exact q.2.2
  · subst hk
    obtain ⟨h1, h2⟩ := fi_24 hf; have r := r1 (by decide); rw [h2]
    obtain ⟨d0, d1, d2, d3, d4⟩ := (p6 i r.1 r.2).2
    have : (s : Int) = 0 ∨ (s : Int) = 1 ∨ (s : Int) = 2 ∨ (s : Int) = 3 ∨ (s : Int) = 4 := by omega
    rcases this with h | h | h | h | h
    · rw [h]; exact d0
    · rw [h]; exact d1
    · rw [h]; exact d2
    · rw [h]; exact d3
    · rw [h]; exact d4
  · subst hk
    obtain ⟨h1, h2⟩ := fi_25 hf; have r := r3 (by decide); rw [h2, show (s : Int) = 0 by omega]; exact (p7 i r.1 r.2).1
  · subst hk
    obtain ⟨h1, h2⟩ := fi_26 hf hs; rw [h2, r4 (by decide)]
    obtain ⟨x0, x1, x5, x6, x7, x8, x9, x22⟩ := m1
    obtain ⟨x25, x26, x27, x28, x33, x34, x35⟩ := m2
    rcases h1 with h | h | h | h | h | h | h | h | h | h | h | h | h | h | h
    · subst h; exact x0
    · subst h; exact x1
    · subst h; exact x5
    · subst h; exact x6
    · subst h; exact x7
    · subst h; exact x8
    · subst h; exact x9
    · subst h; exact x22
    · subst h; exact x25
    · subst h; exact x26
    · subst h; exact x27
    · subst h; exact x28
    · subst h; exact x33
    · subst h; exact x34
    · subst h; exact x35
  · subst hk
    exact absurd (show (none : Option Int) = some t from hf) (by simp)
  · subst hk
    exact absurd (show (none : Option Int) = some t from hf) (by simp)
  · subst hk
    exact absurd (show (none : Option Int) = some t from hf) (by simp)
  · subst hk
    exact absurd (show (none : Option Int) = some t from hf) (by simp)
  · subst hk
    exact absurd (show (none : Option Int) = some t from hf) (by simp)
  · subst hk
    exact absurd (show (none : Option Int) = some t from hf) (by simp)
  · subst hk
    exact absurd (show (none : Option Int) = some t from hf) (by simp)
  · subst hk
    exact absurd (show (none : Option Int) = some t from hf) (by simp)
  · subst hk
    exact absurd (show (none : Option Int) = some t from hf) (by simp)
  · subst hk
    exact absurd (show (none : Option Int) = some t from hf) (by simp)
  · subst hk
    exact absurd (show (none : Option Int) = some t from hf) (by simp)
  · subst hk
    exact absurd (show (none : Option Int) = some t from hf) (by simp)
  · subst hk
    exact absurd (show (none : Option Int) = some t from hf) (by simp)
  · subst hk
    exact absurd (show (none : Option Int) = some t from hf) (by simp)
  · subst hk
    exact absurd (show (none : Option Int) = some t from hf) (by simp)
  · subst hk
    exact absurd (show (none : Option Int) = some t from hf) (by simp)
  · subst hk
    exact absurd (show (none : Option Int) = some t from hf) (by simp)
  · subst hk
    exact absurd (show (none : Option Int) = some t from hf) (by simp)
  · subst hk
    exact absurd (show (none : Option Int) = some t from hf) (by simp)
  · subst hk
    exact absurd (show (none : Option Int) = some t from hf) (by simp)
  · subst hk
    exact absurd (show (none : Option Int) = some t from hf) (by simp)
  · subst hk
    exact absurd (show (none : Option Int) = some t from hf) (by simp)
  · subst hk
    exact absurd (show (none : Option Int) = some t from hf) (by simp)
  · subst hk
    exact absurd (show (none : Option Int) = some t from hf) (by simp)
  · subst hk
    exact absurd (show (none : Option Int) = some t from hf) (by simp)
  · subst hk
    exact absurd (show (none : Option Int) = some t from hf) (by simp)
  · subst hk
    exact absurd (show (none : Option Int) = some t from hf) (by simp)
  · subst hk
    exact absurd (show (none : Option Int) = some t from hf) (by simp)
  · subst hk
    exact absurd (show (none : Option Int) = some t from hf) (by simp)
  · subst hk
    exact absurd (show (none : Option Int) = some t from hf) (by simp)
  · subst hk
    exact absurd (show (none : Option Int) = some t from hf) (by simp)
  · subst hk
    exact absurd (show (none : Option Int) = some t from hf) (by simp)
  · subst hk
    exact absurd (show (none : Option Int) = some t from hf) (by simp)
  · subst hk
    exact absurd (show (none : Option Int) = some t from hf) (by simp)
  · subst hk
    exact absurd (show (none : Option Int) = some t from hf) (by simp)
  · subst hk
    exact absurd (show (none : Option Int) = some t from hf) (by simp)
  · subst hk
    exact absurd (show (none : Option Int) = some t from hf) (by simp)
  · subst hk
    exact absurd (show (none : Option Int) = some t from hf) (by simp)
