/-! TEXTS: how far a run of bytes goes -/
def tk_bl (c : Int) : Prop := c = 32 ∨ c = 10
def tk_sm (c : Int) : Prop := 97 ≤ c ∧ c ≤ 122
def tk_dg (c : Int) : Prop := 48 ≤ c ∧ c ≤ 57
def tk_sg (c : Int) : Prop := c = 59 ∨ c = 60 ∨ c = 62 ∨ c = 61
def tk_run (P : Int → Prop) (B : Int → Int) (n p e : Int) : Prop := p ≤ e ∧ e ≤ n ∧ (∀ i, p ≤ i → i < e → P (B i)) ∧ (e < n → ¬ P (B e))
theorem tk_run_eq {P : Int → Prop} {B : Int → Int} {n p e e' : Int} (h : tk_run P B n p e) (h' : tk_run P B n p e') : e = e' := by
  obtain ⟨a1, a2, a3, a4⟩ := h
  obtain ⟨b1, b2, b3, b4⟩ := h'
  rcases Int.lt_trichotomy e e' with c | c | c
  · exact absurd (b3 e a1 c) (a4 (by omega))
  · exact c
  · exact absurd (a3 e' b1 c) (b4 (by omega))
theorem tk_lp {σ ρ : Type} {body : σ → Option (σ ⊕ ρ)} {P : Int → Prop} {B : Int → Int} {n : Int} (J : Int → σ → Prop) (h : ∀ q s, q < n → P (B q) → J q s → ∃ s', body s = some (.inl s') ∧ J (q + 1) s') : ∀ m : Nat, ∀ p s, n - p ≤ m → p ≤ n → J p s → ∃ e s', tk_run P B n p e ∧ J e s' ∧ pj_Lp body s = pj_Lp body s' := by
  intro m
  induction m with
  | zero => exact fun p s h1 h2 hJ => ⟨p, s, ⟨by omega, h2, fun i _ _ => by omega, fun _ => by omega⟩, hJ, rfl⟩
  | succ m ih =>
    intro p s h1 h2 hJ
    by_cases c : p < n ∧ P (B p)
    · obtain ⟨s', e1, J1⟩ := h p s c.1 c.2 hJ
      obtain ⟨e, s2, ⟨r1, r2, r3, r4⟩, J2, e2⟩ := ih (p + 1) s' (by omega) (by omega) J1
      refine ⟨e, s2, ⟨by omega, r2, fun i i1 i2 => ?_, r4⟩, J2, by rw [pj_Lp_st e1, e2]⟩
      by_cases ci : i = p
      · rw [ci]; exact c.2
      · exact r3 i (by omega) i2
    · exact ⟨p, s, ⟨by omega, h2, fun i _ _ => by omega, fun h3 h4 => c ⟨h3, h4⟩⟩, hJ, rfl⟩
/-- the bytes from a place on -/
def tk_ls (B : Int → Int) (p : Int) (m : Nat) : List Nat := (List.range m).map fun (i : Nat) => (B (p + i)).toNat
theorem tk_ls_succ (B : Int → Int) (p : Int) (m : Nat) : tk_ls B p (m + 1) = tk_ls B p m ++ [(B (p + m)).toNat] := by
  unfold tk_ls
  rw [List.range_succ, List.map_append]
  rfl
theorem tk_ls_len (B : Int → Int) (p : Int) (m : Nat) : (tk_ls B p m).length = m := by
  unfold tk_ls
  rw [List.length_map, List.length_range]
theorem tk_ls_mem {B : Int → Int} {p : Int} {m : Nat} {c : Nat} (h : c ∈ tk_ls B p m) : ∃ i : Nat, i < m ∧ c = (B (p + i)).toNat := by
  unfold tk_ls at h
  obtain ⟨i, h1, h2⟩ := List.mem_map.mp h
  exact ⟨i, List.mem_range.mp h1, h2.symm⟩
def tk_lt (l : List Nat) : Prop := ∀ c ∈ l, 97 ≤ c ∧ c ≤ 122
theorem tk_ls_lt {B : Int → Int} {n p e : Int} (h : tk_run tk_sm B n p e) {m : Nat} (hm : (m : Int) ≤ e - p) : tk_lt (tk_ls B p m) := fun c hc => by
  obtain ⟨i, hi, ec⟩ := tk_ls_mem hc
  have := h.2.2.1 (p + i) (by omega) (by omega)
  unfold tk_sm at this
  omega
theorem pj_n5_s (l : List Nat) (c : Nat) : pj_n5 (l ++ [c]) = pj_n5 l * 32 + ((c : Int) - 96) := by
  unfold pj_n5
  rw [List.foldl_append]
  rfl
theorem pj_n8_s (l : List Nat) (c : Nat) : pj_n8 (l ++ [c]) = pj_n8 l * 256 + (c : Int) := by
  unfold pj_n8
  rw [List.foldl_append]
  rfl
theorem tk_lt_s {l : List Nat} {c : Nat} (h : tk_lt (l ++ [c])) : tk_lt l ∧ 97 ≤ c ∧ c ≤ 122 := ⟨fun x hx => h x (List.mem_append.mpr (Or.inl hx)), h c (List.mem_append.mpr (Or.inr (List.mem_singleton.mpr rfl)))⟩
theorem tk_nc (l : List Nat) : l = [] ∨ ∃ a c, l = a ++ [c] := by
  rcases List.eq_nil_or_concat l with e | ⟨a, c, e⟩
  · exact Or.inl e
  · exact Or.inr ⟨a, c, e.trans List.concat_eq_append⟩
theorem pj_n5_b : ∀ m : Nat, ∀ l : List Nat, l.length = m → tk_lt l → 0 ≤ pj_n5 l ∧ pj_n5 l < 32 ^ m ∧ (1 ≤ m → 1 ≤ pj_n5 l) := by
  intro m
  induction m with
  | zero =>
    intro l hl _
    rw [List.length_eq_zero_iff.mp hl]
    exact ⟨by decide, by decide, fun h => absurd h (by decide)⟩
  | succ m ih =>
    intro l hl ht
    rcases tk_nc l with e | ⟨a, c, e⟩
    · rw [e] at hl; cases hl
    · subst e
      obtain ⟨h1, h2, h3⟩ := tk_lt_s ht
      obtain ⟨g1, g2, _⟩ := ih a (by rw [List.length_append] at hl; simp only [List.length_cons, List.length_nil] at hl; omega) h1
      rw [pj_n5_s, Int.pow_succ]
      omega
theorem pj_n8_b : ∀ m : Nat, ∀ l : List Nat, l.length = m → tk_lt l → 0 ≤ pj_n8 l ∧ pj_n8 l < 256 ^ m ∧ (1 ≤ m → 1 ≤ pj_n8 l) := by
  intro m
  induction m with
  | zero =>
    intro l hl _
    rw [List.length_eq_zero_iff.mp hl]
    exact ⟨by decide, by decide, fun h => absurd h (by decide)⟩
  | succ m ih =>
    intro l hl ht
    rcases tk_nc l with e | ⟨a, c, e⟩
    · rw [e] at hl; cases hl
    · subst e
      obtain ⟨h1, h2, h3⟩ := tk_lt_s ht
      obtain ⟨g1, g2, _⟩ := ih a (by rw [List.length_append] at hl; simp only [List.length_cons, List.length_nil] at hl; omega) h1
      rw [pj_n8_s, Int.pow_succ]
      omega
theorem pj_n5_i : ∀ m : Nat, ∀ l l' : List Nat, l.length = m → tk_lt l → tk_lt l' → pj_n5 l = pj_n5 l' → l = l' := by
  intro m
  induction m with
  | zero =>
    intro l l' hl _ ht' e
    rw [List.length_eq_zero_iff.mp hl] at e ⊢
    cases l' with
    | nil => rfl
    | cons c b =>
      have := (pj_n5_b _ (c :: b) rfl ht').2.2 (by simp only [List.length_cons]; omega)
      have h0 : pj_n5 [] = 0 := rfl
      omega
  | succ m ih =>
    intro l l' hl ht ht' e
    rcases tk_nc l with e1 | ⟨a, c, e1⟩
    · rw [e1] at hl; cases hl
    · subst e1
      rcases tk_nc l' with e2 | ⟨b, d, e2⟩
      · subst e2
        have := (pj_n5_b _ _ hl ht).2.2 (by omega)
        have h0 : pj_n5 [] = 0 := rfl
        omega
      · subst e2
        obtain ⟨h1, h2, h3⟩ := tk_lt_s ht
        obtain ⟨k1, k2, k3⟩ := tk_lt_s ht'
        rw [pj_n5_s, pj_n5_s] at e
        rw [ih a b (by rw [List.length_append] at hl; simp only [List.length_cons, List.length_nil] at hl; omega) h1 k1 (by omega), show c = d by omega]
theorem pj_n8_i : ∀ m : Nat, ∀ l l' : List Nat, l.length = m → tk_lt l → tk_lt l' → pj_n8 l = pj_n8 l' → l = l' := by
  intro m
  induction m with
  | zero =>
    intro l l' hl _ ht' e
    rw [List.length_eq_zero_iff.mp hl] at e ⊢
    cases l' with
    | nil => rfl
    | cons c b =>
      have := (pj_n8_b _ (c :: b) rfl ht').2.2 (by simp only [List.length_cons]; omega)
      have h0 : pj_n8 [] = 0 := rfl
      omega
  | succ m ih =>
    intro l l' hl ht ht' e
    rcases tk_nc l with e1 | ⟨a, c, e1⟩
    · rw [e1] at hl; cases hl
    · subst e1
      rcases tk_nc l' with e2 | ⟨b, d, e2⟩
      · subst e2
        have := (pj_n8_b _ _ hl ht).2.2 (by omega)
        have h0 : pj_n8 [] = 0 := rfl
        omega
      · subst e2
        obtain ⟨h1, h2, h3⟩ := tk_lt_s ht
        obtain ⟨k1, k2, k3⟩ := tk_lt_s ht'
        rw [pj_n8_s, pj_n8_s] at e
        rw [ih a b (by rw [List.length_append] at hl; simp only [List.length_cons, List.length_nil] at hl; omega) h1 k1 (by omega), show c = d by omega]
/-- what digits make -/
def tk_dv (l : List Nat) : Int := l.foldl (fun (a : Int) (c : Nat) => a * 10 + ((c : Int) - 48)) 0
theorem tk_dv_s (l : List Nat) (c : Nat) : tk_dv (l ++ [c]) = tk_dv l * 10 + ((c : Int) - 48) := by
  unfold tk_dv
  rw [List.foldl_append]
  rfl
theorem tk_dv_b {B : Int → Int} {p : Int} : ∀ m : Nat, (∀ i : Nat, i < m → tk_dg (B (p + i))) → 0 ≤ tk_dv (tk_ls B p m) ∧ tk_dv (tk_ls B p m) < 10 ^ m := by
  intro m
  induction m with
  | zero => exact fun _ => ⟨Int.le_refl 0, (by decide : (0 : Int) < 1)⟩
  | succ m ih =>
    intro h
    obtain ⟨g1, g2⟩ := ih (fun i hi => h i (by omega))
    have := h m (by omega)
    unfold tk_dg at this
    rw [tk_ls_succ, tk_dv_s, Int.pow_succ]
    omega
theorem tk_w_lt {i : Nat} (h : i < 30) : tk_lt (tk_w i) := (tk_w_nc ⟨i, h⟩).2.2
