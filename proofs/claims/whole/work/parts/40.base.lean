/-! LOOPS, AND SMALL NUMBERS -/
def pj_fo {σ : Type} (f : Nat → σ → σ) : Nat → σ → σ
  | 0, s => s
  | n + 1, s => f n (pj_fo f n s)
theorem pj_Lp_st {σ ρ : Type} {body : σ → Option (σ ⊕ ρ)} {s s' : σ} (h : body s = some (.inl s')) : pj_Lp body s = pj_Lp body s' := by
  rw [pj_Lp_eq, h]; rfl
theorem pj_Lp_end {σ ρ : Type} {body : σ → Option (σ ⊕ ρ)} {s : σ} {r : ρ} (h : body s = some (.inr r)) : pj_Lp body s = some r := by
  rw [pj_Lp_eq, h]; rfl
theorem pj_Lp_to {σ ρ : Type} {body : σ → Option (σ ⊕ ρ)} (S : Nat → σ) (n : Nat) (h : ∀ i, i < n → body (S i) = some (.inl (S (i + 1)))) : pj_Lp body (S 0) = pj_Lp body (S n) := by
  induction n with
  | zero => rfl
  | succ n ih => rw [ih (fun i hi => h i (by omega)), pj_Lp_st (h n (by omega))]
theorem pj_Lp_fo {σ ρ : Type} {body : σ → Option (σ ⊕ ρ)} (S : Nat → σ) (n : Nat) {r : ρ} (h : ∀ i, i < n → body (S i) = some (.inl (S (i + 1)))) (he : body (S n) = some (.inr r)) : pj_Lp body (S 0) = some r := by
  rw [pj_Lp_to S n h, pj_Lp_end he]
/-- the first of k, .., k + n - 1 that it holds of -/
def pj_ff (p : Nat → Prop) [DecidablePred p] : Nat → Nat → Option Nat
  | _, 0 => none
  | k, n + 1 => if p k then some k else pj_ff p (k + 1) n
theorem pj_ff_some {p : Nat → Prop} [DecidablePred p] {k n i : Nat} (h : pj_ff p k n = some i) : k ≤ i ∧ i < k + n ∧ p i ∧ ∀ j, k ≤ j → j < i → ¬ p j := by
  induction n generalizing k with
  | zero => cases h
  | succ n ih =>
    unfold pj_ff at h
    by_cases hk : p k
    · rw [if_pos hk] at h; cases h; exact ⟨by omega, by omega, hk, fun j _ _ => by omega⟩
    · rw [if_neg hk] at h
      obtain ⟨a, b, c, d⟩ := ih h
      exact ⟨by omega, by omega, c, fun j h1 h2 => if e : j = k then e ▸ hk else d j (by omega) h2⟩
theorem pj_ff_none {p : Nat → Prop} [DecidablePred p] {k n : Nat} (h : pj_ff p k n = none) : ∀ j, k ≤ j → j < k + n → ¬ p j := by
  induction n generalizing k with
  | zero => exact fun j _ _ => by omega
  | succ n ih =>
    unfold pj_ff at h
    by_cases hk : p k
    · rw [if_pos hk] at h; cases h
    · rw [if_neg hk] at h
      exact fun j h1 h2 => if e : j = k then e ▸ hk else ih h j (by omega) (by omega)
theorem pj_ff_ex {p q : Nat → Prop} [DecidablePred p] [DecidablePred q] {k n : Nat} (h : ∀ i, k ≤ i → i < k + n → (p i ↔ q i)) : pj_ff p k n = pj_ff q k n := by
  induction n generalizing k with
  | zero => rfl
  | succ n ih =>
    unfold pj_ff
    rw [ih (k := k + 1) (fun i h1 h2 => h i (by omega) (by omega))]
    by_cases hk : p k
    · rw [if_pos hk, if_pos ((h k (by omega) (by omega)).mp hk)]
    · rw [if_neg hk, if_neg (fun hq => hk ((h k (by omega) (by omega)).mpr hq))]
theorem pj_Lp_ff {σ ρ : Type} {body : σ → Option (σ ⊕ ρ)} (S : Nat → σ) (p : Nat → Prop) [DecidablePred p] (n : Nat) {r : Nat → ρ} {e : ρ} (h : ∀ i, i < n → ¬ p i → body (S i) = some (.inl (S (i + 1)))) (hp : ∀ i, i < n → p i → body (S i) = some (.inr (r i))) (he : body (S n) = some (.inr e)) :
    pj_Lp body (S 0) = some (match pj_ff p 0 n with | some i => r i | none => e) := by
  cases hf : pj_ff p 0 n with
  | none =>
    have hn := pj_ff_none hf
    exact pj_Lp_fo S n (fun i hi => h i hi (hn i (by omega) (by omega))) he
  | some i =>
    obtain ⟨_, hi, hpi, hn⟩ := pj_ff_some hf
    rw [pj_Lp_to S i (fun j hj => h j (by omega) (hn j (by omega) hj)), pj_Lp_end (hp i (by omega) hpi)]
theorem pj_fo_ex {σ : Type} {f g : Nat → σ → σ} {n : Nat} {s : σ} (h : ∀ i, i < n → ∀ a, f i a = g i a) : pj_fo f n s = pj_fo g n s := by
  induction n with
  | zero => rfl
  | succ n ih => unfold pj_fo; rw [ih (fun i hi => h i (by omega)), h n (by omega)]
theorem pj_fo_inv {σ : Type} {f : Nat → σ → σ} {n : Nat} {s : σ} (P : Nat → σ → Prop) (h0 : P 0 s) (h : ∀ i, i < n → ∀ a, P i a → P (i + 1) (f i a)) : P n (pj_fo f n s) := by
  induction n with
  | zero => exact h0
  | succ n ih => exact h n (by omega) _ (ih (fun i hi => h i (by omega)))
/-- sets of small numbers -/
theorem pj_shl_one : ∀ i : Fin 31, pj_shl 1 (i.val : Int) = 2 ^ i.val := by decide +kernel
theorem pj_shl1 {i : Int} (h : 0 ≤ i) (h2 : i < 31) : pj_shl 1 i = 2 ^ i.toNat := by
  have := pj_shl_one ⟨i.toNat, by omega⟩
  rwa [show (((⟨i.toNat, by omega⟩ : Fin 31).val : Nat) : Int) = i from Int.toNat_of_nonneg h] at this
def pj_bit (s i : Int) : Prop := pj_and (pj_shr s i) 1 = 1
theorem pj_bit_d : ∀ s : Fin 256, ∀ i : Fin 8, pj_and (pj_shr (s.val : Int) (i.val : Int)) 1 = if s.val.testBit i.val then 1 else 0 := by decide +kernel
def pj_pc (s : Int) : Int := ((List.range 8).map fun i => if s.toNat.testBit i then (1 : Int) else 0).foldl (· + ·) 0
theorem pj_or_d : ∀ s : Fin 256, ∀ i : Fin 8, pj_or (s.val : Int) (pj_shl 1 (i.val : Int)) = ((s.val ||| 2 ^ i.val : Nat) : Int) := by decide +kernel
theorem fInt_bitCount_d (w : pj_W) : ∀ s : Fin 256, fInt_bitCount (s.val : Int) w = some (pj_pc s.val) := by
  intro s
  have h : ∀ s : Fin 256, fInt_bitCount (s.val : Int) (fun _ _ _ => 0) = some (pj_pc s.val) := by decide +kernel
  exact h s
