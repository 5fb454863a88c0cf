/-! ROWS: an instruction, as Go turns; and how trees turn -/
theorem pj_map {τ : Type} {R : τ → Prop} {t : Option τ} {G G' : Prop} (f : G' → G) (h : pj_TG R t G') : pj_TG R t G := fun x hx hr => f (h x hx hr)
theorem pj_tif {τ : Type} {R : τ → Prop} {t1 t2 : Option τ} {G c : Prop} [Decidable c] (h1 : c → pj_TG R t1 G) (h2 : ¬ c → pj_TG R t2 G) : pj_TG R (if c then t1 else t2) G := by
  by_cases h : c
  · rw [if_pos h]; exact h1 h
  · rw [if_neg h]; exact h2 h
theorem pj_tJ {τ α : Type} {R : τ → Prop} (J : α → Option τ) {a b : α} {G c : Prop} [Decidable c] (h1 : c → pj_TG R (J a) G) (h2 : ¬ c → pj_TG R (J b) G) : pj_TG R (J (if c then a else b)) G := by
  by_cases h : c
  · rw [if_pos h]; exact h1 h
  · rw [if_neg h]; exact h2 h
theorem pj_tgd {τ : Type} {R : τ → Prop} {t : Option τ} {G c : Prop} [Decidable c] (h : c → pj_TG R t G) : pj_TG R (if c then t else none) G := pj_tif h (fun _ x hx => by cases hx)
theorem pj_tret {τ : Type} {R : τ → Prop} {x : τ} {G : Prop} (h : R x → G) : pj_TG R (some x) G := fun y hy hr => by cases hy; exact h hr
theorem pj_tbind {τ σ : Type} {R : τ → Prop} {t : Option σ} {k : σ → Option τ} {G : Prop} (h : ∀ x, t = some x → pj_TG R (k x) G) : pj_TG R (t.bind k) G := fun y hy hr => by
  obtain ⟨x, hx, hk⟩ := Option.bind_eq_some_iff.mp hy
  exact h x hx y hk hr
theorem pj_tmap {τ σ : Type} {R : τ → Prop} {t : Option σ} {f : σ → τ} {G : Prop} (h : pj_TG (fun x => R (f x)) t G) : pj_TG R (t.map f) G := fun y hy hr => by
  obtain ⟨x, hx, rfl⟩ := Option.map_eq_some_iff.mp hy
  exact h x hx hr
/-- a loop: a step gives the next round's state, or the answer -/
def pj_LpN {σ ρ : Type} (body : σ → Option (σ ⊕ ρ)) : Nat → σ → Option ρ
  | 0, _ => none
  | n + 1, s => (body s).bind fun x => match x with
    | .inl s' => pj_LpN body n s'
    | .inr r => some r
noncomputable def pj_Lp {σ ρ : Type} (body : σ → Option (σ ⊕ ρ)) (s : σ) : Option ρ := @dite (Option ρ) (∃ n r, pj_LpN body n s = some r) (Classical.propDecidable _) (fun h => some (Classical.choose (Classical.choose_spec h))) (fun _ => none)
theorem pj_LpN_mono {σ ρ : Type} {body : σ → Option (σ ⊕ ρ)} : ∀ (n : Nat) (s : σ) (r : ρ), pj_LpN body n s = some r → ∀ m, n ≤ m → pj_LpN body m s = some r
  | 0, s, r, h, m, hm => by cases h
  | n + 1, s, r, h, 0, hm => by omega
  | n + 1, s, r, h, m + 1, hm => by
    unfold pj_LpN at h ⊢
    cases hb : body s with
    | none => rw [hb] at h; cases h
    | some x =>
      rw [hb] at h
      cases x with
      | inl s' => exact pj_LpN_mono n s' r h m (by omega)
      | inr r' => exact h
theorem pj_LpN_det {σ ρ : Type} {body : σ → Option (σ ⊕ ρ)} {n m : Nat} {s : σ} {r r' : ρ} (h : pj_LpN body n s = some r) (h' : pj_LpN body m s = some r') : r = r' := by
  have h1 := pj_LpN_mono n s r h (max n m) (Nat.le_max_left _ _)
  have h2 := pj_LpN_mono m s r' h' (max n m) (Nat.le_max_right _ _)
  rw [h1] at h2
  exact Option.some.inj h2
theorem pj_Lp_of {σ ρ : Type} {body : σ → Option (σ ⊕ ρ)} {n : Nat} {s : σ} {r : ρ} (h : pj_LpN body n s = some r) : pj_Lp body s = some r := by
  have hx : ∃ n r, pj_LpN body n s = some r := ⟨n, r, h⟩
  unfold pj_Lp
  rw [dif_pos hx, pj_LpN_det (Classical.choose_spec (Classical.choose_spec hx)) h]
theorem pj_Lp_ex {σ ρ : Type} {body : σ → Option (σ ⊕ ρ)} {s : σ} {r : ρ} (h : pj_Lp body s = some r) : ∃ n, pj_LpN body n s = some r := by
  unfold pj_Lp at h
  by_cases hx : ∃ n r, pj_LpN body n s = some r
  · rw [dif_pos hx] at h
    cases h
    exact ⟨_, Classical.choose_spec (Classical.choose_spec hx)⟩
  · rw [dif_neg hx] at h
    cases h
theorem pj_Lp_eq {σ ρ : Type} (body : σ → Option (σ ⊕ ρ)) (s : σ) : pj_Lp body s = (body s).bind fun x => match x with
    | .inl s' => pj_Lp body s'
    | .inr r => some r := by
  cases hb : body s with
  | none =>
    cases h : pj_Lp body s with
    | none => rfl
    | some r =>
      obtain ⟨n, hn⟩ := pj_Lp_ex h
      cases n with
      | zero => cases hn
      | succ n => unfold pj_LpN at hn; rw [hb] at hn; cases hn
  | some x =>
    cases x with
    | inr r => exact pj_Lp_of (n := 1) (by unfold pj_LpN; rw [hb]; rfl)
    | inl s' =>
      show pj_Lp body s = pj_Lp body s'
      cases h : pj_Lp body s' with
      | some r =>
        obtain ⟨n, hn⟩ := pj_Lp_ex h
        exact pj_Lp_of (n := n + 1) (by unfold pj_LpN; rw [hb]; exact hn)
      | none =>
        cases h2 : pj_Lp body s with
        | none => rfl
        | some r =>
          obtain ⟨n, hn⟩ := pj_Lp_ex h2
          cases n with
          | zero => cases hn
          | succ n =>
            unfold pj_LpN at hn
            rw [hb] at hn
            rw [pj_Lp_of (n := n) hn] at h
            cases h
theorem pj_tLp {σ ρ : Type} {R : ρ → Prop} {body : σ → Option (σ ⊕ ρ)} {G : σ → Prop} (h : ∀ s, pj_TG (fun x => match x with | .inl s' => G s' | .inr r => R r) (body s) (G s)) (s : σ) : pj_TG R (pj_Lp body s) (G s) := by
  intro r hr hR
  obtain ⟨n, hn⟩ := pj_Lp_ex hr
  clear hr
  induction n generalizing s with
  | zero => cases hn
  | succ n ih =>
    unfold pj_LpN at hn
    cases hb : body s with
    | none => rw [hb] at hn; cases hn
    | some x =>
      rw [hb] at hn
      cases x with
      | inl s' => exact h s _ hb (ih s' hn)
      | inr r' => cases hn; exact h s _ hb hR
def pj_and (a b : Int) : Int := (Int32.ofInt a &&& Int32.ofInt b).toInt
def pj_or (a b : Int) : Int := (Int32.ofInt a ||| Int32.ofInt b).toInt
def pj_xor (a b : Int) : Int := (Int32.ofInt a ^^^ Int32.ofInt b).toInt
def pj_shl (a b : Int) : Int := (Int32.ofInt a <<< (Int32.ofInt b &&& 31)).toInt
def pj_shr (a b : Int) : Int := (Int32.ofInt a >>> (Int32.ofInt b &&& 31)).toInt
def pj_ushr (a b : Int) : Int := ((Int32.ofInt a).toUInt32 >>> ((Int32.ofInt b).toUInt32 &&& Int32.toUInt32 31)).toInt32.toInt
def pj_div (a b : Int) : Int := pj_wr (a.tdiv b)
def pj_divl (a b : Int) : Int := pj_wl (a.tdiv b)
def pj_landl (a b : Int) : Int := (Int64.ofInt a &&& Int64.ofInt b).toInt
def pj_lorl (a b : Int) : Int := (Int64.ofInt a ||| Int64.ofInt b).toInt
def pj_shll (a b : Int) : Int := (Int64.ofInt a <<< ((Int32.ofInt b).toInt64 &&& 63)).toInt
def pj_cmp (a b : Int) : Int := if a > b then 1 else if a = b then 0 else -1
theorem pj_in32 (x : Int32) : -2147483648 ≤ x.toInt ∧ x.toInt < 2147483648 := ⟨by have := x.le_toInt; omega, by have := x.toInt_lt; omega⟩
theorem pj_in64 (x : Int64) : -9223372036854775808 ≤ x.toInt ∧ x.toInt < 9223372036854775808 := ⟨by have := x.le_toInt; omega, by have := x.toInt_lt; omega⟩
theorem pj_of64 (x : Int64) : Int64.ofInt x.toInt = x := Int64.ofInt_toInt x
theorem pj_lt32 {a b : Int} (ha : -2147483648 ≤ a ∧ a < 2147483648) (hb : -2147483648 ≤ b ∧ b < 2147483648) : Int32.ofInt a < Int32.ofInt b ↔ a < b := by rw [Int32.lt_iff_toInt_lt, pj_t32 ha, pj_t32 hb]
theorem pj_le32 {a b : Int} (ha : -2147483648 ≤ a ∧ a < 2147483648) (hb : -2147483648 ≤ b ∧ b < 2147483648) : Int32.ofInt a ≤ Int32.ofInt b ↔ a ≤ b := by rw [Int32.le_iff_toInt_le, pj_t32 ha, pj_t32 hb]
theorem pj_eq32 {a b : Int} (ha : -2147483648 ≤ a ∧ a < 2147483648) (hb : -2147483648 ≤ b ∧ b < 2147483648) : Int32.ofInt a = Int32.ofInt b ↔ a = b := by rw [← Int32.toInt_inj, pj_t32 ha, pj_t32 hb]
theorem pj_lt64 {a b : Int} (ha : -9223372036854775808 ≤ a ∧ a < 9223372036854775808) (hb : -9223372036854775808 ≤ b ∧ b < 9223372036854775808) : Int64.ofInt a < Int64.ofInt b ↔ a < b := by rw [Int64.lt_iff_toInt_lt, pj_t64 ha, pj_t64 hb]
theorem pj_eq64 {a b : Int} (ha : -9223372036854775808 ≤ a ∧ a < 9223372036854775808) (hb : -9223372036854775808 ≤ b ∧ b < 9223372036854775808) : Int64.ofInt a = Int64.ofInt b ↔ a = b := by rw [← Int64.toInt_inj, pj_t64 ha, pj_t64 hb]
theorem pj_rem32 {a b : Int} (ha : -2147483648 ≤ a ∧ a < 2147483648) (hb : -2147483648 ≤ b ∧ b < 2147483648) : Int32.ofInt a - Int32.ofInt a / Int32.ofInt b * Int32.ofInt b = Int32.ofInt (a.tmod b) := by
  have h : Int32.ofInt (a.tdiv b) = Int32.ofInt a / Int32.ofInt b := by
    rw [← Int32.toInt_inj, Int32.toInt_div, pj_t32 ha, pj_t32 hb, Int32.toInt_ofInt]
  rw [← h, ← Int32.ofInt_mul, ← Int32.ofInt_sub]
  congr 1
  have := Int.mul_tdiv_add_tmod a b
  rw [Int.mul_comm] at this
  omega
theorem pj_rem64 {a b : Int} (ha : -9223372036854775808 ≤ a ∧ a < 9223372036854775808) (hb : -9223372036854775808 ≤ b ∧ b < 9223372036854775808) : Int64.ofInt a - Int64.ofInt a / Int64.ofInt b * Int64.ofInt b = Int64.ofInt (a.tmod b) := by
  have h : Int64.ofInt (a.tdiv b) = Int64.ofInt a / Int64.ofInt b := by
    rw [← Int64.toInt_inj, Int64.toInt_div, pj_t64 ha, pj_t64 hb, Int64.toInt_ofInt]
  rw [← h, ← Int64.ofInt_mul, ← Int64.ofInt_sub]
  congr 1
  have := Int.mul_tdiv_add_tmod a b
  rw [Int.mul_comm] at this
  omega
theorem pj_div32 {a b : Int} (ha : -2147483648 ≤ a ∧ a < 2147483648) (hb : -2147483648 ≤ b ∧ b < 2147483648) : Int32.ofInt a / Int32.ofInt b = Int32.ofInt (pj_div a b) := by
  unfold pj_div
  rw [pj_ofr, ← Int32.toInt_inj, Int32.toInt_div, pj_t32 ha, pj_t32 hb, Int32.toInt_ofInt]
theorem pj_div64 {a b : Int} (ha : -9223372036854775808 ≤ a ∧ a < 9223372036854775808) (hb : -9223372036854775808 ≤ b ∧ b < 9223372036854775808) : Int64.ofInt a / Int64.ofInt b = Int64.ofInt (pj_divl a b) := by
  unfold pj_divl
  rw [pj_ofl, ← Int64.toInt_inj, Int64.toInt_div, pj_t64 ha, pj_t64 hb, Int64.toInt_ofInt]
theorem pj_tmod_in {a b : Int} (M : Int) (ha : -M ≤ a ∧ a < M) : -M ≤ a.tmod b ∧ a.tmod b < M := by
  have h := Int.natAbs_tmod a b
  have h1 : (a.tmod b).natAbs ≤ a.natAbs := by rw [h]; exact Nat.mod_le _ _
  have h2 : 0 ≤ a → 0 ≤ a.tmod b := fun h => Int.tmod_nonneg _ h
  have h3 : a ≤ 0 → a.tmod b ≤ 0 := fun h => by
    have h4 : 0 ≤ (-a).tmod b := Int.tmod_nonneg _ (by omega)
    rw [Int.neg_tmod] at h4
    omega
  omega
theorem pj_b8 (z : Int) : (Int32.ofInt z).toInt8.toInt32 = Int32.ofInt (pj_w8 z) := by
  rw [← Int32.toInt_inj, Int8.toInt_toInt32, Int32.toInt_toInt8, Int32.toInt_ofInt, Int32.toInt_ofInt_of_le (by unfold pj_w8; omega) (by unfold pj_w8; omega)]
  unfold pj_w8
  rw [show Int32.size = 4294967296 from rfl, Int.bmod_def, Int.bmod_def]
  repeat' split
  all_goals omega
theorem pj_b16 (z : Int) : (Int32.ofInt z).toInt16.toInt32 = Int32.ofInt (pj_w16 z) := by
  rw [← Int32.toInt_inj, Int16.toInt_toInt32, Int32.toInt_toInt16, Int32.toInt_ofInt, Int32.toInt_ofInt_of_le (by unfold pj_w16; omega) (by unfold pj_w16; omega)]
  unfold pj_w16
  rw [show Int32.size = 4294967296 from rfl, Int.bmod_def, Int.bmod_def]
  repeat' split
  all_goals omega
theorem pj_cmpq {a b : Int} (ha : -9223372036854775808 ≤ a ∧ a < 9223372036854775808) (hb : -9223372036854775808 ≤ b ∧ b < 9223372036854775808) : lg_cmp (Int64.ofInt a) (Int64.ofInt b) = Int32.ofInt (pj_cmp a b) := by
  unfold lg_cmp pj_cmp
  by_cases h1 : b < a
  · rw [if_pos ((pj_lt64 hb ha).mpr h1), if_pos h1]; rfl
  · rw [if_neg (fun h => h1 ((pj_lt64 hb ha).mp h)), if_neg h1]
    by_cases h2 : a = b
    · rw [if_pos ((pj_eq64 ha hb).mpr h2), if_pos h2]; rfl
    · rw [if_neg (fun h => h2 ((pj_eq64 ha hb).mp h)), if_neg h2]; rfl
section
variable {l : Launch} {y : MethodName} {cc : ByteArray} {nL : Nat} {ret : Option FieldType} {fr lo : Nat} {ph : Bool} {g : pj_G} {n0 : Nat} {o : Option pj_V × pj_W} {Go : pj_C → Prop} {pc : Nat} {lls st : List pj_V} {w : pj_W}
theorem pj_iconst (hM : pj_M l y cc nL ret fr lo ph g n0 o Go) {n : Int} (hd : decode cc pc = .ok (.iconst n, 1)) (hn : -2147483648 ≤ n ∧ n < 2147483648) (kk : Go (pc + 1, lls, (0, n) :: st, w)) : Go (pc, lls, st, w) :=
  pj_step hM (pc' := pc + 1) (st' := (0, n) :: st) (fun h1 h2 => List.forall_mem_cons.mpr ⟨hn, h2⟩) (fun p e R s m args below meth c Q H locs cells slots ls hx hb ho ht hr hs h => lv_iconst hx hb hd rfl h) kk
theorem pj_i8 {n : Int} (h : -128 ≤ n ∧ n < 128) : (Int8.ofInt n).toInt32 = Int32.ofInt n := by rw [← Int32.toInt_inj, Int8.toInt_toInt32, Int8.toInt_ofInt_of_le (by omega) (by omega), Int32.toInt_ofInt_of_le (by omega) (by omega)]
theorem pj_i16 {n : Int} (h : -32768 ≤ n ∧ n < 32768) : (Int16.ofInt n).toInt32 = Int32.ofInt n := by rw [← Int32.toInt_inj, Int16.toInt_toInt32, Int16.toInt_ofInt_of_le (by omega) (by omega), Int32.toInt_ofInt_of_le (by omega) (by omega)]
theorem pj_bipush (hM : pj_M l y cc nL ret fr lo ph g n0 o Go) {n : Int} (hd : decode cc pc = .ok (.bipush n, 2)) (hn : -128 ≤ n ∧ n < 128) (kk : Go (pc + 2, lls, (0, n) :: st, w)) : Go (pc, lls, st, w) :=
  pj_step hM (pc' := pc + 2) (st' := (0, n) :: st) (fun h1 h2 => List.forall_mem_cons.mpr ⟨by constructor <;> (simp only; omega), h2⟩) (fun p e R s m args below meth c Q H locs cells slots ls hx hb ho ht hr hs h => lv_bipush hx hb hd (pj_i8 hn) h) kk
theorem pj_sipush (hM : pj_M l y cc nL ret fr lo ph g n0 o Go) {n : Int} (hd : decode cc pc = .ok (.sipush n, 3)) (hn : -32768 ≤ n ∧ n < 32768) (kk : Go (pc + 3, lls, (0, n) :: st, w)) : Go (pc, lls, st, w) :=
  pj_step hM (pc' := pc + 3) (st' := (0, n) :: st) (fun h1 h2 => List.forall_mem_cons.mpr ⟨by constructor <;> (simp only; omega), h2⟩) (fun p e R s m args below meth c Q H locs cells slots ls hx hb ho ht hr hs h => lv_sipush hx hb hd (pj_i16 hn) h) kk
theorem pj_lconst (hM : pj_M l y cc nL ret fr lo ph g n0 o Go) {n : Fin 2} {z : Int} (hd : decode cc pc = .ok (.lconst n, 1)) (hz : Int64.ofNat (n : Nat) = Int64.ofInt z) (hn : -9223372036854775808 ≤ z ∧ z < 9223372036854775808) (kk : Go (pc + 1, lls, (1, z) :: st, w)) : Go (pc, lls, st, w) :=
  pj_step hM (pc' := pc + 1) (st' := (1, z) :: st) (fun h1 h2 => List.forall_mem_cons.mpr ⟨hn, h2⟩) (fun p e R s m args below meth c Q H locs cells slots ls hx hb ho ht hr hs h => lv_lconst hx hb hd hz h) kk
theorem pj_ldc (hM : pj_M l y cc nL ret fr lo ph g n0 o Go) {i : Nat} {v : Int32} {z : Int} (hd : decode cc pc = .ok (.ldc i, 2)) (hw : Cond.constant y.cls i v ∈ pj_T) (hz : v = Int32.ofInt z) (hn : -2147483648 ≤ z ∧ z < 2147483648) (kk : Go (pc + 2, lls, (0, z) :: st, w)) : Go (pc, lls, st, w) :=
  pj_step hM (pc' := pc + 2) (st' := (0, z) :: st) (fun h1 h2 => List.forall_mem_cons.mpr ⟨hn, h2⟩) (fun p e R s m args below meth c Q H locs cells slots ls hx hb ho ht hr hs h => lv_ldc hx hb ho (ht _ hw) hd (hz ▸ h)) kk
theorem pj_ldcw (hM : pj_M l y cc nL ret fr lo ph g n0 o Go) {i : Nat} {v : Int32} {z : Int} (hd : decode cc pc = .ok (.ldc_w i, 3)) (hw : Cond.constant y.cls i v ∈ pj_T) (hz : v = Int32.ofInt z) (hn : -2147483648 ≤ z ∧ z < 2147483648) (kk : Go (pc + 3, lls, (0, z) :: st, w)) : Go (pc, lls, st, w) :=
  pj_step hM (pc' := pc + 3) (st' := (0, z) :: st) (fun h1 h2 => List.forall_mem_cons.mpr ⟨hn, h2⟩) (fun p e R s m args below meth c Q H locs cells slots ls hx hb ho ht hr hs h => lv_ldcw hx hb ho (ht _ hw) hd (hz ▸ h)) kk
theorem pj_ldc2 (hM : pj_M l y cc nL ret fr lo ph g n0 o Go) {i : Nat} {v : Int64} {z : Int} (hd : decode cc pc = .ok (.ldc2_w i, 3)) (hw : Cond.constantLong y.cls i v ∈ pj_T) (hz : v = Int64.ofInt z) (hn : -9223372036854775808 ≤ z ∧ z < 9223372036854775808) (kk : Go (pc + 3, lls, (1, z) :: st, w)) : Go (pc, lls, st, w) :=
  pj_step hM (pc' := pc + 3) (st' := (1, z) :: st) (fun h1 h2 => List.forall_mem_cons.mpr ⟨hn, h2⟩) (fun p e R s m args below meth c Q H locs cells slots ls hx hb ho ht hr hs h => lv_ldc2 hx hb ho (ht _ hw) hd (hz ▸ h)) kk
theorem pj_null (hM : pj_M l y cc nL ret fr lo ph g n0 o Go) {k : Nat} (hd : decode cc pc = .ok (.aconst_null, 1)) (hk : 10 ≤ k) (kk : Go (pc + 1, lls, (k, -1) :: st, w)) : Go (pc, lls, st, w) := by
  refine pj_step hM (fun h1 h2 => List.forall_mem_cons.mpr ⟨?_, h2⟩) (fun p e R s m args below meth c Q H locs cells slots ls hx hb ho ht hr hs h => lv_null hx hb hd ?_) kk
  · unfold pj_okv
    rw [if_neg (show ¬ k = 0 by omega), if_neg (show ¬ k = 1 by omega), if_neg (show ¬ k < 10 by omega)]
    exact Or.inl rfl
  · have e1 : pj_enc g (k, -1) = .null := by rw [pj_er g hk]; rfl
    simp only [List.map_cons, e1] at h
    exact h
theorem pj_iadd (hM : pj_M l y cc nL ret fr lo ph g n0 o Go) {a b : Int} (hd : decode cc pc = .ok (.iadd, 1)) (kk : Go (pc + 1, lls, (0, pj_wr (a + b)) :: st, w)) : Go (pc, lls, (0, b) :: (0, a) :: st, w) :=
  pj_step hM (pc' := pc + 1) (st' := (0, pj_wr (a + b)) :: st) (fun h1 h2 => List.forall_mem_cons.mpr ⟨pj_okw _ _, fun v hv => h2 v (List.mem_cons_of_mem _ (List.mem_cons_of_mem _ hv))⟩) (fun p e R s m args below meth c Q H locs cells slots ls hx hb ho ht hr hs h => lv_iadd hx hb hd (by have e1 : pj_enc g (0, _) = _ := (pj_e0 g _).trans (congrArg Value.int ((pj_ofr (a + b)).trans (Int32.ofInt_add a b))); simp only [List.map_cons, e1] at h; exact h)) kk
theorem pj_isub (hM : pj_M l y cc nL ret fr lo ph g n0 o Go) {a b : Int} (hd : decode cc pc = .ok (.isub, 1)) (kk : Go (pc + 1, lls, (0, pj_wr (a - b)) :: st, w)) : Go (pc, lls, (0, b) :: (0, a) :: st, w) :=
  pj_step hM (pc' := pc + 1) (st' := (0, pj_wr (a - b)) :: st) (fun h1 h2 => List.forall_mem_cons.mpr ⟨pj_okw _ _, fun v hv => h2 v (List.mem_cons_of_mem _ (List.mem_cons_of_mem _ hv))⟩) (fun p e R s m args below meth c Q H locs cells slots ls hx hb ho ht hr hs h => lv_isub hx hb hd (by have e1 : pj_enc g (0, _) = _ := (pj_e0 g _).trans (congrArg Value.int ((pj_ofr (a - b)).trans (Int32.ofInt_sub a b))); simp only [List.map_cons, e1] at h; exact h)) kk
theorem pj_imul (hM : pj_M l y cc nL ret fr lo ph g n0 o Go) {a b : Int} (hd : decode cc pc = .ok (.imul, 1)) (kk : Go (pc + 1, lls, (0, pj_wr (a * b)) :: st, w)) : Go (pc, lls, (0, b) :: (0, a) :: st, w) :=
  pj_step hM (pc' := pc + 1) (st' := (0, pj_wr (a * b)) :: st) (fun h1 h2 => List.forall_mem_cons.mpr ⟨pj_okw _ _, fun v hv => h2 v (List.mem_cons_of_mem _ (List.mem_cons_of_mem _ hv))⟩) (fun p e R s m args below meth c Q H locs cells slots ls hx hb ho ht hr hs h => lv_imul hx hb hd (by have e1 : pj_enc g (0, _) = _ := (pj_e0 g _).trans (congrArg Value.int ((pj_ofr (a * b)).trans (Int32.ofInt_mul a b))); simp only [List.map_cons, e1] at h; exact h)) kk
theorem pj_iand (hM : pj_M l y cc nL ret fr lo ph g n0 o Go) {a b : Int} (hd : decode cc pc = .ok (.iand, 1)) (kk : Go (pc + 1, lls, (0, pj_and a b) :: st, w)) : Go (pc, lls, (0, b) :: (0, a) :: st, w) :=
  pj_step hM (pc' := pc + 1) (st' := (0, pj_and a b) :: st) (fun h1 h2 => List.forall_mem_cons.mpr ⟨pj_in32 _, fun v hv => h2 v (List.mem_cons_of_mem _ (List.mem_cons_of_mem _ hv))⟩) (fun p e R s m args below meth c Q H locs cells slots ls hx hb ho ht hr hs h => lv_iand hx hb hd (by have e1 : pj_enc g (0, pj_and a b) = Value.int (Int32.ofInt a &&& Int32.ofInt b) := congrArg Value.int (pj_of (Int32.ofInt a &&& Int32.ofInt b)); simp only [List.map_cons, e1] at h; exact h)) kk
theorem pj_ior (hM : pj_M l y cc nL ret fr lo ph g n0 o Go) {a b : Int} (hd : decode cc pc = .ok (.ior, 1)) (kk : Go (pc + 1, lls, (0, pj_or a b) :: st, w)) : Go (pc, lls, (0, b) :: (0, a) :: st, w) :=
  pj_step hM (pc' := pc + 1) (st' := (0, pj_or a b) :: st) (fun h1 h2 => List.forall_mem_cons.mpr ⟨pj_in32 _, fun v hv => h2 v (List.mem_cons_of_mem _ (List.mem_cons_of_mem _ hv))⟩) (fun p e R s m args below meth c Q H locs cells slots ls hx hb ho ht hr hs h => lv_ior hx hb hd (by have e1 : pj_enc g (0, pj_or a b) = Value.int (Int32.ofInt a ||| Int32.ofInt b) := congrArg Value.int (pj_of (Int32.ofInt a ||| Int32.ofInt b)); simp only [List.map_cons, e1] at h; exact h)) kk
theorem pj_ixor (hM : pj_M l y cc nL ret fr lo ph g n0 o Go) {a b : Int} (hd : decode cc pc = .ok (.ixor, 1)) (kk : Go (pc + 1, lls, (0, pj_xor a b) :: st, w)) : Go (pc, lls, (0, b) :: (0, a) :: st, w) :=
  pj_step hM (pc' := pc + 1) (st' := (0, pj_xor a b) :: st) (fun h1 h2 => List.forall_mem_cons.mpr ⟨pj_in32 _, fun v hv => h2 v (List.mem_cons_of_mem _ (List.mem_cons_of_mem _ hv))⟩) (fun p e R s m args below meth c Q H locs cells slots ls hx hb ho ht hr hs h => lv_ixor hx hb hd (by have e1 : pj_enc g (0, pj_xor a b) = Value.int (Int32.ofInt a ^^^ Int32.ofInt b) := congrArg Value.int (pj_of (Int32.ofInt a ^^^ Int32.ofInt b)); simp only [List.map_cons, e1] at h; exact h)) kk
theorem pj_ishl (hM : pj_M l y cc nL ret fr lo ph g n0 o Go) {a b : Int} (hd : decode cc pc = .ok (.ishl, 1)) (kk : Go (pc + 1, lls, (0, pj_shl a b) :: st, w)) : Go (pc, lls, (0, b) :: (0, a) :: st, w) :=
  pj_step hM (pc' := pc + 1) (st' := (0, pj_shl a b) :: st) (fun h1 h2 => List.forall_mem_cons.mpr ⟨pj_in32 _, fun v hv => h2 v (List.mem_cons_of_mem _ (List.mem_cons_of_mem _ hv))⟩) (fun p e R s m args below meth c Q H locs cells slots ls hx hb ho ht hr hs h => lv_ishl hx hb hd (by have e1 : pj_enc g (0, pj_shl a b) = Value.int (Int32.ofInt a <<< (Int32.ofInt b &&& 31)) := congrArg Value.int (pj_of (Int32.ofInt a <<< (Int32.ofInt b &&& 31))); simp only [List.map_cons, e1] at h; exact h)) kk
theorem pj_ishr (hM : pj_M l y cc nL ret fr lo ph g n0 o Go) {a b : Int} (hd : decode cc pc = .ok (.ishr, 1)) (kk : Go (pc + 1, lls, (0, pj_shr a b) :: st, w)) : Go (pc, lls, (0, b) :: (0, a) :: st, w) :=
  pj_step hM (pc' := pc + 1) (st' := (0, pj_shr a b) :: st) (fun h1 h2 => List.forall_mem_cons.mpr ⟨pj_in32 _, fun v hv => h2 v (List.mem_cons_of_mem _ (List.mem_cons_of_mem _ hv))⟩) (fun p e R s m args below meth c Q H locs cells slots ls hx hb ho ht hr hs h => lv_ishr hx hb hd (by have e1 : pj_enc g (0, pj_shr a b) = Value.int (Int32.ofInt a >>> (Int32.ofInt b &&& 31)) := congrArg Value.int (pj_of (Int32.ofInt a >>> (Int32.ofInt b &&& 31))); simp only [List.map_cons, e1] at h; exact h)) kk
theorem pj_iushr (hM : pj_M l y cc nL ret fr lo ph g n0 o Go) {a b : Int} (hd : decode cc pc = .ok (.iushr, 1)) (kk : Go (pc + 1, lls, (0, pj_ushr a b) :: st, w)) : Go (pc, lls, (0, b) :: (0, a) :: st, w) :=
  pj_step hM (pc' := pc + 1) (st' := (0, pj_ushr a b) :: st) (fun h1 h2 => List.forall_mem_cons.mpr ⟨pj_in32 _, fun v hv => h2 v (List.mem_cons_of_mem _ (List.mem_cons_of_mem _ hv))⟩) (fun p e R s m args below meth c Q H locs cells slots ls hx hb ho ht hr hs h => lv_iushr hx hb hd rfl (by have e1 : pj_enc g (0, pj_ushr a b) = _ := (pj_e0 g _).trans (congrArg Value.int (pj_of _ : Int32.ofInt (pj_ushr a b) = _)); simp only [List.map_cons, e1] at h; exact h)) kk
theorem pj_idiv (hM : pj_M l y cc nL ret fr lo ph g n0 o Go) {a b : Int} (hd : decode cc pc = .ok (.idiv, 1)) (hne : ¬ b = 0) (kk : Go (pc + 1, lls, (0, pj_div a b) :: st, w)) : Go (pc, lls, (0, b) :: (0, a) :: st, w) :=
  pj_step hM (pc' := pc + 1) (st' := (0, pj_div a b) :: st) (fun h1 h2 => List.forall_mem_cons.mpr ⟨pj_okw _ _, fun v hv => h2 v (List.mem_cons_of_mem _ (List.mem_cons_of_mem _ hv))⟩) (fun p e R s m args below meth c Q H locs cells slots ls hx hb ho ht hr hs h => lv_idiv hx hb hd (fun h0 => hne ((pj_eq32 (hs _ List.mem_cons_self) (by decide)).mp h0)) (by rw [pj_div32 (hs _ (List.mem_cons_of_mem _ List.mem_cons_self)) (hs _ List.mem_cons_self)]; exact h)) kk
theorem pj_irem (hM : pj_M l y cc nL ret fr lo ph g n0 o Go) {a b : Int} (hd : decode cc pc = .ok (.irem, 1)) (hne : ¬ b = 0) (kk : Go (pc + 1, lls, (0, a.tmod b) :: st, w)) : Go (pc, lls, (0, b) :: (0, a) :: st, w) :=
  pj_step hM (pc' := pc + 1) (st' := (0, a.tmod b) :: st) (fun h1 h2 => List.forall_mem_cons.mpr ⟨pj_tmod_in 2147483648 (h2 _ (List.mem_cons_of_mem _ List.mem_cons_self)), fun v hv => h2 v (List.mem_cons_of_mem _ (List.mem_cons_of_mem _ hv))⟩) (fun p e R s m args below meth c Q H locs cells slots ls hx hb ho ht hr hs h => lv_irem hx hb hd (fun h0 => hne ((pj_eq32 (hs _ List.mem_cons_self) (by decide)).mp h0)) (by rw [pj_rem32 (hs _ (List.mem_cons_of_mem _ List.mem_cons_self)) (hs _ List.mem_cons_self)]; exact h)) kk
theorem pj_ladd (hM : pj_M l y cc nL ret fr lo ph g n0 o Go) {a b : Int} (hd : decode cc pc = .ok (.ladd, 1)) (kk : Go (pc + 1, lls, (1, pj_wl (a + b)) :: st, w)) : Go (pc, lls, (1, b) :: (1, a) :: st, w) :=
  pj_step hM (pc' := pc + 1) (st' := (1, pj_wl (a + b)) :: st) (fun h1 h2 => List.forall_mem_cons.mpr ⟨pj_okwl _ _, fun v hv => h2 v (List.mem_cons_of_mem _ (List.mem_cons_of_mem _ hv))⟩) (fun p e R s m args below meth c Q H locs cells slots ls hx hb ho ht hr hs h => lv_ladd hx hb hd (by have e1 : pj_enc g (1, _) = _ := (pj_e1 g _).trans (congrArg Value.long ((pj_ofl (a + b)).trans (Int64.ofInt_add a b))); simp only [List.map_cons, e1] at h; exact h)) kk
theorem pj_lsub (hM : pj_M l y cc nL ret fr lo ph g n0 o Go) {a b : Int} (hd : decode cc pc = .ok (.lsub, 1)) (kk : Go (pc + 1, lls, (1, pj_wl (a - b)) :: st, w)) : Go (pc, lls, (1, b) :: (1, a) :: st, w) :=
  pj_step hM (pc' := pc + 1) (st' := (1, pj_wl (a - b)) :: st) (fun h1 h2 => List.forall_mem_cons.mpr ⟨pj_okwl _ _, fun v hv => h2 v (List.mem_cons_of_mem _ (List.mem_cons_of_mem _ hv))⟩) (fun p e R s m args below meth c Q H locs cells slots ls hx hb ho ht hr hs h => lv_lsub hx hb hd (by have e1 : pj_enc g (1, _) = _ := (pj_e1 g _).trans (congrArg Value.long ((pj_ofl (a - b)).trans (Int64.ofInt_sub a b))); simp only [List.map_cons, e1] at h; exact h)) kk
theorem pj_lmul (hM : pj_M l y cc nL ret fr lo ph g n0 o Go) {a b : Int} (hd : decode cc pc = .ok (.lmul, 1)) (kk : Go (pc + 1, lls, (1, pj_wl (a * b)) :: st, w)) : Go (pc, lls, (1, b) :: (1, a) :: st, w) :=
  pj_step hM (pc' := pc + 1) (st' := (1, pj_wl (a * b)) :: st) (fun h1 h2 => List.forall_mem_cons.mpr ⟨pj_okwl _ _, fun v hv => h2 v (List.mem_cons_of_mem _ (List.mem_cons_of_mem _ hv))⟩) (fun p e R s m args below meth c Q H locs cells slots ls hx hb ho ht hr hs h => lv_lmul hx hb hd (by have e1 : pj_enc g (1, _) = _ := (pj_e1 g _).trans (congrArg Value.long ((pj_ofl (a * b)).trans (Int64.ofInt_mul a b))); simp only [List.map_cons, e1] at h; exact h)) kk
theorem pj_land (hM : pj_M l y cc nL ret fr lo ph g n0 o Go) {a b : Int} (hd : decode cc pc = .ok (.land, 1)) (kk : Go (pc + 1, lls, (1, pj_landl a b) :: st, w)) : Go (pc, lls, (1, b) :: (1, a) :: st, w) :=
  pj_step hM (pc' := pc + 1) (st' := (1, pj_landl a b) :: st) (fun h1 h2 => List.forall_mem_cons.mpr ⟨pj_in64 _, fun v hv => h2 v (List.mem_cons_of_mem _ (List.mem_cons_of_mem _ hv))⟩) (fun p e R s m args below meth c Q H locs cells slots ls hx hb ho ht hr hs h => lv_land hx hb hd (by have e1 : pj_enc g (1, pj_landl a b) = Value.long (Int64.ofInt a &&& Int64.ofInt b) := congrArg Value.long (pj_of64 (Int64.ofInt a &&& Int64.ofInt b)); simp only [List.map_cons, e1] at h; exact h)) kk
theorem pj_lor (hM : pj_M l y cc nL ret fr lo ph g n0 o Go) {a b : Int} (hd : decode cc pc = .ok (.lor, 1)) (kk : Go (pc + 1, lls, (1, pj_lorl a b) :: st, w)) : Go (pc, lls, (1, b) :: (1, a) :: st, w) :=
  pj_step hM (pc' := pc + 1) (st' := (1, pj_lorl a b) :: st) (fun h1 h2 => List.forall_mem_cons.mpr ⟨pj_in64 _, fun v hv => h2 v (List.mem_cons_of_mem _ (List.mem_cons_of_mem _ hv))⟩) (fun p e R s m args below meth c Q H locs cells slots ls hx hb ho ht hr hs h => lv_lor hx hb hd (by have e1 : pj_enc g (1, pj_lorl a b) = Value.long (Int64.ofInt a ||| Int64.ofInt b) := congrArg Value.long (pj_of64 (Int64.ofInt a ||| Int64.ofInt b)); simp only [List.map_cons, e1] at h; exact h)) kk
theorem pj_ldiv (hM : pj_M l y cc nL ret fr lo ph g n0 o Go) {a b : Int} (hd : decode cc pc = .ok (.ldiv, 1)) (hne : ¬ b = 0) (kk : Go (pc + 1, lls, (1, pj_divl a b) :: st, w)) : Go (pc, lls, (1, b) :: (1, a) :: st, w) :=
  pj_step hM (pc' := pc + 1) (st' := (1, pj_divl a b) :: st) (fun h1 h2 => List.forall_mem_cons.mpr ⟨pj_okwl _ _, fun v hv => h2 v (List.mem_cons_of_mem _ (List.mem_cons_of_mem _ hv))⟩) (fun p e R s m args below meth c Q H locs cells slots ls hx hb ho ht hr hs h => lv_ldiv hx hb hd (fun h0 => hne ((pj_eq64 (hs _ List.mem_cons_self) (by decide)).mp h0)) (by rw [pj_div64 (hs _ (List.mem_cons_of_mem _ List.mem_cons_self)) (hs _ List.mem_cons_self)]; exact h)) kk
theorem pj_lrem (hM : pj_M l y cc nL ret fr lo ph g n0 o Go) {a b : Int} (hd : decode cc pc = .ok (.lrem, 1)) (hne : ¬ b = 0) (kk : Go (pc + 1, lls, (1, a.tmod b) :: st, w)) : Go (pc, lls, (1, b) :: (1, a) :: st, w) :=
  pj_step hM (pc' := pc + 1) (st' := (1, a.tmod b) :: st) (fun h1 h2 => List.forall_mem_cons.mpr ⟨pj_tmod_in 9223372036854775808 (h2 _ (List.mem_cons_of_mem _ List.mem_cons_self)), fun v hv => h2 v (List.mem_cons_of_mem _ (List.mem_cons_of_mem _ hv))⟩) (fun p e R s m args below meth c Q H locs cells slots ls hx hb ho ht hr hs h => lv_lrem hx hb hd (fun h0 => hne ((pj_eq64 (hs _ List.mem_cons_self) (by decide)).mp h0)) (by rw [pj_rem64 (hs _ (List.mem_cons_of_mem _ List.mem_cons_self)) (hs _ List.mem_cons_self)]; exact h)) kk
theorem pj_lshl (hM : pj_M l y cc nL ret fr lo ph g n0 o Go) {a b : Int} (hd : decode cc pc = .ok (.lshl, 1)) (kk : Go (pc + 1, lls, (1, pj_shll a b) :: st, w)) : Go (pc, lls, (0, b) :: (1, a) :: st, w) :=
  pj_step hM (pc' := pc + 1) (st' := (1, pj_shll a b) :: st) (fun h1 h2 => List.forall_mem_cons.mpr ⟨pj_in64 _, fun v hv => h2 v (List.mem_cons_of_mem _ (List.mem_cons_of_mem _ hv))⟩) (fun p e R s m args below meth c Q H locs cells slots ls hx hb ho ht hr hs h => lv_lshl hx hb hd rfl (by have e1 : pj_enc g (1, pj_shll a b) = _ := (pj_e1 g _).trans (congrArg Value.long (pj_of64 _ : Int64.ofInt (pj_shll a b) = _)); simp only [List.map_cons, e1] at h; exact h)) kk
theorem pj_lcmp (hM : pj_M l y cc nL ret fr lo ph g n0 o Go) {a b : Int} (hd : decode cc pc = .ok (.lcmp, 1)) (kk : Go (pc + 1, lls, (0, pj_cmp a b) :: st, w)) : Go (pc, lls, (1, b) :: (1, a) :: st, w) :=
  pj_step hM (pc' := pc + 1) (st' := (0, pj_cmp a b) :: st) (fun h1 h2 => List.forall_mem_cons.mpr ⟨by show -2147483648 ≤ pj_cmp a b ∧ pj_cmp a b < 2147483648; unfold pj_cmp; repeat' split; all_goals omega, fun v hv => h2 v (List.mem_cons_of_mem _ (List.mem_cons_of_mem _ hv))⟩) (fun p e R s m args below meth c Q H locs cells slots ls hx hb ho ht hr hs h => W.lcmp hx hb hd (by rw [pj_cmpq (hs _ (List.mem_cons_of_mem _ List.mem_cons_self)) (hs _ List.mem_cons_self)]; exact h)) kk
theorem pj_ineg (hM : pj_M l y cc nL ret fr lo ph g n0 o Go) {a : Int} (hd : decode cc pc = .ok (.ineg, 1)) (kk : Go (pc + 1, lls, (0, pj_wr (-a)) :: st, w)) : Go (pc, lls, (0, a) :: st, w) :=
  pj_step hM (pc' := pc + 1) (st' := (0, pj_wr (-a)) :: st) (fun h1 h2 => List.forall_mem_cons.mpr ⟨pj_okw _ _, fun v hv => h2 v (List.mem_cons_of_mem _ hv)⟩) (fun p e R s m args below meth c Q H locs cells slots ls hx hb ho ht hr hs h => lv_ineg hx hb hd (by have e1 : pj_enc g (0, pj_wr (-a)) = Value.int (-Int32.ofInt a) := congrArg Value.int ((pj_ofr (-a)).trans (Int32.ofInt_neg a)); simp only [List.map_cons, e1] at h; exact h)) kk
theorem pj_i2l (hM : pj_M l y cc nL ret fr lo ph g n0 o Go) {a : Int} (hd : decode cc pc = .ok (.i2l, 1)) (kk : Go (pc + 1, lls, (1, a) :: st, w)) : Go (pc, lls, (0, a) :: st, w) :=
  pj_step hM (pc' := pc + 1) (st' := (1, a) :: st) (fun h1 h2 => List.forall_mem_cons.mpr ⟨by have := h2 _ List.mem_cons_self; rw [pj_ok0] at this; show -9223372036854775808 ≤ a ∧ a < 9223372036854775808; omega, fun v hv => h2 v (List.mem_cons_of_mem _ hv)⟩) (fun p e R s m args below meth c Q H locs cells slots ls hx hb ho ht hr hs h => lv_i2l hx hb hd (v := Int64.ofInt a) (by have := hs _ List.mem_cons_self; rw [pj_ok0] at this; rw [← Int64.toInt_inj, Int32.toInt_toInt64, pj_t32 this, pj_t64 (by omega)]) h) kk
theorem pj_l2i (hM : pj_M l y cc nL ret fr lo ph g n0 o Go) {a : Int} (hd : decode cc pc = .ok (.l2i, 1)) (kk : Go (pc + 1, lls, (0, pj_wr a) :: st, w)) : Go (pc, lls, (1, a) :: st, w) :=
  pj_step hM (pc' := pc + 1) (st' := (0, pj_wr a) :: st) (fun h1 h2 => List.forall_mem_cons.mpr ⟨pj_okw _ _, fun v hv => h2 v (List.mem_cons_of_mem _ hv)⟩) (fun p e R s m args below meth c Q H locs cells slots ls hx hb ho ht hr hs h => lv_l2i hx hb hd (v := Int32.ofInt (pj_wr a)) (by have := hs _ List.mem_cons_self; rw [pj_ok1] at this; rw [pj_ofr, ← Int32.toInt_inj, Int64.toInt_toInt32, pj_t64 this, Int32.toInt_ofInt]) h) kk
theorem pj_i2b (hM : pj_M l y cc nL ret fr lo ph g n0 o Go) {a : Int} (hd : decode cc pc = .ok (.i2b, 1)) (kk : Go (pc + 1, lls, (0, pj_w8 a) :: st, w)) : Go (pc, lls, (0, a) :: st, w) :=
  pj_step hM (pc' := pc + 1) (st' := (0, pj_w8 a) :: st) (fun h1 h2 => List.forall_mem_cons.mpr ⟨by show -2147483648 ≤ pj_w8 a ∧ pj_w8 a < 2147483648; unfold pj_w8; omega, fun v hv => h2 v (List.mem_cons_of_mem _ hv)⟩) (fun p e R s m args below meth c Q H locs cells slots ls hx hb ho ht hr hs h => lv_i2b hx hb hd (pj_b8 a) h) kk
theorem pj_i2s (hM : pj_M l y cc nL ret fr lo ph g n0 o Go) {a : Int} (hd : decode cc pc = .ok (.i2s, 1)) (kk : Go (pc + 1, lls, (0, pj_w16 a) :: st, w)) : Go (pc, lls, (0, a) :: st, w) :=
  pj_step hM (pc' := pc + 1) (st' := (0, pj_w16 a) :: st) (fun h1 h2 => List.forall_mem_cons.mpr ⟨by show -2147483648 ≤ pj_w16 a ∧ pj_w16 a < 2147483648; unfold pj_w16; omega, fun v hv => h2 v (List.mem_cons_of_mem _ hv)⟩) (fun p e R s m args below meth c Q H locs cells slots ls hx hb ho ht hr hs h => lv_i2s hx hb hd (pj_b16 a) h) kk
theorem pj_cat1 (g : pj_G) {t : Nat} (h : t ≠ 1) (z : Int) : (pj_enc g (t, z)).category = 1 := by
  by_cases h0 : t = 0
  · subst h0; rfl
  · rcases pj_erc g (show 2 ≤ t by omega) z with e | ⟨a, e⟩ <;> rw [e] <;> rfl
theorem pj_dup (hM : pj_M l y cc nL ret fr lo ph g n0 o Go) {t : Nat} {z : Int} (hd : decode cc pc = .ok (.dup, 1)) (htt : t ≠ 1) (kk : Go (pc + 1, lls, (t, z) :: (t, z) :: st, w)) : Go (pc, lls, (t, z) :: st, w) :=
  pj_step hM (pc' := pc + 1) (st' := (t, z) :: (t, z) :: st) (fun h1 h2 => List.forall_mem_cons.mpr ⟨h2 _ List.mem_cons_self, h2⟩) (fun p e R s m args below meth c Q H locs cells slots ls hx hb ho ht hr hs h => lv_dup hx hb hd (pj_cat1 g htt z) h) kk
theorem pj_pop (hM : pj_M l y cc nL ret fr lo ph g n0 o Go) {t : Nat} {z : Int} (hd : decode cc pc = .ok (.pop, 1)) (htt : t ≠ 1) (kk : Go (pc + 1, lls, st, w)) : Go (pc, lls, (t, z) :: st, w) :=
  pj_step hM (pc' := pc + 1) (st' := st) (fun h1 h2 => fun v hv => h2 v (List.mem_cons_of_mem _ hv)) (fun p e R s m args below meth c Q H locs cells slots ls hx hb ho ht hr hs h => lv_pop hx hb hd (pj_cat1 g htt z) h) kk
theorem pj_dup2 (hM : pj_M l y cc nL ret fr lo ph g n0 o Go) {t t2 : Nat} {z z2 : Int} (hd : decode cc pc = .ok (.dup2, 1)) (htt : t ≠ 1) (htt2 : t2 ≠ 1) (kk : Go (pc + 1, lls, (t, z) :: (t2, z2) :: (t, z) :: (t2, z2) :: st, w)) : Go (pc, lls, (t, z) :: (t2, z2) :: st, w) :=
  pj_step hM (pc' := pc + 1) (st' := (t, z) :: (t2, z2) :: (t, z) :: (t2, z2) :: st) (fun h1 h2 => List.forall_mem_cons.mpr ⟨h2 _ List.mem_cons_self, List.forall_mem_cons.mpr ⟨h2 _ (List.mem_cons_of_mem _ List.mem_cons_self), h2⟩⟩) (fun p e R s m args below meth c Q H locs cells slots ls hx hb ho ht hr hs h => lv_dup2_11 hx hb hd (pj_cat1 g htt z) (pj_cat1 g htt2 z2) h) kk
theorem pj_goto (hM : pj_M l y cc nL ret fr lo ph g n0 o Go) {off : Int} {tgt : Nat} (hd : decode cc pc = .ok (.goto off, 3)) (htg : (pc : Int) + off = (tgt : Int)) (kk : Go (tgt, lls, st, w)) : Go (pc, lls, st, w) :=
  pj_step hM (pc' := tgt) (st' := st) (fun h1 h2 => h2) (fun p e R s m args below meth c Q H locs cells slots ls hx hb ho ht hr hs h => lv_goto hx hb hd htg h) kk
theorem pj_if_eq_t (hM : pj_M l y cc nL ret fr lo ph g n0 o Go) {z off : Int} {tgt : Nat} (hd : decode cc pc = .ok (.ifCond .eq off, 3)) (htg : (pc : Int) + off = (tgt : Int)) (hc : z = 0) (kk : Go (tgt, lls, st, w)) : Go (pc, lls, (0, z) :: st, w) :=
  pj_step hM (pc' := tgt) (st' := st) (fun h1 h2 => fun v hv => h2 v (List.mem_cons_of_mem _ hv)) (fun p e R s m args below meth c Q H locs cells slots ls hx hb ho ht hr hs h => lv_if_eq hx hb hd htg (fun _ => h) (fun hn => absurd ((pj_eq32 (hs _ List.mem_cons_self) (by decide : (-2147483648 : Int) ≤ 0 ∧ (0 : Int) < 2147483648)).mpr hc) hn)) kk
theorem pj_if_eq_f (hM : pj_M l y cc nL ret fr lo ph g n0 o Go) {z off : Int} (tgt : Nat) (hd : decode cc pc = .ok (.ifCond .eq off, 3)) (htg : (pc : Int) + off = (tgt : Int)) (hc : ¬ (z = 0)) (kk : Go (pc + 3, lls, st, w)) : Go (pc, lls, (0, z) :: st, w) :=
  pj_step hM (pc' := pc + 3) (st' := st) (fun h1 h2 => fun v hv => h2 v (List.mem_cons_of_mem _ hv)) (fun p e R s m args below meth c Q H locs cells slots ls hx hb ho ht hr hs h => lv_if_eq hx hb hd htg (fun hn => absurd ((pj_eq32 (hs _ List.mem_cons_self) (by decide : (-2147483648 : Int) ≤ 0 ∧ (0 : Int) < 2147483648)).mp hn) hc) (fun _ => h)) kk
theorem pj_if_ne_t (hM : pj_M l y cc nL ret fr lo ph g n0 o Go) {z off : Int} {tgt : Nat} (hd : decode cc pc = .ok (.ifCond .ne off, 3)) (htg : (pc : Int) + off = (tgt : Int)) (hc : z ≠ 0) (kk : Go (tgt, lls, st, w)) : Go (pc, lls, (0, z) :: st, w) :=
  pj_step hM (pc' := tgt) (st' := st) (fun h1 h2 => fun v hv => h2 v (List.mem_cons_of_mem _ hv)) (fun p e R s m args below meth c Q H locs cells slots ls hx hb ho ht hr hs h => lv_if_ne hx hb hd htg (fun _ => h) (fun hn => absurd hn ((not_congr (pj_eq32 (hs _ List.mem_cons_self) (by decide : (-2147483648 : Int) ≤ 0 ∧ (0 : Int) < 2147483648))).mpr hc))) kk
theorem pj_if_ne_f (hM : pj_M l y cc nL ret fr lo ph g n0 o Go) {z off : Int} (tgt : Nat) (hd : decode cc pc = .ok (.ifCond .ne off, 3)) (htg : (pc : Int) + off = (tgt : Int)) (hc : ¬ (z ≠ 0)) (kk : Go (pc + 3, lls, st, w)) : Go (pc, lls, (0, z) :: st, w) :=
  pj_step hM (pc' := pc + 3) (st' := st) (fun h1 h2 => fun v hv => h2 v (List.mem_cons_of_mem _ hv)) (fun p e R s m args below meth c Q H locs cells slots ls hx hb ho ht hr hs h => lv_if_ne hx hb hd htg (fun hn => absurd ((not_congr (pj_eq32 (hs _ List.mem_cons_self) (by decide : (-2147483648 : Int) ≤ 0 ∧ (0 : Int) < 2147483648))).mp hn) hc) (fun _ => h)) kk
theorem pj_if_lt_t (hM : pj_M l y cc nL ret fr lo ph g n0 o Go) {z off : Int} {tgt : Nat} (hd : decode cc pc = .ok (.ifCond .lt off, 3)) (htg : (pc : Int) + off = (tgt : Int)) (hc : z < 0) (kk : Go (tgt, lls, st, w)) : Go (pc, lls, (0, z) :: st, w) :=
  pj_step hM (pc' := tgt) (st' := st) (fun h1 h2 => fun v hv => h2 v (List.mem_cons_of_mem _ hv)) (fun p e R s m args below meth c Q H locs cells slots ls hx hb ho ht hr hs h => lv_if_lt hx hb hd htg (fun _ => h) (fun hn => absurd ((pj_lt32 (hs _ List.mem_cons_self) (by decide : (-2147483648 : Int) ≤ 0 ∧ (0 : Int) < 2147483648)).mpr hc) hn)) kk
theorem pj_if_lt_f (hM : pj_M l y cc nL ret fr lo ph g n0 o Go) {z off : Int} (tgt : Nat) (hd : decode cc pc = .ok (.ifCond .lt off, 3)) (htg : (pc : Int) + off = (tgt : Int)) (hc : ¬ (z < 0)) (kk : Go (pc + 3, lls, st, w)) : Go (pc, lls, (0, z) :: st, w) :=
  pj_step hM (pc' := pc + 3) (st' := st) (fun h1 h2 => fun v hv => h2 v (List.mem_cons_of_mem _ hv)) (fun p e R s m args below meth c Q H locs cells slots ls hx hb ho ht hr hs h => lv_if_lt hx hb hd htg (fun hn => absurd ((pj_lt32 (hs _ List.mem_cons_self) (by decide : (-2147483648 : Int) ≤ 0 ∧ (0 : Int) < 2147483648)).mp hn) hc) (fun _ => h)) kk
theorem pj_if_ge_t (hM : pj_M l y cc nL ret fr lo ph g n0 o Go) {z off : Int} {tgt : Nat} (hd : decode cc pc = .ok (.ifCond .ge off, 3)) (htg : (pc : Int) + off = (tgt : Int)) (hc : 0 ≤ z) (kk : Go (tgt, lls, st, w)) : Go (pc, lls, (0, z) :: st, w) :=
  pj_step hM (pc' := tgt) (st' := st) (fun h1 h2 => fun v hv => h2 v (List.mem_cons_of_mem _ hv)) (fun p e R s m args below meth c Q H locs cells slots ls hx hb ho ht hr hs h => lv_if_ge hx hb hd htg (fun _ => h) (fun hn => absurd ((pj_le32 (by decide : (-2147483648 : Int) ≤ 0 ∧ (0 : Int) < 2147483648) (hs _ List.mem_cons_self)).mpr hc) hn)) kk
theorem pj_if_ge_f (hM : pj_M l y cc nL ret fr lo ph g n0 o Go) {z off : Int} (tgt : Nat) (hd : decode cc pc = .ok (.ifCond .ge off, 3)) (htg : (pc : Int) + off = (tgt : Int)) (hc : ¬ (0 ≤ z)) (kk : Go (pc + 3, lls, st, w)) : Go (pc, lls, (0, z) :: st, w) :=
  pj_step hM (pc' := pc + 3) (st' := st) (fun h1 h2 => fun v hv => h2 v (List.mem_cons_of_mem _ hv)) (fun p e R s m args below meth c Q H locs cells slots ls hx hb ho ht hr hs h => lv_if_ge hx hb hd htg (fun hn => absurd ((pj_le32 (by decide : (-2147483648 : Int) ≤ 0 ∧ (0 : Int) < 2147483648) (hs _ List.mem_cons_self)).mp hn) hc) (fun _ => h)) kk
theorem pj_if_gt_t (hM : pj_M l y cc nL ret fr lo ph g n0 o Go) {z off : Int} {tgt : Nat} (hd : decode cc pc = .ok (.ifCond .gt off, 3)) (htg : (pc : Int) + off = (tgt : Int)) (hc : 0 < z) (kk : Go (tgt, lls, st, w)) : Go (pc, lls, (0, z) :: st, w) :=
  pj_step hM (pc' := tgt) (st' := st) (fun h1 h2 => fun v hv => h2 v (List.mem_cons_of_mem _ hv)) (fun p e R s m args below meth c Q H locs cells slots ls hx hb ho ht hr hs h => lv_if_gt hx hb hd htg (fun _ => h) (fun hn => absurd ((pj_lt32 (by decide : (-2147483648 : Int) ≤ 0 ∧ (0 : Int) < 2147483648) (hs _ List.mem_cons_self)).mpr hc) hn)) kk
theorem pj_if_gt_f (hM : pj_M l y cc nL ret fr lo ph g n0 o Go) {z off : Int} (tgt : Nat) (hd : decode cc pc = .ok (.ifCond .gt off, 3)) (htg : (pc : Int) + off = (tgt : Int)) (hc : ¬ (0 < z)) (kk : Go (pc + 3, lls, st, w)) : Go (pc, lls, (0, z) :: st, w) :=
  pj_step hM (pc' := pc + 3) (st' := st) (fun h1 h2 => fun v hv => h2 v (List.mem_cons_of_mem _ hv)) (fun p e R s m args below meth c Q H locs cells slots ls hx hb ho ht hr hs h => lv_if_gt hx hb hd htg (fun hn => absurd ((pj_lt32 (by decide : (-2147483648 : Int) ≤ 0 ∧ (0 : Int) < 2147483648) (hs _ List.mem_cons_self)).mp hn) hc) (fun _ => h)) kk
theorem pj_if_le_t (hM : pj_M l y cc nL ret fr lo ph g n0 o Go) {z off : Int} {tgt : Nat} (hd : decode cc pc = .ok (.ifCond .le off, 3)) (htg : (pc : Int) + off = (tgt : Int)) (hc : z ≤ 0) (kk : Go (tgt, lls, st, w)) : Go (pc, lls, (0, z) :: st, w) :=
  pj_step hM (pc' := tgt) (st' := st) (fun h1 h2 => fun v hv => h2 v (List.mem_cons_of_mem _ hv)) (fun p e R s m args below meth c Q H locs cells slots ls hx hb ho ht hr hs h => lv_if_le hx hb hd htg (fun _ => h) (fun hn => absurd ((pj_le32 (hs _ List.mem_cons_self) (by decide : (-2147483648 : Int) ≤ 0 ∧ (0 : Int) < 2147483648)).mpr hc) hn)) kk
theorem pj_if_le_f (hM : pj_M l y cc nL ret fr lo ph g n0 o Go) {z off : Int} (tgt : Nat) (hd : decode cc pc = .ok (.ifCond .le off, 3)) (htg : (pc : Int) + off = (tgt : Int)) (hc : ¬ (z ≤ 0)) (kk : Go (pc + 3, lls, st, w)) : Go (pc, lls, (0, z) :: st, w) :=
  pj_step hM (pc' := pc + 3) (st' := st) (fun h1 h2 => fun v hv => h2 v (List.mem_cons_of_mem _ hv)) (fun p e R s m args below meth c Q H locs cells slots ls hx hb ho ht hr hs h => lv_if_le hx hb hd htg (fun hn => absurd ((pj_le32 (hs _ List.mem_cons_self) (by decide : (-2147483648 : Int) ≤ 0 ∧ (0 : Int) < 2147483648)).mp hn) hc) (fun _ => h)) kk
theorem pj_ic_eq_t (hM : pj_M l y cc nL ret fr lo ph g n0 o Go) {a b off : Int} {tgt : Nat} (hd : decode cc pc = .ok (.if_icmp .eq off, 3)) (htg : (pc : Int) + off = (tgt : Int)) (hc : a = b) (kk : Go (tgt, lls, st, w)) : Go (pc, lls, (0, b) :: (0, a) :: st, w) :=
  pj_step hM (pc' := tgt) (st' := st) (fun h1 h2 => fun v hv => h2 v (List.mem_cons_of_mem _ (List.mem_cons_of_mem _ hv))) (fun p e R s m args below meth c Q H locs cells slots ls hx hb ho ht hr hs h => lv_icmp_eq hx hb hd htg (fun _ => h) (fun hn => absurd ((pj_eq32 (hs _ (List.mem_cons_of_mem _ List.mem_cons_self)) (hs _ List.mem_cons_self)).mpr hc) hn)) kk
theorem pj_ic_eq_f (hM : pj_M l y cc nL ret fr lo ph g n0 o Go) {a b off : Int} (tgt : Nat) (hd : decode cc pc = .ok (.if_icmp .eq off, 3)) (htg : (pc : Int) + off = (tgt : Int)) (hc : ¬ (a = b)) (kk : Go (pc + 3, lls, st, w)) : Go (pc, lls, (0, b) :: (0, a) :: st, w) :=
  pj_step hM (pc' := pc + 3) (st' := st) (fun h1 h2 => fun v hv => h2 v (List.mem_cons_of_mem _ (List.mem_cons_of_mem _ hv))) (fun p e R s m args below meth c Q H locs cells slots ls hx hb ho ht hr hs h => lv_icmp_eq hx hb hd htg (fun hn => absurd ((pj_eq32 (hs _ (List.mem_cons_of_mem _ List.mem_cons_self)) (hs _ List.mem_cons_self)).mp hn) hc) (fun _ => h)) kk
theorem pj_ic_ne_t (hM : pj_M l y cc nL ret fr lo ph g n0 o Go) {a b off : Int} {tgt : Nat} (hd : decode cc pc = .ok (.if_icmp .ne off, 3)) (htg : (pc : Int) + off = (tgt : Int)) (hc : a ≠ b) (kk : Go (tgt, lls, st, w)) : Go (pc, lls, (0, b) :: (0, a) :: st, w) :=
  pj_step hM (pc' := tgt) (st' := st) (fun h1 h2 => fun v hv => h2 v (List.mem_cons_of_mem _ (List.mem_cons_of_mem _ hv))) (fun p e R s m args below meth c Q H locs cells slots ls hx hb ho ht hr hs h => lv_icmp_ne hx hb hd htg (fun _ => h) (fun hn => absurd hn ((not_congr (pj_eq32 (hs _ (List.mem_cons_of_mem _ List.mem_cons_self)) (hs _ List.mem_cons_self))).mpr hc))) kk
theorem pj_ic_ne_f (hM : pj_M l y cc nL ret fr lo ph g n0 o Go) {a b off : Int} (tgt : Nat) (hd : decode cc pc = .ok (.if_icmp .ne off, 3)) (htg : (pc : Int) + off = (tgt : Int)) (hc : ¬ (a ≠ b)) (kk : Go (pc + 3, lls, st, w)) : Go (pc, lls, (0, b) :: (0, a) :: st, w) :=
  pj_step hM (pc' := pc + 3) (st' := st) (fun h1 h2 => fun v hv => h2 v (List.mem_cons_of_mem _ (List.mem_cons_of_mem _ hv))) (fun p e R s m args below meth c Q H locs cells slots ls hx hb ho ht hr hs h => lv_icmp_ne hx hb hd htg (fun hn => absurd ((not_congr (pj_eq32 (hs _ (List.mem_cons_of_mem _ List.mem_cons_self)) (hs _ List.mem_cons_self))).mp hn) hc) (fun _ => h)) kk
theorem pj_ic_lt_t (hM : pj_M l y cc nL ret fr lo ph g n0 o Go) {a b off : Int} {tgt : Nat} (hd : decode cc pc = .ok (.if_icmp .lt off, 3)) (htg : (pc : Int) + off = (tgt : Int)) (hc : a < b) (kk : Go (tgt, lls, st, w)) : Go (pc, lls, (0, b) :: (0, a) :: st, w) :=
  pj_step hM (pc' := tgt) (st' := st) (fun h1 h2 => fun v hv => h2 v (List.mem_cons_of_mem _ (List.mem_cons_of_mem _ hv))) (fun p e R s m args below meth c Q H locs cells slots ls hx hb ho ht hr hs h => lv_icmp_lt hx hb hd htg (fun _ => h) (fun hn => absurd ((pj_lt32 (hs _ (List.mem_cons_of_mem _ List.mem_cons_self)) (hs _ List.mem_cons_self)).mpr hc) hn)) kk
theorem pj_ic_lt_f (hM : pj_M l y cc nL ret fr lo ph g n0 o Go) {a b off : Int} (tgt : Nat) (hd : decode cc pc = .ok (.if_icmp .lt off, 3)) (htg : (pc : Int) + off = (tgt : Int)) (hc : ¬ (a < b)) (kk : Go (pc + 3, lls, st, w)) : Go (pc, lls, (0, b) :: (0, a) :: st, w) :=
  pj_step hM (pc' := pc + 3) (st' := st) (fun h1 h2 => fun v hv => h2 v (List.mem_cons_of_mem _ (List.mem_cons_of_mem _ hv))) (fun p e R s m args below meth c Q H locs cells slots ls hx hb ho ht hr hs h => lv_icmp_lt hx hb hd htg (fun hn => absurd ((pj_lt32 (hs _ (List.mem_cons_of_mem _ List.mem_cons_self)) (hs _ List.mem_cons_self)).mp hn) hc) (fun _ => h)) kk
theorem pj_ic_ge_t (hM : pj_M l y cc nL ret fr lo ph g n0 o Go) {a b off : Int} {tgt : Nat} (hd : decode cc pc = .ok (.if_icmp .ge off, 3)) (htg : (pc : Int) + off = (tgt : Int)) (hc : b ≤ a) (kk : Go (tgt, lls, st, w)) : Go (pc, lls, (0, b) :: (0, a) :: st, w) :=
  pj_step hM (pc' := tgt) (st' := st) (fun h1 h2 => fun v hv => h2 v (List.mem_cons_of_mem _ (List.mem_cons_of_mem _ hv))) (fun p e R s m args below meth c Q H locs cells slots ls hx hb ho ht hr hs h => lv_icmp_ge hx hb hd htg (fun _ => h) (fun hn => absurd ((pj_le32 (hs _ List.mem_cons_self) (hs _ (List.mem_cons_of_mem _ List.mem_cons_self))).mpr hc) hn)) kk
theorem pj_ic_ge_f (hM : pj_M l y cc nL ret fr lo ph g n0 o Go) {a b off : Int} (tgt : Nat) (hd : decode cc pc = .ok (.if_icmp .ge off, 3)) (htg : (pc : Int) + off = (tgt : Int)) (hc : ¬ (b ≤ a)) (kk : Go (pc + 3, lls, st, w)) : Go (pc, lls, (0, b) :: (0, a) :: st, w) :=
  pj_step hM (pc' := pc + 3) (st' := st) (fun h1 h2 => fun v hv => h2 v (List.mem_cons_of_mem _ (List.mem_cons_of_mem _ hv))) (fun p e R s m args below meth c Q H locs cells slots ls hx hb ho ht hr hs h => lv_icmp_ge hx hb hd htg (fun hn => absurd ((pj_le32 (hs _ List.mem_cons_self) (hs _ (List.mem_cons_of_mem _ List.mem_cons_self))).mp hn) hc) (fun _ => h)) kk
theorem pj_ic_gt_t (hM : pj_M l y cc nL ret fr lo ph g n0 o Go) {a b off : Int} {tgt : Nat} (hd : decode cc pc = .ok (.if_icmp .gt off, 3)) (htg : (pc : Int) + off = (tgt : Int)) (hc : b < a) (kk : Go (tgt, lls, st, w)) : Go (pc, lls, (0, b) :: (0, a) :: st, w) :=
  pj_step hM (pc' := tgt) (st' := st) (fun h1 h2 => fun v hv => h2 v (List.mem_cons_of_mem _ (List.mem_cons_of_mem _ hv))) (fun p e R s m args below meth c Q H locs cells slots ls hx hb ho ht hr hs h => lv_icmp_gt hx hb hd htg (fun _ => h) (fun hn => absurd ((pj_lt32 (hs _ List.mem_cons_self) (hs _ (List.mem_cons_of_mem _ List.mem_cons_self))).mpr hc) hn)) kk
theorem pj_ic_gt_f (hM : pj_M l y cc nL ret fr lo ph g n0 o Go) {a b off : Int} (tgt : Nat) (hd : decode cc pc = .ok (.if_icmp .gt off, 3)) (htg : (pc : Int) + off = (tgt : Int)) (hc : ¬ (b < a)) (kk : Go (pc + 3, lls, st, w)) : Go (pc, lls, (0, b) :: (0, a) :: st, w) :=
  pj_step hM (pc' := pc + 3) (st' := st) (fun h1 h2 => fun v hv => h2 v (List.mem_cons_of_mem _ (List.mem_cons_of_mem _ hv))) (fun p e R s m args below meth c Q H locs cells slots ls hx hb ho ht hr hs h => lv_icmp_gt hx hb hd htg (fun hn => absurd ((pj_lt32 (hs _ List.mem_cons_self) (hs _ (List.mem_cons_of_mem _ List.mem_cons_self))).mp hn) hc) (fun _ => h)) kk
theorem pj_ic_le_t (hM : pj_M l y cc nL ret fr lo ph g n0 o Go) {a b off : Int} {tgt : Nat} (hd : decode cc pc = .ok (.if_icmp .le off, 3)) (htg : (pc : Int) + off = (tgt : Int)) (hc : a ≤ b) (kk : Go (tgt, lls, st, w)) : Go (pc, lls, (0, b) :: (0, a) :: st, w) :=
  pj_step hM (pc' := tgt) (st' := st) (fun h1 h2 => fun v hv => h2 v (List.mem_cons_of_mem _ (List.mem_cons_of_mem _ hv))) (fun p e R s m args below meth c Q H locs cells slots ls hx hb ho ht hr hs h => lv_icmp_le hx hb hd htg (fun _ => h) (fun hn => absurd ((pj_le32 (hs _ (List.mem_cons_of_mem _ List.mem_cons_self)) (hs _ List.mem_cons_self)).mpr hc) hn)) kk
theorem pj_ic_le_f (hM : pj_M l y cc nL ret fr lo ph g n0 o Go) {a b off : Int} (tgt : Nat) (hd : decode cc pc = .ok (.if_icmp .le off, 3)) (htg : (pc : Int) + off = (tgt : Int)) (hc : ¬ (a ≤ b)) (kk : Go (pc + 3, lls, st, w)) : Go (pc, lls, (0, b) :: (0, a) :: st, w) :=
  pj_step hM (pc' := pc + 3) (st' := st) (fun h1 h2 => fun v hv => h2 v (List.mem_cons_of_mem _ (List.mem_cons_of_mem _ hv))) (fun p e R s m args below meth c Q H locs cells slots ls hx hb ho ht hr hs h => lv_icmp_le hx hb hd htg (fun hn => absurd ((pj_le32 (hs _ (List.mem_cons_of_mem _ List.mem_cons_self)) (hs _ List.mem_cons_self)).mp hn) hc) (fun _ => h)) kk
theorem pj_null_t (hM : pj_M l y cc nL ret fr lo ph g n0 o Go) {k : Nat} {z : Int} {off : Int} {tgt : Nat} (hd : decode cc pc = .ok (.ifnull off, 3)) (htg : (pc : Int) + off = (tgt : Int)) (hk : 10 ≤ k) (hc : z < 0) (kk : Go (tgt, lls, st, w)) : Go (pc, lls, (k, z) :: st, w) := by
  refine pj_step hM (fun h1 h2 => fun v hv => h2 v (List.mem_cons_of_mem _ hv)) (fun p e R s m args below meth c Q H locs cells slots ls hx hb ho ht hr hs h => ?_) kk
  have e1 := pj_er g hk z
  rw [if_pos hc] at e1
  simp only [List.map_cons, e1]
  exact lv_ifnullN hx hb hd htg h
theorem pj_null_f (hM : pj_M l y cc nL ret fr lo ph g n0 o Go) {k : Nat} {z : Int} {off : Int} (tgt : Nat) (hd : decode cc pc = .ok (.ifnull off, 3)) (htg : (pc : Int) + off = (tgt : Int)) (hk : 10 ≤ k) (hc : ¬ z < 0) (kk : Go (pc + 3, lls, st, w)) : Go (pc, lls, (k, z) :: st, w) := by
  refine pj_step hM (fun h1 h2 => fun v hv => h2 v (List.mem_cons_of_mem _ hv)) (fun p e R s m args below meth c Q H locs cells slots ls hx hb ho ht hr hs h => ?_) kk
  have e1 := pj_er g hk z
  rw [if_neg hc] at e1
  simp only [List.map_cons, e1]
  exact lv_ifnull hx hb hd h
theorem pj_nonnull_t (hM : pj_M l y cc nL ret fr lo ph g n0 o Go) {k : Nat} {z : Int} {off : Int} {tgt : Nat} (hd : decode cc pc = .ok (.ifnonnull off, 3)) (htg : (pc : Int) + off = (tgt : Int)) (hk : 10 ≤ k) (hc : ¬ z < 0) (kk : Go (tgt, lls, st, w)) : Go (pc, lls, (k, z) :: st, w) := by
  refine pj_step hM (fun h1 h2 => fun v hv => h2 v (List.mem_cons_of_mem _ hv)) (fun p e R s m args below meth c Q H locs cells slots ls hx hb ho ht hr hs h => ?_) kk
  have e1 := pj_er g hk z
  rw [if_neg hc] at e1
  simp only [List.map_cons, e1]
  exact lv_ifnonnull hx hb hd htg h
theorem pj_nonnull_f (hM : pj_M l y cc nL ret fr lo ph g n0 o Go) {k : Nat} {z : Int} {off : Int} (tgt : Nat) (hd : decode cc pc = .ok (.ifnonnull off, 3)) (htg : (pc : Int) + off = (tgt : Int)) (hk : 10 ≤ k) (hc : z < 0) (kk : Go (pc + 3, lls, st, w)) : Go (pc, lls, (k, z) :: st, w) := by
  refine pj_step hM (fun h1 h2 => fun v hv => h2 v (List.mem_cons_of_mem _ hv)) (fun p e R s m args below meth c Q H locs cells slots ls hx hb ho ht hr hs h => ?_) kk
  have e1 := pj_er g hk z
  rw [if_pos hc] at e1
  simp only [List.map_cons, e1]
  exact lv_ifnonnullN hx hb hd h
/-- the offset that a table gives -/
def pj_tab (dflt lo hi : Int) (offs : Array Int) (z : Int) : Int := if z < lo ∨ hi < z then dflt else (offs[(z - lo).toNat]?).getD dflt
theorem pj_table (hM : pj_M l y cc nL ret fr lo ph g n0 o Go) {dflt lo hi z : Int} {offs : Array Int} {len tgt : Nat} (hd : decode cc pc = .ok (.tableswitch dflt lo hi offs, len)) (hsz : hi - lo < offs.size) (htg : (pc : Int) + pj_tab dflt lo hi offs z = (tgt : Int)) (kk : Go (tgt, lls, st, w)) : Go (pc, lls, (0, z) :: st, w) := by
  refine pj_step hM (fun h1 h2 => fun v hv => h2 v (List.mem_cons_of_mem _ hv)) (fun p e R s m args below meth c Q H locs cells slots ls hx hb ho ht hr hs h => ?_) kk
  have hz := pj_t32 (hs _ List.mem_cons_self : -2147483648 ≤ z ∧ z < 2147483648)
  unfold pj_tab at htg
  by_cases hc : z < lo ∨ hi < z
  · rw [if_pos hc] at htg
    exact lv_tableOut hx hb hd (by rw [hz]; exact hc) htg h
  · rw [if_neg hc] at htg
    have hlt : (z - lo).toNat < offs.size := by omega
    rw [Array.getElem?_eq_getElem hlt] at htg
    exact lv_tableIn hx hb hd (by rw [hz]; omega) (by rw [hz]; omega) (by rw [hz]; exact Array.getElem?_eq_getElem hlt) htg h
theorem pj_look (hM : pj_M l y cc nL ret fr lo ph g n0 o Go) {dflt z : Int} {ps : Array (Int × Int)} {len tgt : Nat} (hd : decode cc pc = .ok (.lookupswitch dflt ps, len)) (hp : (ps.toList.zip (ps.toList.drop 1)).all (fun (a, next) => a.1 < next.1) = true) (htg : (pc : Int) + Op.lookupswitch.offset ps.toList dflt z = (tgt : Int)) (kk : Go (tgt, lls, st, w)) : Go (pc, lls, (0, z) :: st, w) :=
  pj_step hM (fun h1 h2 => fun v hv => h2 v (List.mem_cons_of_mem _ hv)) (fun p e R s m args below meth c Q H locs cells slots ls hx hb ho ht hr hs h => lv_lookup hx hb hd hp rfl (by show (pc : Int) + Op.lookupswitch.offset ps.toList dflt (Int32.ofInt z).toInt = (tgt : Int); rw [pj_t32 (hs _ List.mem_cons_self : -2147483648 ≤ z ∧ z < 2147483648)]; exact htg) h) kk
end
