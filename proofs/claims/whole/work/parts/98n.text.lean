/-! TEXTS, as the model reads them -/
def tk_M (u : pj_W) (B : Int → Int) (n : Int) : Prop := u 26 0 11 = n ∧ 0 ≤ n ∧ n ≤ 900 ∧ (∀ p, -128 ≤ B p ∧ B p < 128) ∧ ∀ p, 0 ≤ p → p < n → u 66 0 p = B p
def tk_mt (v : pj_W) (B : Int → Int) (n s : Int) : Prop := tk_run tk_bl B n s (v 26 0 13) ∧
  ((v 26 0 13 = n ∧ v 26 0 12 = 0 ∧ v 26 0 14 = n) ∨
  (v 26 0 13 < n ∧ tk_sm (B (v 26 0 13)) ∧ tk_run tk_sm B n (v 26 0 13) (v 26 0 14) ∧ v 26 0 12 = 2) ∨
  (v 26 0 13 < n ∧ tk_dg (B (v 26 0 13)) ∧ tk_run tk_dg B n (v 26 0 13) (v 26 0 14) ∧ ((4 < v 26 0 14 - v 26 0 13 ∧ v 26 0 12 = 1) ∨ (v 26 0 14 - v 26 0 13 ≤ 4 ∧ v 26 0 12 = 3 ∧ v 26 0 15 = tk_dv (tk_ls B (v 26 0 13) (v 26 0 14 - v 26 0 13).toNat)))) ∨
  (v 26 0 13 < n ∧ tk_sg (B (v 26 0 13)) ∧ v 26 0 14 = v 26 0 13 + 1 ∧ v 26 0 12 = 4 ∧ v 26 0 15 = B (v 26 0 13)) ∨
  (v 26 0 13 < n ∧ ¬ tk_sm (B (v 26 0 13)) ∧ ¬ tk_dg (B (v 26 0 13)) ∧ ¬ tk_sg (B (v 26 0 13)) ∧ v 26 0 14 = v 26 0 13 + 1 ∧ v 26 0 12 = 1))
theorem tk_and_d : ∀ i : Fin 256, pj_and ((i.val : Int) - 128) 255 = ((i.val : Int) - 128) % 256 := by decide +kernel
theorem tk_and {x : Int} (h : -128 ≤ x ∧ x < 128) : pj_and x 255 = x % 256 := by
  have := tk_and_d ⟨(x + 128).toNat, by omega⟩
  rw [show (((⟨(x + 128).toNat, by omega⟩ : Fin 256).val : Nat) : Int) = x + 128 by show (((x + 128).toNat : Nat) : Int) = x + 128; omega, show x + 128 - 128 = x by omega] at this
  exact this
theorem m_byte {u : pj_W} {B : Int → Int} {n p : Int} (t : tk_M u B n) (h0 : 0 ≤ p) : fM_byteAt p u = some (if n ≤ p then -1 else B p % 256) := by
  obtain ⟨t1, t2, t3, t4, t5⟩ := t
  unfold fM_byteAt
  rw [t1]
  by_cases c : n ≤ p
  · rw [if_pos c, if_pos c]
  · rw [if_neg c, if_neg c, if_pos (by omega), t5 p h0 (by omega), tk_and (t4 p)]
theorem m_byteE {u : pj_W} {B : Int → Int} {n p : Int} (t : tk_M u B n) (h0 : 0 ≤ p) (c : n ≤ p) : fM_byteAt p u = some (-1) := by rw [m_byte t h0, if_pos c]
theorem m_byteI {u : pj_W} {B : Int → Int} {n p : Int} (t : tk_M u B n) (h0 : 0 ≤ p) (c : p < n) : fM_byteAt p u = some (B p % 256) := by rw [m_byte t h0, if_neg (by omega)]
theorem m_isS1 {c : Int} (h : tk_sm c) (w : pj_W) : fM_isSmall c w = some 1 := x_isL1 h w
theorem m_isS0 {c : Int} (h : ¬ tk_sm c) (w : pj_W) : fM_isSmall c w = some 0 := x_isL0 h w
theorem m_isD1 {c : Int} (h : tk_dg c) (w : pj_W) : fM_isDigit c w = some 1 := x_isD1 h w
theorem m_isD0 {c : Int} (h : ¬ tk_dg c) (w : pj_W) : fM_isDigit c w = some 0 := x_isD0 h w
theorem tk_sm8 {x : Int} (h : -128 ≤ x ∧ x < 128) : tk_sm (x % 256) ↔ tk_sm x := by unfold tk_sm; omega
theorem tk_dg8 {x : Int} (h : -128 ≤ x ∧ x < 128) : tk_dg (x % 256) ↔ tk_dg x := by unfold tk_dg; omega
def tk_fm (w u : pj_W) : Prop := ∀ k i s, ¬ (k = 26 ∧ i = 0 ∧ 12 ≤ s ∧ s ≤ 15) → u k i s = w k i s
theorem tk_M.ex {u v : pj_W} {B : Int → Int} {n : Int} (t : tk_M u B n) (f : ∀ k i s, ¬ (k = 26 ∧ i = 0 ∧ 12 ≤ s ∧ s ≤ 15) → v k i s = u k i s) : tk_M v B n := ⟨(f 26 0 11 (by omega)).trans t.1, t.2.1, t.2.2.1, t.2.2.2.1, fun p h0 h1 => (f 66 0 p (by omega)).trans (t.2.2.2.2 p h0 h1)⟩
theorem m_aheadW {u : pj_W} {B : Int → Int} {n P : Int} (t : tk_M u B n) (h14 : u 26 0 14 = P) (h0 : 0 ≤ P) (h1 : P < n) : ∃ v e, fM_ahead_81 u = some v ∧ tk_run tk_sm B n P e ∧ v 26 0 14 = e ∧ v 26 0 12 = 2 ∧ v 26 0 13 = u 26 0 13 ∧ tk_fm u v := by
  obtain ⟨e, s', r, ⟨J1, J2, J3⟩, hl⟩ := tk_lp (body := fun s : pj_W => fM_ahead_81b s) (P := tk_sm) (B := B) (n := n) (fun q s => P ≤ q ∧ s 26 0 14 = q ∧ ∀ k i x, ¬ (k = 26 ∧ i = 0 ∧ x = 14) → s k i x = u k i x) (fun q s hq hb ⟨J1, J2, J3⟩ => by
    refine ⟨pj_set s 26 0 14 (q + 1), ?_, by omega, pj_set_at, fun k i x hx => by rw [pj_sne hx]; exact J3 k i x hx⟩
    have t' : tk_M s B n := t.ex (fun k i x hx => J3 k i x (by omega))
    have hn := t.2.2.1
    unfold fM_ahead_81b
    rw [J2, m_byteI t' (by omega) hq, Option.bind_some, m_isS1 ((tk_sm8 (t.2.2.2.1 q)).mpr hb), Option.bind_some, if_neg (by decide), pj_wr_id (by omega) (by omega)]) (n - P).toNat P u (by omega) (by omega) ⟨Int.le_refl P, h14, fun _ _ _ _ => rfl⟩
  have t' : tk_M s' B n := t.ex (fun k i x hx => J3 k i x (by omega))
  refine ⟨pj_set s' 26 0 12 2, e, ?_, r, by rw [pj_sne (by omega)]; exact J2, pj_set_at, by rw [pj_sne (by omega)]; exact J3 26 0 13 (by omega), fun k i x hx => by rw [pj_sne (by omega)]; exact J3 k i x (by omega)⟩
  unfold fM_ahead_81
  rw [hl]
  refine pj_Lp_end ?_
  unfold fM_ahead_81b
  rw [J2]
  by_cases c : n ≤ e
  · rw [m_byteE t' (by omega) c, Option.bind_some, m_isS0 (by unfold tk_sm; omega), Option.bind_some, if_pos rfl]
  · rw [m_byteI t' (by omega) (by omega), Option.bind_some, m_isS0 (fun h => r.2.2.2 (by omega) ((tk_sm8 (t.2.2.2.1 e)).mp h)), Option.bind_some, if_pos rfl]
theorem m_aheadN {u : pj_W} {B : Int → Int} {n P : Int} (t : tk_M u B n) (h14 : u 26 0 14 = P) (h13 : u 26 0 13 = P) (h15 : u 26 0 15 = 0) (h0 : 0 ≤ P) (h1 : P < n) : ∃ v e, fM_ahead_128 u = some v ∧ tk_run tk_dg B n P e ∧ v 26 0 14 = e ∧ v 26 0 13 = P ∧ ((4 < e - P ∧ v 26 0 12 = 1) ∨ (e - P ≤ 4 ∧ v 26 0 12 = 3 ∧ v 26 0 15 = tk_dv (tk_ls B P (e - P).toNat))) ∧ tk_fm u v := by
  obtain ⟨e, s', r, ⟨J1, J2, J3, J4, J5, J6⟩, hl⟩ := tk_lp (body := fun s : pj_W => fM_ahead_128b s) (P := tk_dg) (B := B) (n := n) (fun q s => P ≤ q ∧ s 26 0 14 = q ∧ (∀ k i x, ¬ (k = 26 ∧ i = 0 ∧ (x = 14 ∨ x = 15)) → s k i x = u k i x) ∧ (0 ≤ s 26 0 15 ∧ s 26 0 15 ≤ 100000) ∧ (q - P ≤ 4 → s 26 0 15 = tk_dv (tk_ls B P (q - P).toNat)) ∧ ∀ i, P ≤ i → i < q → tk_dg (B i)) (fun q s hq hb ⟨J1, J2, J3, J4, J5, J6⟩ => by
    have t' : tk_M s B n := t.ex (fun k i x hx => J3 k i x (by omega))
    have hn := t.2.2.1
    have hb8 := (tk_dg8 (t.2.2.2.1 q)).mpr hb
    have e8 : B q % 256 = B q := by unfold tk_dg at hb; omega
    have hb2 := hb
    unfold tk_dg at hb2
    refine ⟨pj_set (pj_set s 26 0 15 (min 100000 (10 * s 26 0 15 + B q - 48))) 26 0 14 (q + 1), ?_, by omega, pj_set_at, fun k i x hx => by rw [pj_sne (by omega), pj_sne (by omega)]; exact J3 k i x hx, ?_, fun hq4 => ?_, fun i i0 i1 => ?_⟩
    · have e14 : ∀ z, pj_set s 26 0 15 z 26 0 14 = s 26 0 14 := fun z => pj_sne (by omega)
      unfold fM_ahead_128b
      rw [J2, m_byteI t' (by omega) hq, Option.bind_some, m_isD1 hb8, Option.bind_some, if_neg (by decide), Option.bind_some, Option.bind_some, e14, J2, e8, pj_wr_id (x := 10 * s 26 0 15) (by omega) (by omega), pj_wr_id (x := 10 * s 26 0 15 + B q) (by omega) (by omega), pj_wr_id (x := 10 * s 26 0 15 + B q - 48) (by omega) (by omega), pj_wr_id (by omega) (by omega)]
    · rw [pj_sne (by omega), pj_set_at]; omega
    · have hbb := tk_dv_b (B := B) (p := P) (q - P).toNat (fun i hi => J6 (P + i) (by omega) (by omega))
      have hpw : (10 : Int) ^ (q - P).toNat ≤ 10 ^ 3 := by
        have := Nat.pow_le_pow_right (n := 10) (by decide) (show (q - P).toNat ≤ 3 by omega)
        exact_mod_cast this
      rw [pj_sne (by omega), pj_set_at, J5 (by omega), show (q + 1 - P).toNat = (q - P).toNat + 1 by omega, tk_ls_succ, tk_dv_s, show P + (((q - P).toNat : Nat) : Int) = q by omega, show (((B q).toNat : Nat) : Int) = B q by omega]
      omega
    · by_cases c : i = q
      · rw [c]; exact hb
      · exact J6 i i0 (by omega)) (n - P).toNat P u (by omega) (by omega) ⟨Int.le_refl P, h14, fun _ _ _ _ => rfl, by omega, fun _ => by rw [h15, show (P - P).toNat = 0 by omega]; rfl, fun i _ _ => by omega⟩
  have t' : tk_M s' B n := t.ex (fun k i x hx => J3 k i x (by omega))
  have hn := t.2.2.1
  have hre := r.2.1
  have e13 : s' 26 0 13 = P := (J3 26 0 13 (by omega)).trans h13
  have hend : fM_ahead_128 u = fM_ahead_202 (if pj_wr (s' 26 0 14 - s' 26 0 13) ≤ 4 then 3 else 1) s' := by
    unfold fM_ahead_128
    rw [hl]
    refine pj_Lp_map ?_
    show fM_ahead_128b s' = _
    unfold fM_ahead_128b
    rw [J2]
    by_cases c : n ≤ e
    · rw [m_byteE t' (by omega) c, Option.bind_some, m_isD0 (by unfold tk_dg; omega), Option.bind_some, if_pos rfl]
    · rw [m_byteI t' (by omega) (by omega), Option.bind_some, m_isD0 (fun h => r.2.2.2 (by omega) ((tk_dg8 (t.2.2.2.1 e)).mp h)), Option.bind_some, if_pos rfl]
  rw [hend]
  unfold fM_ahead_202
  refine ⟨_, e, rfl, r, by rw [pj_sne (by omega)]; exact J2, by rw [pj_sne (by omega)]; exact e13, ?_, fun k i x hx => by rw [pj_sne (by omega)]; exact J3 k i x (by omega)⟩
  rw [pj_set_at, pj_sne (by omega), J2, e13, pj_wr_id (by omega) (by omega)]
  by_cases c : e - P ≤ 4
  · rw [if_pos c]
    exact Or.inr ⟨c, rfl, J5 c⟩
  · rw [if_neg c]
    exact Or.inl ⟨by omega, rfl⟩
