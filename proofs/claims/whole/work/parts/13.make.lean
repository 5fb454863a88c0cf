/-! ROWS of copies, and of what makes cells (in constructors) -/
/-- a piece of a row comes into another -/
def pj_cpy (w : pj_W) (k1 : Nat) (i1 s1 : Int) (k2 : Nat) (i2 s2 n : Int) : pj_W := fun k i s => if k = k2 ∧ i = i2 ∧ s2 ≤ s ∧ s < s2 + n then w k1 i1 (s1 + (s - s2)) else w k i s
theorem pj_cpy_n {w : pj_W} {k1 : Nat} {i1 s1 : Int} {k2 : Nat} {i2 s2 n : Int} (hk : k2 ≠ 0) : pj_n (pj_cpy w k1 i1 s1 k2 i2 s2 n) = pj_n w := by
  unfold pj_n pj_cpy
  rw [if_neg (fun h => hk h.1.symm)]
theorem pj_cpy_off {w : pj_W} {k1 : Nat} {i1 s1 : Int} {k2 : Nat} {i2 s2 n : Int} : ∀ k' i', (k', i') ≠ (k2, i2) → pj_cpy w k1 i1 s1 k2 i2 s2 n k' i' = w k' i' := by
  intro k' i' h
  funext s'
  unfold pj_cpy
  rw [if_neg (fun e => h (by rw [e.1, e.2.1]))]
theorem pj_cpy_ok {ph : Bool} {w : pj_W} {k1 : Nat} {i1 s1 : Int} {k2 : Nat} {i2 s2 n : Int} (h : pj_ok ph w) (hk : k2 ≠ 0) (ha1 : pj_ad k1 i1 < pj_n w) (ha2 : pj_ad k2 i2 < pj_n w) (ht : ∀ s s', pj_tg k1 s = pj_tg k2 s') (hf : ∀ (s : Nat) (i : Int), pj_fi k2 s i = none) (h1 : 0 ≤ s1) (h2 : 0 ≤ s2) (h3 : s1 + n ≤ pj_sz k1) : pj_ok ph (pj_cpy w k1 i1 s1 k2 i2 s2 n) := by
  obtain ⟨g1, g2, g3, g4⟩ := h
  unfold pj_ok
  rw [pj_cpy_n hk]
  refine ⟨g1, fun k' i' s' hL hs => ?_, fun k' i' s' hL hn hs => ?_, fun hp => ⟨(g4 hp).1, fun k' i' s' t hL hs hfi => ?_⟩⟩
  · unfold pj_cpy
    by_cases e : k' = k2 ∧ i' = i2 ∧ s2 ≤ (s' : Int) ∧ (s' : Int) < s2 + n
    · rw [if_pos e]
      have h5 := g2 k1 i1 (s1 + (s' - s2)).toNat (pj_mem g1 ha1) (by omega)
      rw [Int.toNat_of_nonneg (by omega)] at h5
      rw [e.1, ← ht (s1 + (s' - s2)).toNat s']
      exact h5
    · rw [if_neg e]
      exact g2 k' i' s' hL hs
  · unfold pj_cpy
    rw [if_neg (fun e => by
      obtain ⟨rfl, rfl, -⟩ := e
      omega)]
    exact g3 k' i' s' hL hn hs
  · unfold pj_cpy
    by_cases e : k' = k2 ∧ i' = i2 ∧ s2 ≤ (s' : Int) ∧ (s' : Int) < s2 + n
    · rw [e.1, hf] at hfi
      cases hfi
    · rw [if_neg e]
      exact (g4 hp).2 k' i' s' t hL hs hfi
theorem pj_cpyf {α : Type} {f1 f2 f' : Nat → α} {sp dp n : Nat} (h1 : ∀ s, dp ≤ s → s < dp + n → f' s = f1 (sp + (s - dp))) (h2 : ∀ s, ¬ (dp ≤ s ∧ s < dp + n) → f' s = f2 s) : va_cpy f1 f2 sp dp n = f' := by
  funext s
  unfold va_cpy
  by_cases e : dp ≤ s ∧ s < dp + n
  · rw [if_pos e, h1 s e.1 e.2]
  · rw [if_neg e, h2 s e]
theorem pj_cl0 {i : Int} (h : 0 ≤ i ∧ i < 2147483648) : ¬ Int32.ofInt i < 0 ∧ (Int32.ofInt i).toNatClampNeg = i.toNat := by
  have e := pj_t32 (z := i) ⟨by omega, by omega⟩
  refine ⟨fun h0 => ?_, ?_⟩
  · have := (pj_lt32 (a := i) (b := 0) ⟨by omega, by omega⟩ (by decide)).mp h0
    omega
  · show (Int32.ofInt i).toInt.toNat = i.toNat
    rw [e]
section
variable {l : Launch} {y : MethodName} {cc : ByteArray} {nL : Nat} {ret : Option FieldType} {fr lo : Nat} {ph : Bool} {g : pj_G} {n0 : Nat} {o : Option pj_V × pj_W} {Go : pj_C → Prop} {pc : Nat} {lls lls' st stk : List pj_V} {w w' : pj_W} {idx : Nat}
theorem pj_copyi (hM : pj_M l y cc nL ret fr lo ph g n0 o Go) {k1 k2 : Nat} {i1 i2 s1 s2 n : Int} (hd : decode cc pc = .ok (.invokestatic idx, 3)) (hl : Cond.methodLink y.cls idx arraycopyName ∈ pj_T) (hnat : Cond.native arraycopyName ∈ pj_T) (hsta : Cond.static arraycopyName ∈ pj_T) (hini : Cond.initialized "java/lang/System" ∈ pj_T) (hk1 : 10 ≤ k1) (hk2 : 10 ≤ k2) (hso1 : pj_so k1 = 1) (hso2 : pj_so k2 = 1) (hci1 : pj_ci k1 = 0) (hci2 : pj_ci k2 = 0) (ht1 : ∀ s, pj_tg k1 s = 0) (ht2 : ∀ s, pj_tg k2 s = 0) (hf : ∀ (s : Nat) (i : Int), pj_fi k2 s i = none) (hi1 : 0 ≤ i1) (hi2 : 0 ≤ i2)
    (hb : (0 ≤ s1 ∧ 0 ≤ s2 ∧ 0 ≤ n) ∧ s1 + n ≤ pj_sz k1 ∧ s2 + n ≤ pj_sz k2) (hr : (Nat.ble 1 fr && Nat.ble ((st.map fun v => if v.1 = 1 then 2 else 1).sum + (nativeFrameWords "java/lang/System" "arraycopy" 5 + 11)) lo) = true) (kk : Go (pc + 3, lls, st, pj_cpy w k1 i1 s1 k2 i2 s2 n)) : Go (pc, lls, (0, n) :: (0, s2) :: (k2, i2) :: (0, s1) :: (k1, i1) :: st, w) := by
  have z1 := pj_sz_in k1
  have z2 := pj_sz_in k2
  have M2 : ∀ v : pj_V, (k2, i2) ∈ (0, n) :: (0, s2) :: (k2, i2) :: (0, s1) :: (k1, i1) :: st := fun _ => List.mem_cons_of_mem _ (List.mem_cons_of_mem _ List.mem_cons_self)
  have M1 : ∀ v : pj_V, (k1, i1) ∈ (0, n) :: (0, s2) :: (k2, i2) :: (0, s1) :: (k1, i1) :: st := fun _ => List.mem_cons_of_mem _ (List.mem_cons_of_mem _ (List.mem_cons_of_mem _ (List.mem_cons_of_mem _ List.mem_cons_self)))
  refine pj_stepW hM (st' := st) (w' := pj_cpy w k1 i1 s1 k2 i2 s2 n) (pj_cpy_n (by omega)) (fun h1 h2 => ⟨pj_cpy_ok h1 (by omega) (pj_alloc hk1 hi1 (h2 _ (M1 (0, 0)))) (pj_alloc hk2 hi2 (h2 _ (M2 (0, 0)))) (fun s s' => by rw [ht1, ht2]) hf hb.1.1 hb.1.2.1 hb.2.1, fun v hv => h2 v (List.mem_cons_of_mem _ (List.mem_cons_of_mem _ (List.mem_cons_of_mem _ (List.mem_cons_of_mem _ (List.mem_cons_of_mem _ hv)))))⟩) (fun p e R st0 m args below meth c Q H locs cells slots ls hx hb' hml ho htt hnm hK hP hS h1 h2 hfr hlo h => ?_) kk
  have a1 := pj_alloc hk1 hi1 (h2 _ (M1 (0, 0)))
  have a2 := pj_alloc hk2 hi2 (h2 _ (M2 (0, 0)))
  have e1 := pj_ws_at (g := g) h1.1 a1
  have e2 := pj_ws_at (g := g) h1.1 a2
  rw [pj_cell_int (Or.inl hso1), hci1] at e1
  rw [pj_cell_int (Or.inl hso2), hci2] at e2
  simp only [List.map_cons, pj_cell_ref hk1 hi1, pj_cell_ref hk2 hi2]
  obtain ⟨r1, r2⟩ := (Bool.and_eq_true _ _).mp hr
  have r1 := Nat.le_of_ble_eq_true r1
  have r2 := Nat.le_of_ble_eq_true r2
  rw [← hfr] at r1
  rw [← hlo] at r2
  obtain ⟨⟨b1, b2, b3⟩, b4, b5⟩ := hb
  obtain ⟨c1, d1⟩ := pj_cl0 (i := s1) ⟨b1, by omega⟩
  obtain ⟨c2, d2⟩ := pj_cl0 (i := s2) ⟨b2, by omega⟩
  obtain ⟨c3, d3⟩ := pj_cl0 (i := n) ⟨b3, by omega⟩
  refine va_copyi hx hb' hml ho (htt _ hl) (htt _ hnat) (htt _ hsta) (htt _ hini) hK hP (pj_wsD g w) hS (pj_ad k1 i1) (pj_ad k2 i2) 0 0 e1 e2 rfl rfl rfl c1 c2 c3 (by rw [d1, d3]; omega) (by rw [d2, d3]; omega) (fun _ _ => rfl) r1 (by rw [pj_catq]; exact r2) hd (fun H1 locs1 hP1 hD1 hS1 => h H1 locs1 ?_ hS1)
  have e3 := pj_ws_upd (g := g) h1.1 a2 (pj_cpy_n (w := w) (k1 := k1) (i1 := i1) (s1 := s1) (i2 := i2) (s2 := s2) (n := n) (show k2 ≠ 0 by omega)) pj_cpy_off
  rw [pj_cell_int (Or.inl hso2), hci2] at e3
  rw [← e3, ← pj_cpyf (f1 := fun s : Nat => Int32.ofInt (w k1 i1 s)) (f2 := fun s : Nat => Int32.ofInt (w k2 i2 s)) (f' := fun s : Nat => Int32.ofInt (pj_cpy w k1 i1 s1 k2 i2 s2 n k2 i2 s)) (sp := s1.toNat) (dp := s2.toNat) (n := n.toNat) (fun s q1 q2 => by
    unfold pj_cpy
    rw [if_pos ⟨rfl, rfl, by omega, by omega⟩]
    congr 2
    omega) (fun s q => by
    unfold pj_cpy
    rw [if_neg (fun e => q (by omega))])]
  rw [d1, d2, d3] at hP1
  exact hP1
theorem pj_copyl (hM : pj_M l y cc nL ret fr lo ph g n0 o Go) {k1 k2 : Nat} {i1 i2 s1 s2 n : Int} (hd : decode cc pc = .ok (.invokestatic idx, 3)) (hl : Cond.methodLink y.cls idx arraycopyName ∈ pj_T) (hnat : Cond.native arraycopyName ∈ pj_T) (hsta : Cond.static arraycopyName ∈ pj_T) (hini : Cond.initialized "java/lang/System" ∈ pj_T) (hk1 : 10 ≤ k1) (hk2 : 10 ≤ k2) (hso1 : pj_so k1 = 3) (hso2 : pj_so k2 = 3) (hci1 : pj_ci k1 = 2) (hci2 : pj_ci k2 = 2) (ht1 : ∀ s, pj_tg k1 s = 1) (ht2 : ∀ s, pj_tg k2 s = 1) (hf : ∀ (s : Nat) (i : Int), pj_fi k2 s i = none) (hi1 : 0 ≤ i1) (hi2 : 0 ≤ i2)
    (hb : (0 ≤ s1 ∧ 0 ≤ s2 ∧ 0 ≤ n) ∧ s1 + n ≤ pj_sz k1 ∧ s2 + n ≤ pj_sz k2) (hr : (Nat.ble 1 fr && Nat.ble ((st.map fun v => if v.1 = 1 then 2 else 1).sum + (nativeFrameWords "java/lang/System" "arraycopy" 5 + 11)) lo) = true) (kk : Go (pc + 3, lls, st, pj_cpy w k1 i1 s1 k2 i2 s2 n)) : Go (pc, lls, (0, n) :: (0, s2) :: (k2, i2) :: (0, s1) :: (k1, i1) :: st, w) := by
  have z1 := pj_sz_in k1
  have z2 := pj_sz_in k2
  have M2 : ∀ v : pj_V, (k2, i2) ∈ (0, n) :: (0, s2) :: (k2, i2) :: (0, s1) :: (k1, i1) :: st := fun _ => List.mem_cons_of_mem _ (List.mem_cons_of_mem _ List.mem_cons_self)
  have M1 : ∀ v : pj_V, (k1, i1) ∈ (0, n) :: (0, s2) :: (k2, i2) :: (0, s1) :: (k1, i1) :: st := fun _ => List.mem_cons_of_mem _ (List.mem_cons_of_mem _ (List.mem_cons_of_mem _ (List.mem_cons_of_mem _ List.mem_cons_self)))
  refine pj_stepW hM (st' := st) (w' := pj_cpy w k1 i1 s1 k2 i2 s2 n) (pj_cpy_n (by omega)) (fun h1 h2 => ⟨pj_cpy_ok h1 (by omega) (pj_alloc hk1 hi1 (h2 _ (M1 (0, 0)))) (pj_alloc hk2 hi2 (h2 _ (M2 (0, 0)))) (fun s s' => by rw [ht1, ht2]) hf hb.1.1 hb.1.2.1 hb.2.1, fun v hv => h2 v (List.mem_cons_of_mem _ (List.mem_cons_of_mem _ (List.mem_cons_of_mem _ (List.mem_cons_of_mem _ (List.mem_cons_of_mem _ hv)))))⟩) (fun p e R st0 m args below meth c Q H locs cells slots ls hx hb' hml ho htt hnm hK hP hS h1 h2 hfr hlo h => ?_) kk
  have a1 := pj_alloc hk1 hi1 (h2 _ (M1 (0, 0)))
  have a2 := pj_alloc hk2 hi2 (h2 _ (M2 (0, 0)))
  have e1 := pj_ws_at (g := g) h1.1 a1
  have e2 := pj_ws_at (g := g) h1.1 a2
  rw [pj_cell_long hso1, hci1] at e1
  rw [pj_cell_long hso2, hci2] at e2
  simp only [List.map_cons, pj_cell_ref hk1 hi1, pj_cell_ref hk2 hi2]
  obtain ⟨r1, r2⟩ := (Bool.and_eq_true _ _).mp hr
  have r1 := Nat.le_of_ble_eq_true r1
  have r2 := Nat.le_of_ble_eq_true r2
  rw [← hfr] at r1
  rw [← hlo] at r2
  obtain ⟨⟨b1, b2, b3⟩, b4, b5⟩ := hb
  obtain ⟨c1, d1⟩ := pj_cl0 (i := s1) ⟨b1, by omega⟩
  obtain ⟨c2, d2⟩ := pj_cl0 (i := s2) ⟨b2, by omega⟩
  obtain ⟨c3, d3⟩ := pj_cl0 (i := n) ⟨b3, by omega⟩
  refine va_copyl hx hb' hml ho (htt _ hl) (htt _ hnat) (htt _ hsta) (htt _ hini) hK hP (pj_wsD g w) hS (pj_ad k1 i1) (pj_ad k2 i2) 2 2 e1 e2 rfl rfl rfl c1 c2 c3 (by rw [d1, d3]; omega) (by rw [d2, d3]; omega) (fun _ _ => rfl) r1 (by rw [pj_catq]; exact r2) hd (fun H1 locs1 hP1 hD1 hS1 => h H1 locs1 ?_ hS1)
  have e3 := pj_ws_upd (g := g) h1.1 a2 (pj_cpy_n (w := w) (k1 := k1) (i1 := i1) (s1 := s1) (i2 := i2) (s2 := s2) (n := n) (show k2 ≠ 0 by omega)) pj_cpy_off
  rw [pj_cell_long hso2, hci2] at e3
  rw [← e3, ← pj_cpyf (f1 := fun s : Nat => Int64.ofInt (w k1 i1 s)) (f2 := fun s : Nat => Int64.ofInt (w k2 i2 s)) (f' := fun s : Nat => Int64.ofInt (pj_cpy w k1 i1 s1 k2 i2 s2 n k2 i2 s)) (sp := s1.toNat) (dp := s2.toNat) (n := n.toNat) (fun s q1 q2 => by
    unfold pj_cpy
    rw [if_pos ⟨rfl, rfl, by omega, by omega⟩]
    congr 2
    omega) (fun s q => by
    unfold pj_cpy
    rw [if_neg (fun e => q (by omega))])]
  rw [d1, d2, d3] at hP1
  exact hP1
end
