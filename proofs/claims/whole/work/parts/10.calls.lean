/-! ROWS of stores into arrays, of copies, of calls; a method's contract -/
theorem pj_updf {f f' : Nat → Int32} {j : Nat} {x : Int32} (h1 : f' j = x) (h2 : ∀ s, s ≠ j → f' s = f s) : upd f j x = f' := by
  funext s
  unfold upd
  by_cases e : s = j
  · rw [if_pos e, e, h1]
  · rw [if_neg e, h2 s e]
theorem pj_updl {f f' : Nat → Int64} {j : Nat} {x : Int64} (h1 : f' j = x) (h2 : ∀ s, s ≠ j → f' s = f s) : vp_updL f j x = f' := by
  funext s
  unfold vp_updL
  by_cases e : s = j
  · rw [if_pos e, e, h1]
  · rw [if_neg e, h2 s e]
theorem pj_set_at {w : pj_W} {k : Nat} {i j z : Int} : pj_set w k i j z k i j = z := by unfold pj_set; rw [if_pos ⟨rfl, rfl, rfl⟩]
theorem pj_set_ne {w : pj_W} {k : Nat} {i j s z : Int} (h : s ≠ j) : pj_set w k i j z k i s = w k i s := by unfold pj_set; rw [if_neg (fun e => h e.2.2)]
theorem pj_okj_set {ph : Bool} {w : pj_W} {k : Nat} {i j v : Int} (h : pj_ok ph w) (hk : k ≠ 0) (hal : pj_ad k i < pj_n w) (hj : 0 ≤ j) (hv : pj_okt (pj_n w) (pj_tg k j.toNat) v) (hf : ∀ (s : Nat) (i : Int), pj_fi k s i = none) : pj_ok ph (pj_set w k i j v) := by
  have h1 := pj_ok_set (s := j.toNat) (v := v) h hk hal hv (fun _ t h => by rw [hf] at h; cases h)
  rwa [Int.toNat_of_nonneg hj] at h1
section
variable {l : Launch} {y : MethodName} {cc : ByteArray} {nL : Nat} {ret : Option FieldType} {fr lo : Nat} {ph : Bool} {g : pj_G} {n0 : Nat} {o : Option pj_V × pj_W} {Go : pj_C → Prop} {pc : Nat} {lls lls' st : List pj_V} {w : pj_W}
theorem pj_iast (hM : pj_M l y cc nL ret fr lo ph g n0 o Go) {k : Nat} {i j z : Int} (hd : decode cc pc = .ok (.iastore, 1)) (hk : 10 ≤ k) (hso : pj_so k = 1) (hci : pj_ci k = 0) (ht : ∀ s, pj_tg k s = 0) (hf : ∀ (s : Nat) (i : Int), pj_fi k s i = none) (hi : 0 ≤ i) (hj : 0 ≤ j ∧ j < pj_sz k) (kk : Go (pc + 1, lls, st, pj_set w k i j z)) : Go (pc, lls, (0, z) :: (0, j) :: (k, i) :: st, w) := by
  refine pj_stepW hM (st' := st) (w' := pj_set w k i j z) (pj_set_n (by omega)) (fun h1 h2 => ⟨pj_okj_set h1 (by omega) (pj_alloc hk hi (h2 _ (List.mem_cons_of_mem _ (List.mem_cons_of_mem _ List.mem_cons_self)))) hj.1 (by rw [ht]; exact ⟨h2 _ List.mem_cons_self, (fun h => by cases h), (fun h => by cases h)⟩) hf, fun v hv => h2 v (List.mem_cons_of_mem _ (List.mem_cons_of_mem _ (List.mem_cons_of_mem _ hv)))⟩) (fun p e R st0 m args below meth c Q H locs cells slots ls hx hb' hml ho htt hnm hK hP hS h1 h2 _ _ h => ?_) kk
  have ha := pj_alloc hk hi (h2 _ (List.mem_cons_of_mem _ (List.mem_cons_of_mem _ List.mem_cons_self)))
  have he := pj_ws_at (g := g) h1.1 ha
  rw [pj_cell_int (Or.inl hso), hci] at he
  simp only [List.map_cons, pj_cell_ref hk hi]
  have hv := pj_inv hj (pj_sz_in k)
  refine va_iast (x := Int32.ofInt z) hx hb' hK hP (pj_wsD g w) hS (pj_ad k i) 0 he rfl hv.1 hd (fun H1 locs1 hP1 hD1 hS1 => h H1 locs1 ?_ hS1)
  have e2 := pj_ws_upd (g := g) h1.1 ha (pj_set_n (w := w) (i := i) (s := j) (v := z) (show k ≠ 0 by omega)) pj_set_off
  rw [pj_cell_int (Or.inl hso), hci] at e2
  rw [← e2, ← pj_updf (f := fun s : Nat => Int32.ofInt (w k i s)) (f' := fun s : Nat => Int32.ofInt (pj_set w k i j z k i s)) (j := j.toNat) (x := Int32.ofInt z) (by rw [Int.toNat_of_nonneg hj.1, pj_set_at]) (fun s hs => by rw [pj_set_ne (by omega)])]
  rw [hv.2] at hP1
  exact hP1
theorem pj_bast (hM : pj_M l y cc nL ret fr lo ph g n0 o Go) {k : Nat} {i j z : Int} (hd : decode cc pc = .ok (.bastore, 1)) (hk : 10 ≤ k) (hso : pj_so k = 2) (hci : pj_ci k = 1) (ht : ∀ s, pj_tg k s = 6) (hf : ∀ (s : Nat) (i : Int), pj_fi k s i = none) (hi : 0 ≤ i) (hj : 0 ≤ j ∧ j < pj_sz k) (kk : Go (pc + 1, lls, st, pj_set w k i j (pj_w8 z))) : Go (pc, lls, (0, z) :: (0, j) :: (k, i) :: st, w) := by
  refine pj_stepW hM (st' := st) (w' := pj_set w k i j (pj_w8 z)) (pj_set_n (by omega)) (fun h1 h2 => ⟨pj_okj_set h1 (by omega) (pj_alloc hk hi (h2 _ (List.mem_cons_of_mem _ (List.mem_cons_of_mem _ List.mem_cons_self)))) hj.1 (by rw [ht]; exact ⟨(by show -2147483648 ≤ pj_w8 z ∧ pj_w8 z < 2147483648; unfold pj_w8; omega), (fun h => by cases h), (fun _ => by unfold pj_w8; omega)⟩) hf, fun v hv => h2 v (List.mem_cons_of_mem _ (List.mem_cons_of_mem _ (List.mem_cons_of_mem _ hv)))⟩) (fun p e R st0 m args below meth c Q H locs cells slots ls hx hb' hml ho htt hnm hK hP hS h1 h2 _ _ h => ?_) kk
  have ha := pj_alloc hk hi (h2 _ (List.mem_cons_of_mem _ (List.mem_cons_of_mem _ List.mem_cons_self)))
  have he := pj_ws_at (g := g) h1.1 ha
  rw [pj_cell_int (Or.inr hso), hci] at he
  simp only [List.map_cons, pj_cell_ref hk hi]
  have hv := pj_inv hj (pj_sz_in k)
  refine va_bast (x := Int32.ofInt z) hx hb' hK hP (pj_wsD g w) hS (pj_ad k i) 1 he rfl hv.1 hd (fun H1 locs1 hP1 hD1 hS1 => h H1 locs1 ?_ hS1)
  have e2 := pj_ws_upd (g := g) h1.1 ha (pj_set_n (w := w) (i := i) (s := j) (v := pj_w8 z) (show k ≠ 0 by omega)) pj_set_off
  rw [pj_cell_int (Or.inr hso), hci] at e2
  rw [← e2, ← pj_updf (f := fun s : Nat => Int32.ofInt (w k i s)) (f' := fun s : Nat => Int32.ofInt (pj_set w k i j (pj_w8 z) k i s)) (j := j.toNat) (x := vp_nar .byte (Int32.ofInt z)) (by rw [Int.toNat_of_nonneg hj.1, pj_set_at, vp_nar_byte, pj_b8]) (fun s hs => by rw [pj_set_ne (by omega)])]
  rw [hv.2] at hP1
  exact hP1
theorem pj_last (hM : pj_M l y cc nL ret fr lo ph g n0 o Go) {k : Nat} {i j z : Int} (hd : decode cc pc = .ok (.lastore, 1)) (hk : 10 ≤ k) (hso : pj_so k = 3) (hci : pj_ci k = 2) (ht : ∀ s, pj_tg k s = 1) (hf : ∀ (s : Nat) (i : Int), pj_fi k s i = none) (hi : 0 ≤ i) (hj : 0 ≤ j ∧ j < pj_sz k) (kk : Go (pc + 1, lls, st, pj_set w k i j z)) : Go (pc, lls, (1, z) :: (0, j) :: (k, i) :: st, w) := by
  refine pj_stepW hM (st' := st) (w' := pj_set w k i j z) (pj_set_n (by omega)) (fun h1 h2 => ⟨pj_okj_set h1 (by omega) (pj_alloc hk hi (h2 _ (List.mem_cons_of_mem _ (List.mem_cons_of_mem _ List.mem_cons_self)))) hj.1 (by rw [ht]; exact ⟨h2 _ List.mem_cons_self, (fun h => by cases h), (fun h => by cases h)⟩) hf, fun v hv => h2 v (List.mem_cons_of_mem _ (List.mem_cons_of_mem _ (List.mem_cons_of_mem _ hv)))⟩) (fun p e R st0 m args below meth c Q H locs cells slots ls hx hb' hml ho htt hnm hK hP hS h1 h2 _ _ h => ?_) kk
  have ha := pj_alloc hk hi (h2 _ (List.mem_cons_of_mem _ (List.mem_cons_of_mem _ List.mem_cons_self)))
  have he := pj_ws_at (g := g) h1.1 ha
  rw [pj_cell_long hso, hci] at he
  simp only [List.map_cons, pj_cell_ref hk hi]
  have hv := pj_inv hj (pj_sz_in k)
  refine va_last (x := Int64.ofInt z) hx hb' hK hP (pj_wsD g w) hS (pj_ad k i) 2 he rfl hv.1 hd (fun H1 locs1 hP1 hD1 hS1 => h H1 locs1 ?_ hS1)
  have e2 := pj_ws_upd (g := g) h1.1 ha (pj_set_n (w := w) (i := i) (s := j) (v := z) (show k ≠ 0 by omega)) pj_set_off
  rw [pj_cell_long hso, hci] at e2
  rw [← e2, ← pj_updl (f := fun s : Nat => Int64.ofInt (w k i s)) (f' := fun s : Nat => Int64.ofInt (pj_set w k i j z k i s)) (j := j.toNat) (x := Int64.ofInt z) (by rw [Int.toNat_of_nonneg hj.1, pj_set_at]) (fun s hs => by rw [pj_set_ne (by omega)])]
  rw [hv.2] at hP1
  exact hP1
end
