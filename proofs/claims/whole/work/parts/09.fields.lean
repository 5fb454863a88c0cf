/-! ROWS of fields and arrays -/
theorem pj_ws_at {g : pj_G} {w : pj_W} {k : Nat} {i : Int} (hn : pj_n w ≤ pj_L.length) (h : pj_ad k i < pj_n w) : (pj_ws g w)[pj_ad k i]? = some (g.1.1 + pj_ad k i, pj_cell g w (k, i)) := by
  unfold pj_ws
  rw [List.getElem?_map, List.getElem?_range h, Option.map_some, pj_at (pj_mem hn h)]
theorem pj_wsD (g : pj_G) (w : pj_W) : va_D (pj_A g) (pj_ws g w) := by
  have key : ∀ (i : Nat) (q : Nat × va_E), (pj_ws g w)[i]? = some q → q.1 = g.1.1 + i := by
    intro i q h
    unfold pj_ws at h
    rw [List.getElem?_map] at h
    obtain ⟨j, hj, rfl⟩ := Option.map_eq_some_iff.mp h
    have h2 : i < (List.range (pj_n w)).length := (List.getElem?_eq_some_iff.mp hj).1
    rw [List.getElem?_range (by simpa using h2)] at hj
    cases hj
    rfl
  refine ⟨fun i j p q h1 h2 h3 => ?_, fun k q h => ?_⟩
  · rw [key i p h1, key j q h2] at h3
    omega
  · rw [key k q h]
    exact Nat.le_add_right _ _
theorem pj_cell_eq {g : pj_G} {w w' : pj_W} {q : Nat × Int} (h : w' q.1 q.2 = w q.1 q.2) : pj_cell g w' q = pj_cell g w q := by
  unfold pj_cell
  rw [h]
theorem pj_ws_upd {g : pj_G} {w w' : pj_W} {k : Nat} {i : Int} (hn : pj_n w ≤ pj_L.length) (h : pj_ad k i < pj_n w) (hn' : pj_n w' = pj_n w) (hoff : ∀ k' i', (k', i') ≠ (k, i) → w' k' i' = w k' i') : (pj_ws g w).set (pj_ad k i) (g.1.1 + pj_ad k i, pj_cell g w' (k, i)) = pj_ws g w' := by
  apply List.ext_getElem?
  intro j
  unfold pj_ws
  rw [List.getElem?_set, hn']
  by_cases hj : pj_ad k i = j
  · subst hj
    rw [if_pos rfl, if_pos (by simpa using h), List.getElem?_map, List.getElem?_range h, Option.map_some, pj_at (pj_mem hn h)]
  · rw [if_neg hj, List.getElem?_map, List.getElem?_map]
    by_cases hlt : j < pj_n w
    · rw [List.getElem?_range hlt, Option.map_some, Option.map_some, pj_cell_eq (hoff _ _ (fun e => hj ?_))]
      exact (pj_inj (Nat.lt_of_lt_of_le hlt hn) e).symm
    · rw [List.getElem?_eq_none (by simpa using hlt)]
      rfl
theorem pj_set_n {w : pj_W} {k : Nat} {i s v : Int} (hk : k ≠ 0) : pj_n (pj_set w k i s v) = pj_n w := by
  unfold pj_n pj_set
  rw [if_neg (fun h => hk h.1.symm)]
theorem pj_set_off {w : pj_W} {k : Nat} {i s v : Int} : ∀ k' i', (k', i') ≠ (k, i) → pj_set w k i s v k' i' = w k' i' := by
  intro k' i' h
  funext s'
  unfold pj_set
  rw [if_neg (fun e => h (by rw [e.1, e.2.1]))]
theorem pj_ok_set {ph : Bool} {w : pj_W} {k s : Nat} {i v : Int} (h : pj_ok ph w) (hk : k ≠ 0) (hal : pj_ad k i < pj_n w) (hv : pj_okt (pj_n w) (pj_tg k s) v) (hf : ph = true → ∀ t, pj_fi k s i = some t → v = t) : pj_ok ph (pj_set w k i s v) := by
  obtain ⟨h1, h2, h3, h4⟩ := h
  unfold pj_ok
  rw [pj_set_n hk]
  refine ⟨h1, fun k' i' s' hL hs => ?_, fun k' i' s' hL hn hs => ?_, fun hp => ⟨(h4 hp).1, fun k' i' s' t hL hs hfi => ?_⟩⟩
  · unfold pj_set
    by_cases e : k' = k ∧ i' = i ∧ (s' : Int) = s
    · rw [if_pos e]
      obtain ⟨rfl, rfl, e3⟩ := e
      have : s' = s := by omega
      subst this
      exact hv
    · rw [if_neg e]
      exact h2 k' i' s' hL hs
  · unfold pj_set
    rw [if_neg (fun e => by
      obtain ⟨rfl, rfl, -⟩ := e
      omega)]
    exact h3 k' i' s' hL hn hs
  · unfold pj_set
    by_cases e : k' = k ∧ i' = i ∧ (s' : Int) = s
    · rw [if_pos e]
      obtain ⟨rfl, rfl, e3⟩ := e
      have : s' = s := by omega
      subst this
      exact hf hp t hfi
    · rw [if_neg e]
      exact (h4 hp).2 k' i' s' t hL hs hfi
/-- the type's number stands for the field's type -/
def pj_ty (t : Nat) (ty : FieldType) : Prop := (t = 0 ∧ ty = .int) ∨ (t = 1 ∧ ty = .long) ∨ (t = 5 ∧ ty = .boolean) ∨ (10 ≤ t ∧ ((∃ C, ty = .object C) ∨ ∃ a, ty = .array a))
/-- a field's row of the tables -/
def pj_FL (own : String) (idx k s : Nat) (f : Bool) : Prop := pj_so k = 0 ∧ s < pj_sz k ∧ 10 ≤ k ∧ ∃ (C : String) (T : u_T), pj_cl[pj_ci k]? = some (C, T, pj_sz k) ∧ (T s).2.2.2 = f ∧ (T s).1 = C ∧ Cond.fieldLink own idx (T s).1 (T s).2.1 (T s).2.2.1 ∈ pj_T ∧ ∃ ty, parseFieldDescriptor (T s).2.2.1 = some ty ∧ pj_ty (pj_tg k s) ty
theorem pj_alloc {n k : Nat} {i : Int} (hk : 10 ≤ k) (hi : 0 ≤ i) (h : pj_okv n (k, i)) : pj_ad k i < n := by
  unfold pj_okv at h
  rw [if_neg (show ¬ k = 0 by omega), if_neg (show ¬ k = 1 by omega), if_neg (show ¬ k < 10 by omega)] at h
  rcases h with h | h
  · simp only at h; omega
  · exact h.2
theorem pj_cell_obj {g : pj_G} {w : pj_W} {k : Nat} {i : Int} (h : pj_so k = 0) : pj_cell g w (k, i) = .inr (pj_ci k, (List.range (pj_sz k)).map fun s : Nat => pj_enc g (pj_pt (pj_tg k s), w k i s)) := by
  unfold pj_cell
  rw [if_pos h]
theorem pj_cell_ref {g : pj_G} {k : Nat} (hk : 10 ≤ k) {i : Int} (hi : 0 ≤ i) : pj_enc g (k, i) = .ref (g.1.1 + pj_ad k i) := by
  rw [pj_er g hk, if_neg (by omega)]
theorem pj_nf {g : pj_G} {t : Nat} {ty : FieldType} {z : Int} (h : pj_ty t ty) (hb : t = 5 → z = 0 ∨ z = 1) : narrow ty (pj_enc g (pj_pt t, z)) = pj_enc g (pj_pt t, z) ∧ fits ty (pj_enc g (pj_pt t, z)) = true := by
  rcases h with ⟨rfl, rfl⟩ | ⟨rfl, rfl⟩ | ⟨rfl, rfl⟩ | ⟨ht, h⟩
  · exact ⟨rfl, rfl⟩
  · exact ⟨rfl, rfl⟩
  · rcases hb rfl with rfl | rfl <;> exact ⟨rfl, rfl⟩
  · have e : pj_pt t = t := by unfold pj_pt; rw [if_neg (by omega)]
    rw [e]
    rcases pj_erc g (show 2 ≤ t by omega) z with e1 | ⟨a, e1⟩ <;> rw [e1] <;> rcases h with ⟨C, rfl⟩ | ⟨C, rfl⟩ <;> exact ⟨rfl, rfl⟩
theorem pj_rmap {α : Type} {n s : Nat} (f f' : Nat → α) (hf : ∀ j, j ≠ s → f' j = f j) : ((List.range n).map f).set s (f' s) = (List.range n).map f' := by
  apply List.ext_getElem?
  intro j
  rw [List.getElem?_set]
  by_cases hj : s = j
  · subst hj
    by_cases hs : s < n
    · rw [if_pos rfl, if_pos (by simpa using hs), List.getElem?_map, List.getElem?_range hs]; rfl
    · rw [if_pos rfl, if_neg (by simpa using hs), List.getElem?_eq_none (by simpa using hs)]
  · rw [if_neg hj, List.getElem?_map, List.getElem?_map]
    by_cases hlt : j < n
    · rw [List.getElem?_range hlt, Option.map_some, Option.map_some, hf j (Ne.symm hj)]
    · rw [List.getElem?_eq_none (by simpa using hlt)]; rfl
theorem pj_inv {i : Int} {n : Nat} (h : 0 ≤ i ∧ i < n) (hn : (n : Int) < 2147483648) : vp_in (Int32.ofInt i) n ∧ (Int32.ofInt i).toNatClampNeg = i.toNat := by
  have e := pj_t32 (z := i) ⟨by omega, by omega⟩
  have e2 : (Int32.ofInt i).toNatClampNeg = i.toNat := by
    show (Int32.ofInt i).toInt.toNat = i.toNat
    rw [e]
  exact ⟨vp_in_iff.mpr (by rw [e]; exact h), e2⟩
theorem pj_sz_in : ∀ k, (pj_sz k : Int) < 2147483648 := by
  intro k
  unfold pj_sz
  split <;> decide
section
variable {l : Launch} {y : MethodName} {cc : ByteArray} {nL : Nat} {ret : Option FieldType} {fr lo : Nat} {ph : Bool} {g : pj_G} {n0 : Nat} {o : Option pj_V × pj_W} {Go : pj_C → Prop} {pc : Nat} {lls lls' st : List pj_V} {w : pj_W}
/-- an instruction that reads the heap -/
theorem pj_stepR (hM : pj_M l y cc nL ret fr lo ph g n0 o Go) {pc' : Nat} {st' : List pj_V} (hok : pj_ok ph w → (∀ v ∈ st, pj_okv (pj_n w) v) → ∀ v ∈ st', pj_okv (pj_n w) v)
    (hW : ∀ (p : Program) (e : Env) (R : Room) (s : State) (m : MethodId) (args : Array Value) (below : List Frame) (meth : Method) (c : Code) (Q : State → Prop) (H : Heap) (locs : List Loc) (cells slots : Nat) (ls : Array Slot), p.tables.exec = Jvm.exec → c.code = cc → s.vm.findClass y.cls = some m.cls → (∀ w ∈ pj_T, w.before args s = true) → va_K g.2.1 pj_cl (pj_tys g) s → va_P g.2.1 pj_cl (pj_ws g w) H → pj_ok ph w → (∀ v ∈ st, pj_okv (pj_n w) v) →
      W p l e R s m args below meth c H locs cells slots Q (F0 m pc' ls (st'.map (pj_enc g))) → W p l e R s m args below meth c H locs cells slots Q (F0 m pc ls (st.map (pj_enc g))))
    (k : Go (pc', lls, st', w)) : Go (pc, lls, st, w) := by
  rcases hM with ⟨p, e, R, s, m, args, below, meth, c, Q, C, rfl⟩ | rfl
  case inr => exact fun h1 h2 h3 => k h1 h2 (hok h1 h3)
  intro h1 h2 h3
  obtain ⟨k1, k2⟩ := k h1 h2 (hok h1 h3)
  exact ⟨k1, fun hn H locs ls hP hl hS => hW p e R s m args below meth c Q H locs _ _ ls C.1 C.2.1 C.2.2.2.1 C.2.2.2.2.1 C.2.2.2.2.2.2.1.1 hP h1 h3 (k2 hn H locs ls hP hl hS)⟩
/-- an instruction that writes into the heap -/
theorem pj_stepW (hM : pj_M l y cc nL ret fr lo ph g n0 o Go) {pc' : Nat} {st' : List pj_V} {w' : pj_W} (hn' : pj_n w' = pj_n w) (hok : pj_ok ph w → (∀ v ∈ st, pj_okv (pj_n w) v) → pj_ok ph w' ∧ ∀ v ∈ st', pj_okv (pj_n w) v)
    (hW : ∀ (p : Program) (e : Env) (R : Room) (s : State) (m : MethodId) (args : Array Value) (below : List Frame) (meth : Method) (c : Code) (Q : State → Prop) (H : Heap) (locs : List Loc) (cells slots : Nat) (ls : Array Slot), p.tables.exec = Jvm.exec → c.code = cc → c.maxLocals = ls.size → s.vm.findClass y.cls = some m.cls → (∀ w ∈ pj_T, w.before args s = true) → meth.name = y.name → va_K g.2.1 pj_cl (pj_tys g) s → va_P g.2.1 pj_cl (pj_ws g w) H → va_S (pj_A g) s.heap H locs → pj_ok ph w → (∀ v ∈ st, pj_okv (pj_n w) v) → R.frames = fr → R.locals = lo →
      (∀ (H1 : Heap) (locs1 : List Loc), va_P g.2.1 pj_cl (pj_ws g w') H1 → va_S (pj_A g) s.heap H1 locs1 → W p l e R s m args below meth c H1 locs1 cells slots Q (F0 m pc' ls (st'.map (pj_enc g)))) → W p l e R s m args below meth c H locs cells slots Q (F0 m pc ls (st.map (pj_enc g))))
    (k : Go (pc', lls, st', w')) : Go (pc, lls, st, w) := by
  rcases hM with ⟨p, e, R, s, m, args, below, meth, c, Q, C, rfl⟩ | rfl
  case inr =>
    intro h1 h2 h3
    have k1 := k (hok h1 h3).1 (by simp only [hn']; exact h2) (by simp only [hn']; exact (hok h1 h3).2)
    simp only [hn'] at k1
    exact k1
  intro h1 h2 h3
  obtain ⟨k1, k2⟩ := k (hok h1 h3).1 (by simp only [hn']; exact h2) (by simp only [hn']; exact (hok h1 h3).2)
  simp only [hn'] at k1 k2
  exact ⟨k1, fun hn H locs ls hP hl hS => hW p e R s m args below meth c Q H locs _ _ ls C.1 C.2.1 (C.2.2.1.trans hl.1.symm) C.2.2.2.1 C.2.2.2.2.1 C.2.2.2.2.2.1 C.2.2.2.2.2.2.1.1 hP hS h1 h3 C.2.2.2.2.2.2.2.1 C.2.2.2.2.2.2.2.2.1 (fun H1 locs1 hP1 hS1 => k2 hn H1 locs1 ls hP1 hl hS1)⟩
theorem pj_getf (hM : pj_M l y cc nL ret fr lo ph g n0 o Go) {idx k s : Nat} {f : Bool} {i : Int} {t : Nat} (hd : decode cc pc = .ok (.getfield idx, 3)) (hF : pj_FL y.cls idx k s f) (hi : 0 ≤ i) (ht : pj_pt (pj_tg k s) = t) (kk : Go (pc + 3, lls, (t, w k i s) :: st, w)) : Go (pc, lls, (k, i) :: st, w) := by
  obtain ⟨hso, hs, hk, C, T, hc, -, -, hl, -⟩ := hF
  subst ht
  refine pj_stepR hM (st' := (pj_pt (pj_tg k s), w k i s) :: st) (fun h1 h2 => List.forall_mem_cons.mpr ⟨(h1.2.1 k i s (pj_mem h1.1 (pj_alloc hk hi (h2 _ List.mem_cons_self))) hs).1, fun v hv => h2 v (List.mem_cons_of_mem _ hv)⟩) (fun p e R st0 m args below meth c Q H locs cells slots ls hx hb ho ht hK hP h1 h2 h => ?_) kk
  have ha := pj_alloc hk hi (h2 _ List.mem_cons_self)
  have he := pj_ws_at (g := g) h1.1 ha
  rw [pj_cell_obj hso] at he
  simp only [List.map_cons, pj_cell_ref hk hi]
  refine va_get hx hb ht (pj_cls _ _ hc).1 ho hK hP (pj_ad k i) he hc s hs (ht _ hl) (fun x h9 => h9) ?_ hd h
  rw [List.getElem?_map, List.getElem?_range hs]
  rfl
theorem pj_getF (hM : pj_M l y cc nL ret fr lo true g n0 o Go) {idx k s : Nat} {f : Bool} {i z : Int} {t : Nat} (hd : decode cc pc = .ok (.getfield idx, 3)) (hF : pj_FL y.cls idx k s f) (hi : 0 ≤ i) (ht : pj_pt (pj_tg k s) = t) (hf : pj_fi k s i = some z) (kk : Go (pc + 3, lls, (t, z) :: st, w)) : Go (pc, lls, (k, i) :: st, w) :=
  pj_okl hM (fun h1 _ h3 => by
    have e : w k i s = z := (h1.2.2.2 rfl).2 k i s z (pj_mem h1.1 (pj_alloc hF.2.2.1 hi (h3 _ List.mem_cons_self))) hF.2.1 hf
    exact pj_getf hM hd hF hi ht (e ▸ kk))
theorem pj_putf (hM : pj_M l y cc nL ret fr lo ph g n0 o Go) {idx k s : Nat} {i z : Int} {t : Nat} (hd : decode cc pc = .ok (.putfield idx, 3)) (hF : pj_FL y.cls idx k s false) (hi : 0 ≤ i) (ht : pj_pt (pj_tg k s) = t) (hb : pj_tg k s = 5 → z = 0 ∨ z = 1) (h6 : pj_tg k s ≠ 6) (hf : ∀ i, pj_fi k s i = none) (kk : Go (pc + 3, lls, st, pj_set w k i s z)) : Go (pc, lls, (t, z) :: (k, i) :: st, w) := by
  obtain ⟨hso, hs, hk, C, T, hc, hfin, -, hl, ty, hty, htt⟩ := hF
  subst ht
  refine pj_stepW hM (st' := st) (w' := pj_set w k i s z) (pj_set_n (by omega)) (fun h1 h2 => ⟨pj_ok_set h1 (by omega) (pj_alloc hk hi (h2 _ (List.mem_cons_of_mem _ List.mem_cons_self))) ⟨h2 _ List.mem_cons_self, hb, fun h => absurd h h6⟩ (fun _ t h => by rw [hf] at h; cases h), fun v hv => h2 v (List.mem_cons_of_mem _ (List.mem_cons_of_mem _ hv))⟩) (fun p e R st0 m args below meth c Q H locs cells slots ls hx hb' hml ho ht hnm hK hP hS h1 h2 _ _ h => ?_) kk
  have ha := pj_alloc hk hi (h2 _ (List.mem_cons_of_mem _ List.mem_cons_self))
  have he := pj_ws_at (g := g) h1.1 ha
  rw [pj_cell_obj hso] at he
  simp only [List.map_cons, pj_cell_ref hk hi]
  obtain ⟨hcl, ⟨ty0, hty0⟩, hdis⟩ := pj_cls _ _ hc
  refine va_put hx hb' ht hcl ty0 hty0 hdis ho hK hP (pj_wsD g w) hS (pj_ad k i) he hc s hs (ht _ hl) (fun x h9 => h9) hfin hty (pj_nf htt hb).1 (pj_nf htt hb).2 (by simpa using hs) hd (fun H1 locs1 hP1 hD1 hS1 => h H1 locs1 ?_ hS1)
  have e2 := pj_ws_upd (g := g) h1.1 ha (pj_set_n (w := w) (i := i) (s := s) (v := z) (show k ≠ 0 by omega)) pj_set_off
  rw [pj_cell_obj hso] at e2
  rw [← e2]
  have e3 := pj_rmap (n := pj_sz k) (s := s) (fun j : Nat => pj_enc g (pj_pt (pj_tg k j), w k i j)) (fun j : Nat => pj_enc g (pj_pt (pj_tg k j), pj_set w k i s z k i j)) (fun j hj => by
    show pj_enc g (_, pj_set w k i s z k i j) = _
    unfold pj_set
    rw [if_neg (fun h => hj (by omega))])
  have e4 : pj_set w k i s z k i s = z := by unfold pj_set; rw [if_pos ⟨rfl, rfl, rfl⟩]
  simp only [e4] at e3
  rw [← e3]
  exact hP1
theorem pj_cell_int {g : pj_G} {w : pj_W} {k : Nat} {i : Int} (h : pj_so k = 1 ∨ pj_so k = 2) : pj_cell g w (k, i) = .inl (g.2.2.1 (pj_ci k), pj_sz k, .inl fun s : Nat => Int32.ofInt (w k i s)) := by
  unfold pj_cell
  rw [if_neg (show ¬ pj_so k = 0 by omega), if_neg (show ¬ pj_so k = 3 by omega), if_neg (show ¬ pj_so k = 4 by omega)]
theorem pj_cell_long {g : pj_G} {w : pj_W} {k : Nat} {i : Int} (h : pj_so k = 3) : pj_cell g w (k, i) = .inl (g.2.2.1 (pj_ci k), pj_sz k, .inr (.inl fun s : Nat => Int64.ofInt (w k i s))) := by
  unfold pj_cell
  rw [if_neg (show ¬ pj_so k = 0 by omega), if_pos h]
theorem pj_cell_arr {g : pj_G} {w : pj_W} {k : Nat} {i : Int} (h : pj_so k = 4) : pj_cell g w (k, i) = .inl (g.2.2.1 (pj_ci k), pj_sz k, .inr (.inr (.inr (.inr fun s : Nat => if w k i s < 0 then none else some (g.1.1 + pj_ad (pj_tg k s) (w k i s)))))) := by
  unfold pj_cell
  rw [if_neg (show ¬ pj_so k = 0 by omega), if_neg (show ¬ pj_so k = 3 by omega), if_pos h]
theorem pj_okj {ph : Bool} {w : pj_W} {k : Nat} {i j : Int} (h1 : pj_ok ph w) (hk : pj_ad k i < pj_n w) (hj : 0 ≤ j ∧ j < pj_sz k) : pj_okt (pj_n w) (pj_tg k j.toNat) (w k i j) := by
  have h := h1.2.1 k i j.toNat (pj_mem h1.1 hk) (by omega)
  rwa [Int.toNat_of_nonneg hj.1] at h
theorem pj_iald (hM : pj_M l y cc nL ret fr lo ph g n0 o Go) {k : Nat} {i j : Int} (hd : decode cc pc = .ok (.iaload, 1)) (hk : 10 ≤ k) (hso : pj_so k = 1) (hci : pj_ci k = 0) (ht : ∀ s, pj_tg k s = 0) (hi : 0 ≤ i) (hj : 0 ≤ j ∧ j < pj_sz k) (kk : Go (pc + 1, lls, (0, w k i j) :: st, w)) : Go (pc, lls, (0, j) :: (k, i) :: st, w) := by
  refine pj_stepR hM (st' := (0, w k i j) :: st) (fun h1 h2 => List.forall_mem_cons.mpr ⟨?_, fun v hv => h2 v (List.mem_cons_of_mem _ (List.mem_cons_of_mem _ hv))⟩) (fun p e R st0 m args below meth c Q H locs cells slots ls hx hb ho htt hK hP h1 h2 h => ?_) kk
  · have := (pj_okj h1 (pj_alloc hk hi (h2 _ (List.mem_cons_of_mem _ List.mem_cons_self))) hj).1
    rw [ht] at this
    exact this
  · have ha := pj_alloc hk hi (h2 _ (List.mem_cons_of_mem _ List.mem_cons_self))
    have he := pj_ws_at (g := g) h1.1 ha
    rw [pj_cell_int (Or.inl hso), hci] at he
    simp only [List.map_cons, pj_cell_ref hk hi]
    have hv := pj_inv hj (pj_sz_in k)
    refine va_iald hx hb hK hP (pj_ad k i) 0 he rfl hv.1 hd ?_
    rw [hv.2, Int.toNat_of_nonneg hj.1]
    exact h
theorem pj_bald (hM : pj_M l y cc nL ret fr lo ph g n0 o Go) {k : Nat} {i j : Int} (hd : decode cc pc = .ok (.baload, 1)) (hk : 10 ≤ k) (hso : pj_so k = 2) (hci : pj_ci k = 1) (ht : ∀ s, pj_tg k s = 6) (hi : 0 ≤ i) (hj : 0 ≤ j ∧ j < pj_sz k) (kk : Go (pc + 1, lls, (0, w k i j) :: st, w)) : Go (pc, lls, (0, j) :: (k, i) :: st, w) := by
  refine pj_stepR hM (st' := (0, w k i j) :: st) (fun h1 h2 => List.forall_mem_cons.mpr ⟨?_, fun v hv => h2 v (List.mem_cons_of_mem _ (List.mem_cons_of_mem _ hv))⟩) (fun p e R st0 m args below meth c Q H locs cells slots ls hx hb ho htt hK hP h1 h2 h => ?_) kk
  · have := (pj_okj h1 (pj_alloc hk hi (h2 _ (List.mem_cons_of_mem _ List.mem_cons_self))) hj).1
    rw [ht] at this
    exact this
  · have ha := pj_alloc hk hi (h2 _ (List.mem_cons_of_mem _ List.mem_cons_self))
    have he := pj_ws_at (g := g) h1.1 ha
    rw [pj_cell_int (Or.inr hso), hci] at he
    simp only [List.map_cons, pj_cell_ref hk hi]
    have hv := pj_inv hj (pj_sz_in k)
    refine va_bald hx hb hK hP (pj_ad k i) 1 he rfl hv.1 hd ?_
    rw [hv.2, Int.toNat_of_nonneg hj.1]
    exact h
theorem pj_lald (hM : pj_M l y cc nL ret fr lo ph g n0 o Go) {k : Nat} {i j : Int} (hd : decode cc pc = .ok (.laload, 1)) (hk : 10 ≤ k) (hso : pj_so k = 3) (hci : pj_ci k = 2) (ht : ∀ s, pj_tg k s = 1) (hi : 0 ≤ i) (hj : 0 ≤ j ∧ j < pj_sz k) (kk : Go (pc + 1, lls, (1, w k i j) :: st, w)) : Go (pc, lls, (0, j) :: (k, i) :: st, w) := by
  refine pj_stepR hM (st' := (1, w k i j) :: st) (fun h1 h2 => List.forall_mem_cons.mpr ⟨?_, fun v hv => h2 v (List.mem_cons_of_mem _ (List.mem_cons_of_mem _ hv))⟩) (fun p e R st0 m args below meth c Q H locs cells slots ls hx hb ho htt hK hP h1 h2 h => ?_) kk
  · have := (pj_okj h1 (pj_alloc hk hi (h2 _ (List.mem_cons_of_mem _ List.mem_cons_self))) hj).1
    rw [ht] at this
    exact this
  · have ha := pj_alloc hk hi (h2 _ (List.mem_cons_of_mem _ List.mem_cons_self))
    have he := pj_ws_at (g := g) h1.1 ha
    rw [pj_cell_long hso, hci] at he
    simp only [List.map_cons, pj_cell_ref hk hi]
    have hv := pj_inv hj (pj_sz_in k)
    refine va_lald hx hb hK hP (pj_ad k i) 2 he rfl hv.1 hd ?_
    rw [hv.2, Int.toNat_of_nonneg hj.1]
    exact h
/-- an element of an array of references that holds what it was given when it was made -/
theorem pj_aald (hM : pj_M l y cc nL ret fr lo true g n0 o Go) {k t : Nat} {i j : Int} (F : Int → Int) (hd : decode cc pc = .ok (.aaload, 1)) (hk : 10 ≤ k) (hso : pj_so k = 4) (ht : ∀ s, pj_tg k s = t) (hc : ∃ C, (pj_tys g)[pj_ci k]? = some (g.2.2.1 (pj_ci k), .object C)) (ht2 : 10 ≤ t) (hi : 0 ≤ i) (hj : 0 ≤ j ∧ j < pj_sz k) (hF : ∀ s : Nat, pj_fi k s i = some (F s)) (h0 : 0 ≤ F j) (kk : Go (pc + 1, lls, (t, F j) :: st, w)) : Go (pc, lls, (0, j) :: (k, i) :: st, w) := by
  obtain ⟨C, hc⟩ := hc
  have e : ∀ w : pj_W, pj_ok true w → pj_ad k i < pj_n w → w k i j = F j := fun w h1 ha => by
    have h := (h1.2.2.2 rfl).2 k i j.toNat _ (pj_mem h1.1 ha) (by omega) (hF _)
    rwa [Int.toNat_of_nonneg hj.1] at h
  refine pj_stepR hM (st' := (t, F j) :: st) (fun h1 h2 => List.forall_mem_cons.mpr ⟨?_, fun v hv => h2 v (List.mem_cons_of_mem _ (List.mem_cons_of_mem _ hv))⟩) (fun p e0 R st0 m args below meth c Q H locs cells slots ls hx hb ho htt hK hP h1 h2 h => ?_) kk
  · have ha := pj_alloc hk hi (h2 _ (List.mem_cons_of_mem _ List.mem_cons_self))
    have := (pj_okj h1 ha hj).1
    rw [ht, e w h1 ha] at this
    have e5 : pj_pt t = t := by unfold pj_pt; rw [if_neg (by omega)]
    rwa [e5] at this
  · have ha := pj_alloc hk hi (h2 _ (List.mem_cons_of_mem _ List.mem_cons_self))
    have he := pj_ws_at (g := g) h1.1 ha
    rw [pj_cell_arr hso] at he
    simp only [List.map_cons, pj_cell_ref hk hi]
    have hv := pj_inv hj (pj_sz_in k)
    refine va_aldq hx hb hK hP (pj_ad k i) (pj_ci k) he hc hv.1 hd ?_
    rw [hv.2, Int.toNat_of_nonneg hj.1, e w h1 ha, ht, if_neg (by omega)]
    simp only [List.map_cons, pj_cell_ref ht2 h0] at h
    exact h
theorem pj_alen (hM : pj_M l y cc nL ret fr lo ph g n0 o Go) {k : Nat} {i : Int} (hd : decode cc pc = .ok (.arraylength, 1)) (hk : 10 ≤ k) (hso : pj_so k = 1 ∨ pj_so k = 2 ∨ pj_so k = 3 ∨ pj_so k = 4) (hc : ∃ ty, (pj_tys g)[pj_ci k]? = some (g.2.2.1 (pj_ci k), ty)) (hi : 0 ≤ i) (kk : Go (pc + 1, lls, (0, pj_sz k) :: st, w)) : Go (pc, lls, (k, i) :: st, w) := by
  obtain ⟨ty, hc⟩ := hc
  refine pj_stepR hM (st' := (0, pj_sz k) :: st) (fun h1 h2 => List.forall_mem_cons.mpr ⟨?_, fun v hv => h2 v (List.mem_cons_of_mem _ hv)⟩) (fun p e0 R st0 m args below meth c Q H locs cells slots ls hx hb ho htt hK hP h1 h2 h => ?_) kk
  · have := pj_sz_in k
    show -2147483648 ≤ (pj_sz k : Int) ∧ (pj_sz k : Int) < 2147483648
    omega
  · have ha := pj_alloc hk hi (h2 _ List.mem_cons_self)
    have he := pj_ws_at (g := g) h1.1 ha
    simp only [List.map_cons, pj_cell_ref hk hi]
    have e3 : Int32.ofNat (pj_sz k) = Int32.ofInt (pj_sz k) := rfl
    rcases hso with h4 | h4 | h4 | h4
    · rw [pj_cell_int (Or.inl h4)] at he
      exact va_alen hx hb hK hP (pj_ad k i) _ he hc e3 hd h
    · rw [pj_cell_int (Or.inr h4)] at he
      exact va_alen hx hb hK hP (pj_ad k i) _ he hc e3 hd h
    · rw [pj_cell_long h4] at he
      exact va_alen hx hb hK hP (pj_ad k i) _ he hc e3 hd h
    · rw [pj_cell_arr h4] at he
      exact va_alen hx hb hK hP (pj_ad k i) _ he hc e3 hd h
end
