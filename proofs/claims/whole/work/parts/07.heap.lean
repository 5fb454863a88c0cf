/-! ROWS of locals that change, of fields and arrays -/
def pj_ll (g : pj_G) : Nat → List pj_V → List (Nat × Value)
  | _, [] => []
  | i, v :: vs => if v.1 = 9 then pj_ll g (i + 1) vs else (i, pj_enc g v) :: pj_ll g (i + 1) vs
theorem pj_ll_in (g : pj_G) : ∀ (lls : List pj_V) (b : Nat) (i : Nat) (v : pj_V), lls[i]? = some v → v.1 ≠ 9 → (b + i, pj_enc g v) ∈ pj_ll g b lls
  | [], b, i, v, h, h9 => by simp at h
  | u :: us, b, 0, v, h, h9 => by
    simp at h
    subst h
    unfold pj_ll
    rw [if_neg h9]
    exact List.mem_cons_self
  | u :: us, b, i + 1, v, h, h9 => by
    have h2 := pj_ll_in g us (b + 1) i v (by simpa using h) h9
    rw [show b + 1 + i = b + (i + 1) by omega] at h2
    unfold pj_ll
    split
    · exact h2
    · exact List.mem_cons_of_mem _ h2
theorem pj_ll_of (g : pj_G) : ∀ (lls : List pj_V) (b : Nat) (q : Nat × Value), q ∈ pj_ll g b lls → ∃ (i : Nat) (v : pj_V), lls[i]? = some v ∧ v.1 ≠ 9 ∧ q = (b + i, pj_enc g v)
  | [], b, q, h => by simp [pj_ll] at h
  | u :: us, b, q, h => by
    unfold pj_ll at h
    split at h
    · obtain ⟨i, v, h1, h2, h3⟩ := pj_ll_of g us (b + 1) q h
      exact ⟨i + 1, v, by simpa using h1, h2, by rw [h3, show b + 1 + i = b + (i + 1) by omega]⟩
    · rename_i h9
      rcases List.mem_cons.mp h with rfl | h
      · exact ⟨0, u, rfl, h9, rfl⟩
      · obtain ⟨i, v, h1, h2, h3⟩ := pj_ll_of g us (b + 1) q h
        exact ⟨i + 1, v, by simpa using h1, h2, by rw [h3, show b + 1 + i = b + (i + 1) by omega]⟩
theorem pj_lr_has {g : pj_G} {nL : Nat} {lls : List pj_V} {ls : Array Slot} (h : pj_lr g nL lls ls) : lv_has ls nL (pj_ll g 0 lls) := ⟨h.1, h.2.1, fun q hq => by
  obtain ⟨i, v, h1, h2, rfl⟩ := pj_ll_of g lls 0 q hq
  rw [Nat.zero_add]
  exact h.2.2 i v h1 h2⟩
/-- a local gets a value -/
def pj_stl : List pj_V → Nat → pj_V → List pj_V
  | [], _, _ => []
  | _ :: us, 0, v => v :: (if v.1 = 1 then (match us with | [] => [] | _ :: t => (9, 0) :: t) else us)
  | u :: us, i + 1, v => (if i = 0 ∧ u.1 = 1 then (9, 0) else u) :: pj_stl us i v
theorem pj_stl_at : ∀ (lls : List pj_V) (i : Nat) (v : pj_V) (j : Nat) (u : pj_V), (pj_stl lls i v)[j]? = some u → u.1 ≠ 9 → (j = i ∧ u = v) ∨ (j ≠ i ∧ lls[j]? = some u ∧ (j + 1 = i → u.1 ≠ 1) ∧ (v.1 = 1 → j ≠ i + 1))
  | [], i, v, j, u, h, h9 => by simp [pj_stl] at h
  | a :: us, 0, v, 0, u, h, h9 => by
    simp [pj_stl] at h
    exact Or.inl ⟨rfl, h.symm⟩
  | a :: us, 0, v, j + 1, u, h, h9 => by
    unfold pj_stl at h
    simp only [List.getElem?_cons_succ] at h
    refine Or.inr ⟨by omega, ?_, by omega, ?_⟩
    · split at h
      · cases us with
        | nil => simp at h
        | cons b t =>
          cases j with
          | zero => simp at h; exact absurd (by rw [← h]) h9
          | succ j => simpa using h
      · simpa using h
    · intro h1 hj
      rw [if_pos h1] at h
      have : j = 0 := by omega
      subst this
      cases us with
      | nil => simp at h
      | cons b t => simp at h; exact absurd (by rw [← h]) h9
  | a :: us, i + 1, v, 0, u, h, h9 => by
    unfold pj_stl at h
    simp only [List.getElem?_cons_zero, Option.some.injEq] at h
    refine Or.inr ⟨by omega, ?_, ?_, by omega⟩
    · split at h
      · exact absurd (by rw [← h]) h9
      · simpa using h
    · intro hi h1
      split at h
      · exact absurd (by rw [← h]) h9
      · rename_i hn
        exact hn ⟨by omega, by rw [h]; exact h1⟩
  | a :: us, i + 1, v, j + 1, u, h, h9 => by
    unfold pj_stl at h
    simp only [List.getElem?_cons_succ] at h
    rcases pj_stl_at us i v j u h h9 with ⟨h1, h2⟩ | ⟨h1, h2, h3, h4⟩
    · exact Or.inl ⟨by omega, h2⟩
    · exact Or.inr ⟨by omega, by simpa using h2, fun h => h3 (by omega), fun h q => h4 h (by omega)⟩
theorem pj_stl_in {lls : List pj_V} {n i : Nat} {v : pj_V} (h1 : ∀ u ∈ lls, pj_okv n u) (hv : pj_okv n v) : ∀ u ∈ pj_stl lls i v, pj_okv n u := by
  intro u hu
  obtain ⟨j, hj⟩ := List.getElem?_of_mem hu
  by_cases h9 : u.1 = 9
  · unfold pj_okv
    rw [h9]
    trivial
  · rcases pj_stl_at lls i v j u hj h9 with ⟨-, rfl⟩ | ⟨-, h2, -, -⟩
    · exact hv
    · exact h1 _ (List.mem_of_getElem? h2)
theorem pj_cat2 (g : pj_G) (u : pj_V) : (pj_enc g u).category = if u.1 = 1 then 2 else 1 := by
  obtain ⟨t, z⟩ := u
  by_cases h0 : t = 0
  · subst h0; rfl
  · by_cases h1 : t = 1
    · subst h1; rfl
    · rw [if_neg h1]
      rcases pj_erc g (show 2 ≤ t by omega) z with e | ⟨a, e⟩ <;> rw [e] <;> rfl
theorem pj_lr_st1 {g : pj_G} {nL i : Nat} {lls lls' : List pj_V} {v : pj_V} {ls : Array Slot} {lv' : List (Nat × Value)} (hv : v.1 ≠ 1) (hl : pj_stl lls i v = lls') (h' : lv_has ls nL lv') (e : (i, pj_enc g v) :: (pj_ll g 0 lls).filter (fun q => !(q.1 == i) && !(q.1 + 1 == i && q.2.category == 2)) = lv') : pj_lr g nL lls' ls := by
  subst hl; subst e
  refine ⟨h'.1, h'.2.1, fun j u hj h9 => ?_⟩
  rcases pj_stl_at lls i v j u hj h9 with ⟨rfl, rfl⟩ | ⟨h1, h2, h3, -⟩
  · exact h'.2.2 _ List.mem_cons_self
  · refine h'.2.2 (j, pj_enc g u) (List.mem_cons_of_mem _ (List.mem_filter.mpr ⟨by have := pj_ll_in g lls 0 j u h2 h9; rwa [Nat.zero_add] at this, ?_⟩))
    have hc := pj_cat2 g u
    by_cases hu : j + 1 = i
    · rw [if_neg (h3 hu)] at hc
      simp [h1, hc]
    · simp [h1, hu]
theorem pj_lr_st2 {g : pj_G} {nL i : Nat} {lls lls' : List pj_V} {z : Int} {ls : Array Slot} {lv' : List (Nat × Value)} (hl : pj_stl lls i (1, z) = lls') (h' : lv_has ls nL lv') (e : (i, Value.long (Int64.ofInt z)) :: (pj_ll g 0 lls).filter (fun q => !(q.1 == i) && (!(q.1 == i + 1) && !(q.1 + 1 == i && q.2.category == 2))) = lv') : pj_lr g nL lls' ls := by
  subst hl; subst e
  refine ⟨h'.1, h'.2.1, fun j u hj h9 => ?_⟩
  rcases pj_stl_at lls i (1, z) j u hj h9 with ⟨rfl, rfl⟩ | ⟨h1, h2, h3, h4⟩
  · exact h'.2.2 _ List.mem_cons_self
  · refine h'.2.2 (j, pj_enc g u) (List.mem_cons_of_mem _ (List.mem_filter.mpr ⟨by have := pj_ll_in g lls 0 j u h2 h9; rwa [Nat.zero_add] at this, ?_⟩))
    have hc := pj_cat2 g u
    have h5 := h4 rfl
    by_cases hu : j + 1 = i
    · rw [if_neg (h3 hu)] at hc
      simp [h1, hc, h5]
    · simp [h1, hu, h5]
section
variable {l : Launch} {y : MethodName} {cc : ByteArray} {nL : Nat} {ret : Option FieldType} {fr lo : Nat} {ph : Bool} {g : pj_G} {n0 : Nat} {o : Option pj_V × pj_W} {Go : pj_C → Prop} {pc : Nat} {lls lls' st : List pj_V} {w : pj_W}
/-- an instruction that leaves the heap -/
theorem pj_stepL (hM : pj_M l y cc nL ret fr lo ph g n0 o Go) {pc' : Nat} {st' : List pj_V} (hok : (∀ v ∈ lls, pj_okv (pj_n w) v) → (∀ v ∈ st, pj_okv (pj_n w) v) → (∀ v ∈ lls', pj_okv (pj_n w) v) ∧ ∀ v ∈ st', pj_okv (pj_n w) v)
    (hW : ∀ (p : Program) (e : Env) (R : Room) (s : State) (m : MethodId) (args : Array Value) (below : List Frame) (meth : Method) (c : Code) (Q : State → Prop) (H : Heap) (locs : List Loc) (cells slots : Nat) (ls : Array Slot), p.tables.exec = Jvm.exec → c.code = cc → pj_lr g nL lls ls → (∀ v ∈ lls, pj_okv (pj_n w) v) →
      (∀ ls', pj_lr g nL lls' ls' → W p l e R s m args below meth c H locs cells slots Q (F0 m pc' ls' (st'.map (pj_enc g)))) → W p l e R s m args below meth c H locs cells slots Q (F0 m pc ls (st.map (pj_enc g))))
    (k : Go (pc', lls', st', w)) : Go (pc, lls, st, w) := by
  rcases hM with ⟨p, e, R, s, m, args, below, meth, c, Q, C, rfl⟩ | rfl
  case inr => exact fun h1 h2 h3 => k h1 (hok h2 h3).1 (hok h2 h3).2
  intro h1 h2 h3
  obtain ⟨k1, k2⟩ := k h1 (hok h2 h3).1 (hok h2 h3).2
  exact ⟨k1, fun hn H locs ls hP hl hS => hW p e R s m args below meth c Q H locs _ _ ls C.1 C.2.1 hl h2 (fun ls' hl' => k2 hn H locs ls' hP hl' hS)⟩
theorem pj_istore_n (hM : pj_M l y cc nL ret fr lo ph g n0 o Go) {k : Fin 4} {z : Int} (hd : decode cc pc = .ok (.istore_n k, 1)) (hk : (k : Nat) < nL) (hl : pj_stl lls k (0, z) = lls') (kk : Go (pc + 1, lls', st, w)) : Go (pc, lls, (0, z) :: st, w) :=
  pj_stepL hM (fun h1 h2 => ⟨hl ▸ pj_stl_in h1 (h2 _ List.mem_cons_self), fun v hv => h2 v (List.mem_cons_of_mem _ hv)⟩) (fun p e R s m args below meth c Q H locs cells slots ls hx hb hr ho h => lv_istore_n hx hb hd rfl (pj_lr_has hr) hk rfl (fun ls' h' => h ls' (pj_lr_st1 (Nat.ne_of_beq_eq_false rfl) hl h' rfl))) kk
theorem pj_istore (hM : pj_M l y cc nL ret fr lo ph g n0 o Go) {i : Nat} {z : Int} (hd : decode cc pc = .ok (.istore i, 2)) (hk : i < nL) (hl : pj_stl lls i (0, z) = lls') (kk : Go (pc + 2, lls', st, w)) : Go (pc, lls, (0, z) :: st, w) :=
  pj_stepL hM (fun h1 h2 => ⟨hl ▸ pj_stl_in h1 (h2 _ List.mem_cons_self), fun v hv => h2 v (List.mem_cons_of_mem _ hv)⟩) (fun p e R s m args below meth c Q H locs cells slots ls hx hb hr ho h => lv_istore hx hb hd (pj_lr_has hr) hk rfl (fun ls' h' => h ls' (pj_lr_st1 (Nat.ne_of_beq_eq_false rfl) hl h' rfl))) kk
theorem pj_lstore_n (hM : pj_M l y cc nL ret fr lo ph g n0 o Go) {k : Fin 4} {z : Int} (hd : decode cc pc = .ok (.lstore_n k, 1)) (hk : (k : Nat) + 1 < nL) (hl : pj_stl lls k (1, z) = lls') (kk : Go (pc + 1, lls', st, w)) : Go (pc, lls, (1, z) :: st, w) :=
  pj_stepL hM (fun h1 h2 => ⟨hl ▸ pj_stl_in h1 (h2 _ List.mem_cons_self), fun v hv => h2 v (List.mem_cons_of_mem _ hv)⟩) (fun p e R s m args below meth c Q H locs cells slots ls hx hb hr ho h => lv_lstore_n hx hb hd rfl (pj_lr_has hr) hk rfl (fun ls' h' => h ls' (pj_lr_st2 hl h' rfl))) kk
theorem pj_lstore (hM : pj_M l y cc nL ret fr lo ph g n0 o Go) {i : Nat} {z : Int} (hd : decode cc pc = .ok (.lstore i, 2)) (hk : i + 1 < nL) (hl : pj_stl lls i (1, z) = lls') (kk : Go (pc + 2, lls', st, w)) : Go (pc, lls, (1, z) :: st, w) :=
  pj_stepL hM (fun h1 h2 => ⟨hl ▸ pj_stl_in h1 (h2 _ List.mem_cons_self), fun v hv => h2 v (List.mem_cons_of_mem _ hv)⟩) (fun p e R s m args below meth c Q H locs cells slots ls hx hb hr ho h => lv_lstore hx hb hd (pj_lr_has hr) hk rfl (fun ls' h' => h ls' (pj_lr_st2 hl h' rfl))) kk
theorem pj_astore_n (hM : pj_M l y cc nL ret fr lo ph g n0 o Go) {k : Fin 4} {t : Nat} {z : Int} (hd : decode cc pc = .ok (.astore_n k, 1)) (ht : 2 ≤ t) (hk : (k : Nat) < nL) (hl : pj_stl lls k (t, z) = lls') (kk : Go (pc + 1, lls', st, w)) : Go (pc, lls, (t, z) :: st, w) := by
  refine pj_stepL hM (fun h1 h2 => ⟨hl ▸ pj_stl_in h1 (h2 _ List.mem_cons_self), fun v hv => h2 v (List.mem_cons_of_mem _ hv)⟩) (fun p e R s m args below meth c Q H locs cells slots ls hx hb hr ho h => ?_) kk
  have ht1 : (t, z).1 ≠ 1 := by show t ≠ 1; omega
  rcases pj_erc g ht z with e1 | ⟨a, e1⟩
  · simp only [List.map_cons, e1]
    exact lv_astore_nN hx hb hd rfl (pj_lr_has hr) hk rfl (fun ls' h' => h ls' (pj_lr_st1 ht1 hl h' (by rw [e1])))
  · simp only [List.map_cons, e1]
    exact lv_astore_n hx hb hd rfl (pj_lr_has hr) hk rfl (fun ls' h' => h ls' (pj_lr_st1 ht1 hl h' (by rw [e1])))
theorem pj_astore (hM : pj_M l y cc nL ret fr lo ph g n0 o Go) {i t : Nat} {z : Int} (hd : decode cc pc = .ok (.astore i, 2)) (ht : 2 ≤ t) (hk : i < nL) (hl : pj_stl lls i (t, z) = lls') (kk : Go (pc + 2, lls', st, w)) : Go (pc, lls, (t, z) :: st, w) := by
  refine pj_stepL hM (fun h1 h2 => ⟨hl ▸ pj_stl_in h1 (h2 _ List.mem_cons_self), fun v hv => h2 v (List.mem_cons_of_mem _ hv)⟩) (fun p e R s m args below meth c Q H locs cells slots ls hx hb hr ho h => ?_) kk
  have ht1 : (t, z).1 ≠ 1 := by show t ≠ 1; omega
  rcases pj_erc g ht z with e1 | ⟨a, e1⟩
  · simp only [List.map_cons, e1]
    exact lv_astoreN hx hb hd (pj_lr_has hr) hk rfl (fun ls' h' => h ls' (pj_lr_st1 ht1 hl h' (by rw [e1])))
  · simp only [List.map_cons, e1]
    exact lv_astore hx hb hd (pj_lr_has hr) hk rfl (fun ls' h' => h ls' (pj_lr_st1 ht1 hl h' (by rw [e1])))
theorem pj_ll_at {g : pj_G} {lls : List pj_V} {i : Nat} {v : pj_V} (h : lls[i]? = some v) (h9 : v.1 ≠ 9) : ∃ k : Nat, (pj_ll g 0 lls)[k]? = some (i, pj_enc g v) := by
  have h1 := pj_ll_in g lls 0 i v h h9
  rw [Nat.zero_add] at h1
  exact List.getElem?_of_mem h1
theorem pj_iinc (hM : pj_M l y cc nL ret fr lo ph g n0 o Go) {i : Nat} {n z : Int} (hd : decode cc pc = .ok (.iinc i n, 3)) (hi : lls[i]? = some (0, z)) (hk : i < nL) (hl : pj_stl lls i (0, pj_wr (z + n)) = lls') (kk : Go (pc + 3, lls', st, w)) : Go (pc, lls, st, w) := by
  refine pj_stepL hM (fun h1 h2 => ⟨hl ▸ pj_stl_in h1 (pj_okw _ _), h2⟩) (fun p e R s m args below meth c Q H locs cells slots ls hx hb hr ho h => ?_) kk
  obtain ⟨k, hk2⟩ := pj_ll_at (g := g) hi (Nat.ne_of_beq_eq_false rfl)
  exact lv_iinc hx hb hd (pj_lr_has hr) hk2 (v := Int32.ofInt (pj_wr (z + n))) (by rw [pj_ofr, Int32.ofInt_add]) hk rfl (fun ls' h' => h ls' (pj_lr_st1 (Nat.ne_of_beq_eq_false rfl) hl h' rfl))
/-- locals that are not looked at any more -/
def pj_kil : List Bool → List pj_V → List pj_V
  | [], _ => []
  | _, [] => []
  | b :: bs, v :: vs => (if b then v else (9, 0)) :: pj_kil bs vs
theorem pj_kil_at : ∀ (bs : List Bool) (lls : List pj_V) (i : Nat) (v : pj_V), (pj_kil bs lls)[i]? = some v → v.1 ≠ 9 → lls[i]? = some v
  | [], lls, i, v, h, _ => by simp [pj_kil] at h
  | _ :: _, [], i, v, h, _ => by simp [pj_kil] at h
  | b :: bs, u :: us, 0, v, h, h9 => by
    cases b
    · simp [pj_kil] at h
      exact absurd (by rw [← h]) h9
    · simpa [pj_kil] using h
  | b :: bs, u :: us, i + 1, v, h, h9 => by
    have := pj_kil_at bs us i v (by simpa [pj_kil] using h) h9
    simpa using this
theorem pj_kill (hM : pj_M l y cc nL ret fr lo ph g n0 o Go) (bs : List Bool) (hl : pj_kil bs lls = lls') (kk : Go (pc, lls', st, w)) : Go (pc, lls, st, w) := by
  subst hl
  have hk : ∀ n, (∀ v ∈ lls, pj_okv n v) → ∀ v ∈ pj_kil bs lls, pj_okv n v := fun n h2 v hv => by
    obtain ⟨j, hj⟩ := List.getElem?_of_mem hv
    by_cases h9 : v.1 = 9
    · unfold pj_okv
      rw [h9]
      trivial
    · exact h2 _ (List.mem_of_getElem? (pj_kil_at bs lls j v hj h9))
  rcases hM with ⟨p, e, R, s, m, args, below, meth, c, Q, C, rfl⟩ | rfl
  case inr => exact fun h1 h2 h3 => kk h1 (hk _ h2) h3
  intro h1 h2 h3
  obtain ⟨k1, k2⟩ := kk h1 (hk _ h2) h3
  exact ⟨k1, fun hn H locs ls hP hl hS => k2 hn H locs ls hP ⟨hl.1, hl.2.1, fun i v hi h9 => hl.2.2 i v (pj_kil_at bs lls i v hi h9) h9⟩ hS⟩
/-- what the numbers of a picture are known to be -/
theorem pj_okl (hM : pj_M l y cc nL ret fr lo ph g n0 o Go) (k : pj_ok ph w → (∀ v ∈ lls, pj_okv (pj_n w) v) → (∀ v ∈ st, pj_okv (pj_n w) v) → Go (pc, lls, st, w)) : Go (pc, lls, st, w) := by
  rcases hM with ⟨p, e, R, s, m, args, below, meth, c, Q, C, rfl⟩ | rfl
  · exact fun h1 h2 h3 => k h1 h2 h3 h1 h2 h3
  · exact fun h1 h2 h3 => k h1 h2 h3 h1 h2 h3
end
