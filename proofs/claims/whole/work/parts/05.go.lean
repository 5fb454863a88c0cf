/-! THE JUDGEMENT Go: from a pure picture of a frame the machine comes to the method's end -/
def pj_lr (g : pj_G) (nL : Nat) (lls : List pj_V) (ls : Array Slot) : Prop := ls.size = nL ∧ lv_wf ls ∧ ∀ (i : Nat) (v : pj_V), lls[i]? = some v → v.1 ≠ 9 → ls[i]? = some (.val (pj_enc g v))
def pj_sl (n : Nat) : Nat := ((pj_L.take n).map fun q => pj_sz q.1).sum
/-- the instruction that ends a method -/
def pj_ri (r : Option FieldType) : Instr := match r with
  | none => .return_
  | some .long => .lreturn
  | some (.object _) => .areturn
  | some (.array _) => .areturn
  | some _ => .ireturn
def pj_shp (ret : Option FieldType) (r : Option pj_V) : Prop := match ret with
  | none => r = none
  | some .int => ∃ z : Int, r = some (0, z)
  | some .long => ∃ z : Int, r = some (1, z)
  | some .boolean => ∃ z : Int, r = some (0, z) ∧ (z = 0 ∨ z = 1)
  | some .char => ∃ z : Int, r = some (0, z) ∧ (0 ≤ z ∧ z < 65536)
  | some .byte => ∃ z : Int, r = some (0, z) ∧ (-128 ≤ z ∧ z < 128)
  | some (.object _) => ∃ (k : Nat) (z : Int), 10 ≤ k ∧ r = some (k, z)
  | _ => False
def pj_okr (ret : Option FieldType) (n : Nat) (r : Option pj_V) : Prop := (∀ v, r = some v → pj_okv n v) ∧ pj_shp ret r
/-- what is known of the end, from a picture on -/
def pj_GoP (ph : Bool) (ret : Option FieldType) (o : Option pj_V × pj_W) : pj_C → Prop := fun cf =>
  pj_ok ph cf.2.2.2 → (∀ v ∈ cf.2.1, pj_okv (pj_n cf.2.2.2) v) → (∀ v ∈ cf.2.2.1, pj_okv (pj_n cf.2.2.2) v) → pj_n cf.2.2.2 ≤ pj_n o.2 ∧ pj_ok ph o.2 ∧ pj_okr ret (pj_n o.2) o.1
def pj_Go (ph : Bool) (g : pj_G) (n0 nL : Nat) (ret : Option FieldType) (o : Option pj_V × pj_W) (p : Program) (l : Launch) (e : Env) (R : Room) (s : State) (m : MethodId) (args : Array Value) (below : List Frame) (meth : Method) (c : Code) (Q : State → Prop) : pj_C → Prop := fun cf =>
  pj_ok ph cf.2.2.2 → (∀ v ∈ cf.2.1, pj_okv (pj_n cf.2.2.2) v) → (∀ v ∈ cf.2.2.1, pj_okv (pj_n cf.2.2.2) v) →
  (pj_n cf.2.2.2 ≤ pj_n o.2 ∧ pj_ok ph o.2 ∧ pj_okr ret (pj_n o.2) o.1) ∧ (n0 ≤ pj_n cf.2.2.2 → ∀ (H : Heap) (locs : List Loc) (ls : Array Slot), va_P g.2.1 pj_cl (pj_ws g cf.2.2.2) H → pj_lr g nL cf.2.1 ls → va_S (pj_A g) s.heap H locs →
    W p l e R s m args below meth c H locs (pj_n cf.2.2.2 - n0) (pj_sl (pj_n cf.2.2.2) - pj_sl n0) Q (F0 m cf.1 ls (cf.2.2.1.map (pj_enc g))))
/-- the words of the tables that all methods stand on -/
def pj_T : List Cond := lw_tbl.filter goodWord
theorem pj_T_good : GoodIn pj_T pj_T := fun w h => ⟨h, good_of_word (List.mem_filter.mp h).2⟩
theorem pj_inT {w : Cond} (h : w ∈ lw_tbl) (hg : goodWord w = true) : w ∈ pj_T := List.mem_filter.mpr ⟨h, hg⟩
/-- what holds throughout a method's body -/
def pj_Cx (l : Launch) (y : MethodName) (cc : ByteArray) (nL : Nat) (ret : Option FieldType) (fr lo : Nat) (ph : Bool) (g : pj_G) (n0 : Nat) (o : Option pj_V × pj_W) (p : Program) (e : Env) (R : Room) (s : State) (m : MethodId) (args : Array Value) (below : List Frame) (meth : Method) (c : Code) (Q : State → Prop) : Prop :=
  p.tables.exec = Jvm.exec ∧ c.code = cc ∧ c.maxLocals = nL ∧ s.vm.findClass y.cls = some m.cls ∧ (∀ w ∈ pj_T, w.before args s = true) ∧ meth.name = y.name ∧ pj_K g s ∧ R.frames = fr ∧ R.locals = lo ∧ pj_n o.2 - n0 ≤ R.cells ∧ pj_sl (pj_n o.2) - pj_sl n0 ≤ R.slots ∧
  s.heap.size = g.1.1 + n0 ∧ g.1.2.size = g.1.1 ∧ (∀ q : Nat, q < g.1.1 → s.heap[q]? = g.1.2[q]?) ∧
  (∀ (pc : Nat) (H : Heap) (locs : List Loc) (ls : Array Slot), va_P g.2.1 pj_cl (pj_ws g o.2) H → va_S (pj_A g) s.heap H locs → decode cc pc = .ok (pj_ri ret, 1) → n0 ≤ pj_n o.2 → pj_ok ph o.2 → pj_okr ret (pj_n o.2) o.1 →
    W p l e R s m args below meth c H locs (pj_n o.2 - n0) (pj_sl (pj_n o.2) - pj_sl n0) Q (F0 m pc ls ((o.1.map (pj_enc g)).toList)))
def pj_M (l : Launch) (y : MethodName) (cc : ByteArray) (nL : Nat) (ret : Option FieldType) (fr lo : Nat) (ph : Bool) (g : pj_G) (n0 : Nat) (o : Option pj_V × pj_W) (Go : pj_C → Prop) : Prop :=
  (∃ (p : Program) (e : Env) (R : Room) (s : State) (m : MethodId) (args : Array Value) (below : List Frame) (meth : Method) (c : Code) (Q : State → Prop), pj_Cx l y cc nL ret fr lo ph g n0 o p e R s m args below meth c Q ∧ Go = pj_Go ph g n0 nL ret o p l e R s m args below meth c Q) ∨ Go = pj_GoP ph ret o
/-- a tree's answer comes with the machine's way to it -/
def pj_TG {τ : Type} (R : τ → Prop) (t : Option τ) (G : Prop) : Prop := ∀ x, t = some x → R x → G
section
variable {l : Launch} {y : MethodName} {cc : ByteArray} {nL : Nat} {ret : Option FieldType} {fr lo : Nat} {ph : Bool} {g : pj_G} {n0 : Nat} {o : Option pj_V × pj_W} {Go : pj_C → Prop} {pc : Nat} {lls st : List pj_V} {w : pj_W}
/-- an instruction that leaves heap and locals -/
theorem pj_step (hM : pj_M l y cc nL ret fr lo ph g n0 o Go) {pc' : Nat} {st' : List pj_V} (hok : (∀ v ∈ lls, pj_okv (pj_n w) v) → (∀ v ∈ st, pj_okv (pj_n w) v) → ∀ v ∈ st', pj_okv (pj_n w) v)
    (hW : ∀ (p : Program) (e : Env) (R : Room) (s : State) (m : MethodId) (args : Array Value) (below : List Frame) (meth : Method) (c : Code) (Q : State → Prop) (H : Heap) (locs : List Loc) (cells slots : Nat) (ls : Array Slot), p.tables.exec = Jvm.exec → c.code = cc → s.vm.findClass y.cls = some m.cls → (∀ w ∈ pj_T, w.before args s = true) → pj_lr g nL lls ls → (∀ v ∈ st, pj_okv (pj_n w) v) →
      W p l e R s m args below meth c H locs cells slots Q (F0 m pc' ls (st'.map (pj_enc g))) → W p l e R s m args below meth c H locs cells slots Q (F0 m pc ls (st.map (pj_enc g))))
    (k : Go (pc', lls, st', w)) : Go (pc, lls, st, w) := by
  rcases hM with ⟨p, e, R, s, m, args, below, meth, c, Q, C, rfl⟩ | rfl
  case inr => exact fun h1 h2 h3 => k h1 h2 (hok h2 h3)
  intro h1 h2 h3
  obtain ⟨k1, k2⟩ := k h1 h2 (hok h2 h3)
  exact ⟨k1, fun hn H locs ls hP hl hS => hW p e R s m args below meth c Q H locs _ _ ls C.1 C.2.1 C.2.2.2.1 C.2.2.2.2.1 hl h3 (k2 hn H locs ls hP hl hS)⟩
theorem pj_e0 (g : pj_G) (z : Int) : pj_enc g (0, z) = .int (Int32.ofInt z) := rfl
theorem pj_e1 (g : pj_G) (z : Int) : pj_enc g (1, z) = .long (Int64.ofInt z) := rfl
theorem pj_ok0 (n : Nat) (z : Int) : pj_okv n (0, z) ↔ -2147483648 ≤ z ∧ z < 2147483648 := Iff.rfl
theorem pj_ok1 (n : Nat) (z : Int) : pj_okv n (1, z) ↔ -9223372036854775808 ≤ z ∧ z < 9223372036854775808 := Iff.rfl
theorem pj_okw (n : Nat) (z : Int) : pj_okv n (0, pj_wr z) := pj_wr_in z
theorem pj_okwl (n : Nat) (z : Int) : pj_okv n (1, pj_wl z) := pj_wl_in z
theorem pj_t32 {z : Int} (h : -2147483648 ≤ z ∧ z < 2147483648) : (Int32.ofInt z).toInt = z := Int32.toInt_ofInt_of_le (by omega) (by omega)
theorem pj_t64 {z : Int} (h : -9223372036854775808 ≤ z ∧ z < 9223372036854775808) : (Int64.ofInt z).toInt = z := Int64.toInt_ofInt_of_le (by omega) (by omega)
theorem pj_iload_n (hM : pj_M l y cc nL ret fr lo ph g n0 o Go) {k : Fin 4} {z : Int} (hd : decode cc pc = .ok (.iload_n k, 1)) (hl : lls[(k : Nat)]? = some (0, z)) (kk : Go (pc + 1, lls, (0, z) :: st, w)) : Go (pc, lls, st, w) :=
  pj_step hM (fun h1 h2 => List.forall_mem_cons.mpr ⟨h1 _ (List.mem_of_getElem? hl), h2⟩) (fun p e R s m args below meth c Q H locs cells slots ls hx hb ho ht hr hs h => lv_iload_n hx hb hd rfl (hr.2.2 _ _ hl (Nat.ne_of_beq_eq_false rfl)) h) kk
theorem pj_iload (hM : pj_M l y cc nL ret fr lo ph g n0 o Go) {i : Nat} {z : Int} (hd : decode cc pc = .ok (.iload i, 2)) (hl : lls[i]? = some (0, z)) (kk : Go (pc + 2, lls, (0, z) :: st, w)) : Go (pc, lls, st, w) :=
  pj_step hM (fun h1 h2 => List.forall_mem_cons.mpr ⟨h1 _ (List.mem_of_getElem? hl), h2⟩) (fun p e R s m args below meth c Q H locs cells slots ls hx hb ho ht hr hs h => lv_iload hx hb hd (hr.2.2 _ _ hl (Nat.ne_of_beq_eq_false rfl)) h) kk
theorem pj_lload_n (hM : pj_M l y cc nL ret fr lo ph g n0 o Go) {k : Fin 4} {z : Int} (hd : decode cc pc = .ok (.lload_n k, 1)) (hl : lls[(k : Nat)]? = some (1, z)) (kk : Go (pc + 1, lls, (1, z) :: st, w)) : Go (pc, lls, st, w) :=
  pj_step hM (fun h1 h2 => List.forall_mem_cons.mpr ⟨h1 _ (List.mem_of_getElem? hl), h2⟩) (fun p e R s m args below meth c Q H locs cells slots ls hx hb ho ht hr hs h => lv_lload_n hx hb hd rfl (hr.2.2 _ _ hl (Nat.ne_of_beq_eq_false rfl)) h) kk
theorem pj_lload (hM : pj_M l y cc nL ret fr lo ph g n0 o Go) {i : Nat} {z : Int} (hd : decode cc pc = .ok (.lload i, 2)) (hl : lls[i]? = some (1, z)) (kk : Go (pc + 2, lls, (1, z) :: st, w)) : Go (pc, lls, st, w) :=
  pj_step hM (fun h1 h2 => List.forall_mem_cons.mpr ⟨h1 _ (List.mem_of_getElem? hl), h2⟩) (fun p e R s m args below meth c Q H locs cells slots ls hx hb ho ht hr hs h => lv_lload hx hb hd (hr.2.2 _ _ hl (Nat.ne_of_beq_eq_false rfl)) h) kk
theorem pj_er (g : pj_G) {k : Nat} (hk : 10 ≤ k) (z : Int) : pj_enc g (k, z) = if z < 0 then .null else .ref (g.1.1 + pj_ad k z) := by
  unfold pj_enc
  simp only [show ¬ k = 0 by omega, show ¬ k = 1 by omega, show ¬ k = 3 by omega, show ¬ (k = 8 ∧ g.2.2.2.2 9 = 0) by omega, show ¬ k < 10 by omega, if_false]
theorem pj_erc (g : pj_G) {k : Nat} (hk : 2 ≤ k) (z : Int) : pj_enc g (k, z) = .null ∨ ∃ a, pj_enc g (k, z) = .ref a := by
  unfold pj_enc
  simp only [show ¬ k = 0 by omega, show ¬ k = 1 by omega, if_false]
  split
  · exact Or.inr ⟨_, rfl⟩
  · split
    · exact Or.inl rfl
    · split
      · exact Or.inr ⟨_, rfl⟩
      · split
        · exact Or.inl rfl
        · exact Or.inr ⟨_, rfl⟩
theorem pj_aload_n (hM : pj_M l y cc nL ret fr lo ph g n0 o Go) {k : Fin 4} {t : Nat} {z : Int} (hd : decode cc pc = .ok (.aload_n k, 1)) (hl : lls[(k : Nat)]? = some (t, z)) (ht : Nat.ble 2 t && !(Nat.beq t 9) = true) (kk : Go (pc + 1, lls, (t, z) :: st, w)) : Go (pc, lls, st, w) := by
  have h2 : 2 ≤ t := by
    have := (Bool.and_eq_true _ _).mp ht
    exact Nat.le_of_ble_eq_true this.1
  have h9 : t ≠ 9 := by rintro rfl; simp at ht
  refine pj_step hM (fun h1 h2 => List.forall_mem_cons.mpr ⟨h1 _ (List.mem_of_getElem? hl), h2⟩) (fun p e R s m args below meth c Q H locs cells slots ls hx hb ho ht hr hs h => ?_) kk
  have hz := hr.2.2 _ _ hl h9
  rcases pj_erc g h2 z with e1 | ⟨a, e1⟩
  · simp only [List.map_cons, e1] at h hz ⊢
    exact lv_aload_nN hx hb hd rfl hz h
  · simp only [List.map_cons, e1] at h hz ⊢
    exact lv_aload_n hx hb hd rfl hz h
theorem pj_aload (hM : pj_M l y cc nL ret fr lo ph g n0 o Go) {i t : Nat} {z : Int} (hd : decode cc pc = .ok (.aload i, 2)) (hl : lls[i]? = some (t, z)) (ht : Nat.ble 2 t && !(Nat.beq t 9) = true) (kk : Go (pc + 2, lls, (t, z) :: st, w)) : Go (pc, lls, st, w) := by
  have h2 : 2 ≤ t := by
    have := (Bool.and_eq_true _ _).mp ht
    exact Nat.le_of_ble_eq_true this.1
  have h9 : t ≠ 9 := by rintro rfl; simp at ht
  refine pj_step hM (fun h1 h2 => List.forall_mem_cons.mpr ⟨h1 _ (List.mem_of_getElem? hl), h2⟩) (fun p e R s m args below meth c Q H locs cells slots ls hx hb ho ht hr hs h => ?_) kk
  have hz := hr.2.2 _ _ hl h9
  rcases pj_erc g h2 z with e1 | ⟨a, e1⟩
  · simp only [List.map_cons, e1] at h hz ⊢
    exact lv_aloadN hx hb hd hz h
  · simp only [List.map_cons, e1] at h hz ⊢
    exact lv_aload hx hb hd hz h
end
