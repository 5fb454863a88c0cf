/-! ROWS of the two texts: String's own methods over them -/
/-- the byte at a place of a text -/
def pj_sb (i : Nat) (j : Int) : Int := ((pj_byt.getD i []).getD j.toNat 0).toInt
theorem pj_sb_in (i : Nat) (j : Int) : -2147483648 ≤ pj_sb i j ∧ pj_sb i j < 2147483648 := pj_in32 _
theorem pj_sb_of (i : Nat) (j : Int) : Int32.ofInt (pj_sb i j) = (pj_byt.getD i []).getD j.toNat 0 := Int32.ofInt_toInt _
section
variable {l : Launch} {y : MethodName} {cc : ByteArray} {nL : Nat} {ret : Option FieldType} {fr lo : Nat} {ph : Bool} {g : pj_G} {n0 : Nat} {o : Option pj_V × pj_W} {Go : pj_C → Prop} {pc : Nat} {lls st stk : List pj_V} {w w' : pj_W} {idx : Nat}
theorem pj_stepK (hM : pj_M l y cc nL ret fr lo ph g n0 o Go) {pc' : Nat} {st' : List pj_V} (hok : (∀ v ∈ st, pj_okv (pj_n w) v) → ∀ v ∈ st', pj_okv (pj_n w) v)
    (hW : ∀ (p : Program) (e : Env) (R : Room) (s : State) (m : MethodId) (args : Array Value) (below : List Frame) (meth : Method) (c : Code) (Q : State → Prop) (H : Heap) (locs : List Loc) (cells slots : Nat) (ls : Array Slot), p.tables.exec = Jvm.exec → c.code = cc → s.vm.findClass y.cls = some m.cls → (∀ w ∈ pj_T, w.before args s = true) → pj_K g s → va_S (pj_A g) s.heap H locs → (∀ a : Nat, a < g.1.2.size → ¬ pj_A g a → s.heap[a]? = g.1.2[a]?) → (∀ v ∈ st, pj_okv (pj_n w) v) →
      W p l e R s m args below meth c H locs cells slots Q (F0 m pc' ls (st'.map (pj_enc g))) → W p l e R s m args below meth c H locs cells slots Q (F0 m pc ls (st.map (pj_enc g))))
    (k : Go (pc', lls, st', w)) : Go (pc, lls, st, w) := by
  rcases hM with ⟨p, e, R, s, m, args, below, meth, c, Q, C, rfl⟩ | rfl
  case inr => exact fun h1 h2 h3 => k h1 h2 (hok h3)
  intro h1 h2 h3
  obtain ⟨k1, k2⟩ := k h1 h2 (hok h3)
  refine ⟨k1, fun hn H locs ls hP hl hS => ?_⟩
  obtain ⟨hx, hb, hml, hown, hts, hnm, hK, hfr, hlo, hcl, hsl, hsz, hg, hlow, -⟩ := C
  exact hW p e R s m args below meth c Q H locs _ _ ls hx hb hown hts hK hS (fun a ha _ => hlow a (by rw [hg] at ha; exact ha)) h3 (k2 hn H locs ls hP hl hS)
theorem pj_ldcS4 (hM : pj_M l y cc nL ret fr lo ph g n0 o Go) (hd : decode cc pc = .ok (.ldc 178, 2)) (hy : y.cls = RX12) (kk : Go (pc + 2, lls, (4, 0) :: st, w)) : Go (pc, lls, st, w) :=
  pj_stepK hM (st' := (4, 0) :: st) (fun h => List.forall_mem_cons.mpr ⟨trivial, h⟩) (fun p e R s m args below meth c Q H locs cells slots ls hx hb ho hts hK hS hlow h3 h => va_ldcS hx hb ho (hy ▸ hK.2.2.2.1.1) hd h) kk
theorem pj_ldcS5 (hM : pj_M l y cc nL ret fr lo ph g n0 o Go) (hd : decode cc pc = .ok (.ldc 38, 2)) (hy : y.cls = RX7) (kk : Go (pc + 2, lls, (5, 0) :: st, w)) : Go (pc, lls, st, w) :=
  pj_stepK hM (st' := (5, 0) :: st) (fun h => List.forall_mem_cons.mpr ⟨trivial, h⟩) (fun p e R s m args below meth c Q H locs cells slots ls hx hb ho hts hK hS hlow h3 h => va_ldcS hx hb ho (hy ▸ hK.2.2.2.1.2) hd h) kk
theorem pj_str_at {g : pj_G} {s : State} (hK : pj_K g s) (hlow : ∀ a : Nat, a < g.1.2.size → ¬ pj_A g a → s.heap[a]? = g.1.2[a]?) : vk_S 2 pj_len pj_byt (fun i => g.2.2.2.2 (4 + i)) (fun i => g.2.2.2.2 (6 + i)) (pj_A g) s s.heap := hK.2.2.2.2.1.kept hlow
/-- a text's bytes, its coder -/
theorem pj_gsV (hM : pj_M l y cc nL ret fr lo ph g n0 o Go) (i : Nat) (hi : i < 2) (hd : decode cc pc = .ok (.getfield idx, 3)) (hl : Cond.fieldLink y.cls idx "java/lang/String" "value" "[B" ∈ pj_T) {t t2 : Nat} (ht : t = 4 + i) (ht2 : t2 = 6 + i) (kk : Go (pc + 3, lls, (t2, 0) :: st, w)) : Go (pc, lls, (t, 0) :: st, w) := by
  subst ht; subst ht2
  refine pj_stepK hM (st' := (6 + i, 0) :: st) (fun h => List.forall_mem_cons.mpr ⟨?_, fun v hv => h v (List.mem_cons_of_mem _ hv)⟩) (fun p e R s m args below meth c Q H locs cells slots ls hx hb ho hts hK hS hlow h3 h => ?_) kk
  · unfold pj_okv; rw [if_neg (by show ¬ 6 + i = 0; omega), if_neg (by show ¬ 6 + i = 1; omega), if_pos (by show 6 + i < 10; omega)]; trivial
  · have e1 : pj_enc g (4 + i, 0) = .ref (g.2.2.2.2 (4 + i)) := by
      unfold pj_enc
      simp only [show ¬ 4 + i = 0 by omega, show ¬ 4 + i = 1 by omega, show ¬ 4 + i = 3 by omega, show ¬ (4 + i = 8 ∧ g.2.2.2.2 9 = 0) by omega, show 4 + i < 10 by omega, if_false, if_true]
    have e2 : pj_enc g (6 + i, 0) = .ref (g.2.2.2.2 (6 + i)) := by
      unfold pj_enc
      simp only [show ¬ 6 + i = 0 by omega, show ¬ 6 + i = 1 by omega, show ¬ 6 + i = 3 by omega, show ¬ (6 + i = 8 ∧ g.2.2.2.2 9 = 0) by omega, show 6 + i < 10 by omega, if_false, if_true]
    simp only [List.map_cons, e1, e2] at h ⊢
    exact vk_getf hx hb ((pj_str_at hK hlow).1 i hi).2.2.1 hS ho (hts _ hl) (fun x h9 => h9) hd h
theorem pj_gsC (hM : pj_M l y cc nL ret fr lo ph g n0 o Go) (i : Nat) (hi : i < 2) (hd : decode cc pc = .ok (.getfield idx, 3)) (hl : Cond.fieldLink y.cls idx "java/lang/String" "coder" "B" ∈ pj_T) {t : Nat} (ht : t = 4 + i) (kk : Go (pc + 3, lls, (0, 0) :: st, w)) : Go (pc, lls, (t, 0) :: st, w) := by
  subst ht
  refine pj_stepK hM (st' := (0, 0) :: st) (fun h => List.forall_mem_cons.mpr ⟨by constructor <;> decide, fun v hv => h v (List.mem_cons_of_mem _ hv)⟩) (fun p e R s m args below meth c Q H locs cells slots ls hx hb ho hts hK hS hlow h3 h => ?_) kk
  have e1 : pj_enc g (4 + i, 0) = .ref (g.2.2.2.2 (4 + i)) := by
    unfold pj_enc
    simp only [show ¬ 4 + i = 0 by omega, show ¬ 4 + i = 1 by omega, show ¬ 4 + i = 3 by omega, show ¬ (4 + i = 8 ∧ g.2.2.2.2 9 = 0) by omega, show 4 + i < 10 by omega, if_false, if_true]
  simp only [List.map_cons, e1]
  exact vk_getf hx hb ((pj_str_at hK hlow).1 i hi).2.1 hS ho (hts _ hl) (fun x h9 => h9) hd h
theorem pj_e6 {g : pj_G} {i : Nat} (hi : i < 2) : pj_enc g (6 + i, 0) = .ref (g.2.2.2.2 (6 + i)) := by
  unfold pj_enc
  simp only [show ¬ 6 + i = 0 by omega, show ¬ 6 + i = 1 by omega, show ¬ 6 + i = 3 by omega, show ¬ (6 + i = 8 ∧ g.2.2.2.2 9 = 0) by omega, show 6 + i < 10 by omega, if_false, if_true]
theorem pj_sal (hM : pj_M l y cc nL ret fr lo ph g n0 o Go) (i : Nat) (hi : i < 2) (hd : decode cc pc = .ok (.arraylength, 1)) {t : Nat} (ht : t = 6 + i) {n : Int} (hn : n = pj_len.getD i 0) (kk : Go (pc + 1, lls, (0, n) :: st, w)) : Go (pc, lls, (t, 0) :: st, w) := by
  subst ht; subst hn
  have hsm : ∀ i, i < 2 → pj_len.getD i 0 < 1000 := by decide
  have := hsm i hi
  refine pj_stepK hM (st' := (0, ((pj_len.getD i 0 : Nat) : Int)) :: st) (fun h => List.forall_mem_cons.mpr ⟨by show -2147483648 ≤ ((pj_len.getD i 0 : Nat) : Int) ∧ ((pj_len.getD i 0 : Nat) : Int) < 2147483648; omega, fun v hv => h v (List.mem_cons_of_mem _ hv)⟩) (fun p e R s m args below meth c Q H locs cells slots ls hx hb ho hts hK hS hlow h3 h => ?_) kk
  simp only [List.map_cons, pj_e6 hi]
  exact va_tlen hx hb ((pj_str_at hK hlow).1 i hi).2.2.2 hS rfl hd h
theorem pj_sbl (hM : pj_M l y cc nL ret fr lo ph g n0 o Go) (i : Nat) (hi : i < 2) (hd : decode cc pc = .ok (.baload, 1)) {t : Nat} (ht : t = 6 + i) {n : Nat} (hn : n = pj_len.getD i 0) {j : Int} (hj : 0 ≤ j ∧ j < n) (kk : Go (pc + 1, lls, (0, pj_sb i j) :: st, w)) : Go (pc, lls, (0, j) :: (t, 0) :: st, w) := by
  subst ht; subst hn
  have hsm : ∀ i, i < 2 → pj_len.getD i 0 < 1000 := by decide
  have := hsm i hi
  refine pj_stepK hM (st' := (0, pj_sb i j) :: st) (fun h => List.forall_mem_cons.mpr ⟨pj_sb_in i j, fun v hv => h v (List.mem_cons_of_mem _ (List.mem_cons_of_mem _ hv))⟩) (fun p e R s m args below meth c Q H locs cells slots ls hx hb ho hts hK hS hlow h3 h => ?_) kk
  simp only [List.map_cons, pj_e6 hi]
  have hv := pj_inv hj (by omega)
  refine va_tb hx hb ((pj_str_at hK hlow).1 i hi).2.2.2 hS hv.1 (v := .int (Int32.ofInt (pj_sb i j))) ?_ hd h
  rw [hv.2, pj_sb_of]
theorem pj_gcs (hM : pj_M l y cc nL ret fr lo ph g n0 o Go) (hd : decode cc pc = .ok (.getstatic idx, 3)) (hl : Cond.fieldLink y.cls idx "java/lang/String" "COMPACT_STRINGS" "Z" ∈ pj_T) (kk : Go (pc + 3, lls, (0, 1) :: st, w)) : Go (pc, lls, st, w) :=
  pj_stepK hM (st' := (0, 1) :: st) (fun h => List.forall_mem_cons.mpr ⟨by constructor <;> decide, h⟩) (fun p e R s m args below meth c Q H locs cells slots ls hx hb ho hts hK hS hlow h3 h => va_gets hx hb (hK.2.2.2.2.2.1.kept hlow) hS ho (hts _ hl) (fun x h9 => h9) hd h) kk
theorem pj_gsf (hM : pj_M l y cc nL ret fr lo ph g n0 o Go) (hd : decode cc pc = .ok (.getstatic idx, 3)) (hl : Cond.fieldLink y.cls idx "jdk/internal/util/Preconditions" "SIOOBE_FORMATTER" "Ljava/util/function/BiFunction;" ∈ pj_T) (kk : Go (pc + 3, lls, (8, 0) :: st, w)) : Go (pc, lls, st, w) := by
  refine pj_stepK hM (st' := (8, 0) :: st) (fun h => List.forall_mem_cons.mpr ⟨trivial, h⟩) (fun p e R s m args below meth c Q H locs cells slots ls hx hb ho hts hK hS hlow h3 h => va_gets hx hb (hK.2.2.2.2.2.2.kept hlow) hS ho (hts _ hl) (fun x h9 => h9) hd ?_) kk
  have e1 : pj_enc g (8, 0) = if g.2.2.2.2 9 = 0 then .null else .ref (g.2.2.2.2 8) := by
    unfold pj_enc
    simp
  simp only [List.map_cons, e1] at h
  exact h
theorem pj_i2c (hM : pj_M l y cc nL ret fr lo ph g n0 o Go) {a : Int} (hd : decode cc pc = .ok (.i2c, 1)) (kk : Go (pc + 1, lls, (0, a % 65536) :: st, w)) : Go (pc, lls, (0, a) :: st, w) :=
  pj_step hM (pc' := pc + 1) (st' := (0, a % 65536) :: st) (fun h1 h2 => List.forall_mem_cons.mpr ⟨by show -2147483648 ≤ a % 65536 ∧ a % 65536 < 2147483648; omega, fun v hv => h2 v (List.mem_cons_of_mem _ hv)⟩) (fun p e R s m args below meth c Q H locs cells slots ls hx hb ho ht hr hs h => lv_i2c hx hb hd (v := Int32.ofInt (a % 65536)) (by
    have q := hs _ List.mem_cons_self
    rw [pj_ok0] at q
    have q2 := pk_char (Int32.ofInt a)
    rw [show ((0, a) : pj_V).2 = a from rfl, q2]
    have q3 : ((Int32.ofInt a).toBitVec.toNat : Int) = a % 4294967296 := by
      have q4 : (Int32.ofInt a).toBitVec = BitVec.ofInt 32 a := rfl
      rw [q4, BitVec.toNat_ofInt, Int.toNat_of_nonneg (by omega)]
      rfl
    show Int32.ofNat _ = _
    rw [← Int32.ofInt_eq_ofNat]
    congr 1
    omega) h) kk
/-- of a text, by its own name -/
theorem pj_cT (hM : pj_M l y cc nL ret fr lo ph g n0 o Go) (i : Nat) (hi : i < 2) {y2 : MethodName} {cc2 : ByteArray} {nL2 : Nat} {ret2 : Option FieldType} {fr2 lo2 n : Nat} {v : pj_V} {as : List pj_V} {t : Nat} (ht : t = 4 + i) (hC : pj_Cn l y2 cc2 nL2 ret2 fr2 lo2 ph g ((t, 0) :: as) w (some v, w')) (hd : decode cc pc = .ok (.invokevirtual idx, 3)) (hF : pj_MF y2 cc2 nL2 ret2 n) (hV : Cond.instanceMethod y2 ∈ pj_T ∧ Cond.selects y2.cls y2 y2 ∈ pj_T) (hl : Cond.methodLink y.cls idx y2 ∈ pj_T) (hk : y2.cls = "java/lang/String")
    (hr : (Nat.ble (fr2 + 1) fr && Nat.ble (19 + nL2 + lo2) lo) = true) (hn : as.length = n) (hs : stk = as.reverse ++ (t, 0) :: st) (hst : Nat.ble ((st.map fun v => if v.1 = 1 then 2 else 1).sum) 8 = true) (kk : Go (pc + 3, lls, v :: st, w')) : Go (pc, lls, stk, w) := by
  subst ht
  have e1 : pj_enc g (4 + i, 0) = .ref (g.2.2.2.2 (4 + i)) := by
    unfold pj_enc
    simp only [show ¬ 4 + i = 0 by omega, show ¬ 4 + i = 1 by omega, show ¬ 4 + i = 3 by omega, show ¬ (4 + i = 8 ∧ g.2.2.2.2 9 = 0) by omega, show 4 + i < 10 by omega, if_false, if_true]
  refine pj_call hM hC (fun v hv => by rw [hs]; rcases List.mem_cons.mp hv with rfl | hv; exact List.mem_append_right _ List.mem_cons_self; exact List.mem_append_left _ (List.mem_reverse.mpr hv)) (fun v hv => by rw [hs]; exact List.mem_append_right _ (List.mem_cons_of_mem _ hv)) (fun p e R s m args below meth c H locs cells slots ls hx hb hml hls ho hts hK hfr hlo hP hok h1 hS hlow hPc hMet hf => ?_) kk
  have em : ((4 + i, 0) :: as).map (pj_enc g) = Value.ref (g.2.2.2.2 (4 + i)) :: as.map (pj_enc g) := by rw [List.map_cons, e1]
  rw [em] at hPc hMet ⊢
  exact va_runV (y := y2) (bytes := cc2) (maxL := nL2) (ret := ret2) (n := n) (nL := nL) (Ts := pj_T) (own := y.cls) ⟨hx, hb, hml, ho, hts⟩ hMet ⟨pj_CB hts hF hl (pj_room hr hfr hlo), hts _ hV.1, hts _ hV.2⟩ ⟨pj_blind, by rw [hk]; exact vk_recv (i := i) (adK := fun i => g.2.2.2.2 (4 + i)) (pj_str_at hK hlow) hi hS, hPc⟩ rfl (by simpa using hn) hls (by
    show stk.map (pj_enc g) = (as.map (pj_enc g)).reverse ++ _ :: _
    rw [pj_stkm hs, List.map_cons, e1]) (by
    show 2 * 0 + _ ≤ 8
    have := pj_cats g st hst
    omega) hd hf
end
