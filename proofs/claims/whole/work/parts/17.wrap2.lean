/-! ROWS of calls as the printing program uses them; a name for a number or a world -/
theorem pj_tlet {τ α : Type} {R : τ → Prop} {a : α} {T : α → Option τ} (G : α → Prop) (h : ∀ x, pj_TG R (T x) (G x)) : pj_TG R ((some a).bind T) (G a) := h a
section
variable {l : Launch} {y : MethodName} {cc : ByteArray} {nL : Nat} {ret : Option FieldType} {fr lo : Nat} {ph : Bool} {g : pj_G} {n0 : Nat} {o : Option pj_V × pj_W} {Go : pj_C → Prop} {pc : Nat} {lls lls' st stk : List pj_V} {w w' : pj_W}
variable {y2 : MethodName} {cc2 : ByteArray} {nL2 : Nat} {ret2 : Option FieldType} {fr2 lo2 n idx : Nat} {v : pj_V}
theorem pj_cV (hM : pj_M l y cc nL ret fr lo ph g n0 o Go) {k : Nat} {i : Int} {as : List pj_V} (hC : pj_Cn l y2 cc2 nL2 ret2 fr2 lo2 ph g ((k, i) :: as) w (some v, w')) (hd : decode cc pc = .ok (.invokevirtual idx, 3)) (hF : pj_MF y2 cc2 nL2 ret2 n) (hV : Cond.instanceMethod y2 ∈ pj_T ∧ Cond.selects y2.cls y2 y2 ∈ pj_T) (hl : Cond.methodLink y.cls idx y2 ∈ pj_T) (hk : 10 ≤ k ∧ pj_so k = 0 ∧ ∃ T N, pj_cl[pj_ci k]? = some (y2.cls, T, N))
    (hr : (Nat.ble (fr2 + 1) fr && Nat.ble (19 + nL2 + lo2) lo) = true) (hn : as.length = n) (hi : 0 ≤ i) (hs : stk = as.reverse ++ (k, i) :: st) (hst : Nat.ble ((st.map fun v => if v.1 = 1 then 2 else 1).sum) 8 = true) (kk : Go (pc + 3, lls, v :: st, w')) : Go (pc, lls, stk, w) := pj_callV hM hC hd hF hV hl hk hr hn hi hs hst kk
theorem pj_cVv (hM : pj_M l y cc nL ret fr lo ph g n0 o Go) {k : Nat} {i : Int} {as : List pj_V} (hC : pj_Cn l y2 cc2 nL2 ret2 fr2 lo2 ph g ((k, i) :: as) w (none, w')) (hd : decode cc pc = .ok (.invokevirtual idx, 3)) (hF : pj_MF y2 cc2 nL2 ret2 n) (hV : Cond.instanceMethod y2 ∈ pj_T ∧ Cond.selects y2.cls y2 y2 ∈ pj_T) (hl : Cond.methodLink y.cls idx y2 ∈ pj_T) (hk : 10 ≤ k ∧ pj_so k = 0 ∧ ∃ T N, pj_cl[pj_ci k]? = some (y2.cls, T, N))
    (hr : (Nat.ble (fr2 + 1) fr && Nat.ble (19 + nL2 + lo2) lo) = true) (hn : as.length = n) (hi : 0 ≤ i) (hs : stk = as.reverse ++ (k, i) :: st) (hst : Nat.ble ((st.map fun v => if v.1 = 1 then 2 else 1).sum) 8 = true) (kk : Go (pc + 3, lls, st, w')) : Go (pc, lls, stk, w) := pj_callV hM hC hd hF hV hl hk hr hn hi hs hst kk
theorem pj_cS (hM : pj_M l y cc nL ret fr lo ph g n0 o Go) {as : List pj_V} (hC : pj_Cn l y2 cc2 nL2 ret2 fr2 lo2 ph g as w (some v, w')) (hd : decode cc pc = .ok (.invokestatic idx, 3)) (hF : pj_MF y2 cc2 nL2 ret2 n) (hV : Cond.static y2 ∈ pj_T) (hl : Cond.methodLink y.cls idx y2 ∈ pj_T)
    (hr : (Nat.ble (fr2 + 1) fr && Nat.ble (19 + nL2 + lo2) lo) = true) (hn : as.length = n) (hs : stk = as.reverse ++ st) (hst : Nat.ble ((st.map fun v => if v.1 = 1 then 2 else 1).sum) 8 = true) (kk : Go (pc + 3, lls, v :: st, w')) : Go (pc, lls, stk, w) := pj_callS hM hC hd hF hV hl hr hn hs hst kk
theorem pj_cSv (hM : pj_M l y cc nL ret fr lo ph g n0 o Go) {as : List pj_V} (hC : pj_Cn l y2 cc2 nL2 ret2 fr2 lo2 ph g as w (none, w')) (hd : decode cc pc = .ok (.invokestatic idx, 3)) (hF : pj_MF y2 cc2 nL2 ret2 n) (hV : Cond.static y2 ∈ pj_T) (hl : Cond.methodLink y.cls idx y2 ∈ pj_T)
    (hr : (Nat.ble (fr2 + 1) fr && Nat.ble (19 + nL2 + lo2) lo) = true) (hn : as.length = n) (hs : stk = as.reverse ++ st) (hst : Nat.ble ((st.map fun v => if v.1 = 1 then 2 else 1).sum) 8 = true) (kk : Go (pc + 3, lls, st, w')) : Go (pc, lls, stk, w) := pj_callS hM hC hd hF hV hl hr hn hs hst kk
end
def pj_abs (a : Int) : Int := if a < 0 then pj_wr (-a) else a
section
variable {l : Launch} {y : MethodName} {cc : ByteArray} {nL : Nat} {ret : Option FieldType} {fr lo : Nat} {ph : Bool} {g : pj_G} {n0 : Nat} {o : Option pj_V × pj_W} {Go : pj_C → Prop} {pc : Nat} {lls st stk : List pj_V} {w : pj_W} {idx : Nat}
/-- a call of Math's that leaves one number -/
theorem pj_math (hM : pj_M l y cc nL ret fr lo ph g n0 o Go) {z : Int} (hr : (Nat.ble 1 fr && Nat.ble ((st.map fun v => if v.1 = 1 then 2 else 1).sum + 13) lo) = true) (hsub : ∀ v ∈ st, v ∈ stk) (hz : (∀ v ∈ stk, pj_okv (pj_n w) v) → -2147483648 ≤ z ∧ z < 2147483648)
    (hW : ∀ (p : Program) (e : Env) (R : Room) (s : State) (m : MethodId) (args : Array Value) (below : List Frame) (meth : Method) (c : Code) (Q : State → Prop) (H : Heap) (locs : List Loc) (cells slots : Nat) (ls : Array Slot), p.tables.exec = Jvm.exec → c.code = cc → c.maxLocals = ls.size → s.vm.findClass y.cls = some m.cls → (∀ w ∈ pj_T, w.before args s = true) → 1 ≤ R.frames → (((st.map (pj_enc g)).map fun v => v.category).sum + 13 ≤ R.locals) → cells ≤ R.cells → slots ≤ R.slots → (∀ v ∈ stk, pj_okv (pj_n w) v) →
      W p l e R s m args below meth c H locs cells slots Q (F0 m (pc + 3) ls (.int (Int32.ofInt z) :: st.map (pj_enc g))) → W p l e R s m args below meth c H locs cells slots Q (F0 m pc ls (stk.map (pj_enc g))))
    (kk : Go (pc + 3, lls, (0, z) :: st, w)) : Go (pc, lls, stk, w) := by
  obtain ⟨r1, r2⟩ := (Bool.and_eq_true _ _).mp hr
  have r1 := Nat.le_of_ble_eq_true r1
  have r2 := Nat.le_of_ble_eq_true r2
  rcases hM with ⟨p, e, R, s, m, args, below, meth, c, Q, C, rfl⟩ | rfl
  · intro h1 h2 h3
    obtain ⟨k1, k2⟩ := kk h1 h2 (List.forall_mem_cons.mpr ⟨hz h3, fun v hv => h3 v (hsub v hv)⟩)
    refine ⟨k1, fun hn H locs ls hP hl hS => ?_⟩
    obtain ⟨hx, hb, hml, hown, hts, hnm, hK, hfr, hlo, hcl, hsl, -⟩ := C
    have q1 : pj_n w ≤ pj_n o.2 := k1.1
    have q2 := pj_sl_mono q1
    have q3 : pj_n w - n0 ≤ R.cells := by omega
    have q4 : pj_sl (pj_n w) - pj_sl n0 ≤ R.slots := by omega
    exact hW p e R s m args below meth c Q H locs _ _ ls hx hb (hml.trans hl.1.symm) hown hts (by omega) (by rw [pj_catq]; omega) q3 q4 h3 (k2 hn H locs ls hP hl hS)
  · exact fun h1 h2 h3 => kk h1 h2 (List.forall_mem_cons.mpr ⟨hz h3, fun v hv => h3 v (hsub v hv)⟩)
theorem pj_mmax (hM : pj_M l y cc nL ret fr lo ph g n0 o Go) {a b : Int} (hd : decode cc pc = .ok (.invokestatic idx, 3)) (hF : pj_MF yJ9_max_7cf53 cJ9_max_7cf53 2 (some .int) 2) (hV : Cond.static yJ9_max_7cf53 ∈ pj_T) (hl : Cond.methodLink y.cls idx yJ9_max_7cf53 ∈ pj_T) (hr : (Nat.ble 1 fr && Nat.ble ((st.map fun v => if v.1 = 1 then 2 else 1).sum + 13) lo) = true) (kk : Go (pc + 3, lls, (0, max a b) :: st, w)) : Go (pc, lls, (0, b) :: (0, a) :: st, w) := by
  refine pj_math hM hr (fun v hv => List.mem_cons_of_mem _ (List.mem_cons_of_mem _ hv)) (fun h => ?_) (fun p e R s m args below meth c Q H locs cells slots ls hx hb hml ho hts r1 r2 q3 q4 h3 h => ?_) kk
  · have h1 : -2147483648 ≤ b ∧ b < 2147483648 := h _ List.mem_cons_self
    have h2 : -2147483648 ≤ a ∧ a < 2147483648 := h _ (List.mem_cons_of_mem _ List.mem_cons_self)
    omega
  · have h1 : -2147483648 ≤ b ∧ b < 2147483648 := h3 _ List.mem_cons_self
    have h2 : -2147483648 ≤ a ∧ a < 2147483648 := h3 _ (List.mem_cons_of_mem _ List.mem_cons_self)
    refine va_mmax hx hb hml ho (hts _ hl) (hts _ hV) (hts _ hF.2.1) (hts _ hF.1) r1 r2 q3 q4 hd ?_
    have e1 : (if Int32.ofInt a < Int32.ofInt b then Int32.ofInt b else Int32.ofInt a) = Int32.ofInt (max a b) := by
      by_cases hc : a < b
      · rw [if_pos ((pj_lt32 h2 h1).mpr hc)]; congr 1; omega
      · rw [if_neg (fun q => hc ((pj_lt32 h2 h1).mp q))]; congr 1; omega
    rw [show (if Int32.ofInt ((0, a) : pj_V).2 < Int32.ofInt ((0, b) : pj_V).2 then Int32.ofInt ((0, b) : pj_V).2 else Int32.ofInt ((0, a) : pj_V).2) = Int32.ofInt (max a b) from e1]
    exact h
theorem pj_mmin (hM : pj_M l y cc nL ret fr lo ph g n0 o Go) {a b : Int} (hd : decode cc pc = .ok (.invokestatic idx, 3)) (hF : pj_MF yJ9_min_7cf53 cJ9_min_7cf53 2 (some .int) 2) (hV : Cond.static yJ9_min_7cf53 ∈ pj_T) (hl : Cond.methodLink y.cls idx yJ9_min_7cf53 ∈ pj_T) (hr : (Nat.ble 1 fr && Nat.ble ((st.map fun v => if v.1 = 1 then 2 else 1).sum + 13) lo) = true) (kk : Go (pc + 3, lls, (0, min a b) :: st, w)) : Go (pc, lls, (0, b) :: (0, a) :: st, w) := by
  refine pj_math hM hr (fun v hv => List.mem_cons_of_mem _ (List.mem_cons_of_mem _ hv)) (fun h => ?_) (fun p e R s m args below meth c Q H locs cells slots ls hx hb hml ho hts r1 r2 q3 q4 h3 h => ?_) kk
  · have h1 : -2147483648 ≤ b ∧ b < 2147483648 := h _ List.mem_cons_self
    have h2 : -2147483648 ≤ a ∧ a < 2147483648 := h _ (List.mem_cons_of_mem _ List.mem_cons_self)
    omega
  · have h1 : -2147483648 ≤ b ∧ b < 2147483648 := h3 _ List.mem_cons_self
    have h2 : -2147483648 ≤ a ∧ a < 2147483648 := h3 _ (List.mem_cons_of_mem _ List.mem_cons_self)
    refine va_mmin hx hb hml ho (hts _ hl) (hts _ hV) (hts _ hF.2.1) (hts _ hF.1) r1 r2 q3 q4 hd ?_
    have e1 : (if Int32.ofInt b < Int32.ofInt a then Int32.ofInt b else Int32.ofInt a) = Int32.ofInt (min a b) := by
      by_cases hc : b < a
      · rw [if_pos ((pj_lt32 h1 h2).mpr hc)]; congr 1; omega
      · rw [if_neg (fun q => hc ((pj_lt32 h1 h2).mp q))]; congr 1; omega
    rw [show (if Int32.ofInt ((0, b) : pj_V).2 < Int32.ofInt ((0, a) : pj_V).2 then Int32.ofInt ((0, b) : pj_V).2 else Int32.ofInt ((0, a) : pj_V).2) = Int32.ofInt (min a b) from e1]
    exact h
theorem pj_mabs (hM : pj_M l y cc nL ret fr lo ph g n0 o Go) {a : Int} (hd : decode cc pc = .ok (.invokestatic idx, 3)) (hF : pj_MF yJ9_abs_0f7a4 cJ9_abs_0f7a4 1 (some .int) 1) (hV : Cond.static yJ9_abs_0f7a4 ∈ pj_T) (hl : Cond.methodLink y.cls idx yJ9_abs_0f7a4 ∈ pj_T) (hr : (Nat.ble 1 fr && Nat.ble ((st.map fun v => if v.1 = 1 then 2 else 1).sum + 13) lo) = true) (kk : Go (pc + 3, lls, (0, pj_abs a) :: st, w)) : Go (pc, lls, (0, a) :: st, w) := by
  refine pj_math hM hr (fun v hv => List.mem_cons_of_mem _ hv) (fun h => ?_) (fun p e R s m args below meth c Q H locs cells slots ls hx hb hml ho hts r1 r2 q3 q4 h3 h => ?_) kk
  · have h2 : -2147483648 ≤ a ∧ a < 2147483648 := h _ List.mem_cons_self
    unfold pj_abs
    split
    · exact pj_wr_in _
    · exact h2
  · have h2 : -2147483648 ≤ a ∧ a < 2147483648 := h3 _ List.mem_cons_self
    refine va_mabs hx hb hml ho (hts _ hl) (hts _ hV) (hts _ hF.2.1) (hts _ hF.1) r1 r2 q3 q4 hd ?_
    have e1 : (if 0 ≤ Int32.ofInt a then Int32.ofInt a else 0 - Int32.ofInt a) = Int32.ofInt (pj_abs a) := by
      unfold pj_abs
      by_cases hc : a < 0
      · rw [if_neg (fun q => by have := (pj_le32 (a := 0) (b := a) (by decide) h2).mp q; omega), if_pos hc, pj_ofr, Int32.ofInt_neg, Int32.zero_sub]
      · rw [if_pos (show (0 : Int32) ≤ Int32.ofInt a from (pj_le32 (a := 0) (b := a) (by decide) h2).mpr (by omega)), if_neg hc]
    rw [show (if 0 ≤ Int32.ofInt ((0, a) : pj_V).2 then Int32.ofInt ((0, a) : pj_V).2 else 0 - Int32.ofInt ((0, a) : pj_V).2) = Int32.ofInt (pj_abs a) from e1]
    exact h
end
section
variable {l : Launch} {y : MethodName} {cc : ByteArray} {nL : Nat} {ret : Option FieldType} {fr lo : Nat} {g : pj_G} {n0 : Nat} {o : Option pj_V × pj_W} {Go : pj_C → Prop} {pc : Nat} {lls lls' st stk : List pj_V} {w w' : pj_W} {idx : Nat}
theorem pj_newZ (hM : pj_M l y cc nL ret fr lo false g n0 o Go) {k : Nat} {z : Int} {C : String} {T : u_T} (hd : decode cc pc = .ok (.new idx, 3)) (hcl : Cond.classLink y.cls idx C ∈ pj_T) (hin : Cond.instantiable C (pj_sz k) ∈ pj_T) (hini : Cond.initialized C ∈ pj_T) (hso : pj_so k = 0) (hc : pj_cl[pj_ci k]? = some (C, T, pj_sz k)) (hty : ∀ j, j < pj_sz k → ∃ ty, parseFieldDescriptor (T j).2.2.1 = some ty ∧ pj_ty (pj_tg k j) ty) (h10 : 10 ≤ k) (hk : pj_nk w = k) (hz : pj_nx w = z) (kk : Go (pc + 3, lls, (k, z) :: st, pj_up w)) : Go (pc, lls, st, w) := by
  subst hz
  exact pj_new hM hd hcl hin hini hso hc hty h10 hk kk
theorem pj_newaZ (hM : pj_M l y cc nL ret fr lo false g n0 o Go) {k : Nat} {n z : Int} {at0 : ArrayType} (hd : decode cc pc = .ok (.newarray at0, 2)) (harr : Cond.arrayClass (newarray.typeOf at0) ∈ pj_T) (hso : (pj_so k = 1 ∧ newarray.typeOf at0 = .int ∧ pj_ci k = 0 ∧ ∀ s, pj_tg k s = 0) ∨ (pj_so k = 2 ∧ newarray.typeOf at0 = .byte ∧ pj_ci k = 1 ∧ ∀ s, pj_tg k s = 6) ∨ (pj_so k = 3 ∧ newarray.typeOf at0 = .long ∧ pj_ci k = 2 ∧ ∀ s, pj_tg k s = 1)) (hn : n = pj_sz k) (hb : pj_sz k ≤ 10000) (h10 : 10 ≤ k) (hk : pj_nk w = k) (hz : pj_nx w = z) (kk : Go (pc + 2, lls, (k, z) :: st, pj_up w)) : Go (pc, lls, (0, n) :: st, w) := by
  subst hz
  exact pj_newa hM hd harr hso hn hb h10 hk kk
theorem pj_anewZ (hM : pj_M l y cc nL ret fr lo false g n0 o Go) {k t : Nat} {n z : Int} {C : String} (hd : decode cc pc = .ok (.anewarray idx, 3)) (hcl : Cond.classLink y.cls idx C ∈ pj_T) (hC : C ∈ [RX9, RX2, RX0, RX5, RX4]) (hso : pj_so k = 4) (hci : (pj_tys g)[pj_ci k]? = some (g.2.2.1 (pj_ci k), .object C)) (ht : ∀ s, pj_tg k s = t) (ht2 : 10 ≤ t) (hn : n = pj_sz k) (hb : pj_sz k ≤ 10000) (h10 : 10 ≤ k) (hk : pj_nk w = k) (hz : pj_nx w = z) (kk : Go (pc + 3, lls, (k, z) :: st, pj_up w)) : Go (pc, lls, (0, n) :: st, w) := by
  subst hz
  exact pj_anew hM hd hcl hC hso hci ht ht2 hn hb h10 hk kk
end
