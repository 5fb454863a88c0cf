/-! ROWS of the kinds of call; of copies; of what makes cells -/
theorem pj_cats (g : pj_G) (st : List pj_V) (h : Nat.ble ((st.map fun v => if v.1 = 1 then 2 else 1).sum) 8 = true) : ((st.map (pj_enc g)).map fun v => v.category).sum ≤ 8 := by
  rw [List.map_map]
  have e : ((fun v : Value => v.category) ∘ pj_enc g) = fun v : pj_V => if v.1 = 1 then 2 else 1 := by
    funext v
    exact pj_cat2 g v
  rw [e]
  exact Nat.le_of_ble_eq_true h
theorem pj_catq (g : pj_G) (st : List pj_V) : ((st.map (pj_enc g)).map fun v => v.category).sum = (st.map fun v => if v.1 = 1 then 2 else 1).sum := by
  rw [List.map_map]
  have e : ((fun v : Value => v.category) ∘ pj_enc g) = fun v : pj_V => if v.1 = 1 then 2 else 1 := by
    funext v
    exact pj_cat2 g v
  rw [e]
section
variable {l : Launch} {y : MethodName} {cc : ByteArray} {nL : Nat} {ret : Option FieldType} {fr lo : Nat} {ph : Bool} {g : pj_G} {n0 : Nat} {o : Option pj_V × pj_W} {Go : pj_C → Prop} {pc : Nat} {lls lls' st stk : List pj_V} {w w' : pj_W}
variable {y2 : MethodName} {cc2 : ByteArray} {nL2 : Nat} {ret2 : Option FieldType} {fr2 lo2 n idx : Nat} {r : Option pj_V}
theorem pj_room {R : Room} {fr lo fr2 lo2 nL2 : Nat} (hr : (Nat.ble (fr2 + 1) fr && Nat.ble (19 + nL2 + lo2) lo) = true) (h1 : R.frames = fr) (h2 : R.locals = lo) : fr2 + 1 ≤ R.frames ∧ 8 + (nL2 + 11) + lo2 ≤ R.locals := by
  obtain ⟨a, b⟩ := (Bool.and_eq_true _ _).mp hr
  have a := Nat.le_of_ble_eq_true a
  have b := Nat.le_of_ble_eq_true b
  omega
theorem pj_stkm {g : pj_G} {as st : List pj_V} (h : stk = as.reverse ++ st) : stk.map (pj_enc g) = (as.map (pj_enc g)).reverse ++ st.map (pj_enc g) := by
  rw [h, List.map_append, List.map_reverse]
/-- of an instance, by its own name -/
theorem pj_callV (hM : pj_M l y cc nL ret fr lo ph g n0 o Go) {k : Nat} {i : Int} {as : List pj_V} (hC : pj_Cn l y2 cc2 nL2 ret2 fr2 lo2 ph g ((k, i) :: as) w (r, w')) (hd : decode cc pc = .ok (.invokevirtual idx, 3)) (hF : pj_MF y2 cc2 nL2 ret2 n) (hV : Cond.instanceMethod y2 ∈ pj_T ∧ Cond.selects y2.cls y2 y2 ∈ pj_T) (hl : Cond.methodLink y.cls idx y2 ∈ pj_T) (hk : 10 ≤ k ∧ pj_so k = 0 ∧ ∃ T N, pj_cl[pj_ci k]? = some (y2.cls, T, N))
    (hr : (Nat.ble (fr2 + 1) fr && Nat.ble (19 + nL2 + lo2) lo) = true) (hn : as.length = n) (hi : 0 ≤ i) (hs : stk = as.reverse ++ (k, i) :: st) (hst : Nat.ble ((st.map fun v => if v.1 = 1 then 2 else 1).sum) 8 = true) (kk : Go (pc + 3, lls, r.toList ++ st, w')) : Go (pc, lls, stk, w) := by
  refine pj_call hM hC (fun v hv => by rw [hs]; rcases List.mem_cons.mp hv with rfl | hv; exact List.mem_append_right _ List.mem_cons_self; exact List.mem_append_left _ (List.mem_reverse.mpr hv)) (fun v hv => by rw [hs]; exact List.mem_append_right _ (List.mem_cons_of_mem _ hv)) (fun p e R s m args below meth c H locs cells slots ls hx hb hml hls ho hts hK hfr hlo hP hok h1 hS hlow hPc hMet hf => ?_) kk
  obtain ⟨hk10, hso, T, N, hc⟩ := hk
  have ha := pj_alloc hk10 hi (hok (k, i) (by rw [hs]; exact List.mem_append_right _ List.mem_cons_self))
  have he := pj_ws_at (g := g) h1.1 ha
  rw [pj_cell_obj hso] at he
  have em : ((k, i) :: as).map (pj_enc g) = Value.ref (g.1.1 + pj_ad k i) :: as.map (pj_enc g) := by rw [List.map_cons, pj_cell_ref hk10 hi]
  rw [em] at hPc hMet ⊢
  exact va_runV (y := y2) (bytes := cc2) (maxL := nL2) (ret := ret2) (n := n) (nL := nL) (Ts := pj_T) (own := y.cls) ⟨hx, hb, hml, ho, hts⟩ hMet ⟨pj_CB hts hF hl (pj_room hr hfr hlo), hts _ hV.1, hts _ hV.2⟩ ⟨pj_blind, va_recv hK.1 hP hc he, hPc⟩ rfl (by simpa using hn) hls (by
    show stk.map (pj_enc g) = (as.map (pj_enc g)).reverse ++ _ :: _
    rw [pj_stkm hs, List.map_cons, pj_cell_ref hk10 hi]) (by
    show 2 * 0 + _ ≤ 8
    have := pj_cats g st hst
    omega) hd hf
/-- of a class -/
theorem pj_callS (hM : pj_M l y cc nL ret fr lo ph g n0 o Go) {as : List pj_V} (hC : pj_Cn l y2 cc2 nL2 ret2 fr2 lo2 ph g as w (r, w')) (hd : decode cc pc = .ok (.invokestatic idx, 3)) (hF : pj_MF y2 cc2 nL2 ret2 n) (hV : Cond.static y2 ∈ pj_T) (hl : Cond.methodLink y.cls idx y2 ∈ pj_T)
    (hr : (Nat.ble (fr2 + 1) fr && Nat.ble (19 + nL2 + lo2) lo) = true) (hn : as.length = n) (hs : stk = as.reverse ++ st) (hst : Nat.ble ((st.map fun v => if v.1 = 1 then 2 else 1).sum) 8 = true) (kk : Go (pc + 3, lls, r.toList ++ st, w')) : Go (pc, lls, stk, w) := by
  refine pj_call hM hC (fun v hv => by rw [hs]; exact List.mem_append_left _ (List.mem_reverse.mpr hv)) (fun v hv => by rw [hs]; exact List.mem_append_right _ hv) (fun p e R s m args below meth c H locs cells slots ls hx hb hml hls ho hts hK hfr hlo hP hok h1 hS hlow hPc hMet hf => ?_) kk
  exact va_runS (y := y2) (bytes := cc2) (maxL := nL2) (ret := ret2) (n := n) (nL := nL) (Ts := pj_T) (own := y.cls) ⟨hx, hb, hml, ho, hts⟩ hMet ⟨pj_CB hts hF hl (pj_room hr hfr hlo), hts _ hV⟩ ⟨pj_blind, hPc⟩ rfl (by simpa using hn) hls (by
    show stk.map (pj_enc g) = _
    rw [pj_stkm hs]) (by
    show 2 * 0 + _ ≤ 8
    have := pj_cats g st hst
    omega) hd hf
/-- a constructor -/
theorem pj_callI (hM : pj_M l y cc nL ret fr lo ph g n0 o Go) {k : Nat} {i : Int} {as : List pj_V} (hC : pj_Cn l y2 cc2 nL2 none fr2 lo2 ph g ((k, i) :: as) w (none, w')) (hd : decode cc pc = .ok (.invokespecial idx, 3)) (hF : pj_MF y2 cc2 nL2 none n) (hV : y2.name = "<init>" ∧ Cond.instanceMethod y2 ∈ pj_T) (hl : Cond.methodLink y.cls idx y2 ∈ pj_T ∨ (y.cls, idx, y2) ∈ pj_nest) (hk : 10 ≤ k)
    (hr : (Nat.ble (fr2 + 1) fr && Nat.ble (19 + nL2 + lo2) lo) = true) (hn : as.length = n) (hi : 0 ≤ i) (hs : stk = as.reverse ++ (k, i) :: st) (hst : Nat.ble ((st.map fun v => if v.1 = 1 then 2 else 1).sum) 8 = true) (kk : Go (pc + 3, lls, st, w')) : Go (pc, lls, stk, w) := by
  refine pj_call hM hC (fun v hv => by rw [hs]; rcases List.mem_cons.mp hv with rfl | hv; exact List.mem_append_right _ List.mem_cons_self; exact List.mem_append_left _ (List.mem_reverse.mpr hv)) (fun v hv => by rw [hs]; exact List.mem_append_right _ (List.mem_cons_of_mem _ hv)) (fun p e R s m args below meth c H locs cells slots ls hx hb hml hls ho hts hK hfr hlo hP hok h1 hS hlow hPc hMet hf => ?_) kk
  have em : ((k, i) :: as).map (pj_enc g) = Value.ref (g.1.1 + pj_ad k i) :: as.map (pj_enc g) := by rw [List.map_cons, pj_cell_ref hk hi]
  rw [em] at hPc hMet ⊢
  have e1 : stk.map (pj_enc g) = (as.map (pj_enc g)).reverse ++ Value.ref (g.1.1 + pj_ad k i) :: st.map (pj_enc g) := by rw [pj_stkm hs, List.map_cons, pj_cell_ref hk hi]
  have e2 : 2 * (F0 m pc ls (stk.map (pj_enc g))).monitorRoom + (((st.map (pj_enc g)).map fun v => v.category).sum) ≤ 8 := by
    show 2 * 0 + _ ≤ 8
    have := pj_cats g st hst
    omega
  rcases hl with hl | hl
  · exact va_runI (y := y2) (bytes := cc2) (maxL := nL2) (n := n) (nL := nL) (Ts := pj_T) (own := y.cls) ⟨hx, hb, hml, ho, hts⟩ hMet ⟨pj_CB hts hF hl (pj_room hr hfr hlo), hV.1, hts _ hV.2⟩ ⟨pj_blind, hPc⟩ rfl (by simpa using hn) hls e1 e2 hd hf
  · have hn := hK.2.1 _ hl
    exact va_runIN (y := y2) (bytes := cc2) (maxL := nL2) (n := n) (nL := nL) (Ts := pj_T) (own := y.cls) (host := RX11) ⟨hx, hb, hml, ho, hts⟩ hMet ⟨va_cnB n hts (fun w hw => (List.mem_cons.mp hw).elim (fun e => by rw [e]; exact pj_T_good _ hF.1) (fun h => pj_T_good w h)) rfl rfl rfl hn (hts _ hF.2.1) ⟨hF.2.2.1.1, hF.2.2.1.2, hF.2.2.2⟩ (pj_room hr hfr hlo), hV.1, hts _ hV.2⟩ ⟨pj_blind, hPc⟩ rfl (by simpa using (by assumption : as.length = n)) hls e1 e2 hd hf
/-- Object's constructor -/
theorem pj_obj (hM : pj_M l y cc nL ret fr lo ph g n0 o Go) {k : Nat} {i : Int} (hd : decode cc pc = .ok (.invokespecial idx, 3)) (hl : Cond.methodLink y.cls idx objectInit ∈ pj_T) (hI : Cond.instanceMethod objectInit ∈ pj_T) (hc : Cond.code objectInit ⟨#[0xb1]⟩ 1 none ∈ pj_T) (hk : 10 ≤ k) (hi : 0 ≤ i) (hr : (Nat.ble 1 fr && Nat.ble 12 lo) = true) (hst : st = []) (kk : Go (pc + 3, lls, st, w)) : Go (pc, lls, (k, i) :: st, w) := by
  subst hst
  obtain ⟨a, b⟩ := (Bool.and_eq_true _ _).mp hr
  have a := Nat.le_of_ble_eq_true a
  have b := Nat.le_of_ble_eq_true b
  rcases hM with ⟨p, e, R, s, m, args, below, meth, c, Q, C, rfl⟩ | rfl
  · intro h1 h2 h3
    obtain ⟨k1, k2⟩ := kk h1 h2 (fun v hv => by cases hv)
    refine ⟨k1, fun hn H locs ls hP hl' hS => ?_⟩
    obtain ⟨hx, hb, hml, hown, hts, hnm, hK, hfr, hlo, -⟩ := C
    simp only [List.map_cons, pj_cell_ref hk hi, List.map_nil]
    exact W.objInit hx hb hown (hts _ hl) (hts _ hI) (hts _ hc) rfl (by rw [hml]; exact hl'.1) rfl hd (by omega) (by show 2 * 0 + 0 + 12 ≤ R.locals; omega) (k2 hn H locs ls hP hl' hS)
  · exact fun h1 h2 h3 => kk h1 h2 (fun v hv => by cases hv)
end
