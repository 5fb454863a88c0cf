/-! ROWS of constructors: what makes cells, final fields, arrays of references -/
theorem pj_L10 : ∀ q ∈ pj_L, 10 ≤ q.1 := by decide +kernel
theorem pj_okv_mono {a b : Nat} (h : a ≤ b) {v : pj_V} (hv : pj_okv a v) : pj_okv b v := by
  unfold pj_okv at hv ⊢
  split at hv
  · rename_i h0; rw [if_pos h0]; exact hv
  · rename_i h0
    rw [if_neg h0]
    split at hv
    · rename_i h3; rw [if_pos h3]; exact hv
    · rename_i h3
      rw [if_neg h3]
      split at hv
      · rename_i h4; rw [if_pos h4]; trivial
      · rename_i h4
        rw [if_neg h4]
        exact hv.imp_right (fun q => ⟨q.1, Nat.lt_of_lt_of_le q.2 h⟩)
/-- which cell is made next -/
def pj_nk (w : pj_W) : Nat := (pj_L.getD (pj_n w) (0, 0)).1
def pj_nx (w : pj_W) : Int := (pj_L.getD (pj_n w) (0, 0)).2
def pj_up (w : pj_W) : pj_W := pj_set w 0 0 0 (pj_n w + 1 : Nat)
theorem pj_up_n (w : pj_W) : pj_n (pj_up w) = pj_n w + 1 := by
  unfold pj_up
  show (pj_set w 0 0 0 _ 0 0 0).toNat = _
  unfold pj_set
  rw [if_pos ⟨rfl, rfl, rfl⟩]
  exact Int.toNat_natCast _
theorem pj_up_at {w : pj_W} {k : Nat} (hk : k ≠ 0) (i : Int) : pj_up w k i = w k i := by
  funext s
  unfold pj_up pj_set
  rw [if_neg (fun e => hk e.1)]
theorem pj_next {w : pj_W} {k : Nat} (hk : pj_nk w = k) (h10 : 10 ≤ k) : pj_n w < pj_L.length ∧ pj_L.getD (pj_n w) (0, 0) = (k, pj_nx w) ∧ (k, pj_nx w) ∈ pj_L ∧ pj_ad k (pj_nx w) = pj_n w := by
  have h1 : pj_n w < pj_L.length := by
    rcases Nat.lt_or_ge (pj_n w) pj_L.length with h | h
    · exact h
    · unfold pj_nk at hk
      rw [List.getD_eq_getElem?_getD, List.getElem?_eq_none h] at hk
      simp at hk
      omega
  have h2 : pj_L.getD (pj_n w) (0, 0) = (k, pj_nx w) := by
    unfold pj_nk at hk
    unfold pj_nx
    rw [← hk]
  refine ⟨h1, h2, ?_, (pj_inj h1 h2).symm⟩
  rw [List.getD_eq_getElem?_getD, List.getElem?_eq_getElem h1] at h2
  have h3 : pj_L[pj_n w] = (k, pj_nx w) := h2
  rw [← h3]
  exact List.getElem_mem h1
theorem pj_up_ok {w : pj_W} (h : pj_ok false w) (hn : pj_n w < pj_L.length) : pj_ok false (pj_up w) := by
  obtain ⟨h1, h2, h3, h4⟩ := h
  unfold pj_ok
  rw [pj_up_n]
  have e : ∀ (k : Nat) (i : Int), (k, i) ∈ pj_L → pj_up w k i = w k i := fun k i hL => pj_up_at (by have := pj_L10 _ hL; omega) i
  refine ⟨hn, fun k i s hL hs => ?_, fun k i s hL hn2 hs => ?_, fun hp => by cases hp⟩
  · rw [e k i hL]
    exact ⟨pj_okv_mono (Nat.le_succ _) (h2 k i s hL hs).1, (h2 k i s hL hs).2⟩
  · rw [e k i hL]
    exact h3 k i s hL (by omega) hs
theorem pj_ws_up {g : pj_G} {w : pj_W} {k : Nat} (hk : pj_nk w = k) (h10 : 10 ≤ k) : pj_ws g (pj_up w) = pj_ws g w ++ [(g.1.1 + pj_n w, pj_cell g w (k, pj_nx w))] := by
  obtain ⟨h1, h2, h3, h4⟩ := pj_next hk h10
  unfold pj_ws
  rw [pj_up_n, List.range_succ, List.map_append]
  congr 1
  · apply List.map_congr_left
    intro j hj
    have hj2 : j < pj_n w := List.mem_range.mp hj
    have hj3 : j < pj_L.length := by omega
    have hm : pj_L.getD j (0, 0) ∈ pj_L := by
      rw [List.getD_eq_getElem?_getD, List.getElem?_eq_getElem hj3]
      exact List.getElem_mem hj3
    rw [pj_cell_eq (pj_up_at (by have := pj_L10 _ hm; omega) _)]
  · simp only [List.map_cons, List.map_nil, h2]
    rw [pj_cell_eq (pj_up_at (by show k ≠ 0; omega) _)]
def pj_tyb (t : Nat) (ty : FieldType) : Bool := match ty with
  | .int => Nat.beq t 0
  | .long => Nat.beq t 1
  | .boolean => Nat.beq t 5
  | .object _ => Nat.ble 10 t
  | .array _ => Nat.ble 10 t
  | _ => false
theorem pj_tyb_ok {t : Nat} {ty : FieldType} (h : pj_tyb t ty = true) : pj_ty t ty := by
  unfold pj_tyb at h
  split at h
  · exact Or.inl ⟨Nat.eq_of_beq_eq_true h, rfl⟩
  · exact Or.inr (Or.inl ⟨Nat.eq_of_beq_eq_true h, rfl⟩)
  · exact Or.inr (Or.inr (Or.inl ⟨Nat.eq_of_beq_eq_true h, rfl⟩))
  · exact Or.inr (Or.inr (Or.inr ⟨Nat.le_of_ble_eq_true h, Or.inl ⟨_, rfl⟩⟩))
  · exact Or.inr (Or.inr (Or.inr ⟨Nat.le_of_ble_eq_true h, Or.inr ⟨_, rfl⟩⟩))
  · cases h
theorem pj_df_enc {g : pj_G} {t : Nat} {ty : FieldType} (h : pj_ty t ty) : defaultValue ty = pj_enc g (pj_pt t, pj_df t) := by
  rcases h with ⟨rfl, rfl⟩ | ⟨rfl, rfl⟩ | ⟨rfl, rfl⟩ | ⟨ht, h⟩
  · rfl
  · rfl
  · rfl
  · have e : pj_pt t = t := by unfold pj_pt; rw [if_neg (by omega)]
    have e2 : pj_df t = -1 := by unfold pj_df; rw [if_neg (by omega)]
    rw [e, e2, pj_er g ht]
    rcases h with ⟨C, rfl⟩ | ⟨C, rfl⟩ <;> rfl
section
variable {l : Launch} {y : MethodName} {cc : ByteArray} {nL : Nat} {ret : Option FieldType} {fr lo : Nat} {g : pj_G} {n0 : Nat} {o : Option pj_V × pj_W} {Go : pj_C → Prop} {pc : Nat} {lls lls' st stk : List pj_V} {w w' : pj_W} {idx : Nat}
/-- a cell comes -/
theorem pj_stepN (hM : pj_M l y cc nL ret fr lo false g n0 o Go) {pc' k : Nat} {st' : List pj_V} (hk : pj_nk w = k) (h10 : 10 ≤ k) (hst : st' = (k, pj_nx w) :: st) (hsub : ∀ v ∈ st, v ∈ stk)
    (hW : ∀ (p : Program) (e : Env) (R : Room) (s : State) (m : MethodId) (args : Array Value) (below : List Frame) (meth : Method) (c : Code) (Q : State → Prop) (H : Heap) (locs : List Loc) (cells slots : Nat) (ls : Array Slot), p.tables.exec = Jvm.exec → c.code = cc → s.vm.findClass y.cls = some m.cls → (∀ w ∈ pj_T, w.before args s = true) → pj_K g s → (∀ s : Nat, s < pj_sz k → w k (pj_nx w) s = pj_df (pj_tg k s)) → cells + 1 ≤ R.cells → slots + pj_sz k ≤ R.slots →
      (∀ (H1 : Heap), H1[H.size]? = some (match pj_cell g w (k, pj_nx w) with | .inl a => vp_cell a.1 a.2 | .inr _ => H1.getD H.size default) → (∀ a, pj_cell g w (k, pj_nx w) = .inr a → va_at g.2.1 pj_cl (H.size, .inr a) H1) → H1.size = H.size + 1 → (∀ q, q < H.size → H1[q]? = H[q]?) → W p l e R s m args below meth c H1 locs (cells + 1) (slots + pj_sz k) Q (F0 m pc' ls (.ref H.size :: st.map (pj_enc g)))) → W p l e R s m args below meth c H locs cells slots Q (F0 m pc ls (stk.map (pj_enc g))))
    (kk : Go (pc', lls, st', pj_up w)) : Go (pc, lls, stk, w) := by
  subst hst
  obtain ⟨x1, x2, x3, x4⟩ := pj_next hk h10
  have okst : (∀ v ∈ stk, pj_okv (pj_n w) v) → ∀ v ∈ (k, pj_nx w) :: st, pj_okv (pj_n w + 1) v := fun h => List.forall_mem_cons.mpr ⟨by
    unfold pj_okv
    rw [if_neg (show ¬ k = 0 by omega), if_neg (show ¬ k = 1 by omega), if_neg (show ¬ k < 10 by omega)]
    refine Or.inr ⟨?_, by show pj_ad k (pj_nx w) < _; omega⟩
    have : ∀ q ∈ pj_L, (0 : Int) ≤ q.2 := by decide +kernel
    exact this (k, pj_nx w) x3, fun v hv => pj_okv_mono (Nat.le_succ _) (h v (hsub v hv))⟩
  have hnx : 0 ≤ pj_nx w := by
    have : ∀ q ∈ pj_L, (0 : Int) ≤ q.2 := by decide +kernel
    exact this (k, pj_nx w) x3
  rcases hM with ⟨p, e, R, s, m, args, below, meth, c, Q, C, rfl⟩ | rfl
  · intro h1 h2 h3
    obtain ⟨k1, k2⟩ := kk (pj_up_ok h1 x1) (fun v hv => by simp only [pj_up_n]; exact pj_okv_mono (Nat.le_succ _) (h2 v hv)) (fun v hv => by simp only [pj_up_n]; exact okst h3 v hv)
    simp only [pj_up_n] at k1 k2
    refine ⟨⟨Nat.le_trans (Nat.le_succ _) k1.1, k1.2⟩, fun hn H locs ls hP hl hS => ?_⟩
    obtain ⟨hx, hb, hml, hown, hts, hnm, hK, hfr, hlo, hcl, hsl, hsz, hg, hlow, -⟩ := C
    have hn1 : n0 ≤ pj_n w := hn
    intro T hT X
    have hz : H.size = g.1.1 + pj_n w := by
      have q1 : T.heap.size ≤ s.heap.size + (pj_n w - n0) := X.heapSize
      rw [hT, hsz] at q1
      rcases Nat.eq_zero_or_pos (pj_n w) with q0 | q0
      · have := hS.1; rw [hsz] at this; omega
      · have q3 : (pj_ws g w)[pj_n w - 1]? = some (g.1.1 + (pj_n w - 1), pj_cell g w (pj_L.getD (pj_n w - 1) (0, 0))) := by
          unfold pj_ws
          rw [List.getElem?_map, List.getElem?_range (by omega)]
          rfl
        have q2 : g.1.1 + (pj_n w - 1) < H.size := (hP (pj_n w - 1) _ q3).lt
        omega
    have m1 : pj_sl n0 ≤ pj_sl (pj_n w) := pj_sl_mono hn1
    have m2 : pj_sl (pj_n w + 1) = pj_sl (pj_n w) + pj_sz k := by
      unfold pj_sl
      rw [List.take_add_one, List.map_append, List.sum_append_nat]
      have q4 : pj_L[pj_n w]? = some (k, pj_nx w) := by
        rw [List.getD_eq_getElem?_getD, List.getElem?_eq_getElem x1] at x2
        rw [List.getElem?_eq_getElem x1]
        exact congrArg some x2
      rw [q4]
      simp
    have m3 : pj_sl (pj_n w + 1) ≤ pj_sl (pj_n o.2) := pj_sl_mono k1.1
    have k1' : pj_n w + 1 ≤ pj_n o.2 := k1.1
    refine hW p e R s m args below meth c Q H locs _ _ ls hx hb hown hts hK (fun s hs => h1.2.2.1 k (pj_nx w) s x3 (by rw [x4]; exact Nat.le_refl _) hs) (show pj_n w - n0 + 1 ≤ R.cells by omega) (show pj_sl (pj_n w) - pj_sl n0 + pj_sz k ≤ R.slots by omega) (fun H1 c1 c2 z1 o1 => ?_) T hT X
    have k3 := k2 (by omega) H1 locs ls ?_ hl ⟨by have := hS.1; omega, fun q h5 h6 => (o1 q (Nat.lt_of_lt_of_le h5 hS.1)).trans (hS.2.1 q h5 h6), hS.2.2⟩
    · simp only [List.map_cons, pj_cell_ref h10 hnx, x4] at k3
      rw [hz]
      rw [show pj_n w + 1 - n0 = pj_n w - n0 + 1 by omega, show pj_sl (pj_n w + 1) - pj_sl n0 = pj_sl (pj_n w) - pj_sl n0 + pj_sz k by omega] at k3
      exact k3
    · rw [pj_ws_up hk h10]
      refine (hP.kept (fun j q hq => o1 q.1 ((hP j q hq).lt))).app (fun j q hq => ?_)
      have hj : j < 1 := (List.getElem?_eq_some_iff.mp hq).1
      rw [show j = 0 by omega] at hq
      cases hq
      rw [← hz]
      cases hcl : pj_cell g w (k, pj_nx w) with
      | inl a => rw [hcl] at c1; exact c1
      | inr a => exact c2 a hcl
  · intro h1 h2 h3
    have k1 := kk (pj_up_ok h1 x1) (fun v hv => by simp only [pj_up_n]; exact pj_okv_mono (Nat.le_succ _) (h2 v hv)) (fun v hv => by simp only [pj_up_n]; exact okst h3 v hv)
    simp only [pj_up_n] at k1
    exact ⟨Nat.le_trans (Nat.le_succ _) k1.1, k1.2⟩
theorem pj_new (hM : pj_M l y cc nL ret fr lo false g n0 o Go) {k : Nat} {C : String} {T : u_T} (hd : decode cc pc = .ok (.new idx, 3)) (hcl : Cond.classLink y.cls idx C ∈ pj_T) (hin : Cond.instantiable C (pj_sz k) ∈ pj_T) (hini : Cond.initialized C ∈ pj_T) (hso : pj_so k = 0) (hc : pj_cl[pj_ci k]? = some (C, T, pj_sz k)) (hty : ∀ j, j < pj_sz k → ∃ ty, parseFieldDescriptor (T j).2.2.1 = some ty ∧ pj_ty (pj_tg k j) ty) (h10 : 10 ≤ k) (hk : pj_nk w = k) (kk : Go (pc + 3, lls, (k, pj_nx w) :: st, pj_up w)) : Go (pc, lls, st, w) := by
  refine pj_stepN hM hk h10 rfl (fun v hv => hv) (fun p e R s m args below meth c Q H locs cells slots ls hx hb ho hts hK hdf hcells hslots h => ?_) kk
  obtain ⟨hcls, ⟨ty0, hty0⟩, hdis⟩ := pj_cls _ _ hc
  have hKn := hK.1.1 _ _ hc
  refine W.newcK hx hb ho (hts _ hcl) (hts _ hin) (hts _ hini) rfl hd hcells hslots hKn.2.1 rfl fun H1 kC hkC e1 z1 o1 => ?_
  refine h H1 ?_ (fun a ha => ?_) z1 o1
  · rw [pj_cell_obj hso]
    have : H.size < H1.size := by omega
    simp [this]
  · rw [pj_cell_obj hso] at ha
    cases ha
    refine ⟨_, hc, (u_born ty0 hts hcls hKn hkC e1 hty0).to (fun j hj => ?_)⟩
    obtain ⟨ty, q1, q2⟩ := hty j hj
    have q3 : ty0 j = ty := Option.some.inj ((hty0 j hj).symm.trans q1)
    rw [q3, pj_df_enc (g := g) q2]
    unfold vp_V
    rw [List.getD_eq_getElem?_getD, List.getElem?_map, List.getElem?_range hj, Option.map_some, Option.getD_some, hdf j hj]
theorem pj_cA (g : pj_G) {s : State} (hK : pj_K g s) {t : Nat} {ty : FieldType} {cA : ClassId} (ht : (pj_tys g)[t]? = some (g.2.2.1 t, ty)) (hr : ty = .int ∨ ty = .byte ∨ ty = .long) (h : s.vm.findClass ("[" ++ ty.toString) = some cA) : cA = g.2.2.1 t := by
  have h2 := (hK.1.2 t _ ht).2
  rcases hr with rfl | rfl | rfl <;> exact Option.some.inj (h.symm.trans h2)
theorem pj_newa (hM : pj_M l y cc nL ret fr lo false g n0 o Go) {k : Nat} {n : Int} {at0 : ArrayType} (hd : decode cc pc = .ok (.newarray at0, 2)) (harr : Cond.arrayClass (newarray.typeOf at0) ∈ pj_T) (hso : (pj_so k = 1 ∧ newarray.typeOf at0 = .int ∧ pj_ci k = 0 ∧ ∀ s, pj_tg k s = 0) ∨ (pj_so k = 2 ∧ newarray.typeOf at0 = .byte ∧ pj_ci k = 1 ∧ ∀ s, pj_tg k s = 6) ∨ (pj_so k = 3 ∧ newarray.typeOf at0 = .long ∧ pj_ci k = 2 ∧ ∀ s, pj_tg k s = 1)) (hn : n = pj_sz k) (hb : pj_sz k ≤ 10000) (h10 : 10 ≤ k) (hk : pj_nk w = k) (kk : Go (pc + 2, lls, (k, pj_nx w) :: st, pj_up w)) : Go (pc, lls, (0, n) :: st, w) := by
  refine pj_stepN hM hk h10 rfl (fun v hv => List.mem_cons_of_mem _ hv) (fun p e R s m args below meth c Q H locs cells slots ls hx hb' ho hts hK hdf hcells hslots h => ?_) kk
  have z := pj_sz_in k
  obtain ⟨c1, d1⟩ := pj_cl0 (i := n) ⟨by omega, by omega⟩
  have hN : (Int32.ofInt n).toNatClampNeg = pj_sz k := by rw [d1]; omega
  have hcb : componentBytes (newarray.typeOf at0) ≤ 8 := by cases at0 <;> decide
  refine va_newaK hx hb' (hts _ harr) rfl hd rfl c1 hN (Nat.le_trans (Nat.mul_le_mul hb hcb) (Nat.le_of_ble_eq_true rfl)) hcells hslots rfl fun H1 cA e1 z1 o1 hAr hNm => ?_
  refine h H1 ?_ (fun a ha => ?_) z1 o1
  · rw [e1]
    congr 1
    rcases hso with ⟨q1, q2, q3, q4⟩ | ⟨q1, q2, q3, q4⟩ | ⟨q1, q2, q3, q4⟩
    · rw [q2] at hNm ⊢
      rw [pj_cA g hK (t := 0) rfl (Or.inl rfl) hNm, pj_cell_int (Or.inl q1), q3]
      dsimp only [vp_cell]
      unfold arrV
      congr 2
      funext j
      dsimp only
      rw [hdf j.val j.isLt, q4]
      rfl
    · rw [q2] at hNm ⊢
      rw [pj_cA g hK (t := 1) rfl (Or.inr (Or.inl rfl)) hNm, pj_cell_int (Or.inr q1), q3]
      dsimp only [vp_cell]
      unfold arrV
      congr 2
      funext j
      dsimp only
      rw [hdf j.val j.isLt, q4]
      rfl
    · rw [q2] at hNm ⊢
      rw [pj_cA g hK (t := 2) rfl (Or.inr (Or.inr rfl)) hNm, pj_cell_long q1, q3]
      dsimp only [vp_cell]
      unfold arrV
      congr 2
      funext j
      dsimp only
      rw [hdf j.val j.isLt, q4]
      rfl
  · rcases hso with ⟨q1, _⟩ | ⟨q1, _⟩ | ⟨q1, _⟩
    · rw [pj_cell_int (Or.inl q1)] at ha; cases ha
    · rw [pj_cell_int (Or.inr q1)] at ha; cases ha
    · rw [pj_cell_long q1] at ha; cases ha
theorem pj_anew (hM : pj_M l y cc nL ret fr lo false g n0 o Go) {k t : Nat} {n : Int} {C : String} (hd : decode cc pc = .ok (.anewarray idx, 3)) (hcl : Cond.classLink y.cls idx C ∈ pj_T) (hC : C ∈ [RX9, RX2, RX0, RX5, RX4]) (hso : pj_so k = 4) (hci : (pj_tys g)[pj_ci k]? = some (g.2.2.1 (pj_ci k), .object C)) (ht : ∀ s, pj_tg k s = t) (ht2 : 10 ≤ t) (hn : n = pj_sz k) (hb : pj_sz k ≤ 10000) (h10 : 10 ≤ k) (hk : pj_nk w = k) (kk : Go (pc + 3, lls, (k, pj_nx w) :: st, pj_up w)) : Go (pc, lls, (0, n) :: st, w) := by
  refine pj_stepN hM hk h10 rfl (fun v hv => List.mem_cons_of_mem _ hv) (fun p e R s m args below meth c Q H locs cells slots ls hx hb' ho hts hK hdf hcells hslots h => ?_) kk
  have z := pj_sz_in k
  obtain ⟨c1, d1⟩ := pj_cl0 (i := n) ⟨by omega, by omega⟩
  have hN : (Int32.ofInt n).toNatClampNeg = pj_sz k := by rw [d1]; omega
  refine W.anew hx hb' ho (hts _ hcl) ((hK.2.2.1 C hC).use) rfl hd rfl c1 (by rw [hN]; omega) hcells (by rw [hN]; exact hslots) fun cA kA comp h1 h2 h3 h4 => ?_
  rw [hN]
  refine h _ ?_ (fun a ha => ?_) (by simp) (fun q hq => by rw [Array.getElem?_push, if_neg (Nat.ne_of_lt hq)])
  · have e : cA = g.2.2.1 (pj_ci k) := by
      obtain ⟨kA2, comp2, -, -, -, h5⟩ := (hK.1.2 _ _ hci).2
      exact Option.some.inj (h1.symm.trans h5)
    rw [pj_cell_arr hso, Array.getElem?_push, if_pos rfl, e]
    congr 1
    dsimp only [vp_cell]
    unfold arrV
    congr 1
    apply Array.ext
    · simp
    · intro j h5 h6
      simp only [Array.size_replicate] at h5
      simp only [Array.getElem_replicate, Array.getElem_ofFn]
      rw [hdf j h5, ht]
      have e7 : pj_df t = -1 := by unfold pj_df; rw [if_neg (by omega)]
      rw [e7]
      rfl
  · rw [pj_cell_arr hso] at ha; cases ha
theorem pj_putF (hM : pj_M l y cc nL ret fr lo false g n0 o Go) {k s : Nat} {i z : Int} {t : Nat} (hd : decode cc pc = .ok (.putfield idx, 3)) (hF : pj_FL y.cls idx k s true) (hy : y.name = "<init>") (hC : ∀ C T, pj_cl[pj_ci k]? = some (C, T, pj_sz k) → C = y.cls) (hi : 0 ≤ i) (ht : pj_pt (pj_tg k s) = t) (hb : pj_tg k s ≠ 5) (h6 : pj_tg k s ≠ 6) (kk : Go (pc + 3, lls, st, pj_set w k i s z)) : Go (pc, lls, (t, z) :: (k, i) :: st, w) := by
  obtain ⟨hso, hs, hk, C, T, hc, hfin, hdc, hl, ty, hty, htt⟩ := hF
  subst ht
  refine pj_stepW hM (st' := st) (w' := pj_set w k i s z) (pj_set_n (by omega)) (fun h1 h2 => ⟨pj_ok_set h1 (by omega) (pj_alloc hk hi (h2 _ (List.mem_cons_of_mem _ List.mem_cons_self))) ⟨h2 _ List.mem_cons_self, fun h => absurd h hb, fun h => absurd h h6⟩ (fun h => by cases h), fun v hv => h2 v (List.mem_cons_of_mem _ (List.mem_cons_of_mem _ hv))⟩) (fun p e R st0 m args below meth c Q H locs cells slots ls hx hb' hml ho ht hnm hK hP hS h1 h2 _ _ h => ?_) kk
  have ha := pj_alloc hk hi (h2 _ (List.mem_cons_of_mem _ List.mem_cons_self))
  have he := pj_ws_at (g := g) h1.1 ha
  rw [pj_cell_obj hso] at he
  simp only [List.map_cons, pj_cell_ref hk hi]
  obtain ⟨hcl, ⟨ty0, hty0⟩, hdis⟩ := pj_cls _ _ hc
  have hbb : pj_tg k s = 5 → z = 0 ∨ z = 1 := fun h => absurd h hb
  refine va_putF hx hb' ht hcl ty0 hty0 hdis ho hK hP (pj_wsD g w) hS (pj_ad k i) he hc s hs (ht _ hl) (fun x h9 => h9) hfin (hnm.trans hy) (hdc.trans (hC C T hc)) hty (pj_nf htt hbb).1 (pj_nf htt hbb).2 (by simpa using hs) hd (fun H1 locs1 hP1 hD1 hS1 => h H1 locs1 ?_ hS1)
  have e2 := pj_ws_upd (g := g) h1.1 ha (pj_set_n (w := w) (i := i) (s := s) (v := z) (show k ≠ 0 by omega)) pj_set_off
  rw [pj_cell_obj hso] at e2
  rw [← e2]
  have e3 := pj_rmap (n := pj_sz k) (s := s) (fun j : Nat => pj_enc g (pj_pt (pj_tg k j), w k i j)) (fun j : Nat => pj_enc g (pj_pt (pj_tg k j), pj_set w k i s z k i j)) (fun j hj => by
    show pj_enc g (_, pj_set w k i s z k i j) = _
    unfold pj_set
    rw [if_neg (fun h => hj (by omega))])
  have e4 : pj_set w k i s z k i s = z := by unfold pj_set; rw [if_pos ⟨rfl, rfl, rfl⟩]
  simp only [e4] at e3
  rw [← e3]
  exact hP1
theorem pj_aast (hM : pj_M l y cc nL ret fr lo false g n0 o Go) {k t : Nat} {i j z : Int} (hd : decode cc pc = .ok (.aastore, 1)) (hk : 10 ≤ k) (hso : pj_so k = 4) (ht : ∀ s, pj_tg k s = t) (ht2 : 10 ≤ t ∧ pj_so t = 0) (hc : ∃ C T, (pj_tys g)[pj_ci k]? = some (g.2.2.1 (pj_ci k), .object C) ∧ pj_cl[pj_ci t]? = some (C, T, pj_sz t)) (hi : 0 ≤ i) (hj : 0 ≤ j ∧ j < pj_sz k) (hz : 0 ≤ z) (kk : Go (pc + 1, lls, st, pj_set w k i j z)) : Go (pc, lls, (t, z) :: (0, j) :: (k, i) :: st, w) := by
  obtain ⟨C, T, hc1, hc2⟩ := hc
  have ept : pj_pt t = t := by unfold pj_pt; rw [if_neg (by omega)]
  refine pj_stepW hM (st' := st) (w' := pj_set w k i j z) (pj_set_n (by omega)) (fun h1 h2 => ⟨?_, fun v hv => h2 v (List.mem_cons_of_mem _ (List.mem_cons_of_mem _ (List.mem_cons_of_mem _ hv)))⟩) (fun p e R st0 m args below meth c Q H locs cells slots ls hx hb' hml ho htt hnm hK hP hS h1 h2 _ _ h => ?_) kk
  · have h3 := pj_ok_set (s := j.toNat) (v := z) h1 (show k ≠ 0 by omega) (pj_alloc hk hi (h2 _ (List.mem_cons_of_mem _ (List.mem_cons_of_mem _ List.mem_cons_self)))) (by rw [ht]; exact ⟨by rw [ept]; exact h2 _ List.mem_cons_self, fun h => by omega, fun h => by omega⟩) (fun h => by cases h)
    rwa [Int.toNat_of_nonneg hj.1] at h3
  have ha := pj_alloc hk hi (h2 _ (List.mem_cons_of_mem _ (List.mem_cons_of_mem _ List.mem_cons_self)))
  have hb := pj_alloc ht2.1 hz (h2 _ List.mem_cons_self)
  have he := pj_ws_at (g := g) h1.1 ha
  have hf := pj_ws_at (g := g) h1.1 hb
  rw [pj_cell_arr hso] at he
  rw [pj_cell_obj ht2.2] at hf
  simp only [List.map_cons, pj_cell_ref hk hi, pj_cell_ref ht2.1 hz]
  have hv := pj_inv hj (pj_sz_in k)
  refine va_astq (r := (C, T, pj_sz t)) hx hb' hK hP (pj_wsD g w) hS (pj_ad k i) (pj_ci k) (pj_ad t z) (pj_ci t) he hc1 hf hc2 hv.1 hd (fun H1 locs1 hP1 hD1 hS1 => h H1 locs1 ?_ hS1)
  have e2 := pj_ws_upd (g := g) h1.1 ha (pj_set_n (w := w) (i := i) (s := j) (v := z) (show k ≠ 0 by omega)) pj_set_off
  rw [pj_cell_arr hso] at e2
  rw [← e2]
  have e5 : va_up (fun s : Nat => if w k i s < 0 then none else some (g.1.1 + pj_ad (pj_tg k s) (w k i s))) j.toNat (some (g.1.1 + pj_ad t z)) = fun s : Nat => if pj_set w k i j z k i s < 0 then none else some (g.1.1 + pj_ad (pj_tg k s) (pj_set w k i j z k i s)) := by
    funext s
    unfold va_up
    by_cases e : s = j.toNat
    · rw [if_pos e]
      have e6 : pj_set w k i j z k i s = z := by unfold pj_set; rw [if_pos ⟨rfl, rfl, by omega⟩]
      rw [e6, if_neg (by omega), ht]
    · rw [if_neg e, pj_set_ne (by omega)]
  rw [hv.2] at hP1
  rw [e5] at hP1
  exact hP1
end
