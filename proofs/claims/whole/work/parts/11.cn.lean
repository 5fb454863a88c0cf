/-! A METHOD's CONTRACT, its body, its calls -/
theorem pj_sl_mono {a b : Nat} (h : a ≤ b) : pj_sl a ≤ pj_sl b := by
  have e : ∀ (n : Nat), pj_sl n ≤ pj_sl (n + 1) := by
    intro n
    unfold pj_sl
    rw [List.take_add_one, List.map_append, List.sum_append_nat]
    exact Nat.le_add_right _ _
  induction b with
  | zero => rw [show a = 0 by omega]; exact Nat.le_refl _
  | succ b ih =>
    rcases Nat.lt_or_ge b a with h1 | h1
    · rw [show a = b + 1 by omega]; exact Nat.le_refl _
    · exact Nat.le_trans (ih h1) (e b)
/-- what a contract's start is -/
def pj_S (g : pj_G) (w : pj_W) (U : State) : Prop := pj_K g U ∧ U.heap.size = g.1.1 + pj_n w ∧ g.1.2.size = g.1.1 ∧ (∀ q : Nat, q < g.1.1 → U.heap[q]? = g.1.2[q]?) ∧ va_P g.2.1 pj_cl (pj_ws g w) U.heap
def pj_E (g : pj_G) (o : Option pj_V × pj_W) : Array Value → State → Outcome → State → Prop := fun _ st oc t => oc = .returned (o.1.map (pj_enc g)) ∧ va_P g.2.1 pj_cl (pj_ws g o.2) t.heap ∧ va_F (pj_A g) st t
def pj_Cn (l : Launch) (y : MethodName) (cc : ByteArray) (nL : Nat) (ret : Option FieldType) (fr lo : Nat) (ph : Bool) (g : pj_G) (as : List pj_V) (w : pj_W) (o : Option pj_V × pj_W) : Prop :=
  pj_ok ph w → (∀ v ∈ as, pj_okv (pj_n w) v) → (pj_n w ≤ pj_n o.2 ∧ pj_ok ph o.2 ∧ pj_okr ret (pj_n o.2) o.1) ∧
    Met l y (Cond.code y cc nL ret :: pj_T) { frames := fr, cells := pj_n o.2 - pj_n w, slots := pj_sl (pj_n o.2) - pj_sl (pj_n w), locals := lo } (va_Pc (as.map (pj_enc g)) (pj_S g w)) (pj_E g o) (pj_n o.2 - pj_n w) (pj_sl (pj_n o.2) - pj_sl (pj_n w)) (pj_A g)
/-- the locals at a method's beginning -/
def pj_ent : List pj_V → List pj_V
  | [] => []
  | v :: vs => if v.1 = 1 then v :: (9, 0) :: pj_ent vs else v :: pj_ent vs
theorem pj_ent_at (g : pj_G) : ∀ (as : List pj_V) (b j : Nat) (v : pj_V), (pj_ent as)[j]? = some v → v.1 ≠ 9 → (b + j, pj_enc g v) ∈ lv_args b (as.map (pj_enc g))
  | [], b, j, v, h, _ => by simp [pj_ent] at h
  | u :: us, b, j, v, h, h9 => by
    have hc := pj_cat2 g u
    simp only [List.map_cons, lv_args]
    unfold pj_ent at h
    by_cases h1 : u.1 = 1
    · rw [if_pos h1] at h hc
      match j, h with
      | 0, h => simp at h; subst h; exact List.mem_cons_self
      | 1, h => simp at h; exact absurd (by rw [← h]) h9
      | j + 2, h =>
        have := pj_ent_at g us (b + 2) j v (by simpa using h) h9
        rw [if_pos hc]
        rw [show b + 2 + j = b + (j + 2) by omega] at this
        exact List.mem_cons_of_mem _ this
    · rw [if_neg h1] at h hc
      match j, h with
      | 0, h => simp at h; subst h; exact List.mem_cons_self
      | j + 1, h =>
        have := pj_ent_at g us (b + 1) j v (by simpa using h) h9
        rw [if_neg (by rw [hc]; decide)]
        rw [show b + 1 + j = b + (j + 1) by omega] at this
        exact List.mem_cons_of_mem _ this
theorem pj_ent_len (g : pj_G) : ∀ (as : List pj_V), (lg_sl (as.map (pj_enc g))).length = (pj_ent as).length
  | [] => rfl
  | u :: us => by
    have hc := pj_cat2 g u
    have ih := pj_ent_len g us
    unfold lg_sl at ih ⊢
    unfold pj_ent
    simp only [List.map_cons, List.flatMap_cons, List.length_append, ih]
    by_cases h1 : u.1 = 1
    · rw [if_pos h1] at hc ⊢
      rw [if_pos hc]
      simp only [List.length_cons, List.length_nil]
      omega
    · rw [if_neg h1] at hc ⊢
      rw [if_neg (by rw [hc]; decide)]
      simp only [List.length_cons, List.length_nil]
      omega
theorem pj_ent_in {n : Nat} : ∀ {as : List pj_V}, (∀ v ∈ as, pj_okv n v) → ∀ v ∈ pj_ent as, pj_okv n v
  | [], _ => fun v h => by cases h
  | u :: us, h => by
    have ih := pj_ent_in (List.forall_mem_cons.mp h).2
    unfold pj_ent
    split
    · exact List.forall_mem_cons.mpr ⟨(List.forall_mem_cons.mp h).1, List.forall_mem_cons.mpr ⟨trivial, ih⟩⟩
    · exact List.forall_mem_cons.mpr ⟨(List.forall_mem_cons.mp h).1, ih⟩
def pj_shv (ret : Option FieldType) (r : Option Value) : Prop := match ret with | none => r = none | some .int => ∃ v, r = some (.int v) | some .long => ∃ v, r = some (.long v) | some (.object _) => ∃ v, r = some v ∧ (v = .null ∨ ∃ a, v = .ref a) | some .boolean => ∃ v, r = some (.int v) ∧ narrow .boolean (.int v) = .int v | some .char => ∃ v, r = some (.int v) ∧ narrow .char (.int v) = .int v | some .byte => ∃ v, r = some (.int v) ∧ narrow .byte (.int v) = .int v | _ => False
section
variable {p : Program} {l : Launch} {e : Env} {R : Room} {s : State} {m : MethodId} {args : Array Value} {below : List Frame} {meth : Method} {c : Code} {H : Heap} {locs : List Loc} {cells slots : Nat} {Q : State → Prop}

theorem pj_fin {cc : ByteArray} {Qc : Array Value → State → Outcome → State → Prop} {free : Addr → Prop} {r : Option Value} {ret : Option FieldType} {ls : Array Slot} {pc : Nat} (hexec : p.tables.exec = Jvm.exec) (hb : c.code = cc) (hr : meth.sig.returnType = ret) (hlocks : meth.locks = false) (hdg : decode cc pc = .ok (pj_ri ret, 1))
    (hsh : pj_shv ret r)
    (hq : ∀ t : State, t.heap = H → s.WarmedH t.vm → Qc args s (.returned r) t) (hf : ∀ q ∈ locs, free q.base) : W p l e R s m args below meth c H locs cells slots (MQ below Qc args s cells slots free) (F0 m pc ls r.toList) := by
  cases ret with
  | none => subst hsh; exact W.vret hexec hb hr hq hf hdg hlocks
  | some ty =>
    cases ty with
    | int => obtain ⟨v, rfl⟩ := hsh; exact W.iret hexec hb hr hq hf hdg hlocks
    | long => obtain ⟨v, rfl⟩ := hsh; exact W.lret hexec hb hr hq hf hdg hlocks
    | object C => obtain ⟨v, rfl, hv⟩ := hsh; exact W.aret hexec hb hr (Or.inl ⟨_, rfl⟩) hv hq hf hdg hlocks
    | boolean => obtain ⟨v, rfl, hv⟩ := hsh; exact W.zret hexec hb hr hv hq hf hdg hlocks
    | char => obtain ⟨v, rfl, hv⟩ := hsh; exact W.zret hexec hb hr hv hq hf hdg hlocks
    | byte => obtain ⟨v, rfl, hv⟩ := hsh; exact W.zret hexec hb hr hv hq hf hdg hlocks
    | _ => exact hsh.elim
end
theorem pj_shp_enc {g : pj_G} {ret : Option FieldType} {r : Option pj_V} (h : pj_shp ret r) : pj_shv ret (r.map (pj_enc g)) := by
  cases ret with
  | none => subst h; rfl
  | some ty =>
    cases ty with
    | int => obtain ⟨v, rfl⟩ := h; exact ⟨_, rfl⟩
    | long => obtain ⟨v, rfl⟩ := h; exact ⟨_, rfl⟩
    | object C => obtain ⟨k, z, hk, rfl⟩ := h; exact ⟨_, rfl, pj_erc g (show 2 ≤ k by omega) z⟩
    | boolean =>
      obtain ⟨v, rfl, hv⟩ := h
      exact ⟨_, rfl, by rcases hv with rfl | rfl <;> rfl⟩
    | char =>
      obtain ⟨v, rfl, hv⟩ := h
      refine ⟨_, rfl, ?_⟩
      have e : (Int32.ofInt v) = nI v.toNat := by
        show _ = Int32.ofNat _
        rw [← Int32.ofInt_eq_ofNat, Int.toNat_of_nonneg hv.1]
      rw [e]
      exact (pk_charN (by omega)).1
    | byte =>
      obtain ⟨v, rfl, hv⟩ := h
      refine ⟨_, rfl, ?_⟩
      show Value.int (Int32.ofInt v).toInt8.toInt32 = _
      rw [pj_b8, show pj_w8 v = v by unfold pj_w8; omega]
    | _ => exact h.elim
/-- a contract out of a walk of the body -/
theorem pj_Cn_of {l : Launch} {y : MethodName} {cc : ByteArray} {nL : Nat} {ret : Option FieldType} {fr lo : Nat} {ph : Bool} {g : pj_G} {as lls : List pj_V} {w : pj_W} {o : Option pj_V × pj_W} (hy : plainName y.cls = true) (hn : (pj_ent as).length ≤ nL) (hlls : lls = pj_ent as ++ List.replicate (nL - (pj_ent as).length) (9, 0))
    (body : ∀ Go, pj_M l y cc nL ret fr lo ph g (pj_n w) o Go → Go (0, lls, [], w)) : pj_Cn l y cc nL ret fr lo ph g as w o := by
  subst hlls
  intro h1 h2
  have h2' : ∀ v ∈ pj_ent as ++ List.replicate (nL - (pj_ent as).length) (9, 0), pj_okv (pj_n w) v := fun v hv => by
    rcases List.mem_append.mp hv with h | h
    · exact pj_ent_in h2 v h
    · rw [List.eq_of_mem_replicate h]; trivial
  have hP := body (pj_GoP ph ret o) (Or.inr rfl) h1 h2' (fun v h => by cases h)
  refine ⟨hP, Met.ofW (cc := cc) (maxL := nL) (ret := ret) hy rfl ?_⟩
  intro p e s m args below meth c s₁ B hml hv
  obtain ⟨rfl, hK, hsz, hg, hlow, hH⟩ := hv
  have hts := atoms_spec (ws := Cond.code y cc nL ret :: pj_T) B.pre
  have key := body _ (Or.inl ⟨p, e, { frames := fr, cells := pj_n o.2 - pj_n w, slots := pj_sl (pj_n o.2) - pj_sl (pj_n w), locals := lo }, s, m, (as.map (pj_enc g)).toArray, below, meth, c, MQ below (pj_E g o) (as.map (pj_enc g)).toArray s (pj_n o.2 - pj_n w) (pj_sl (pj_n o.2) - pj_sl (pj_n w)) (pj_A g), ⟨B.exec, B.bytes, hml, findClass_of_methodNamed B.named, fun w hw => hts w (List.mem_cons_of_mem _ hw), (name_of_methodNamed B.named B.method).1, hK, rfl, rfl, Nat.le_refl _, Nat.le_refl _, hsz, hg, hlow, ?_⟩, rfl⟩)
  · have k2 := (key h1 h2' (fun v h => by cases h)).2 (Nat.le_refl _) s.heap [] ((lg_sl (as.map (pj_enc g)) ++ List.replicate (nL - (lg_sl (as.map (pj_enc g))).length) Slot.unset).toArray) hH ?_ va_S.rf
    · rw [lg_entry_eq]
      rw [Nat.sub_self, Nat.sub_self] at k2
      exact k2
    · have h := lv_entry (as.map (pj_enc g)) (n := nL) (by rw [pj_ent_len]; exact hn)
      exact ⟨h.1, h.2.1, fun i v hi h9 => h.2.2 (i, pj_enc g v) (by
        have hi2 : (pj_ent as)[i]? = some v := by
          rcases Nat.lt_or_ge i (pj_ent as).length with q | q
          · rwa [List.getElem?_append_left q] at hi
          · rw [List.getElem?_append_right q] at hi
            exact absurd (by rw [List.eq_of_mem_replicate (List.mem_of_getElem? hi)]) h9
        have := pj_ent_at g as 0 i v hi2 h9; rwa [Nat.zero_add] at this)⟩
  · intro pc H locs ls hP1 hS1 hdg hn0 hok hokr
    exact pj_fin B.exec B.bytes B.returns B.notSynchronized hdg (pj_shp_enc hokr.2) (fun t ht hW => ⟨rfl, by rw [ht]; exact hP1, hS1.F ht⟩) hS1.2.2
section
variable {l : Launch} {y : MethodName} {cc : ByteArray} {nL : Nat} {ret : Option FieldType} {fr lo : Nat} {ph : Bool} {g : pj_G} {n0 : Nat} {o : Option pj_V × pj_W} {Go : pj_C → Prop} {pc : Nat} {lls lls' st : List pj_V} {w : pj_W}
/-- the method's end -/
theorem pj_ret (hM : pj_M l y cc nL ret fr lo ph g n0 o Go) {r : Option pj_V} (hd : decode cc pc = .ok (pj_ri ret, 1)) (hsh : pj_shp ret r) (ho : (r, w) = o) (hst : st = r.toList) : Go (pc, lls, st, w) := by
  subst ho; subst hst
  have key : pj_ok ph w → (∀ v ∈ r.toList, pj_okv (pj_n w) v) → pj_n w ≤ pj_n w ∧ pj_ok ph w ∧ pj_okr ret (pj_n w) r := fun h1 h3 => ⟨Nat.le_refl _, h1, fun v hv => h3 v (by rw [hv]; exact List.mem_cons_self), hsh⟩
  rcases hM with ⟨p, e, R, s, m, args, below, meth, c, Q, C, rfl⟩ | rfl
  · intro h1 h2 h3
    refine ⟨key h1 h3, fun hn H locs ls hP hl hS => ?_⟩
    have e1 : (r.toList.map (pj_enc g)) = (r.map (pj_enc g)).toList := by cases r <;> rfl
    rw [e1]
    exact C.2.2.2.2.2.2.2.2.2.2.2.2.2.2 pc H locs ls hP hS hd hn h1 (key h1 h3).2.2
  · exact fun h1 h2 h3 => key h1 h3
/-- what a call of a method needs of the tables -/
def pj_MF (y2 : MethodName) (cc2 : ByteArray) (nL2 : Nat) (ret2 : Option FieldType) (n : Nat) : Prop := Cond.code y2 cc2 nL2 ret2 ∈ pj_T ∧ Cond.initialized y2.cls ∈ pj_T ∧ (y2.cls ≠ "java/lang/invoke/MethodHandle" ∧ y2.cls ≠ "java/lang/invoke/VarHandle") ∧ (parseMethodDescriptor y2.desc).map (fun d => d.parameters.length) = some n
theorem pj_CB {R : Room} {s : State} {args : Array Value} {own : String} {idx : Nat} {y2 : MethodName} {cc2 : ByteArray} {nL2 : Nat} {ret2 : Option FieldType} {n fr2 lo2 cells slots : Nat} (hts : ∀ w ∈ pj_T, w.before args s = true) (hF : pj_MF y2 cc2 nL2 ret2 n) (hl : Cond.methodLink own idx y2 ∈ pj_T) (hR : fr2 + 1 ≤ R.frames ∧ 8 + (nL2 + 11) + lo2 ≤ R.locals) : CallB R s args own idx y2 cc2 nL2 ret2 (Cond.code y2 cc2 nL2 ret2 :: pj_T) { frames := fr2, cells := cells, slots := slots, locals := lo2 } cells slots n :=
  callB_of n hts (fun w hw => (List.mem_cons.mp hw).elim (fun e => by rw [e]; exact pj_T_good _ hF.1) (fun h => pj_T_good w h)) rfl rfl rfl (hts _ hF.2.1) (hts _ hl) ⟨hF.2.2.1.1, hF.2.2.1.2, hF.2.2.2⟩ hR
theorem pj_blind {g : pj_G} {w : pj_W} {av : List Value} : FrameBlind (va_Pc av (pj_S g w)) := fun a U g9 mk q => by
  obtain ⟨q0, ⟨k1, k2, k3, ⟨k4, k5⟩, k6, k7, k8⟩, q1⟩ := q
  exact ⟨q0, ⟨va_K.moved (u := U) (U := U.calling g9 mk a) (Vm.Alike.refl U.vm) k1, fun x hx => va_Nw.same rfl (u := U) (U := U.calling g9 mk a) rfl (k2 x hx), fun C hC => (k3 C hC).moved (U := U.calling g9 mk a) (Vm.Alike.refl U.vm), ⟨k4.same (u := U) (U := U.calling g9 mk a) rfl, k5.same (u := U) (U := U.calling g9 mk a) rfl⟩, k6.moved (u := U) (U := U.calling g9 mk a) (Vm.Alike.refl U.vm), k7.moved (u := U) (U := U.calling g9 mk a) (Vm.Alike.refl U.vm), k8.moved (u := U) (U := U.calling g9 mk a) (Vm.Alike.refl U.vm)⟩, q1⟩
/-- a call, once the machine's way through it is known -/
theorem pj_call (hM : pj_M l y cc nL ret fr lo ph g n0 o Go) {y2 : MethodName} {cc2 : ByteArray} {nL2 : Nat} {ret2 : Option FieldType} {fr2 lo2 : Nat} {as stk : List pj_V} {w' : pj_W} {r : Option pj_V} (hC : pj_Cn l y2 cc2 nL2 ret2 fr2 lo2 ph g as w (r, w')) (has : ∀ v ∈ as, v ∈ stk) (hst : ∀ v ∈ st, v ∈ stk)
    (hrun : ∀ (p : Program) (e : Env) (R : Room) (s : State) (m : MethodId) (args : Array Value) (below : List Frame) (meth : Method) (c : Code) (H : Heap) (locs : List Loc) (cells slots : Nat) (ls : Array Slot), p.tables.exec = Jvm.exec → c.code = cc → c.maxLocals = nL → ls.size = nL → s.vm.findClass y.cls = some m.cls → (∀ w ∈ pj_T, w.before args s = true) → pj_K g s → R.frames = fr → R.locals = lo → va_P g.2.1 pj_cl (pj_ws g w) H → (∀ v ∈ stk, pj_okv (pj_n w) v) → pj_ok ph w → va_S (pj_A g) s.heap H locs → (∀ a : Nat, a < g.1.2.size → ¬ pj_A g a → s.heap[a]? = g.1.2[a]?) →
      (∀ U : State, U.heap = H → s.WarmedH U.vm → va_Pc (as.map (pj_enc g)) (pj_S g w) (as.map (pj_enc g)).toArray U) →
      Met l y2 (Cond.code y2 cc2 nL2 ret2 :: pj_T) { frames := fr2, cells := pj_n w' - pj_n w, slots := pj_sl (pj_n w') - pj_sl (pj_n w), locals := lo2 } (va_Pc (as.map (pj_enc g)) (pj_S g w)) (pj_E g (r, w')) (pj_n w' - pj_n w) (pj_sl (pj_n w') - pj_sl (pj_n w)) (pj_A g) →
      cells + (pj_n w' - pj_n w) ≤ R.cells ∧ slots + (pj_sl (pj_n w') - pj_sl (pj_n w)) ≤ R.slots →
      va_Run p l e R s m args below meth c H locs cells slots (pj_n w' - pj_n w) (pj_sl (pj_n w') - pj_sl (pj_n w)) (F0 m pc ls (stk.map (pj_enc g))) (st.map (pj_enc g)) (pj_E g (r, w') (as.map (pj_enc g)).toArray) (pj_A g))
    (kk : Go (pc + 3, lls, r.toList ++ st, w')) : Go (pc, lls, stk, w) := by
  have pure : ∀ n' : Nat, pj_n w ≤ n' → (∀ v ∈ lls, pj_okv (pj_n w) v) → (∀ v ∈ lls, pj_okv n' v) := fun n' hn h v hv => by
    have := h v hv
    unfold pj_okv at this ⊢
    split at this
    · rename_i h0; rw [if_pos h0]; exact this
    · rename_i h0
      rw [if_neg h0]
      split at this
      · rename_i h3; rw [if_pos h3]; exact this
      · rename_i h3
        rw [if_neg h3]
        split at this
        · rename_i h4; rw [if_pos h4]; trivial
        · rename_i h4
          rw [if_neg h4]
          exact this.imp_right (fun h => ⟨h.1, Nat.lt_of_lt_of_le h.2 hn⟩)
  have pure2 : ∀ n' : Nat, pj_n w ≤ n' → (∀ v ∈ st, pj_okv (pj_n w) v) → (∀ v ∈ st, pj_okv n' v) := fun n' hn h v hv => by
    have := h v hv
    unfold pj_okv at this ⊢
    split at this
    · rename_i h0; rw [if_pos h0]; exact this
    · rename_i h0
      rw [if_neg h0]
      split at this
      · rename_i h3; rw [if_pos h3]; exact this
      · rename_i h3
        rw [if_neg h3]
        split at this
        · rename_i h4; rw [if_pos h4]; trivial
        · rename_i h4
          rw [if_neg h4]
          exact this.imp_right (fun h => ⟨h.1, Nat.lt_of_lt_of_le h.2 hn⟩)
  have okst : pj_okr ret2 (pj_n w') r → pj_n w ≤ pj_n w' → (∀ v ∈ stk, pj_okv (pj_n w) v) → ∀ v ∈ r.toList ++ st, pj_okv (pj_n w') v := fun hr hn h v hv => by
    rcases List.mem_append.mp hv with h1 | h1
    · exact hr.1 v (by cases r with
        | none => cases h1
        | some x => rw [List.mem_singleton.mp h1])
    · exact pure2 _ hn (fun v hv => h v (hst v hv)) v h1
  rcases hM with ⟨p, e, R, s, m, args, below, meth, c, Q, C, rfl⟩ | rfl
  · intro h1 h2 h3
    obtain ⟨⟨c1, c2, c3⟩, hMet⟩ := hC h1 (fun v hv => h3 v (has v hv))
    obtain ⟨k1, k2⟩ := kk c2 (pure _ c1 h2) (okst c3 c1 h3)
    refine ⟨⟨Nat.le_trans c1 k1.1, k1.2⟩, fun hn H locs ls hP hl hS => ?_⟩
    obtain ⟨hx, hb, hml, hown, hts, hnm, hK, hfr, hlo, hcl, hsl, hsz, hg, hlow, -⟩ := C
    have hn1 : n0 ≤ pj_n w := hn
    intro T hT X
    have hz : H.size = g.1.1 + pj_n w := by
      have q1 : T.heap.size ≤ s.heap.size + (pj_n w - n0) := X.heapSize
      rw [hT, hsz] at q1
      rcases Nat.eq_zero_or_pos (pj_n w) with q0 | q0
      · have := hS.1; rw [hsz] at this; omega
      · have q3 : (pj_ws g w)[pj_n w - 1]? = some (g.1.1 + (pj_n w - 1), pj_cell g w (pj_L.getD (pj_n w - 1) (0, 0))) := by
          unfold pj_ws
          rw [List.getElem?_map, List.getElem?_range (by omega)]
          rfl
        have q2 : g.1.1 + (pj_n w - 1) < H.size := (hP (pj_n w - 1) _ q3).lt
        omega
    have m1 : pj_sl n0 ≤ pj_sl (pj_n w) := pj_sl_mono hn
    have m2 := pj_sl_mono c1
    have m3 := pj_sl_mono k1.1
    have c1' : pj_n w ≤ pj_n w' := c1
    have k1' : pj_n w' ≤ pj_n o.2 := k1.1
    have m2' : pj_sl (pj_n w) ≤ pj_sl (pj_n w') := m2
    have m3' : pj_sl (pj_n w') ≤ pj_sl (pj_n o.2) := m3
    obtain ⟨v, st₀, t, T', L, e0, X', hL, e1, e2, ⟨hv, hPt, hFt⟩, stp⟩ := hrun p e R s m args below meth c H locs (pj_n w - n0) (pj_sl (pj_n w) - pj_sl n0) ls hx hb hml hl.1 hown hts hK hfr hlo hP h3 h1 hS (fun a ha _ => hlow a (by rw [hg] at ha; exact ha)) (fun U hU hW => ⟨rfl, hK.warm hW, by rw [hU]; exact hz, hg, fun q hq => by
      rw [hU, hS.2.1 q (by rw [hsz]; omega) (fun h => absurd h (by show ¬ g.1.1 ≤ q; omega))]
      exact hlow q hq, by rw [hU]; exact hP⟩) hMet ⟨by omega, by omega⟩ T hT X
    cases hv
    have k3 := k2 (Nat.le_trans hn c1) t.heap (locs ++ L) ls hPt hl ⟨by
        have := hFt.1
        rw [e0] at this
        exact Nat.le_trans hS.1 this, fun q h5 h6 => by
        have := hFt.2 q (by rw [e0]; exact Nat.lt_of_lt_of_le h5 hS.1) h6
        rw [e0] at this
        rw [this]
        exact hS.2.1 q h5 h6, fun q hq => by
        rcases List.mem_append.mp hq with h | h
        · exact hS.2.2 q h
        · exact hL q h⟩
    have e5 : (r.toList ++ st).map (pj_enc g) = (r.map (pj_enc g)).toList ++ st.map (pj_enc g) := by cases r <;> rfl
    simp only [e5] at k3
    have a1 : pj_n w - n0 + (pj_n w' - pj_n w) = pj_n w' - n0 := by omega
    have a2 : pj_sl (pj_n w) - pj_sl n0 + (pj_sl (pj_n w') - pj_sl (pj_n w)) = pj_sl (pj_n w') - pj_sl n0 := by omega
    rw [a1, a2] at X'
    obtain ⟨t2, b1, b2⟩ := k3 T' e1 X'
    exact ⟨t2, stp t2 b1, b2⟩
  · intro h1 h2 h3
    obtain ⟨⟨c1, c2, c3⟩, -⟩ := hC h1 (fun v hv => h3 v (has v hv))
    have k1 := kk c2 (pure _ c1 h2) (okst c3 c1 h3)
    exact ⟨Nat.le_trans c1 k1.1, k1.2⟩
end
