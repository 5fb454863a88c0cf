/-! THE CLAIM OUT OF ONE WALK OF THE LAW'S BODY. Your part is whole_start (and what it stands on); all else here is the same for every law, but numbers. -/
def R_law : String := "LastPebbleLaw"
def lw_P (b : Addr) (xs : List Int32) (args : Array Value) (s : State) : Prop := args = #[.ref b] ∧ s.IntsAt b xs ∧ xs.length ≤ 3072 ∧ (Jvm.Cond.and given_1 narrow_1).before args s = true
def lw_Q (_ : Array Value) (s : State) (o : Outcome) (t : State) : Prop := o = .returned (some (.int 1)) ∧ Framed s o t [] 600000 7302250
def lw_Z (below : List Frame) (a : Array Value) (s : State) : State → Prop := fun t => ∃ o, t.status = .running ∧ Ended t below o ∧ lw_Q a s o t
/-- the law's own end, with 1 on the stack, nothing written that was there before, its room as the claim has it -/
theorem lw_ret {p : Program} {l : Launch} {e : Env} {s : State} {m : MethodId} {below : List Frame} {meth : Method} {c : Code} {b : Nat} (hx : p.tables.exec = Jvm.exec) (hb : c.code = code) (hr : meth.sig.returnType = ret) (hlocks : meth.locks = false) {pc : Nat} {H : Heap} {ls : Array Slot} (hdg : decode code pc = .ok (.ireturn, 1)) : W p l e room_1 s m #[Value.ref b] below meth c H [] 600000 7302250 (lw_Z below #[Value.ref b] s) (F0 m pc ls [.int 1]) := by
  intro T hT X
  obtain ⟨fs, hret, hrun, hended, hW, hframe⟩ := X.leave (v := some (.int 1)) (hlocks := hlocks) (fun h => by rw [hr] at h; cases h)
  have hmeth' : T.vm.method? m = some meth := X.method'
  refine ⟨T.setFrames fs, ?_, .returned (some (.int 1)), hrun, hended, rfl, ⟨_, rfl⟩, hW, hframe⟩
  jvm_step X.here [X.here.top, hx, hb, hdg, hmeth', hr, ret, narrow_b1]
  (try refine ⟨rfl, ?_⟩); (try refine ⟨rfl, ?_⟩)
  first | (intro acts; rw [hret _ acts rfl rfl rfl]) | rw [hret _ _ rfl rfl rfl]
  exact Steps.refl _
/-- what holds at the law's entry: the machine, the code, the tables' words (any of lw_tbl by 'hts w (by decide +kernel)'), the script of L ints xs at the cell b, what the Statement gives of the start (any of its parts by flat_of_before) -/
def lw_At (p : Program) (s : State) (m : MethodId) (meth : Method) (c : Code) (b L : Nat) (xs : Nat → Int32) : Prop :=
  p.tables.exec = Jvm.exec ∧ c.code = code ∧ meth.sig.returnType = ret ∧ c.maxLocals = 4 ∧ s.vm.findClass R_law = some m.cls ∧ (∀ w ∈ lw_tbl, w.before #[Value.ref b] s = true) ∧ va_X b L xs s s.heap ∧ b < s.heap.size ∧ meth.locks = false ∧ (Jvm.Cond.and given_1 narrow_1).before #[Value.ref b] s = true ∧ meth.name = yL_law.name
theorem st_tw1 {w : Cond} (h : w ∈ tables_1_1) : w ∈ lw_tbl := List.mem_append_right _ (show w ∈ tables_1 from List.mem_append_left _ h)
theorem st_tw2 {w : Cond} (h : w ∈ tables_1_2) : w ∈ lw_tbl := List.mem_append_right _ (show w ∈ tables_1 from List.mem_append_right _ (List.mem_append_left _ h))
theorem st_tw3 {w : Cond} (h : w ∈ tables_1_3) : w ∈ lw_tbl := List.mem_append_right _ (show w ∈ tables_1 from List.mem_append_right _ (List.mem_append_right _ (List.mem_append_left _ h)))
theorem st_tw4 {w : Cond} (h : w ∈ tables_1_4) : w ∈ lw_tbl := List.mem_append_right _ (show w ∈ tables_1 from List.mem_append_right _ (List.mem_append_right _ (List.mem_append_right _ (List.mem_append_left _ h))))
theorem st_tw5 {w : Cond} (h : w ∈ tables_1_5) : w ∈ lw_tbl := List.mem_append_right _ (show w ∈ tables_1 from List.mem_append_right _ (List.mem_append_right _ (List.mem_append_right _ (List.mem_append_right _ (List.mem_append_left _ h)))))
theorem st_tw6 {w : Cond} (h : w ∈ tables_1_6) : w ∈ lw_tbl := List.mem_append_right _ (show w ∈ tables_1 from List.mem_append_right _ (List.mem_append_right _ (List.mem_append_right _ (List.mem_append_right _ (List.mem_append_right _ (List.mem_append_left _ h))))))
theorem st_tw7 {w : Cond} (h : w ∈ tables_1_7) : w ∈ lw_tbl := List.mem_append_right _ (show w ∈ tables_1 from List.mem_append_right _ (List.mem_append_right _ (List.mem_append_right _ (List.mem_append_right _ (List.mem_append_right _ (List.mem_append_right _ (List.mem_append_left _ h)))))))
theorem st_tw8 {w : Cond} (h : w ∈ tables_1_8) : w ∈ lw_tbl := List.mem_append_right _ (show w ∈ tables_1 from List.mem_append_right _ (List.mem_append_right _ (List.mem_append_right _ (List.mem_append_right _ (List.mem_append_right _ (List.mem_append_right _ (List.mem_append_right _ (List.mem_append_left _ h))))))))
theorem st_tw9 {w : Cond} (h : w ∈ tables_1_9) : w ∈ lw_tbl := List.mem_append_right _ (show w ∈ tables_1 from List.mem_append_right _ (List.mem_append_right _ (List.mem_append_right _ (List.mem_append_right _ (List.mem_append_right _ (List.mem_append_right _ (List.mem_append_right _ (List.mem_append_right _ (h)))))))))
theorem vk_S.ex {N : Nat} {len : List Nat} {byt : List (List Int32)} {a v a' v' : Nat → Nat} {A : Nat → Prop} {U : State} {H : Heap} (h : vk_S N len byt a v A U H) (h1 : ∀ i, i < N → a' i = a i) (h2 : ∀ i, i < N → v' i = v i) : vk_S N len byt a' v' A U H :=
  ⟨fun i hi => by rw [h1 i hi, h2 i hi]; exact h.1 i hi, fun i j hi hj e => h.2 i j hi hj (by rw [← h1 i hi, ← h1 j hj]; exact e)⟩
/-- the conditions of the start, one by one -/
def st_fl : List Cond := flatC (Jvm.Cond.and given_1 narrow_1)
def st_tm (i : Nat) : Term := if i = 0 then .string "LastPebbleModel" 178 else .string "LastPebble$Reader" 38
theorem st_el0 : ∀ j : Fin 151, st_fl[227 + j.val]? = some (Cond.eq (.elem (.field (.string "LastPebbleModel" 178) "java/lang/String" "value" "[B") (.int (Int32.ofNat j.val))) (.int ((pj_byt.getD 0 []).getD j.val 0))) := by decide +kernel
theorem st_el1 : ∀ j : Fin 150, st_fl[73 + j.val]? = some (Cond.eq (.elem (.field (.string "LastPebble$Reader" 38) "java/lang/String" "value" "[B") (.int (Int32.ofNat j.val))) (.int ((pj_byt.getD 1 []).getD j.val 0))) := by decide +kernel
theorem st_c : st_fl[4]? = some (Cond.eq (.static "java/lang/String" "COMPACT_STRINGS" "Z") (.int 1)) ∧ st_fl[5]? = some (Cond.isRef (.static "jdk/internal/util/Preconditions" "SIOOBE_FORMATTER" "Ljava/util/function/BiFunction;")) ∧
  (st_fl[223]? = some (Cond.exactly (.string "LastPebbleModel" 178) "java/lang/String") ∧ st_fl[224]? = some (Cond.eq (.field (.string "LastPebbleModel" 178) "java/lang/String" "coder" "B") (.int 0)) ∧ st_fl[225]? = some (Cond.arrayOf (.field (.string "LastPebbleModel" 178) "java/lang/String" "value" "[B") .byte) ∧ st_fl[226]? = some (Cond.eq (.length (.field (.string "LastPebbleModel" 178) "java/lang/String" "value" "[B")) (.int (Int32.ofNat (pj_len.getD 0 0))))) ∧
  (st_fl[69]? = some (Cond.exactly (.string "LastPebble$Reader" 38) "java/lang/String") ∧ st_fl[70]? = some (Cond.eq (.field (.string "LastPebble$Reader" 38) "java/lang/String" "coder" "B") (.int 0)) ∧ st_fl[71]? = some (Cond.arrayOf (.field (.string "LastPebble$Reader" 38) "java/lang/String" "value" "[B") .byte) ∧ st_fl[72]? = some (Cond.eq (.length (.field (.string "LastPebble$Reader" 38) "java/lang/String" "value" "[B")) (.int (Int32.ofNat (pj_len.getD 1 0))))) ∧
  st_fl[378]? = some (Cond.not (Cond.eq (.string "LastPebble$Reader" 38) (.string "LastPebbleModel" 178))) := by decide +kernel
section
variable {s : State} {b : Nat}
theorem st_texts (h : (Jvm.Cond.and given_1 narrow_1).before #[Value.ref b] s = true) {A : Nat → Prop} (hA : ∀ a : Nat, a < s.heap.size → ¬ A a) : ∃ adK adV : Nat → Nat, vk_S 2 pj_len pj_byt adK adV A s s.heap ∧ ∀ i : Nat, i < 2 → (st_tm i).eval #[Value.ref b] s none [] s = some (.ref (adK i)) := by
  have hs : ∀ c ∈ st_fl, c.before #[Value.ref b] s = true := flat_of_before _ h
  obtain ⟨_, _, ⟨m1, m2, m3, m4⟩, ⟨r1, r2, r3, r4⟩, n1⟩ := st_c
  have two : ∀ {P : Nat → Prop}, P 0 → P 1 → ∀ i : Nat, i < 2 → P i := fun p0 p1 i hi => by
    match i, hi with
    | 0, _ => exact p0
    | 1, _ => exact p1
  refine vk_Sof (tm := st_tm) (two (by decide) (by decide)) (two (hs _ (List.mem_of_getElem? m1)) (hs _ (List.mem_of_getElem? r1))) (two (hs _ (List.mem_of_getElem? m2)) (hs _ (List.mem_of_getElem? r2))) (two (hs _ (List.mem_of_getElem? m3)) (hs _ (List.mem_of_getElem? r3))) (two (hs _ (List.mem_of_getElem? m4)) (hs _ (List.mem_of_getElem? r4))) (two (fun j hj => hs _ (List.mem_of_getElem? (st_el0 ⟨j, hj⟩))) (fun j hj => hs _ (List.mem_of_getElem? (st_el1 ⟨j, hj⟩)))) (fun i j hi hj hij => ?_) hA
  match i, j, hi, hj with
  | 0, 0, _, _ => exact absurd rfl hij
  | 1, 1, _, _ => exact absurd rfl hij
  | 0, 1, _, _ => exact Or.inr (hs _ (List.mem_of_getElem? n1))
  | 1, 0, _, _ => exact Or.inl (hs _ (List.mem_of_getElem? n1))
theorem st_arrI {args : Array Value} (h : (Cond.arrayClass .int).before args s = true) : ∃ cA, ArrOfT s cA .int ∧ va_RA s cA .int := by
  obtain ⟨c, k, comp, h1, h2, h3⟩ := Cond.arrayClass_spec h
  exact ⟨c, fun n z => ⟨fun k h => (by cases h), k, h2, comp, h3⟩, h1⟩
theorem st_arrB {args : Array Value} (h : (Cond.arrayClass .byte).before args s = true) : ∃ cA, ArrOfT s cA .byte ∧ va_RA s cA .byte := by
  obtain ⟨c, k, comp, h1, h2, h3⟩ := Cond.arrayClass_spec h
  exact ⟨c, fun n z => ⟨fun k h => (by cases h), k, h2, comp, h3⟩, h1⟩
theorem st_arrL {args : Array Value} (h : (Cond.arrayClass .long).before args s = true) : ∃ cA, ArrOfT s cA .long ∧ va_RA s cA .long := by
  obtain ⟨c, k, comp, h1, h2, h3⟩ := Cond.arrayClass_spec h
  exact ⟨c, fun n z => ⟨fun k h => (by cases h), k, h2, comp, h3⟩, h1⟩
theorem st_arrO {args : Array Value} {C : String} (h : (Cond.arrayOver (.object C)).before args s = true) : ∃ cA, ArrOfT s cA (.object C) ∧ va_RA s cA (.object C) := by
  obtain ⟨comp, c, k, h1, h2, h3, h4, h5⟩ := Cond.arrayOver_spec h
  exact ⟨c, fun n z => ⟨fun k h => (by cases h), k, h3, comp, h4⟩, k, comp, h3, h4, h1, h5⟩
theorem st_known {args : Array Value} (hT : ∀ w ∈ pj_T, w.before args s = true) : ∃ D : va_G, ∀ (c : Nat) (q : vw_C), pj_cl[c]? = some q → u_Kn s q.1 q.2.1 q.2.2 (D.1 c) (D.2 c) := by
  have key : ∀ c : Nat, ∃ x : ClassId × (Nat → Nat), ∀ q : vw_C, pj_cl[c]? = some q → u_Kn s q.1 q.2.1 q.2.2 x.1 x.2 := by
    have one : ∀ (c : Nat) (r : vw_C) (n : Nat), pj_cl[c]? = some r → Cond.instantiable r.1 n ∈ pj_T → ∃ x : ClassId × (Nat → Nat), ∀ q : vw_C, pj_cl[c]? = some q → u_Kn s q.1 q.2.1 q.2.2 x.1 x.2 := fun c r n hr hi => by
      obtain ⟨cC, iS, h⟩ := u_known (n := n) hT (pj_cls c r hr).1 (hT _ hi)
      exact ⟨(cC, iS), fun q hq => by rw [hr] at hq; cases hq; exact h⟩
    intro c
    match c with
    | 0 => exact one 0 _ _ rfl kn_19.1
    | 1 => exact one 1 _ _ rfl kn_13.1
    | 2 => exact one 2 _ _ rfl kn_24.1
    | 3 => exact one 3 _ _ rfl kn_14.1
    | 4 => exact one 4 _ _ rfl kn_23.1
    | 5 => exact one 5 _ _ rfl kn_22.1
    | 6 => exact one 6 _ _ rfl kn_18.1
    | 7 => exact one 7 _ _ rfl kn_12.1
    | 8 => exact one 8 _ _ rfl kn_17.1
    | 9 => exact one 9 _ _ rfl kn_25.1
    | 10 => exact one 10 _ _ rfl kn_10.1
    | 11 => exact one 11 _ _ rfl kn_10.1
    | 12 => exact one 12 _ _ rfl kn_26.1
    | n + 13 => exact ⟨(0, fun _ => 0), fun q hq => by simp at hq⟩
  obtain ⟨f, hf⟩ := Classical.axiomOfChoice key
  exact ⟨(fun c => (f c).1, fun c => (f c).2), fun c q hq => hf c q hq⟩
/-- what stays, at the start -/
theorem st_K (h : (Jvm.Cond.and given_1 narrow_1).before #[Value.ref b] s = true) (hts : ∀ w ∈ lw_tbl, w.before #[Value.ref b] s = true) (L : Nat) (xs : Nat → Int32) : ∃ g : pj_G, g.1 = (s.heap.size, s.heap) ∧ g.2.2.2.1 = (b, L, xs) ∧ pj_K g s := by
  have hs : ∀ c ∈ st_fl, c.before #[Value.ref b] s = true := flat_of_before _ h
  have hT : ∀ w ∈ pj_T, w.before #[Value.ref b] s = true := fun w hw => hts w (List.mem_filter.mp hw).1
  have hA : ∀ a : Nat, a < s.heap.size → ¬ (fun q : Nat => s.heap.size ≤ q) a := fun a ha => Nat.not_le.mpr ha
  obtain ⟨adK, adV, hS, hE⟩ := st_texts h hA
  obtain ⟨D, hD⟩ := st_known hT
  obtain ⟨c0, p0⟩ := st_arrI (hT _ mo_int)
  obtain ⟨c1, p1⟩ := st_arrB (hT _ mo_byte)
  obtain ⟨c2, p2⟩ := st_arrL (hT _ mo_long)
  have a3 : (Cond.arrayOver (.object RX9)).before #[Value.ref b] s = true := hts _ (st_tw1 (List.mem_of_getElem? (i := 29) rfl))
  obtain ⟨c3, p3⟩ := st_arrO a3
  have a4 : (Cond.arrayOver (.object RX2)).before #[Value.ref b] s = true := hts _ (st_tw1 (List.mem_of_getElem? (i := 171) rfl))
  obtain ⟨c4, p4⟩ := st_arrO a4
  have a5 : (Cond.arrayOver (.object RX0)).before #[Value.ref b] s = true := hts _ (st_tw1 (List.mem_of_getElem? (i := 173) rfl))
  obtain ⟨c5, p5⟩ := st_arrO a5
  have a6 : (Cond.arrayOver (.object RX5)).before #[Value.ref b] s = true := hts _ (st_tw2 (List.mem_of_getElem? (i := 5) rfl))
  obtain ⟨c6, p6⟩ := st_arrO a6
  have a7 : (Cond.arrayOver (.object RX4)).before #[Value.ref b] s = true := hts _ (st_tw2 (List.mem_of_getElem? (i := 7) rfl))
  obtain ⟨c7, p7⟩ := st_arrO a7
  have hZ1 := va_Zof (A := fun q : Nat => s.heap.size ≤ q) (hts _ (st_tw1 (List.mem_of_getElem? (i := 46) rfl))) (hts _ (st_tw1 (List.mem_of_getElem? (i := 3) rfl))) (va_eqt (hs _ (List.mem_of_getElem? st_c.1))) hA
  have hZ2 := va_Zqof (A := fun q : Nat => s.heap.size ≤ q) (hts _ (st_tw1 (List.mem_of_getElem? (i := 62) rfl))) (hts _ (st_tw1 (List.mem_of_getElem? (i := 5) rfl))) (hs _ (List.mem_of_getElem? st_c.2.1)) hA
  obtain ⟨fz, ft, hZ3⟩ : ∃ fz ft : Nat, va_Z "jdk/internal/util/Preconditions" "SIOOBE_FORMATTER" "Ljava/util/function/BiFunction;" (if fz = 0 then .null else .ref ft) (fun q : Nat => s.heap.size ≤ q) s s.heap := by
    rcases hZ2 with h | ⟨t, h⟩
    · exact ⟨0, 0, h⟩
    · exact ⟨1, t, h⟩
  refine ⟨((s.heap.size, s.heap), D, (fun k => if k = 0 then c0 else if k = 1 then c1 else if k = 2 then c2 else if k = 3 then c3 else if k = 4 then c4 else if k = 5 then c5 else if k = 6 then c6 else c7), (b, L, xs), fun i => if i = 4 then adK 0 else if i = 5 then adK 1 else if i = 6 then adV 0 else if i = 7 then adV 1 else if i = 8 then ft else fz), rfl, rfl, ⟨hD, fun k q hk => ?_⟩, fun q hq => ?_, fun C hC => ?_, ⟨?_, ?_⟩, hS.ex (fun i hi => ?_) (fun i hi => ?_), hZ1, hZ3⟩
  · match k, hk with
    | 0, hk => cases hk; exact p0
    | 1, hk => cases hk; exact p1
    | 2, hk => cases hk; exact p2
    | 3, hk => cases hk; exact p3
    | 4, hk => cases hk; exact p4
    | 5, hk => cases hk; exact p5
    | 6, hk => cases hk; exact p6
    | 7, hk => cases hk; exact p7
    | n + 8, hk => simp at hk
  · unfold pj_nest at hq
    simp only [List.mem_cons, List.not_mem_nil, or_false] at hq
    rcases hq with hq | hq | hq | hq | hq | hq
    · subst hq; exact va_Nw.of rfl (hts _ (st_tw1 (List.mem_of_getElem? (i := 176) rfl)))
    · subst hq; exact va_Nw.of rfl (hts _ (st_tw1 (List.mem_of_getElem? (i := 218) rfl)))
    · subst hq; exact va_Nw.of rfl (hts _ (st_tw2 (List.mem_of_getElem? (i := 9) rfl)))
    · subst hq; exact va_Nw.of rfl (hts _ (st_tw2 (List.mem_of_getElem? (i := 48) rfl)))
    · subst hq; exact va_Nw.of rfl (hts _ (st_tw2 (List.mem_of_getElem? (i := 149) rfl)))
    · subst hq; exact va_Nw.of rfl (hts _ (st_tw2 (List.mem_of_getElem? (i := 190) rfl)))
  · simp only [List.mem_cons, List.not_mem_nil, or_false] at hC
    rcases hC with hC | hC | hC | hC | hC
    · subst hC; exact va_AO.of a3
    · subst hC; exact va_AO.of a4
    · subst hC; exact va_AO.of a5
    · subst hC; exact va_AO.of a6
    · subst hC; exact va_AO.of a7
  · exact vk_R.of (hts _ (st_tw7 (List.mem_of_getElem? (i := 162) rfl))) (hE 0 (by decide))
  · exact vk_R.of (hts _ (st_tw1 (List.mem_of_getElem? (i := 36) rfl))) (hE 1 (by decide))
  · match i, hi with
    | 0, _ => rfl
    | 1, _ => rfl
  · match i, hi with
    | 0, _ => rfl
    | 1, _ => rfl
end
theorem st_ok0 : pj_ok false vi_w0 := by
  refine ⟨Nat.zero_le _, fun k i s hm hs => ?_, fun k i s hm hn hs => rfl, fun h => by cases h⟩
  have hz : vi_w0 k i (s : Int) = pj_df (pj_tg k s) := rfl
  rw [hz]
  unfold pj_df
  by_cases c : pj_tg k s < 10
  · rw [if_pos c]
    refine ⟨?_, fun _ => Or.inl rfl, fun _ => ⟨by decide, by decide⟩⟩
    unfold pj_okv
    dsimp only
    by_cases c0 : pj_pt (pj_tg k s) = 0
    · rw [if_pos c0]; exact ⟨by decide, by decide⟩
    · rw [if_neg c0]
      by_cases c1 : pj_pt (pj_tg k s) = 1
      · rw [if_pos c1]; exact ⟨by decide, by decide⟩
      · rw [if_neg c1]
        have hp : pj_pt (pj_tg k s) < 10 := by
          unfold pj_pt
          by_cases c5 : pj_tg k s = 5 ∨ pj_tg k s = 6
          · rw [if_pos c5]; decide
          · rw [if_neg c5]; exact c
        rw [if_pos hp]
        trivial
  · rw [if_neg c]
    refine ⟨?_, fun h => by omega, fun h => by omega⟩
    have hp : pj_pt (pj_tg k s) = pj_tg k s := by
      unfold pj_pt
      rw [if_neg (by omega)]
    unfold pj_okv
    dsimp only
    rw [hp, if_neg (by omega), if_neg (by omega), if_neg c]
    exact Or.inl rfl
/-- all is made: the picture is whole -/
theorem st_okT {w : pj_W} (h : pj_ok false w) (S : vi_start w) : pj_ok true w := ⟨h.1, h.2.1, h.2.2.1, fun _ => ⟨S.1, vi_fin S.2.1⟩⟩
theorem st_okF {w : pj_W} (h : pj_ok true w) : pj_ok false w := ⟨h.1, h.2.1, h.2.2.1, fun h => by cases h⟩
section
variable {l : Launch} {g : pj_G} {n0 : Nat} {o : Option pj_V × pj_W}
/-- from the entry to the loop -/
theorem st_key {Go : pj_C → Prop} {w1 w2 : pj_W} (hM : pj_M l yL_law cL_law 4 (some .boolean) 15 582 false g n0 o Go) (a1 : fX_init_c (pj_up vi_w0) = some w1) (a2 : pj_n w1 = 227) (b1 : fM_init_c (pj_up w1) = some w2) (kk : Go (18, [(3, 0), (10, 0), (26, 0), (0, 0)], [], w2)) : Go (0, [(3, 0), (9, 0), (9, 0), (9, 0)], [], vi_w0) :=
  pj_newZ hM dL_law_0 kl_L_7 kn_10.1 kn_10.2 rfl rfl kt_10 (by decide) (vn_0 vi_n0 rfl) (vn_1 vi_n0 rfl)
  (pj_dup hM dL_law_3 (by decide)
  (pj_callI hM (cX_init_c _ w1 a1) dL_law_4 mf_X11_init mi_X11_init (Or.inl ml_L_9) (by decide) rfl rfl (Int.le_refl 0) rfl rfl
  (pj_astore_n hM dL_law_7 (by decide) (by decide) (lls' := [(3, 0), (10, 0), (9, 0), (9, 0)]) rfl
  (pj_newZ hM dL_law_8 kl_L_10 kn_26.1 kn_26.2 rfl rfl kt_26 (by decide) (vn_0 a2 rfl) (vn_1 a2 rfl)
  (pj_dup hM dL_law_11 (by decide)
  (pj_callI hM (cM_init_c _ w2 b1) dL_law_12 mf_X12_init mi_X12_init (Or.inl ml_L_12) (by decide) rfl rfl (Int.le_refl 0) rfl rfl
  (pj_astore_n hM dL_law_15 (by decide) (by decide) (lls' := [(3, 0), (10, 0), (26, 0), (9, 0)]) rfl
  (pj_iconst hM dL_law_16 (by decide)
  (pj_istore_n hM dL_law_17 (by decide) (lls' := [(3, 0), (10, 0), (26, 0), (0, 0)]) rfl kk)))))))))
/-- the law's walk, over both of its pictures -/
theorem st_18 {Go : pj_C → Prop} {w2 wf : pj_W} (hX : pj_LX l g true n0 ((some (0, 1) : Option pj_V), wf) Go) (hf : fW_law_18 (pj_sX g) (pj_sN g) (0, w2) = some (1, wf)) : Go (18, [(3, 0), (10, 0), (26, 0), (0, 0)], [], w2) :=
  tW_law_18 hX (fun r => r = (1, wf)) (fun r hr => by rw [hr]) (0, w2) (1, wf) hf rfl
end
theorem st_sl : pj_sl pj_L.length ≤ 7302250 := Nat.le_of_ble_eq_true (by decide +kernel)
set_option maxHeartbeats 4000000 in
theorem whole_start {p : Program} {e : Env} {s : State} {m : MethodId} {below : List Frame} {meth : Method} {c : Code} (l : Launch) (hflags : l.flags = flags0) {b L : Nat} {xs : Nat → Int32} (hL : L ≤ 3072) (C0 : lw_At p s m meth c b L xs) : W p l e room_1 s m #[Value.ref b] below meth c s.heap [] 0 0 (lw_Z below #[Value.ref b] s) (entryFrame m ([Value.ref b] : List Value).toArray 4) := by
  obtain ⟨hx, hb, hr, hml, hown, hts, hX, hbl, hlocks, hgv, hname⟩ := C0
  obtain ⟨g, g1, g2, hK⟩ := st_K hgv hts L xs
  have hT : ∀ w ∈ pj_T, w.before #[Value.ref b] s = true := fun w hw => hts w (List.mem_filter.mp hw).1
  obtain ⟨w1, w2, a1, a2, b1, S⟩ := vi_all
  have hsN : pj_sN g = (L : Int) := by unfold pj_sN; rw [g2]
  have hxs : lg_ok (pj_sX g) := fun j => pj_in32 _
  obtain ⟨wf, hf⟩ := lg_all (sL := pj_sN g) hxs (by rw [hsN]; omega) (by rw [hsN]; omega) 3072 0 w2 (by rw [hsN]; omega) S.2.2 (by omega)
  have hf : fW_law_18 (pj_sX g) (pj_sN g) (0, w2) = some (1, wf) := hf
  have hg11 : g.1.1 = s.heap.size := by rw [g1]
  have hg12 : g.1.2 = s.heap := by rw [g1]
  have hgb : g.2.2.2.1.1 = b := by rw [g2]
  have hgL : g.2.2.2.1.2.1 = L := by rw [g2]
  have hgx : g.2.2.2.1.2.2 = xs := by rw [g2]
  -- what the pure picture says of the end
  have hpure := st_key (l := l) (g := g) (n0 := 0) (o := ((some (0, 1) : Option pj_V), wf)) (Go := pj_GoP false (some .boolean) ((some (0, 1) : Option pj_V), wf)) (Or.inr rfl) a1 a2 b1 (fun h1 h2 h3 => by
    have k0 := st_18 (l := l) (g := g) (n0 := 0) (Go := pj_GoP true (some .boolean) ((some (0, 1) : Option pj_V), wf)) (Or.inr ⟨by rw [hgL]; exact hL, rfl⟩) hf
    have k := k0 (st_okT h1 S) h2 h3
    exact ⟨k.1, st_okF k.2.1, k.2.2⟩)
  have hloc : ∀ v ∈ ([(3, 0), (9, 0), (9, 0), (9, 0)] : List pj_V), pj_okv (pj_n vi_w0) v := fun v hv => by
    simp only [List.mem_cons, List.not_mem_nil, or_false] at hv
    rcases hv with hv | hv | hv | hv <;> subst hv <;> trivial
  have hend := hpure st_ok0 hloc (fun v hv => by cases hv)
  have hn : pj_n wf ≤ pj_L.length := hend.2.1.1
  have hn2 : pj_sl (pj_n wf) ≤ 7302250 := Nat.le_trans (pj_sl_mono hn) st_sl
  have hn1 : pj_n wf ≤ 600000 := Nat.le_trans hn (Nat.le_of_ble_eq_true (by decide +kernel))
  have hCx : ∀ ph : Bool, pj_Cx l yL_law cL_law 4 (some .boolean) 15 582 ph g 0 ((some (0, 1) : Option pj_V), wf) p e room_1 s m #[Value.ref b] below meth c (lw_Z below #[Value.ref b] s) := fun ph => by
    refine ⟨hx, hb, hml, hown, hT, hname, hK, rfl, rfl, ?_, ?_, hg11.symm, by rw [hg12, hg11], fun q _ => by rw [hg12], fun pc H locs ls hP hS hdg _ _ _ => ?_⟩
    · exact Nat.le_trans (Nat.sub_le _ _) hn1
    · exact Nat.le_trans (Nat.sub_le _ _) hn2
    · refine va_forget (fun q hq => by have := hS.2.2 q hq; unfold pj_A at this; rw [hg11] at this; exact this) (W.widen (k := 600000) (n := 7302250) (Nat.le_trans (Nat.sub_le _ _) hn1) (Nat.le_trans (Nat.sub_le _ _) hn2) ?_)
      exact lw_ret hx hb hr hlocks hdg
  have hgo : pj_Go false g 0 4 (some .boolean) ((some (0, 1) : Option pj_V), wf) p l e room_1 s m #[Value.ref b] below meth c (lw_Z below #[Value.ref b] s) (0, [(3, 0), (9, 0), (9, 0), (9, 0)], [], vi_w0) := by
    refine st_key (l := l) (n0 := 0) (o := ((some (0, 1) : Option pj_V), wf)) (Or.inl ⟨p, e, room_1, s, m, #[Value.ref b], below, meth, c, lw_Z below #[Value.ref b] s, hCx false, rfl⟩) a1 a2 b1 (fun h1 h2 h3 => ?_)
    have k0 := st_18 (l := l) (g := g) (n0 := 0) (Go := pj_Go true g 0 4 (some .boolean) ((some (0, 1) : Option pj_V), wf) p l e room_1 s m #[Value.ref b] below meth c (lw_Z below #[Value.ref b] s)) (Or.inl ⟨p, e, room_1, s, m, #[Value.ref b], below, meth, c, lw_Z below #[Value.ref b] s, hCx true, ⟨by rw [hgb, hgL, hgx]; exact hX, by rw [hgb]; exact hbl, by rw [hgb, hg11]; exact hbl, by rw [hgL]; exact hL⟩, rfl⟩) hf
    have k := k0 (st_okT h1 S) h2 h3
    exact ⟨⟨k.1.1, st_okF k.1.2.1, k.1.2.2⟩, k.2⟩
  obtain ⟨_, kW⟩ := hgo st_ok0 hloc (fun v hv => by cases hv)
  have hl := lv_entry ([Value.ref b]) (n := 4) (Nat.le_of_ble_eq_true rfl)
  rw [lg_entry_eq]
  refine kW (Nat.zero_le _) s.heap [] _ (fun k q hk => ?_) ⟨hl.1, hl.2.1, fun i v hi h9 => ?_⟩ va_S.rf
  · have e : pj_ws g vi_w0 = [] := rfl
    rw [e] at hk
    simp at hk
  · match i, hi with
    | 0, hi =>
      cases hi
      rw [pj_e3, hgb]
      exact hl.2.2 (0, Value.ref b) List.mem_cons_self
    | 1, hi => cases hi; exact absurd rfl h9
    | 2, hi => cases hi; exact absurd rfl h9
    | 3, hi => cases hi; exact absurd rfl h9
    | n + 4, hi => simp at hi
