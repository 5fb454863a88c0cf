/-! THE LAW: rows of the script; from its loop's head on (printed by wip/whole/genlaw.py) -/
def pj_sN (g : pj_G) : Int := (g.2.2.2.1.2.1 : Int)
def pj_sX (g : pj_G) : Int → Int := fun j => (g.2.2.2.1.2.2 j.toNat).toInt
/-- where the law stands -/
def pj_LX (l : Launch) (g : pj_G) (ph : Bool) (n0 : Nat) (o : Option pj_V × pj_W) (Go : pj_C → Prop) : Prop := (∃ (p : Program) (e : Env) (R : Room) (s : State) (m : MethodId) (args : Array Value) (below : List Frame) (meth : Method) (c : Code) (Q : State → Prop), pj_Cx l yL_law cL_law 4 (some .boolean) 15 582 ph g n0 o p e R s m args below meth c Q ∧ (va_X g.2.2.2.1.1 g.2.2.2.1.2.1 g.2.2.2.1.2.2 s s.heap ∧ g.2.2.2.1.1 < s.heap.size ∧ g.2.2.2.1.1 < g.1.1 ∧ g.2.2.2.1.2.1 ≤ 3072) ∧ Go = pj_Go ph g n0 4 (some .boolean) o p l e R s m args below meth c Q) ∨ (g.2.2.2.1.2.1 ≤ 3072 ∧ Go = pj_GoP ph (some .boolean) o)
section
variable {l : Launch} {g : pj_G} {n0 : Nat} {o : Option pj_V × pj_W} {ph : Bool}
theorem pj_LX.M {Go : pj_C → Prop} (hX : pj_LX l g ph n0 o Go) : pj_M l yL_law cL_law 4 (some .boolean) 15 582 ph g n0 o Go := by
  rcases hX with ⟨p, e, R, s, m, args, below, meth, c, Q, C, _, h⟩ | ⟨_, h⟩
  · exact Or.inl ⟨p, e, R, s, m, args, below, meth, c, Q, C, h⟩
  · exact Or.inr h
theorem pj_sN_of {Go : pj_C → Prop} (hX : pj_LX l g ph n0 o Go) : 0 ≤ pj_sN g ∧ pj_sN g ≤ 3072 := by
  unfold pj_sN
  rcases hX with ⟨p, e, R, s, m, args, below, meth, c, Q, C, ⟨_, _, _, h⟩, _⟩ | ⟨h, _⟩
  · omega
  · omega
theorem pj_e3 (g : pj_G) (z : Int) : pj_enc g (3, z) = .ref g.2.2.2.1.1 := rfl
theorem pj_slw {Go : pj_C → Prop} (hX : pj_LX l g ph n0 o Go) {pc : Nat} {lls st : List pj_V} {w : pj_W} (hd : decode cL_law pc = .ok (.arraylength, 1)) (kk : Go (pc + 1, lls, (0, pj_sN g) :: st, w)) : Go (pc, lls, (3, 0) :: st, w) := by
  obtain ⟨b0, b1⟩ := pj_sN_of hX
  have hst : ∀ n : Nat, (∀ v ∈ ((3, 0) : pj_V) :: st, pj_okv n v) → ∀ v ∈ ((0, pj_sN g) : pj_V) :: st, pj_okv n v := fun n h3 v hv => by
    rcases List.mem_cons.mp hv with rfl | hv
    · exact (pj_ok0 n (pj_sN g)).mpr ⟨by omega, by omega⟩
    · exact h3 v (List.mem_cons_of_mem _ hv)
  rcases hX with ⟨p, e, R, s, m, args, below, meth, c, Q, C, ⟨hV, hlt, hlt2, hL⟩, rfl⟩ | ⟨_, rfl⟩
  case inr => exact fun h1 h2 h3 => kk h1 h2 (hst _ h3)
  intro h1 h2 h3
  obtain ⟨k1, k2⟩ := kk h1 h2 (hst _ h3)
  refine ⟨k1, fun hn H locs ls hP hl hS => ?_⟩
  have e1 : pj_enc g (0, pj_sN g) = .int (Int32.ofNat g.2.2.2.1.2.1) := by
    rw [pj_e0]
    unfold pj_sN
    rw [← Int32.ofInt_eq_ofNat]
  have k3 := k2 hn H locs ls hP hl hS
  simp only [List.map_cons, e1, pj_e3] at k3 ⊢
  exact va_slen C.1 C.2.1 hV hlt (by show ¬ g.1.1 ≤ g.2.2.2.1.1; omega) hS hd k3
theorem pj_sli {Go : pj_C → Prop} (hX : pj_LX l g ph n0 o Go) {pc : Nat} {lls st : List pj_V} {w : pj_W} {j : Int} (hd : decode cL_law pc = .ok (.iaload, 1)) (hj : 0 ≤ j ∧ j < pj_sN g) (kk : Go (pc + 1, lls, (0, pj_sX g j) :: st, w)) : Go (pc, lls, (0, j) :: (3, 0) :: st, w) := by
  obtain ⟨b0, b1⟩ := pj_sN_of hX
  have hst : ∀ n : Nat, (∀ v ∈ ((0, j) : pj_V) :: (3, 0) :: st, pj_okv n v) → ∀ v ∈ ((0, pj_sX g j) : pj_V) :: st, pj_okv n v := fun n h3 v hv => by
    rcases List.mem_cons.mp hv with rfl | hv
    · exact pj_in32 _
    · exact h3 v (List.mem_cons_of_mem _ (List.mem_cons_of_mem _ hv))
  rcases hX with ⟨p, e, R, s, m, args, below, meth, c, Q, C, ⟨hV, hlt, hlt2, hL⟩, rfl⟩ | ⟨_, rfl⟩
  case inr => exact fun h1 h2 h3 => kk h1 h2 (hst _ h3)
  intro h1 h2 h3
  obtain ⟨k1, k2⟩ := kk h1 h2 (hst _ h3)
  refine ⟨k1, fun hn H locs ls hP hl hS => ?_⟩
  obtain ⟨c1, d1⟩ := pj_cl0 (i := j) ⟨hj.1, by omega⟩
  have e1 : pj_enc g (0, pj_sX g j) = .int (g.2.2.2.1.2.2 (Int32.ofInt j).toNatClampNeg) := by
    rw [pj_e0, d1]
    unfold pj_sX
    rw [pj_of]
  have k3 := k2 hn H locs ls hP hl hS
  simp only [List.map_cons, e1, pj_e3, pj_e0] at k3 ⊢
  refine va_sld C.1 C.2.1 hV hlt (by show ¬ g.1.1 ≤ g.2.2.2.1.1; omega) hS ?_ hd k3
  unfold pj_sN at hj
  rintro (h | h)
  · exact c1 h
  · rw [d1] at h; omega
noncomputable def fW_law_2076 (xs : Int → Int) (sL : Int) (x3 : Int) (w : pj_W) : Option ((Int × pj_W) ⊕ (Int × pj_W)) :=
  some (Sum.inl ((pj_wr (x3 + 6)), w))
noncomputable def fW_law_1537 (xs : Int → Int) (sL : Int) (x3 : Int) (w : pj_W) : Option ((Int × pj_W) ⊕ (Int × pj_W)) :=
  if 0 ≤ (pj_wr (x3 + 1)) ∧ (pj_wr (x3 + 1)) < sL then ((fX_safe (xs (pj_wr (x3 + 1))) w).bind fun p2 => ((fM_safe (xs (pj_wr (x3 + 1))) p2.2).bind fun p4 => (if p2.1 = p4.1 then (fW_law_2076 xs sL x3 p4.2) else (some (Sum.inr ((0, p4.2))))))) else none
noncomputable def fW_law_2050 (xs : Int → Int) (sL : Int) (x3 : Int) (w : pj_W) : Option ((Int × pj_W) ⊕ (Int × pj_W)) :=
  (fX_mark w).bind fun p1 => ((fM_mark p1.2).bind fun p3 => (if p1.1 = p3.1 then (fW_law_2076 xs sL x3 p3.2) else (some (Sum.inr ((0, p3.2))))))
noncomputable def fW_law_1027 (xs : Int → Int) (sL : Int) (x3 : Int) (w : pj_W) : Option ((Int × pj_W) ⊕ (Int × pj_W)) :=
  (fX_dawn w).bind fun p1 => ((fM_dawn p1.2).bind fun p3 => (if p1.1 = p3.1 then (fW_law_2076 xs sL x3 p3.2) else (some (Sum.inr ((0, p3.2))))))
noncomputable def fW_law_1283 (xs : Int → Int) (sL : Int) (x3 : Int) (w : pj_W) : Option ((Int × pj_W) ⊕ (Int × pj_W)) :=
  if 0 ≤ (pj_wr (x3 + 1)) ∧ (pj_wr (x3 + 1)) < sL then (if 0 ≤ (pj_wr (x3 + 2)) ∧ (pj_wr (x3 + 2)) < sL then ((fX_lateness (xs (pj_wr (x3 + 1))) (xs (pj_wr (x3 + 2))) w).bind fun p3 => ((fM_lateness (xs (pj_wr (x3 + 1))) (xs (pj_wr (x3 + 2))) p3.2).bind fun p5 => (if p3.1 = p5.1 then (fW_law_2076 xs sL x3 p5.2) else (some (Sum.inr ((0, p5.2))))))) else none) else none
noncomputable def fW_law_783 (xs : Int → Int) (sL : Int) (x3 : Int) (w : pj_W) : Option ((Int × pj_W) ⊕ (Int × pj_W)) :=
  if 0 ≤ (pj_wr (x3 + 1)) ∧ (pj_wr (x3 + 1)) < sL then (if 0 ≤ (pj_wr (x3 + 2)) ∧ (pj_wr (x3 + 2)) < sL then (if 0 ≤ (pj_wr (x3 + 3)) ∧ (pj_wr (x3 + 3)) < sL then ((fX_pebble (xs (pj_wr (x3 + 1))) (xs (pj_wr (x3 + 2))) (xs (pj_wr (x3 + 3))) w).bind fun p4 => ((fM_pebble (xs (pj_wr (x3 + 1))) (xs (pj_wr (x3 + 2))) (xs (pj_wr (x3 + 3))) p4.2).bind fun p6 => (if p4.1 = p6.1 then (fW_law_2076 xs sL x3 p6.2) else (some (Sum.inr ((0, p6.2))))))) else none) else none) else none
noncomputable def fW_law_1040 (xs : Int → Int) (sL : Int) (x3 : Int) (w : pj_W) : Option ((Int × pj_W) ⊕ (Int × pj_W)) :=
  if 0 ≤ (pj_wr (x3 + 1)) ∧ (pj_wr (x3 + 1)) < sL then ((fX_last (xs (pj_wr (x3 + 1))) w).bind fun p2 => ((fM_last (xs (pj_wr (x3 + 1))) p2.2).bind fun p4 => (if p2.1 = p4.1 then (fW_law_2076 xs sL x3 p4.2) else (some (Sum.inr ((0, p4.2))))))) else none
noncomputable def fW_law_2063 (xs : Int → Int) (sL : Int) (x3 : Int) (w : pj_W) : Option ((Int × pj_W) ⊕ (Int × pj_W)) :=
  (fX_back w).bind fun p1 => ((fM_back p1.2).bind fun p3 => (if p1.1 = p3.1 then (fW_law_2076 xs sL x3 p3.2) else (some (Sum.inr ((0, p3.2))))))
noncomputable def fW_law_1560 (xs : Int → Int) (sL : Int) (x3 : Int) (w : pj_W) : Option ((Int × pj_W) ⊕ (Int × pj_W)) :=
  if 0 ≤ (pj_wr (x3 + 1)) ∧ (pj_wr (x3 + 1)) < sL then ((fX_ranked (xs (pj_wr (x3 + 1))) w).bind fun p2 => ((fM_ranked (xs (pj_wr (x3 + 1))) p2.2).bind fun p4 => (if p2.1 = p4.1 then (fW_law_2076 xs sL x3 p4.2) else (some (Sum.inr ((0, p4.2))))))) else none
noncomputable def fW_law_1823 (xs : Int → Int) (sL : Int) (x3 : Int) (w : pj_W) : Option ((Int × pj_W) ⊕ (Int × pj_W)) :=
  (fX_latest w).bind fun p1 => ((fM_latest p1.2).bind fun p3 => (if p1.1 = p3.1 then (fW_law_2076 xs sL x3 p3.2) else (some (Sum.inr ((0, p3.2))))))
noncomputable def fW_law_1316 (xs : Int → Int) (sL : Int) (x3 : Int) (w : pj_W) : Option ((Int × pj_W) ⊕ (Int × pj_W)) :=
  if 0 ≤ (pj_wr (x3 + 1)) ∧ (pj_wr (x3 + 1)) < sL then (if 0 ≤ (pj_wr (x3 + 2)) ∧ (pj_wr (x3 + 2)) < sL then ((fX_seen (xs (pj_wr (x3 + 1))) (xs (pj_wr (x3 + 2))) w).bind fun p3 => ((fM_seen (xs (pj_wr (x3 + 1))) (xs (pj_wr (x3 + 2))) p3.2).bind fun p5 => (if p3.1 = p5.1 then (fW_law_2076 xs sL x3 p5.2) else (some (Sum.inr ((0, p5.2))))))) else none) else none
noncomputable def fW_law_1063 (xs : Int → Int) (sL : Int) (x3 : Int) (w : pj_W) : Option ((Int × pj_W) ⊕ (Int × pj_W)) :=
  if 0 ≤ (pj_wr (x3 + 1)) ∧ (pj_wr (x3 + 1)) < sL then ((fX_whose (xs (pj_wr (x3 + 1))) w).bind fun p2 => ((fM_whose (xs (pj_wr (x3 + 1))) p2.2).bind fun p4 => (if p2.1 = p4.1 then (fW_law_2076 xs sL x3 p4.2) else (some (Sum.inr ((0, p4.2))))))) else none
noncomputable def fW_law_1836 (xs : Int → Int) (sL : Int) (x3 : Int) (w : pj_W) : Option ((Int × pj_W) ⊕ (Int × pj_W)) :=
  if 0 ≤ (pj_wr (x3 + 1)) ∧ (pj_wr (x3 + 1)) < sL then ((fX_behind (xs (pj_wr (x3 + 1))) w).bind fun p2 => ((fM_behind (xs (pj_wr (x3 + 1))) p2.2).bind fun p4 => (if p2.1 = p4.1 then (fW_law_2076 xs sL x3 p4.2) else (some (Sum.inr ((0, p4.2))))))) else none
noncomputable def fW_law_1583 (xs : Int → Int) (sL : Int) (x3 : Int) (w : pj_W) : Option ((Int × pj_W) ⊕ (Int × pj_W)) :=
  if 0 ≤ (pj_wr (x3 + 1)) ∧ (pj_wr (x3 + 1)) < sL then (if 0 ≤ (pj_wr (x3 + 2)) ∧ (pj_wr (x3 + 2)) < sL then ((fX_rivals (xs (pj_wr (x3 + 1))) (xs (pj_wr (x3 + 2))) w).bind fun p3 => ((fM_rivals (xs (pj_wr (x3 + 1))) (xs (pj_wr (x3 + 2))) p3.2).bind fun p5 => (if p3.1 = p5.1 then (fW_law_2076 xs sL x3 p5.2) else (some (Sum.inr ((0, p5.2))))))) else none) else none
noncomputable def fW_law_562 (xs : Int → Int) (sL : Int) (x3 : Int) (w : pj_W) : Option ((Int × pj_W) ⊕ (Int × pj_W)) :=
  if 0 ≤ (pj_wr (x3 + 1)) ∧ (pj_wr (x3 + 1)) < sL then (if 0 ≤ (pj_wr (x3 + 2)) ∧ (pj_wr (x3 + 2)) < sL then (if 0 ≤ (pj_wr (x3 + 3)) ∧ (pj_wr (x3 + 3)) < sL then (if 0 ≤ (pj_wr (x3 + 4)) ∧ (pj_wr (x3 + 4)) < sL then (if 0 ≤ (pj_wr (x3 + 5)) ∧ (pj_wr (x3 + 5)) < sL then ((fX_feed (xs (pj_wr (x3 + 1))) (xs (pj_wr (x3 + 2))) (xs (pj_wr (x3 + 3))) (xs (pj_wr (x3 + 4))) (xs (pj_wr (x3 + 5))) w).bind fun p6 => ((fM_feed (xs (pj_wr (x3 + 1))) (xs (pj_wr (x3 + 2))) (xs (pj_wr (x3 + 3))) (xs (pj_wr (x3 + 4))) (xs (pj_wr (x3 + 5))) p6.2).bind fun p8 => (if p6.1 = p8.1 then (fW_law_2076 xs sL x3 p8.2) else (some (Sum.inr ((0, p8.2))))))) else none) else none) else none) else none) else none
noncomputable def fW_law_308 (xs : Int → Int) (sL : Int) (x3 : Int) (w : pj_W) : Option ((Int × pj_W) ⊕ (Int × pj_W)) :=
  (fX_status w).bind fun p1 => ((fM_status w).bind fun p3 => (if p1 = p3 then (fW_law_2076 xs sL x3 w) else (some (Sum.inr ((0, w))))))
noncomputable def fW_law_826 (xs : Int → Int) (sL : Int) (x3 : Int) (w : pj_W) : Option ((Int × pj_W) ⊕ (Int × pj_W)) :=
  if 0 ≤ (pj_wr (x3 + 1)) ∧ (pj_wr (x3 + 1)) < sL then (if 0 ≤ (pj_wr (x3 + 2)) ∧ (pj_wr (x3 + 2)) < sL then ((fX_go (xs (pj_wr (x3 + 1))) (xs (pj_wr (x3 + 2))) w).bind fun p3 => ((fM_go (xs (pj_wr (x3 + 1))) (xs (pj_wr (x3 + 2))) p3.2).bind fun p5 => (if p3.1 = p5.1 then (fW_law_2076 xs sL x3 p5.2) else (some (Sum.inr ((0, p5.2))))))) else none) else none
noncomputable def fW_law_1086 (xs : Int → Int) (sL : Int) (x3 : Int) (w : pj_W) : Option ((Int × pj_W) ⊕ (Int × pj_W)) :=
  if 0 ≤ (pj_wr (x3 + 1)) ∧ (pj_wr (x3 + 1)) < sL then ((fX_leads (xs (pj_wr (x3 + 1))) w).bind fun p2 => ((fM_leads (xs (pj_wr (x3 + 1))) p2.2).bind fun p4 => (if p2.1 = p4.1 then (fW_law_2076 xs sL x3 p4.2) else (some (Sum.inr ((0, p4.2))))))) else none
noncomputable def fW_law_321 (xs : Int → Int) (sL : Int) (x3 : Int) (w : pj_W) : Option ((Int × pj_W) ⊕ (Int × pj_W)) :=
  (fX_top w).bind fun p1 => ((fM_top w).bind fun p3 => (if (pj_cmp p1 p3) = 0 then (fW_law_2076 xs sL x3 w) else (some (Sum.inr ((0, w))))))
noncomputable def fW_law_1859 (xs : Int → Int) (sL : Int) (x3 : Int) (w : pj_W) : Option ((Int × pj_W) ⊕ (Int × pj_W)) :=
  (fX_alone w).bind fun p1 => ((fM_alone p1.2).bind fun p3 => (if p1.1 = p3.1 then (fW_law_2076 xs sL x3 p3.2) else (some (Sum.inr ((0, p3.2))))))
noncomputable def fW_law_1349 (xs : Int → Int) (sL : Int) (x3 : Int) (w : pj_W) : Option ((Int × pj_W) ⊕ (Int × pj_W)) :=
  if 0 ≤ (pj_wr (x3 + 1)) ∧ (pj_wr (x3 + 1)) < sL then ((fX_boys (xs (pj_wr (x3 + 1))) w).bind fun p2 => ((fM_boys (xs (pj_wr (x3 + 1))) p2.2).bind fun p4 => (if p2.1 = p4.1 then (fW_law_2076 xs sL x3 p4.2) else (some (Sum.inr ((0, p4.2))))))) else none
noncomputable def fW_law_335 (xs : Int → Int) (sL : Int) (x3 : Int) (w : pj_W) : Option ((Int × pj_W) ⊕ (Int × pj_W)) :=
  (fX_bottom w).bind fun p1 => ((fM_bottom w).bind fun p3 => (if (pj_cmp p1 p3) = 0 then (fW_law_2076 xs sL x3 w) else (some (Sum.inr ((0, w))))))
noncomputable def fW_law_1616 (xs : Int → Int) (sL : Int) (x3 : Int) (w : pj_W) : Option ((Int × pj_W) ⊕ (Int × pj_W)) :=
  (fX_richest w).bind fun p1 => ((fM_richest p1.2).bind fun p3 => (if p1.1 = p3.1 then (fW_law_2076 xs sL x3 p3.2) else (some (Sum.inr ((0, p3.2))))))
noncomputable def fW_law_1872 (xs : Int → Int) (sL : Int) (x3 : Int) (w : pj_W) : Option ((Int × pj_W) ⊕ (Int × pj_W)) :=
  if 0 ≤ (pj_wr (x3 + 1)) ∧ (pj_wr (x3 + 1)) < sL then (if 0 ≤ (pj_wr (x3 + 2)) ∧ (pj_wr (x3 + 2)) < sL then ((fX_part (xs (pj_wr (x3 + 1))) (xs (pj_wr (x3 + 2))) w).bind fun p3 => ((fM_part (xs (pj_wr (x3 + 1))) (xs (pj_wr (x3 + 2))) p3.2).bind fun p5 => (if p3.1 = p5.1 then (fW_law_2076 xs sL x3 p5.2) else (some (Sum.inr ((0, p5.2))))))) else none) else none
noncomputable def fW_law_1109 (xs : Int → Int) (sL : Int) (x3 : Int) (w : pj_W) : Option ((Int × pj_W) ⊕ (Int × pj_W)) :=
  (fX_leader w).bind fun p1 => ((fM_leader p1.2).bind fun p3 => (if p1.1 = p3.1 then (fW_law_2076 xs sL x3 p3.2) else (some (Sum.inr ((0, p3.2))))))
noncomputable def fW_law_859 (xs : Int → Int) (sL : Int) (x3 : Int) (w : pj_W) : Option ((Int × pj_W) ⊕ (Int × pj_W)) :=
  if 0 ≤ (pj_wr (x3 + 1)) ∧ (pj_wr (x3 + 1)) < sL then (if 0 ≤ (pj_wr (x3 + 2)) ∧ (pj_wr (x3 + 2)) < sL then ((fX_pass (xs (pj_wr (x3 + 1))) (xs (pj_wr (x3 + 2))) w).bind fun p3 => ((fM_pass (xs (pj_wr (x3 + 1))) (xs (pj_wr (x3 + 2))) p3.2).bind fun p5 => (if p3.1 = p5.1 then (fW_law_2076 xs sL x3 p5.2) else (some (Sum.inr ((0, p5.2))))))) else none) else none
noncomputable def fW_law_1372 (xs : Int → Int) (sL : Int) (x3 : Int) (w : pj_W) : Option ((Int × pj_W) ⊕ (Int × pj_W)) :=
  if 0 ≤ (pj_wr (x3 + 1)) ∧ (pj_wr (x3 + 1)) < sL then (if 0 ≤ (pj_wr (x3 + 2)) ∧ (pj_wr (x3 + 2)) < sL then ((fX_boyAt (xs (pj_wr (x3 + 1))) (xs (pj_wr (x3 + 2))) w).bind fun p3 => ((fM_boyAt (xs (pj_wr (x3 + 1))) (xs (pj_wr (x3 + 2))) p3.2).bind fun p5 => (if p3.1 = p5.1 then (fW_law_2076 xs sL x3 p5.2) else (some (Sum.inr ((0, p5.2))))))) else none) else none
noncomputable def fW_law_349 (xs : Int → Int) (sL : Int) (x3 : Int) (w : pj_W) : Option ((Int × pj_W) ⊕ (Int × pj_W)) :=
  if 0 ≤ (pj_wr (x3 + 1)) ∧ (pj_wr (x3 + 1)) < sL then (if 0 ≤ (pj_wr (x3 + 2)) ∧ (pj_wr (x3 + 2)) < sL then (if 0 ≤ (pj_wr (x3 + 3)) ∧ (pj_wr (x3 + 3)) < sL then ((fX_tray (xs (pj_wr (x3 + 1))) (xs (pj_wr (x3 + 2))) (xs (pj_wr (x3 + 3))) w).bind fun p4 => ((fM_tray (xs (pj_wr (x3 + 1))) (xs (pj_wr (x3 + 2))) (xs (pj_wr (x3 + 3))) p4.2).bind fun p6 => (if p4.1 = p6.1 then (fW_law_2076 xs sL x3 p6.2) else (some (Sum.inr ((0, p6.2))))))) else none) else none) else none
noncomputable def fW_law_1629 (xs : Int → Int) (sL : Int) (x3 : Int) (w : pj_W) : Option ((Int × pj_W) ⊕ (Int × pj_W)) :=
  if 0 ≤ (pj_wr (x3 + 1)) ∧ (pj_wr (x3 + 1)) < sL then ((fX_left (xs (pj_wr (x3 + 1))) w).bind fun p2 => ((fM_left (xs (pj_wr (x3 + 1))) p2.2).bind fun p4 => (if p2.1 = p4.1 then (fW_law_2076 xs sL x3 p4.2) else (some (Sum.inr ((0, p4.2))))))) else none
noncomputable def fW_law_1122 (xs : Int → Int) (sL : Int) (x3 : Int) (w : pj_W) : Option ((Int × pj_W) ⊕ (Int × pj_W)) :=
  (fX_duels w).bind fun p1 => ((fM_duels p1.2).bind fun p3 => (if p1.1 = p3.1 then (fW_law_2076 xs sL x3 p3.2) else (some (Sum.inr ((0, p3.2))))))
noncomputable def fW_law_1135 (xs : Int → Int) (sL : Int) (x3 : Int) (w : pj_W) : Option ((Int × pj_W) ⊕ (Int × pj_W)) :=
  if 0 ≤ (pj_wr (x3 + 1)) ∧ (pj_wr (x3 + 1)) < sL then ((fX_needs (xs (pj_wr (x3 + 1))) w).bind fun p2 => ((fM_needs (xs (pj_wr (x3 + 1))) p2.2).bind fun p4 => (if p2.1 = p4.1 then (fW_law_2076 xs sL x3 p4.2) else (some (Sum.inr ((0, p4.2))))))) else none
noncomputable def fW_law_625 (xs : Int → Int) (sL : Int) (x3 : Int) (w : pj_W) : Option ((Int × pj_W) ⊕ (Int × pj_W)) :=
  if 0 ≤ (pj_wr (x3 + 1)) ∧ (pj_wr (x3 + 1)) < sL then ((fX_beach (xs (pj_wr (x3 + 1))) w).bind fun p2 => ((fM_beach (xs (pj_wr (x3 + 1))) p2.2).bind fun p4 => (if p2.1 = p4.1 then (fW_law_2076 xs sL x3 p4.2) else (some (Sum.inr ((0, p4.2))))))) else none
noncomputable def fW_law_1905 (xs : Int → Int) (sL : Int) (x3 : Int) (w : pj_W) : Option ((Int × pj_W) ⊕ (Int × pj_W)) :=
  if 0 ≤ (pj_wr (x3 + 1)) ∧ (pj_wr (x3 + 1)) < sL then ((fX_crowd (xs (pj_wr (x3 + 1))) w).bind fun p2 => ((fM_crowd (xs (pj_wr (x3 + 1))) p2.2).bind fun p4 => (if p2.1 = p4.1 then (fW_law_2076 xs sL x3 p4.2) else (some (Sum.inr ((0, p4.2))))))) else none
noncomputable def fW_law_1652 (xs : Int → Int) (sL : Int) (x3 : Int) (w : pj_W) : Option ((Int × pj_W) ⊕ (Int × pj_W)) :=
  if 0 ≤ (pj_wr (x3 + 1)) ∧ (pj_wr (x3 + 1)) < sL then ((fX_tideIn (xs (pj_wr (x3 + 1))) w).bind fun p2 => ((fM_tideIn (xs (pj_wr (x3 + 1))) p2.2).bind fun p4 => (if p2.1 = p4.1 then (fW_law_2076 xs sL x3 p4.2) else (some (Sum.inr ((0, p4.2))))))) else none
noncomputable def fW_law_892 (xs : Int → Int) (sL : Int) (x3 : Int) (w : pj_W) : Option ((Int × pj_W) ⊕ (Int × pj_W)) :=
  if 0 ≤ (pj_wr (x3 + 1)) ∧ (pj_wr (x3 + 1)) < sL then (if 0 ≤ (pj_wr (x3 + 2)) ∧ (pj_wr (x3 + 2)) < sL then ((fX_set (xs (pj_wr (x3 + 1))) (xs (pj_wr (x3 + 2))) w).bind fun p3 => ((fM_set (xs (pj_wr (x3 + 1))) (xs (pj_wr (x3 + 2))) p3.2).bind fun p5 => (if p3.1 = p5.1 then (fW_law_2076 xs sL x3 p5.2) else (some (Sum.inr ((0, p5.2))))))) else none) else none
noncomputable def fW_law_1405 (xs : Int → Int) (sL : Int) (x3 : Int) (w : pj_W) : Option ((Int × pj_W) ⊕ (Int × pj_W)) :=
  if 0 ≤ (pj_wr (x3 + 1)) ∧ (pj_wr (x3 + 1)) < sL then (if 0 ≤ (pj_wr (x3 + 2)) ∧ (pj_wr (x3 + 2)) < sL then (if 0 ≤ (pj_wr (x3 + 3)) ∧ (pj_wr (x3 + 3)) < sL then ((fX_odds (xs (pj_wr (x3 + 1))) (xs (pj_wr (x3 + 2))) (xs (pj_wr (x3 + 3))) w).bind fun p4 => ((fM_odds (xs (pj_wr (x3 + 1))) (xs (pj_wr (x3 + 2))) (xs (pj_wr (x3 + 3))) p4.2).bind fun p6 => (if p4.1 = p6.1 then (fW_law_2076 xs sL x3 p6.2) else (some (Sum.inr ((0, p6.2))))))) else none) else none) else none
noncomputable def fW_law_1158 (xs : Int → Int) (sL : Int) (x3 : Int) (w : pj_W) : Option ((Int × pj_W) ⊕ (Int × pj_W)) :=
  if 0 ≤ (pj_wr (x3 + 1)) ∧ (pj_wr (x3 + 1)) < sL then ((fX_strewn (xs (pj_wr (x3 + 1))) w).bind fun p2 => ((fM_strewn (xs (pj_wr (x3 + 1))) p2.2).bind fun p4 => (if p2.1 = p4.1 then (fW_law_2076 xs sL x3 p4.2) else (some (Sum.inr ((0, p4.2))))))) else none
noncomputable def fW_law_392 (xs : Int → Int) (sL : Int) (x3 : Int) (w : pj_W) : Option ((Int × pj_W) ⊕ (Int × pj_W)) :=
  if 0 ≤ (pj_wr (x3 + 1)) ∧ (pj_wr (x3 + 1)) < sL then (if 0 ≤ (pj_wr (x3 + 2)) ∧ (pj_wr (x3 + 2)) < sL then (if 0 ≤ (pj_wr (x3 + 3)) ∧ (pj_wr (x3 + 3)) < sL then (if 0 ≤ (pj_wr (x3 + 4)) ∧ (pj_wr (x3 + 4)) < sL then ((fX_write (xs (pj_wr (x3 + 1))) (xs (pj_wr (x3 + 2))) (pj_lorl (pj_shll (xs (pj_wr (x3 + 3))) 32) (pj_landl (xs (pj_wr (x3 + 4))) 4294967295)) w).bind fun p5 => ((fM_write (xs (pj_wr (x3 + 1))) (xs (pj_wr (x3 + 2))) (pj_lorl (pj_shll (xs (pj_wr (x3 + 3))) 32) (pj_landl (xs (pj_wr (x3 + 4))) 4294967295)) p5.2).bind fun p7 => (if p5.1 = p7.1 then (fW_law_2076 xs sL x3 p7.2) else (some (Sum.inr ((0, p7.2))))))) else none) else none) else none) else none
noncomputable def fW_law_648 (xs : Int → Int) (sL : Int) (x3 : Int) (w : pj_W) : Option ((Int × pj_W) ⊕ (Int × pj_W)) :=
  if 0 ≤ (pj_wr (x3 + 1)) ∧ (pj_wr (x3 + 1)) < sL then ((fX_days (xs (pj_wr (x3 + 1))) w).bind fun p2 => ((fM_days (xs (pj_wr (x3 + 1))) p2.2).bind fun p4 => (if p2.1 = p4.1 then (fW_law_2076 xs sL x3 p4.2) else (some (Sum.inr ((0, p4.2))))))) else none
noncomputable def fW_law_1928 (xs : Int → Int) (sL : Int) (x3 : Int) (w : pj_W) : Option ((Int × pj_W) ⊕ (Int × pj_W)) :=
  if 0 ≤ (pj_wr (x3 + 1)) ∧ (pj_wr (x3 + 1)) < sL then (if 0 ≤ (pj_wr (x3 + 2)) ∧ (pj_wr (x3 + 2)) < sL then ((fX_lies (xs (pj_wr (x3 + 1))) (xs (pj_wr (x3 + 2))) w).bind fun p3 => ((fM_lies (xs (pj_wr (x3 + 1))) (xs (pj_wr (x3 + 2))) p3.2).bind fun p5 => (if p3.1 = p5.1 then (fW_law_2076 xs sL x3 p5.2) else (some (Sum.inr ((0, p5.2))))))) else none) else none
noncomputable def fW_law_1675 (xs : Int → Int) (sL : Int) (x3 : Int) (w : pj_W) : Option ((Int × pj_W) ⊕ (Int × pj_W)) :=
  (fX_open w).bind fun p1 => ((fM_open p1.2).bind fun p3 => (if p1.1 = p3.1 then (fW_law_2076 xs sL x3 p3.2) else (some (Sum.inr ((0, p3.2))))))
noncomputable def fW_law_1688 (xs : Int → Int) (sL : Int) (x3 : Int) (w : pj_W) : Option ((Int × pj_W) ⊕ (Int × pj_W)) :=
  if 0 ≤ (pj_wr (x3 + 1)) ∧ (pj_wr (x3 + 1)) < sL then ((fX_farthest (xs (pj_wr (x3 + 1))) w).bind fun p2 => ((fM_farthest (xs (pj_wr (x3 + 1))) p2.2).bind fun p4 => (if p2.1 = p4.1 then (fW_law_2076 xs sL x3 p4.2) else (some (Sum.inr ((0, p4.2))))))) else none
noncomputable def fW_law_925 (xs : Int → Int) (sL : Int) (x3 : Int) (w : pj_W) : Option ((Int × pj_W) ⊕ (Int × pj_W)) :=
  if 0 ≤ (pj_wr (x3 + 1)) ∧ (pj_wr (x3 + 1)) < sL then (if 0 ≤ (pj_wr (x3 + 2)) ∧ (pj_wr (x3 + 2)) < sL then ((fX_lift (xs (pj_wr (x3 + 1))) (xs (pj_wr (x3 + 2))) w).bind fun p3 => ((fM_lift (xs (pj_wr (x3 + 1))) (xs (pj_wr (x3 + 2))) p3.2).bind fun p5 => (if p3.1 = p5.1 then (fW_law_2076 xs sL x3 p5.2) else (some (Sum.inr ((0, p5.2))))))) else none) else none
noncomputable def fW_law_1181 (xs : Int → Int) (sL : Int) (x3 : Int) (w : pj_W) : Option ((Int × pj_W) ⊕ (Int × pj_W)) :=
  if 0 ≤ (pj_wr (x3 + 1)) ∧ (pj_wr (x3 + 1)) < sL then (if 0 ≤ (pj_wr (x3 + 2)) ∧ (pj_wr (x3 + 2)) < sL then ((fX_soonest (xs (pj_wr (x3 + 1))) (xs (pj_wr (x3 + 2))) w).bind fun p3 => ((fM_soonest (xs (pj_wr (x3 + 1))) (xs (pj_wr (x3 + 2))) p3.2).bind fun p5 => (if p3.1 = p5.1 then (fW_law_2076 xs sL x3 p5.2) else (some (Sum.inr ((0, p5.2))))))) else none) else none
noncomputable def fW_law_671 (xs : Int → Int) (sL : Int) (x3 : Int) (w : pj_W) : Option ((Int × pj_W) ⊕ (Int × pj_W)) :=
  if 0 ≤ (pj_wr (x3 + 1)) ∧ (pj_wr (x3 + 1)) < sL then ((fX_fault (xs (pj_wr (x3 + 1))) w).bind fun p2 => ((fM_fault (xs (pj_wr (x3 + 1))) w).bind fun p4 => (if p2 = p4 then (fW_law_2076 xs sL x3 w) else (some (Sum.inr ((0, w))))))) else none
noncomputable def fW_law_1448 (xs : Int → Int) (sL : Int) (x3 : Int) (w : pj_W) : Option ((Int × pj_W) ⊕ (Int × pj_W)) :=
  if 0 ≤ (pj_wr (x3 + 1)) ∧ (pj_wr (x3 + 1)) < sL then ((fX_gulls (xs (pj_wr (x3 + 1))) w).bind fun p2 => ((fM_gulls (xs (pj_wr (x3 + 1))) p2.2).bind fun p4 => (if p2.1 = p4.1 then (fW_law_2076 xs sL x3 p4.2) else (some (Sum.inr ((0, p4.2))))))) else none
noncomputable def fW_law_1961 (xs : Int → Int) (sL : Int) (x3 : Int) (w : pj_W) : Option ((Int × pj_W) ⊕ (Int × pj_W)) :=
  if 0 ≤ (pj_wr (x3 + 1)) ∧ (pj_wr (x3 + 1)) < sL then ((fX_live (xs (pj_wr (x3 + 1))) w).bind fun p2 => ((fM_live (xs (pj_wr (x3 + 1))) p2.2).bind fun p4 => (if p2.1 = p4.1 then (fW_law_2076 xs sL x3 p4.2) else (some (Sum.inr ((0, p4.2))))))) else none
noncomputable def fW_law_1711 (xs : Int → Int) (sL : Int) (x3 : Int) (w : pj_W) : Option ((Int × pj_W) ⊕ (Int × pj_W)) :=
  if 0 ≤ (pj_wr (x3 + 1)) ∧ (pj_wr (x3 + 1)) < sL then ((fX_time (xs (pj_wr (x3 + 1))) w).bind fun p2 => ((fM_time (xs (pj_wr (x3 + 1))) p2.2).bind fun p4 => (if p2.1 = p4.1 then (fW_law_2076 xs sL x3 p4.2) else (some (Sum.inr ((0, p4.2))))))) else none
noncomputable def fW_law_694 (xs : Int → Int) (sL : Int) (x3 : Int) (w : pj_W) : Option ((Int × pj_W) ⊕ (Int × pj_W)) :=
  if 0 ≤ (pj_wr (x3 + 1)) ∧ (pj_wr (x3 + 1)) < sL then ((fX_told (xs (pj_wr (x3 + 1))) w).bind fun p2 => ((fM_told (xs (pj_wr (x3 + 1))) p2.2).bind fun p4 => (if p2.1 = p4.1 then (fW_law_2076 xs sL x3 p4.2) else (some (Sum.inr ((0, p4.2))))))) else none
noncomputable def fW_law_958 (xs : Int → Int) (sL : Int) (x3 : Int) (w : pj_W) : Option ((Int × pj_W) ⊕ (Int × pj_W)) :=
  if 0 ≤ (pj_wr (x3 + 1)) ∧ (pj_wr (x3 + 1)) < sL then (if 0 ≤ (pj_wr (x3 + 2)) ∧ (pj_wr (x3 + 2)) < sL then ((fX_gull (xs (pj_wr (x3 + 1))) (xs (pj_wr (x3 + 2))) w).bind fun p3 => ((fM_gull (xs (pj_wr (x3 + 1))) (xs (pj_wr (x3 + 2))) p3.2).bind fun p5 => (if p3.1 = p5.1 then (fW_law_2076 xs sL x3 p5.2) else (some (Sum.inr ((0, p5.2))))))) else none) else none
noncomputable def fW_law_1214 (xs : Int → Int) (sL : Int) (x3 : Int) (w : pj_W) : Option ((Int × pj_W) ⊕ (Int × pj_W)) :=
  if 0 ≤ (pj_wr (x3 + 1)) ∧ (pj_wr (x3 + 1)) < sL then ((fX_threat (xs (pj_wr (x3 + 1))) w).bind fun p2 => ((fM_threat (xs (pj_wr (x3 + 1))) p2.2).bind fun p4 => (if p2.1 = p4.1 then (fW_law_2076 xs sL x3 p4.2) else (some (Sum.inr ((0, p4.2))))))) else none
noncomputable def fW_law_1471 (xs : Int → Int) (sL : Int) (x3 : Int) (w : pj_W) : Option ((Int × pj_W) ⊕ (Int × pj_W)) :=
  if 0 ≤ (pj_wr (x3 + 1)) ∧ (pj_wr (x3 + 1)) < sL then (if 0 ≤ (pj_wr (x3 + 2)) ∧ (pj_wr (x3 + 2)) < sL then ((fX_walk (xs (pj_wr (x3 + 1))) (xs (pj_wr (x3 + 2))) w).bind fun p3 => ((fM_walk (xs (pj_wr (x3 + 1))) (xs (pj_wr (x3 + 2))) p3.2).bind fun p5 => (if p3.1 = p5.1 then (fW_law_2076 xs sL x3 p5.2) else (some (Sum.inr ((0, p5.2))))))) else none) else none
noncomputable def fW_law_1984 (xs : Int → Int) (sL : Int) (x3 : Int) (w : pj_W) : Option ((Int × pj_W) ⊕ (Int × pj_W)) :=
  if 0 ≤ (pj_wr (x3 + 1)) ∧ (pj_wr (x3 + 1)) < sL then ((fX_lived (xs (pj_wr (x3 + 1))) w).bind fun p2 => ((fM_lived (xs (pj_wr (x3 + 1))) p2.2).bind fun p4 => (if p2.1 = p4.1 then (fW_law_2076 xs sL x3 p4.2) else (some (Sum.inr ((0, p4.2))))))) else none
noncomputable def fW_law_1734 (xs : Int → Int) (sL : Int) (x3 : Int) (w : pj_W) : Option ((Int × pj_W) ⊕ (Int × pj_W)) :=
  if 0 ≤ (pj_wr (x3 + 1)) ∧ (pj_wr (x3 + 1)) < sL then (if 0 ≤ (pj_wr (x3 + 2)) ∧ (pj_wr (x3 + 2)) < sL then ((fX_tally (xs (pj_wr (x3 + 1))) (xs (pj_wr (x3 + 2))) w).bind fun p3 => ((fM_tally (xs (pj_wr (x3 + 1))) (xs (pj_wr (x3 + 2))) p3.2).bind fun p5 => (if p3.1 = p5.1 then (fW_law_2076 xs sL x3 p5.2) else (some (Sum.inr ((0, p5.2))))))) else none) else none
noncomputable def fW_law_717 (xs : Int → Int) (sL : Int) (x3 : Int) (w : pj_W) : Option ((Int × pj_W) ⊕ (Int × pj_W)) :=
  if 0 ≤ (pj_wr (x3 + 1)) ∧ (pj_wr (x3 + 1)) < sL then (if 0 ≤ (pj_wr (x3 + 2)) ∧ (pj_wr (x3 + 2)) < sL then ((fX_finder (xs (pj_wr (x3 + 1))) (xs (pj_wr (x3 + 2))) w).bind fun p3 => ((fM_finder (xs (pj_wr (x3 + 1))) (xs (pj_wr (x3 + 2))) p3.2).bind fun p5 => (if p3.1 = p5.1 then (fW_law_2076 xs sL x3 p5.2) else (some (Sum.inr ((0, p5.2))))))) else none) else none
noncomputable def fW_law_465 (xs : Int → Int) (sL : Int) (x3 : Int) (w : pj_W) : Option ((Int × pj_W) ⊕ (Int × pj_W)) :=
  if 0 ≤ (pj_wr (x3 + 1)) ∧ (pj_wr (x3 + 1)) < sL then (if 0 ≤ (pj_wr (x3 + 2)) ∧ (pj_wr (x3 + 2)) < sL then ((fX_read (xs (pj_wr (x3 + 1))) (xs (pj_wr (x3 + 2))) w).bind fun p3 => ((fM_read (xs (pj_wr (x3 + 1))) (xs (pj_wr (x3 + 2))) p3.2).bind fun p5 => (if (pj_cmp p3.1 p5.1) = 0 then (fW_law_2076 xs sL x3 p5.2) else (some (Sum.inr ((0, p5.2))))))) else none) else none
noncomputable def fW_law_1237 (xs : Int → Int) (sL : Int) (x3 : Int) (w : pj_W) : Option ((Int × pj_W) ⊕ (Int × pj_W)) :=
  if 0 ≤ (pj_wr (x3 + 1)) ∧ (pj_wr (x3 + 1)) < sL then ((fX_best (xs (pj_wr (x3 + 1))) w).bind fun p2 => ((fM_best (xs (pj_wr (x3 + 1))) p2.2).bind fun p4 => (if p2.1 = p4.1 then (fW_law_2076 xs sL x3 p4.2) else (some (Sum.inr ((0, p4.2))))))) else none
noncomputable def fW_law_2007 (xs : Int → Int) (sL : Int) (x3 : Int) (w : pj_W) : Option ((Int × pj_W) ⊕ (Int × pj_W)) :=
  if 0 ≤ (pj_wr (x3 + 1)) ∧ (pj_wr (x3 + 1)) < sL then (if 0 ≤ (pj_wr (x3 + 2)) ∧ (pj_wr (x3 + 2)) < sL then (if 0 ≤ (pj_wr (x3 + 3)) ∧ (pj_wr (x3 + 3)) < sL then ((fX_mean (xs (pj_wr (x3 + 1))) (xs (pj_wr (x3 + 2))) (xs (pj_wr (x3 + 3))) w).bind fun p4 => ((fM_mean (xs (pj_wr (x3 + 1))) (xs (pj_wr (x3 + 2))) (xs (pj_wr (x3 + 3))) p4.2).bind fun p6 => (if p4.1 = p6.1 then (fW_law_2076 xs sL x3 p6.2) else (some (Sum.inr ((0, p6.2))))))) else none) else none) else none
noncomputable def fW_law_991 (xs : Int → Int) (sL : Int) (x3 : Int) (w : pj_W) : Option ((Int × pj_W) ⊕ (Int × pj_W)) :=
  if 0 ≤ (pj_wr (x3 + 1)) ∧ (pj_wr (x3 + 1)) < sL then ((fX_wave (xs (pj_wr (x3 + 1))) w).bind fun p2 => ((fM_wave (xs (pj_wr (x3 + 1))) p2.2).bind fun p4 => (if p2.1 = p4.1 then (fW_law_2076 xs sL x3 p4.2) else (some (Sum.inr ((0, p4.2))))))) else none
noncomputable def fW_law_1504 (xs : Int → Int) (sL : Int) (x3 : Int) (w : pj_W) : Option ((Int × pj_W) ⊕ (Int × pj_W)) :=
  if 0 ≤ (pj_wr (x3 + 1)) ∧ (pj_wr (x3 + 1)) < sL then (if 0 ≤ (pj_wr (x3 + 2)) ∧ (pj_wr (x3 + 2)) < sL then ((fX_gain (xs (pj_wr (x3 + 1))) (xs (pj_wr (x3 + 2))) w).bind fun p3 => ((fM_gain (xs (pj_wr (x3 + 1))) (xs (pj_wr (x3 + 2))) p3.2).bind fun p5 => (if p3.1 = p5.1 then (fW_law_2076 xs sL x3 p5.2) else (some (Sum.inr ((0, p5.2))))))) else none) else none
noncomputable def fW_law_1767 (xs : Int → Int) (sL : Int) (x3 : Int) (w : pj_W) : Option ((Int × pj_W) ⊕ (Int × pj_W)) :=
  (fX_busiest w).bind fun p1 => ((fM_busiest p1.2).bind fun p3 => (if p1.1 = p3.1 then (fW_law_2076 xs sL x3 p3.2) else (some (Sum.inr ((0, p3.2))))))
noncomputable def fW_law_1260 (xs : Int → Int) (sL : Int) (x3 : Int) (w : pj_W) : Option ((Int × pj_W) ⊕ (Int × pj_W)) :=
  if 0 ≤ (pj_wr (x3 + 1)) ∧ (pj_wr (x3 + 1)) < sL then ((fX_bestAt (xs (pj_wr (x3 + 1))) w).bind fun p2 => ((fM_bestAt (xs (pj_wr (x3 + 1))) p2.2).bind fun p4 => (if p2.1 = p4.1 then (fW_law_2076 xs sL x3 p4.2) else (some (Sum.inr ((0, p4.2))))))) else none
noncomputable def fW_law_750 (xs : Int → Int) (sL : Int) (x3 : Int) (w : pj_W) : Option ((Int × pj_W) ⊕ (Int × pj_W)) :=
  if 0 ≤ (pj_wr (x3 + 1)) ∧ (pj_wr (x3 + 1)) < sL then (if 0 ≤ (pj_wr (x3 + 2)) ∧ (pj_wr (x3 + 2)) < sL then ((fX_find (xs (pj_wr (x3 + 1))) (xs (pj_wr (x3 + 2))) w).bind fun p3 => ((fM_find (xs (pj_wr (x3 + 1))) (xs (pj_wr (x3 + 2))) p3.2).bind fun p5 => (if p3.1 = p5.1 then (fW_law_2076 xs sL x3 p5.2) else (some (Sum.inr ((0, p5.2))))))) else none) else none
noncomputable def fW_law_499 (xs : Int → Int) (sL : Int) (x3 : Int) (w : pj_W) : Option ((Int × pj_W) ⊕ (Int × pj_W)) :=
  if 0 ≤ (pj_wr (x3 + 1)) ∧ (pj_wr (x3 + 1)) < sL then (if 0 ≤ (pj_wr (x3 + 2)) ∧ (pj_wr (x3 + 2)) < sL then (if 0 ≤ (pj_wr (x3 + 3)) ∧ (pj_wr (x3 + 3)) < sL then (if 0 ≤ (pj_wr (x3 + 4)) ∧ (pj_wr (x3 + 4)) < sL then (if 0 ≤ (pj_wr (x3 + 5)) ∧ (pj_wr (x3 + 5)) < sL then ((fX_pour (xs (pj_wr (x3 + 1))) (xs (pj_wr (x3 + 2))) (xs (pj_wr (x3 + 3))) (xs (pj_wr (x3 + 4))) (xs (pj_wr (x3 + 5))) w).bind fun p6 => ((fM_pour (xs (pj_wr (x3 + 1))) (xs (pj_wr (x3 + 2))) (xs (pj_wr (x3 + 3))) (xs (pj_wr (x3 + 4))) (xs (pj_wr (x3 + 5))) p6.2).bind fun p8 => (if p6.1 = p8.1 then (fW_law_2076 xs sL x3 p8.2) else (some (Sum.inr ((0, p8.2))))))) else none) else none) else none) else none) else none
noncomputable def fW_law_1780 (xs : Int → Int) (sL : Int) (x3 : Int) (w : pj_W) : Option ((Int × pj_W) ⊕ (Int × pj_W)) :=
  if 0 ≤ (pj_wr (x3 + 1)) ∧ (pj_wr (x3 + 1)) < sL then (if 0 ≤ (pj_wr (x3 + 2)) ∧ (pj_wr (x3 + 2)) < sL then (if 0 ≤ (pj_wr (x3 + 3)) ∧ (pj_wr (x3 + 3)) < sL then ((fX_both (xs (pj_wr (x3 + 1))) (xs (pj_wr (x3 + 2))) (xs (pj_wr (x3 + 3))) w).bind fun p4 => ((fM_both (xs (pj_wr (x3 + 1))) (xs (pj_wr (x3 + 2))) (xs (pj_wr (x3 + 3))) p4.2).bind fun p6 => (if p4.1 = p6.1 then (fW_law_2076 xs sL x3 p6.2) else (some (Sum.inr ((0, p6.2))))))) else none) else none) else none
noncomputable def fW_law_1014 (xs : Int → Int) (sL : Int) (x3 : Int) (w : pj_W) : Option ((Int × pj_W) ⊕ (Int × pj_W)) :=
  (fX_tide w).bind fun p1 => ((fM_tide p1.2).bind fun p3 => (if p1.1 = p3.1 then (fW_law_2076 xs sL x3 p3.2) else (some (Sum.inr ((0, p3.2))))))
noncomputable def fW_law_18b (xs : Int → Int) (sL : Int)  (x3 : Int) (w : pj_W) : Option ((Int × pj_W) ⊕ (Int × pj_W)) :=
  if (pj_wr (sL - 6)) < x3 then (some (Sum.inr ((1, w)))) else (if 0 ≤ x3 ∧ x3 < sL then (if (pj_and (xs x3) 127) = 0 then (fW_law_308 xs sL x3 w) else if (pj_and (xs x3) 127) = 1 then (fW_law_321 xs sL x3 w) else if (pj_and (xs x3) 127) = 2 then (fW_law_335 xs sL x3 w) else if (pj_and (xs x3) 127) = 3 then (fW_law_349 xs sL x3 w) else if (pj_and (xs x3) 127) = 4 then (fW_law_392 xs sL x3 w) else if (pj_and (xs x3) 127) = 5 then (fW_law_465 xs sL x3 w) else if (pj_and (xs x3) 127) = 6 then (fW_law_499 xs sL x3 w) else if (pj_and (xs x3) 127) = 7 then (fW_law_562 xs sL x3 w) else if (pj_and (xs x3) 127) = 8 then (fW_law_625 xs sL x3 w) else if (pj_and (xs x3) 127) = 9 then (fW_law_648 xs sL x3 w) else if (pj_and (xs x3) 127) = 10 then (fW_law_671 xs sL x3 w) else if (pj_and (xs x3) 127) = 11 then (fW_law_694 xs sL x3 w) else if (pj_and (xs x3) 127) = 12 then (fW_law_717 xs sL x3 w) else if (pj_and (xs x3) 127) = 13 then (fW_law_750 xs sL x3 w) else if (pj_and (xs x3) 127) = 14 then (fW_law_783 xs sL x3 w) else if (pj_and (xs x3) 127) = 15 then (fW_law_826 xs sL x3 w) else if (pj_and (xs x3) 127) = 16 then (fW_law_859 xs sL x3 w) else if (pj_and (xs x3) 127) = 17 then (fW_law_892 xs sL x3 w) else if (pj_and (xs x3) 127) = 18 then (fW_law_925 xs sL x3 w) else if (pj_and (xs x3) 127) = 19 then (fW_law_958 xs sL x3 w) else if (pj_and (xs x3) 127) = 20 then (fW_law_991 xs sL x3 w) else if (pj_and (xs x3) 127) = 21 then (fW_law_1014 xs sL x3 w) else if (pj_and (xs x3) 127) = 22 then (fW_law_1027 xs sL x3 w) else if (pj_and (xs x3) 127) = 23 then (fW_law_1040 xs sL x3 w) else if (pj_and (xs x3) 127) = 24 then (fW_law_1063 xs sL x3 w) else if (pj_and (xs x3) 127) = 25 then (fW_law_1086 xs sL x3 w) else if (pj_and (xs x3) 127) = 26 then (fW_law_1109 xs sL x3 w) else if (pj_and (xs x3) 127) = 27 then (fW_law_1122 xs sL x3 w) else if (pj_and (xs x3) 127) = 28 then (fW_law_1135 xs sL x3 w) else if (pj_and (xs x3) 127) = 29 then (fW_law_1158 xs sL x3 w) else if (pj_and (xs x3) 127) = 30 then (fW_law_1181 xs sL x3 w) else if (pj_and (xs x3) 127) = 31 then (fW_law_1214 xs sL x3 w) else if (pj_and (xs x3) 127) = 32 then (fW_law_1237 xs sL x3 w) else if (pj_and (xs x3) 127) = 33 then (fW_law_1260 xs sL x3 w) else if (pj_and (xs x3) 127) = 34 then (fW_law_1283 xs sL x3 w) else if (pj_and (xs x3) 127) = 35 then (fW_law_1316 xs sL x3 w) else if (pj_and (xs x3) 127) = 36 then (fW_law_1349 xs sL x3 w) else if (pj_and (xs x3) 127) = 37 then (fW_law_1372 xs sL x3 w) else if (pj_and (xs x3) 127) = 38 then (fW_law_1405 xs sL x3 w) else if (pj_and (xs x3) 127) = 39 then (fW_law_1448 xs sL x3 w) else if (pj_and (xs x3) 127) = 40 then (fW_law_1471 xs sL x3 w) else if (pj_and (xs x3) 127) = 41 then (fW_law_1504 xs sL x3 w) else if (pj_and (xs x3) 127) = 42 then (fW_law_1537 xs sL x3 w) else if (pj_and (xs x3) 127) = 43 then (fW_law_1560 xs sL x3 w) else if (pj_and (xs x3) 127) = 44 then (fW_law_1583 xs sL x3 w) else if (pj_and (xs x3) 127) = 45 then (fW_law_1616 xs sL x3 w) else if (pj_and (xs x3) 127) = 46 then (fW_law_1629 xs sL x3 w) else if (pj_and (xs x3) 127) = 47 then (fW_law_1652 xs sL x3 w) else if (pj_and (xs x3) 127) = 48 then (fW_law_1675 xs sL x3 w) else if (pj_and (xs x3) 127) = 49 then (fW_law_1688 xs sL x3 w) else if (pj_and (xs x3) 127) = 50 then (fW_law_1711 xs sL x3 w) else if (pj_and (xs x3) 127) = 51 then (fW_law_1734 xs sL x3 w) else if (pj_and (xs x3) 127) = 52 then (fW_law_1767 xs sL x3 w) else if (pj_and (xs x3) 127) = 53 then (fW_law_1780 xs sL x3 w) else if (pj_and (xs x3) 127) = 54 then (fW_law_1823 xs sL x3 w) else if (pj_and (xs x3) 127) = 55 then (fW_law_1836 xs sL x3 w) else if (pj_and (xs x3) 127) = 56 then (fW_law_1859 xs sL x3 w) else if (pj_and (xs x3) 127) = 57 then (fW_law_1872 xs sL x3 w) else if (pj_and (xs x3) 127) = 58 then (fW_law_1905 xs sL x3 w) else if (pj_and (xs x3) 127) = 59 then (fW_law_1928 xs sL x3 w) else if (pj_and (xs x3) 127) = 60 then (fW_law_1961 xs sL x3 w) else if (pj_and (xs x3) 127) = 61 then (fW_law_1984 xs sL x3 w) else if (pj_and (xs x3) 127) = 62 then (fW_law_2007 xs sL x3 w) else if (pj_and (xs x3) 127) = 63 then (fW_law_2050 xs sL x3 w) else if (pj_and (xs x3) 127) = 64 then (fW_law_2063 xs sL x3 w) else (fW_law_2076 xs sL x3 w)) else none)
noncomputable def fW_law_18 (xs : Int → Int) (sL : Int)  (s : (Int × pj_W)) : Option (Int × pj_W) := pj_Lp (fun s : (Int × pj_W) => fW_law_18b xs sL  s.1 s.2) s
theorem tW_law_2076 {Go : pj_C → Prop} (hX : pj_LX l g true n0 o Go) (x3 : Int) (w : pj_W)  (R : (Int × pj_W) ⊕ (Int × pj_W) → Prop) (h0 : ∀ r, R (Sum.inr (r)) → ((some (0, r.1) : Option pj_V), r.2) = o) (hk18 : ∀ s, R (Sum.inl s) → Go (18, [(3, 0), (10, 0), (26, 0), (0, s.1)], [], s.2)) : pj_TG R (fW_law_2076 (pj_sX g) (pj_sN g) x3 w) (Go (2076, [(3, 0), (10, 0), (26, 0), (0, x3)], [], w)) := by
  have hM := hX.M
  unfold fW_law_2076
  exact pj_tret (fun hr => pj_iinc hM (pc := 2076) dL_law_2076 rfl (by decide) (lls' := [(3, 0), (10, 0), (26, 0), (0, (pj_wr (x3 + 6)))]) rfl (pj_goto hM (pc := 2079) dL_law_2079 rfl (pj_kill hM [true, true, true, true] (lls' := [(3, 0), (10, 0), (26, 0), (0, (pj_wr (x3 + 6)))]) rfl ((hk18 _ hr)))))
theorem tW_law_1537 {Go : pj_C → Prop} (hX : pj_LX l g true n0 o Go) (x3 : Int) (w : pj_W)  (R : (Int × pj_W) ⊕ (Int × pj_W) → Prop) (h0 : ∀ r, R (Sum.inr (r)) → ((some (0, r.1) : Option pj_V), r.2) = o) (hk18 : ∀ s, R (Sum.inl s) → Go (18, [(3, 0), (10, 0), (26, 0), (0, s.1)], [], s.2)) : pj_TG R (fW_law_1537 (pj_sX g) (pj_sN g) x3 w) (Go (1537, [(3, 0), (10, 0), (26, 0), (0, x3)], [], w)) := by
  have hM := hX.M
  unfold fW_law_1537
  refine pj_tgd (fun h1 => ?_)
  refine pj_tbind (fun p2 h3 => ?_)
  refine pj_tbind (fun p4 h5 => ?_)
  refine pj_map (fun k => pj_aload_n hM (pc := 1537) dL_law_1537 rfl rfl (pj_aload_n hM (pc := 1538) dL_law_1538 rfl rfl (pj_iload_n hM (pc := 1539) dL_law_1539 rfl (pj_iconst hM (pc := 1540) dL_law_1540 (by decide) (pj_iadd hM (pc := 1541) dL_law_1541 (pj_sli hX (pc := 1542) dL_law_1542 h1 (pj_cV hM (pc := 1543) (cX_safe (pj_sX g (pj_wr (x3 + 1))) w p2 h3) dL_law_1543 mf_X11_safe mv_X11_safe ml_L_193 kc_10 rfl rfl (by decide) rfl rfl (pj_aload_n hM (pc := 1546) dL_law_1546 rfl rfl (pj_aload_n hM (pc := 1547) dL_law_1547 rfl rfl (pj_iload_n hM (pc := 1548) dL_law_1548 rfl (pj_iconst hM (pc := 1549) dL_law_1549 (by decide) (pj_iadd hM (pc := 1550) dL_law_1550 (pj_sli hX (pc := 1551) dL_law_1551 h1 (pj_cV hM (pc := 1552) (cM_safe (pj_sX g (pj_wr (x3 + 1))) p2.2 p4 h5) dL_law_1552 mf_X12_safe mv_X12_safe ml_L_196 kc_26 rfl rfl (by decide) rfl rfl k)))))))))))))) ?_
  refine pj_tif (fun h6 => ?_) (fun h6 => ?_)
  · refine pj_map (fun k => pj_ic_eq_t hM (pc := 1555) dL_law_1555 rfl h6 (pj_kill hM [true, true, true, true] (lls' := [(3, 0), (10, 0), (26, 0), (0, x3)]) rfl k)) ?_
    exact tW_law_2076 hX x3 p4.2 _ h0 hk18
  exact pj_tret (fun hr => pj_ic_eq_f hM (pc := 1555) 2076 dL_law_1555 rfl h6 (pj_iconst hM (pc := 1558) dL_law_1558 (by decide) (pj_ret hM (pc := 1559) dL_law_1559 ⟨_, rfl, Or.inl rfl⟩ (h0 ((0, p4.2)) hr) rfl)))
theorem tW_law_2050 {Go : pj_C → Prop} (hX : pj_LX l g true n0 o Go) (x3 : Int) (w : pj_W)  (R : (Int × pj_W) ⊕ (Int × pj_W) → Prop) (h0 : ∀ r, R (Sum.inr (r)) → ((some (0, r.1) : Option pj_V), r.2) = o) (hk18 : ∀ s, R (Sum.inl s) → Go (18, [(3, 0), (10, 0), (26, 0), (0, s.1)], [], s.2)) : pj_TG R (fW_law_2050 (pj_sX g) (pj_sN g) x3 w) (Go (2050, [(3, 0), (10, 0), (26, 0), (0, x3)], [], w)) := by
  have hM := hX.M
  unfold fW_law_2050
  refine pj_tbind (fun p1 h2 => ?_)
  refine pj_tbind (fun p3 h4 => ?_)
  refine pj_map (fun k => pj_aload_n hM (pc := 2050) dL_law_2050 rfl rfl (pj_cV hM (pc := 2051) (cX_mark w p1 h2) dL_law_2051 mf_X11_mark mv_X11_mark ml_L_277 kc_10 rfl rfl (by decide) rfl rfl (pj_aload_n hM (pc := 2054) dL_law_2054 rfl rfl (pj_cV hM (pc := 2055) (cM_mark p1.2 p3 h4) dL_law_2055 mf_X12_mark mv_X12_mark ml_L_280 kc_26 rfl rfl (by decide) rfl rfl k)))) ?_
  refine pj_tif (fun h5 => ?_) (fun h5 => ?_)
  · refine pj_map (fun k => pj_ic_eq_t hM (pc := 2058) dL_law_2058 rfl h5 (pj_kill hM [true, true, true, true] (lls' := [(3, 0), (10, 0), (26, 0), (0, x3)]) rfl k)) ?_
    exact tW_law_2076 hX x3 p3.2 _ h0 hk18
  exact pj_tret (fun hr => pj_ic_eq_f hM (pc := 2058) 2076 dL_law_2058 rfl h5 (pj_iconst hM (pc := 2061) dL_law_2061 (by decide) (pj_ret hM (pc := 2062) dL_law_2062 ⟨_, rfl, Or.inl rfl⟩ (h0 ((0, p3.2)) hr) rfl)))
theorem tW_law_1027 {Go : pj_C → Prop} (hX : pj_LX l g true n0 o Go) (x3 : Int) (w : pj_W)  (R : (Int × pj_W) ⊕ (Int × pj_W) → Prop) (h0 : ∀ r, R (Sum.inr (r)) → ((some (0, r.1) : Option pj_V), r.2) = o) (hk18 : ∀ s, R (Sum.inl s) → Go (18, [(3, 0), (10, 0), (26, 0), (0, s.1)], [], s.2)) : pj_TG R (fW_law_1027 (pj_sX g) (pj_sN g) x3 w) (Go (1027, [(3, 0), (10, 0), (26, 0), (0, x3)], [], w)) := by
  have hM := hX.M
  unfold fW_law_1027
  refine pj_tbind (fun p1 h2 => ?_)
  refine pj_tbind (fun p3 h4 => ?_)
  refine pj_map (fun k => pj_aload_n hM (pc := 1027) dL_law_1027 rfl rfl (pj_cV hM (pc := 1028) (cX_dawn w p1 h2) dL_law_1028 mf_X11_dawn mv_X11_dawn ml_L_113 kc_10 rfl rfl (by decide) rfl rfl (pj_aload_n hM (pc := 1031) dL_law_1031 rfl rfl (pj_cV hM (pc := 1032) (cM_dawn p1.2 p3 h4) dL_law_1032 mf_X12_dawn mv_X12_dawn ml_L_116 kc_26 rfl rfl (by decide) rfl rfl k)))) ?_
  refine pj_tif (fun h5 => ?_) (fun h5 => ?_)
  · refine pj_map (fun k => pj_ic_eq_t hM (pc := 1035) dL_law_1035 rfl h5 (pj_kill hM [true, true, true, true] (lls' := [(3, 0), (10, 0), (26, 0), (0, x3)]) rfl k)) ?_
    exact tW_law_2076 hX x3 p3.2 _ h0 hk18
  exact pj_tret (fun hr => pj_ic_eq_f hM (pc := 1035) 2076 dL_law_1035 rfl h5 (pj_iconst hM (pc := 1038) dL_law_1038 (by decide) (pj_ret hM (pc := 1039) dL_law_1039 ⟨_, rfl, Or.inl rfl⟩ (h0 ((0, p3.2)) hr) rfl)))
theorem tW_law_1283 {Go : pj_C → Prop} (hX : pj_LX l g true n0 o Go) (x3 : Int) (w : pj_W)  (R : (Int × pj_W) ⊕ (Int × pj_W) → Prop) (h0 : ∀ r, R (Sum.inr (r)) → ((some (0, r.1) : Option pj_V), r.2) = o) (hk18 : ∀ s, R (Sum.inl s) → Go (18, [(3, 0), (10, 0), (26, 0), (0, s.1)], [], s.2)) : pj_TG R (fW_law_1283 (pj_sX g) (pj_sN g) x3 w) (Go (1283, [(3, 0), (10, 0), (26, 0), (0, x3)], [], w)) := by
  have hM := hX.M
  unfold fW_law_1283
  refine pj_tgd (fun h1 => ?_)
  refine pj_tgd (fun h2 => ?_)
  refine pj_tbind (fun p3 h4 => ?_)
  refine pj_tbind (fun p5 h6 => ?_)
  refine pj_map (fun k => pj_aload_n hM (pc := 1283) dL_law_1283 rfl rfl (pj_aload_n hM (pc := 1284) dL_law_1284 rfl rfl (pj_iload_n hM (pc := 1285) dL_law_1285 rfl (pj_iconst hM (pc := 1286) dL_law_1286 (by decide) (pj_iadd hM (pc := 1287) dL_law_1287 (pj_sli hX (pc := 1288) dL_law_1288 h1 (pj_aload_n hM (pc := 1289) dL_law_1289 rfl rfl (pj_iload_n hM (pc := 1290) dL_law_1290 rfl (pj_iconst hM (pc := 1291) dL_law_1291 (by decide) (pj_iadd hM (pc := 1292) dL_law_1292 (pj_sli hX (pc := 1293) dL_law_1293 h2 (pj_cV hM (pc := 1294) (cX_lateness (pj_sX g (pj_wr (x3 + 1))) (pj_sX g (pj_wr (x3 + 2))) w p3 h4) dL_law_1294 mf_X11_lateness mv_X11_lateness ml_L_161 kc_10 rfl rfl (by decide) rfl rfl (pj_aload_n hM (pc := 1297) dL_law_1297 rfl rfl (pj_aload_n hM (pc := 1298) dL_law_1298 rfl rfl (pj_iload_n hM (pc := 1299) dL_law_1299 rfl (pj_iconst hM (pc := 1300) dL_law_1300 (by decide) (pj_iadd hM (pc := 1301) dL_law_1301 (pj_sli hX (pc := 1302) dL_law_1302 h1 (pj_aload_n hM (pc := 1303) dL_law_1303 rfl rfl (pj_iload_n hM (pc := 1304) dL_law_1304 rfl (pj_iconst hM (pc := 1305) dL_law_1305 (by decide) (pj_iadd hM (pc := 1306) dL_law_1306 (pj_sli hX (pc := 1307) dL_law_1307 h2 (pj_cV hM (pc := 1308) (cM_lateness (pj_sX g (pj_wr (x3 + 1))) (pj_sX g (pj_wr (x3 + 2))) p3.2 p5 h6) dL_law_1308 mf_X12_lateness mv_X12_lateness ml_L_164 kc_26 rfl rfl (by decide) rfl rfl k)))))))))))))))))))))))) ?_
  refine pj_tif (fun h7 => ?_) (fun h7 => ?_)
  · refine pj_map (fun k => pj_ic_eq_t hM (pc := 1311) dL_law_1311 rfl h7 (pj_kill hM [true, true, true, true] (lls' := [(3, 0), (10, 0), (26, 0), (0, x3)]) rfl k)) ?_
    exact tW_law_2076 hX x3 p5.2 _ h0 hk18
  exact pj_tret (fun hr => pj_ic_eq_f hM (pc := 1311) 2076 dL_law_1311 rfl h7 (pj_iconst hM (pc := 1314) dL_law_1314 (by decide) (pj_ret hM (pc := 1315) dL_law_1315 ⟨_, rfl, Or.inl rfl⟩ (h0 ((0, p5.2)) hr) rfl)))
theorem tW_law_783 {Go : pj_C → Prop} (hX : pj_LX l g true n0 o Go) (x3 : Int) (w : pj_W)  (R : (Int × pj_W) ⊕ (Int × pj_W) → Prop) (h0 : ∀ r, R (Sum.inr (r)) → ((some (0, r.1) : Option pj_V), r.2) = o) (hk18 : ∀ s, R (Sum.inl s) → Go (18, [(3, 0), (10, 0), (26, 0), (0, s.1)], [], s.2)) : pj_TG R (fW_law_783 (pj_sX g) (pj_sN g) x3 w) (Go (783, [(3, 0), (10, 0), (26, 0), (0, x3)], [], w)) := by
  have hM := hX.M
  unfold fW_law_783
  refine pj_tgd (fun h1 => ?_)
  refine pj_tgd (fun h2 => ?_)
  refine pj_tgd (fun h3 => ?_)
  refine pj_tbind (fun p4 h5 => ?_)
  refine pj_tbind (fun p6 h7 => ?_)
  refine pj_map (fun k => pj_aload_n hM (pc := 783) dL_law_783 rfl rfl (pj_aload_n hM (pc := 784) dL_law_784 rfl rfl (pj_iload_n hM (pc := 785) dL_law_785 rfl (pj_iconst hM (pc := 786) dL_law_786 (by decide) (pj_iadd hM (pc := 787) dL_law_787 (pj_sli hX (pc := 788) dL_law_788 h1 (pj_aload_n hM (pc := 789) dL_law_789 rfl rfl (pj_iload_n hM (pc := 790) dL_law_790 rfl (pj_iconst hM (pc := 791) dL_law_791 (by decide) (pj_iadd hM (pc := 792) dL_law_792 (pj_sli hX (pc := 793) dL_law_793 h2 (pj_aload_n hM (pc := 794) dL_law_794 rfl rfl (pj_iload_n hM (pc := 795) dL_law_795 rfl (pj_iconst hM (pc := 796) dL_law_796 (by decide) (pj_iadd hM (pc := 797) dL_law_797 (pj_sli hX (pc := 798) dL_law_798 h3 (pj_cV hM (pc := 799) (cX_pebble (pj_sX g (pj_wr (x3 + 1))) (pj_sX g (pj_wr (x3 + 2))) (pj_sX g (pj_wr (x3 + 3))) w p4 h5) dL_law_799 mf_X11_pebble mv_X11_pebble ml_L_80 kc_10 rfl rfl (by decide) rfl rfl (pj_aload_n hM (pc := 802) dL_law_802 rfl rfl (pj_aload_n hM (pc := 803) dL_law_803 rfl rfl (pj_iload_n hM (pc := 804) dL_law_804 rfl (pj_iconst hM (pc := 805) dL_law_805 (by decide) (pj_iadd hM (pc := 806) dL_law_806 (pj_sli hX (pc := 807) dL_law_807 h1 (pj_aload_n hM (pc := 808) dL_law_808 rfl rfl (pj_iload_n hM (pc := 809) dL_law_809 rfl (pj_iconst hM (pc := 810) dL_law_810 (by decide) (pj_iadd hM (pc := 811) dL_law_811 (pj_sli hX (pc := 812) dL_law_812 h2 (pj_aload_n hM (pc := 813) dL_law_813 rfl rfl (pj_iload_n hM (pc := 814) dL_law_814 rfl (pj_iconst hM (pc := 815) dL_law_815 (by decide) (pj_iadd hM (pc := 816) dL_law_816 (pj_sli hX (pc := 817) dL_law_817 h3 (pj_cV hM (pc := 818) (cM_pebble (pj_sX g (pj_wr (x3 + 1))) (pj_sX g (pj_wr (x3 + 2))) (pj_sX g (pj_wr (x3 + 3))) p4.2 p6 h7) dL_law_818 mf_X12_pebble mv_X12_pebble ml_L_84 kc_26 rfl rfl (by decide) rfl rfl k)))))))))))))))))))))))))))))))))) ?_
  refine pj_tif (fun h8 => ?_) (fun h8 => ?_)
  · refine pj_map (fun k => pj_ic_eq_t hM (pc := 821) dL_law_821 rfl h8 (pj_kill hM [true, true, true, true] (lls' := [(3, 0), (10, 0), (26, 0), (0, x3)]) rfl k)) ?_
    exact tW_law_2076 hX x3 p6.2 _ h0 hk18
  exact pj_tret (fun hr => pj_ic_eq_f hM (pc := 821) 2076 dL_law_821 rfl h8 (pj_iconst hM (pc := 824) dL_law_824 (by decide) (pj_ret hM (pc := 825) dL_law_825 ⟨_, rfl, Or.inl rfl⟩ (h0 ((0, p6.2)) hr) rfl)))
theorem tW_law_1040 {Go : pj_C → Prop} (hX : pj_LX l g true n0 o Go) (x3 : Int) (w : pj_W)  (R : (Int × pj_W) ⊕ (Int × pj_W) → Prop) (h0 : ∀ r, R (Sum.inr (r)) → ((some (0, r.1) : Option pj_V), r.2) = o) (hk18 : ∀ s, R (Sum.inl s) → Go (18, [(3, 0), (10, 0), (26, 0), (0, s.1)], [], s.2)) : pj_TG R (fW_law_1040 (pj_sX g) (pj_sN g) x3 w) (Go (1040, [(3, 0), (10, 0), (26, 0), (0, x3)], [], w)) := by
  have hM := hX.M
  unfold fW_law_1040
  refine pj_tgd (fun h1 => ?_)
  refine pj_tbind (fun p2 h3 => ?_)
  refine pj_tbind (fun p4 h5 => ?_)
  refine pj_map (fun k => pj_aload_n hM (pc := 1040) dL_law_1040 rfl rfl (pj_aload_n hM (pc := 1041) dL_law_1041 rfl rfl (pj_iload_n hM (pc := 1042) dL_law_1042 rfl (pj_iconst hM (pc := 1043) dL_law_1043 (by decide) (pj_iadd hM (pc := 1044) dL_law_1044 (pj_sli hX (pc := 1045) dL_law_1045 h1 (pj_cV hM (pc := 1046) (cX_last (pj_sX g (pj_wr (x3 + 1))) w p2 h3) dL_law_1046 mf_X11_last mv_X11_last ml_L_117 kc_10 rfl rfl (by decide) rfl rfl (pj_aload_n hM (pc := 1049) dL_law_1049 rfl rfl (pj_aload_n hM (pc := 1050) dL_law_1050 rfl rfl (pj_iload_n hM (pc := 1051) dL_law_1051 rfl (pj_iconst hM (pc := 1052) dL_law_1052 (by decide) (pj_iadd hM (pc := 1053) dL_law_1053 (pj_sli hX (pc := 1054) dL_law_1054 h1 (pj_cV hM (pc := 1055) (cM_last (pj_sX g (pj_wr (x3 + 1))) p2.2 p4 h5) dL_law_1055 mf_X12_last mv_X12_last ml_L_120 kc_26 rfl rfl (by decide) rfl rfl k)))))))))))))) ?_
  refine pj_tif (fun h6 => ?_) (fun h6 => ?_)
  · refine pj_map (fun k => pj_ic_eq_t hM (pc := 1058) dL_law_1058 rfl h6 (pj_kill hM [true, true, true, true] (lls' := [(3, 0), (10, 0), (26, 0), (0, x3)]) rfl k)) ?_
    exact tW_law_2076 hX x3 p4.2 _ h0 hk18
  exact pj_tret (fun hr => pj_ic_eq_f hM (pc := 1058) 2076 dL_law_1058 rfl h6 (pj_iconst hM (pc := 1061) dL_law_1061 (by decide) (pj_ret hM (pc := 1062) dL_law_1062 ⟨_, rfl, Or.inl rfl⟩ (h0 ((0, p4.2)) hr) rfl)))
theorem tW_law_2063 {Go : pj_C → Prop} (hX : pj_LX l g true n0 o Go) (x3 : Int) (w : pj_W)  (R : (Int × pj_W) ⊕ (Int × pj_W) → Prop) (h0 : ∀ r, R (Sum.inr (r)) → ((some (0, r.1) : Option pj_V), r.2) = o) (hk18 : ∀ s, R (Sum.inl s) → Go (18, [(3, 0), (10, 0), (26, 0), (0, s.1)], [], s.2)) : pj_TG R (fW_law_2063 (pj_sX g) (pj_sN g) x3 w) (Go (2063, [(3, 0), (10, 0), (26, 0), (0, x3)], [], w)) := by
  have hM := hX.M
  unfold fW_law_2063
  refine pj_tbind (fun p1 h2 => ?_)
  refine pj_tbind (fun p3 h4 => ?_)
  refine pj_map (fun k => pj_aload_n hM (pc := 2063) dL_law_2063 rfl rfl (pj_cV hM (pc := 2064) (cX_back w p1 h2) dL_law_2064 mf_X11_back mv_X11_back ml_L_281 kc_10 rfl rfl (by decide) rfl rfl (pj_aload_n hM (pc := 2067) dL_law_2067 rfl rfl (pj_cV hM (pc := 2068) (cM_back p1.2 p3 h4) dL_law_2068 mf_X12_back mv_X12_back ml_L_284 kc_26 rfl rfl (by decide) rfl rfl k)))) ?_
  refine pj_tif (fun h5 => ?_) (fun h5 => ?_)
  · refine pj_map (fun k => pj_ic_eq_t hM (pc := 2071) dL_law_2071 rfl h5 (pj_kill hM [true, true, true, true] (lls' := [(3, 0), (10, 0), (26, 0), (0, x3)]) rfl k)) ?_
    exact tW_law_2076 hX x3 p3.2 _ h0 hk18
  exact pj_tret (fun hr => pj_ic_eq_f hM (pc := 2071) 2076 dL_law_2071 rfl h5 (pj_iconst hM (pc := 2074) dL_law_2074 (by decide) (pj_ret hM (pc := 2075) dL_law_2075 ⟨_, rfl, Or.inl rfl⟩ (h0 ((0, p3.2)) hr) rfl)))
theorem tW_law_1560 {Go : pj_C → Prop} (hX : pj_LX l g true n0 o Go) (x3 : Int) (w : pj_W)  (R : (Int × pj_W) ⊕ (Int × pj_W) → Prop) (h0 : ∀ r, R (Sum.inr (r)) → ((some (0, r.1) : Option pj_V), r.2) = o) (hk18 : ∀ s, R (Sum.inl s) → Go (18, [(3, 0), (10, 0), (26, 0), (0, s.1)], [], s.2)) : pj_TG R (fW_law_1560 (pj_sX g) (pj_sN g) x3 w) (Go (1560, [(3, 0), (10, 0), (26, 0), (0, x3)], [], w)) := by
  have hM := hX.M
  unfold fW_law_1560
  refine pj_tgd (fun h1 => ?_)
  refine pj_tbind (fun p2 h3 => ?_)
  refine pj_tbind (fun p4 h5 => ?_)
  refine pj_map (fun k => pj_aload_n hM (pc := 1560) dL_law_1560 rfl rfl (pj_aload_n hM (pc := 1561) dL_law_1561 rfl rfl (pj_iload_n hM (pc := 1562) dL_law_1562 rfl (pj_iconst hM (pc := 1563) dL_law_1563 (by decide) (pj_iadd hM (pc := 1564) dL_law_1564 (pj_sli hX (pc := 1565) dL_law_1565 h1 (pj_cV hM (pc := 1566) (cX_ranked (pj_sX g (pj_wr (x3 + 1))) w p2 h3) dL_law_1566 mf_X11_ranked mv_X11_ranked ml_L_197 kc_10 rfl rfl (by decide) rfl rfl (pj_aload_n hM (pc := 1569) dL_law_1569 rfl rfl (pj_aload_n hM (pc := 1570) dL_law_1570 rfl rfl (pj_iload_n hM (pc := 1571) dL_law_1571 rfl (pj_iconst hM (pc := 1572) dL_law_1572 (by decide) (pj_iadd hM (pc := 1573) dL_law_1573 (pj_sli hX (pc := 1574) dL_law_1574 h1 (pj_cV hM (pc := 1575) (cM_ranked (pj_sX g (pj_wr (x3 + 1))) p2.2 p4 h5) dL_law_1575 mf_X12_ranked mv_X12_ranked ml_L_200 kc_26 rfl rfl (by decide) rfl rfl k)))))))))))))) ?_
  refine pj_tif (fun h6 => ?_) (fun h6 => ?_)
  · refine pj_map (fun k => pj_ic_eq_t hM (pc := 1578) dL_law_1578 rfl h6 (pj_kill hM [true, true, true, true] (lls' := [(3, 0), (10, 0), (26, 0), (0, x3)]) rfl k)) ?_
    exact tW_law_2076 hX x3 p4.2 _ h0 hk18
  exact pj_tret (fun hr => pj_ic_eq_f hM (pc := 1578) 2076 dL_law_1578 rfl h6 (pj_iconst hM (pc := 1581) dL_law_1581 (by decide) (pj_ret hM (pc := 1582) dL_law_1582 ⟨_, rfl, Or.inl rfl⟩ (h0 ((0, p4.2)) hr) rfl)))
theorem tW_law_1823 {Go : pj_C → Prop} (hX : pj_LX l g true n0 o Go) (x3 : Int) (w : pj_W)  (R : (Int × pj_W) ⊕ (Int × pj_W) → Prop) (h0 : ∀ r, R (Sum.inr (r)) → ((some (0, r.1) : Option pj_V), r.2) = o) (hk18 : ∀ s, R (Sum.inl s) → Go (18, [(3, 0), (10, 0), (26, 0), (0, s.1)], [], s.2)) : pj_TG R (fW_law_1823 (pj_sX g) (pj_sN g) x3 w) (Go (1823, [(3, 0), (10, 0), (26, 0), (0, x3)], [], w)) := by
  have hM := hX.M
  unfold fW_law_1823
  refine pj_tbind (fun p1 h2 => ?_)
  refine pj_tbind (fun p3 h4 => ?_)
  refine pj_map (fun k => pj_aload_n hM (pc := 1823) dL_law_1823 rfl rfl (pj_cV hM (pc := 1824) (cX_latest w p1 h2) dL_law_1824 mf_X11_latest mv_X11_latest ml_L_241 kc_10 rfl rfl (by decide) rfl rfl (pj_aload_n hM (pc := 1827) dL_law_1827 rfl rfl (pj_cV hM (pc := 1828) (cM_latest p1.2 p3 h4) dL_law_1828 mf_X12_latest mv_X12_latest ml_L_244 kc_26 rfl rfl (by decide) rfl rfl k)))) ?_
  refine pj_tif (fun h5 => ?_) (fun h5 => ?_)
  · refine pj_map (fun k => pj_ic_eq_t hM (pc := 1831) dL_law_1831 rfl h5 (pj_kill hM [true, true, true, true] (lls' := [(3, 0), (10, 0), (26, 0), (0, x3)]) rfl k)) ?_
    exact tW_law_2076 hX x3 p3.2 _ h0 hk18
  exact pj_tret (fun hr => pj_ic_eq_f hM (pc := 1831) 2076 dL_law_1831 rfl h5 (pj_iconst hM (pc := 1834) dL_law_1834 (by decide) (pj_ret hM (pc := 1835) dL_law_1835 ⟨_, rfl, Or.inl rfl⟩ (h0 ((0, p3.2)) hr) rfl)))
theorem tW_law_1316 {Go : pj_C → Prop} (hX : pj_LX l g true n0 o Go) (x3 : Int) (w : pj_W)  (R : (Int × pj_W) ⊕ (Int × pj_W) → Prop) (h0 : ∀ r, R (Sum.inr (r)) → ((some (0, r.1) : Option pj_V), r.2) = o) (hk18 : ∀ s, R (Sum.inl s) → Go (18, [(3, 0), (10, 0), (26, 0), (0, s.1)], [], s.2)) : pj_TG R (fW_law_1316 (pj_sX g) (pj_sN g) x3 w) (Go (1316, [(3, 0), (10, 0), (26, 0), (0, x3)], [], w)) := by
  have hM := hX.M
  unfold fW_law_1316
  refine pj_tgd (fun h1 => ?_)
  refine pj_tgd (fun h2 => ?_)
  refine pj_tbind (fun p3 h4 => ?_)
  refine pj_tbind (fun p5 h6 => ?_)
  refine pj_map (fun k => pj_aload_n hM (pc := 1316) dL_law_1316 rfl rfl (pj_aload_n hM (pc := 1317) dL_law_1317 rfl rfl (pj_iload_n hM (pc := 1318) dL_law_1318 rfl (pj_iconst hM (pc := 1319) dL_law_1319 (by decide) (pj_iadd hM (pc := 1320) dL_law_1320 (pj_sli hX (pc := 1321) dL_law_1321 h1 (pj_aload_n hM (pc := 1322) dL_law_1322 rfl rfl (pj_iload_n hM (pc := 1323) dL_law_1323 rfl (pj_iconst hM (pc := 1324) dL_law_1324 (by decide) (pj_iadd hM (pc := 1325) dL_law_1325 (pj_sli hX (pc := 1326) dL_law_1326 h2 (pj_cV hM (pc := 1327) (cX_seen (pj_sX g (pj_wr (x3 + 1))) (pj_sX g (pj_wr (x3 + 2))) w p3 h4) dL_law_1327 mf_X11_seen mv_X11_seen ml_L_165 kc_10 rfl rfl (by decide) rfl rfl (pj_aload_n hM (pc := 1330) dL_law_1330 rfl rfl (pj_aload_n hM (pc := 1331) dL_law_1331 rfl rfl (pj_iload_n hM (pc := 1332) dL_law_1332 rfl (pj_iconst hM (pc := 1333) dL_law_1333 (by decide) (pj_iadd hM (pc := 1334) dL_law_1334 (pj_sli hX (pc := 1335) dL_law_1335 h1 (pj_aload_n hM (pc := 1336) dL_law_1336 rfl rfl (pj_iload_n hM (pc := 1337) dL_law_1337 rfl (pj_iconst hM (pc := 1338) dL_law_1338 (by decide) (pj_iadd hM (pc := 1339) dL_law_1339 (pj_sli hX (pc := 1340) dL_law_1340 h2 (pj_cV hM (pc := 1341) (cM_seen (pj_sX g (pj_wr (x3 + 1))) (pj_sX g (pj_wr (x3 + 2))) p3.2 p5 h6) dL_law_1341 mf_X12_seen mv_X12_seen ml_L_168 kc_26 rfl rfl (by decide) rfl rfl k)))))))))))))))))))))))) ?_
  refine pj_tif (fun h7 => ?_) (fun h7 => ?_)
  · refine pj_map (fun k => pj_ic_eq_t hM (pc := 1344) dL_law_1344 rfl h7 (pj_kill hM [true, true, true, true] (lls' := [(3, 0), (10, 0), (26, 0), (0, x3)]) rfl k)) ?_
    exact tW_law_2076 hX x3 p5.2 _ h0 hk18
  exact pj_tret (fun hr => pj_ic_eq_f hM (pc := 1344) 2076 dL_law_1344 rfl h7 (pj_iconst hM (pc := 1347) dL_law_1347 (by decide) (pj_ret hM (pc := 1348) dL_law_1348 ⟨_, rfl, Or.inl rfl⟩ (h0 ((0, p5.2)) hr) rfl)))
theorem tW_law_1063 {Go : pj_C → Prop} (hX : pj_LX l g true n0 o Go) (x3 : Int) (w : pj_W)  (R : (Int × pj_W) ⊕ (Int × pj_W) → Prop) (h0 : ∀ r, R (Sum.inr (r)) → ((some (0, r.1) : Option pj_V), r.2) = o) (hk18 : ∀ s, R (Sum.inl s) → Go (18, [(3, 0), (10, 0), (26, 0), (0, s.1)], [], s.2)) : pj_TG R (fW_law_1063 (pj_sX g) (pj_sN g) x3 w) (Go (1063, [(3, 0), (10, 0), (26, 0), (0, x3)], [], w)) := by
  have hM := hX.M
  unfold fW_law_1063
  refine pj_tgd (fun h1 => ?_)
  refine pj_tbind (fun p2 h3 => ?_)
  refine pj_tbind (fun p4 h5 => ?_)
  refine pj_map (fun k => pj_aload_n hM (pc := 1063) dL_law_1063 rfl rfl (pj_aload_n hM (pc := 1064) dL_law_1064 rfl rfl (pj_iload_n hM (pc := 1065) dL_law_1065 rfl (pj_iconst hM (pc := 1066) dL_law_1066 (by decide) (pj_iadd hM (pc := 1067) dL_law_1067 (pj_sli hX (pc := 1068) dL_law_1068 h1 (pj_cV hM (pc := 1069) (cX_whose (pj_sX g (pj_wr (x3 + 1))) w p2 h3) dL_law_1069 mf_X11_whose mv_X11_whose ml_L_121 kc_10 rfl rfl (by decide) rfl rfl (pj_aload_n hM (pc := 1072) dL_law_1072 rfl rfl (pj_aload_n hM (pc := 1073) dL_law_1073 rfl rfl (pj_iload_n hM (pc := 1074) dL_law_1074 rfl (pj_iconst hM (pc := 1075) dL_law_1075 (by decide) (pj_iadd hM (pc := 1076) dL_law_1076 (pj_sli hX (pc := 1077) dL_law_1077 h1 (pj_cV hM (pc := 1078) (cM_whose (pj_sX g (pj_wr (x3 + 1))) p2.2 p4 h5) dL_law_1078 mf_X12_whose mv_X12_whose ml_L_124 kc_26 rfl rfl (by decide) rfl rfl k)))))))))))))) ?_
  refine pj_tif (fun h6 => ?_) (fun h6 => ?_)
  · refine pj_map (fun k => pj_ic_eq_t hM (pc := 1081) dL_law_1081 rfl h6 (pj_kill hM [true, true, true, true] (lls' := [(3, 0), (10, 0), (26, 0), (0, x3)]) rfl k)) ?_
    exact tW_law_2076 hX x3 p4.2 _ h0 hk18
  exact pj_tret (fun hr => pj_ic_eq_f hM (pc := 1081) 2076 dL_law_1081 rfl h6 (pj_iconst hM (pc := 1084) dL_law_1084 (by decide) (pj_ret hM (pc := 1085) dL_law_1085 ⟨_, rfl, Or.inl rfl⟩ (h0 ((0, p4.2)) hr) rfl)))
theorem tW_law_1836 {Go : pj_C → Prop} (hX : pj_LX l g true n0 o Go) (x3 : Int) (w : pj_W)  (R : (Int × pj_W) ⊕ (Int × pj_W) → Prop) (h0 : ∀ r, R (Sum.inr (r)) → ((some (0, r.1) : Option pj_V), r.2) = o) (hk18 : ∀ s, R (Sum.inl s) → Go (18, [(3, 0), (10, 0), (26, 0), (0, s.1)], [], s.2)) : pj_TG R (fW_law_1836 (pj_sX g) (pj_sN g) x3 w) (Go (1836, [(3, 0), (10, 0), (26, 0), (0, x3)], [], w)) := by
  have hM := hX.M
  unfold fW_law_1836
  refine pj_tgd (fun h1 => ?_)
  refine pj_tbind (fun p2 h3 => ?_)
  refine pj_tbind (fun p4 h5 => ?_)
  refine pj_map (fun k => pj_aload_n hM (pc := 1836) dL_law_1836 rfl rfl (pj_aload_n hM (pc := 1837) dL_law_1837 rfl rfl (pj_iload_n hM (pc := 1838) dL_law_1838 rfl (pj_iconst hM (pc := 1839) dL_law_1839 (by decide) (pj_iadd hM (pc := 1840) dL_law_1840 (pj_sli hX (pc := 1841) dL_law_1841 h1 (pj_cV hM (pc := 1842) (cX_behind (pj_sX g (pj_wr (x3 + 1))) w p2 h3) dL_law_1842 mf_X11_behind mv_X11_behind ml_L_245 kc_10 rfl rfl (by decide) rfl rfl (pj_aload_n hM (pc := 1845) dL_law_1845 rfl rfl (pj_aload_n hM (pc := 1846) dL_law_1846 rfl rfl (pj_iload_n hM (pc := 1847) dL_law_1847 rfl (pj_iconst hM (pc := 1848) dL_law_1848 (by decide) (pj_iadd hM (pc := 1849) dL_law_1849 (pj_sli hX (pc := 1850) dL_law_1850 h1 (pj_cV hM (pc := 1851) (cM_behind (pj_sX g (pj_wr (x3 + 1))) p2.2 p4 h5) dL_law_1851 mf_X12_behind mv_X12_behind ml_L_248 kc_26 rfl rfl (by decide) rfl rfl k)))))))))))))) ?_
  refine pj_tif (fun h6 => ?_) (fun h6 => ?_)
  · refine pj_map (fun k => pj_ic_eq_t hM (pc := 1854) dL_law_1854 rfl h6 (pj_kill hM [true, true, true, true] (lls' := [(3, 0), (10, 0), (26, 0), (0, x3)]) rfl k)) ?_
    exact tW_law_2076 hX x3 p4.2 _ h0 hk18
  exact pj_tret (fun hr => pj_ic_eq_f hM (pc := 1854) 2076 dL_law_1854 rfl h6 (pj_iconst hM (pc := 1857) dL_law_1857 (by decide) (pj_ret hM (pc := 1858) dL_law_1858 ⟨_, rfl, Or.inl rfl⟩ (h0 ((0, p4.2)) hr) rfl)))
theorem tW_law_1583 {Go : pj_C → Prop} (hX : pj_LX l g true n0 o Go) (x3 : Int) (w : pj_W)  (R : (Int × pj_W) ⊕ (Int × pj_W) → Prop) (h0 : ∀ r, R (Sum.inr (r)) → ((some (0, r.1) : Option pj_V), r.2) = o) (hk18 : ∀ s, R (Sum.inl s) → Go (18, [(3, 0), (10, 0), (26, 0), (0, s.1)], [], s.2)) : pj_TG R (fW_law_1583 (pj_sX g) (pj_sN g) x3 w) (Go (1583, [(3, 0), (10, 0), (26, 0), (0, x3)], [], w)) := by
  have hM := hX.M
  unfold fW_law_1583
  refine pj_tgd (fun h1 => ?_)
  refine pj_tgd (fun h2 => ?_)
  refine pj_tbind (fun p3 h4 => ?_)
  refine pj_tbind (fun p5 h6 => ?_)
  refine pj_map (fun k => pj_aload_n hM (pc := 1583) dL_law_1583 rfl rfl (pj_aload_n hM (pc := 1584) dL_law_1584 rfl rfl (pj_iload_n hM (pc := 1585) dL_law_1585 rfl (pj_iconst hM (pc := 1586) dL_law_1586 (by decide) (pj_iadd hM (pc := 1587) dL_law_1587 (pj_sli hX (pc := 1588) dL_law_1588 h1 (pj_aload_n hM (pc := 1589) dL_law_1589 rfl rfl (pj_iload_n hM (pc := 1590) dL_law_1590 rfl (pj_iconst hM (pc := 1591) dL_law_1591 (by decide) (pj_iadd hM (pc := 1592) dL_law_1592 (pj_sli hX (pc := 1593) dL_law_1593 h2 (pj_cV hM (pc := 1594) (cX_rivals (pj_sX g (pj_wr (x3 + 1))) (pj_sX g (pj_wr (x3 + 2))) w p3 h4) dL_law_1594 mf_X11_rivals mv_X11_rivals ml_L_201 kc_10 rfl rfl (by decide) rfl rfl (pj_aload_n hM (pc := 1597) dL_law_1597 rfl rfl (pj_aload_n hM (pc := 1598) dL_law_1598 rfl rfl (pj_iload_n hM (pc := 1599) dL_law_1599 rfl (pj_iconst hM (pc := 1600) dL_law_1600 (by decide) (pj_iadd hM (pc := 1601) dL_law_1601 (pj_sli hX (pc := 1602) dL_law_1602 h1 (pj_aload_n hM (pc := 1603) dL_law_1603 rfl rfl (pj_iload_n hM (pc := 1604) dL_law_1604 rfl (pj_iconst hM (pc := 1605) dL_law_1605 (by decide) (pj_iadd hM (pc := 1606) dL_law_1606 (pj_sli hX (pc := 1607) dL_law_1607 h2 (pj_cV hM (pc := 1608) (cM_rivals (pj_sX g (pj_wr (x3 + 1))) (pj_sX g (pj_wr (x3 + 2))) p3.2 p5 h6) dL_law_1608 mf_X12_rivals mv_X12_rivals ml_L_204 kc_26 rfl rfl (by decide) rfl rfl k)))))))))))))))))))))))) ?_
  refine pj_tif (fun h7 => ?_) (fun h7 => ?_)
  · refine pj_map (fun k => pj_ic_eq_t hM (pc := 1611) dL_law_1611 rfl h7 (pj_kill hM [true, true, true, true] (lls' := [(3, 0), (10, 0), (26, 0), (0, x3)]) rfl k)) ?_
    exact tW_law_2076 hX x3 p5.2 _ h0 hk18
  exact pj_tret (fun hr => pj_ic_eq_f hM (pc := 1611) 2076 dL_law_1611 rfl h7 (pj_iconst hM (pc := 1614) dL_law_1614 (by decide) (pj_ret hM (pc := 1615) dL_law_1615 ⟨_, rfl, Or.inl rfl⟩ (h0 ((0, p5.2)) hr) rfl)))
theorem tW_law_562 {Go : pj_C → Prop} (hX : pj_LX l g true n0 o Go) (x3 : Int) (w : pj_W)  (R : (Int × pj_W) ⊕ (Int × pj_W) → Prop) (h0 : ∀ r, R (Sum.inr (r)) → ((some (0, r.1) : Option pj_V), r.2) = o) (hk18 : ∀ s, R (Sum.inl s) → Go (18, [(3, 0), (10, 0), (26, 0), (0, s.1)], [], s.2)) : pj_TG R (fW_law_562 (pj_sX g) (pj_sN g) x3 w) (Go (562, [(3, 0), (10, 0), (26, 0), (0, x3)], [], w)) := by
  have hM := hX.M
  unfold fW_law_562
  refine pj_tgd (fun h1 => ?_)
  refine pj_tgd (fun h2 => ?_)
  refine pj_tgd (fun h3 => ?_)
  refine pj_tgd (fun h4 => ?_)
  refine pj_tgd (fun h5 => ?_)
  refine pj_tbind (fun p6 h7 => ?_)
  refine pj_tbind (fun p8 h9 => ?_)
  refine pj_map (fun k => pj_aload_n hM (pc := 562) dL_law_562 rfl rfl (pj_aload_n hM (pc := 563) dL_law_563 rfl rfl (pj_iload_n hM (pc := 564) dL_law_564 rfl (pj_iconst hM (pc := 565) dL_law_565 (by decide) (pj_iadd hM (pc := 566) dL_law_566 (pj_sli hX (pc := 567) dL_law_567 h1 (pj_aload_n hM (pc := 568) dL_law_568 rfl rfl (pj_iload_n hM (pc := 569) dL_law_569 rfl (pj_iconst hM (pc := 570) dL_law_570 (by decide) (pj_iadd hM (pc := 571) dL_law_571 (pj_sli hX (pc := 572) dL_law_572 h2 (pj_aload_n hM (pc := 573) dL_law_573 rfl rfl (pj_iload_n hM (pc := 574) dL_law_574 rfl (pj_iconst hM (pc := 575) dL_law_575 (by decide) (pj_iadd hM (pc := 576) dL_law_576 (pj_sli hX (pc := 577) dL_law_577 h3 (pj_aload_n hM (pc := 578) dL_law_578 rfl rfl (pj_iload_n hM (pc := 579) dL_law_579 rfl (pj_iconst hM (pc := 580) dL_law_580 (by decide) (pj_iadd hM (pc := 581) dL_law_581 (pj_sli hX (pc := 582) dL_law_582 h4 (pj_aload_n hM (pc := 583) dL_law_583 rfl rfl (pj_iload_n hM (pc := 584) dL_law_584 rfl (pj_iconst hM (pc := 585) dL_law_585 (by decide) (pj_iadd hM (pc := 586) dL_law_586 (pj_sli hX (pc := 587) dL_law_587 h5 (pj_cV hM (pc := 588) (cX_feed (pj_sX g (pj_wr (x3 + 1))) (pj_sX g (pj_wr (x3 + 2))) (pj_sX g (pj_wr (x3 + 3))) (pj_sX g (pj_wr (x3 + 4))) (pj_sX g (pj_wr (x3 + 5))) w p6 h7) dL_law_588 mf_X11_feed mv_X11_feed ml_L_49 kc_10 rfl rfl (by decide) rfl rfl (pj_aload_n hM (pc := 591) dL_law_591 rfl rfl (pj_aload_n hM (pc := 592) dL_law_592 rfl rfl (pj_iload_n hM (pc := 593) dL_law_593 rfl (pj_iconst hM (pc := 594) dL_law_594 (by decide) (pj_iadd hM (pc := 595) dL_law_595 (pj_sli hX (pc := 596) dL_law_596 h1 (pj_aload_n hM (pc := 597) dL_law_597 rfl rfl (pj_iload_n hM (pc := 598) dL_law_598 rfl (pj_iconst hM (pc := 599) dL_law_599 (by decide) (pj_iadd hM (pc := 600) dL_law_600 (pj_sli hX (pc := 601) dL_law_601 h2 (pj_aload_n hM (pc := 602) dL_law_602 rfl rfl (pj_iload_n hM (pc := 603) dL_law_603 rfl (pj_iconst hM (pc := 604) dL_law_604 (by decide) (pj_iadd hM (pc := 605) dL_law_605 (pj_sli hX (pc := 606) dL_law_606 h3 (pj_aload_n hM (pc := 607) dL_law_607 rfl rfl (pj_iload_n hM (pc := 608) dL_law_608 rfl (pj_iconst hM (pc := 609) dL_law_609 (by decide) (pj_iadd hM (pc := 610) dL_law_610 (pj_sli hX (pc := 611) dL_law_611 h4 (pj_aload_n hM (pc := 612) dL_law_612 rfl rfl (pj_iload_n hM (pc := 613) dL_law_613 rfl (pj_iconst hM (pc := 614) dL_law_614 (by decide) (pj_iadd hM (pc := 615) dL_law_615 (pj_sli hX (pc := 616) dL_law_616 h5 (pj_cV hM (pc := 617) (cM_feed (pj_sX g (pj_wr (x3 + 1))) (pj_sX g (pj_wr (x3 + 2))) (pj_sX g (pj_wr (x3 + 3))) (pj_sX g (pj_wr (x3 + 4))) (pj_sX g (pj_wr (x3 + 5))) p6.2 p8 h9) dL_law_617 mf_X12_feed mv_X12_feed ml_L_53 kc_26 rfl rfl (by decide) rfl rfl k)))))))))))))))))))))))))))))))))))))))))))))))))))))) ?_
  refine pj_tif (fun h10 => ?_) (fun h10 => ?_)
  · refine pj_map (fun k => pj_ic_eq_t hM (pc := 620) dL_law_620 rfl h10 (pj_kill hM [true, true, true, true] (lls' := [(3, 0), (10, 0), (26, 0), (0, x3)]) rfl k)) ?_
    exact tW_law_2076 hX x3 p8.2 _ h0 hk18
  exact pj_tret (fun hr => pj_ic_eq_f hM (pc := 620) 2076 dL_law_620 rfl h10 (pj_iconst hM (pc := 623) dL_law_623 (by decide) (pj_ret hM (pc := 624) dL_law_624 ⟨_, rfl, Or.inl rfl⟩ (h0 ((0, p8.2)) hr) rfl)))
theorem tW_law_308 {Go : pj_C → Prop} (hX : pj_LX l g true n0 o Go) (x3 : Int) (w : pj_W)  (R : (Int × pj_W) ⊕ (Int × pj_W) → Prop) (h0 : ∀ r, R (Sum.inr (r)) → ((some (0, r.1) : Option pj_V), r.2) = o) (hk18 : ∀ s, R (Sum.inl s) → Go (18, [(3, 0), (10, 0), (26, 0), (0, s.1)], [], s.2)) : pj_TG R (fW_law_308 (pj_sX g) (pj_sN g) x3 w) (Go (308, [(3, 0), (10, 0), (26, 0), (0, x3)], [], w)) := by
  have hM := hX.M
  unfold fW_law_308
  refine pj_tbind (fun p1 h2 => ?_)
  refine pj_tbind (fun p3 h4 => ?_)
  refine pj_map (fun k => pj_aload_n hM (pc := 308) dL_law_308 rfl rfl (pj_cV hM (pc := 309) (cX_status w p1 h2) dL_law_309 mf_X11_status mv_X11_status ml_L_13 kc_10 rfl rfl (by decide) rfl rfl (pj_aload_n hM (pc := 312) dL_law_312 rfl rfl (pj_cV hM (pc := 313) (cM_status w p3 h4) dL_law_313 mf_X12_status mv_X12_status ml_L_17 kc_26 rfl rfl (by decide) rfl rfl k)))) ?_
  refine pj_tif (fun h5 => ?_) (fun h5 => ?_)
  · refine pj_map (fun k => pj_ic_eq_t hM (pc := 316) dL_law_316 rfl h5 (pj_kill hM [true, true, true, true] (lls' := [(3, 0), (10, 0), (26, 0), (0, x3)]) rfl k)) ?_
    exact tW_law_2076 hX x3 w _ h0 hk18
  exact pj_tret (fun hr => pj_ic_eq_f hM (pc := 316) 2076 dL_law_316 rfl h5 (pj_iconst hM (pc := 319) dL_law_319 (by decide) (pj_ret hM (pc := 320) dL_law_320 ⟨_, rfl, Or.inl rfl⟩ (h0 ((0, w)) hr) rfl)))
theorem tW_law_826 {Go : pj_C → Prop} (hX : pj_LX l g true n0 o Go) (x3 : Int) (w : pj_W)  (R : (Int × pj_W) ⊕ (Int × pj_W) → Prop) (h0 : ∀ r, R (Sum.inr (r)) → ((some (0, r.1) : Option pj_V), r.2) = o) (hk18 : ∀ s, R (Sum.inl s) → Go (18, [(3, 0), (10, 0), (26, 0), (0, s.1)], [], s.2)) : pj_TG R (fW_law_826 (pj_sX g) (pj_sN g) x3 w) (Go (826, [(3, 0), (10, 0), (26, 0), (0, x3)], [], w)) := by
  have hM := hX.M
  unfold fW_law_826
  refine pj_tgd (fun h1 => ?_)
  refine pj_tgd (fun h2 => ?_)
  refine pj_tbind (fun p3 h4 => ?_)
  refine pj_tbind (fun p5 h6 => ?_)
  refine pj_map (fun k => pj_aload_n hM (pc := 826) dL_law_826 rfl rfl (pj_aload_n hM (pc := 827) dL_law_827 rfl rfl (pj_iload_n hM (pc := 828) dL_law_828 rfl (pj_iconst hM (pc := 829) dL_law_829 (by decide) (pj_iadd hM (pc := 830) dL_law_830 (pj_sli hX (pc := 831) dL_law_831 h1 (pj_aload_n hM (pc := 832) dL_law_832 rfl rfl (pj_iload_n hM (pc := 833) dL_law_833 rfl (pj_iconst hM (pc := 834) dL_law_834 (by decide) (pj_iadd hM (pc := 835) dL_law_835 (pj_sli hX (pc := 836) dL_law_836 h2 (pj_cV hM (pc := 837) (cX_go (pj_sX g (pj_wr (x3 + 1))) (pj_sX g (pj_wr (x3 + 2))) w p3 h4) dL_law_837 mf_X11_go mv_X11_go ml_L_85 kc_10 rfl rfl (by decide) rfl rfl (pj_aload_n hM (pc := 840) dL_law_840 rfl rfl (pj_aload_n hM (pc := 841) dL_law_841 rfl rfl (pj_iload_n hM (pc := 842) dL_law_842 rfl (pj_iconst hM (pc := 843) dL_law_843 (by decide) (pj_iadd hM (pc := 844) dL_law_844 (pj_sli hX (pc := 845) dL_law_845 h1 (pj_aload_n hM (pc := 846) dL_law_846 rfl rfl (pj_iload_n hM (pc := 847) dL_law_847 rfl (pj_iconst hM (pc := 848) dL_law_848 (by decide) (pj_iadd hM (pc := 849) dL_law_849 (pj_sli hX (pc := 850) dL_law_850 h2 (pj_cV hM (pc := 851) (cM_go (pj_sX g (pj_wr (x3 + 1))) (pj_sX g (pj_wr (x3 + 2))) p3.2 p5 h6) dL_law_851 mf_X12_go mv_X12_go ml_L_88 kc_26 rfl rfl (by decide) rfl rfl k)))))))))))))))))))))))) ?_
  refine pj_tif (fun h7 => ?_) (fun h7 => ?_)
  · refine pj_map (fun k => pj_ic_eq_t hM (pc := 854) dL_law_854 rfl h7 (pj_kill hM [true, true, true, true] (lls' := [(3, 0), (10, 0), (26, 0), (0, x3)]) rfl k)) ?_
    exact tW_law_2076 hX x3 p5.2 _ h0 hk18
  exact pj_tret (fun hr => pj_ic_eq_f hM (pc := 854) 2076 dL_law_854 rfl h7 (pj_iconst hM (pc := 857) dL_law_857 (by decide) (pj_ret hM (pc := 858) dL_law_858 ⟨_, rfl, Or.inl rfl⟩ (h0 ((0, p5.2)) hr) rfl)))
theorem tW_law_1086 {Go : pj_C → Prop} (hX : pj_LX l g true n0 o Go) (x3 : Int) (w : pj_W)  (R : (Int × pj_W) ⊕ (Int × pj_W) → Prop) (h0 : ∀ r, R (Sum.inr (r)) → ((some (0, r.1) : Option pj_V), r.2) = o) (hk18 : ∀ s, R (Sum.inl s) → Go (18, [(3, 0), (10, 0), (26, 0), (0, s.1)], [], s.2)) : pj_TG R (fW_law_1086 (pj_sX g) (pj_sN g) x3 w) (Go (1086, [(3, 0), (10, 0), (26, 0), (0, x3)], [], w)) := by
  have hM := hX.M
  unfold fW_law_1086
  refine pj_tgd (fun h1 => ?_)
  refine pj_tbind (fun p2 h3 => ?_)
  refine pj_tbind (fun p4 h5 => ?_)
  refine pj_map (fun k => pj_aload_n hM (pc := 1086) dL_law_1086 rfl rfl (pj_aload_n hM (pc := 1087) dL_law_1087 rfl rfl (pj_iload_n hM (pc := 1088) dL_law_1088 rfl (pj_iconst hM (pc := 1089) dL_law_1089 (by decide) (pj_iadd hM (pc := 1090) dL_law_1090 (pj_sli hX (pc := 1091) dL_law_1091 h1 (pj_cV hM (pc := 1092) (cX_leads (pj_sX g (pj_wr (x3 + 1))) w p2 h3) dL_law_1092 mf_X11_leads mv_X11_leads ml_L_125 kc_10 rfl rfl (by decide) rfl rfl (pj_aload_n hM (pc := 1095) dL_law_1095 rfl rfl (pj_aload_n hM (pc := 1096) dL_law_1096 rfl rfl (pj_iload_n hM (pc := 1097) dL_law_1097 rfl (pj_iconst hM (pc := 1098) dL_law_1098 (by decide) (pj_iadd hM (pc := 1099) dL_law_1099 (pj_sli hX (pc := 1100) dL_law_1100 h1 (pj_cV hM (pc := 1101) (cM_leads (pj_sX g (pj_wr (x3 + 1))) p2.2 p4 h5) dL_law_1101 mf_X12_leads mv_X12_leads ml_L_128 kc_26 rfl rfl (by decide) rfl rfl k)))))))))))))) ?_
  refine pj_tif (fun h6 => ?_) (fun h6 => ?_)
  · refine pj_map (fun k => pj_ic_eq_t hM (pc := 1104) dL_law_1104 rfl h6 (pj_kill hM [true, true, true, true] (lls' := [(3, 0), (10, 0), (26, 0), (0, x3)]) rfl k)) ?_
    exact tW_law_2076 hX x3 p4.2 _ h0 hk18
  exact pj_tret (fun hr => pj_ic_eq_f hM (pc := 1104) 2076 dL_law_1104 rfl h6 (pj_iconst hM (pc := 1107) dL_law_1107 (by decide) (pj_ret hM (pc := 1108) dL_law_1108 ⟨_, rfl, Or.inl rfl⟩ (h0 ((0, p4.2)) hr) rfl)))
theorem tW_law_321 {Go : pj_C → Prop} (hX : pj_LX l g true n0 o Go) (x3 : Int) (w : pj_W)  (R : (Int × pj_W) ⊕ (Int × pj_W) → Prop) (h0 : ∀ r, R (Sum.inr (r)) → ((some (0, r.1) : Option pj_V), r.2) = o) (hk18 : ∀ s, R (Sum.inl s) → Go (18, [(3, 0), (10, 0), (26, 0), (0, s.1)], [], s.2)) : pj_TG R (fW_law_321 (pj_sX g) (pj_sN g) x3 w) (Go (321, [(3, 0), (10, 0), (26, 0), (0, x3)], [], w)) := by
  have hM := hX.M
  unfold fW_law_321
  refine pj_tbind (fun p1 h2 => ?_)
  refine pj_tbind (fun p3 h4 => ?_)
  refine pj_map (fun k => pj_aload_n hM (pc := 321) dL_law_321 rfl rfl (pj_cV hM (pc := 322) (cX_top w p1 h2) dL_law_322 mf_X11_top mv_X11_top ml_L_18 kc_10 rfl rfl (by decide) rfl rfl (pj_aload_n hM (pc := 325) dL_law_325 rfl rfl (pj_cV hM (pc := 326) (cM_top w p3 h4) dL_law_326 mf_X12_top mv_X12_top ml_L_22 kc_26 rfl rfl (by decide) rfl rfl (pj_lcmp hM (pc := 329) dL_law_329 k))))) ?_
  refine pj_tif (fun h5 => ?_) (fun h5 => ?_)
  · refine pj_map (fun k => pj_if_eq_t hM (pc := 330) dL_law_330 rfl h5 (pj_kill hM [true, true, true, true] (lls' := [(3, 0), (10, 0), (26, 0), (0, x3)]) rfl k)) ?_
    exact tW_law_2076 hX x3 w _ h0 hk18
  exact pj_tret (fun hr => pj_if_eq_f hM (pc := 330) 2076 dL_law_330 rfl h5 (pj_iconst hM (pc := 333) dL_law_333 (by decide) (pj_ret hM (pc := 334) dL_law_334 ⟨_, rfl, Or.inl rfl⟩ (h0 ((0, w)) hr) rfl)))
theorem tW_law_1859 {Go : pj_C → Prop} (hX : pj_LX l g true n0 o Go) (x3 : Int) (w : pj_W)  (R : (Int × pj_W) ⊕ (Int × pj_W) → Prop) (h0 : ∀ r, R (Sum.inr (r)) → ((some (0, r.1) : Option pj_V), r.2) = o) (hk18 : ∀ s, R (Sum.inl s) → Go (18, [(3, 0), (10, 0), (26, 0), (0, s.1)], [], s.2)) : pj_TG R (fW_law_1859 (pj_sX g) (pj_sN g) x3 w) (Go (1859, [(3, 0), (10, 0), (26, 0), (0, x3)], [], w)) := by
  have hM := hX.M
  unfold fW_law_1859
  refine pj_tbind (fun p1 h2 => ?_)
  refine pj_tbind (fun p3 h4 => ?_)
  refine pj_map (fun k => pj_aload_n hM (pc := 1859) dL_law_1859 rfl rfl (pj_cV hM (pc := 1860) (cX_alone w p1 h2) dL_law_1860 mf_X11_alone mv_X11_alone ml_L_249 kc_10 rfl rfl (by decide) rfl rfl (pj_aload_n hM (pc := 1863) dL_law_1863 rfl rfl (pj_cV hM (pc := 1864) (cM_alone p1.2 p3 h4) dL_law_1864 mf_X12_alone mv_X12_alone ml_L_252 kc_26 rfl rfl (by decide) rfl rfl k)))) ?_
  refine pj_tif (fun h5 => ?_) (fun h5 => ?_)
  · refine pj_map (fun k => pj_ic_eq_t hM (pc := 1867) dL_law_1867 rfl h5 (pj_kill hM [true, true, true, true] (lls' := [(3, 0), (10, 0), (26, 0), (0, x3)]) rfl k)) ?_
    exact tW_law_2076 hX x3 p3.2 _ h0 hk18
  exact pj_tret (fun hr => pj_ic_eq_f hM (pc := 1867) 2076 dL_law_1867 rfl h5 (pj_iconst hM (pc := 1870) dL_law_1870 (by decide) (pj_ret hM (pc := 1871) dL_law_1871 ⟨_, rfl, Or.inl rfl⟩ (h0 ((0, p3.2)) hr) rfl)))
theorem tW_law_1349 {Go : pj_C → Prop} (hX : pj_LX l g true n0 o Go) (x3 : Int) (w : pj_W)  (R : (Int × pj_W) ⊕ (Int × pj_W) → Prop) (h0 : ∀ r, R (Sum.inr (r)) → ((some (0, r.1) : Option pj_V), r.2) = o) (hk18 : ∀ s, R (Sum.inl s) → Go (18, [(3, 0), (10, 0), (26, 0), (0, s.1)], [], s.2)) : pj_TG R (fW_law_1349 (pj_sX g) (pj_sN g) x3 w) (Go (1349, [(3, 0), (10, 0), (26, 0), (0, x3)], [], w)) := by
  have hM := hX.M
  unfold fW_law_1349
  refine pj_tgd (fun h1 => ?_)
  refine pj_tbind (fun p2 h3 => ?_)
  refine pj_tbind (fun p4 h5 => ?_)
  refine pj_map (fun k => pj_aload_n hM (pc := 1349) dL_law_1349 rfl rfl (pj_aload_n hM (pc := 1350) dL_law_1350 rfl rfl (pj_iload_n hM (pc := 1351) dL_law_1351 rfl (pj_iconst hM (pc := 1352) dL_law_1352 (by decide) (pj_iadd hM (pc := 1353) dL_law_1353 (pj_sli hX (pc := 1354) dL_law_1354 h1 (pj_cV hM (pc := 1355) (cX_boys (pj_sX g (pj_wr (x3 + 1))) w p2 h3) dL_law_1355 mf_X11_boys mv_X11_boys ml_L_169 kc_10 rfl rfl (by decide) rfl rfl (pj_aload_n hM (pc := 1358) dL_law_1358 rfl rfl (pj_aload_n hM (pc := 1359) dL_law_1359 rfl rfl (pj_iload_n hM (pc := 1360) dL_law_1360 rfl (pj_iconst hM (pc := 1361) dL_law_1361 (by decide) (pj_iadd hM (pc := 1362) dL_law_1362 (pj_sli hX (pc := 1363) dL_law_1363 h1 (pj_cV hM (pc := 1364) (cM_boys (pj_sX g (pj_wr (x3 + 1))) p2.2 p4 h5) dL_law_1364 mf_X12_boys mv_X12_boys ml_L_172 kc_26 rfl rfl (by decide) rfl rfl k)))))))))))))) ?_
  refine pj_tif (fun h6 => ?_) (fun h6 => ?_)
  · refine pj_map (fun k => pj_ic_eq_t hM (pc := 1367) dL_law_1367 rfl h6 (pj_kill hM [true, true, true, true] (lls' := [(3, 0), (10, 0), (26, 0), (0, x3)]) rfl k)) ?_
    exact tW_law_2076 hX x3 p4.2 _ h0 hk18
  exact pj_tret (fun hr => pj_ic_eq_f hM (pc := 1367) 2076 dL_law_1367 rfl h6 (pj_iconst hM (pc := 1370) dL_law_1370 (by decide) (pj_ret hM (pc := 1371) dL_law_1371 ⟨_, rfl, Or.inl rfl⟩ (h0 ((0, p4.2)) hr) rfl)))
theorem tW_law_335 {Go : pj_C → Prop} (hX : pj_LX l g true n0 o Go) (x3 : Int) (w : pj_W)  (R : (Int × pj_W) ⊕ (Int × pj_W) → Prop) (h0 : ∀ r, R (Sum.inr (r)) → ((some (0, r.1) : Option pj_V), r.2) = o) (hk18 : ∀ s, R (Sum.inl s) → Go (18, [(3, 0), (10, 0), (26, 0), (0, s.1)], [], s.2)) : pj_TG R (fW_law_335 (pj_sX g) (pj_sN g) x3 w) (Go (335, [(3, 0), (10, 0), (26, 0), (0, x3)], [], w)) := by
  have hM := hX.M
  unfold fW_law_335
  refine pj_tbind (fun p1 h2 => ?_)
  refine pj_tbind (fun p3 h4 => ?_)
  refine pj_map (fun k => pj_aload_n hM (pc := 335) dL_law_335 rfl rfl (pj_cV hM (pc := 336) (cX_bottom w p1 h2) dL_law_336 mf_X11_bottom mv_X11_bottom ml_L_23 kc_10 rfl rfl (by decide) rfl rfl (pj_aload_n hM (pc := 339) dL_law_339 rfl rfl (pj_cV hM (pc := 340) (cM_bottom w p3 h4) dL_law_340 mf_X12_bottom mv_X12_bottom ml_L_26 kc_26 rfl rfl (by decide) rfl rfl (pj_lcmp hM (pc := 343) dL_law_343 k))))) ?_
  refine pj_tif (fun h5 => ?_) (fun h5 => ?_)
  · refine pj_map (fun k => pj_if_eq_t hM (pc := 344) dL_law_344 rfl h5 (pj_kill hM [true, true, true, true] (lls' := [(3, 0), (10, 0), (26, 0), (0, x3)]) rfl k)) ?_
    exact tW_law_2076 hX x3 w _ h0 hk18
  exact pj_tret (fun hr => pj_if_eq_f hM (pc := 344) 2076 dL_law_344 rfl h5 (pj_iconst hM (pc := 347) dL_law_347 (by decide) (pj_ret hM (pc := 348) dL_law_348 ⟨_, rfl, Or.inl rfl⟩ (h0 ((0, w)) hr) rfl)))
theorem tW_law_1616 {Go : pj_C → Prop} (hX : pj_LX l g true n0 o Go) (x3 : Int) (w : pj_W)  (R : (Int × pj_W) ⊕ (Int × pj_W) → Prop) (h0 : ∀ r, R (Sum.inr (r)) → ((some (0, r.1) : Option pj_V), r.2) = o) (hk18 : ∀ s, R (Sum.inl s) → Go (18, [(3, 0), (10, 0), (26, 0), (0, s.1)], [], s.2)) : pj_TG R (fW_law_1616 (pj_sX g) (pj_sN g) x3 w) (Go (1616, [(3, 0), (10, 0), (26, 0), (0, x3)], [], w)) := by
  have hM := hX.M
  unfold fW_law_1616
  refine pj_tbind (fun p1 h2 => ?_)
  refine pj_tbind (fun p3 h4 => ?_)
  refine pj_map (fun k => pj_aload_n hM (pc := 1616) dL_law_1616 rfl rfl (pj_cV hM (pc := 1617) (cX_richest w p1 h2) dL_law_1617 mf_X11_richest mv_X11_richest ml_L_205 kc_10 rfl rfl (by decide) rfl rfl (pj_aload_n hM (pc := 1620) dL_law_1620 rfl rfl (pj_cV hM (pc := 1621) (cM_richest p1.2 p3 h4) dL_law_1621 mf_X12_richest mv_X12_richest ml_L_208 kc_26 rfl rfl (by decide) rfl rfl k)))) ?_
  refine pj_tif (fun h5 => ?_) (fun h5 => ?_)
  · refine pj_map (fun k => pj_ic_eq_t hM (pc := 1624) dL_law_1624 rfl h5 (pj_kill hM [true, true, true, true] (lls' := [(3, 0), (10, 0), (26, 0), (0, x3)]) rfl k)) ?_
    exact tW_law_2076 hX x3 p3.2 _ h0 hk18
  exact pj_tret (fun hr => pj_ic_eq_f hM (pc := 1624) 2076 dL_law_1624 rfl h5 (pj_iconst hM (pc := 1627) dL_law_1627 (by decide) (pj_ret hM (pc := 1628) dL_law_1628 ⟨_, rfl, Or.inl rfl⟩ (h0 ((0, p3.2)) hr) rfl)))
theorem tW_law_1872 {Go : pj_C → Prop} (hX : pj_LX l g true n0 o Go) (x3 : Int) (w : pj_W)  (R : (Int × pj_W) ⊕ (Int × pj_W) → Prop) (h0 : ∀ r, R (Sum.inr (r)) → ((some (0, r.1) : Option pj_V), r.2) = o) (hk18 : ∀ s, R (Sum.inl s) → Go (18, [(3, 0), (10, 0), (26, 0), (0, s.1)], [], s.2)) : pj_TG R (fW_law_1872 (pj_sX g) (pj_sN g) x3 w) (Go (1872, [(3, 0), (10, 0), (26, 0), (0, x3)], [], w)) := by
  have hM := hX.M
  unfold fW_law_1872
  refine pj_tgd (fun h1 => ?_)
  refine pj_tgd (fun h2 => ?_)
  refine pj_tbind (fun p3 h4 => ?_)
  refine pj_tbind (fun p5 h6 => ?_)
  refine pj_map (fun k => pj_aload_n hM (pc := 1872) dL_law_1872 rfl rfl (pj_aload_n hM (pc := 1873) dL_law_1873 rfl rfl (pj_iload_n hM (pc := 1874) dL_law_1874 rfl (pj_iconst hM (pc := 1875) dL_law_1875 (by decide) (pj_iadd hM (pc := 1876) dL_law_1876 (pj_sli hX (pc := 1877) dL_law_1877 h1 (pj_aload_n hM (pc := 1878) dL_law_1878 rfl rfl (pj_iload_n hM (pc := 1879) dL_law_1879 rfl (pj_iconst hM (pc := 1880) dL_law_1880 (by decide) (pj_iadd hM (pc := 1881) dL_law_1881 (pj_sli hX (pc := 1882) dL_law_1882 h2 (pj_cV hM (pc := 1883) (cX_part (pj_sX g (pj_wr (x3 + 1))) (pj_sX g (pj_wr (x3 + 2))) w p3 h4) dL_law_1883 mf_X11_part mv_X11_part ml_L_253 kc_10 rfl rfl (by decide) rfl rfl (pj_aload_n hM (pc := 1886) dL_law_1886 rfl rfl (pj_aload_n hM (pc := 1887) dL_law_1887 rfl rfl (pj_iload_n hM (pc := 1888) dL_law_1888 rfl (pj_iconst hM (pc := 1889) dL_law_1889 (by decide) (pj_iadd hM (pc := 1890) dL_law_1890 (pj_sli hX (pc := 1891) dL_law_1891 h1 (pj_aload_n hM (pc := 1892) dL_law_1892 rfl rfl (pj_iload_n hM (pc := 1893) dL_law_1893 rfl (pj_iconst hM (pc := 1894) dL_law_1894 (by decide) (pj_iadd hM (pc := 1895) dL_law_1895 (pj_sli hX (pc := 1896) dL_law_1896 h2 (pj_cV hM (pc := 1897) (cM_part (pj_sX g (pj_wr (x3 + 1))) (pj_sX g (pj_wr (x3 + 2))) p3.2 p5 h6) dL_law_1897 mf_X12_part mv_X12_part ml_L_256 kc_26 rfl rfl (by decide) rfl rfl k)))))))))))))))))))))))) ?_
  refine pj_tif (fun h7 => ?_) (fun h7 => ?_)
  · refine pj_map (fun k => pj_ic_eq_t hM (pc := 1900) dL_law_1900 rfl h7 (pj_kill hM [true, true, true, true] (lls' := [(3, 0), (10, 0), (26, 0), (0, x3)]) rfl k)) ?_
    exact tW_law_2076 hX x3 p5.2 _ h0 hk18
  exact pj_tret (fun hr => pj_ic_eq_f hM (pc := 1900) 2076 dL_law_1900 rfl h7 (pj_iconst hM (pc := 1903) dL_law_1903 (by decide) (pj_ret hM (pc := 1904) dL_law_1904 ⟨_, rfl, Or.inl rfl⟩ (h0 ((0, p5.2)) hr) rfl)))
theorem tW_law_1109 {Go : pj_C → Prop} (hX : pj_LX l g true n0 o Go) (x3 : Int) (w : pj_W)  (R : (Int × pj_W) ⊕ (Int × pj_W) → Prop) (h0 : ∀ r, R (Sum.inr (r)) → ((some (0, r.1) : Option pj_V), r.2) = o) (hk18 : ∀ s, R (Sum.inl s) → Go (18, [(3, 0), (10, 0), (26, 0), (0, s.1)], [], s.2)) : pj_TG R (fW_law_1109 (pj_sX g) (pj_sN g) x3 w) (Go (1109, [(3, 0), (10, 0), (26, 0), (0, x3)], [], w)) := by
  have hM := hX.M
  unfold fW_law_1109
  refine pj_tbind (fun p1 h2 => ?_)
  refine pj_tbind (fun p3 h4 => ?_)
  refine pj_map (fun k => pj_aload_n hM (pc := 1109) dL_law_1109 rfl rfl (pj_cV hM (pc := 1110) (cX_leader w p1 h2) dL_law_1110 mf_X11_leader mv_X11_leader ml_L_129 kc_10 rfl rfl (by decide) rfl rfl (pj_aload_n hM (pc := 1113) dL_law_1113 rfl rfl (pj_cV hM (pc := 1114) (cM_leader p1.2 p3 h4) dL_law_1114 mf_X12_leader mv_X12_leader ml_L_132 kc_26 rfl rfl (by decide) rfl rfl k)))) ?_
  refine pj_tif (fun h5 => ?_) (fun h5 => ?_)
  · refine pj_map (fun k => pj_ic_eq_t hM (pc := 1117) dL_law_1117 rfl h5 (pj_kill hM [true, true, true, true] (lls' := [(3, 0), (10, 0), (26, 0), (0, x3)]) rfl k)) ?_
    exact tW_law_2076 hX x3 p3.2 _ h0 hk18
  exact pj_tret (fun hr => pj_ic_eq_f hM (pc := 1117) 2076 dL_law_1117 rfl h5 (pj_iconst hM (pc := 1120) dL_law_1120 (by decide) (pj_ret hM (pc := 1121) dL_law_1121 ⟨_, rfl, Or.inl rfl⟩ (h0 ((0, p3.2)) hr) rfl)))
theorem tW_law_859 {Go : pj_C → Prop} (hX : pj_LX l g true n0 o Go) (x3 : Int) (w : pj_W)  (R : (Int × pj_W) ⊕ (Int × pj_W) → Prop) (h0 : ∀ r, R (Sum.inr (r)) → ((some (0, r.1) : Option pj_V), r.2) = o) (hk18 : ∀ s, R (Sum.inl s) → Go (18, [(3, 0), (10, 0), (26, 0), (0, s.1)], [], s.2)) : pj_TG R (fW_law_859 (pj_sX g) (pj_sN g) x3 w) (Go (859, [(3, 0), (10, 0), (26, 0), (0, x3)], [], w)) := by
  have hM := hX.M
  unfold fW_law_859
  refine pj_tgd (fun h1 => ?_)
  refine pj_tgd (fun h2 => ?_)
  refine pj_tbind (fun p3 h4 => ?_)
  refine pj_tbind (fun p5 h6 => ?_)
  refine pj_map (fun k => pj_aload_n hM (pc := 859) dL_law_859 rfl rfl (pj_aload_n hM (pc := 860) dL_law_860 rfl rfl (pj_iload_n hM (pc := 861) dL_law_861 rfl (pj_iconst hM (pc := 862) dL_law_862 (by decide) (pj_iadd hM (pc := 863) dL_law_863 (pj_sli hX (pc := 864) dL_law_864 h1 (pj_aload_n hM (pc := 865) dL_law_865 rfl rfl (pj_iload_n hM (pc := 866) dL_law_866 rfl (pj_iconst hM (pc := 867) dL_law_867 (by decide) (pj_iadd hM (pc := 868) dL_law_868 (pj_sli hX (pc := 869) dL_law_869 h2 (pj_cV hM (pc := 870) (cX_pass (pj_sX g (pj_wr (x3 + 1))) (pj_sX g (pj_wr (x3 + 2))) w p3 h4) dL_law_870 mf_X11_pass mv_X11_pass ml_L_89 kc_10 rfl rfl (by decide) rfl rfl (pj_aload_n hM (pc := 873) dL_law_873 rfl rfl (pj_aload_n hM (pc := 874) dL_law_874 rfl rfl (pj_iload_n hM (pc := 875) dL_law_875 rfl (pj_iconst hM (pc := 876) dL_law_876 (by decide) (pj_iadd hM (pc := 877) dL_law_877 (pj_sli hX (pc := 878) dL_law_878 h1 (pj_aload_n hM (pc := 879) dL_law_879 rfl rfl (pj_iload_n hM (pc := 880) dL_law_880 rfl (pj_iconst hM (pc := 881) dL_law_881 (by decide) (pj_iadd hM (pc := 882) dL_law_882 (pj_sli hX (pc := 883) dL_law_883 h2 (pj_cV hM (pc := 884) (cM_pass (pj_sX g (pj_wr (x3 + 1))) (pj_sX g (pj_wr (x3 + 2))) p3.2 p5 h6) dL_law_884 mf_X12_pass mv_X12_pass ml_L_92 kc_26 rfl rfl (by decide) rfl rfl k)))))))))))))))))))))))) ?_
  refine pj_tif (fun h7 => ?_) (fun h7 => ?_)
  · refine pj_map (fun k => pj_ic_eq_t hM (pc := 887) dL_law_887 rfl h7 (pj_kill hM [true, true, true, true] (lls' := [(3, 0), (10, 0), (26, 0), (0, x3)]) rfl k)) ?_
    exact tW_law_2076 hX x3 p5.2 _ h0 hk18
  exact pj_tret (fun hr => pj_ic_eq_f hM (pc := 887) 2076 dL_law_887 rfl h7 (pj_iconst hM (pc := 890) dL_law_890 (by decide) (pj_ret hM (pc := 891) dL_law_891 ⟨_, rfl, Or.inl rfl⟩ (h0 ((0, p5.2)) hr) rfl)))
theorem tW_law_1372 {Go : pj_C → Prop} (hX : pj_LX l g true n0 o Go) (x3 : Int) (w : pj_W)  (R : (Int × pj_W) ⊕ (Int × pj_W) → Prop) (h0 : ∀ r, R (Sum.inr (r)) → ((some (0, r.1) : Option pj_V), r.2) = o) (hk18 : ∀ s, R (Sum.inl s) → Go (18, [(3, 0), (10, 0), (26, 0), (0, s.1)], [], s.2)) : pj_TG R (fW_law_1372 (pj_sX g) (pj_sN g) x3 w) (Go (1372, [(3, 0), (10, 0), (26, 0), (0, x3)], [], w)) := by
  have hM := hX.M
  unfold fW_law_1372
  refine pj_tgd (fun h1 => ?_)
  refine pj_tgd (fun h2 => ?_)
  refine pj_tbind (fun p3 h4 => ?_)
  refine pj_tbind (fun p5 h6 => ?_)
  refine pj_map (fun k => pj_aload_n hM (pc := 1372) dL_law_1372 rfl rfl (pj_aload_n hM (pc := 1373) dL_law_1373 rfl rfl (pj_iload_n hM (pc := 1374) dL_law_1374 rfl (pj_iconst hM (pc := 1375) dL_law_1375 (by decide) (pj_iadd hM (pc := 1376) dL_law_1376 (pj_sli hX (pc := 1377) dL_law_1377 h1 (pj_aload_n hM (pc := 1378) dL_law_1378 rfl rfl (pj_iload_n hM (pc := 1379) dL_law_1379 rfl (pj_iconst hM (pc := 1380) dL_law_1380 (by decide) (pj_iadd hM (pc := 1381) dL_law_1381 (pj_sli hX (pc := 1382) dL_law_1382 h2 (pj_cV hM (pc := 1383) (cX_boyAt (pj_sX g (pj_wr (x3 + 1))) (pj_sX g (pj_wr (x3 + 2))) w p3 h4) dL_law_1383 mf_X11_boyAt mv_X11_boyAt ml_L_173 kc_10 rfl rfl (by decide) rfl rfl (pj_aload_n hM (pc := 1386) dL_law_1386 rfl rfl (pj_aload_n hM (pc := 1387) dL_law_1387 rfl rfl (pj_iload_n hM (pc := 1388) dL_law_1388 rfl (pj_iconst hM (pc := 1389) dL_law_1389 (by decide) (pj_iadd hM (pc := 1390) dL_law_1390 (pj_sli hX (pc := 1391) dL_law_1391 h1 (pj_aload_n hM (pc := 1392) dL_law_1392 rfl rfl (pj_iload_n hM (pc := 1393) dL_law_1393 rfl (pj_iconst hM (pc := 1394) dL_law_1394 (by decide) (pj_iadd hM (pc := 1395) dL_law_1395 (pj_sli hX (pc := 1396) dL_law_1396 h2 (pj_cV hM (pc := 1397) (cM_boyAt (pj_sX g (pj_wr (x3 + 1))) (pj_sX g (pj_wr (x3 + 2))) p3.2 p5 h6) dL_law_1397 mf_X12_boyAt mv_X12_boyAt ml_L_176 kc_26 rfl rfl (by decide) rfl rfl k)))))))))))))))))))))))) ?_
  refine pj_tif (fun h7 => ?_) (fun h7 => ?_)
  · refine pj_map (fun k => pj_ic_eq_t hM (pc := 1400) dL_law_1400 rfl h7 (pj_kill hM [true, true, true, true] (lls' := [(3, 0), (10, 0), (26, 0), (0, x3)]) rfl k)) ?_
    exact tW_law_2076 hX x3 p5.2 _ h0 hk18
  exact pj_tret (fun hr => pj_ic_eq_f hM (pc := 1400) 2076 dL_law_1400 rfl h7 (pj_iconst hM (pc := 1403) dL_law_1403 (by decide) (pj_ret hM (pc := 1404) dL_law_1404 ⟨_, rfl, Or.inl rfl⟩ (h0 ((0, p5.2)) hr) rfl)))
theorem tW_law_349 {Go : pj_C → Prop} (hX : pj_LX l g true n0 o Go) (x3 : Int) (w : pj_W)  (R : (Int × pj_W) ⊕ (Int × pj_W) → Prop) (h0 : ∀ r, R (Sum.inr (r)) → ((some (0, r.1) : Option pj_V), r.2) = o) (hk18 : ∀ s, R (Sum.inl s) → Go (18, [(3, 0), (10, 0), (26, 0), (0, s.1)], [], s.2)) : pj_TG R (fW_law_349 (pj_sX g) (pj_sN g) x3 w) (Go (349, [(3, 0), (10, 0), (26, 0), (0, x3)], [], w)) := by
  have hM := hX.M
  unfold fW_law_349
  refine pj_tgd (fun h1 => ?_)
  refine pj_tgd (fun h2 => ?_)
  refine pj_tgd (fun h3 => ?_)
  refine pj_tbind (fun p4 h5 => ?_)
  refine pj_tbind (fun p6 h7 => ?_)
  refine pj_map (fun k => pj_aload_n hM (pc := 349) dL_law_349 rfl rfl (pj_aload_n hM (pc := 350) dL_law_350 rfl rfl (pj_iload_n hM (pc := 351) dL_law_351 rfl (pj_iconst hM (pc := 352) dL_law_352 (by decide) (pj_iadd hM (pc := 353) dL_law_353 (pj_sli hX (pc := 354) dL_law_354 h1 (pj_aload_n hM (pc := 355) dL_law_355 rfl rfl (pj_iload_n hM (pc := 356) dL_law_356 rfl (pj_iconst hM (pc := 357) dL_law_357 (by decide) (pj_iadd hM (pc := 358) dL_law_358 (pj_sli hX (pc := 359) dL_law_359 h2 (pj_aload_n hM (pc := 360) dL_law_360 rfl rfl (pj_iload_n hM (pc := 361) dL_law_361 rfl (pj_iconst hM (pc := 362) dL_law_362 (by decide) (pj_iadd hM (pc := 363) dL_law_363 (pj_sli hX (pc := 364) dL_law_364 h3 (pj_cV hM (pc := 365) (cX_tray (pj_sX g (pj_wr (x3 + 1))) (pj_sX g (pj_wr (x3 + 2))) (pj_sX g (pj_wr (x3 + 3))) w p4 h5) dL_law_365 mf_X11_tray mv_X11_tray ml_L_27 kc_10 rfl rfl (by decide) rfl rfl (pj_aload_n hM (pc := 368) dL_law_368 rfl rfl (pj_aload_n hM (pc := 369) dL_law_369 rfl rfl (pj_iload_n hM (pc := 370) dL_law_370 rfl (pj_iconst hM (pc := 371) dL_law_371 (by decide) (pj_iadd hM (pc := 372) dL_law_372 (pj_sli hX (pc := 373) dL_law_373 h1 (pj_aload_n hM (pc := 374) dL_law_374 rfl rfl (pj_iload_n hM (pc := 375) dL_law_375 rfl (pj_iconst hM (pc := 376) dL_law_376 (by decide) (pj_iadd hM (pc := 377) dL_law_377 (pj_sli hX (pc := 378) dL_law_378 h2 (pj_aload_n hM (pc := 379) dL_law_379 rfl rfl (pj_iload_n hM (pc := 380) dL_law_380 rfl (pj_iconst hM (pc := 381) dL_law_381 (by decide) (pj_iadd hM (pc := 382) dL_law_382 (pj_sli hX (pc := 383) dL_law_383 h3 (pj_cV hM (pc := 384) (cM_tray (pj_sX g (pj_wr (x3 + 1))) (pj_sX g (pj_wr (x3 + 2))) (pj_sX g (pj_wr (x3 + 3))) p4.2 p6 h7) dL_law_384 mf_X12_tray mv_X12_tray ml_L_31 kc_26 rfl rfl (by decide) rfl rfl k)))))))))))))))))))))))))))))))))) ?_
  refine pj_tif (fun h8 => ?_) (fun h8 => ?_)
  · refine pj_map (fun k => pj_ic_eq_t hM (pc := 387) dL_law_387 rfl h8 (pj_kill hM [true, true, true, true] (lls' := [(3, 0), (10, 0), (26, 0), (0, x3)]) rfl k)) ?_
    exact tW_law_2076 hX x3 p6.2 _ h0 hk18
  exact pj_tret (fun hr => pj_ic_eq_f hM (pc := 387) 2076 dL_law_387 rfl h8 (pj_iconst hM (pc := 390) dL_law_390 (by decide) (pj_ret hM (pc := 391) dL_law_391 ⟨_, rfl, Or.inl rfl⟩ (h0 ((0, p6.2)) hr) rfl)))
theorem tW_law_1629 {Go : pj_C → Prop} (hX : pj_LX l g true n0 o Go) (x3 : Int) (w : pj_W)  (R : (Int × pj_W) ⊕ (Int × pj_W) → Prop) (h0 : ∀ r, R (Sum.inr (r)) → ((some (0, r.1) : Option pj_V), r.2) = o) (hk18 : ∀ s, R (Sum.inl s) → Go (18, [(3, 0), (10, 0), (26, 0), (0, s.1)], [], s.2)) : pj_TG R (fW_law_1629 (pj_sX g) (pj_sN g) x3 w) (Go (1629, [(3, 0), (10, 0), (26, 0), (0, x3)], [], w)) := by
  have hM := hX.M
  unfold fW_law_1629
  refine pj_tgd (fun h1 => ?_)
  refine pj_tbind (fun p2 h3 => ?_)
  refine pj_tbind (fun p4 h5 => ?_)
  refine pj_map (fun k => pj_aload_n hM (pc := 1629) dL_law_1629 rfl rfl (pj_aload_n hM (pc := 1630) dL_law_1630 rfl rfl (pj_iload_n hM (pc := 1631) dL_law_1631 rfl (pj_iconst hM (pc := 1632) dL_law_1632 (by decide) (pj_iadd hM (pc := 1633) dL_law_1633 (pj_sli hX (pc := 1634) dL_law_1634 h1 (pj_cV hM (pc := 1635) (cX_left (pj_sX g (pj_wr (x3 + 1))) w p2 h3) dL_law_1635 mf_X11_left mv_X11_left ml_L_209 kc_10 rfl rfl (by decide) rfl rfl (pj_aload_n hM (pc := 1638) dL_law_1638 rfl rfl (pj_aload_n hM (pc := 1639) dL_law_1639 rfl rfl (pj_iload_n hM (pc := 1640) dL_law_1640 rfl (pj_iconst hM (pc := 1641) dL_law_1641 (by decide) (pj_iadd hM (pc := 1642) dL_law_1642 (pj_sli hX (pc := 1643) dL_law_1643 h1 (pj_cV hM (pc := 1644) (cM_left (pj_sX g (pj_wr (x3 + 1))) p2.2 p4 h5) dL_law_1644 mf_X12_left mv_X12_left ml_L_212 kc_26 rfl rfl (by decide) rfl rfl k)))))))))))))) ?_
  refine pj_tif (fun h6 => ?_) (fun h6 => ?_)
  · refine pj_map (fun k => pj_ic_eq_t hM (pc := 1647) dL_law_1647 rfl h6 (pj_kill hM [true, true, true, true] (lls' := [(3, 0), (10, 0), (26, 0), (0, x3)]) rfl k)) ?_
    exact tW_law_2076 hX x3 p4.2 _ h0 hk18
  exact pj_tret (fun hr => pj_ic_eq_f hM (pc := 1647) 2076 dL_law_1647 rfl h6 (pj_iconst hM (pc := 1650) dL_law_1650 (by decide) (pj_ret hM (pc := 1651) dL_law_1651 ⟨_, rfl, Or.inl rfl⟩ (h0 ((0, p4.2)) hr) rfl)))
theorem tW_law_1122 {Go : pj_C → Prop} (hX : pj_LX l g true n0 o Go) (x3 : Int) (w : pj_W)  (R : (Int × pj_W) ⊕ (Int × pj_W) → Prop) (h0 : ∀ r, R (Sum.inr (r)) → ((some (0, r.1) : Option pj_V), r.2) = o) (hk18 : ∀ s, R (Sum.inl s) → Go (18, [(3, 0), (10, 0), (26, 0), (0, s.1)], [], s.2)) : pj_TG R (fW_law_1122 (pj_sX g) (pj_sN g) x3 w) (Go (1122, [(3, 0), (10, 0), (26, 0), (0, x3)], [], w)) := by
  have hM := hX.M
  unfold fW_law_1122
  refine pj_tbind (fun p1 h2 => ?_)
  refine pj_tbind (fun p3 h4 => ?_)
  refine pj_map (fun k => pj_aload_n hM (pc := 1122) dL_law_1122 rfl rfl (pj_cV hM (pc := 1123) (cX_duels w p1 h2) dL_law_1123 mf_X11_duels mv_X11_duels ml_L_133 kc_10 rfl rfl (by decide) rfl rfl (pj_aload_n hM (pc := 1126) dL_law_1126 rfl rfl (pj_cV hM (pc := 1127) (cM_duels p1.2 p3 h4) dL_law_1127 mf_X12_duels mv_X12_duels ml_L_136 kc_26 rfl rfl (by decide) rfl rfl k)))) ?_
  refine pj_tif (fun h5 => ?_) (fun h5 => ?_)
  · refine pj_map (fun k => pj_ic_eq_t hM (pc := 1130) dL_law_1130 rfl h5 (pj_kill hM [true, true, true, true] (lls' := [(3, 0), (10, 0), (26, 0), (0, x3)]) rfl k)) ?_
    exact tW_law_2076 hX x3 p3.2 _ h0 hk18
  exact pj_tret (fun hr => pj_ic_eq_f hM (pc := 1130) 2076 dL_law_1130 rfl h5 (pj_iconst hM (pc := 1133) dL_law_1133 (by decide) (pj_ret hM (pc := 1134) dL_law_1134 ⟨_, rfl, Or.inl rfl⟩ (h0 ((0, p3.2)) hr) rfl)))
theorem tW_law_1135 {Go : pj_C → Prop} (hX : pj_LX l g true n0 o Go) (x3 : Int) (w : pj_W)  (R : (Int × pj_W) ⊕ (Int × pj_W) → Prop) (h0 : ∀ r, R (Sum.inr (r)) → ((some (0, r.1) : Option pj_V), r.2) = o) (hk18 : ∀ s, R (Sum.inl s) → Go (18, [(3, 0), (10, 0), (26, 0), (0, s.1)], [], s.2)) : pj_TG R (fW_law_1135 (pj_sX g) (pj_sN g) x3 w) (Go (1135, [(3, 0), (10, 0), (26, 0), (0, x3)], [], w)) := by
  have hM := hX.M
  unfold fW_law_1135
  refine pj_tgd (fun h1 => ?_)
  refine pj_tbind (fun p2 h3 => ?_)
  refine pj_tbind (fun p4 h5 => ?_)
  refine pj_map (fun k => pj_aload_n hM (pc := 1135) dL_law_1135 rfl rfl (pj_aload_n hM (pc := 1136) dL_law_1136 rfl rfl (pj_iload_n hM (pc := 1137) dL_law_1137 rfl (pj_iconst hM (pc := 1138) dL_law_1138 (by decide) (pj_iadd hM (pc := 1139) dL_law_1139 (pj_sli hX (pc := 1140) dL_law_1140 h1 (pj_cV hM (pc := 1141) (cX_needs (pj_sX g (pj_wr (x3 + 1))) w p2 h3) dL_law_1141 mf_X11_needs mv_X11_needs ml_L_137 kc_10 rfl rfl (by decide) rfl rfl (pj_aload_n hM (pc := 1144) dL_law_1144 rfl rfl (pj_aload_n hM (pc := 1145) dL_law_1145 rfl rfl (pj_iload_n hM (pc := 1146) dL_law_1146 rfl (pj_iconst hM (pc := 1147) dL_law_1147 (by decide) (pj_iadd hM (pc := 1148) dL_law_1148 (pj_sli hX (pc := 1149) dL_law_1149 h1 (pj_cV hM (pc := 1150) (cM_needs (pj_sX g (pj_wr (x3 + 1))) p2.2 p4 h5) dL_law_1150 mf_X12_needs mv_X12_needs ml_L_140 kc_26 rfl rfl (by decide) rfl rfl k)))))))))))))) ?_
  refine pj_tif (fun h6 => ?_) (fun h6 => ?_)
  · refine pj_map (fun k => pj_ic_eq_t hM (pc := 1153) dL_law_1153 rfl h6 (pj_kill hM [true, true, true, true] (lls' := [(3, 0), (10, 0), (26, 0), (0, x3)]) rfl k)) ?_
    exact tW_law_2076 hX x3 p4.2 _ h0 hk18
  exact pj_tret (fun hr => pj_ic_eq_f hM (pc := 1153) 2076 dL_law_1153 rfl h6 (pj_iconst hM (pc := 1156) dL_law_1156 (by decide) (pj_ret hM (pc := 1157) dL_law_1157 ⟨_, rfl, Or.inl rfl⟩ (h0 ((0, p4.2)) hr) rfl)))
theorem tW_law_625 {Go : pj_C → Prop} (hX : pj_LX l g true n0 o Go) (x3 : Int) (w : pj_W)  (R : (Int × pj_W) ⊕ (Int × pj_W) → Prop) (h0 : ∀ r, R (Sum.inr (r)) → ((some (0, r.1) : Option pj_V), r.2) = o) (hk18 : ∀ s, R (Sum.inl s) → Go (18, [(3, 0), (10, 0), (26, 0), (0, s.1)], [], s.2)) : pj_TG R (fW_law_625 (pj_sX g) (pj_sN g) x3 w) (Go (625, [(3, 0), (10, 0), (26, 0), (0, x3)], [], w)) := by
  have hM := hX.M
  unfold fW_law_625
  refine pj_tgd (fun h1 => ?_)
  refine pj_tbind (fun p2 h3 => ?_)
  refine pj_tbind (fun p4 h5 => ?_)
  refine pj_map (fun k => pj_aload_n hM (pc := 625) dL_law_625 rfl rfl (pj_aload_n hM (pc := 626) dL_law_626 rfl rfl (pj_iload_n hM (pc := 627) dL_law_627 rfl (pj_iconst hM (pc := 628) dL_law_628 (by decide) (pj_iadd hM (pc := 629) dL_law_629 (pj_sli hX (pc := 630) dL_law_630 h1 (pj_cV hM (pc := 631) (cX_beach (pj_sX g (pj_wr (x3 + 1))) w p2 h3) dL_law_631 mf_X11_beach mv_X11_beach ml_L_54 kc_10 rfl rfl (by decide) rfl rfl (pj_aload_n hM (pc := 634) dL_law_634 rfl rfl (pj_aload_n hM (pc := 635) dL_law_635 rfl rfl (pj_iload_n hM (pc := 636) dL_law_636 rfl (pj_iconst hM (pc := 637) dL_law_637 (by decide) (pj_iadd hM (pc := 638) dL_law_638 (pj_sli hX (pc := 639) dL_law_639 h1 (pj_cV hM (pc := 640) (cM_beach (pj_sX g (pj_wr (x3 + 1))) p2.2 p4 h5) dL_law_640 mf_X12_beach mv_X12_beach ml_L_58 kc_26 rfl rfl (by decide) rfl rfl k)))))))))))))) ?_
  refine pj_tif (fun h6 => ?_) (fun h6 => ?_)
  · refine pj_map (fun k => pj_ic_eq_t hM (pc := 643) dL_law_643 rfl h6 (pj_kill hM [true, true, true, true] (lls' := [(3, 0), (10, 0), (26, 0), (0, x3)]) rfl k)) ?_
    exact tW_law_2076 hX x3 p4.2 _ h0 hk18
  exact pj_tret (fun hr => pj_ic_eq_f hM (pc := 643) 2076 dL_law_643 rfl h6 (pj_iconst hM (pc := 646) dL_law_646 (by decide) (pj_ret hM (pc := 647) dL_law_647 ⟨_, rfl, Or.inl rfl⟩ (h0 ((0, p4.2)) hr) rfl)))
theorem tW_law_1905 {Go : pj_C → Prop} (hX : pj_LX l g true n0 o Go) (x3 : Int) (w : pj_W)  (R : (Int × pj_W) ⊕ (Int × pj_W) → Prop) (h0 : ∀ r, R (Sum.inr (r)) → ((some (0, r.1) : Option pj_V), r.2) = o) (hk18 : ∀ s, R (Sum.inl s) → Go (18, [(3, 0), (10, 0), (26, 0), (0, s.1)], [], s.2)) : pj_TG R (fW_law_1905 (pj_sX g) (pj_sN g) x3 w) (Go (1905, [(3, 0), (10, 0), (26, 0), (0, x3)], [], w)) := by
  have hM := hX.M
  unfold fW_law_1905
  refine pj_tgd (fun h1 => ?_)
  refine pj_tbind (fun p2 h3 => ?_)
  refine pj_tbind (fun p4 h5 => ?_)
  refine pj_map (fun k => pj_aload_n hM (pc := 1905) dL_law_1905 rfl rfl (pj_aload_n hM (pc := 1906) dL_law_1906 rfl rfl (pj_iload_n hM (pc := 1907) dL_law_1907 rfl (pj_iconst hM (pc := 1908) dL_law_1908 (by decide) (pj_iadd hM (pc := 1909) dL_law_1909 (pj_sli hX (pc := 1910) dL_law_1910 h1 (pj_cV hM (pc := 1911) (cX_crowd (pj_sX g (pj_wr (x3 + 1))) w p2 h3) dL_law_1911 mf_X11_crowd mv_X11_crowd ml_L_257 kc_10 rfl rfl (by decide) rfl rfl (pj_aload_n hM (pc := 1914) dL_law_1914 rfl rfl (pj_aload_n hM (pc := 1915) dL_law_1915 rfl rfl (pj_iload_n hM (pc := 1916) dL_law_1916 rfl (pj_iconst hM (pc := 1917) dL_law_1917 (by decide) (pj_iadd hM (pc := 1918) dL_law_1918 (pj_sli hX (pc := 1919) dL_law_1919 h1 (pj_cV hM (pc := 1920) (cM_crowd (pj_sX g (pj_wr (x3 + 1))) p2.2 p4 h5) dL_law_1920 mf_X12_crowd mv_X12_crowd ml_L_260 kc_26 rfl rfl (by decide) rfl rfl k)))))))))))))) ?_
  refine pj_tif (fun h6 => ?_) (fun h6 => ?_)
  · refine pj_map (fun k => pj_ic_eq_t hM (pc := 1923) dL_law_1923 rfl h6 (pj_kill hM [true, true, true, true] (lls' := [(3, 0), (10, 0), (26, 0), (0, x3)]) rfl k)) ?_
    exact tW_law_2076 hX x3 p4.2 _ h0 hk18
  exact pj_tret (fun hr => pj_ic_eq_f hM (pc := 1923) 2076 dL_law_1923 rfl h6 (pj_iconst hM (pc := 1926) dL_law_1926 (by decide) (pj_ret hM (pc := 1927) dL_law_1927 ⟨_, rfl, Or.inl rfl⟩ (h0 ((0, p4.2)) hr) rfl)))
theorem tW_law_1652 {Go : pj_C → Prop} (hX : pj_LX l g true n0 o Go) (x3 : Int) (w : pj_W)  (R : (Int × pj_W) ⊕ (Int × pj_W) → Prop) (h0 : ∀ r, R (Sum.inr (r)) → ((some (0, r.1) : Option pj_V), r.2) = o) (hk18 : ∀ s, R (Sum.inl s) → Go (18, [(3, 0), (10, 0), (26, 0), (0, s.1)], [], s.2)) : pj_TG R (fW_law_1652 (pj_sX g) (pj_sN g) x3 w) (Go (1652, [(3, 0), (10, 0), (26, 0), (0, x3)], [], w)) := by
  have hM := hX.M
  unfold fW_law_1652
  refine pj_tgd (fun h1 => ?_)
  refine pj_tbind (fun p2 h3 => ?_)
  refine pj_tbind (fun p4 h5 => ?_)
  refine pj_map (fun k => pj_aload_n hM (pc := 1652) dL_law_1652 rfl rfl (pj_aload_n hM (pc := 1653) dL_law_1653 rfl rfl (pj_iload_n hM (pc := 1654) dL_law_1654 rfl (pj_iconst hM (pc := 1655) dL_law_1655 (by decide) (pj_iadd hM (pc := 1656) dL_law_1656 (pj_sli hX (pc := 1657) dL_law_1657 h1 (pj_cV hM (pc := 1658) (cX_tideIn (pj_sX g (pj_wr (x3 + 1))) w p2 h3) dL_law_1658 mf_X11_tideIn mv_X11_tideIn ml_L_213 kc_10 rfl rfl (by decide) rfl rfl (pj_aload_n hM (pc := 1661) dL_law_1661 rfl rfl (pj_aload_n hM (pc := 1662) dL_law_1662 rfl rfl (pj_iload_n hM (pc := 1663) dL_law_1663 rfl (pj_iconst hM (pc := 1664) dL_law_1664 (by decide) (pj_iadd hM (pc := 1665) dL_law_1665 (pj_sli hX (pc := 1666) dL_law_1666 h1 (pj_cV hM (pc := 1667) (cM_tideIn (pj_sX g (pj_wr (x3 + 1))) p2.2 p4 h5) dL_law_1667 mf_X12_tideIn mv_X12_tideIn ml_L_216 kc_26 rfl rfl (by decide) rfl rfl k)))))))))))))) ?_
  refine pj_tif (fun h6 => ?_) (fun h6 => ?_)
  · refine pj_map (fun k => pj_ic_eq_t hM (pc := 1670) dL_law_1670 rfl h6 (pj_kill hM [true, true, true, true] (lls' := [(3, 0), (10, 0), (26, 0), (0, x3)]) rfl k)) ?_
    exact tW_law_2076 hX x3 p4.2 _ h0 hk18
  exact pj_tret (fun hr => pj_ic_eq_f hM (pc := 1670) 2076 dL_law_1670 rfl h6 (pj_iconst hM (pc := 1673) dL_law_1673 (by decide) (pj_ret hM (pc := 1674) dL_law_1674 ⟨_, rfl, Or.inl rfl⟩ (h0 ((0, p4.2)) hr) rfl)))
theorem tW_law_892 {Go : pj_C → Prop} (hX : pj_LX l g true n0 o Go) (x3 : Int) (w : pj_W)  (R : (Int × pj_W) ⊕ (Int × pj_W) → Prop) (h0 : ∀ r, R (Sum.inr (r)) → ((some (0, r.1) : Option pj_V), r.2) = o) (hk18 : ∀ s, R (Sum.inl s) → Go (18, [(3, 0), (10, 0), (26, 0), (0, s.1)], [], s.2)) : pj_TG R (fW_law_892 (pj_sX g) (pj_sN g) x3 w) (Go (892, [(3, 0), (10, 0), (26, 0), (0, x3)], [], w)) := by
  have hM := hX.M
  unfold fW_law_892
  refine pj_tgd (fun h1 => ?_)
  refine pj_tgd (fun h2 => ?_)
  refine pj_tbind (fun p3 h4 => ?_)
  refine pj_tbind (fun p5 h6 => ?_)
  refine pj_map (fun k => pj_aload_n hM (pc := 892) dL_law_892 rfl rfl (pj_aload_n hM (pc := 893) dL_law_893 rfl rfl (pj_iload_n hM (pc := 894) dL_law_894 rfl (pj_iconst hM (pc := 895) dL_law_895 (by decide) (pj_iadd hM (pc := 896) dL_law_896 (pj_sli hX (pc := 897) dL_law_897 h1 (pj_aload_n hM (pc := 898) dL_law_898 rfl rfl (pj_iload_n hM (pc := 899) dL_law_899 rfl (pj_iconst hM (pc := 900) dL_law_900 (by decide) (pj_iadd hM (pc := 901) dL_law_901 (pj_sli hX (pc := 902) dL_law_902 h2 (pj_cV hM (pc := 903) (cX_set (pj_sX g (pj_wr (x3 + 1))) (pj_sX g (pj_wr (x3 + 2))) w p3 h4) dL_law_903 mf_X11_set mv_X11_set ml_L_93 kc_10 rfl rfl (by decide) rfl rfl (pj_aload_n hM (pc := 906) dL_law_906 rfl rfl (pj_aload_n hM (pc := 907) dL_law_907 rfl rfl (pj_iload_n hM (pc := 908) dL_law_908 rfl (pj_iconst hM (pc := 909) dL_law_909 (by decide) (pj_iadd hM (pc := 910) dL_law_910 (pj_sli hX (pc := 911) dL_law_911 h1 (pj_aload_n hM (pc := 912) dL_law_912 rfl rfl (pj_iload_n hM (pc := 913) dL_law_913 rfl (pj_iconst hM (pc := 914) dL_law_914 (by decide) (pj_iadd hM (pc := 915) dL_law_915 (pj_sli hX (pc := 916) dL_law_916 h2 (pj_cV hM (pc := 917) (cM_set (pj_sX g (pj_wr (x3 + 1))) (pj_sX g (pj_wr (x3 + 2))) p3.2 p5 h6) dL_law_917 mf_X12_set mv_X12_set ml_L_96 kc_26 rfl rfl (by decide) rfl rfl k)))))))))))))))))))))))) ?_
  refine pj_tif (fun h7 => ?_) (fun h7 => ?_)
  · refine pj_map (fun k => pj_ic_eq_t hM (pc := 920) dL_law_920 rfl h7 (pj_kill hM [true, true, true, true] (lls' := [(3, 0), (10, 0), (26, 0), (0, x3)]) rfl k)) ?_
    exact tW_law_2076 hX x3 p5.2 _ h0 hk18
  exact pj_tret (fun hr => pj_ic_eq_f hM (pc := 920) 2076 dL_law_920 rfl h7 (pj_iconst hM (pc := 923) dL_law_923 (by decide) (pj_ret hM (pc := 924) dL_law_924 ⟨_, rfl, Or.inl rfl⟩ (h0 ((0, p5.2)) hr) rfl)))
theorem tW_law_1405 {Go : pj_C → Prop} (hX : pj_LX l g true n0 o Go) (x3 : Int) (w : pj_W)  (R : (Int × pj_W) ⊕ (Int × pj_W) → Prop) (h0 : ∀ r, R (Sum.inr (r)) → ((some (0, r.1) : Option pj_V), r.2) = o) (hk18 : ∀ s, R (Sum.inl s) → Go (18, [(3, 0), (10, 0), (26, 0), (0, s.1)], [], s.2)) : pj_TG R (fW_law_1405 (pj_sX g) (pj_sN g) x3 w) (Go (1405, [(3, 0), (10, 0), (26, 0), (0, x3)], [], w)) := by
  have hM := hX.M
  unfold fW_law_1405
  refine pj_tgd (fun h1 => ?_)
  refine pj_tgd (fun h2 => ?_)
  refine pj_tgd (fun h3 => ?_)
  refine pj_tbind (fun p4 h5 => ?_)
  refine pj_tbind (fun p6 h7 => ?_)
  refine pj_map (fun k => pj_aload_n hM (pc := 1405) dL_law_1405 rfl rfl (pj_aload_n hM (pc := 1406) dL_law_1406 rfl rfl (pj_iload_n hM (pc := 1407) dL_law_1407 rfl (pj_iconst hM (pc := 1408) dL_law_1408 (by decide) (pj_iadd hM (pc := 1409) dL_law_1409 (pj_sli hX (pc := 1410) dL_law_1410 h1 (pj_aload_n hM (pc := 1411) dL_law_1411 rfl rfl (pj_iload_n hM (pc := 1412) dL_law_1412 rfl (pj_iconst hM (pc := 1413) dL_law_1413 (by decide) (pj_iadd hM (pc := 1414) dL_law_1414 (pj_sli hX (pc := 1415) dL_law_1415 h2 (pj_aload_n hM (pc := 1416) dL_law_1416 rfl rfl (pj_iload_n hM (pc := 1417) dL_law_1417 rfl (pj_iconst hM (pc := 1418) dL_law_1418 (by decide) (pj_iadd hM (pc := 1419) dL_law_1419 (pj_sli hX (pc := 1420) dL_law_1420 h3 (pj_cV hM (pc := 1421) (cX_odds (pj_sX g (pj_wr (x3 + 1))) (pj_sX g (pj_wr (x3 + 2))) (pj_sX g (pj_wr (x3 + 3))) w p4 h5) dL_law_1421 mf_X11_odds mv_X11_odds ml_L_177 kc_10 rfl rfl (by decide) rfl rfl (pj_aload_n hM (pc := 1424) dL_law_1424 rfl rfl (pj_aload_n hM (pc := 1425) dL_law_1425 rfl rfl (pj_iload_n hM (pc := 1426) dL_law_1426 rfl (pj_iconst hM (pc := 1427) dL_law_1427 (by decide) (pj_iadd hM (pc := 1428) dL_law_1428 (pj_sli hX (pc := 1429) dL_law_1429 h1 (pj_aload_n hM (pc := 1430) dL_law_1430 rfl rfl (pj_iload_n hM (pc := 1431) dL_law_1431 rfl (pj_iconst hM (pc := 1432) dL_law_1432 (by decide) (pj_iadd hM (pc := 1433) dL_law_1433 (pj_sli hX (pc := 1434) dL_law_1434 h2 (pj_aload_n hM (pc := 1435) dL_law_1435 rfl rfl (pj_iload_n hM (pc := 1436) dL_law_1436 rfl (pj_iconst hM (pc := 1437) dL_law_1437 (by decide) (pj_iadd hM (pc := 1438) dL_law_1438 (pj_sli hX (pc := 1439) dL_law_1439 h3 (pj_cV hM (pc := 1440) (cM_odds (pj_sX g (pj_wr (x3 + 1))) (pj_sX g (pj_wr (x3 + 2))) (pj_sX g (pj_wr (x3 + 3))) p4.2 p6 h7) dL_law_1440 mf_X12_odds mv_X12_odds ml_L_180 kc_26 rfl rfl (by decide) rfl rfl k)))))))))))))))))))))))))))))))))) ?_
  refine pj_tif (fun h8 => ?_) (fun h8 => ?_)
  · refine pj_map (fun k => pj_ic_eq_t hM (pc := 1443) dL_law_1443 rfl h8 (pj_kill hM [true, true, true, true] (lls' := [(3, 0), (10, 0), (26, 0), (0, x3)]) rfl k)) ?_
    exact tW_law_2076 hX x3 p6.2 _ h0 hk18
  exact pj_tret (fun hr => pj_ic_eq_f hM (pc := 1443) 2076 dL_law_1443 rfl h8 (pj_iconst hM (pc := 1446) dL_law_1446 (by decide) (pj_ret hM (pc := 1447) dL_law_1447 ⟨_, rfl, Or.inl rfl⟩ (h0 ((0, p6.2)) hr) rfl)))
theorem tW_law_1158 {Go : pj_C → Prop} (hX : pj_LX l g true n0 o Go) (x3 : Int) (w : pj_W)  (R : (Int × pj_W) ⊕ (Int × pj_W) → Prop) (h0 : ∀ r, R (Sum.inr (r)) → ((some (0, r.1) : Option pj_V), r.2) = o) (hk18 : ∀ s, R (Sum.inl s) → Go (18, [(3, 0), (10, 0), (26, 0), (0, s.1)], [], s.2)) : pj_TG R (fW_law_1158 (pj_sX g) (pj_sN g) x3 w) (Go (1158, [(3, 0), (10, 0), (26, 0), (0, x3)], [], w)) := by
  have hM := hX.M
  unfold fW_law_1158
  refine pj_tgd (fun h1 => ?_)
  refine pj_tbind (fun p2 h3 => ?_)
  refine pj_tbind (fun p4 h5 => ?_)
  refine pj_map (fun k => pj_aload_n hM (pc := 1158) dL_law_1158 rfl rfl (pj_aload_n hM (pc := 1159) dL_law_1159 rfl rfl (pj_iload_n hM (pc := 1160) dL_law_1160 rfl (pj_iconst hM (pc := 1161) dL_law_1161 (by decide) (pj_iadd hM (pc := 1162) dL_law_1162 (pj_sli hX (pc := 1163) dL_law_1163 h1 (pj_cV hM (pc := 1164) (cX_strewn (pj_sX g (pj_wr (x3 + 1))) w p2 h3) dL_law_1164 mf_X11_strewn mv_X11_strewn ml_L_141 kc_10 rfl rfl (by decide) rfl rfl (pj_aload_n hM (pc := 1167) dL_law_1167 rfl rfl (pj_aload_n hM (pc := 1168) dL_law_1168 rfl rfl (pj_iload_n hM (pc := 1169) dL_law_1169 rfl (pj_iconst hM (pc := 1170) dL_law_1170 (by decide) (pj_iadd hM (pc := 1171) dL_law_1171 (pj_sli hX (pc := 1172) dL_law_1172 h1 (pj_cV hM (pc := 1173) (cM_strewn (pj_sX g (pj_wr (x3 + 1))) p2.2 p4 h5) dL_law_1173 mf_X12_strewn mv_X12_strewn ml_L_144 kc_26 rfl rfl (by decide) rfl rfl k)))))))))))))) ?_
  refine pj_tif (fun h6 => ?_) (fun h6 => ?_)
  · refine pj_map (fun k => pj_ic_eq_t hM (pc := 1176) dL_law_1176 rfl h6 (pj_kill hM [true, true, true, true] (lls' := [(3, 0), (10, 0), (26, 0), (0, x3)]) rfl k)) ?_
    exact tW_law_2076 hX x3 p4.2 _ h0 hk18
  exact pj_tret (fun hr => pj_ic_eq_f hM (pc := 1176) 2076 dL_law_1176 rfl h6 (pj_iconst hM (pc := 1179) dL_law_1179 (by decide) (pj_ret hM (pc := 1180) dL_law_1180 ⟨_, rfl, Or.inl rfl⟩ (h0 ((0, p4.2)) hr) rfl)))
theorem tW_law_392 {Go : pj_C → Prop} (hX : pj_LX l g true n0 o Go) (x3 : Int) (w : pj_W)  (R : (Int × pj_W) ⊕ (Int × pj_W) → Prop) (h0 : ∀ r, R (Sum.inr (r)) → ((some (0, r.1) : Option pj_V), r.2) = o) (hk18 : ∀ s, R (Sum.inl s) → Go (18, [(3, 0), (10, 0), (26, 0), (0, s.1)], [], s.2)) : pj_TG R (fW_law_392 (pj_sX g) (pj_sN g) x3 w) (Go (392, [(3, 0), (10, 0), (26, 0), (0, x3)], [], w)) := by
  have hM := hX.M
  unfold fW_law_392
  refine pj_tgd (fun h1 => ?_)
  refine pj_tgd (fun h2 => ?_)
  refine pj_tgd (fun h3 => ?_)
  refine pj_tgd (fun h4 => ?_)
  refine pj_tbind (fun p5 h6 => ?_)
  refine pj_tbind (fun p7 h8 => ?_)
  refine pj_map (fun k => pj_aload_n hM (pc := 392) dL_law_392 rfl rfl (pj_aload_n hM (pc := 393) dL_law_393 rfl rfl (pj_iload_n hM (pc := 394) dL_law_394 rfl (pj_iconst hM (pc := 395) dL_law_395 (by decide) (pj_iadd hM (pc := 396) dL_law_396 (pj_sli hX (pc := 397) dL_law_397 h1 (pj_aload_n hM (pc := 398) dL_law_398 rfl rfl (pj_iload_n hM (pc := 399) dL_law_399 rfl (pj_iconst hM (pc := 400) dL_law_400 (by decide) (pj_iadd hM (pc := 401) dL_law_401 (pj_sli hX (pc := 402) dL_law_402 h2 (pj_aload_n hM (pc := 403) dL_law_403 rfl rfl (pj_iload_n hM (pc := 404) dL_law_404 rfl (pj_iconst hM (pc := 405) dL_law_405 (by decide) (pj_iadd hM (pc := 406) dL_law_406 (pj_sli hX (pc := 407) dL_law_407 h3 (pj_i2l hM (pc := 408) dL_law_408 (pj_bipush hM (pc := 409) dL_law_409 (by decide) (pj_lshl hM (pc := 411) dL_law_411 (pj_aload_n hM (pc := 412) dL_law_412 rfl rfl (pj_iload_n hM (pc := 413) dL_law_413 rfl (pj_iconst hM (pc := 414) dL_law_414 (by decide) (pj_iadd hM (pc := 415) dL_law_415 (pj_sli hX (pc := 416) dL_law_416 h4 (pj_i2l hM (pc := 417) dL_law_417 (pj_ldc2 hM (pc := 418) (z := 4294967295) dL_law_418 kn_L_32 rfl (by decide) (pj_land hM (pc := 421) dL_law_421 (pj_lor hM (pc := 422) dL_law_422 (pj_cV hM (pc := 423) (cX_write (pj_sX g (pj_wr (x3 + 1))) (pj_sX g (pj_wr (x3 + 2))) (pj_lorl (pj_shll (pj_sX g (pj_wr (x3 + 3))) 32) (pj_landl (pj_sX g (pj_wr (x3 + 4))) 4294967295)) w p5 h6) dL_law_423 mf_X11_write mv_X11_write ml_L_34 kc_10 rfl rfl (by decide) rfl rfl (pj_aload_n hM (pc := 426) dL_law_426 rfl rfl (pj_aload_n hM (pc := 427) dL_law_427 rfl rfl (pj_iload_n hM (pc := 428) dL_law_428 rfl (pj_iconst hM (pc := 429) dL_law_429 (by decide) (pj_iadd hM (pc := 430) dL_law_430 (pj_sli hX (pc := 431) dL_law_431 h1 (pj_aload_n hM (pc := 432) dL_law_432 rfl rfl (pj_iload_n hM (pc := 433) dL_law_433 rfl (pj_iconst hM (pc := 434) dL_law_434 (by decide) (pj_iadd hM (pc := 435) dL_law_435 (pj_sli hX (pc := 436) dL_law_436 h2 (pj_aload_n hM (pc := 437) dL_law_437 rfl rfl (pj_iload_n hM (pc := 438) dL_law_438 rfl (pj_iconst hM (pc := 439) dL_law_439 (by decide) (pj_iadd hM (pc := 440) dL_law_440 (pj_sli hX (pc := 441) dL_law_441 h3 (pj_i2l hM (pc := 442) dL_law_442 (pj_bipush hM (pc := 443) dL_law_443 (by decide) (pj_lshl hM (pc := 445) dL_law_445 (pj_aload_n hM (pc := 446) dL_law_446 rfl rfl (pj_iload_n hM (pc := 447) dL_law_447 rfl (pj_iconst hM (pc := 448) dL_law_448 (by decide) (pj_iadd hM (pc := 449) dL_law_449 (pj_sli hX (pc := 450) dL_law_450 h4 (pj_i2l hM (pc := 451) dL_law_451 (pj_ldc2 hM (pc := 452) (z := 4294967295) dL_law_452 kn_L_32 rfl (by decide) (pj_land hM (pc := 455) dL_law_455 (pj_lor hM (pc := 456) dL_law_456 (pj_cV hM (pc := 457) (cM_write (pj_sX g (pj_wr (x3 + 1))) (pj_sX g (pj_wr (x3 + 2))) (pj_lorl (pj_shll (pj_sX g (pj_wr (x3 + 3))) 32) (pj_landl (pj_sX g (pj_wr (x3 + 4))) 4294967295)) p5.2 p7 h8) dL_law_457 mf_X12_write mv_X12_write ml_L_38 kc_26 rfl rfl (by decide) rfl rfl k)))))))))))))))))))))))))))))))))))))))))))))))))))))))))) ?_
  refine pj_tif (fun h9 => ?_) (fun h9 => ?_)
  · refine pj_map (fun k => pj_ic_eq_t hM (pc := 460) dL_law_460 rfl h9 (pj_kill hM [true, true, true, true] (lls' := [(3, 0), (10, 0), (26, 0), (0, x3)]) rfl k)) ?_
    exact tW_law_2076 hX x3 p7.2 _ h0 hk18
  exact pj_tret (fun hr => pj_ic_eq_f hM (pc := 460) 2076 dL_law_460 rfl h9 (pj_iconst hM (pc := 463) dL_law_463 (by decide) (pj_ret hM (pc := 464) dL_law_464 ⟨_, rfl, Or.inl rfl⟩ (h0 ((0, p7.2)) hr) rfl)))
theorem tW_law_648 {Go : pj_C → Prop} (hX : pj_LX l g true n0 o Go) (x3 : Int) (w : pj_W)  (R : (Int × pj_W) ⊕ (Int × pj_W) → Prop) (h0 : ∀ r, R (Sum.inr (r)) → ((some (0, r.1) : Option pj_V), r.2) = o) (hk18 : ∀ s, R (Sum.inl s) → Go (18, [(3, 0), (10, 0), (26, 0), (0, s.1)], [], s.2)) : pj_TG R (fW_law_648 (pj_sX g) (pj_sN g) x3 w) (Go (648, [(3, 0), (10, 0), (26, 0), (0, x3)], [], w)) := by
  have hM := hX.M
  unfold fW_law_648
  refine pj_tgd (fun h1 => ?_)
  refine pj_tbind (fun p2 h3 => ?_)
  refine pj_tbind (fun p4 h5 => ?_)
  refine pj_map (fun k => pj_aload_n hM (pc := 648) dL_law_648 rfl rfl (pj_aload_n hM (pc := 649) dL_law_649 rfl rfl (pj_iload_n hM (pc := 650) dL_law_650 rfl (pj_iconst hM (pc := 651) dL_law_651 (by decide) (pj_iadd hM (pc := 652) dL_law_652 (pj_sli hX (pc := 653) dL_law_653 h1 (pj_cV hM (pc := 654) (cX_days (pj_sX g (pj_wr (x3 + 1))) w p2 h3) dL_law_654 mf_X11_days mv_X11_days ml_L_59 kc_10 rfl rfl (by decide) rfl rfl (pj_aload_n hM (pc := 657) dL_law_657 rfl rfl (pj_aload_n hM (pc := 658) dL_law_658 rfl rfl (pj_iload_n hM (pc := 659) dL_law_659 rfl (pj_iconst hM (pc := 660) dL_law_660 (by decide) (pj_iadd hM (pc := 661) dL_law_661 (pj_sli hX (pc := 662) dL_law_662 h1 (pj_cV hM (pc := 663) (cM_days (pj_sX g (pj_wr (x3 + 1))) p2.2 p4 h5) dL_law_663 mf_X12_days mv_X12_days ml_L_62 kc_26 rfl rfl (by decide) rfl rfl k)))))))))))))) ?_
  refine pj_tif (fun h6 => ?_) (fun h6 => ?_)
  · refine pj_map (fun k => pj_ic_eq_t hM (pc := 666) dL_law_666 rfl h6 (pj_kill hM [true, true, true, true] (lls' := [(3, 0), (10, 0), (26, 0), (0, x3)]) rfl k)) ?_
    exact tW_law_2076 hX x3 p4.2 _ h0 hk18
  exact pj_tret (fun hr => pj_ic_eq_f hM (pc := 666) 2076 dL_law_666 rfl h6 (pj_iconst hM (pc := 669) dL_law_669 (by decide) (pj_ret hM (pc := 670) dL_law_670 ⟨_, rfl, Or.inl rfl⟩ (h0 ((0, p4.2)) hr) rfl)))
theorem tW_law_1928 {Go : pj_C → Prop} (hX : pj_LX l g true n0 o Go) (x3 : Int) (w : pj_W)  (R : (Int × pj_W) ⊕ (Int × pj_W) → Prop) (h0 : ∀ r, R (Sum.inr (r)) → ((some (0, r.1) : Option pj_V), r.2) = o) (hk18 : ∀ s, R (Sum.inl s) → Go (18, [(3, 0), (10, 0), (26, 0), (0, s.1)], [], s.2)) : pj_TG R (fW_law_1928 (pj_sX g) (pj_sN g) x3 w) (Go (1928, [(3, 0), (10, 0), (26, 0), (0, x3)], [], w)) := by
  have hM := hX.M
  unfold fW_law_1928
  refine pj_tgd (fun h1 => ?_)
  refine pj_tgd (fun h2 => ?_)
  refine pj_tbind (fun p3 h4 => ?_)
  refine pj_tbind (fun p5 h6 => ?_)
  refine pj_map (fun k => pj_aload_n hM (pc := 1928) dL_law_1928 rfl rfl (pj_aload_n hM (pc := 1929) dL_law_1929 rfl rfl (pj_iload_n hM (pc := 1930) dL_law_1930 rfl (pj_iconst hM (pc := 1931) dL_law_1931 (by decide) (pj_iadd hM (pc := 1932) dL_law_1932 (pj_sli hX (pc := 1933) dL_law_1933 h1 (pj_aload_n hM (pc := 1934) dL_law_1934 rfl rfl (pj_iload_n hM (pc := 1935) dL_law_1935 rfl (pj_iconst hM (pc := 1936) dL_law_1936 (by decide) (pj_iadd hM (pc := 1937) dL_law_1937 (pj_sli hX (pc := 1938) dL_law_1938 h2 (pj_cV hM (pc := 1939) (cX_lies (pj_sX g (pj_wr (x3 + 1))) (pj_sX g (pj_wr (x3 + 2))) w p3 h4) dL_law_1939 mf_X11_lies mv_X11_lies ml_L_261 kc_10 rfl rfl (by decide) rfl rfl (pj_aload_n hM (pc := 1942) dL_law_1942 rfl rfl (pj_aload_n hM (pc := 1943) dL_law_1943 rfl rfl (pj_iload_n hM (pc := 1944) dL_law_1944 rfl (pj_iconst hM (pc := 1945) dL_law_1945 (by decide) (pj_iadd hM (pc := 1946) dL_law_1946 (pj_sli hX (pc := 1947) dL_law_1947 h1 (pj_aload_n hM (pc := 1948) dL_law_1948 rfl rfl (pj_iload_n hM (pc := 1949) dL_law_1949 rfl (pj_iconst hM (pc := 1950) dL_law_1950 (by decide) (pj_iadd hM (pc := 1951) dL_law_1951 (pj_sli hX (pc := 1952) dL_law_1952 h2 (pj_cV hM (pc := 1953) (cM_lies (pj_sX g (pj_wr (x3 + 1))) (pj_sX g (pj_wr (x3 + 2))) p3.2 p5 h6) dL_law_1953 mf_X12_lies mv_X12_lies ml_L_264 kc_26 rfl rfl (by decide) rfl rfl k)))))))))))))))))))))))) ?_
  refine pj_tif (fun h7 => ?_) (fun h7 => ?_)
  · refine pj_map (fun k => pj_ic_eq_t hM (pc := 1956) dL_law_1956 rfl h7 (pj_kill hM [true, true, true, true] (lls' := [(3, 0), (10, 0), (26, 0), (0, x3)]) rfl k)) ?_
    exact tW_law_2076 hX x3 p5.2 _ h0 hk18
  exact pj_tret (fun hr => pj_ic_eq_f hM (pc := 1956) 2076 dL_law_1956 rfl h7 (pj_iconst hM (pc := 1959) dL_law_1959 (by decide) (pj_ret hM (pc := 1960) dL_law_1960 ⟨_, rfl, Or.inl rfl⟩ (h0 ((0, p5.2)) hr) rfl)))
theorem tW_law_1675 {Go : pj_C → Prop} (hX : pj_LX l g true n0 o Go) (x3 : Int) (w : pj_W)  (R : (Int × pj_W) ⊕ (Int × pj_W) → Prop) (h0 : ∀ r, R (Sum.inr (r)) → ((some (0, r.1) : Option pj_V), r.2) = o) (hk18 : ∀ s, R (Sum.inl s) → Go (18, [(3, 0), (10, 0), (26, 0), (0, s.1)], [], s.2)) : pj_TG R (fW_law_1675 (pj_sX g) (pj_sN g) x3 w) (Go (1675, [(3, 0), (10, 0), (26, 0), (0, x3)], [], w)) := by
  have hM := hX.M
  unfold fW_law_1675
  refine pj_tbind (fun p1 h2 => ?_)
  refine pj_tbind (fun p3 h4 => ?_)
  refine pj_map (fun k => pj_aload_n hM (pc := 1675) dL_law_1675 rfl rfl (pj_cV hM (pc := 1676) (cX_open w p1 h2) dL_law_1676 mf_X11_open mv_X11_open ml_L_217 kc_10 rfl rfl (by decide) rfl rfl (pj_aload_n hM (pc := 1679) dL_law_1679 rfl rfl (pj_cV hM (pc := 1680) (cM_open p1.2 p3 h4) dL_law_1680 mf_X12_open mv_X12_open ml_L_220 kc_26 rfl rfl (by decide) rfl rfl k)))) ?_
  refine pj_tif (fun h5 => ?_) (fun h5 => ?_)
  · refine pj_map (fun k => pj_ic_eq_t hM (pc := 1683) dL_law_1683 rfl h5 (pj_kill hM [true, true, true, true] (lls' := [(3, 0), (10, 0), (26, 0), (0, x3)]) rfl k)) ?_
    exact tW_law_2076 hX x3 p3.2 _ h0 hk18
  exact pj_tret (fun hr => pj_ic_eq_f hM (pc := 1683) 2076 dL_law_1683 rfl h5 (pj_iconst hM (pc := 1686) dL_law_1686 (by decide) (pj_ret hM (pc := 1687) dL_law_1687 ⟨_, rfl, Or.inl rfl⟩ (h0 ((0, p3.2)) hr) rfl)))
theorem tW_law_1688 {Go : pj_C → Prop} (hX : pj_LX l g true n0 o Go) (x3 : Int) (w : pj_W)  (R : (Int × pj_W) ⊕ (Int × pj_W) → Prop) (h0 : ∀ r, R (Sum.inr (r)) → ((some (0, r.1) : Option pj_V), r.2) = o) (hk18 : ∀ s, R (Sum.inl s) → Go (18, [(3, 0), (10, 0), (26, 0), (0, s.1)], [], s.2)) : pj_TG R (fW_law_1688 (pj_sX g) (pj_sN g) x3 w) (Go (1688, [(3, 0), (10, 0), (26, 0), (0, x3)], [], w)) := by
  have hM := hX.M
  unfold fW_law_1688
  refine pj_tgd (fun h1 => ?_)
  refine pj_tbind (fun p2 h3 => ?_)
  refine pj_tbind (fun p4 h5 => ?_)
  refine pj_map (fun k => pj_aload_n hM (pc := 1688) dL_law_1688 rfl rfl (pj_aload_n hM (pc := 1689) dL_law_1689 rfl rfl (pj_iload_n hM (pc := 1690) dL_law_1690 rfl (pj_iconst hM (pc := 1691) dL_law_1691 (by decide) (pj_iadd hM (pc := 1692) dL_law_1692 (pj_sli hX (pc := 1693) dL_law_1693 h1 (pj_cV hM (pc := 1694) (cX_farthest (pj_sX g (pj_wr (x3 + 1))) w p2 h3) dL_law_1694 mf_X11_farthest mv_X11_farthest ml_L_221 kc_10 rfl rfl (by decide) rfl rfl (pj_aload_n hM (pc := 1697) dL_law_1697 rfl rfl (pj_aload_n hM (pc := 1698) dL_law_1698 rfl rfl (pj_iload_n hM (pc := 1699) dL_law_1699 rfl (pj_iconst hM (pc := 1700) dL_law_1700 (by decide) (pj_iadd hM (pc := 1701) dL_law_1701 (pj_sli hX (pc := 1702) dL_law_1702 h1 (pj_cV hM (pc := 1703) (cM_farthest (pj_sX g (pj_wr (x3 + 1))) p2.2 p4 h5) dL_law_1703 mf_X12_farthest mv_X12_farthest ml_L_224 kc_26 rfl rfl (by decide) rfl rfl k)))))))))))))) ?_
  refine pj_tif (fun h6 => ?_) (fun h6 => ?_)
  · refine pj_map (fun k => pj_ic_eq_t hM (pc := 1706) dL_law_1706 rfl h6 (pj_kill hM [true, true, true, true] (lls' := [(3, 0), (10, 0), (26, 0), (0, x3)]) rfl k)) ?_
    exact tW_law_2076 hX x3 p4.2 _ h0 hk18
  exact pj_tret (fun hr => pj_ic_eq_f hM (pc := 1706) 2076 dL_law_1706 rfl h6 (pj_iconst hM (pc := 1709) dL_law_1709 (by decide) (pj_ret hM (pc := 1710) dL_law_1710 ⟨_, rfl, Or.inl rfl⟩ (h0 ((0, p4.2)) hr) rfl)))
theorem tW_law_925 {Go : pj_C → Prop} (hX : pj_LX l g true n0 o Go) (x3 : Int) (w : pj_W)  (R : (Int × pj_W) ⊕ (Int × pj_W) → Prop) (h0 : ∀ r, R (Sum.inr (r)) → ((some (0, r.1) : Option pj_V), r.2) = o) (hk18 : ∀ s, R (Sum.inl s) → Go (18, [(3, 0), (10, 0), (26, 0), (0, s.1)], [], s.2)) : pj_TG R (fW_law_925 (pj_sX g) (pj_sN g) x3 w) (Go (925, [(3, 0), (10, 0), (26, 0), (0, x3)], [], w)) := by
  have hM := hX.M
  unfold fW_law_925
  refine pj_tgd (fun h1 => ?_)
  refine pj_tgd (fun h2 => ?_)
  refine pj_tbind (fun p3 h4 => ?_)
  refine pj_tbind (fun p5 h6 => ?_)
  refine pj_map (fun k => pj_aload_n hM (pc := 925) dL_law_925 rfl rfl (pj_aload_n hM (pc := 926) dL_law_926 rfl rfl (pj_iload_n hM (pc := 927) dL_law_927 rfl (pj_iconst hM (pc := 928) dL_law_928 (by decide) (pj_iadd hM (pc := 929) dL_law_929 (pj_sli hX (pc := 930) dL_law_930 h1 (pj_aload_n hM (pc := 931) dL_law_931 rfl rfl (pj_iload_n hM (pc := 932) dL_law_932 rfl (pj_iconst hM (pc := 933) dL_law_933 (by decide) (pj_iadd hM (pc := 934) dL_law_934 (pj_sli hX (pc := 935) dL_law_935 h2 (pj_cV hM (pc := 936) (cX_lift (pj_sX g (pj_wr (x3 + 1))) (pj_sX g (pj_wr (x3 + 2))) w p3 h4) dL_law_936 mf_X11_lift mv_X11_lift ml_L_97 kc_10 rfl rfl (by decide) rfl rfl (pj_aload_n hM (pc := 939) dL_law_939 rfl rfl (pj_aload_n hM (pc := 940) dL_law_940 rfl rfl (pj_iload_n hM (pc := 941) dL_law_941 rfl (pj_iconst hM (pc := 942) dL_law_942 (by decide) (pj_iadd hM (pc := 943) dL_law_943 (pj_sli hX (pc := 944) dL_law_944 h1 (pj_aload_n hM (pc := 945) dL_law_945 rfl rfl (pj_iload_n hM (pc := 946) dL_law_946 rfl (pj_iconst hM (pc := 947) dL_law_947 (by decide) (pj_iadd hM (pc := 948) dL_law_948 (pj_sli hX (pc := 949) dL_law_949 h2 (pj_cV hM (pc := 950) (cM_lift (pj_sX g (pj_wr (x3 + 1))) (pj_sX g (pj_wr (x3 + 2))) p3.2 p5 h6) dL_law_950 mf_X12_lift mv_X12_lift ml_L_100 kc_26 rfl rfl (by decide) rfl rfl k)))))))))))))))))))))))) ?_
  refine pj_tif (fun h7 => ?_) (fun h7 => ?_)
  · refine pj_map (fun k => pj_ic_eq_t hM (pc := 953) dL_law_953 rfl h7 (pj_kill hM [true, true, true, true] (lls' := [(3, 0), (10, 0), (26, 0), (0, x3)]) rfl k)) ?_
    exact tW_law_2076 hX x3 p5.2 _ h0 hk18
  exact pj_tret (fun hr => pj_ic_eq_f hM (pc := 953) 2076 dL_law_953 rfl h7 (pj_iconst hM (pc := 956) dL_law_956 (by decide) (pj_ret hM (pc := 957) dL_law_957 ⟨_, rfl, Or.inl rfl⟩ (h0 ((0, p5.2)) hr) rfl)))
theorem tW_law_1181 {Go : pj_C → Prop} (hX : pj_LX l g true n0 o Go) (x3 : Int) (w : pj_W)  (R : (Int × pj_W) ⊕ (Int × pj_W) → Prop) (h0 : ∀ r, R (Sum.inr (r)) → ((some (0, r.1) : Option pj_V), r.2) = o) (hk18 : ∀ s, R (Sum.inl s) → Go (18, [(3, 0), (10, 0), (26, 0), (0, s.1)], [], s.2)) : pj_TG R (fW_law_1181 (pj_sX g) (pj_sN g) x3 w) (Go (1181, [(3, 0), (10, 0), (26, 0), (0, x3)], [], w)) := by
  have hM := hX.M
  unfold fW_law_1181
  refine pj_tgd (fun h1 => ?_)
  refine pj_tgd (fun h2 => ?_)
  refine pj_tbind (fun p3 h4 => ?_)
  refine pj_tbind (fun p5 h6 => ?_)
  refine pj_map (fun k => pj_aload_n hM (pc := 1181) dL_law_1181 rfl rfl (pj_aload_n hM (pc := 1182) dL_law_1182 rfl rfl (pj_iload_n hM (pc := 1183) dL_law_1183 rfl (pj_iconst hM (pc := 1184) dL_law_1184 (by decide) (pj_iadd hM (pc := 1185) dL_law_1185 (pj_sli hX (pc := 1186) dL_law_1186 h1 (pj_aload_n hM (pc := 1187) dL_law_1187 rfl rfl (pj_iload_n hM (pc := 1188) dL_law_1188 rfl (pj_iconst hM (pc := 1189) dL_law_1189 (by decide) (pj_iadd hM (pc := 1190) dL_law_1190 (pj_sli hX (pc := 1191) dL_law_1191 h2 (pj_cV hM (pc := 1192) (cX_soonest (pj_sX g (pj_wr (x3 + 1))) (pj_sX g (pj_wr (x3 + 2))) w p3 h4) dL_law_1192 mf_X11_soonest mv_X11_soonest ml_L_145 kc_10 rfl rfl (by decide) rfl rfl (pj_aload_n hM (pc := 1195) dL_law_1195 rfl rfl (pj_aload_n hM (pc := 1196) dL_law_1196 rfl rfl (pj_iload_n hM (pc := 1197) dL_law_1197 rfl (pj_iconst hM (pc := 1198) dL_law_1198 (by decide) (pj_iadd hM (pc := 1199) dL_law_1199 (pj_sli hX (pc := 1200) dL_law_1200 h1 (pj_aload_n hM (pc := 1201) dL_law_1201 rfl rfl (pj_iload_n hM (pc := 1202) dL_law_1202 rfl (pj_iconst hM (pc := 1203) dL_law_1203 (by decide) (pj_iadd hM (pc := 1204) dL_law_1204 (pj_sli hX (pc := 1205) dL_law_1205 h2 (pj_cV hM (pc := 1206) (cM_soonest (pj_sX g (pj_wr (x3 + 1))) (pj_sX g (pj_wr (x3 + 2))) p3.2 p5 h6) dL_law_1206 mf_X12_soonest mv_X12_soonest ml_L_148 kc_26 rfl rfl (by decide) rfl rfl k)))))))))))))))))))))))) ?_
  refine pj_tif (fun h7 => ?_) (fun h7 => ?_)
  · refine pj_map (fun k => pj_ic_eq_t hM (pc := 1209) dL_law_1209 rfl h7 (pj_kill hM [true, true, true, true] (lls' := [(3, 0), (10, 0), (26, 0), (0, x3)]) rfl k)) ?_
    exact tW_law_2076 hX x3 p5.2 _ h0 hk18
  exact pj_tret (fun hr => pj_ic_eq_f hM (pc := 1209) 2076 dL_law_1209 rfl h7 (pj_iconst hM (pc := 1212) dL_law_1212 (by decide) (pj_ret hM (pc := 1213) dL_law_1213 ⟨_, rfl, Or.inl rfl⟩ (h0 ((0, p5.2)) hr) rfl)))
theorem tW_law_671 {Go : pj_C → Prop} (hX : pj_LX l g true n0 o Go) (x3 : Int) (w : pj_W)  (R : (Int × pj_W) ⊕ (Int × pj_W) → Prop) (h0 : ∀ r, R (Sum.inr (r)) → ((some (0, r.1) : Option pj_V), r.2) = o) (hk18 : ∀ s, R (Sum.inl s) → Go (18, [(3, 0), (10, 0), (26, 0), (0, s.1)], [], s.2)) : pj_TG R (fW_law_671 (pj_sX g) (pj_sN g) x3 w) (Go (671, [(3, 0), (10, 0), (26, 0), (0, x3)], [], w)) := by
  have hM := hX.M
  unfold fW_law_671
  refine pj_tgd (fun h1 => ?_)
  refine pj_tbind (fun p2 h3 => ?_)
  refine pj_tbind (fun p4 h5 => ?_)
  refine pj_map (fun k => pj_aload_n hM (pc := 671) dL_law_671 rfl rfl (pj_aload_n hM (pc := 672) dL_law_672 rfl rfl (pj_iload_n hM (pc := 673) dL_law_673 rfl (pj_iconst hM (pc := 674) dL_law_674 (by decide) (pj_iadd hM (pc := 675) dL_law_675 (pj_sli hX (pc := 676) dL_law_676 h1 (pj_cV hM (pc := 677) (cX_fault (pj_sX g (pj_wr (x3 + 1))) w p2 h3) dL_law_677 mf_X11_fault mv_X11_fault ml_L_63 kc_10 rfl rfl (by decide) rfl rfl (pj_aload_n hM (pc := 680) dL_law_680 rfl rfl (pj_aload_n hM (pc := 681) dL_law_681 rfl rfl (pj_iload_n hM (pc := 682) dL_law_682 rfl (pj_iconst hM (pc := 683) dL_law_683 (by decide) (pj_iadd hM (pc := 684) dL_law_684 (pj_sli hX (pc := 685) dL_law_685 h1 (pj_cV hM (pc := 686) (cM_fault (pj_sX g (pj_wr (x3 + 1))) w p4 h5) dL_law_686 mf_X12_fault mv_X12_fault ml_L_66 kc_26 rfl rfl (by decide) rfl rfl k)))))))))))))) ?_
  refine pj_tif (fun h6 => ?_) (fun h6 => ?_)
  · refine pj_map (fun k => pj_ic_eq_t hM (pc := 689) dL_law_689 rfl h6 (pj_kill hM [true, true, true, true] (lls' := [(3, 0), (10, 0), (26, 0), (0, x3)]) rfl k)) ?_
    exact tW_law_2076 hX x3 w _ h0 hk18
  exact pj_tret (fun hr => pj_ic_eq_f hM (pc := 689) 2076 dL_law_689 rfl h6 (pj_iconst hM (pc := 692) dL_law_692 (by decide) (pj_ret hM (pc := 693) dL_law_693 ⟨_, rfl, Or.inl rfl⟩ (h0 ((0, w)) hr) rfl)))
theorem tW_law_1448 {Go : pj_C → Prop} (hX : pj_LX l g true n0 o Go) (x3 : Int) (w : pj_W)  (R : (Int × pj_W) ⊕ (Int × pj_W) → Prop) (h0 : ∀ r, R (Sum.inr (r)) → ((some (0, r.1) : Option pj_V), r.2) = o) (hk18 : ∀ s, R (Sum.inl s) → Go (18, [(3, 0), (10, 0), (26, 0), (0, s.1)], [], s.2)) : pj_TG R (fW_law_1448 (pj_sX g) (pj_sN g) x3 w) (Go (1448, [(3, 0), (10, 0), (26, 0), (0, x3)], [], w)) := by
  have hM := hX.M
  unfold fW_law_1448
  refine pj_tgd (fun h1 => ?_)
  refine pj_tbind (fun p2 h3 => ?_)
  refine pj_tbind (fun p4 h5 => ?_)
  refine pj_map (fun k => pj_aload_n hM (pc := 1448) dL_law_1448 rfl rfl (pj_aload_n hM (pc := 1449) dL_law_1449 rfl rfl (pj_iload_n hM (pc := 1450) dL_law_1450 rfl (pj_iconst hM (pc := 1451) dL_law_1451 (by decide) (pj_iadd hM (pc := 1452) dL_law_1452 (pj_sli hX (pc := 1453) dL_law_1453 h1 (pj_cV hM (pc := 1454) (cX_gulls (pj_sX g (pj_wr (x3 + 1))) w p2 h3) dL_law_1454 mf_X11_gulls mv_X11_gulls ml_L_181 kc_10 rfl rfl (by decide) rfl rfl (pj_aload_n hM (pc := 1457) dL_law_1457 rfl rfl (pj_aload_n hM (pc := 1458) dL_law_1458 rfl rfl (pj_iload_n hM (pc := 1459) dL_law_1459 rfl (pj_iconst hM (pc := 1460) dL_law_1460 (by decide) (pj_iadd hM (pc := 1461) dL_law_1461 (pj_sli hX (pc := 1462) dL_law_1462 h1 (pj_cV hM (pc := 1463) (cM_gulls (pj_sX g (pj_wr (x3 + 1))) p2.2 p4 h5) dL_law_1463 mf_X12_gulls mv_X12_gulls ml_L_184 kc_26 rfl rfl (by decide) rfl rfl k)))))))))))))) ?_
  refine pj_tif (fun h6 => ?_) (fun h6 => ?_)
  · refine pj_map (fun k => pj_ic_eq_t hM (pc := 1466) dL_law_1466 rfl h6 (pj_kill hM [true, true, true, true] (lls' := [(3, 0), (10, 0), (26, 0), (0, x3)]) rfl k)) ?_
    exact tW_law_2076 hX x3 p4.2 _ h0 hk18
  exact pj_tret (fun hr => pj_ic_eq_f hM (pc := 1466) 2076 dL_law_1466 rfl h6 (pj_iconst hM (pc := 1469) dL_law_1469 (by decide) (pj_ret hM (pc := 1470) dL_law_1470 ⟨_, rfl, Or.inl rfl⟩ (h0 ((0, p4.2)) hr) rfl)))
theorem tW_law_1961 {Go : pj_C → Prop} (hX : pj_LX l g true n0 o Go) (x3 : Int) (w : pj_W)  (R : (Int × pj_W) ⊕ (Int × pj_W) → Prop) (h0 : ∀ r, R (Sum.inr (r)) → ((some (0, r.1) : Option pj_V), r.2) = o) (hk18 : ∀ s, R (Sum.inl s) → Go (18, [(3, 0), (10, 0), (26, 0), (0, s.1)], [], s.2)) : pj_TG R (fW_law_1961 (pj_sX g) (pj_sN g) x3 w) (Go (1961, [(3, 0), (10, 0), (26, 0), (0, x3)], [], w)) := by
  have hM := hX.M
  unfold fW_law_1961
  refine pj_tgd (fun h1 => ?_)
  refine pj_tbind (fun p2 h3 => ?_)
  refine pj_tbind (fun p4 h5 => ?_)
  refine pj_map (fun k => pj_aload_n hM (pc := 1961) dL_law_1961 rfl rfl (pj_aload_n hM (pc := 1962) dL_law_1962 rfl rfl (pj_iload_n hM (pc := 1963) dL_law_1963 rfl (pj_iconst hM (pc := 1964) dL_law_1964 (by decide) (pj_iadd hM (pc := 1965) dL_law_1965 (pj_sli hX (pc := 1966) dL_law_1966 h1 (pj_cV hM (pc := 1967) (cX_live (pj_sX g (pj_wr (x3 + 1))) w p2 h3) dL_law_1967 mf_X11_live mv_X11_live ml_L_265 kc_10 rfl rfl (by decide) rfl rfl (pj_aload_n hM (pc := 1970) dL_law_1970 rfl rfl (pj_aload_n hM (pc := 1971) dL_law_1971 rfl rfl (pj_iload_n hM (pc := 1972) dL_law_1972 rfl (pj_iconst hM (pc := 1973) dL_law_1973 (by decide) (pj_iadd hM (pc := 1974) dL_law_1974 (pj_sli hX (pc := 1975) dL_law_1975 h1 (pj_cV hM (pc := 1976) (cM_live (pj_sX g (pj_wr (x3 + 1))) p2.2 p4 h5) dL_law_1976 mf_X12_live mv_X12_live ml_L_268 kc_26 rfl rfl (by decide) rfl rfl k)))))))))))))) ?_
  refine pj_tif (fun h6 => ?_) (fun h6 => ?_)
  · refine pj_map (fun k => pj_ic_eq_t hM (pc := 1979) dL_law_1979 rfl h6 (pj_kill hM [true, true, true, true] (lls' := [(3, 0), (10, 0), (26, 0), (0, x3)]) rfl k)) ?_
    exact tW_law_2076 hX x3 p4.2 _ h0 hk18
  exact pj_tret (fun hr => pj_ic_eq_f hM (pc := 1979) 2076 dL_law_1979 rfl h6 (pj_iconst hM (pc := 1982) dL_law_1982 (by decide) (pj_ret hM (pc := 1983) dL_law_1983 ⟨_, rfl, Or.inl rfl⟩ (h0 ((0, p4.2)) hr) rfl)))
theorem tW_law_1711 {Go : pj_C → Prop} (hX : pj_LX l g true n0 o Go) (x3 : Int) (w : pj_W)  (R : (Int × pj_W) ⊕ (Int × pj_W) → Prop) (h0 : ∀ r, R (Sum.inr (r)) → ((some (0, r.1) : Option pj_V), r.2) = o) (hk18 : ∀ s, R (Sum.inl s) → Go (18, [(3, 0), (10, 0), (26, 0), (0, s.1)], [], s.2)) : pj_TG R (fW_law_1711 (pj_sX g) (pj_sN g) x3 w) (Go (1711, [(3, 0), (10, 0), (26, 0), (0, x3)], [], w)) := by
  have hM := hX.M
  unfold fW_law_1711
  refine pj_tgd (fun h1 => ?_)
  refine pj_tbind (fun p2 h3 => ?_)
  refine pj_tbind (fun p4 h5 => ?_)
  refine pj_map (fun k => pj_aload_n hM (pc := 1711) dL_law_1711 rfl rfl (pj_aload_n hM (pc := 1712) dL_law_1712 rfl rfl (pj_iload_n hM (pc := 1713) dL_law_1713 rfl (pj_iconst hM (pc := 1714) dL_law_1714 (by decide) (pj_iadd hM (pc := 1715) dL_law_1715 (pj_sli hX (pc := 1716) dL_law_1716 h1 (pj_cV hM (pc := 1717) (cX_time (pj_sX g (pj_wr (x3 + 1))) w p2 h3) dL_law_1717 mf_X11_time mv_X11_time ml_L_225 kc_10 rfl rfl (by decide) rfl rfl (pj_aload_n hM (pc := 1720) dL_law_1720 rfl rfl (pj_aload_n hM (pc := 1721) dL_law_1721 rfl rfl (pj_iload_n hM (pc := 1722) dL_law_1722 rfl (pj_iconst hM (pc := 1723) dL_law_1723 (by decide) (pj_iadd hM (pc := 1724) dL_law_1724 (pj_sli hX (pc := 1725) dL_law_1725 h1 (pj_cV hM (pc := 1726) (cM_time (pj_sX g (pj_wr (x3 + 1))) p2.2 p4 h5) dL_law_1726 mf_X12_time mv_X12_time ml_L_228 kc_26 rfl rfl (by decide) rfl rfl k)))))))))))))) ?_
  refine pj_tif (fun h6 => ?_) (fun h6 => ?_)
  · refine pj_map (fun k => pj_ic_eq_t hM (pc := 1729) dL_law_1729 rfl h6 (pj_kill hM [true, true, true, true] (lls' := [(3, 0), (10, 0), (26, 0), (0, x3)]) rfl k)) ?_
    exact tW_law_2076 hX x3 p4.2 _ h0 hk18
  exact pj_tret (fun hr => pj_ic_eq_f hM (pc := 1729) 2076 dL_law_1729 rfl h6 (pj_iconst hM (pc := 1732) dL_law_1732 (by decide) (pj_ret hM (pc := 1733) dL_law_1733 ⟨_, rfl, Or.inl rfl⟩ (h0 ((0, p4.2)) hr) rfl)))
theorem tW_law_694 {Go : pj_C → Prop} (hX : pj_LX l g true n0 o Go) (x3 : Int) (w : pj_W)  (R : (Int × pj_W) ⊕ (Int × pj_W) → Prop) (h0 : ∀ r, R (Sum.inr (r)) → ((some (0, r.1) : Option pj_V), r.2) = o) (hk18 : ∀ s, R (Sum.inl s) → Go (18, [(3, 0), (10, 0), (26, 0), (0, s.1)], [], s.2)) : pj_TG R (fW_law_694 (pj_sX g) (pj_sN g) x3 w) (Go (694, [(3, 0), (10, 0), (26, 0), (0, x3)], [], w)) := by
  have hM := hX.M
  unfold fW_law_694
  refine pj_tgd (fun h1 => ?_)
  refine pj_tbind (fun p2 h3 => ?_)
  refine pj_tbind (fun p4 h5 => ?_)
  refine pj_map (fun k => pj_aload_n hM (pc := 694) dL_law_694 rfl rfl (pj_aload_n hM (pc := 695) dL_law_695 rfl rfl (pj_iload_n hM (pc := 696) dL_law_696 rfl (pj_iconst hM (pc := 697) dL_law_697 (by decide) (pj_iadd hM (pc := 698) dL_law_698 (pj_sli hX (pc := 699) dL_law_699 h1 (pj_cV hM (pc := 700) (cX_told (pj_sX g (pj_wr (x3 + 1))) w p2 h3) dL_law_700 mf_X11_told mv_X11_told ml_L_67 kc_10 rfl rfl (by decide) rfl rfl (pj_aload_n hM (pc := 703) dL_law_703 rfl rfl (pj_aload_n hM (pc := 704) dL_law_704 rfl rfl (pj_iload_n hM (pc := 705) dL_law_705 rfl (pj_iconst hM (pc := 706) dL_law_706 (by decide) (pj_iadd hM (pc := 707) dL_law_707 (pj_sli hX (pc := 708) dL_law_708 h1 (pj_cV hM (pc := 709) (cM_told (pj_sX g (pj_wr (x3 + 1))) p2.2 p4 h5) dL_law_709 mf_X12_told mv_X12_told ml_L_70 kc_26 rfl rfl (by decide) rfl rfl k)))))))))))))) ?_
  refine pj_tif (fun h6 => ?_) (fun h6 => ?_)
  · refine pj_map (fun k => pj_ic_eq_t hM (pc := 712) dL_law_712 rfl h6 (pj_kill hM [true, true, true, true] (lls' := [(3, 0), (10, 0), (26, 0), (0, x3)]) rfl k)) ?_
    exact tW_law_2076 hX x3 p4.2 _ h0 hk18
  exact pj_tret (fun hr => pj_ic_eq_f hM (pc := 712) 2076 dL_law_712 rfl h6 (pj_iconst hM (pc := 715) dL_law_715 (by decide) (pj_ret hM (pc := 716) dL_law_716 ⟨_, rfl, Or.inl rfl⟩ (h0 ((0, p4.2)) hr) rfl)))
theorem tW_law_958 {Go : pj_C → Prop} (hX : pj_LX l g true n0 o Go) (x3 : Int) (w : pj_W)  (R : (Int × pj_W) ⊕ (Int × pj_W) → Prop) (h0 : ∀ r, R (Sum.inr (r)) → ((some (0, r.1) : Option pj_V), r.2) = o) (hk18 : ∀ s, R (Sum.inl s) → Go (18, [(3, 0), (10, 0), (26, 0), (0, s.1)], [], s.2)) : pj_TG R (fW_law_958 (pj_sX g) (pj_sN g) x3 w) (Go (958, [(3, 0), (10, 0), (26, 0), (0, x3)], [], w)) := by
  have hM := hX.M
  unfold fW_law_958
  refine pj_tgd (fun h1 => ?_)
  refine pj_tgd (fun h2 => ?_)
  refine pj_tbind (fun p3 h4 => ?_)
  refine pj_tbind (fun p5 h6 => ?_)
  refine pj_map (fun k => pj_aload_n hM (pc := 958) dL_law_958 rfl rfl (pj_aload_n hM (pc := 959) dL_law_959 rfl rfl (pj_iload_n hM (pc := 960) dL_law_960 rfl (pj_iconst hM (pc := 961) dL_law_961 (by decide) (pj_iadd hM (pc := 962) dL_law_962 (pj_sli hX (pc := 963) dL_law_963 h1 (pj_aload_n hM (pc := 964) dL_law_964 rfl rfl (pj_iload_n hM (pc := 965) dL_law_965 rfl (pj_iconst hM (pc := 966) dL_law_966 (by decide) (pj_iadd hM (pc := 967) dL_law_967 (pj_sli hX (pc := 968) dL_law_968 h2 (pj_cV hM (pc := 969) (cX_gull (pj_sX g (pj_wr (x3 + 1))) (pj_sX g (pj_wr (x3 + 2))) w p3 h4) dL_law_969 mf_X11_gull mv_X11_gull ml_L_101 kc_10 rfl rfl (by decide) rfl rfl (pj_aload_n hM (pc := 972) dL_law_972 rfl rfl (pj_aload_n hM (pc := 973) dL_law_973 rfl rfl (pj_iload_n hM (pc := 974) dL_law_974 rfl (pj_iconst hM (pc := 975) dL_law_975 (by decide) (pj_iadd hM (pc := 976) dL_law_976 (pj_sli hX (pc := 977) dL_law_977 h1 (pj_aload_n hM (pc := 978) dL_law_978 rfl rfl (pj_iload_n hM (pc := 979) dL_law_979 rfl (pj_iconst hM (pc := 980) dL_law_980 (by decide) (pj_iadd hM (pc := 981) dL_law_981 (pj_sli hX (pc := 982) dL_law_982 h2 (pj_cV hM (pc := 983) (cM_gull (pj_sX g (pj_wr (x3 + 1))) (pj_sX g (pj_wr (x3 + 2))) p3.2 p5 h6) dL_law_983 mf_X12_gull mv_X12_gull ml_L_104 kc_26 rfl rfl (by decide) rfl rfl k)))))))))))))))))))))))) ?_
  refine pj_tif (fun h7 => ?_) (fun h7 => ?_)
  · refine pj_map (fun k => pj_ic_eq_t hM (pc := 986) dL_law_986 rfl h7 (pj_kill hM [true, true, true, true] (lls' := [(3, 0), (10, 0), (26, 0), (0, x3)]) rfl k)) ?_
    exact tW_law_2076 hX x3 p5.2 _ h0 hk18
  exact pj_tret (fun hr => pj_ic_eq_f hM (pc := 986) 2076 dL_law_986 rfl h7 (pj_iconst hM (pc := 989) dL_law_989 (by decide) (pj_ret hM (pc := 990) dL_law_990 ⟨_, rfl, Or.inl rfl⟩ (h0 ((0, p5.2)) hr) rfl)))
theorem tW_law_1214 {Go : pj_C → Prop} (hX : pj_LX l g true n0 o Go) (x3 : Int) (w : pj_W)  (R : (Int × pj_W) ⊕ (Int × pj_W) → Prop) (h0 : ∀ r, R (Sum.inr (r)) → ((some (0, r.1) : Option pj_V), r.2) = o) (hk18 : ∀ s, R (Sum.inl s) → Go (18, [(3, 0), (10, 0), (26, 0), (0, s.1)], [], s.2)) : pj_TG R (fW_law_1214 (pj_sX g) (pj_sN g) x3 w) (Go (1214, [(3, 0), (10, 0), (26, 0), (0, x3)], [], w)) := by
  have hM := hX.M
  unfold fW_law_1214
  refine pj_tgd (fun h1 => ?_)
  refine pj_tbind (fun p2 h3 => ?_)
  refine pj_tbind (fun p4 h5 => ?_)
  refine pj_map (fun k => pj_aload_n hM (pc := 1214) dL_law_1214 rfl rfl (pj_aload_n hM (pc := 1215) dL_law_1215 rfl rfl (pj_iload_n hM (pc := 1216) dL_law_1216 rfl (pj_iconst hM (pc := 1217) dL_law_1217 (by decide) (pj_iadd hM (pc := 1218) dL_law_1218 (pj_sli hX (pc := 1219) dL_law_1219 h1 (pj_cV hM (pc := 1220) (cX_threat (pj_sX g (pj_wr (x3 + 1))) w p2 h3) dL_law_1220 mf_X11_threat mv_X11_threat ml_L_149 kc_10 rfl rfl (by decide) rfl rfl (pj_aload_n hM (pc := 1223) dL_law_1223 rfl rfl (pj_aload_n hM (pc := 1224) dL_law_1224 rfl rfl (pj_iload_n hM (pc := 1225) dL_law_1225 rfl (pj_iconst hM (pc := 1226) dL_law_1226 (by decide) (pj_iadd hM (pc := 1227) dL_law_1227 (pj_sli hX (pc := 1228) dL_law_1228 h1 (pj_cV hM (pc := 1229) (cM_threat (pj_sX g (pj_wr (x3 + 1))) p2.2 p4 h5) dL_law_1229 mf_X12_threat mv_X12_threat ml_L_152 kc_26 rfl rfl (by decide) rfl rfl k)))))))))))))) ?_
  refine pj_tif (fun h6 => ?_) (fun h6 => ?_)
  · refine pj_map (fun k => pj_ic_eq_t hM (pc := 1232) dL_law_1232 rfl h6 (pj_kill hM [true, true, true, true] (lls' := [(3, 0), (10, 0), (26, 0), (0, x3)]) rfl k)) ?_
    exact tW_law_2076 hX x3 p4.2 _ h0 hk18
  exact pj_tret (fun hr => pj_ic_eq_f hM (pc := 1232) 2076 dL_law_1232 rfl h6 (pj_iconst hM (pc := 1235) dL_law_1235 (by decide) (pj_ret hM (pc := 1236) dL_law_1236 ⟨_, rfl, Or.inl rfl⟩ (h0 ((0, p4.2)) hr) rfl)))
theorem tW_law_1471 {Go : pj_C → Prop} (hX : pj_LX l g true n0 o Go) (x3 : Int) (w : pj_W)  (R : (Int × pj_W) ⊕ (Int × pj_W) → Prop) (h0 : ∀ r, R (Sum.inr (r)) → ((some (0, r.1) : Option pj_V), r.2) = o) (hk18 : ∀ s, R (Sum.inl s) → Go (18, [(3, 0), (10, 0), (26, 0), (0, s.1)], [], s.2)) : pj_TG R (fW_law_1471 (pj_sX g) (pj_sN g) x3 w) (Go (1471, [(3, 0), (10, 0), (26, 0), (0, x3)], [], w)) := by
  have hM := hX.M
  unfold fW_law_1471
  refine pj_tgd (fun h1 => ?_)
  refine pj_tgd (fun h2 => ?_)
  refine pj_tbind (fun p3 h4 => ?_)
  refine pj_tbind (fun p5 h6 => ?_)
  refine pj_map (fun k => pj_aload_n hM (pc := 1471) dL_law_1471 rfl rfl (pj_aload_n hM (pc := 1472) dL_law_1472 rfl rfl (pj_iload_n hM (pc := 1473) dL_law_1473 rfl (pj_iconst hM (pc := 1474) dL_law_1474 (by decide) (pj_iadd hM (pc := 1475) dL_law_1475 (pj_sli hX (pc := 1476) dL_law_1476 h1 (pj_aload_n hM (pc := 1477) dL_law_1477 rfl rfl (pj_iload_n hM (pc := 1478) dL_law_1478 rfl (pj_iconst hM (pc := 1479) dL_law_1479 (by decide) (pj_iadd hM (pc := 1480) dL_law_1480 (pj_sli hX (pc := 1481) dL_law_1481 h2 (pj_cV hM (pc := 1482) (cX_walk (pj_sX g (pj_wr (x3 + 1))) (pj_sX g (pj_wr (x3 + 2))) w p3 h4) dL_law_1482 mf_X11_walk mv_X11_walk ml_L_185 kc_10 rfl rfl (by decide) rfl rfl (pj_aload_n hM (pc := 1485) dL_law_1485 rfl rfl (pj_aload_n hM (pc := 1486) dL_law_1486 rfl rfl (pj_iload_n hM (pc := 1487) dL_law_1487 rfl (pj_iconst hM (pc := 1488) dL_law_1488 (by decide) (pj_iadd hM (pc := 1489) dL_law_1489 (pj_sli hX (pc := 1490) dL_law_1490 h1 (pj_aload_n hM (pc := 1491) dL_law_1491 rfl rfl (pj_iload_n hM (pc := 1492) dL_law_1492 rfl (pj_iconst hM (pc := 1493) dL_law_1493 (by decide) (pj_iadd hM (pc := 1494) dL_law_1494 (pj_sli hX (pc := 1495) dL_law_1495 h2 (pj_cV hM (pc := 1496) (cM_walk (pj_sX g (pj_wr (x3 + 1))) (pj_sX g (pj_wr (x3 + 2))) p3.2 p5 h6) dL_law_1496 mf_X12_walk mv_X12_walk ml_L_188 kc_26 rfl rfl (by decide) rfl rfl k)))))))))))))))))))))))) ?_
  refine pj_tif (fun h7 => ?_) (fun h7 => ?_)
  · refine pj_map (fun k => pj_ic_eq_t hM (pc := 1499) dL_law_1499 rfl h7 (pj_kill hM [true, true, true, true] (lls' := [(3, 0), (10, 0), (26, 0), (0, x3)]) rfl k)) ?_
    exact tW_law_2076 hX x3 p5.2 _ h0 hk18
  exact pj_tret (fun hr => pj_ic_eq_f hM (pc := 1499) 2076 dL_law_1499 rfl h7 (pj_iconst hM (pc := 1502) dL_law_1502 (by decide) (pj_ret hM (pc := 1503) dL_law_1503 ⟨_, rfl, Or.inl rfl⟩ (h0 ((0, p5.2)) hr) rfl)))
theorem tW_law_1984 {Go : pj_C → Prop} (hX : pj_LX l g true n0 o Go) (x3 : Int) (w : pj_W)  (R : (Int × pj_W) ⊕ (Int × pj_W) → Prop) (h0 : ∀ r, R (Sum.inr (r)) → ((some (0, r.1) : Option pj_V), r.2) = o) (hk18 : ∀ s, R (Sum.inl s) → Go (18, [(3, 0), (10, 0), (26, 0), (0, s.1)], [], s.2)) : pj_TG R (fW_law_1984 (pj_sX g) (pj_sN g) x3 w) (Go (1984, [(3, 0), (10, 0), (26, 0), (0, x3)], [], w)) := by
  have hM := hX.M
  unfold fW_law_1984
  refine pj_tgd (fun h1 => ?_)
  refine pj_tbind (fun p2 h3 => ?_)
  refine pj_tbind (fun p4 h5 => ?_)
  refine pj_map (fun k => pj_aload_n hM (pc := 1984) dL_law_1984 rfl rfl (pj_aload_n hM (pc := 1985) dL_law_1985 rfl rfl (pj_iload_n hM (pc := 1986) dL_law_1986 rfl (pj_iconst hM (pc := 1987) dL_law_1987 (by decide) (pj_iadd hM (pc := 1988) dL_law_1988 (pj_sli hX (pc := 1989) dL_law_1989 h1 (pj_cV hM (pc := 1990) (cX_lived (pj_sX g (pj_wr (x3 + 1))) w p2 h3) dL_law_1990 mf_X11_lived mv_X11_lived ml_L_269 kc_10 rfl rfl (by decide) rfl rfl (pj_aload_n hM (pc := 1993) dL_law_1993 rfl rfl (pj_aload_n hM (pc := 1994) dL_law_1994 rfl rfl (pj_iload_n hM (pc := 1995) dL_law_1995 rfl (pj_iconst hM (pc := 1996) dL_law_1996 (by decide) (pj_iadd hM (pc := 1997) dL_law_1997 (pj_sli hX (pc := 1998) dL_law_1998 h1 (pj_cV hM (pc := 1999) (cM_lived (pj_sX g (pj_wr (x3 + 1))) p2.2 p4 h5) dL_law_1999 mf_X12_lived mv_X12_lived ml_L_272 kc_26 rfl rfl (by decide) rfl rfl k)))))))))))))) ?_
  refine pj_tif (fun h6 => ?_) (fun h6 => ?_)
  · refine pj_map (fun k => pj_ic_eq_t hM (pc := 2002) dL_law_2002 rfl h6 (pj_kill hM [true, true, true, true] (lls' := [(3, 0), (10, 0), (26, 0), (0, x3)]) rfl k)) ?_
    exact tW_law_2076 hX x3 p4.2 _ h0 hk18
  exact pj_tret (fun hr => pj_ic_eq_f hM (pc := 2002) 2076 dL_law_2002 rfl h6 (pj_iconst hM (pc := 2005) dL_law_2005 (by decide) (pj_ret hM (pc := 2006) dL_law_2006 ⟨_, rfl, Or.inl rfl⟩ (h0 ((0, p4.2)) hr) rfl)))
theorem tW_law_1734 {Go : pj_C → Prop} (hX : pj_LX l g true n0 o Go) (x3 : Int) (w : pj_W)  (R : (Int × pj_W) ⊕ (Int × pj_W) → Prop) (h0 : ∀ r, R (Sum.inr (r)) → ((some (0, r.1) : Option pj_V), r.2) = o) (hk18 : ∀ s, R (Sum.inl s) → Go (18, [(3, 0), (10, 0), (26, 0), (0, s.1)], [], s.2)) : pj_TG R (fW_law_1734 (pj_sX g) (pj_sN g) x3 w) (Go (1734, [(3, 0), (10, 0), (26, 0), (0, x3)], [], w)) := by
  have hM := hX.M
  unfold fW_law_1734
  refine pj_tgd (fun h1 => ?_)
  refine pj_tgd (fun h2 => ?_)
  refine pj_tbind (fun p3 h4 => ?_)
  refine pj_tbind (fun p5 h6 => ?_)
  refine pj_map (fun k => pj_aload_n hM (pc := 1734) dL_law_1734 rfl rfl (pj_aload_n hM (pc := 1735) dL_law_1735 rfl rfl (pj_iload_n hM (pc := 1736) dL_law_1736 rfl (pj_iconst hM (pc := 1737) dL_law_1737 (by decide) (pj_iadd hM (pc := 1738) dL_law_1738 (pj_sli hX (pc := 1739) dL_law_1739 h1 (pj_aload_n hM (pc := 1740) dL_law_1740 rfl rfl (pj_iload_n hM (pc := 1741) dL_law_1741 rfl (pj_iconst hM (pc := 1742) dL_law_1742 (by decide) (pj_iadd hM (pc := 1743) dL_law_1743 (pj_sli hX (pc := 1744) dL_law_1744 h2 (pj_cV hM (pc := 1745) (cX_tally (pj_sX g (pj_wr (x3 + 1))) (pj_sX g (pj_wr (x3 + 2))) w p3 h4) dL_law_1745 mf_X11_tally mv_X11_tally ml_L_229 kc_10 rfl rfl (by decide) rfl rfl (pj_aload_n hM (pc := 1748) dL_law_1748 rfl rfl (pj_aload_n hM (pc := 1749) dL_law_1749 rfl rfl (pj_iload_n hM (pc := 1750) dL_law_1750 rfl (pj_iconst hM (pc := 1751) dL_law_1751 (by decide) (pj_iadd hM (pc := 1752) dL_law_1752 (pj_sli hX (pc := 1753) dL_law_1753 h1 (pj_aload_n hM (pc := 1754) dL_law_1754 rfl rfl (pj_iload_n hM (pc := 1755) dL_law_1755 rfl (pj_iconst hM (pc := 1756) dL_law_1756 (by decide) (pj_iadd hM (pc := 1757) dL_law_1757 (pj_sli hX (pc := 1758) dL_law_1758 h2 (pj_cV hM (pc := 1759) (cM_tally (pj_sX g (pj_wr (x3 + 1))) (pj_sX g (pj_wr (x3 + 2))) p3.2 p5 h6) dL_law_1759 mf_X12_tally mv_X12_tally ml_L_232 kc_26 rfl rfl (by decide) rfl rfl k)))))))))))))))))))))))) ?_
  refine pj_tif (fun h7 => ?_) (fun h7 => ?_)
  · refine pj_map (fun k => pj_ic_eq_t hM (pc := 1762) dL_law_1762 rfl h7 (pj_kill hM [true, true, true, true] (lls' := [(3, 0), (10, 0), (26, 0), (0, x3)]) rfl k)) ?_
    exact tW_law_2076 hX x3 p5.2 _ h0 hk18
  exact pj_tret (fun hr => pj_ic_eq_f hM (pc := 1762) 2076 dL_law_1762 rfl h7 (pj_iconst hM (pc := 1765) dL_law_1765 (by decide) (pj_ret hM (pc := 1766) dL_law_1766 ⟨_, rfl, Or.inl rfl⟩ (h0 ((0, p5.2)) hr) rfl)))
theorem tW_law_717 {Go : pj_C → Prop} (hX : pj_LX l g true n0 o Go) (x3 : Int) (w : pj_W)  (R : (Int × pj_W) ⊕ (Int × pj_W) → Prop) (h0 : ∀ r, R (Sum.inr (r)) → ((some (0, r.1) : Option pj_V), r.2) = o) (hk18 : ∀ s, R (Sum.inl s) → Go (18, [(3, 0), (10, 0), (26, 0), (0, s.1)], [], s.2)) : pj_TG R (fW_law_717 (pj_sX g) (pj_sN g) x3 w) (Go (717, [(3, 0), (10, 0), (26, 0), (0, x3)], [], w)) := by
  have hM := hX.M
  unfold fW_law_717
  refine pj_tgd (fun h1 => ?_)
  refine pj_tgd (fun h2 => ?_)
  refine pj_tbind (fun p3 h4 => ?_)
  refine pj_tbind (fun p5 h6 => ?_)
  refine pj_map (fun k => pj_aload_n hM (pc := 717) dL_law_717 rfl rfl (pj_aload_n hM (pc := 718) dL_law_718 rfl rfl (pj_iload_n hM (pc := 719) dL_law_719 rfl (pj_iconst hM (pc := 720) dL_law_720 (by decide) (pj_iadd hM (pc := 721) dL_law_721 (pj_sli hX (pc := 722) dL_law_722 h1 (pj_aload_n hM (pc := 723) dL_law_723 rfl rfl (pj_iload_n hM (pc := 724) dL_law_724 rfl (pj_iconst hM (pc := 725) dL_law_725 (by decide) (pj_iadd hM (pc := 726) dL_law_726 (pj_sli hX (pc := 727) dL_law_727 h2 (pj_cV hM (pc := 728) (cX_finder (pj_sX g (pj_wr (x3 + 1))) (pj_sX g (pj_wr (x3 + 2))) w p3 h4) dL_law_728 mf_X11_finder mv_X11_finder ml_L_71 kc_10 rfl rfl (by decide) rfl rfl (pj_aload_n hM (pc := 731) dL_law_731 rfl rfl (pj_aload_n hM (pc := 732) dL_law_732 rfl rfl (pj_iload_n hM (pc := 733) dL_law_733 rfl (pj_iconst hM (pc := 734) dL_law_734 (by decide) (pj_iadd hM (pc := 735) dL_law_735 (pj_sli hX (pc := 736) dL_law_736 h1 (pj_aload_n hM (pc := 737) dL_law_737 rfl rfl (pj_iload_n hM (pc := 738) dL_law_738 rfl (pj_iconst hM (pc := 739) dL_law_739 (by decide) (pj_iadd hM (pc := 740) dL_law_740 (pj_sli hX (pc := 741) dL_law_741 h2 (pj_cV hM (pc := 742) (cM_finder (pj_sX g (pj_wr (x3 + 1))) (pj_sX g (pj_wr (x3 + 2))) p3.2 p5 h6) dL_law_742 mf_X12_finder mv_X12_finder ml_L_75 kc_26 rfl rfl (by decide) rfl rfl k)))))))))))))))))))))))) ?_
  refine pj_tif (fun h7 => ?_) (fun h7 => ?_)
  · refine pj_map (fun k => pj_ic_eq_t hM (pc := 745) dL_law_745 rfl h7 (pj_kill hM [true, true, true, true] (lls' := [(3, 0), (10, 0), (26, 0), (0, x3)]) rfl k)) ?_
    exact tW_law_2076 hX x3 p5.2 _ h0 hk18
  exact pj_tret (fun hr => pj_ic_eq_f hM (pc := 745) 2076 dL_law_745 rfl h7 (pj_iconst hM (pc := 748) dL_law_748 (by decide) (pj_ret hM (pc := 749) dL_law_749 ⟨_, rfl, Or.inl rfl⟩ (h0 ((0, p5.2)) hr) rfl)))
theorem tW_law_465 {Go : pj_C → Prop} (hX : pj_LX l g true n0 o Go) (x3 : Int) (w : pj_W)  (R : (Int × pj_W) ⊕ (Int × pj_W) → Prop) (h0 : ∀ r, R (Sum.inr (r)) → ((some (0, r.1) : Option pj_V), r.2) = o) (hk18 : ∀ s, R (Sum.inl s) → Go (18, [(3, 0), (10, 0), (26, 0), (0, s.1)], [], s.2)) : pj_TG R (fW_law_465 (pj_sX g) (pj_sN g) x3 w) (Go (465, [(3, 0), (10, 0), (26, 0), (0, x3)], [], w)) := by
  have hM := hX.M
  unfold fW_law_465
  refine pj_tgd (fun h1 => ?_)
  refine pj_tgd (fun h2 => ?_)
  refine pj_tbind (fun p3 h4 => ?_)
  refine pj_tbind (fun p5 h6 => ?_)
  refine pj_map (fun k => pj_aload_n hM (pc := 465) dL_law_465 rfl rfl (pj_aload_n hM (pc := 466) dL_law_466 rfl rfl (pj_iload_n hM (pc := 467) dL_law_467 rfl (pj_iconst hM (pc := 468) dL_law_468 (by decide) (pj_iadd hM (pc := 469) dL_law_469 (pj_sli hX (pc := 470) dL_law_470 h1 (pj_aload_n hM (pc := 471) dL_law_471 rfl rfl (pj_iload_n hM (pc := 472) dL_law_472 rfl (pj_iconst hM (pc := 473) dL_law_473 (by decide) (pj_iadd hM (pc := 474) dL_law_474 (pj_sli hX (pc := 475) dL_law_475 h2 (pj_cV hM (pc := 476) (cX_read (pj_sX g (pj_wr (x3 + 1))) (pj_sX g (pj_wr (x3 + 2))) w p3 h4) dL_law_476 mf_X11_read mv_X11_read ml_L_39 kc_10 rfl rfl (by decide) rfl rfl (pj_aload_n hM (pc := 479) dL_law_479 rfl rfl (pj_aload_n hM (pc := 480) dL_law_480 rfl rfl (pj_iload_n hM (pc := 481) dL_law_481 rfl (pj_iconst hM (pc := 482) dL_law_482 (by decide) (pj_iadd hM (pc := 483) dL_law_483 (pj_sli hX (pc := 484) dL_law_484 h1 (pj_aload_n hM (pc := 485) dL_law_485 rfl rfl (pj_iload_n hM (pc := 486) dL_law_486 rfl (pj_iconst hM (pc := 487) dL_law_487 (by decide) (pj_iadd hM (pc := 488) dL_law_488 (pj_sli hX (pc := 489) dL_law_489 h2 (pj_cV hM (pc := 490) (cM_read (pj_sX g (pj_wr (x3 + 1))) (pj_sX g (pj_wr (x3 + 2))) p3.2 p5 h6) dL_law_490 mf_X12_read mv_X12_read ml_L_43 kc_26 rfl rfl (by decide) rfl rfl (pj_lcmp hM (pc := 493) dL_law_493 k))))))))))))))))))))))))) ?_
  refine pj_tif (fun h7 => ?_) (fun h7 => ?_)
  · refine pj_map (fun k => pj_if_eq_t hM (pc := 494) dL_law_494 rfl h7 (pj_kill hM [true, true, true, true] (lls' := [(3, 0), (10, 0), (26, 0), (0, x3)]) rfl k)) ?_
    exact tW_law_2076 hX x3 p5.2 _ h0 hk18
  exact pj_tret (fun hr => pj_if_eq_f hM (pc := 494) 2076 dL_law_494 rfl h7 (pj_iconst hM (pc := 497) dL_law_497 (by decide) (pj_ret hM (pc := 498) dL_law_498 ⟨_, rfl, Or.inl rfl⟩ (h0 ((0, p5.2)) hr) rfl)))
theorem tW_law_1237 {Go : pj_C → Prop} (hX : pj_LX l g true n0 o Go) (x3 : Int) (w : pj_W)  (R : (Int × pj_W) ⊕ (Int × pj_W) → Prop) (h0 : ∀ r, R (Sum.inr (r)) → ((some (0, r.1) : Option pj_V), r.2) = o) (hk18 : ∀ s, R (Sum.inl s) → Go (18, [(3, 0), (10, 0), (26, 0), (0, s.1)], [], s.2)) : pj_TG R (fW_law_1237 (pj_sX g) (pj_sN g) x3 w) (Go (1237, [(3, 0), (10, 0), (26, 0), (0, x3)], [], w)) := by
  have hM := hX.M
  unfold fW_law_1237
  refine pj_tgd (fun h1 => ?_)
  refine pj_tbind (fun p2 h3 => ?_)
  refine pj_tbind (fun p4 h5 => ?_)
  refine pj_map (fun k => pj_aload_n hM (pc := 1237) dL_law_1237 rfl rfl (pj_aload_n hM (pc := 1238) dL_law_1238 rfl rfl (pj_iload_n hM (pc := 1239) dL_law_1239 rfl (pj_iconst hM (pc := 1240) dL_law_1240 (by decide) (pj_iadd hM (pc := 1241) dL_law_1241 (pj_sli hX (pc := 1242) dL_law_1242 h1 (pj_cV hM (pc := 1243) (cX_best (pj_sX g (pj_wr (x3 + 1))) w p2 h3) dL_law_1243 mf_X11_best mv_X11_best ml_L_153 kc_10 rfl rfl (by decide) rfl rfl (pj_aload_n hM (pc := 1246) dL_law_1246 rfl rfl (pj_aload_n hM (pc := 1247) dL_law_1247 rfl rfl (pj_iload_n hM (pc := 1248) dL_law_1248 rfl (pj_iconst hM (pc := 1249) dL_law_1249 (by decide) (pj_iadd hM (pc := 1250) dL_law_1250 (pj_sli hX (pc := 1251) dL_law_1251 h1 (pj_cV hM (pc := 1252) (cM_best (pj_sX g (pj_wr (x3 + 1))) p2.2 p4 h5) dL_law_1252 mf_X12_best mv_X12_best ml_L_156 kc_26 rfl rfl (by decide) rfl rfl k)))))))))))))) ?_
  refine pj_tif (fun h6 => ?_) (fun h6 => ?_)
  · refine pj_map (fun k => pj_ic_eq_t hM (pc := 1255) dL_law_1255 rfl h6 (pj_kill hM [true, true, true, true] (lls' := [(3, 0), (10, 0), (26, 0), (0, x3)]) rfl k)) ?_
    exact tW_law_2076 hX x3 p4.2 _ h0 hk18
  exact pj_tret (fun hr => pj_ic_eq_f hM (pc := 1255) 2076 dL_law_1255 rfl h6 (pj_iconst hM (pc := 1258) dL_law_1258 (by decide) (pj_ret hM (pc := 1259) dL_law_1259 ⟨_, rfl, Or.inl rfl⟩ (h0 ((0, p4.2)) hr) rfl)))
theorem tW_law_2007 {Go : pj_C → Prop} (hX : pj_LX l g true n0 o Go) (x3 : Int) (w : pj_W)  (R : (Int × pj_W) ⊕ (Int × pj_W) → Prop) (h0 : ∀ r, R (Sum.inr (r)) → ((some (0, r.1) : Option pj_V), r.2) = o) (hk18 : ∀ s, R (Sum.inl s) → Go (18, [(3, 0), (10, 0), (26, 0), (0, s.1)], [], s.2)) : pj_TG R (fW_law_2007 (pj_sX g) (pj_sN g) x3 w) (Go (2007, [(3, 0), (10, 0), (26, 0), (0, x3)], [], w)) := by
  have hM := hX.M
  unfold fW_law_2007
  refine pj_tgd (fun h1 => ?_)
  refine pj_tgd (fun h2 => ?_)
  refine pj_tgd (fun h3 => ?_)
  refine pj_tbind (fun p4 h5 => ?_)
  refine pj_tbind (fun p6 h7 => ?_)
  refine pj_map (fun k => pj_aload_n hM (pc := 2007) dL_law_2007 rfl rfl (pj_aload_n hM (pc := 2008) dL_law_2008 rfl rfl (pj_iload_n hM (pc := 2009) dL_law_2009 rfl (pj_iconst hM (pc := 2010) dL_law_2010 (by decide) (pj_iadd hM (pc := 2011) dL_law_2011 (pj_sli hX (pc := 2012) dL_law_2012 h1 (pj_aload_n hM (pc := 2013) dL_law_2013 rfl rfl (pj_iload_n hM (pc := 2014) dL_law_2014 rfl (pj_iconst hM (pc := 2015) dL_law_2015 (by decide) (pj_iadd hM (pc := 2016) dL_law_2016 (pj_sli hX (pc := 2017) dL_law_2017 h2 (pj_aload_n hM (pc := 2018) dL_law_2018 rfl rfl (pj_iload_n hM (pc := 2019) dL_law_2019 rfl (pj_iconst hM (pc := 2020) dL_law_2020 (by decide) (pj_iadd hM (pc := 2021) dL_law_2021 (pj_sli hX (pc := 2022) dL_law_2022 h3 (pj_cV hM (pc := 2023) (cX_mean (pj_sX g (pj_wr (x3 + 1))) (pj_sX g (pj_wr (x3 + 2))) (pj_sX g (pj_wr (x3 + 3))) w p4 h5) dL_law_2023 mf_X11_mean mv_X11_mean ml_L_273 kc_10 rfl rfl (by decide) rfl rfl (pj_aload_n hM (pc := 2026) dL_law_2026 rfl rfl (pj_aload_n hM (pc := 2027) dL_law_2027 rfl rfl (pj_iload_n hM (pc := 2028) dL_law_2028 rfl (pj_iconst hM (pc := 2029) dL_law_2029 (by decide) (pj_iadd hM (pc := 2030) dL_law_2030 (pj_sli hX (pc := 2031) dL_law_2031 h1 (pj_aload_n hM (pc := 2032) dL_law_2032 rfl rfl (pj_iload_n hM (pc := 2033) dL_law_2033 rfl (pj_iconst hM (pc := 2034) dL_law_2034 (by decide) (pj_iadd hM (pc := 2035) dL_law_2035 (pj_sli hX (pc := 2036) dL_law_2036 h2 (pj_aload_n hM (pc := 2037) dL_law_2037 rfl rfl (pj_iload_n hM (pc := 2038) dL_law_2038 rfl (pj_iconst hM (pc := 2039) dL_law_2039 (by decide) (pj_iadd hM (pc := 2040) dL_law_2040 (pj_sli hX (pc := 2041) dL_law_2041 h3 (pj_cV hM (pc := 2042) (cM_mean (pj_sX g (pj_wr (x3 + 1))) (pj_sX g (pj_wr (x3 + 2))) (pj_sX g (pj_wr (x3 + 3))) p4.2 p6 h7) dL_law_2042 mf_X12_mean mv_X12_mean ml_L_276 kc_26 rfl rfl (by decide) rfl rfl k)))))))))))))))))))))))))))))))))) ?_
  refine pj_tif (fun h8 => ?_) (fun h8 => ?_)
  · refine pj_map (fun k => pj_ic_eq_t hM (pc := 2045) dL_law_2045 rfl h8 (pj_kill hM [true, true, true, true] (lls' := [(3, 0), (10, 0), (26, 0), (0, x3)]) rfl k)) ?_
    exact tW_law_2076 hX x3 p6.2 _ h0 hk18
  exact pj_tret (fun hr => pj_ic_eq_f hM (pc := 2045) 2076 dL_law_2045 rfl h8 (pj_iconst hM (pc := 2048) dL_law_2048 (by decide) (pj_ret hM (pc := 2049) dL_law_2049 ⟨_, rfl, Or.inl rfl⟩ (h0 ((0, p6.2)) hr) rfl)))
theorem tW_law_991 {Go : pj_C → Prop} (hX : pj_LX l g true n0 o Go) (x3 : Int) (w : pj_W)  (R : (Int × pj_W) ⊕ (Int × pj_W) → Prop) (h0 : ∀ r, R (Sum.inr (r)) → ((some (0, r.1) : Option pj_V), r.2) = o) (hk18 : ∀ s, R (Sum.inl s) → Go (18, [(3, 0), (10, 0), (26, 0), (0, s.1)], [], s.2)) : pj_TG R (fW_law_991 (pj_sX g) (pj_sN g) x3 w) (Go (991, [(3, 0), (10, 0), (26, 0), (0, x3)], [], w)) := by
  have hM := hX.M
  unfold fW_law_991
  refine pj_tgd (fun h1 => ?_)
  refine pj_tbind (fun p2 h3 => ?_)
  refine pj_tbind (fun p4 h5 => ?_)
  refine pj_map (fun k => pj_aload_n hM (pc := 991) dL_law_991 rfl rfl (pj_aload_n hM (pc := 992) dL_law_992 rfl rfl (pj_iload_n hM (pc := 993) dL_law_993 rfl (pj_iconst hM (pc := 994) dL_law_994 (by decide) (pj_iadd hM (pc := 995) dL_law_995 (pj_sli hX (pc := 996) dL_law_996 h1 (pj_cV hM (pc := 997) (cX_wave (pj_sX g (pj_wr (x3 + 1))) w p2 h3) dL_law_997 mf_X11_wave mv_X11_wave ml_L_105 kc_10 rfl rfl (by decide) rfl rfl (pj_aload_n hM (pc := 1000) dL_law_1000 rfl rfl (pj_aload_n hM (pc := 1001) dL_law_1001 rfl rfl (pj_iload_n hM (pc := 1002) dL_law_1002 rfl (pj_iconst hM (pc := 1003) dL_law_1003 (by decide) (pj_iadd hM (pc := 1004) dL_law_1004 (pj_sli hX (pc := 1005) dL_law_1005 h1 (pj_cV hM (pc := 1006) (cM_wave (pj_sX g (pj_wr (x3 + 1))) p2.2 p4 h5) dL_law_1006 mf_X12_wave mv_X12_wave ml_L_108 kc_26 rfl rfl (by decide) rfl rfl k)))))))))))))) ?_
  refine pj_tif (fun h6 => ?_) (fun h6 => ?_)
  · refine pj_map (fun k => pj_ic_eq_t hM (pc := 1009) dL_law_1009 rfl h6 (pj_kill hM [true, true, true, true] (lls' := [(3, 0), (10, 0), (26, 0), (0, x3)]) rfl k)) ?_
    exact tW_law_2076 hX x3 p4.2 _ h0 hk18
  exact pj_tret (fun hr => pj_ic_eq_f hM (pc := 1009) 2076 dL_law_1009 rfl h6 (pj_iconst hM (pc := 1012) dL_law_1012 (by decide) (pj_ret hM (pc := 1013) dL_law_1013 ⟨_, rfl, Or.inl rfl⟩ (h0 ((0, p4.2)) hr) rfl)))
theorem tW_law_1504 {Go : pj_C → Prop} (hX : pj_LX l g true n0 o Go) (x3 : Int) (w : pj_W)  (R : (Int × pj_W) ⊕ (Int × pj_W) → Prop) (h0 : ∀ r, R (Sum.inr (r)) → ((some (0, r.1) : Option pj_V), r.2) = o) (hk18 : ∀ s, R (Sum.inl s) → Go (18, [(3, 0), (10, 0), (26, 0), (0, s.1)], [], s.2)) : pj_TG R (fW_law_1504 (pj_sX g) (pj_sN g) x3 w) (Go (1504, [(3, 0), (10, 0), (26, 0), (0, x3)], [], w)) := by
  have hM := hX.M
  unfold fW_law_1504
  refine pj_tgd (fun h1 => ?_)
  refine pj_tgd (fun h2 => ?_)
  refine pj_tbind (fun p3 h4 => ?_)
  refine pj_tbind (fun p5 h6 => ?_)
  refine pj_map (fun k => pj_aload_n hM (pc := 1504) dL_law_1504 rfl rfl (pj_aload_n hM (pc := 1505) dL_law_1505 rfl rfl (pj_iload_n hM (pc := 1506) dL_law_1506 rfl (pj_iconst hM (pc := 1507) dL_law_1507 (by decide) (pj_iadd hM (pc := 1508) dL_law_1508 (pj_sli hX (pc := 1509) dL_law_1509 h1 (pj_aload_n hM (pc := 1510) dL_law_1510 rfl rfl (pj_iload_n hM (pc := 1511) dL_law_1511 rfl (pj_iconst hM (pc := 1512) dL_law_1512 (by decide) (pj_iadd hM (pc := 1513) dL_law_1513 (pj_sli hX (pc := 1514) dL_law_1514 h2 (pj_cV hM (pc := 1515) (cX_gain (pj_sX g (pj_wr (x3 + 1))) (pj_sX g (pj_wr (x3 + 2))) w p3 h4) dL_law_1515 mf_X11_gain mv_X11_gain ml_L_189 kc_10 rfl rfl (by decide) rfl rfl (pj_aload_n hM (pc := 1518) dL_law_1518 rfl rfl (pj_aload_n hM (pc := 1519) dL_law_1519 rfl rfl (pj_iload_n hM (pc := 1520) dL_law_1520 rfl (pj_iconst hM (pc := 1521) dL_law_1521 (by decide) (pj_iadd hM (pc := 1522) dL_law_1522 (pj_sli hX (pc := 1523) dL_law_1523 h1 (pj_aload_n hM (pc := 1524) dL_law_1524 rfl rfl (pj_iload_n hM (pc := 1525) dL_law_1525 rfl (pj_iconst hM (pc := 1526) dL_law_1526 (by decide) (pj_iadd hM (pc := 1527) dL_law_1527 (pj_sli hX (pc := 1528) dL_law_1528 h2 (pj_cV hM (pc := 1529) (cM_gain (pj_sX g (pj_wr (x3 + 1))) (pj_sX g (pj_wr (x3 + 2))) p3.2 p5 h6) dL_law_1529 mf_X12_gain mv_X12_gain ml_L_192 kc_26 rfl rfl (by decide) rfl rfl k)))))))))))))))))))))))) ?_
  refine pj_tif (fun h7 => ?_) (fun h7 => ?_)
  · refine pj_map (fun k => pj_ic_eq_t hM (pc := 1532) dL_law_1532 rfl h7 (pj_kill hM [true, true, true, true] (lls' := [(3, 0), (10, 0), (26, 0), (0, x3)]) rfl k)) ?_
    exact tW_law_2076 hX x3 p5.2 _ h0 hk18
  exact pj_tret (fun hr => pj_ic_eq_f hM (pc := 1532) 2076 dL_law_1532 rfl h7 (pj_iconst hM (pc := 1535) dL_law_1535 (by decide) (pj_ret hM (pc := 1536) dL_law_1536 ⟨_, rfl, Or.inl rfl⟩ (h0 ((0, p5.2)) hr) rfl)))
theorem tW_law_1767 {Go : pj_C → Prop} (hX : pj_LX l g true n0 o Go) (x3 : Int) (w : pj_W)  (R : (Int × pj_W) ⊕ (Int × pj_W) → Prop) (h0 : ∀ r, R (Sum.inr (r)) → ((some (0, r.1) : Option pj_V), r.2) = o) (hk18 : ∀ s, R (Sum.inl s) → Go (18, [(3, 0), (10, 0), (26, 0), (0, s.1)], [], s.2)) : pj_TG R (fW_law_1767 (pj_sX g) (pj_sN g) x3 w) (Go (1767, [(3, 0), (10, 0), (26, 0), (0, x3)], [], w)) := by
  have hM := hX.M
  unfold fW_law_1767
  refine pj_tbind (fun p1 h2 => ?_)
  refine pj_tbind (fun p3 h4 => ?_)
  refine pj_map (fun k => pj_aload_n hM (pc := 1767) dL_law_1767 rfl rfl (pj_cV hM (pc := 1768) (cX_busiest w p1 h2) dL_law_1768 mf_X11_busiest mv_X11_busiest ml_L_233 kc_10 rfl rfl (by decide) rfl rfl (pj_aload_n hM (pc := 1771) dL_law_1771 rfl rfl (pj_cV hM (pc := 1772) (cM_busiest p1.2 p3 h4) dL_law_1772 mf_X12_busiest mv_X12_busiest ml_L_236 kc_26 rfl rfl (by decide) rfl rfl k)))) ?_
  refine pj_tif (fun h5 => ?_) (fun h5 => ?_)
  · refine pj_map (fun k => pj_ic_eq_t hM (pc := 1775) dL_law_1775 rfl h5 (pj_kill hM [true, true, true, true] (lls' := [(3, 0), (10, 0), (26, 0), (0, x3)]) rfl k)) ?_
    exact tW_law_2076 hX x3 p3.2 _ h0 hk18
  exact pj_tret (fun hr => pj_ic_eq_f hM (pc := 1775) 2076 dL_law_1775 rfl h5 (pj_iconst hM (pc := 1778) dL_law_1778 (by decide) (pj_ret hM (pc := 1779) dL_law_1779 ⟨_, rfl, Or.inl rfl⟩ (h0 ((0, p3.2)) hr) rfl)))
theorem tW_law_1260 {Go : pj_C → Prop} (hX : pj_LX l g true n0 o Go) (x3 : Int) (w : pj_W)  (R : (Int × pj_W) ⊕ (Int × pj_W) → Prop) (h0 : ∀ r, R (Sum.inr (r)) → ((some (0, r.1) : Option pj_V), r.2) = o) (hk18 : ∀ s, R (Sum.inl s) → Go (18, [(3, 0), (10, 0), (26, 0), (0, s.1)], [], s.2)) : pj_TG R (fW_law_1260 (pj_sX g) (pj_sN g) x3 w) (Go (1260, [(3, 0), (10, 0), (26, 0), (0, x3)], [], w)) := by
  have hM := hX.M
  unfold fW_law_1260
  refine pj_tgd (fun h1 => ?_)
  refine pj_tbind (fun p2 h3 => ?_)
  refine pj_tbind (fun p4 h5 => ?_)
  refine pj_map (fun k => pj_aload_n hM (pc := 1260) dL_law_1260 rfl rfl (pj_aload_n hM (pc := 1261) dL_law_1261 rfl rfl (pj_iload_n hM (pc := 1262) dL_law_1262 rfl (pj_iconst hM (pc := 1263) dL_law_1263 (by decide) (pj_iadd hM (pc := 1264) dL_law_1264 (pj_sli hX (pc := 1265) dL_law_1265 h1 (pj_cV hM (pc := 1266) (cX_bestAt (pj_sX g (pj_wr (x3 + 1))) w p2 h3) dL_law_1266 mf_X11_bestAt mv_X11_bestAt ml_L_157 kc_10 rfl rfl (by decide) rfl rfl (pj_aload_n hM (pc := 1269) dL_law_1269 rfl rfl (pj_aload_n hM (pc := 1270) dL_law_1270 rfl rfl (pj_iload_n hM (pc := 1271) dL_law_1271 rfl (pj_iconst hM (pc := 1272) dL_law_1272 (by decide) (pj_iadd hM (pc := 1273) dL_law_1273 (pj_sli hX (pc := 1274) dL_law_1274 h1 (pj_cV hM (pc := 1275) (cM_bestAt (pj_sX g (pj_wr (x3 + 1))) p2.2 p4 h5) dL_law_1275 mf_X12_bestAt mv_X12_bestAt ml_L_160 kc_26 rfl rfl (by decide) rfl rfl k)))))))))))))) ?_
  refine pj_tif (fun h6 => ?_) (fun h6 => ?_)
  · refine pj_map (fun k => pj_ic_eq_t hM (pc := 1278) dL_law_1278 rfl h6 (pj_kill hM [true, true, true, true] (lls' := [(3, 0), (10, 0), (26, 0), (0, x3)]) rfl k)) ?_
    exact tW_law_2076 hX x3 p4.2 _ h0 hk18
  exact pj_tret (fun hr => pj_ic_eq_f hM (pc := 1278) 2076 dL_law_1278 rfl h6 (pj_iconst hM (pc := 1281) dL_law_1281 (by decide) (pj_ret hM (pc := 1282) dL_law_1282 ⟨_, rfl, Or.inl rfl⟩ (h0 ((0, p4.2)) hr) rfl)))
theorem tW_law_750 {Go : pj_C → Prop} (hX : pj_LX l g true n0 o Go) (x3 : Int) (w : pj_W)  (R : (Int × pj_W) ⊕ (Int × pj_W) → Prop) (h0 : ∀ r, R (Sum.inr (r)) → ((some (0, r.1) : Option pj_V), r.2) = o) (hk18 : ∀ s, R (Sum.inl s) → Go (18, [(3, 0), (10, 0), (26, 0), (0, s.1)], [], s.2)) : pj_TG R (fW_law_750 (pj_sX g) (pj_sN g) x3 w) (Go (750, [(3, 0), (10, 0), (26, 0), (0, x3)], [], w)) := by
  have hM := hX.M
  unfold fW_law_750
  refine pj_tgd (fun h1 => ?_)
  refine pj_tgd (fun h2 => ?_)
  refine pj_tbind (fun p3 h4 => ?_)
  refine pj_tbind (fun p5 h6 => ?_)
  refine pj_map (fun k => pj_aload_n hM (pc := 750) dL_law_750 rfl rfl (pj_aload_n hM (pc := 751) dL_law_751 rfl rfl (pj_iload_n hM (pc := 752) dL_law_752 rfl (pj_iconst hM (pc := 753) dL_law_753 (by decide) (pj_iadd hM (pc := 754) dL_law_754 (pj_sli hX (pc := 755) dL_law_755 h1 (pj_aload_n hM (pc := 756) dL_law_756 rfl rfl (pj_iload_n hM (pc := 757) dL_law_757 rfl (pj_iconst hM (pc := 758) dL_law_758 (by decide) (pj_iadd hM (pc := 759) dL_law_759 (pj_sli hX (pc := 760) dL_law_760 h2 (pj_cV hM (pc := 761) (cX_find (pj_sX g (pj_wr (x3 + 1))) (pj_sX g (pj_wr (x3 + 2))) w p3 h4) dL_law_761 mf_X11_find mv_X11_find ml_L_76 kc_10 rfl rfl (by decide) rfl rfl (pj_aload_n hM (pc := 764) dL_law_764 rfl rfl (pj_aload_n hM (pc := 765) dL_law_765 rfl rfl (pj_iload_n hM (pc := 766) dL_law_766 rfl (pj_iconst hM (pc := 767) dL_law_767 (by decide) (pj_iadd hM (pc := 768) dL_law_768 (pj_sli hX (pc := 769) dL_law_769 h1 (pj_aload_n hM (pc := 770) dL_law_770 rfl rfl (pj_iload_n hM (pc := 771) dL_law_771 rfl (pj_iconst hM (pc := 772) dL_law_772 (by decide) (pj_iadd hM (pc := 773) dL_law_773 (pj_sli hX (pc := 774) dL_law_774 h2 (pj_cV hM (pc := 775) (cM_find (pj_sX g (pj_wr (x3 + 1))) (pj_sX g (pj_wr (x3 + 2))) p3.2 p5 h6) dL_law_775 mf_X12_find mv_X12_find ml_L_79 kc_26 rfl rfl (by decide) rfl rfl k)))))))))))))))))))))))) ?_
  refine pj_tif (fun h7 => ?_) (fun h7 => ?_)
  · refine pj_map (fun k => pj_ic_eq_t hM (pc := 778) dL_law_778 rfl h7 (pj_kill hM [true, true, true, true] (lls' := [(3, 0), (10, 0), (26, 0), (0, x3)]) rfl k)) ?_
    exact tW_law_2076 hX x3 p5.2 _ h0 hk18
  exact pj_tret (fun hr => pj_ic_eq_f hM (pc := 778) 2076 dL_law_778 rfl h7 (pj_iconst hM (pc := 781) dL_law_781 (by decide) (pj_ret hM (pc := 782) dL_law_782 ⟨_, rfl, Or.inl rfl⟩ (h0 ((0, p5.2)) hr) rfl)))
theorem tW_law_499 {Go : pj_C → Prop} (hX : pj_LX l g true n0 o Go) (x3 : Int) (w : pj_W)  (R : (Int × pj_W) ⊕ (Int × pj_W) → Prop) (h0 : ∀ r, R (Sum.inr (r)) → ((some (0, r.1) : Option pj_V), r.2) = o) (hk18 : ∀ s, R (Sum.inl s) → Go (18, [(3, 0), (10, 0), (26, 0), (0, s.1)], [], s.2)) : pj_TG R (fW_law_499 (pj_sX g) (pj_sN g) x3 w) (Go (499, [(3, 0), (10, 0), (26, 0), (0, x3)], [], w)) := by
  have hM := hX.M
  unfold fW_law_499
  refine pj_tgd (fun h1 => ?_)
  refine pj_tgd (fun h2 => ?_)
  refine pj_tgd (fun h3 => ?_)
  refine pj_tgd (fun h4 => ?_)
  refine pj_tgd (fun h5 => ?_)
  refine pj_tbind (fun p6 h7 => ?_)
  refine pj_tbind (fun p8 h9 => ?_)
  refine pj_map (fun k => pj_aload_n hM (pc := 499) dL_law_499 rfl rfl (pj_aload_n hM (pc := 500) dL_law_500 rfl rfl (pj_iload_n hM (pc := 501) dL_law_501 rfl (pj_iconst hM (pc := 502) dL_law_502 (by decide) (pj_iadd hM (pc := 503) dL_law_503 (pj_sli hX (pc := 504) dL_law_504 h1 (pj_aload_n hM (pc := 505) dL_law_505 rfl rfl (pj_iload_n hM (pc := 506) dL_law_506 rfl (pj_iconst hM (pc := 507) dL_law_507 (by decide) (pj_iadd hM (pc := 508) dL_law_508 (pj_sli hX (pc := 509) dL_law_509 h2 (pj_aload_n hM (pc := 510) dL_law_510 rfl rfl (pj_iload_n hM (pc := 511) dL_law_511 rfl (pj_iconst hM (pc := 512) dL_law_512 (by decide) (pj_iadd hM (pc := 513) dL_law_513 (pj_sli hX (pc := 514) dL_law_514 h3 (pj_aload_n hM (pc := 515) dL_law_515 rfl rfl (pj_iload_n hM (pc := 516) dL_law_516 rfl (pj_iconst hM (pc := 517) dL_law_517 (by decide) (pj_iadd hM (pc := 518) dL_law_518 (pj_sli hX (pc := 519) dL_law_519 h4 (pj_aload_n hM (pc := 520) dL_law_520 rfl rfl (pj_iload_n hM (pc := 521) dL_law_521 rfl (pj_iconst hM (pc := 522) dL_law_522 (by decide) (pj_iadd hM (pc := 523) dL_law_523 (pj_sli hX (pc := 524) dL_law_524 h5 (pj_cV hM (pc := 525) (cX_pour (pj_sX g (pj_wr (x3 + 1))) (pj_sX g (pj_wr (x3 + 2))) (pj_sX g (pj_wr (x3 + 3))) (pj_sX g (pj_wr (x3 + 4))) (pj_sX g (pj_wr (x3 + 5))) w p6 h7) dL_law_525 mf_X11_pour mv_X11_pour ml_L_44 kc_10 rfl rfl (by decide) rfl rfl (pj_aload_n hM (pc := 528) dL_law_528 rfl rfl (pj_aload_n hM (pc := 529) dL_law_529 rfl rfl (pj_iload_n hM (pc := 530) dL_law_530 rfl (pj_iconst hM (pc := 531) dL_law_531 (by decide) (pj_iadd hM (pc := 532) dL_law_532 (pj_sli hX (pc := 533) dL_law_533 h1 (pj_aload_n hM (pc := 534) dL_law_534 rfl rfl (pj_iload_n hM (pc := 535) dL_law_535 rfl (pj_iconst hM (pc := 536) dL_law_536 (by decide) (pj_iadd hM (pc := 537) dL_law_537 (pj_sli hX (pc := 538) dL_law_538 h2 (pj_aload_n hM (pc := 539) dL_law_539 rfl rfl (pj_iload_n hM (pc := 540) dL_law_540 rfl (pj_iconst hM (pc := 541) dL_law_541 (by decide) (pj_iadd hM (pc := 542) dL_law_542 (pj_sli hX (pc := 543) dL_law_543 h3 (pj_aload_n hM (pc := 544) dL_law_544 rfl rfl (pj_iload_n hM (pc := 545) dL_law_545 rfl (pj_iconst hM (pc := 546) dL_law_546 (by decide) (pj_iadd hM (pc := 547) dL_law_547 (pj_sli hX (pc := 548) dL_law_548 h4 (pj_aload_n hM (pc := 549) dL_law_549 rfl rfl (pj_iload_n hM (pc := 550) dL_law_550 rfl (pj_iconst hM (pc := 551) dL_law_551 (by decide) (pj_iadd hM (pc := 552) dL_law_552 (pj_sli hX (pc := 553) dL_law_553 h5 (pj_cV hM (pc := 554) (cM_pour (pj_sX g (pj_wr (x3 + 1))) (pj_sX g (pj_wr (x3 + 2))) (pj_sX g (pj_wr (x3 + 3))) (pj_sX g (pj_wr (x3 + 4))) (pj_sX g (pj_wr (x3 + 5))) p6.2 p8 h9) dL_law_554 mf_X12_pour mv_X12_pour ml_L_48 kc_26 rfl rfl (by decide) rfl rfl k)))))))))))))))))))))))))))))))))))))))))))))))))))))) ?_
  refine pj_tif (fun h10 => ?_) (fun h10 => ?_)
  · refine pj_map (fun k => pj_ic_eq_t hM (pc := 557) dL_law_557 rfl h10 (pj_kill hM [true, true, true, true] (lls' := [(3, 0), (10, 0), (26, 0), (0, x3)]) rfl k)) ?_
    exact tW_law_2076 hX x3 p8.2 _ h0 hk18
  exact pj_tret (fun hr => pj_ic_eq_f hM (pc := 557) 2076 dL_law_557 rfl h10 (pj_iconst hM (pc := 560) dL_law_560 (by decide) (pj_ret hM (pc := 561) dL_law_561 ⟨_, rfl, Or.inl rfl⟩ (h0 ((0, p8.2)) hr) rfl)))
theorem tW_law_1780 {Go : pj_C → Prop} (hX : pj_LX l g true n0 o Go) (x3 : Int) (w : pj_W)  (R : (Int × pj_W) ⊕ (Int × pj_W) → Prop) (h0 : ∀ r, R (Sum.inr (r)) → ((some (0, r.1) : Option pj_V), r.2) = o) (hk18 : ∀ s, R (Sum.inl s) → Go (18, [(3, 0), (10, 0), (26, 0), (0, s.1)], [], s.2)) : pj_TG R (fW_law_1780 (pj_sX g) (pj_sN g) x3 w) (Go (1780, [(3, 0), (10, 0), (26, 0), (0, x3)], [], w)) := by
  have hM := hX.M
  unfold fW_law_1780
  refine pj_tgd (fun h1 => ?_)
  refine pj_tgd (fun h2 => ?_)
  refine pj_tgd (fun h3 => ?_)
  refine pj_tbind (fun p4 h5 => ?_)
  refine pj_tbind (fun p6 h7 => ?_)
  refine pj_map (fun k => pj_aload_n hM (pc := 1780) dL_law_1780 rfl rfl (pj_aload_n hM (pc := 1781) dL_law_1781 rfl rfl (pj_iload_n hM (pc := 1782) dL_law_1782 rfl (pj_iconst hM (pc := 1783) dL_law_1783 (by decide) (pj_iadd hM (pc := 1784) dL_law_1784 (pj_sli hX (pc := 1785) dL_law_1785 h1 (pj_aload_n hM (pc := 1786) dL_law_1786 rfl rfl (pj_iload_n hM (pc := 1787) dL_law_1787 rfl (pj_iconst hM (pc := 1788) dL_law_1788 (by decide) (pj_iadd hM (pc := 1789) dL_law_1789 (pj_sli hX (pc := 1790) dL_law_1790 h2 (pj_aload_n hM (pc := 1791) dL_law_1791 rfl rfl (pj_iload_n hM (pc := 1792) dL_law_1792 rfl (pj_iconst hM (pc := 1793) dL_law_1793 (by decide) (pj_iadd hM (pc := 1794) dL_law_1794 (pj_sli hX (pc := 1795) dL_law_1795 h3 (pj_cV hM (pc := 1796) (cX_both (pj_sX g (pj_wr (x3 + 1))) (pj_sX g (pj_wr (x3 + 2))) (pj_sX g (pj_wr (x3 + 3))) w p4 h5) dL_law_1796 mf_X11_both mv_X11_both ml_L_237 kc_10 rfl rfl (by decide) rfl rfl (pj_aload_n hM (pc := 1799) dL_law_1799 rfl rfl (pj_aload_n hM (pc := 1800) dL_law_1800 rfl rfl (pj_iload_n hM (pc := 1801) dL_law_1801 rfl (pj_iconst hM (pc := 1802) dL_law_1802 (by decide) (pj_iadd hM (pc := 1803) dL_law_1803 (pj_sli hX (pc := 1804) dL_law_1804 h1 (pj_aload_n hM (pc := 1805) dL_law_1805 rfl rfl (pj_iload_n hM (pc := 1806) dL_law_1806 rfl (pj_iconst hM (pc := 1807) dL_law_1807 (by decide) (pj_iadd hM (pc := 1808) dL_law_1808 (pj_sli hX (pc := 1809) dL_law_1809 h2 (pj_aload_n hM (pc := 1810) dL_law_1810 rfl rfl (pj_iload_n hM (pc := 1811) dL_law_1811 rfl (pj_iconst hM (pc := 1812) dL_law_1812 (by decide) (pj_iadd hM (pc := 1813) dL_law_1813 (pj_sli hX (pc := 1814) dL_law_1814 h3 (pj_cV hM (pc := 1815) (cM_both (pj_sX g (pj_wr (x3 + 1))) (pj_sX g (pj_wr (x3 + 2))) (pj_sX g (pj_wr (x3 + 3))) p4.2 p6 h7) dL_law_1815 mf_X12_both mv_X12_both ml_L_240 kc_26 rfl rfl (by decide) rfl rfl k)))))))))))))))))))))))))))))))))) ?_
  refine pj_tif (fun h8 => ?_) (fun h8 => ?_)
  · refine pj_map (fun k => pj_ic_eq_t hM (pc := 1818) dL_law_1818 rfl h8 (pj_kill hM [true, true, true, true] (lls' := [(3, 0), (10, 0), (26, 0), (0, x3)]) rfl k)) ?_
    exact tW_law_2076 hX x3 p6.2 _ h0 hk18
  exact pj_tret (fun hr => pj_ic_eq_f hM (pc := 1818) 2076 dL_law_1818 rfl h8 (pj_iconst hM (pc := 1821) dL_law_1821 (by decide) (pj_ret hM (pc := 1822) dL_law_1822 ⟨_, rfl, Or.inl rfl⟩ (h0 ((0, p6.2)) hr) rfl)))
theorem tW_law_1014 {Go : pj_C → Prop} (hX : pj_LX l g true n0 o Go) (x3 : Int) (w : pj_W)  (R : (Int × pj_W) ⊕ (Int × pj_W) → Prop) (h0 : ∀ r, R (Sum.inr (r)) → ((some (0, r.1) : Option pj_V), r.2) = o) (hk18 : ∀ s, R (Sum.inl s) → Go (18, [(3, 0), (10, 0), (26, 0), (0, s.1)], [], s.2)) : pj_TG R (fW_law_1014 (pj_sX g) (pj_sN g) x3 w) (Go (1014, [(3, 0), (10, 0), (26, 0), (0, x3)], [], w)) := by
  have hM := hX.M
  unfold fW_law_1014
  refine pj_tbind (fun p1 h2 => ?_)
  refine pj_tbind (fun p3 h4 => ?_)
  refine pj_map (fun k => pj_aload_n hM (pc := 1014) dL_law_1014 rfl rfl (pj_cV hM (pc := 1015) (cX_tide w p1 h2) dL_law_1015 mf_X11_tide mv_X11_tide ml_L_109 kc_10 rfl rfl (by decide) rfl rfl (pj_aload_n hM (pc := 1018) dL_law_1018 rfl rfl (pj_cV hM (pc := 1019) (cM_tide p1.2 p3 h4) dL_law_1019 mf_X12_tide mv_X12_tide ml_L_112 kc_26 rfl rfl (by decide) rfl rfl k)))) ?_
  refine pj_tif (fun h5 => ?_) (fun h5 => ?_)
  · refine pj_map (fun k => pj_ic_eq_t hM (pc := 1022) dL_law_1022 rfl h5 (pj_kill hM [true, true, true, true] (lls' := [(3, 0), (10, 0), (26, 0), (0, x3)]) rfl k)) ?_
    exact tW_law_2076 hX x3 p3.2 _ h0 hk18
  exact pj_tret (fun hr => pj_ic_eq_f hM (pc := 1022) 2076 dL_law_1022 rfl h5 (pj_iconst hM (pc := 1025) dL_law_1025 (by decide) (pj_ret hM (pc := 1026) dL_law_1026 ⟨_, rfl, Or.inl rfl⟩ (h0 ((0, p3.2)) hr) rfl)))
theorem tW_law_18b {Go : pj_C → Prop} (hX : pj_LX l g true n0 o Go)  (x3 : Int) (w : pj_W)  (R : (Int × pj_W) ⊕ (Int × pj_W) → Prop) (h0 : ∀ r, R (Sum.inr (r)) → ((some (0, r.1) : Option pj_V), r.2) = o) (hk18 : ∀ s, R (Sum.inl s) → Go (18, [(3, 0), (10, 0), (26, 0), (0, s.1)], [], s.2)) : pj_TG R (fW_law_18b (pj_sX g) (pj_sN g)  x3 w) (Go (18, [(3, 0), (10, 0), (26, 0), (0, x3)], [], w)) := by
  have hM := hX.M
  unfold fW_law_18b
  refine pj_map (fun k => pj_iload_n hM (pc := 18) dL_law_18 rfl (pj_aload_n hM (pc := 19) dL_law_19 rfl rfl (pj_slw hX (pc := 20) dL_law_20 (pj_bipush hM (pc := 21) dL_law_21 (by decide) (pj_isub hM (pc := 23) dL_law_23 k))))) ?_
  refine pj_tif (fun h1 => ?_) (fun h1 => ?_)
  · exact pj_tret (fun hr => pj_ic_gt_t hM (pc := 24) dL_law_24 rfl h1 (pj_iconst hM (pc := 2082) dL_law_2082 (by decide) (pj_ret hM (pc := 2083) dL_law_2083 ⟨_, rfl, Or.inr rfl⟩ (h0 ((1, w)) hr) rfl)))
  refine pj_tgd (fun h2 => ?_)
  refine pj_map (fun k => pj_ic_gt_f hM (pc := 24) 2082 dL_law_24 rfl h1 (pj_aload_n hM (pc := 27) dL_law_27 rfl rfl (pj_iload_n hM (pc := 28) dL_law_28 rfl (pj_sli hX (pc := 29) dL_law_29 h2 (pj_bipush hM (pc := 30) dL_law_30 (by decide) (pj_iand hM (pc := 32) dL_law_32 k)))))) ?_
  refine pj_tif (fun h3 => ?_) (fun h3 => ?_)
  · refine pj_map (fun k => pj_table hM (pc := 33) (tgt := 308) dL_law_33 (by decide) (by rw [h3]; decide) (pj_kill hM [true, true, true, true] (lls' := [(3, 0), (10, 0), (26, 0), (0, x3)]) rfl k)) ?_
    exact tW_law_308 hX x3 w _ h0 hk18
  refine pj_tif (fun h4 => ?_) (fun h4 => ?_)
  · refine pj_map (fun k => pj_table hM (pc := 33) (tgt := 321) dL_law_33 (by decide) (by rw [h4]; decide) (pj_kill hM [true, true, true, true] (lls' := [(3, 0), (10, 0), (26, 0), (0, x3)]) rfl k)) ?_
    exact tW_law_321 hX x3 w _ h0 hk18
  refine pj_tif (fun h5 => ?_) (fun h5 => ?_)
  · refine pj_map (fun k => pj_table hM (pc := 33) (tgt := 335) dL_law_33 (by decide) (by rw [h5]; decide) (pj_kill hM [true, true, true, true] (lls' := [(3, 0), (10, 0), (26, 0), (0, x3)]) rfl k)) ?_
    exact tW_law_335 hX x3 w _ h0 hk18
  refine pj_tif (fun h6 => ?_) (fun h6 => ?_)
  · refine pj_map (fun k => pj_table hM (pc := 33) (tgt := 349) dL_law_33 (by decide) (by rw [h6]; decide) (pj_kill hM [true, true, true, true] (lls' := [(3, 0), (10, 0), (26, 0), (0, x3)]) rfl k)) ?_
    exact tW_law_349 hX x3 w _ h0 hk18
  refine pj_tif (fun h7 => ?_) (fun h7 => ?_)
  · refine pj_map (fun k => pj_table hM (pc := 33) (tgt := 392) dL_law_33 (by decide) (by rw [h7]; decide) (pj_kill hM [true, true, true, true] (lls' := [(3, 0), (10, 0), (26, 0), (0, x3)]) rfl k)) ?_
    exact tW_law_392 hX x3 w _ h0 hk18
  refine pj_tif (fun h8 => ?_) (fun h8 => ?_)
  · refine pj_map (fun k => pj_table hM (pc := 33) (tgt := 465) dL_law_33 (by decide) (by rw [h8]; decide) (pj_kill hM [true, true, true, true] (lls' := [(3, 0), (10, 0), (26, 0), (0, x3)]) rfl k)) ?_
    exact tW_law_465 hX x3 w _ h0 hk18
  refine pj_tif (fun h9 => ?_) (fun h9 => ?_)
  · refine pj_map (fun k => pj_table hM (pc := 33) (tgt := 499) dL_law_33 (by decide) (by rw [h9]; decide) (pj_kill hM [true, true, true, true] (lls' := [(3, 0), (10, 0), (26, 0), (0, x3)]) rfl k)) ?_
    exact tW_law_499 hX x3 w _ h0 hk18
  refine pj_tif (fun h10 => ?_) (fun h10 => ?_)
  · refine pj_map (fun k => pj_table hM (pc := 33) (tgt := 562) dL_law_33 (by decide) (by rw [h10]; decide) (pj_kill hM [true, true, true, true] (lls' := [(3, 0), (10, 0), (26, 0), (0, x3)]) rfl k)) ?_
    exact tW_law_562 hX x3 w _ h0 hk18
  refine pj_tif (fun h11 => ?_) (fun h11 => ?_)
  · refine pj_map (fun k => pj_table hM (pc := 33) (tgt := 625) dL_law_33 (by decide) (by rw [h11]; decide) (pj_kill hM [true, true, true, true] (lls' := [(3, 0), (10, 0), (26, 0), (0, x3)]) rfl k)) ?_
    exact tW_law_625 hX x3 w _ h0 hk18
  refine pj_tif (fun h12 => ?_) (fun h12 => ?_)
  · refine pj_map (fun k => pj_table hM (pc := 33) (tgt := 648) dL_law_33 (by decide) (by rw [h12]; decide) (pj_kill hM [true, true, true, true] (lls' := [(3, 0), (10, 0), (26, 0), (0, x3)]) rfl k)) ?_
    exact tW_law_648 hX x3 w _ h0 hk18
  refine pj_tif (fun h13 => ?_) (fun h13 => ?_)
  · refine pj_map (fun k => pj_table hM (pc := 33) (tgt := 671) dL_law_33 (by decide) (by rw [h13]; decide) (pj_kill hM [true, true, true, true] (lls' := [(3, 0), (10, 0), (26, 0), (0, x3)]) rfl k)) ?_
    exact tW_law_671 hX x3 w _ h0 hk18
  refine pj_tif (fun h14 => ?_) (fun h14 => ?_)
  · refine pj_map (fun k => pj_table hM (pc := 33) (tgt := 694) dL_law_33 (by decide) (by rw [h14]; decide) (pj_kill hM [true, true, true, true] (lls' := [(3, 0), (10, 0), (26, 0), (0, x3)]) rfl k)) ?_
    exact tW_law_694 hX x3 w _ h0 hk18
  refine pj_tif (fun h15 => ?_) (fun h15 => ?_)
  · refine pj_map (fun k => pj_table hM (pc := 33) (tgt := 717) dL_law_33 (by decide) (by rw [h15]; decide) (pj_kill hM [true, true, true, true] (lls' := [(3, 0), (10, 0), (26, 0), (0, x3)]) rfl k)) ?_
    exact tW_law_717 hX x3 w _ h0 hk18
  refine pj_tif (fun h16 => ?_) (fun h16 => ?_)
  · refine pj_map (fun k => pj_table hM (pc := 33) (tgt := 750) dL_law_33 (by decide) (by rw [h16]; decide) (pj_kill hM [true, true, true, true] (lls' := [(3, 0), (10, 0), (26, 0), (0, x3)]) rfl k)) ?_
    exact tW_law_750 hX x3 w _ h0 hk18
  refine pj_tif (fun h17 => ?_) (fun h17 => ?_)
  · refine pj_map (fun k => pj_table hM (pc := 33) (tgt := 783) dL_law_33 (by decide) (by rw [h17]; decide) (pj_kill hM [true, true, true, true] (lls' := [(3, 0), (10, 0), (26, 0), (0, x3)]) rfl k)) ?_
    exact tW_law_783 hX x3 w _ h0 hk18
  refine pj_tif (fun h18 => ?_) (fun h18 => ?_)
  · refine pj_map (fun k => pj_table hM (pc := 33) (tgt := 826) dL_law_33 (by decide) (by rw [h18]; decide) (pj_kill hM [true, true, true, true] (lls' := [(3, 0), (10, 0), (26, 0), (0, x3)]) rfl k)) ?_
    exact tW_law_826 hX x3 w _ h0 hk18
  refine pj_tif (fun h19 => ?_) (fun h19 => ?_)
  · refine pj_map (fun k => pj_table hM (pc := 33) (tgt := 859) dL_law_33 (by decide) (by rw [h19]; decide) (pj_kill hM [true, true, true, true] (lls' := [(3, 0), (10, 0), (26, 0), (0, x3)]) rfl k)) ?_
    exact tW_law_859 hX x3 w _ h0 hk18
  refine pj_tif (fun h20 => ?_) (fun h20 => ?_)
  · refine pj_map (fun k => pj_table hM (pc := 33) (tgt := 892) dL_law_33 (by decide) (by rw [h20]; decide) (pj_kill hM [true, true, true, true] (lls' := [(3, 0), (10, 0), (26, 0), (0, x3)]) rfl k)) ?_
    exact tW_law_892 hX x3 w _ h0 hk18
  refine pj_tif (fun h21 => ?_) (fun h21 => ?_)
  · refine pj_map (fun k => pj_table hM (pc := 33) (tgt := 925) dL_law_33 (by decide) (by rw [h21]; decide) (pj_kill hM [true, true, true, true] (lls' := [(3, 0), (10, 0), (26, 0), (0, x3)]) rfl k)) ?_
    exact tW_law_925 hX x3 w _ h0 hk18
  refine pj_tif (fun h22 => ?_) (fun h22 => ?_)
  · refine pj_map (fun k => pj_table hM (pc := 33) (tgt := 958) dL_law_33 (by decide) (by rw [h22]; decide) (pj_kill hM [true, true, true, true] (lls' := [(3, 0), (10, 0), (26, 0), (0, x3)]) rfl k)) ?_
    exact tW_law_958 hX x3 w _ h0 hk18
  refine pj_tif (fun h23 => ?_) (fun h23 => ?_)
  · refine pj_map (fun k => pj_table hM (pc := 33) (tgt := 991) dL_law_33 (by decide) (by rw [h23]; decide) (pj_kill hM [true, true, true, true] (lls' := [(3, 0), (10, 0), (26, 0), (0, x3)]) rfl k)) ?_
    exact tW_law_991 hX x3 w _ h0 hk18
  refine pj_tif (fun h24 => ?_) (fun h24 => ?_)
  · refine pj_map (fun k => pj_table hM (pc := 33) (tgt := 1014) dL_law_33 (by decide) (by rw [h24]; decide) (pj_kill hM [true, true, true, true] (lls' := [(3, 0), (10, 0), (26, 0), (0, x3)]) rfl k)) ?_
    exact tW_law_1014 hX x3 w _ h0 hk18
  refine pj_tif (fun h25 => ?_) (fun h25 => ?_)
  · refine pj_map (fun k => pj_table hM (pc := 33) (tgt := 1027) dL_law_33 (by decide) (by rw [h25]; decide) (pj_kill hM [true, true, true, true] (lls' := [(3, 0), (10, 0), (26, 0), (0, x3)]) rfl k)) ?_
    exact tW_law_1027 hX x3 w _ h0 hk18
  refine pj_tif (fun h26 => ?_) (fun h26 => ?_)
  · refine pj_map (fun k => pj_table hM (pc := 33) (tgt := 1040) dL_law_33 (by decide) (by rw [h26]; decide) (pj_kill hM [true, true, true, true] (lls' := [(3, 0), (10, 0), (26, 0), (0, x3)]) rfl k)) ?_
    exact tW_law_1040 hX x3 w _ h0 hk18
  refine pj_tif (fun h27 => ?_) (fun h27 => ?_)
  · refine pj_map (fun k => pj_table hM (pc := 33) (tgt := 1063) dL_law_33 (by decide) (by rw [h27]; decide) (pj_kill hM [true, true, true, true] (lls' := [(3, 0), (10, 0), (26, 0), (0, x3)]) rfl k)) ?_
    exact tW_law_1063 hX x3 w _ h0 hk18
  refine pj_tif (fun h28 => ?_) (fun h28 => ?_)
  · refine pj_map (fun k => pj_table hM (pc := 33) (tgt := 1086) dL_law_33 (by decide) (by rw [h28]; decide) (pj_kill hM [true, true, true, true] (lls' := [(3, 0), (10, 0), (26, 0), (0, x3)]) rfl k)) ?_
    exact tW_law_1086 hX x3 w _ h0 hk18
  refine pj_tif (fun h29 => ?_) (fun h29 => ?_)
  · refine pj_map (fun k => pj_table hM (pc := 33) (tgt := 1109) dL_law_33 (by decide) (by rw [h29]; decide) (pj_kill hM [true, true, true, true] (lls' := [(3, 0), (10, 0), (26, 0), (0, x3)]) rfl k)) ?_
    exact tW_law_1109 hX x3 w _ h0 hk18
  refine pj_tif (fun h30 => ?_) (fun h30 => ?_)
  · refine pj_map (fun k => pj_table hM (pc := 33) (tgt := 1122) dL_law_33 (by decide) (by rw [h30]; decide) (pj_kill hM [true, true, true, true] (lls' := [(3, 0), (10, 0), (26, 0), (0, x3)]) rfl k)) ?_
    exact tW_law_1122 hX x3 w _ h0 hk18
  refine pj_tif (fun h31 => ?_) (fun h31 => ?_)
  · refine pj_map (fun k => pj_table hM (pc := 33) (tgt := 1135) dL_law_33 (by decide) (by rw [h31]; decide) (pj_kill hM [true, true, true, true] (lls' := [(3, 0), (10, 0), (26, 0), (0, x3)]) rfl k)) ?_
    exact tW_law_1135 hX x3 w _ h0 hk18
  refine pj_tif (fun h32 => ?_) (fun h32 => ?_)
  · refine pj_map (fun k => pj_table hM (pc := 33) (tgt := 1158) dL_law_33 (by decide) (by rw [h32]; decide) (pj_kill hM [true, true, true, true] (lls' := [(3, 0), (10, 0), (26, 0), (0, x3)]) rfl k)) ?_
    exact tW_law_1158 hX x3 w _ h0 hk18
  refine pj_tif (fun h33 => ?_) (fun h33 => ?_)
  · refine pj_map (fun k => pj_table hM (pc := 33) (tgt := 1181) dL_law_33 (by decide) (by rw [h33]; decide) (pj_kill hM [true, true, true, true] (lls' := [(3, 0), (10, 0), (26, 0), (0, x3)]) rfl k)) ?_
    exact tW_law_1181 hX x3 w _ h0 hk18
  refine pj_tif (fun h34 => ?_) (fun h34 => ?_)
  · refine pj_map (fun k => pj_table hM (pc := 33) (tgt := 1214) dL_law_33 (by decide) (by rw [h34]; decide) (pj_kill hM [true, true, true, true] (lls' := [(3, 0), (10, 0), (26, 0), (0, x3)]) rfl k)) ?_
    exact tW_law_1214 hX x3 w _ h0 hk18
  refine pj_tif (fun h35 => ?_) (fun h35 => ?_)
  · refine pj_map (fun k => pj_table hM (pc := 33) (tgt := 1237) dL_law_33 (by decide) (by rw [h35]; decide) (pj_kill hM [true, true, true, true] (lls' := [(3, 0), (10, 0), (26, 0), (0, x3)]) rfl k)) ?_
    exact tW_law_1237 hX x3 w _ h0 hk18
  refine pj_tif (fun h36 => ?_) (fun h36 => ?_)
  · refine pj_map (fun k => pj_table hM (pc := 33) (tgt := 1260) dL_law_33 (by decide) (by rw [h36]; decide) (pj_kill hM [true, true, true, true] (lls' := [(3, 0), (10, 0), (26, 0), (0, x3)]) rfl k)) ?_
    exact tW_law_1260 hX x3 w _ h0 hk18
  refine pj_tif (fun h37 => ?_) (fun h37 => ?_)
  · refine pj_map (fun k => pj_table hM (pc := 33) (tgt := 1283) dL_law_33 (by decide) (by rw [h37]; decide) (pj_kill hM [true, true, true, true] (lls' := [(3, 0), (10, 0), (26, 0), (0, x3)]) rfl k)) ?_
    exact tW_law_1283 hX x3 w _ h0 hk18
  refine pj_tif (fun h38 => ?_) (fun h38 => ?_)
  · refine pj_map (fun k => pj_table hM (pc := 33) (tgt := 1316) dL_law_33 (by decide) (by rw [h38]; decide) (pj_kill hM [true, true, true, true] (lls' := [(3, 0), (10, 0), (26, 0), (0, x3)]) rfl k)) ?_
    exact tW_law_1316 hX x3 w _ h0 hk18
  refine pj_tif (fun h39 => ?_) (fun h39 => ?_)
  · refine pj_map (fun k => pj_table hM (pc := 33) (tgt := 1349) dL_law_33 (by decide) (by rw [h39]; decide) (pj_kill hM [true, true, true, true] (lls' := [(3, 0), (10, 0), (26, 0), (0, x3)]) rfl k)) ?_
    exact tW_law_1349 hX x3 w _ h0 hk18
  refine pj_tif (fun h40 => ?_) (fun h40 => ?_)
  · refine pj_map (fun k => pj_table hM (pc := 33) (tgt := 1372) dL_law_33 (by decide) (by rw [h40]; decide) (pj_kill hM [true, true, true, true] (lls' := [(3, 0), (10, 0), (26, 0), (0, x3)]) rfl k)) ?_
    exact tW_law_1372 hX x3 w _ h0 hk18
  refine pj_tif (fun h41 => ?_) (fun h41 => ?_)
  · refine pj_map (fun k => pj_table hM (pc := 33) (tgt := 1405) dL_law_33 (by decide) (by rw [h41]; decide) (pj_kill hM [true, true, true, true] (lls' := [(3, 0), (10, 0), (26, 0), (0, x3)]) rfl k)) ?_
    exact tW_law_1405 hX x3 w _ h0 hk18
  refine pj_tif (fun h42 => ?_) (fun h42 => ?_)
  · refine pj_map (fun k => pj_table hM (pc := 33) (tgt := 1448) dL_law_33 (by decide) (by rw [h42]; decide) (pj_kill hM [true, true, true, true] (lls' := [(3, 0), (10, 0), (26, 0), (0, x3)]) rfl k)) ?_
    exact tW_law_1448 hX x3 w _ h0 hk18
  refine pj_tif (fun h43 => ?_) (fun h43 => ?_)
  · refine pj_map (fun k => pj_table hM (pc := 33) (tgt := 1471) dL_law_33 (by decide) (by rw [h43]; decide) (pj_kill hM [true, true, true, true] (lls' := [(3, 0), (10, 0), (26, 0), (0, x3)]) rfl k)) ?_
    exact tW_law_1471 hX x3 w _ h0 hk18
  refine pj_tif (fun h44 => ?_) (fun h44 => ?_)
  · refine pj_map (fun k => pj_table hM (pc := 33) (tgt := 1504) dL_law_33 (by decide) (by rw [h44]; decide) (pj_kill hM [true, true, true, true] (lls' := [(3, 0), (10, 0), (26, 0), (0, x3)]) rfl k)) ?_
    exact tW_law_1504 hX x3 w _ h0 hk18
  refine pj_tif (fun h45 => ?_) (fun h45 => ?_)
  · refine pj_map (fun k => pj_table hM (pc := 33) (tgt := 1537) dL_law_33 (by decide) (by rw [h45]; decide) (pj_kill hM [true, true, true, true] (lls' := [(3, 0), (10, 0), (26, 0), (0, x3)]) rfl k)) ?_
    exact tW_law_1537 hX x3 w _ h0 hk18
  refine pj_tif (fun h46 => ?_) (fun h46 => ?_)
  · refine pj_map (fun k => pj_table hM (pc := 33) (tgt := 1560) dL_law_33 (by decide) (by rw [h46]; decide) (pj_kill hM [true, true, true, true] (lls' := [(3, 0), (10, 0), (26, 0), (0, x3)]) rfl k)) ?_
    exact tW_law_1560 hX x3 w _ h0 hk18
  refine pj_tif (fun h47 => ?_) (fun h47 => ?_)
  · refine pj_map (fun k => pj_table hM (pc := 33) (tgt := 1583) dL_law_33 (by decide) (by rw [h47]; decide) (pj_kill hM [true, true, true, true] (lls' := [(3, 0), (10, 0), (26, 0), (0, x3)]) rfl k)) ?_
    exact tW_law_1583 hX x3 w _ h0 hk18
  refine pj_tif (fun h48 => ?_) (fun h48 => ?_)
  · refine pj_map (fun k => pj_table hM (pc := 33) (tgt := 1616) dL_law_33 (by decide) (by rw [h48]; decide) (pj_kill hM [true, true, true, true] (lls' := [(3, 0), (10, 0), (26, 0), (0, x3)]) rfl k)) ?_
    exact tW_law_1616 hX x3 w _ h0 hk18
  refine pj_tif (fun h49 => ?_) (fun h49 => ?_)
  · refine pj_map (fun k => pj_table hM (pc := 33) (tgt := 1629) dL_law_33 (by decide) (by rw [h49]; decide) (pj_kill hM [true, true, true, true] (lls' := [(3, 0), (10, 0), (26, 0), (0, x3)]) rfl k)) ?_
    exact tW_law_1629 hX x3 w _ h0 hk18
  refine pj_tif (fun h50 => ?_) (fun h50 => ?_)
  · refine pj_map (fun k => pj_table hM (pc := 33) (tgt := 1652) dL_law_33 (by decide) (by rw [h50]; decide) (pj_kill hM [true, true, true, true] (lls' := [(3, 0), (10, 0), (26, 0), (0, x3)]) rfl k)) ?_
    exact tW_law_1652 hX x3 w _ h0 hk18
  refine pj_tif (fun h51 => ?_) (fun h51 => ?_)
  · refine pj_map (fun k => pj_table hM (pc := 33) (tgt := 1675) dL_law_33 (by decide) (by rw [h51]; decide) (pj_kill hM [true, true, true, true] (lls' := [(3, 0), (10, 0), (26, 0), (0, x3)]) rfl k)) ?_
    exact tW_law_1675 hX x3 w _ h0 hk18
  refine pj_tif (fun h52 => ?_) (fun h52 => ?_)
  · refine pj_map (fun k => pj_table hM (pc := 33) (tgt := 1688) dL_law_33 (by decide) (by rw [h52]; decide) (pj_kill hM [true, true, true, true] (lls' := [(3, 0), (10, 0), (26, 0), (0, x3)]) rfl k)) ?_
    exact tW_law_1688 hX x3 w _ h0 hk18
  refine pj_tif (fun h53 => ?_) (fun h53 => ?_)
  · refine pj_map (fun k => pj_table hM (pc := 33) (tgt := 1711) dL_law_33 (by decide) (by rw [h53]; decide) (pj_kill hM [true, true, true, true] (lls' := [(3, 0), (10, 0), (26, 0), (0, x3)]) rfl k)) ?_
    exact tW_law_1711 hX x3 w _ h0 hk18
  refine pj_tif (fun h54 => ?_) (fun h54 => ?_)
  · refine pj_map (fun k => pj_table hM (pc := 33) (tgt := 1734) dL_law_33 (by decide) (by rw [h54]; decide) (pj_kill hM [true, true, true, true] (lls' := [(3, 0), (10, 0), (26, 0), (0, x3)]) rfl k)) ?_
    exact tW_law_1734 hX x3 w _ h0 hk18
  refine pj_tif (fun h55 => ?_) (fun h55 => ?_)
  · refine pj_map (fun k => pj_table hM (pc := 33) (tgt := 1767) dL_law_33 (by decide) (by rw [h55]; decide) (pj_kill hM [true, true, true, true] (lls' := [(3, 0), (10, 0), (26, 0), (0, x3)]) rfl k)) ?_
    exact tW_law_1767 hX x3 w _ h0 hk18
  refine pj_tif (fun h56 => ?_) (fun h56 => ?_)
  · refine pj_map (fun k => pj_table hM (pc := 33) (tgt := 1780) dL_law_33 (by decide) (by rw [h56]; decide) (pj_kill hM [true, true, true, true] (lls' := [(3, 0), (10, 0), (26, 0), (0, x3)]) rfl k)) ?_
    exact tW_law_1780 hX x3 w _ h0 hk18
  refine pj_tif (fun h57 => ?_) (fun h57 => ?_)
  · refine pj_map (fun k => pj_table hM (pc := 33) (tgt := 1823) dL_law_33 (by decide) (by rw [h57]; decide) (pj_kill hM [true, true, true, true] (lls' := [(3, 0), (10, 0), (26, 0), (0, x3)]) rfl k)) ?_
    exact tW_law_1823 hX x3 w _ h0 hk18
  refine pj_tif (fun h58 => ?_) (fun h58 => ?_)
  · refine pj_map (fun k => pj_table hM (pc := 33) (tgt := 1836) dL_law_33 (by decide) (by rw [h58]; decide) (pj_kill hM [true, true, true, true] (lls' := [(3, 0), (10, 0), (26, 0), (0, x3)]) rfl k)) ?_
    exact tW_law_1836 hX x3 w _ h0 hk18
  refine pj_tif (fun h59 => ?_) (fun h59 => ?_)
  · refine pj_map (fun k => pj_table hM (pc := 33) (tgt := 1859) dL_law_33 (by decide) (by rw [h59]; decide) (pj_kill hM [true, true, true, true] (lls' := [(3, 0), (10, 0), (26, 0), (0, x3)]) rfl k)) ?_
    exact tW_law_1859 hX x3 w _ h0 hk18
  refine pj_tif (fun h60 => ?_) (fun h60 => ?_)
  · refine pj_map (fun k => pj_table hM (pc := 33) (tgt := 1872) dL_law_33 (by decide) (by rw [h60]; decide) (pj_kill hM [true, true, true, true] (lls' := [(3, 0), (10, 0), (26, 0), (0, x3)]) rfl k)) ?_
    exact tW_law_1872 hX x3 w _ h0 hk18
  refine pj_tif (fun h61 => ?_) (fun h61 => ?_)
  · refine pj_map (fun k => pj_table hM (pc := 33) (tgt := 1905) dL_law_33 (by decide) (by rw [h61]; decide) (pj_kill hM [true, true, true, true] (lls' := [(3, 0), (10, 0), (26, 0), (0, x3)]) rfl k)) ?_
    exact tW_law_1905 hX x3 w _ h0 hk18
  refine pj_tif (fun h62 => ?_) (fun h62 => ?_)
  · refine pj_map (fun k => pj_table hM (pc := 33) (tgt := 1928) dL_law_33 (by decide) (by rw [h62]; decide) (pj_kill hM [true, true, true, true] (lls' := [(3, 0), (10, 0), (26, 0), (0, x3)]) rfl k)) ?_
    exact tW_law_1928 hX x3 w _ h0 hk18
  refine pj_tif (fun h63 => ?_) (fun h63 => ?_)
  · refine pj_map (fun k => pj_table hM (pc := 33) (tgt := 1961) dL_law_33 (by decide) (by rw [h63]; decide) (pj_kill hM [true, true, true, true] (lls' := [(3, 0), (10, 0), (26, 0), (0, x3)]) rfl k)) ?_
    exact tW_law_1961 hX x3 w _ h0 hk18
  refine pj_tif (fun h64 => ?_) (fun h64 => ?_)
  · refine pj_map (fun k => pj_table hM (pc := 33) (tgt := 1984) dL_law_33 (by decide) (by rw [h64]; decide) (pj_kill hM [true, true, true, true] (lls' := [(3, 0), (10, 0), (26, 0), (0, x3)]) rfl k)) ?_
    exact tW_law_1984 hX x3 w _ h0 hk18
  refine pj_tif (fun h65 => ?_) (fun h65 => ?_)
  · refine pj_map (fun k => pj_table hM (pc := 33) (tgt := 2007) dL_law_33 (by decide) (by rw [h65]; decide) (pj_kill hM [true, true, true, true] (lls' := [(3, 0), (10, 0), (26, 0), (0, x3)]) rfl k)) ?_
    exact tW_law_2007 hX x3 w _ h0 hk18
  refine pj_tif (fun h66 => ?_) (fun h66 => ?_)
  · refine pj_map (fun k => pj_table hM (pc := 33) (tgt := 2050) dL_law_33 (by decide) (by rw [h66]; decide) (pj_kill hM [true, true, true, true] (lls' := [(3, 0), (10, 0), (26, 0), (0, x3)]) rfl k)) ?_
    exact tW_law_2050 hX x3 w _ h0 hk18
  refine pj_tif (fun h67 => ?_) (fun h67 => ?_)
  · refine pj_map (fun k => pj_table hM (pc := 33) (tgt := 2063) dL_law_33 (by decide) (by rw [h67]; decide) (pj_kill hM [true, true, true, true] (lls' := [(3, 0), (10, 0), (26, 0), (0, x3)]) rfl k)) ?_
    exact tW_law_2063 hX x3 w _ h0 hk18
  refine pj_map (fun k => pj_table hM (pc := 33) (tgt := 2076) dL_law_33 (by decide) (by have e9 : (pj_and (pj_sX g x3) 127) < 0 ∨ 64 < (pj_and (pj_sX g x3) 127) := (by omega); unfold pj_tab; rw [if_pos e9]; decide) (pj_kill hM [true, true, true, true] (lls' := [(3, 0), (10, 0), (26, 0), (0, x3)]) rfl k)) ?_
  exact tW_law_2076 hX x3 w _ h0 hk18
theorem tW_law_18 {Go : pj_C → Prop} (hX : pj_LX l g true n0 o Go)   (R : Int × pj_W → Prop) (h0 : ∀ r, R (r) → ((some (0, r.1) : Option pj_V), r.2) = o) (s : (Int × pj_W)) : pj_TG R (fW_law_18 (pj_sX g) (pj_sN g)  s) (Go (18, [(3, 0), (10, 0), (26, 0), (0, s.1)], [], s.2)) := by
  have hM := hX.M
  unfold fW_law_18
  exact pj_tLp (G := fun s : (Int × pj_W) => Go (18, [(3, 0), (10, 0), (26, 0), (0, s.1)], [], s.2)) (fun s => tW_law_18b hX  s.1 s.2  _ (fun r h => h0 r h)  (fun s h => h)) s
end
