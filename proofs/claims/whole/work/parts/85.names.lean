/-! WHAT HOLDS OF ALL THAT COMES OUT; names stay -/
def pj_AL {ρ : Type} (Q : ρ → Prop) (t : Option ρ) : Prop := ∀ x, t = some x → Q x
theorem al_none {ρ : Type} {Q : ρ → Prop} : pj_AL Q none := fun _ h => by cases h
theorem al_some {ρ : Type} {Q : ρ → Prop} {x : ρ} (h : Q x) : pj_AL Q (some x) := fun _ e => by cases e; exact h
theorem al_ite {ρ : Type} {Q : ρ → Prop} {c : Prop} [Decidable c] {a b : Option ρ} (h : pj_AL Q a) (h' : pj_AL Q b) : pj_AL Q (if c then a else b) := by
  split
  · exact h
  · exact h'
theorem al_bind {ρ σ : Type} {Q : ρ → Prop} {P : σ → Prop} {t : Option σ} {f : σ → Option ρ} (h : pj_AL P t) (h' : ∀ x, P x → pj_AL Q (f x)) : pj_AL Q (t.bind f) := fun y e => by
  obtain ⟨x, hx, e2⟩ := Option.bind_eq_some_iff.mp e
  exact h' x (h x hx) y e2
theorem al_bq {ρ σ : Type} {Q : ρ → Prop} {t : Option σ} {f : σ → Option ρ} (h' : ∀ x, pj_AL Q (f x)) : pj_AL Q (t.bind f) := al_bind (P := fun _ => True) (fun _ _ => trivial) (fun x _ => h' x)
theorem al_map {ρ σ : Type} {Q : ρ → Prop} {P : σ → Prop} {t : Option σ} {f : σ → ρ} (h : pj_AL P t) (h' : ∀ x, P x → Q (f x)) : pj_AL Q (t.map f) := fun y e => by
  obtain ⟨x, hx, e2⟩ := Option.map_eq_some_iff.mp e
  rw [← e2]
  exact h' x (h x hx)
def pj_sm {σ ρ : Type} (P : σ → Prop) (Q : ρ → Prop) : σ ⊕ ρ → Prop
  | .inl s => P s
  | .inr r => Q r
theorem al_lp {σ ρ : Type} {P : σ → Prop} {Q : ρ → Prop} {body : σ → Option (σ ⊕ ρ)} (hb : ∀ s, P s → pj_AL (pj_sm P Q) (body s)) {s : σ} (h : P s) : pj_AL Q (pj_Lp body s) := fun r hr => by
  obtain ⟨n, hn⟩ := pj_Lp_ex hr
  clear hr
  induction n generalizing s with
  | zero => cases hn
  | succ n ih =>
    unfold pj_LpN at hn
    obtain ⟨x, hx, e⟩ := Option.bind_eq_some_iff.mp hn
    have h1 := hb s h x hx
    cases x with
    | inl s' => exact ih h1 e
    | inr r' => cases e; exact h1
def pj_kn (w u : pj_W) : Prop := (∀ i, u 22 i 0 = w 22 i 0) ∧ ∀ i, u 23 i 2 = w 23 i 2
theorem pj_kn.refl (w : pj_W) : pj_kn w w := ⟨fun _ => rfl, fun _ => rfl⟩
theorem pj_kn.set {w u : pj_W} (h : pj_kn w u) {k : Nat} {i s : Int} (v : Int) (h1 : ¬ (k = 22 ∧ s = 0)) (h2 : ¬ (k = 23 ∧ s = 2)) : pj_kn w (pj_set u k i s v) :=
  ⟨fun j => by rw [pj_sne (by omega)]; exact h.1 j, fun j => by rw [pj_sne (by omega)]; exact h.2 j⟩
section
variable {w u : pj_W} {b : Int}
theorem kn_done (h : pj_kn w u) (v : Int) : pj_AL (fun r => pj_kn w r.2) (fB_done b v u) := al_some (h.set _ (by omega) (by omega))
theorem kn_spend (h : pj_kn w u) (i m : Int) : pj_AL (fun r => pj_kn w r.2) (fB_spend b i m u) := by
  unfold fB_spend
  exact al_ite (al_ite (al_bind (kn_done (h.set _ (by omega) (by omega)) _) fun x hx => al_some hx) (al_some h)) al_none
theorem kn_walkTo (h : pj_kn w u) (f c : Int) : pj_AL (fun r => pj_kn w r.2) (fB_walkTo b f c u) := by
  unfold fB_walkTo
  exact al_bq fun p => al_ite (al_some h) (al_ite (al_some h) (al_ite (al_bq fun q => al_bind (kn_spend h p q) fun x hx => al_ite (al_some (hx.set _ (by omega) (by omega))) (al_some hx)) (al_some h)))
theorem kn_waitFor (h : pj_kn w u) (f m : Int) : pj_AL (fun r => pj_kn w r.2) (fB_waitFor b f m u) := by
  unfold fB_waitFor
  exact al_bq fun p => al_ite (al_some h) (al_ite (al_some h) (al_ite (al_bind (kn_spend h p m) fun x hx => al_some hx) (al_some h)))
theorem kn_insert (h : pj_kn w u) (i x1 x2 : Int) : pj_AL (fun r => pj_kn w r) (fN_insert i x1 x2 u) := by
  have h65 : ∀ (x3 : Int) (v : pj_W), pj_kn w v → pj_AL (fun r => pj_kn w r) (fN_insert_65 i x1 x2 x3 v) := fun x3 v hv => by
    unfold fN_insert_65
    exact al_ite (al_some (((hv.set _ (by omega) (by omega)).set _ (by omega) (by omega)).set _ (by omega) (by omega))) al_none
  unfold fN_insert
  refine al_ite (al_lp (P := fun s => pj_kn w s.2) (fun s hs => ?_) h) (al_some h)
  unfold fN_insert_15b
  exact al_ite (al_map (h65 _ _ hs) fun x hx => hx) (al_ite (al_ite (al_map (h65 _ _ hs) fun x hx => hx) (al_ite (al_bind (al_some ((hs.set _ (by omega) (by omega)).set _ (by omega) (by omega))) fun x hx => al_some hx) al_none)) al_none)
theorem kn_removeAt (h : pj_kn w u) (i k : Int) : pj_AL (fun r => pj_kn w r) (fN_removeAt i k u) := by
  unfold fN_removeAt
  refine al_bq fun p => al_ite (al_some h) (al_lp (P := fun s => pj_kn w s.2) (fun s hs => ?_) (h.set _ (by omega) (by omega)))
  unfold fN_removeAt_21b
  exact al_ite (al_some hs) (al_ite (al_ite (al_bind (al_some ((hs.set _ (by omega) (by omega)).set _ (by omega) (by omega))) fun x hx => al_some hx) al_none) al_none)
theorem kn_layOn (h : pj_kn w u) (f d : Int) : pj_AL (fun r => pj_kn w r.2) (fB_layOn b f d u) := by
  unfold fB_layOn
  exact al_bq fun p => al_bq fun q => al_ite (al_some h) (al_ite (al_some h) (al_bq fun n => al_ite (al_ite (al_some h) (al_ite (al_ite (al_some h) (al_bind (kn_insert (h.set _ (by omega) (by omega)) _ _ _) fun x hx => al_bind (kn_done hx _) fun y hy => al_some hy)) (al_some h))) (al_some h)))
theorem kn_takeUp (h : pj_kn w u) (f d : Int) : pj_AL (fun r => pj_kn w r.2) (fB_takeUp b f d u) := by
  unfold fB_takeUp
  exact al_bq fun p => al_bq fun q => al_ite (al_some h) (al_ite (al_some h) (al_bq fun n => al_bq fun z => al_ite (al_some h) (al_ite (al_ite (al_bind (kn_removeAt h _ _) fun x hx => al_bind (kn_done (hx.set _ (by omega) (by omega)) _) fun y hy => al_some hy) al_none) (al_some h))))
theorem kn_carry (h : pj_kn w u) (d e : Int) : pj_AL (fun r => pj_kn w r.2) (fB_carry b d e u) := by
  unfold fB_carry
  exact al_bq fun p => al_bq fun q => al_ite (al_some h) (al_ite (al_some h) (al_ite (al_some h) (al_bq fun z => al_ite (al_some h) (al_ite (al_some h) (al_ite (al_some h) (al_ite (al_bind (kn_removeAt h _ _) fun x hx => al_bind (kn_insert hx _ _ _) fun y hy => al_bind (kn_done hy _) fun y hy => al_some hy) al_none))))))
theorem kn_washBelow (h : pj_kn w u) (c : Int) : pj_AL (fun r => pj_kn w r.2) (fB_washBelow b c u) := by
  unfold fB_washBelow
  refine al_ite (al_some h) (al_ite (al_lp (P := fun s => pj_kn w s.2.2) (fun s hs => ?_) h) (al_some h))
  unfold fB_washBelow_16b fB_washBelow_59
  exact al_ite (al_bind (kn_done hs _) fun x hx => al_some hx) (al_ite (al_ite (al_some hs) (al_some (show pj_kn w (pj_set s.2.2 23 (8 * b + s.2.1) 6 0) from hs.set _ (by omega) (by omega)))) al_none)
theorem kn_give (h : pj_kn w u) (x1 x2 : Int) : pj_AL (fun r => pj_kn w r) (fB_give b x1 x2 u) := by
  unfold fB_give
  refine al_bq fun p => al_lp (P := fun s => pj_kn w s.2) (fun s hs => ?_) h
  unfold fB_give_8b fB_give_49
  exact al_ite (al_some hs) (al_ite (al_some hs) (al_ite (al_ite (al_ite (al_some (hs.set (s := 5) _ (by omega) (by omega))) al_none) al_none) (al_some hs)))
theorem kn_comeTide (h : pj_kn w u) : pj_AL (fun r => pj_kn w r.2) (fB_comeTide b u) := by
  have h107 : ∀ v, pj_kn w v → pj_AL (fun r => pj_kn w r.2) (fB_comeTide_107 b (0, v)) := fun v hv => by
    refine al_lp (P := fun s => pj_kn w s.2) (fun s hs => ?_) hv
    unfold fB_comeTide_107b
    exact al_ite (al_bq fun p => al_bind (kn_done ((hs.set _ (by omega) (by omega)).set _ (by omega) (by omega)) _) fun y hy => al_some hy) (al_ite (al_some (show pj_kn w (pj_set (pj_set s.2 23 (8 * b + s.1) 5 0) 23 (8 * b + s.1) 6 0) from (hs.set _ (by omega) (by omega)).set _ (by omega) (by omega))) al_none)
  have h62 : ∀ v, pj_kn w v → pj_AL (fun r => pj_kn w r.2) (fB_comeTide_62 b (0, v)) := fun v hv => by
    refine al_lp (P := fun s => pj_kn w s.2) (fun s hs => ?_) hv
    unfold fB_comeTide_62b
    exact al_ite (al_map (h107 _ hs) fun x hx => hx) (al_ite (al_bq fun p => al_bind (al_some ((hs.set _ (by omega) (by omega)).set _ (by omega) (by omega))) fun y hy => al_some hy) al_none)
  unfold fB_comeTide
  refine al_ite (al_bq fun p => al_ite (al_some h) (al_lp (P := fun s => pj_kn w s.2) (fun s hs => ?_) h)) (al_some h)
  unfold fB_comeTide_23b
  exact al_ite (al_map (h62 _ hs) fun x hx => hx) (al_ite (al_bq fun p => al_bind (kn_give hs _ _) fun y hy => al_some hy) al_none)
theorem kn_comeDawn (h : pj_kn w u) : pj_AL (fun r => pj_kn w r.2) (fB_comeDawn b u) := by
  unfold fB_comeDawn
  refine al_bq fun p => al_ite (al_lp (P := fun s => pj_kn w s.2) (fun s hs => ?_) h) (al_some h)
  unfold fB_comeDawn_12b
  exact al_ite (al_bind (kn_done hs _) fun y hy => al_some hy) (al_ite (al_some (show pj_kn w (pj_set s.2 23 (8 * b + s.1) 5 1) from hs.set _ (by omega) (by omega))) al_none)
theorem kn_settle (h : pj_kn w u) (y : Int) : pj_AL (fun r => pj_kn w r.2) (fX_settle y u) := by
  unfold fX_settle
  exact al_ite (al_ite (al_bind (P := fun r => pj_kn w r.2) (al_some (h.set _ (by omega) (by omega))) fun x hx => al_some hx) al_none) (al_bind (P := fun r => pj_kn w r.2) (al_some (h.set _ (by omega) (by omega))) fun x hx => al_some hx)
end
/-- a deed: the names stay -/
theorem pj_deed {w : pj_W} {f : pj_W → Option (Int × pj_W)} {g : Option (Int × pj_W)} (hg : pj_AL (fun r => pj_kn w r.2) g) (hf : f w = (if 0 ≤ w 10 0 10 then g.bind fun p2 => (fX_settle p2.1 p2.2).bind fun p4 => some (p4.1, p4.2) else none)) {a : Int} {w' : pj_W} {y : Int} (h : f w = some (a, pj_set w' 10 0 15 y)) : (∀ i, w' 22 i 0 = w 22 i 0) ∧ ∀ i, w' 23 i 2 = w 23 i 2 := by
  have h1 : pj_AL (fun r => pj_kn w r.2) (f w) := by
    rw [hf]
    exact al_ite (al_bind hg fun x hx => al_bind (kn_settle hx _) fun y hy => al_some hy) al_none
  have h2 : pj_kn w (pj_set w' 10 0 15 y) := h1 _ h
  exact ⟨fun i => by have := h2.1 i; rwa [pj_sne (by omega)] at this, fun i => by have := h2.2 i; rwa [pj_sne (by omega)] at this⟩
section
variable {n n' : Int} {w : pj_W}
theorem pj_REL.hb (R : pj_REL n w) : 0 ≤ w 10 0 10 := by rcases R.1.1 with c | c <;> omega
theorem cc_go (R : pj_REL n w) (hn : n ≤ n') (f c : Int) : pj_cB n' w (fX_go f c) (fM_go f c) := by
  have I := R.2.1.1
  have kp := q_go_kp I f c
  exact pj_cB.d R hn (xs_go R.2.1.2.2.1 I R.hb f c) (fun u hu => by have := mt_go f c (w := u) (by rw [hu]; exact I); rw [hu] at this; exact this) (q_go_IV I f c) (kp.IK I R.2.1.2.1) kp.kd (fun w' h => pj_deed (kn_walkTo (pj_kn.refl w) f c) rfl h)
theorem cc_pass (R : pj_REL n w) (hn : n ≤ n') (f c : Int) : pj_cB n' w (fX_pass f c) (fM_pass f c) := by
  have I := R.2.1.1
  have kp := q_pass_kp I f c
  exact pj_cB.d R hn (xs_pass R.2.1.2.2.1 I R.hb f c) (fun u hu => by have := mt_pass f c (w := u) (by rw [hu]; exact I); rw [hu] at this; exact this) (q_pass_IV I f c) (kp.IK I R.2.1.2.1) kp.kd (fun w' h => pj_deed (kn_waitFor (pj_kn.refl w) f c) rfl h)
theorem cc_set (R : pj_REL n w) (hn : n ≤ n') (f c : Int) : pj_cB n' w (fX_set f c) (fM_set f c) := by
  have I := R.2.1.1
  have kp := q_set_kp I f c
  exact pj_cB.d R hn (xs_set R.2.1.2.2.1 I R.hb f c) (fun u hu => by have := mt_set f c (w := u) (by rw [hu]; exact I); rw [hu] at this; exact this) (q_set_IV I f c) (kp.IK I R.2.1.2.1) kp.kd (fun w' h => pj_deed (kn_layOn (pj_kn.refl w) f c) rfl h)
theorem cc_lift (R : pj_REL n w) (hn : n ≤ n') (f c : Int) : pj_cB n' w (fX_lift f c) (fM_lift f c) := by
  have I := R.2.1.1
  have kp := q_lift_kp I f c
  exact pj_cB.d R hn (xs_lift R.2.1.2.2.1 I R.hb f c) (fun u hu => by have := mt_lift f c (w := u) (by rw [hu]; exact I); rw [hu] at this; exact this) (q_lift_IV I f c) (kp.IK I R.2.1.2.1) kp.kd (fun w' h => pj_deed (kn_takeUp (pj_kn.refl w) f c) rfl h)
theorem cc_gull (R : pj_REL n w) (hn : n ≤ n') (f c : Int) : pj_cB n' w (fX_gull f c) (fM_gull f c) := by
  have I := R.2.1.1
  have kp := q_gull_kp I f c
  exact pj_cB.d R hn (xs_gull R.2.1.2.2.1 I R.hb f c) (fun u hu => by have := mt_gull f c (w := u) (by rw [hu]; exact I); rw [hu] at this; exact this) (q_gull_IV I f c) (kp.IK I R.2.1.2.1) kp.kd (fun w' h => pj_deed (kn_carry (pj_kn.refl w) f c) rfl h)
theorem cc_wave (R : pj_REL n w) (hn : n ≤ n') (c : Int) : pj_cB n' w (fX_wave c) (fM_wave c) := by
  have I := R.2.1.1
  have kp := q_wave_kp I c
  exact pj_cB.d R hn (xs_wave R.2.1.2.2.1 I R.hb c) (fun u hu => by have := mt_wave c (w := u) (by rw [hu]; exact I); rw [hu] at this; exact this) (q_wave_IV I c) (kp.IK I R.2.1.2.1) kp.kd (fun w' h => pj_deed (kn_washBelow (pj_kn.refl w) c) rfl h)
theorem cc_tide (R : pj_REL n w) (hn : n ≤ n') : pj_cB n' w fX_tide fM_tide := by
  have I := R.2.1.1
  have K := R.2.1.2.1
  exact pj_cB.d R hn (xs_tide R.2.1.2.2.1 I K R.hb) (fun u hu => by have := mt_tide (w := u) (by rw [hu]; exact I) (by rw [hu]; exact K); rw [hu] at this; exact this) (q_tide_IV I) (q_tide_IK I K) (q_tide_kd I) (fun w' h => pj_deed (kn_comeTide (pj_kn.refl w)) rfl h)
theorem cc_dawn (R : pj_REL n w) (hn : n ≤ n') : pj_cB n' w fX_dawn fM_dawn := by
  have I := R.2.1.1
  have K := R.2.1.2.1
  exact pj_cB.d R hn (xs_dawn R.2.1.2.2.1 I R.hb) (fun u hu => by have := mt_dawn (w := u) (by rw [hu]; exact I); rw [hu] at this; exact this) (q_dawn_IV I) (by unfold q_dawn; split; exact q_dawns_IK K; exact K) (q_dawn_kd I) (fun w' h => pj_deed (kn_comeDawn (pj_kn.refl w)) rfl h)
end
