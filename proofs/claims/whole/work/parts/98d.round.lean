/-! ROUNDS, in the class: the row that is chosen -/
section
variable {v : pj_W} {Y : bs_Y}
theorem o_next (h : bs_pr v Y) (k : bs_ok Y) {S a : Nat} {m : Int} (hS : S < 256) (ha : a < bs_n Y ∨ a = 8) (hm : 0 ≤ m) (hm2 : m ≤ 1000) : fO_firstNext S a m v = some (bs_nx Y (bs_tab v) S a m : Int) := by
  have hn := k.1
  have hmin : ∀ i : Nat, i < bs_n Y → fO_minuteAt i a m v = some (max (m + bs_ds Y a i) (bs_oo Y i)) := fun i hi => by
    have hds := k.2.1 a i
    unfold fO_minuteAt
    rw [o_between h hn ha hi, Option.bind_some, if_pos (by omega), (h.2.2 i hi).1, pj_wr_id (by omega) (by omega)]
  unfold fO_firstNext
  refine (pj_Lp_ff (body := fun s : Int => fO_firstNext_3b S a m v s) (fun i : Nat => (i : Int)) (fun i => S.testBit i = true ∧ max (m + bs_ds Y a i) (bs_oo Y i) ≤ bs_tab v (S - 2 ^ i) i) (bs_n Y) (r := fun i => (i : Int)) (e := 0) (fun i hi hp => ?_) (fun i hi hp => ?_) ?_).trans ?_
  · show fO_firstNext_3b S a m v i = _
    unfold fO_firstNext_3b fO_firstNext_43
    rw [h.1.1, if_neg (by omega), pj_wri (by omega)]
    by_cases c : S.testBit i = true
    · rw [if_pos ((bs_bitI hS (by omega)).mpr c), hmin i hi, Option.bind_some, o_due hS c, Option.bind_some, if_pos (show bs_tab v (S - 2 ^ i) i < max (m + bs_ds Y a i) (bs_oo Y i) from Int.lt_of_not_ge (fun x => hp ⟨c, x⟩))]; rfl
    · rw [if_neg (fun x => c ((bs_bitI hS (by omega)).mp x))]; rfl
  · show fO_firstNext_3b S a m v i = _
    unfold fO_firstNext_3b
    rw [h.1.1, if_neg (by omega), if_pos ((bs_bitI hS (by omega)).mpr hp.1), hmin i hi, Option.bind_some, o_due hS hp.1, Option.bind_some, if_neg (by have := hp.2; omega)]
  · show fO_firstNext_3b S a m v ((bs_n Y : Nat) : Int) = _
    unfold fO_firstNext_3b
    rw [h.1.1, if_pos (Int.le_refl _)]
  · unfold bs_nx
    cases pj_ff (fun i => S.testBit i = true ∧ max (m + bs_ds Y a i) (bs_oo Y i) ≤ bs_tab v (S - 2 ^ i) i) 0 (bs_n Y) with
    | some i => rfl
    | none => rfl
theorem o_lay (k : bs_ok Y) {F : Int} (hF : F ≤ 8) (q : Nat) : ∀ (S a : Nat) (m : Int) (p : Nat) (u : pj_W), bs_pr u Y → (∀ S' a', S' < 2 ^ bs_n Y → a' < bs_n Y ∨ a' = 8 → bs_tv Y S' a' (bs_tab u S' a')) → S < 2 ^ bs_n Y → (a < bs_n Y ∨ a = 8) → 0 ≤ m → m ≤ bs_tab u S a → pj_pc (S : Int) = q → (p : Int) + q = F →
    ∃ u', fO_layTrial_15 F (S, a, m, (p : Int), u) = some u' ∧ (∀ j : Nat, j < q → u' 40 0 ((p : Int) + j) = ((bs_tr Y (bs_tab u) q S a m).getD j 0 : Int)) ∧ ∀ kk i s, ¬ (kk = 40 ∧ i = 0 ∧ (p : Int) ≤ s ∧ s < F) → u' kk i s = u kk i s := by
  have hn := k.1
  have h256 : 2 ^ bs_n Y ≤ 256 := Nat.pow_le_pow_right (n := 2) (by decide) hn
  induction q with
  | zero =>
    intro S a m p u hp ht hS ha hm hmt hpc hpF
    refine ⟨u, pj_Lp_end ?_, fun j hj => by omega, fun _ _ _ _ => rfl⟩
    unfold fO_layTrial_15b
    dsimp only
    rw [if_pos (by omega)]
  | succ q ih =>
    intro S a m p u hp ht hS ha hm hmt hpc hpF
    obtain ⟨t1, t2, t3, _⟩ := bs_tr_sp k ht (q + 1) S a m hS ha hm hmt hpc
    have hT := k.2.2.2.2.1
    have hmT := (ht S a hS ha).1
    generalize hi : bs_nx Y (bs_tab u) S a m = i
    have htr : bs_tr Y (bs_tab u) (q + 1) S a m = i :: bs_tr Y (bs_tab u) q (S - 2 ^ i) i (max (m + bs_ds Y a i) (bs_oo Y i)) := by
      show bs_nx Y (bs_tab u) S a m :: _ = _
      rw [hi]
    rw [htr] at t1 t2 t3
    obtain ⟨hb, t1'⟩ := (bs_st_cons (S := S) (by omega)).mp t1
    have hB := bs_bit (S := S) (by omega) hb
    have hin := t2 i (List.mem_cons.mpr (Or.inl rfl))
    have hoo : bs_oo Y i = bs_o Y i := by unfold bs_oo; rw [if_pos t3.1]
    have hds := k.2.1 a i
    have hv := ht (S - 2 ^ i) i (by omega) (Or.inl hin)
    have hmn : max (m + bs_ds Y a i) (bs_oo Y i) = bs_mn Y a m i := by rw [hoo]; rfl
    have hge : 0 ≤ bs_mn Y a m i := by unfold bs_mn; omega
    have hle : bs_mn Y a m i ≤ bs_tab u (S - 2 ^ i) i := (hv.2.2 _ hge).mpr ⟨_, t1', fun x hx => t2 x (List.mem_cons.mpr (Or.inr hx)), t3.2⟩
    have hp' : bs_pr (pj_set u 40 0 p i) Y := hp.ex (fun s _ _ => pj_sne (by omega)) (fun kk s hk => pj_sne (by omega))
    have htab : bs_tab (pj_set u 40 0 p i) = bs_tab u := funext fun S' => funext fun a' => pj_sne (by omega)
    obtain ⟨u', e, e2, e3⟩ := ih (S - 2 ^ i) i (bs_mn Y a m i) (p + 1) (pj_set u 40 0 p i) hp' (by rw [htab]; exact ht) (by omega) (Or.inl hin) hge (by rw [htab]; exact hle) (by omega) (by omega)
    refine ⟨u', ?_, fun j hj => ?_, fun kk j s hns => ?_⟩
    · rw [← e]
      refine pj_Lp_st ?_
      have hmin : fO_minuteAt i a m (pj_set u 40 0 p i) = some (bs_mn Y a m i) := by
        unfold fO_minuteAt
        rw [o_between hp' hn ha hin, Option.bind_some, if_pos (by omega), (hp'.2.2 i hin).1, pj_wr_id (by omega) (by omega), hmn]
      have hand := bs_and_d ⟨S, by omega⟩ ⟨i, hB.1⟩ hb
      simp only at hand
      unfold fO_layTrial_15b
      dsimp only
      rw [if_neg (by omega), o_next hp k (by omega) ha hm (by omega), Option.bind_some, hi, if_pos (by omega), hmin, Option.bind_some, hand, pj_wri (by omega)]; rfl
    · rw [htr]
      cases j with
      | zero =>
        rw [e3 40 0 _ (by omega), show (p : Int) + ((0 : Nat) : Int) = p by omega, pj_set_at]; rfl
      | succ j =>
        have := e2 j (by omega)
        rw [hmn]
        rw [htab] at this
        rw [show (p : Int) + ((j + 1 : Nat) : Int) = ((p + 1 : Nat) : Int) + j by omega, this]; rfl
    · rw [e3 kk j s (by omega), pj_sne (by omega)]
theorem o_ahead {F : Int} (hF : F ≤ 8) : ∀ (t r : List Nat) (p : Nat) (u : pj_W), t.length = r.length → (p : Int) + t.length = F → (∀ j : Nat, j < t.length → u 40 0 ((p : Int) + j) = (t.getD j 0 : Int) ∧ u 41 0 ((p : Int) + j) = (r.getD j 0 : Int)) →
    ∃ y, fO_trialIsAhead_2 F u (p : Int) = some y ∧ (y = 0 ∨ y = 1) ∧ (y = 0 → bs_lx r t) ∧ (y = 1 → bs_lx t r) := by
  intro t
  induction t with
  | nil =>
    intro r p u hl hp hu
    have hr : r = [] := List.length_eq_zero_iff.mp hl.symm
    subst hr
    refine ⟨0, pj_Lp_end ?_, Or.inl rfl, fun _ => trivial, fun x => by omega⟩
    unfold fO_trialIsAhead_2b
    rw [if_pos (by simp only [List.length_nil] at hp; omega)]
  | cons a t ih =>
    intro r p u hl hp hu
    cases r with
    | nil => cases hl
    | cons b r =>
      simp only [List.length_cons] at hl hp hu
      obtain ⟨h0, h1⟩ := hu 0 (by omega)
      have g0 : u 40 0 p = (a : Int) := by
        have : (p : Int) + ((0 : Nat) : Int) = p := by omega
        rw [this] at h0
        exact h0
      have g1 : u 41 0 p = (b : Int) := by
        have : (p : Int) + ((0 : Nat) : Int) = p := by omega
        rw [this] at h1
        exact h1
      by_cases c : a = b
      · obtain ⟨y, e, y1, y2, y3⟩ := ih r (p + 1) u (by omega) (by omega) (fun j hj => by
          have := hu (j + 1) (by omega)
          rw [show (p : Int) + ((j + 1 : Nat) : Int) = ((p + 1 : Nat) : Int) + j by omega] at this
          exact this)
        refine ⟨y, ?_, y1, fun x => Or.inr ⟨c.symm, y2 x⟩, fun x => Or.inr ⟨c, y3 x⟩⟩
        rw [← e]
        refine pj_Lp_st ?_
        unfold fO_trialIsAhead_2b
        rw [if_neg (by omega), if_pos (by omega), g0, g1, if_pos (by omega), pj_wri (by omega)]; rfl
      · by_cases c2 : b < a
        · refine ⟨0, pj_Lp_end ?_, Or.inl rfl, fun _ => Or.inl c2, fun x => by omega⟩
          unfold fO_trialIsAhead_2b
          rw [if_neg (by omega), if_pos (by omega), g0, g1, if_neg (by omega), if_pos (by omega)]
        · refine ⟨1, pj_Lp_end ?_, Or.inr rfl, fun x => by omega, fun _ => Or.inl (by omega)⟩
          unfold fO_trialIsAhead_2b
          rw [if_neg (by omega), if_pos (by omega), g0, g1, if_neg (by omega), if_neg (by omega)]
/-- the chosen row is the best of all -/
theorem o_choose (h : bs_pr v Y) (k : bs_ok Y) (ht : ∀ S' a', S' < 2 ^ bs_n Y → a' < bs_n Y ∨ a' = 8 → bs_tv Y S' a' (bs_tab v S' a')) :
    ∃ v', fO_chooseRow v = some v' ∧ v' 17 0 6 = ((bs_B Y).length : Int) ∧ (∀ j : Nat, j < (bs_B Y).length → v' 41 0 j = ((bs_B Y).getD j 0 : Int)) ∧ ∀ kk i s, kk ≠ 40 → kk ≠ 41 → ¬ (kk = 17 ∧ i = 0 ∧ s = 6) → v' kk i s = v kk i s := by
  have hn := k.1
  have h256 : 2 ^ bs_n Y ≤ 256 := Nat.pow_le_pow_right (n := 2) (by decide) hn
  have hpw := o_pow (Y := Y) hn
  have hl := bs_B_len k
  have hx := (bs_B_sp Y hn).1
  obtain ⟨S0, s0, s1, s2, s3, s4⟩ := bs_fit_2 (tab := bs_tab v) k ht hx
  have t0 := k.2.2.2.2.2.1
  unfold fO_chooseRow
  rw [o_best h k ht, Option.bind_some, o_fewest h k ht, Option.bind_some]
  have cnd : ∀ S : Nat, S < 2 ^ bs_n Y → bs_fit Y (bs_tab v) S → bs_ws Y S (bs_n Y) = bs_w Y (bs_B Y) → pj_pc (S : Int) = ((bs_B Y).length : Int) →
      bs_lx (bs_B Y) (bs_tr Y (bs_tab v) (bs_B Y).length S 8 (bs_t Y)) ∧ (bs_tr Y (bs_tab v) (bs_B Y).length S 8 (bs_t Y)).length = (bs_B Y).length ∧ (S = S0 → bs_lx (bs_tr Y (bs_tab v) (bs_B Y).length S 8 (bs_t Y)) (bs_B Y)) := fun S hS hf hw hp => by
    obtain ⟨t1, t2, t3, t4⟩ := bs_tr_sp k ht (bs_B Y).length S 8 (bs_t Y) hS (Or.inr rfl) t0 hf.2 hp
    have hlen := bs_st_pc (S := S) (by omega) t1
    have hw2 := bs_st_w (Y := Y) (S := S) (by omega) t1 t2
    have hval : bs_x Y [] (bs_tr Y (bs_tab v) (bs_B Y).length S 8 (bs_t Y)) := (bs_x_0 k _).mpr ⟨t2, t1.1, by have := hf.1; omega, t3⟩
    refine ⟨((bs_B_max k hval).2 (by omega)).2 (by omega), by omega, fun e => ?_⟩
    have hxB := (bs_x_0 k _).mp hx
    exact t4 (bs_B Y) (by rw [e]; exact s1) hxB.1 hxB.2.2.2
  have key : ∀ m S : Nat, S + m = 2 ^ bs_n Y → ∀ (y : Int) (u : pj_W), (∀ kk i s, kk ≠ 40 → kk ≠ 41 → u kk i s = v kk i s) →
      ((y = 0 ∧ S ≤ S0) ∨ (y = 1 ∧ ∃ r : List Nat, r.length = (bs_B Y).length ∧ bs_lx (bs_B Y) r ∧ (S0 < S → bs_lx r (bs_B Y)) ∧ ∀ j : Nat, j < (bs_B Y).length → u 41 0 j = (r.getD j 0 : Int))) →
      ∃ v', fO_chooseRow_16 (bs_w Y (bs_B Y)) ((bs_B Y).length : Int) (y, (S : Int), u) = some v' ∧ v' 17 0 6 = ((bs_B Y).length : Int) ∧ (∀ j : Nat, j < (bs_B Y).length → v' 41 0 j = ((bs_B Y).getD j 0 : Int)) ∧ ∀ kk i s, kk ≠ 40 → kk ≠ 41 → ¬ (kk = 17 ∧ i = 0 ∧ s = 6) → v' kk i s = v kk i s := by
    intro m
    induction m with
    | zero =>
      intro S hS y u hu hr
      have e7 : u 17 0 7 = (bs_n Y : Int) := (hu 17 0 7 (by decide) (by decide)).trans h.1.1
      rcases hr with ⟨_, hr⟩ | ⟨_, r, r1, r2, r3, r4⟩
      · omega
      · have : r = bs_B Y := bs_lx_anti (r3 (by omega)) r2
        subst this
        refine ⟨pj_set u 17 0 6 ((bs_B Y).length : Int), pj_Lp_end ?_, pj_set_at, fun j hj => by rw [pj_sne (by omega)]; exact r4 j hj, fun kk i s a1 a2 a3 => by rw [pj_sne (by omega)]; exact hu kk i s a1 a2⟩
        unfold fO_chooseRow_16b
        dsimp only
        rw [if_pos (by rw [e7, hpw]; omega)]
    | succ m ih =>
      intro S hS y u hu hr
      have hS' : S < 256 := by omega
      have hpu : bs_pr u Y := h.ex (fun s _ _ => hu 17 0 s (by decide) (by decide)) (fun kk s hk => hu kk 0 s (by omega) (by omega))
      have htu : bs_tab u = bs_tab v := funext fun S' => funext fun a' => hu 36 0 _ (by decide) (by decide)
      have e7 : u 17 0 7 = (bs_n Y : Int) := hpu.1.1
      have skip : (bs_fit Y (bs_tab v) S → bs_ws Y S (bs_n Y) = bs_w Y (bs_B Y) → pj_pc (S : Int) = ((bs_B Y).length : Int) → False) → ((y = 0 ∧ S + 1 ≤ S0) ∨ (y = 1 ∧ ∃ r : List Nat, r.length = (bs_B Y).length ∧ bs_lx (bs_B Y) r ∧ (S0 < S + 1 → bs_lx r (bs_B Y)) ∧ ∀ j : Nat, j < (bs_B Y).length → u 41 0 j = (r.getD j 0 : Int))) := fun hne => by
        have hneS : S ≠ S0 := fun e => hne (e ▸ s2) (e ▸ s3) (e ▸ s4)
        rcases hr with ⟨a1, a2⟩ | ⟨a1, r, r1, r2, r3, r4⟩
        · exact Or.inl ⟨a1, by omega⟩
        · exact Or.inr ⟨a1, r, r1, r2, fun x => r3 (by omega), r4⟩
      have go : ∀ (y' : Int) (u' : pj_W), fO_chooseRow_16b (bs_w Y (bs_B Y)) ((bs_B Y).length : Int) y S u = some (Sum.inl (y', ((S + 1 : Nat) : Int), u')) → (∀ kk i s, kk ≠ 40 → kk ≠ 41 → u' kk i s = v kk i s) → ((y' = 0 ∧ S + 1 ≤ S0) ∨ (y' = 1 ∧ ∃ r : List Nat, r.length = (bs_B Y).length ∧ bs_lx (bs_B Y) r ∧ (S0 < S + 1 → bs_lx r (bs_B Y)) ∧ ∀ j : Nat, j < (bs_B Y).length → u' 41 0 j = (r.getD j 0 : Int))) → ∃ v', fO_chooseRow_16 (bs_w Y (bs_B Y)) ((bs_B Y).length : Int) (y, (S : Int), u) = some v' ∧ v' 17 0 6 = ((bs_B Y).length : Int) ∧ (∀ j : Nat, j < (bs_B Y).length → v' 41 0 j = ((bs_B Y).getD j 0 : Int)) ∧ ∀ kk i s, kk ≠ 40 → kk ≠ 41 → ¬ (kk = 17 ∧ i = 0 ∧ s = 6) → v' kk i s = v kk i s := fun y' u' e q1 q2 => by
        obtain ⟨v', p1, p2⟩ := ih (S + 1) (by omega) y' u' q1 q2
        exact ⟨v', (pj_Lp_st e).trans p1, p2⟩
      by_cases c1 : bs_fit Y (bs_tab v) S
      case neg =>
        refine go y u ?_ hu (skip fun x _ _ => c1 x)
        unfold fO_chooseRow_16b fO_chooseRow_90
        rw [if_neg (by rw [e7, hpw]; omega), o_fits hpu hn hS', htu, if_neg c1, Option.bind_some, if_pos rfl, pj_wri (by omega)]; rfl
      by_cases c2 : bs_ws Y S (bs_n Y) = bs_w Y (bs_B Y)
      case neg =>
        refine go y u ?_ hu (skip fun _ x _ => c2 x)
        unfold fO_chooseRow_16b fO_chooseRow_90
        rw [if_neg (by rw [e7, hpw]; omega), o_fits hpu hn hS', htu, if_pos c1, Option.bind_some, if_neg (by decide), o_worth hpu k hS', Option.bind_some, if_neg c2, pj_wri (by omega)]; rfl
      by_cases c3 : pj_pc (S : Int) = ((bs_B Y).length : Int)
      case neg =>
        refine go y u ?_ hu (skip fun _ _ x => c3 x)
        unfold fO_chooseRow_16b fO_chooseRow_90
        rw [if_neg (by rw [e7, hpw]; omega), o_fits hpu hn hS', htu, if_pos c1, Option.bind_some, if_neg (by decide), o_worth hpu k hS', Option.bind_some, if_pos c2, xq_bitCount (by omega) (by omega), Option.bind_some, if_neg c3, pj_wri (by omega)]; rfl
      obtain ⟨n1, n2, n3⟩ := cnd S (by omega) c1 c2 c3
      obtain ⟨u1, l1, l2, l3⟩ := o_lay k (F := ((bs_B Y).length : Int)) (by omega) (bs_B Y).length S 8 (bs_t Y) 0 u hpu (by rw [htu]; exact ht) (by omega) (Or.inr rfl) t0 (by rw [htu]; exact c1.2) c3 (by omega)
      rw [htu] at l2
      generalize bs_tr Y (bs_tab v) (bs_B Y).length S 8 (bs_t Y) = tr at n1 n2 n3 l2
      have hu1 : ∀ kk i s, kk ≠ 40 → kk ≠ 41 → u1 kk i s = v kk i s := fun kk i s a1 a2 => (l3 kk i s (by omega)).trans (hu kk i s a1 a2)
      have hlay : fO_layTrial S ((bs_B Y).length : Int) u = some u1 := by
        unfold fO_layTrial
        rw [hpu.1.2.1]
        exact l1
      have l40 : ∀ j : Nat, j < (bs_B Y).length → u1 40 0 j = (tr.getD j 0 : Int) := fun j hj => by
        have := l2 j hj
        rw [show ((0 : Nat) : Int) + (j : Int) = j by omega] at this
        exact this
      have l41 : ∀ j : Int, u1 41 0 j = u 41 0 j := fun j => l3 41 0 j (by omega)
      have body : ∀ z, (if y = 0 then fO_chooseRow_74 (bs_w Y (bs_B Y)) ((bs_B Y).length : Int) S u1 else (fO_trialIsAhead ((bs_B Y).length : Int) u1).bind fun p14 => if p14 = 0 then fO_chooseRow_90 (bs_w Y (bs_B Y)) ((bs_B Y).length : Int) y S u1 else fO_chooseRow_74 (bs_w Y (bs_B Y)) ((bs_B Y).length : Int) S u1) = z → fO_chooseRow_16b (bs_w Y (bs_B Y)) ((bs_B Y).length : Int) y S u = z := fun z hz => by
        rw [← hz]
        unfold fO_chooseRow_16b
        rw [if_neg (by rw [e7, hpw]; omega), o_fits hpu hn hS', htu, if_pos c1, Option.bind_some, if_neg (by decide), o_worth hpu k hS', Option.bind_some, if_pos c2, xq_bitCount (by omega) (by omega), Option.bind_some, if_pos c3, hlay, Option.bind_some]
      have h74 : fO_chooseRow_74 (bs_w Y (bs_B Y)) ((bs_B Y).length : Int) S u1 = some (Sum.inl (1, ((S + 1 : Nat) : Int), pj_cpy u1 40 0 0 41 0 0 ((bs_B Y).length : Int))) := by
        unfold fO_chooseRow_74 fO_chooseRow_90
        rw [if_pos (by omega), pj_wri (by omega)]; rfl
      have htake : (S0 < S + 1 → bs_lx tr (bs_B Y)) → ∃ r : List Nat, r.length = (bs_B Y).length ∧ bs_lx (bs_B Y) r ∧ (S0 < S + 1 → bs_lx r (bs_B Y)) ∧ ∀ j : Nat, j < (bs_B Y).length → pj_cpy u1 40 0 0 41 0 0 ((bs_B Y).length : Int) 41 0 j = (r.getD j 0 : Int) := fun hh => ⟨tr, n2, n1, hh, fun j hj => by rw [pj_cat (by omega) (by omega)]; exact l40 j hj⟩
      have hcpy : ∀ kk i s, kk ≠ 40 → kk ≠ 41 → pj_cpy u1 40 0 0 41 0 0 ((bs_B Y).length : Int) kk i s = v kk i s := fun kk i s a1 a2 => (pj_cne (by omega)).trans (hu1 kk i s a1 a2)
      rcases hr with ⟨a1, a2⟩ | ⟨a1, r, r1, r2, r3, r4⟩
      · refine go 1 _ (body _ (by rw [if_pos a1]; exact h74)) hcpy (Or.inr ⟨rfl, htake (fun x => n3 (by omega))⟩)
      · obtain ⟨z, z1, z2, z3, z4⟩ := o_ahead (F := ((bs_B Y).length : Int)) (by omega) tr r 0 u1 (by omega) (by omega) (fun j hj => by
          rw [show ((0 : Nat) : Int) + (j : Int) = j by omega]
          exact ⟨l40 j (by omega), (l41 j).trans (r4 j (by omega))⟩)
        have hah : fO_trialIsAhead ((bs_B Y).length : Int) u1 = some z := z1
        by_cases cz : z = 0
        · refine go y u1 (body _ ?_) hu1 (Or.inr ⟨a1, r, r1, r2, fun hlt => ?_, fun j hj => (l41 j).trans (r4 j hj)⟩)
          · rw [if_neg (by omega), hah, Option.bind_some, if_pos cz]
            unfold fO_chooseRow_90
            rw [pj_wri (by omega)]; rfl
          · by_cases e : S0 < S
            · exact r3 e
            · exact bs_lx_trans (z3 cz) (n3 (by omega)) (by omega)
        · refine go 1 _ (body _ ?_) hcpy (Or.inr ⟨rfl, htake (fun hlt => ?_)⟩)
          · rw [if_neg (by omega), hah, Option.bind_some, if_neg cz]
            exact h74
          · by_cases e : S0 < S
            · exact bs_lx_trans (z4 (by omega)) (r3 e) (by omega)
            · exact n3 (by omega)
  obtain ⟨v', p1, p2⟩ := key (2 ^ bs_n Y) 0 (by omega) 0 v (fun _ _ _ _ _ => rfl) (Or.inl ⟨rfl, by omega⟩)
  exact ⟨v', p1, p2⟩
end
