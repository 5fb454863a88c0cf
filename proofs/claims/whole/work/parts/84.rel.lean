/-! ALL THAT CLASS AND MODEL HAVE IN COMMON, behind n calls -/
def pj_slot (w : pj_W) (m : Int) : pj_Q := fun x => w 60 0 (1400 * m + x)
def pj_RC (w : pj_W) : Prop := (w 10 0 10 = 0 ∧ w 10 0 11 = 1 ∨ w 10 0 10 = 1 ∧ w 10 0 11 = 0) ∧ (w 10 0 12 = 0 ∧ w 10 0 13 = 1 ∨ w 10 0 12 = 1 ∧ w 10 0 13 = 0)
def pj_RS (w : pj_W) : Prop := w 10 0 15 = w 26 0 2 ∧ w 10 0 16 = w 26 0 3 ∧ w 10 0 17 = w 26 0 4
def pj_RE (w : pj_W) : Prop := w 12 0 5 = w 26 0 10 ∧ 0 ≤ w 12 0 5 ∧ w 12 0 5 ≤ 900 ∧ w 12 0 6 = w 26 0 16 ∧ w 12 0 7 = w 26 0 17 ∧ (∀ i, 0 ≤ i → i < w 12 0 5 → w 30 0 i = w 65 0 i ∧ -128 ≤ w 30 0 i ∧ w 30 0 i < 128) ∧ tk_W w
def pj_RM (w : pj_W) : Prop := w 10 0 14 = w 26 0 37 ∧ 0 ≤ w 10 0 14 ∧ w 10 0 14 ≤ 3 ∧ ∀ m, 0 ≤ m → m < w 10 0 14 → pj_RX (2 + m) (2 + m) (14 * (m + 1)) w (pj_slot w (m + 1))
def pj_RO (w : pj_W) : Prop := w 17 0 6 = w 26 0 30 ∧ 0 ≤ w 17 0 6 ∧ w 17 0 6 ≤ 8 ∧ ∀ k, 0 ≤ k → k < w 17 0 6 → w 41 0 k = w 71 0 k
def pj_RH (w : pj_W) : Prop := w 10 0 9 = w 26 0 36 ∧ (w 10 0 9 = 0 ∨ w 10 0 9 = 1) ∧ ∀ k, 0 ≤ k → k < 5 → w 44 0 k = w 74 0 k
def pj_RL (n : Int) (w : pj_W) : Prop := ∀ k : Int, 0 ≤ k → k < 60 → (w 43 0 k = w 72 0 k + 1 ∧ 0 ≤ w 72 0 k ∧ w 72 0 k ≤ 98) ∨ (-n ≤ w 43 0 k ∧ w 43 0 k ≤ 0 ∧ w 72 0 k = 0)
def pj_wds : List Int := [34636833, 665797, 13614577, 6591474, 6501, 1]
def pj_REL (n : Int) (w : pj_W) : Prop := pj_RC w ∧ pj_RX (w 10 0 10) (w 10 0 12) 0 w (w 60 0) ∧ pj_RS w ∧ pj_RT w ∧ pj_RE w ∧ pj_RM w ∧ pj_RO w ∧ pj_RH w ∧ pj_RL n w
/-- both answer alike, and have again all in common -/
def pj_cB (n : Int) (w : pj_W) (fx fm : pj_W → Option (Int × pj_W)) : Prop := ∃ a w1 w2, fx w = some (a, w1) ∧ fm w1 = some (a, w2) ∧ pj_REL n w2
theorem pj_RM.ex {w w' : pj_W} (R : pj_RM w) (h14 : w' 10 0 14 = w 10 0 14) (h37 : w' 26 0 37 = w 26 0 37) (h : ∀ m, 0 ≤ m → m < w 10 0 14 → ∀ k i s, pj_ix (2 + m) (2 + m) (14 * (m + 1)) k i s → w' k i s = w k i s) (h60 : ∀ m x, 0 ≤ m → m < w 10 0 14 → 0 ≤ x → x < 1400 → w' 60 0 (1400 * (m + 1) + x) = w 60 0 (1400 * (m + 1) + x)) : pj_RM w' := by
  obtain ⟨e, h0, h3, hR⟩ := R
  refine ⟨by rw [h14, h37]; exact e, by rw [h14]; exact h0, by rw [h14]; exact h3, fun m hm hm2 => ?_⟩
  rw [h14] at hm2
  exact ((hR m hm hm2).ex (h m hm hm2)).exA (fun x x0 x1 => h60 m x hm hm2 x0 x1)
theorem pj_RL.mono {n n' : Int} {w w' : pj_W} (R : pj_RL n w) (hn : n ≤ n') (h43 : ∀ s, w' 43 0 s = w 43 0 s) (h72 : ∀ s, w' 72 0 s = w 72 0 s) : pj_RL n' w' := fun k h0 h1 => by
  rw [h43, h72]
  rcases R k h0 h1 with h | h
  · exact Or.inl h
  · exact Or.inr ⟨by omega, h.2⟩
/-- cells of the current beach and its days, in class and model -/
def pj_cu (w : pj_W) (k : Nat) (i s : Int) : Prop := pj_ix (w 10 0 10) (w 10 0 12) 0 k i s ∨ (k = 60 ∧ i = 0 ∧ 0 ≤ s ∧ s < 1400)
/-- what nothing but deeds and texts changes -/
theorem pj_REL.ex {n n' : Int} {w w' : pj_W} (R : pj_REL n w) (hn : n ≤ n') (X : pj_RX (w 10 0 10) (w 10 0 12) 0 w' (w' 60 0)) (S : pj_RS w')
    (h : ∀ k i s, k ≠ 60 → ¬ pj_in (w 10 0 10) k i → ¬ (k = 10 ∧ i = 0 ∧ (s = 15 ∨ s = 16 ∨ s = 17)) → ¬ (k = 26 ∧ i = 0 ∧ (s = 2 ∨ s = 3 ∨ s = 4)) → w' k i s = w k i s) (h60 : ∀ x, 1400 ≤ x → x < 5600 → w' 60 0 x = w 60 0 x) : pj_REL n' w' := by
  obtain ⟨C, _, _, T, E, M, O, H, L⟩ := R
  have h10 : ∀ s, s ≠ 15 → s ≠ 16 → s ≠ 17 → w' 10 0 s = w 10 0 s := fun s h1 h2 h3 => h 10 0 s (by decide) (by unfold pj_in; omega) (by omega) (by omega)
  have h26 : ∀ s, s ≠ 2 → s ≠ 3 → s ≠ 4 → w' 26 0 s = w 26 0 s := fun s h1 h2 h3 => h 26 0 s (by decide) (by unfold pj_in; omega) (by omega) (by omega)
  have hk : ∀ k i s, k ≠ 60 → k ≠ 10 → k ≠ 26 → k ≠ 19 → k ≠ 22 → k ≠ 23 → k ≠ 45 → k ≠ 46 → w' k i s = w k i s := fun k i s a1 a2 a3 a4 a5 a6 a7 a8 => h k i s a1 (by unfold pj_in; omega) (by omega) (by omega)
  refine ⟨?_, ?_, S, T.ex (fun k i s hh => hk k i s (by omega) (by omega) (by omega) (by omega) (by omega) (by omega) (by omega) (by omega)), ?_, ?_, ?_, ?_, L.mono hn (fun s => hk 43 0 s (by decide) (by decide) (by decide) (by decide) (by decide) (by decide) (by decide) (by decide)) (fun s => hk 72 0 s (by decide) (by decide) (by decide) (by decide) (by decide) (by decide) (by decide) (by decide))⟩
  · unfold pj_RC
    rw [h10 10 (by decide) (by decide) (by decide), h10 11 (by decide) (by decide) (by decide), h10 12 (by decide) (by decide) (by decide), h10 13 (by decide) (by decide) (by decide)]; exact C
  · rw [h10 10 (by decide) (by decide) (by decide), h10 12 (by decide) (by decide) (by decide)]; exact X
  · unfold pj_RE at E ⊢
    rw [hk 12 0 5 (by decide) (by decide) (by decide) (by decide) (by decide) (by decide) (by decide) (by decide), hk 12 0 6 (by decide) (by decide) (by decide) (by decide) (by decide) (by decide) (by decide) (by decide), hk 12 0 7 (by decide) (by decide) (by decide) (by decide) (by decide) (by decide) (by decide) (by decide), h26 10 (by decide) (by decide) (by decide), h26 16 (by decide) (by decide) (by decide), h26 17 (by decide) (by decide) (by decide)]
    refine ⟨E.1, E.2.1, E.2.2.1, E.2.2.2.1, E.2.2.2.2.1, fun i h0 h1 => ?_, fun i hi => (hk 34 0 i (by decide) (by decide) (by decide) (by decide) (by decide) (by decide) (by decide) (by decide)).trans (E.2.2.2.2.2.2 i hi)⟩
    rw [hk 30 0 i (by decide) (by decide) (by decide) (by decide) (by decide) (by decide) (by decide) (by decide), hk 65 0 i (by decide) (by decide) (by decide) (by decide) (by decide) (by decide) (by decide) (by decide)]
    exact E.2.2.2.2.2.1 i h0 h1
  · refine M.ex (h10 14 (by decide) (by decide) (by decide)) (h26 37 (by decide) (by decide) (by decide)) (fun m h0 h1 k i s hix => ?_) (fun m x h0 h1 h2 h3 => h60 _ (by omega) (by have := M.2.2.1; omega))
    unfold pj_ix pj_in at hix
    have hb : w 10 0 10 = 0 ∨ w 10 0 10 = 1 := by rcases C.1 with c | c <;> omega
    exact h k i s (by omega) (by unfold pj_in; omega) (by omega) (by omega)
  · unfold pj_RO at O ⊢
    rw [hk 17 0 6 (by decide) (by decide) (by decide) (by decide) (by decide) (by decide) (by decide) (by decide), h26 30 (by decide) (by decide) (by decide)]
    refine ⟨O.1, O.2.1, O.2.2.1, fun k h0 h1 => ?_⟩
    rw [hk 41 0 k (by decide) (by decide) (by decide) (by decide) (by decide) (by decide) (by decide) (by decide), hk 71 0 k (by decide) (by decide) (by decide) (by decide) (by decide) (by decide) (by decide) (by decide)]
    exact O.2.2.2 k h0 h1
  · unfold pj_RH at H ⊢
    rw [h10 9 (by decide) (by decide) (by decide), h26 36 (by decide) (by decide) (by decide)]
    refine ⟨H.1, H.2.1, fun k h0 h1 => ?_⟩
    rw [hk 44 0 k (by decide) (by decide) (by decide) (by decide) (by decide) (by decide) (by decide) (by decide), hk 74 0 k (by decide) (by decide) (by decide) (by decide) (by decide) (by decide) (by decide) (by decide)]
    exact H.2.2 k h0 h1
/-- a question -/
theorem pj_cB.q {n n' : Int} {w : pj_W} (R : pj_REL n w) (hn : n ≤ n') {fx fm : pj_W → Option (Int × pj_W)} {r : Int × Int} (hx : fx w = pj_aX r w) (hm : ∀ u : pj_W, u 60 0 = w 60 0 → fm u = pj_aM r u) : pj_cB n' w fx fm := by
  have h6 : pj_set w 10 0 15 r.2 60 0 = w 60 0 := funext fun s => pj_sne (by omega)
  refine ⟨r.1, _, _, hx, hm _ h6, R.ex hn ?_ ⟨?_, ?_, ?_⟩ (fun k i s a1 a2 a3 a4 => ?_) (fun x a1 a2 => ?_)⟩
  · have e : pj_set (pj_set w 10 0 15 r.2) 26 0 2 r.2 60 0 = w 60 0 := funext fun s => by rw [pj_sne (by omega), pj_sne (by omega)]
    rw [e]
    refine R.2.1.ex (fun k i s hk => ?_)
    unfold pj_ix pj_in at hk
    rw [pj_sne (by omega), pj_sne (by omega)]
  · rw [pj_sne (by omega), pj_set_at, pj_set_at]
  · rw [pj_sne (by omega), pj_sne (by omega), pj_sne (by omega), pj_sne (by omega)]; exact R.2.2.1.2.1
  · rw [pj_sne (by omega), pj_sne (by omega), pj_sne (by omega), pj_sne (by omega)]; exact R.2.2.1.2.2
  · rw [pj_sne (by omega), pj_sne (by omega)]
  · rw [pj_sne (by omega), pj_sne (by omega)]
/-- a fraction -/
theorem pj_cB.o {n n' : Int} {w : pj_W} (R : pj_REL n w) (hn : n ≤ n') {fx fm : pj_W → Option (Int × pj_W)} (h : pj_oB w fx fm) : pj_cB n' w fx fm := by
  obtain ⟨a, w1, w2, hx, hm, hS, ho⟩ := h
  have e : w2 60 0 = w 60 0 := funext fun s => ho 60 0 s (by unfold pj_onO; omega)
  refine ⟨a, w1, w2, hx, hm, R.ex hn ?_ hS (fun k i s a1 a2 a3 a4 => ho k i s (by unfold pj_onO; omega)) (fun x a1 a2 => ho 60 0 x (by unfold pj_onO; omega))⟩
  rw [e]
  refine R.2.1.ex (fun k i s hk => ho k i s ?_)
  unfold pj_ix pj_in at hk
  unfold pj_onO
  omega
/-- trays -/
theorem pj_cB.t {n n' : Int} {w : pj_W} (R : pj_REL n w) (hn : n ≤ n') {fx fm : pj_W → Option (Int × pj_W)} (h : pj_tB w fx fm) : pj_cB n' w fx fm := by
  obtain ⟨a, w1, w2, hx, hm, hT, hS, ho⟩ := h
  have e : w2 60 0 = w 60 0 := funext fun s => ho 60 0 s (by unfold pj_onT; omega)
  have R' := R
  obtain ⟨C, X, S, T, E, M, O, H, L⟩ := R
  have R2 : pj_REL n' (fun k i s => if k = 25 ∨ k = 52 ∨ k = 62 ∨ k = 63 ∨ k = 64 then w k i s else w2 k i s) := by
    have e6 : (fun k i s => if k = 25 ∨ k = 52 ∨ k = 62 ∨ k = 63 ∨ k = 64 then w k i s else w2 k i s : pj_W) 60 0 = w 60 0 := funext fun s => (if_neg (by omega)).trans (congrFun e s)
    refine R'.ex hn ?_ ⟨?_, ?_, ?_⟩ (fun k i s a1 a2 a3 a4 => ?_) (fun x a1 a2 => ?_)
    · refine Eq.mp (congrArg (pj_RX (w 10 0 10) (w 10 0 12) 0 _) e6.symm) ?_
      refine X.ex (fun k i s hk => ?_)
      unfold pj_ix pj_in at hk
      exact (if_neg (by omega)).trans (ho k i s (by unfold pj_onT; omega))
    · exact (if_neg (by omega)).trans (hS.trans (if_neg (by omega)).symm)
    · exact (if_neg (by omega)).trans ((ho 10 0 16 (by unfold pj_onT; omega)).trans (S.2.1.trans ((ho 26 0 3 (by unfold pj_onT; omega)).symm.trans (if_neg (by omega)).symm)))
    · exact (if_neg (by omega)).trans ((ho 10 0 17 (by unfold pj_onT; omega)).trans (S.2.2.trans ((ho 26 0 4 (by unfold pj_onT; omega)).symm.trans (if_neg (by omega)).symm)))
    · by_cases c : k = 25 ∨ k = 52 ∨ k = 62 ∨ k = 63 ∨ k = 64
      · exact if_pos c
      · exact (if_neg c).trans (ho k i s (by unfold pj_onT; omega))
    · exact congrFun e6 x
  have R3 : pj_RX (w2 10 0 10) (w2 10 0 12) 0 w2 (w2 60 0) := by
    rw [ho 10 0 10 (by unfold pj_onT; omega), ho 10 0 12 (by unfold pj_onT; omega), e]
    refine X.ex (fun k i s hk => ho k i s ?_)
    unfold pj_ix pj_in at hk
    unfold pj_onT
    omega
  obtain ⟨C2, X2, S2, T2, E2, M2, O2, H2, L2⟩ := R2
  refine ⟨a, w1, w2, hx, hm, C2, R3, S2, hT, E2, ?_, O2, H2, L2⟩
  exact M.ex (ho 10 0 14 (by unfold pj_onT; omega)) (ho 26 0 37 (by unfold pj_onT; omega)) (fun m h0 h1 k i s hix => ho k i s (by unfold pj_ix pj_in at hix; unfold pj_onT; omega)) (fun m x h0 h1 h2 h3 => ho 60 0 _ (by unfold pj_onT; omega))
/-- a deed -/
theorem pj_cB.d {n n' : Int} {w : pj_W} (R : pj_REL n w) (hn : n ≤ n') {fx fm : pj_W → Option (Int × pj_W)} {r : pj_R} (hx : pj_xD w (fx w) r) (hm : ∀ u : pj_W, u 60 0 = w 60 0 → fm u = pj_aP r u) (hI : pj_IV r.2.2) (hK : pj_IK r.2.2) (hd : pj_kd (w 60 0) r.2.2)
    (hN : ∀ w', fx w = some (if r.1 = 0 then r.2.1 else -1, pj_set w' 10 0 15 r.1) → (∀ i, w' 22 i 0 = w 22 i 0) ∧ (∀ i, w' 23 i 2 = w 23 i 2)) : pj_cB n' w fx fm := by
  obtain ⟨w', e, hB, hf, _⟩ := hx
  obtain ⟨C, X, S, T, E, M, O, H, L⟩ := R
  have R' : pj_REL n w := ⟨C, X, S, T, E, M, O, H, L⟩
  obtain ⟨n22, n23⟩ := hN w' e
  have o1 : ∀ k i s, ¬ pj_in (w 10 0 10) k i → ¬ (k = 10 ∧ i = 0 ∧ s = 15) → pj_set w' 10 0 15 r.1 k i s = w k i s := fun k i s h1 h2 => by rw [pj_sne h2]; exact hf k i s h1
  have e6 : pj_set w' 10 0 15 r.1 60 0 = w 60 0 := funext fun s => o1 60 0 s (by unfold pj_in; omega) (by omega)
  have hv : ∀ k i s, k ≠ 60 → ¬ (k = 26 ∧ i = 0 ∧ s = 2) → pj_set (pj_put (pj_set w' 10 0 15 r.1) r.2.2) 26 0 2 r.1 k i s = pj_set w' 10 0 15 r.1 k i s := fun k i s h1 h2 => by
    rw [pj_sne h2]
    unfold pj_put
    rw [if_neg (by omega)]
  have e62 : pj_set (pj_put (pj_set w' 10 0 15 r.1) r.2.2) 26 0 2 r.1 60 0 = r.2.2 := by
    funext s
    rw [pj_sne (by omega), pj_put_at]
  refine ⟨_, _, _, e, hm _ e6, R'.ex hn ?_ ⟨?_, ?_, ?_⟩ (fun k i s a1 a2 a3 a4 => ?_) (fun x a1 a2 => ?_)⟩
  · rw [e62]
    obtain ⟨I, K, RB, RN, RD⟩ := X
    refine ⟨hI, hK, ?_, ?_, ?_⟩
    · refine hB.ex hI (fun k i s hk => ?_)
      unfold pj_in at hk
      rw [hv k i s (by omega) (by omega), pj_sne (by omega)]
    · have h1 := hd 1 (by omega)
      have h2 := hd 2 (by omega)
      refine (RN.exA h1 h2).ex hI (fun i h0 h1 => ?_) (fun i h0 h1 => ?_) (fun s h0 h1 => ?_)
      · rw [hv 22 i 0 (by decide) (by omega), pj_sne (by omega), n22]
      · rw [hv 23 i 2 (by decide) (by omega), pj_sne (by omega), n23]
      · rw [hv 61 0 s (by decide) (by omega), o1 61 0 s (by unfold pj_in; omega) (by omega)]
    · refine (RD.exA (hd 0 (by omega)) (hd 1 (by omega)) (hd 2 (by omega)) (hd 9 (by omega)) (fun x h0 h1 => hd x (by omega))).ex (fun k s hk => ?_)
      rw [hv k _ s (by omega) (by omega), o1 k _ s (by unfold pj_in; omega) (by omega)]
  · rw [hv 10 0 15 (by decide) (by omega), pj_set_at, pj_set_at]
  · rw [hv 10 0 16 (by decide) (by omega), hv 26 0 3 (by decide) (by omega), o1 10 0 16 (by unfold pj_in; omega) (by omega), o1 26 0 3 (by unfold pj_in; omega) (by omega)]; exact S.2.1
  · rw [hv 10 0 17 (by decide) (by omega), hv 26 0 4 (by decide) (by omega), o1 10 0 17 (by unfold pj_in; omega) (by omega), o1 26 0 4 (by unfold pj_in; omega) (by omega)]; exact S.2.2
  · rw [hv k i s a1 (by omega), o1 k i s a2 (by omega)]
  · rw [e62]; exact hd x (by omega)
