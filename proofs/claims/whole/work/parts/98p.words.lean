/-! WORDS, as the model knows them -/
/-- the words of the model, in its order; where each stands among the class's; where each begins -/
def tk_kd : List (List Nat) := [[98, 101, 97, 99, 104], [116, 105, 100, 101], [109, 111, 111, 110], [102, 105, 110, 100, 101, 114], [102, 105, 110, 100], [112, 101, 98, 98, 108, 101], [100, 117, 101, 108], [97, 116], [112, 97, 99, 101], [112, 101, 98, 98, 108, 101, 115], [119, 111, 114, 116, 104], [111, 102], [111, 110], [110, 111, 110, 101], [102, 105, 114, 115, 116], [108, 97, 115, 116], [115, 104, 97, 114, 101], [116, 111], [103, 111], [115, 101, 116], [119, 97, 105, 116], [108, 105, 102, 116], [103, 117, 108, 108], [119, 97, 118, 101], [119, 104, 101, 110], [108, 111, 111, 112], [101, 110, 100], [115, 116, 111, 112], [108, 101, 97, 100, 115], [102, 114, 101, 101]]
def tk_kx (i : Nat) : Nat := [0, 1, 2, 3, 7, 8, 9, 4, 10, 5, 11, 12, 6, 13, 14, 15, 16, 17, 18, 19, 20, 21, 22, 23, 24, 28, 29, 25, 26, 27].getD i 0
def tk_ks (m : Nat) : Nat := [1, 7, 12, 17, 24, 29, 36, 41, 44, 49, 57, 63, 66, 69, 74, 80, 85, 91, 94, 97, 101, 106, 111, 116, 121, 126, 131, 135, 140, 146, 151].getD m 0
def tk_k (m : Nat) : List Nat := tk_kd.getD m []
theorem tk_kx_d : ∀ i : Fin 30, tk_kx i.val < 30 ∧ tk_k (tk_kx i.val) = tk_w i.val := by decide +kernel
theorem tk_kx_s : ∀ m : Fin 30, ∃ i : Fin 30, tk_kx i.val = m.val := by decide +kernel
theorem tk_k_i : ∀ m m' : Fin 30, tk_k m.val = tk_k m'.val → m = m' := by decide +kernel
theorem tk_ks_d : ∀ m : Fin 30, tk_ks (m.val + 1) = tk_ks m.val + (tk_k m.val).length + 1 ∧ tk_ks m.val + (tk_k m.val).length + 1 ≤ 151 ∧ 1 ≤ tk_ks m.val ∧ 1 ≤ (tk_k m.val).length ∧ (tk_k m.val).length ≤ 8 := by decide +kernel
theorem tk_ch_d : ∀ m : Fin 30, ∀ i : Fin 9, (i.val < (tk_k m.val).length → pj_sb 0 ((tk_ks m.val + i.val : Nat) : Int) = (((tk_k m.val).getD i.val 0 : Nat) : Int) ∧ 97 ≤ (tk_k m.val).getD i.val 0 ∧ (tk_k m.val).getD i.val 0 ≤ 122) ∧ (i.val = (tk_k m.val).length → pj_sb 0 ((tk_ks m.val + i.val : Nat) : Int) = 32) := by decide +kernel
theorem tk_sb_d : ∀ j : Fin 151, pj_and (pj_sb 0 (j.val : Int)) 255 % 65536 = pj_sb 0 (j.val : Int) ∧ 0 ≤ pj_sb 0 (j.val : Int) ∧ pj_sb 0 (j.val : Int) < 65536 := by decide +kernel
theorem m_char {j : Int} (w : pj_W) (h0 : 0 ≤ j) (h1 : j < 151) : fStr_charAt4 j w = some (pj_sb 0 j) := by
  obtain ⟨a, b, c⟩ := tk_sb_d ⟨j.toNat, by omega⟩
  have e : ((j.toNat : Nat) : Int) = j := by omega
  dsimp only at a b c
  rw [e] at a b c
  have ec : fStr_checkIndex j 151 w = some () := by
    unfold fStr_checkIndex fPre_checkIndex
    rw [if_neg (by omega), if_pos h1, Option.bind_some]
  have el : fStr_isLatin14 w = some 1 := rfl
  unfold fStr_charAt4 fS1_charAt4
  rw [el, Option.bind_some, if_neg (by decide), ec, Option.bind_some, if_pos ⟨h0, h1⟩, a, if_pos ⟨b, c⟩, Option.bind_some, if_pos ⟨b, c⟩]
theorem m_len (w : pj_W) : fStr_length4 w = some 151 := by
  have el : fStr_coder4 w = some 0 := rfl
  unfold fStr_length4
  rw [el, Option.bind_some]
  have : pj_shr 151 0 = 151 := by decide +kernel
  rw [this]
theorem tk_ls_g {B : Int → Int} {p : Int} {m i : Nat} (hi : i < m) : (tk_ls B p m)[i]? = some (B (p + i)).toNat := by
  unfold tk_ls
  rw [List.getElem?_map, List.getElem?_range hi]
  rfl
theorem tk_ls_eq {B : Int → Int} {p : Int} {m : Nat} {l : List Nat} (hl : l.length = m) (h : ∀ i : Nat, i < m → (B (p + i)).toNat = l.getD i 0) : tk_ls B p m = l := by
  refine List.ext_getElem? (fun i => ?_)
  by_cases hi : i < m
  · have h3 := h i hi
    have h2 : i < l.length := by omega
    rw [List.getD_eq_getElem?_getD, List.getElem?_eq_getElem h2, Option.getD_some] at h3
    rw [tk_ls_g hi, List.getElem?_eq_getElem h2, h3]
  · rw [List.getElem?_eq_none (by rw [tk_ls_len]; omega), List.getElem?_eq_none (by omega)]
theorem tk_ls_at {B : Int → Int} {p : Int} {m : Nat} {l : List Nat} (h : tk_ls B p m = l) {i : Nat} (hi : i < m) : (B (p + i)).toNat = l.getD i 0 := by
  subst h
  rw [List.getD_eq_getElem?_getD, tk_ls_g hi, Option.getD_some]
/-- one word of the text is compared -/
theorem m_word {v : pj_W} {B : Int → Int} {n P E : Int} (t : tk_M v B n) (h13 : v 26 0 13 = P) (h14 : v 26 0 14 = E) (h0 : 0 ≤ P) (hr : tk_run tk_sm B n P E) {m : Nat} (hm : m < 30) : (tk_ls B P (E - P).toNat = tk_k m → fM_inWords_14b v m (tk_ks m) = some (.inr (m : Int))) ∧ (tk_ls B P (E - P).toNat ≠ tk_k m → fM_inWords_14b v m (tk_ks m) = some (.inl (((m + 1 : Nat) : Int), ((tk_ks (m + 1) : Nat) : Int)))) := by
  obtain ⟨d1, d2, d3, d4, d5⟩ := tk_ks_d ⟨m, hm⟩
  dsimp only at d1 d2 d3 d4 d5
  have hd := fun (i : Nat) (hi : i < 9) => tk_ch_d ⟨m, hm⟩ ⟨i, hi⟩
  dsimp only at hd
  obtain ⟨L, hL⟩ : ∃ L : Nat, (tk_k m).length = L := ⟨_, rfl⟩
  obtain ⟨k0, hk0⟩ : ∃ k0 : Nat, tk_ks m = k0 := ⟨_, rfl⟩
  rw [hL] at d1 d2 d4 d5
  rw [hk0] at d1 d2 d3
  simp only [hL, hk0] at hd
  have hn := t.2.2.1
  have hE := hr.2.1
  have hPE := hr.1
  have start : fM_inWords_14b v m (tk_ks m) = fM_inWords_68 m k0 ((k0 + L : Nat) : Int) v (if (L : Int) = E - P then 1 else 0, k0) := by
    unfold fM_inWords_14b
    rw [hk0, m_len, Option.bind_some, if_neg (by omega)]
    have e0 : (k0 : Int) = ((k0 + 0 : Nat) : Int) := by omega
    unfold fM_inWords_25
    refine (congrArg (pj_Lp _) e0).trans ((pj_Lp_to (fun i : Nat => ((k0 + i : Nat) : Int)) L (fun i hi => ?_)).trans (pj_Lp_map ?_))
    · have := (hd i (by omega)).1 hi
      unfold fM_inWords_25b
      rw [m_char v (by omega) (by omega), Option.bind_some, if_neg (by omega), pj_wr_id (by omega) (by omega)]
      rfl
    · have := (hd L (by omega)).2 rfl
      show fM_inWords_25b _ _ v ((k0 + L : Nat) : Int) = _
      unfold fM_inWords_25b fM_inWords_63
      rw [m_char v (by omega) (by omega), Option.bind_some, if_pos (by omega), h13, h14, pj_wr_id (by omega) (by omega), pj_wr_id (by omega) (by omega), show ((k0 + L : Nat) : Int) - (k0 : Int) = L by omega]
  rw [start]
  have out0 : ∀ i : Int, pj_Lp (fun s : (Int × Int) => fM_inWords_68b m k0 ((k0 + L : Nat) : Int) v s.1 s.2) (0, i) = some (.inl (((m + 1 : Nat) : Int), ((tk_ks (m + 1) : Nat) : Int))) := fun i => by
    refine pj_Lp_map ?_
    show fM_inWords_68b m k0 ((k0 + L : Nat) : Int) v 0 i = _
    unfold fM_inWords_68b fM_inWords_115
    rw [if_pos rfl, if_pos rfl, pj_wr_id (by omega) (by omega), pj_wr_id (by omega) (by omega), d1]
    by_cases c : ((k0 + L : Nat) : Int) ≤ i
    · rw [if_pos c]; rfl
    · rw [if_neg c]; rfl
  unfold fM_inWords_68
  by_cases cl : (L : Int) = E - P
  · have hEL : (E - P).toNat = L := by omega
    rw [if_pos cl, hEL]
    have key : ∀ r i : Nat, i + r = L → (∀ j : Nat, j < i → (B (P + j)).toNat = (tk_k m).getD j 0) → (tk_ls B P L = tk_k m → pj_Lp (fun s : (Int × Int) => fM_inWords_68b m k0 ((k0 + L : Nat) : Int) v s.1 s.2) (1, ((k0 + i : Nat) : Int)) = some (.inr (m : Int))) ∧ (tk_ls B P L ≠ tk_k m → pj_Lp (fun s : (Int × Int) => fM_inWords_68b m k0 ((k0 + L : Nat) : Int) v s.1 s.2) (1, ((k0 + i : Nat) : Int)) = some (.inl (((m + 1 : Nat) : Int), ((tk_ks (m + 1) : Nat) : Int)))) := by
      intro r
      induction r with
      | zero =>
        intro i hi hj
        have hi : i = L := by omega
        subst hi
        refine ⟨fun _ => pj_Lp_map ?_, fun h => absurd (tk_ls_eq hL hj) h⟩
        show fM_inWords_68b m k0 ((k0 + i : Nat) : Int) v 1 ((k0 + i : Nat) : Int) = _
        unfold fM_inWords_68b fM_inWords_115
        rw [if_pos (by omega), if_neg (by omega)]
      | succ r ih =>
        intro i hi hj
        obtain ⟨g1, g2, g3⟩ := (hd i (by omega)).1 (by omega)
        have gs := hr.2.2.1 (P + i) (by omega) (by omega)
        unfold tk_sm at gs
        have hstep : pj_Lp (fun s : (Int × Int) => fM_inWords_68b m k0 ((k0 + L : Nat) : Int) v s.1 s.2) (1, ((k0 + i : Nat) : Int)) = pj_Lp (fun s : (Int × Int) => fM_inWords_68b m k0 ((k0 + L : Nat) : Int) v s.1 s.2) (if (((tk_k m).getD i 0 : Nat) : Int) = B (P + i) then 1 else 0, ((k0 + (i + 1) : Nat) : Int)) := by
          refine pj_Lp_st ?_
          show fM_inWords_68b m k0 ((k0 + L : Nat) : Int) v 1 ((k0 + i : Nat) : Int) = _
          unfold fM_inWords_68b fM_inWords_107
          rw [if_neg (by omega), if_neg (by decide), m_char v (by omega) (by omega), Option.bind_some, h13, pj_wr_id (x := P + ((k0 + i : Nat) : Int)) (by omega) (by omega), pj_wr_id (x := P + ((k0 + i : Nat) : Int) - (k0 : Int)) (by omega) (by omega), show P + ((k0 + i : Nat) : Int) - (k0 : Int) = P + i by omega, m_byteI t (by omega) (by omega), Option.bind_some, g1, show B (P + i) % 256 = B (P + i) by omega, pj_wr_id (by omega) (by omega)]
          rfl
        rw [hstep]
        by_cases c : (((tk_k m).getD i 0 : Nat) : Int) = B (P + i)
        · rw [if_pos c]
          exact ih (i + 1) (by omega) (fun j hj2 => by
            by_cases cj : j = i
            · rw [cj, ← c]; omega
            · exact hj j (by omega))
        · rw [if_neg c]
          exact ⟨fun h => absurd (tk_ls_at h (by omega : i < L)) (by omega), fun _ => out0 _⟩
    have := key L 0 (by omega) (fun j hj => by omega)
    exact this
  · rw [if_neg cl]
    exact ⟨fun h => absurd (congrArg List.length h) (by rw [tk_ls_len, hL]; omega), fun _ => out0 _⟩
theorem m_inWords {v : pj_W} {B : Int → Int} {n P E : Int} (t : tk_M v B n) (h13 : v 26 0 13 = P) (h14 : v 26 0 14 = E) (h0 : 0 ≤ P) (hr : tk_run tk_sm B n P E) (h12 : v 26 0 12 = 2) : (∀ i : Nat, i < 30 → tk_ls B P (E - P).toNat = tk_w i → fM_inWords v = some ((tk_kx i : Nat) : Int)) ∧ ((∀ i : Nat, i < 30 → tk_ls B P (E - P).toNat ≠ tk_w i) → fM_inWords v = some (-1)) := by
  have hw := fun {m : Nat} (hm : m < 30) => m_word t h13 h14 h0 hr hm
  have e0 : fM_inWords v = pj_Lp (fun s : (Int × Int) => fM_inWords_14b v s.1 s.2) (((0 : Nat) : Int), ((tk_ks 0 : Nat) : Int)) := by
    unfold fM_inWords
    rw [if_pos h12]
    rfl
  rw [e0]
  cases hj : pj_ff (fun m => tk_ls B P (E - P).toNat = tk_k m) 0 30 with
  | none =>
    have hno := pj_ff_none hj
    refine ⟨fun i hi h => ?_, fun _ => ?_⟩
    · obtain ⟨a, b⟩ := tk_kx_d ⟨i, hi⟩
      exact absurd (h.trans b.symm) (hno (tk_kx i) (by omega) (by dsimp only at a; omega))
    · refine (pj_Lp_fn (fun m : Nat => ((m : Int), ((tk_ks m : Nat) : Int))) hj (fun m hm hp => (hw hm).2 hp)).trans (pj_Lp_end ?_)
      show fM_inWords_14b v ((30 : Nat) : Int) ((tk_ks 30 : Nat) : Int) = _
      unfold fM_inWords_14b
      rw [m_len, Option.bind_some, if_pos (by decide)]
  | some m =>
    obtain ⟨_, m2, m3, _⟩ := pj_ff_some hj
    have hres := pj_Lp_fs (body := fun s : (Int × Int) => fM_inWords_14b v s.1 s.2) (fun m : Nat => ((m : Int), ((tk_ks m : Nat) : Int))) hj (fun m hm hp => (hw hm).2 hp) (r := (m : Int)) (fun hm2 hp => (hw hm2).1 hp)
    refine ⟨fun i hi h => ?_, fun hno => ?_⟩
    · obtain ⟨a, b⟩ := tk_kx_d ⟨i, hi⟩
      dsimp only at a b
      have e := tk_k_i ⟨m, by omega⟩ ⟨tk_kx i, a⟩ (by dsimp only; rw [b, ← h, ← m3])
      have e2 : m = tk_kx i := congrArg Fin.val e
      rw [← e2]
      exact hres
    · obtain ⟨i, hi⟩ := tk_kx_s ⟨m, by omega⟩
      have b := (tk_kx_d i).2
      dsimp only at hi
      rw [hi] at b
      exact absurd (m3.trans b) (hno i.val i.isLt)
