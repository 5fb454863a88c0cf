/-! ROUNDS: sets of finds, by numbers alone -/
/-- from a place and a minute on -/
def bs_c (Y : bs_Y) : Nat → Int → List Nat → Prop
  | _, m, [] => m ≤ bs_T Y
  | a, m, d :: l => bs_th Y d = true ∧ bs_c Y d (bs_mn Y a m d) l
abbrev bs_ok (Y : bs_Y) : Prop := bs_n Y ≤ 8 ∧ (∀ a d, 0 ≤ bs_ds Y a d ∧ bs_ds Y a d ≤ 1000) ∧ (∀ d, 0 ≤ bs_o Y d ∧ bs_o Y d ≤ 1000) ∧ 0 ≤ bs_T Y ∧ bs_T Y ≤ 1000 ∧ 0 ≤ bs_t Y ∧ bs_t Y ≤ bs_T Y ∧ 0 ≤ bs_H Y ∧ ∀ d, 0 ≤ bs_g Y d ∧ bs_g Y d ≤ 999
theorem bs_mn_ge {Y : bs_Y} (k : bs_ok Y) (a : Nat) (m : Int) (d : Nat) : m ≤ bs_mn Y a m d := by
  have := k.2.1 a d
  unfold bs_mn
  omega
theorem bs_c_le {Y : bs_Y} (k : bs_ok Y) {l : List Nat} : ∀ {a : Nat} {m : Int}, bs_c Y a m l → m ≤ bs_T Y := by
  induction l with
  | nil => exact fun h => h
  | cons d l ih =>
    intro a m h
    exact Int.le_trans (bs_mn_ge k a m d) (ih h.2)
theorem bs_x_iff {Y : bs_Y} (k : bs_ok Y) (t : List Nat) : ∀ l : List Nat, (bs_end Y l).2 ≤ bs_T Y → (bs_x Y l t ↔ (∀ x ∈ t, x < bs_n Y) ∧ t.Nodup ∧ (∀ x ∈ t, x ∉ l) ∧ (t = [] ∨ (l.length : Int) + t.length ≤ bs_H Y) ∧ bs_c Y (bs_end Y l).1 (bs_end Y l).2 t) := by
  induction t with
  | nil =>
    intro l hl
    refine ⟨fun _ => ⟨fun x hx => absurd hx List.not_mem_nil, List.nodup_nil, fun x hx => absurd hx List.not_mem_nil, Or.inl rfl, hl⟩, fun _ => trivial⟩
  | cons d t ih =>
    intro l hl
    constructor
    · rintro ⟨h1, ⟨h2, h3, h4, h5⟩, h6⟩
      have e := bs_end_s Y l d
      obtain ⟨g1, g2, g3, g4, g5⟩ := (ih (l ++ [d]) (by rw [e]; exact h5)).mp h6
      rw [e] at g5
      refine ⟨fun x hx => ?_, List.nodup_cons.mpr ⟨fun hd => g3 d hd (List.mem_append.mpr (Or.inr (List.mem_singleton.mpr rfl))), g2⟩, fun x hx => ?_, Or.inr ?_, h4, g5⟩
      · rcases List.mem_cons.mp hx with e2 | e2
        · rw [e2]; exact h1
        · exact g1 x e2
      · rcases List.mem_cons.mp hx with e2 | e2
        · rw [e2]; exact h2
        · exact fun hxl => g3 x e2 (List.mem_append.mpr (Or.inl hxl))
      · rcases g4 with g4 | g4
        · rw [g4]; simp only [List.length_cons, List.length_nil]; omega
        · simp only [List.length_append, List.length_cons, List.length_nil] at g4 ⊢; omega
    · rintro ⟨h1, h2, h3, h4, h5, h6⟩
      have e := bs_end_s Y l d
      have hd := List.mem_cons.mpr (Or.inl rfl : d = d ∨ d ∈ t)
      have hn := List.nodup_cons.mp h2
      have hT := bs_c_le k h6
      have hlen : (l.length : Int) + (d :: t).length ≤ bs_H Y := by
        rcases h4 with h4 | h4
        · cases h4
        · exact h4
      refine ⟨h1 d hd, ⟨h3 d hd, ?_, h5, hT⟩, (ih (l ++ [d]) (by rw [e]; exact hT)).mpr ⟨fun x hx => h1 x (List.mem_cons.mpr (Or.inr hx)), hn.2, fun x hx hxl => ?_, ?_, by rw [e]; exact h6⟩⟩
      · simp only [List.length_cons] at hlen; omega
      · rcases List.mem_append.mp hxl with e2 | e2
        · exact h3 x (List.mem_cons.mpr (Or.inr hx)) e2
        · rw [List.mem_singleton.mp e2] at hx; exact hn.1 hx
      · refine Or.inr ?_
        simp only [List.length_append, List.length_cons, List.length_nil] at hlen ⊢; omega
/-- a set of finds and a row of just these -/
def bs_st (S : Nat) (l : List Nat) : Prop := l.Nodup ∧ ∀ j, S.testBit j = true ↔ j ∈ l
theorem bs_bit_d : ∀ S : Fin 256, ∀ i : Fin 8, S.val.testBit i.val = true → 2 ^ i.val ≤ S.val ∧ (∀ j : Fin 8, (S.val - 2 ^ i.val).testBit j.val = (S.val.testBit j.val && decide (j.val ≠ i.val))) ∧ pj_pc ((S.val - 2 ^ i.val : Nat) : Int) = pj_pc (S.val : Int) - 1 := by decide +kernel
theorem bs_bit_hi {S j : Nat} (h : S < 256) (hj : 8 ≤ j) : S.testBit j = false := Nat.testBit_lt_two_pow (Nat.lt_of_lt_of_le h (Nat.pow_le_pow_right (n := 2) (by decide) hj))
theorem bs_bit {S i : Nat} (h : S < 256) (hb : S.testBit i = true) : i < 8 ∧ 2 ^ i ≤ S ∧ (∀ j, (S - 2 ^ i).testBit j = true ↔ S.testBit j = true ∧ j ≠ i) ∧ pj_pc ((S - 2 ^ i : Nat) : Int) = pj_pc (S : Int) - 1 ∧ S - 2 ^ i < S := by
  have hi : i < 8 := by
    rcases Nat.lt_or_ge i 8 with c | c
    · exact c
    · rw [bs_bit_hi h c] at hb; cases hb
  obtain ⟨h1, h2, h3⟩ := bs_bit_d ⟨S, h⟩ ⟨i, hi⟩ hb
  have hlt : S - 2 ^ i < S := by
    have hp := Nat.two_pow_pos i
    have h1' : 2 ^ i ≤ S := h1
    omega
  refine ⟨hi, h1, fun j => ?_, h3, hlt⟩
  rcases Nat.lt_or_ge j 8 with c | c
  · have := h2 ⟨j, c⟩
    simp only at this
    rw [this, Bool.and_eq_true, decide_eq_true_eq]
  · rw [bs_bit_hi (by omega) c, bs_bit_hi h c]
    exact ⟨fun x => (by cases x), fun x => (by cases x.1)⟩
theorem bs_st_cons {S d : Nat} {l : List Nat} (hS : S < 256) : bs_st S (d :: l) ↔ S.testBit d = true ∧ bs_st (S - 2 ^ d) l := by
  constructor
  · rintro ⟨h1, h2⟩
    have hn := List.nodup_cons.mp h1
    have hb := (h2 d).mpr (List.mem_cons.mpr (Or.inl rfl))
    have hB := bs_bit hS hb
    refine ⟨hb, hn.2, fun j => (hB.2.2.1 j).trans ⟨fun x => ?_, fun x => ⟨(h2 j).mpr (List.mem_cons.mpr (Or.inr x)), fun e => hn.1 (e ▸ x)⟩⟩⟩
    rcases List.mem_cons.mp ((h2 j).mp x.1) with e | e
    · exact absurd e x.2
    · exact e
  · rintro ⟨hb, h1, h2⟩
    have hB := bs_bit hS hb
    refine ⟨List.nodup_cons.mpr ⟨fun x => ((hB.2.2.1 d).mp ((h2 d).mpr x)).2 rfl, h1⟩, fun j => ⟨fun x => ?_, fun x => ?_⟩⟩
    · by_cases e : j = d
      · exact List.mem_cons.mpr (Or.inl e)
      · exact List.mem_cons.mpr (Or.inr ((h2 j).mp ((hB.2.2.1 j).mpr ⟨x, e⟩)))
    · rcases List.mem_cons.mp x with e | e
      · rw [e]; exact hb
      · exact ((hB.2.2.1 j).mp ((h2 j).mpr e)).1
theorem bs_st_nil {S : Nat} : bs_st S [] ↔ S = 0 := by
  constructor
  · rintro ⟨_, h⟩
    refine Nat.eq_of_testBit_eq fun j => ?_
    rw [Nat.zero_testBit]
    cases hb : S.testBit j with
    | false => rfl
    | true => exact absurd ((h j).mp hb) List.not_mem_nil
  · rintro rfl
    exact ⟨List.nodup_nil, fun j => ⟨fun x => (by rw [Nat.zero_testBit] at x; cases x), fun x => absurd x List.not_mem_nil⟩⟩
theorem bs_st_pc {l : List Nat} : ∀ {S : Nat}, S < 256 → bs_st S l → pj_pc (S : Int) = l.length := by
  induction l with
  | nil =>
    intro S hS h
    rw [bs_st_nil.mp h]; decide
  | cons d l ih =>
    intro S hS h
    obtain ⟨hb, h2⟩ := (bs_st_cons hS).mp h
    have hB := bs_bit hS hb
    have := ih (by omega) h2
    rw [List.length_cons]
    omega
/-- what a set is worth -/
def bs_ws (Y : bs_Y) (S : Nat) (n : Nat) : Int := pj_sum (fun i => if S.testBit i then bs_g Y i else 0) n
theorem bs_w_cons (Y : bs_Y) (d : Nat) (l : List Nat) : bs_w Y (d :: l) = bs_g Y d + bs_w Y l := by
  have h : ∀ (l : List Nat) (z : Int), l.foldl (fun a d => a + bs_g Y d) z = z + l.foldl (fun a d => a + bs_g Y d) 0 := by
    intro l
    induction l with
    | nil => intro z; exact (Int.add_zero z).symm
    | cons a l ih =>
      intro z
      rw [List.foldl_cons, List.foldl_cons, ih, ih (0 + bs_g Y a)]
      omega
  unfold bs_w
  rw [List.foldl_cons, h]
  omega
theorem bs_st_w {Y : bs_Y} {l : List Nat} : ∀ {S : Nat}, S < 256 → bs_st S l → (∀ x ∈ l, x < bs_n Y) → bs_ws Y S (bs_n Y) = bs_w Y l := by
  induction l with
  | nil =>
    intro S hS h hl
    rw [bs_st_nil.mp h]
    unfold bs_ws
    exact pj_sum_0 (fun i hi => by rw [Nat.zero_testBit]; rfl)
  | cons d l ih =>
    intro S hS h hl
    obtain ⟨hb, h2⟩ := (bs_st_cons hS).mp h
    have hB := bs_bit hS hb
    have h3 := ih (by omega) h2 (fun x hx => hl x (List.mem_cons.mpr (Or.inr hx)))
    rw [bs_w_cons, ← h3]
    unfold bs_ws
    have hup := pj_sum_up (g := fun i => if (S - 2 ^ d).testBit i then bs_g Y i else 0) (g' := fun i => if S.testBit i then bs_g Y i else 0) (n := bs_n Y) (j := d) (c := bs_g Y d) (hl d (List.mem_cons.mpr (Or.inl rfl))) (fun i hi hne => ?_) ?_
    · rw [hup]; omega
    · by_cases c : S.testBit i = true
      · rw [if_pos c, if_pos ((hB.2.2.1 i).mpr ⟨c, hne⟩)]
      · rw [if_neg c, if_neg (fun x => c ((hB.2.2.1 i).mp x).1)]
    · rw [if_pos hb, if_neg (fun x => ((hB.2.2.1 d).mp x).2 rfl)]; omega
/-- the class's table: until when it can be -/
def bs_tv (Y : bs_Y) (S a : Nat) (v : Int) : Prop := v ≤ bs_T Y ∧ -1000000 ≤ v ∧ ∀ m, 0 ≤ m → (m ≤ v ↔ ∃ l, bs_st S l ∧ (∀ x ∈ l, x < bs_n Y) ∧ bs_c Y a m l)
def bs_oo (Y : bs_Y) (d : Nat) : Int := if bs_th Y d then bs_o Y d else 1000000
def bs_lf (Y : bs_Y) (tab : Nat → Nat → Int) (S a : Nat) (n : Nat) : Int := pj_fo (fun i v => if S.testBit i then (if tab (S - 2 ^ i) i < bs_oo Y i then v else max v (tab (S - 2 ^ i) i - bs_ds Y a i)) else v) n (-1000000)
theorem bs_lf_le {Y : bs_Y} {tab : Nat → Nat → Int} {S a n : Nat} {m : Int} (hm : 0 ≤ m) : m ≤ bs_lf Y tab S a n ↔ ∃ i, i < n ∧ S.testBit i = true ∧ bs_oo Y i ≤ tab (S - 2 ^ i) i ∧ m + bs_ds Y a i ≤ tab (S - 2 ^ i) i := by
  induction n with
  | zero =>
    constructor
    · intro h
      have : bs_lf Y tab S a 0 = -1000000 := rfl
      omega
    · rintro ⟨i, hi, _⟩; omega
  | succ n ih =>
    have hs : bs_lf Y tab S a (n + 1) = if S.testBit n then (if tab (S - 2 ^ n) n < bs_oo Y n then bs_lf Y tab S a n else max (bs_lf Y tab S a n) (tab (S - 2 ^ n) n - bs_ds Y a n)) else bs_lf Y tab S a n := rfl
    have up : (∃ i, i < n ∧ S.testBit i = true ∧ bs_oo Y i ≤ tab (S - 2 ^ i) i ∧ m + bs_ds Y a i ≤ tab (S - 2 ^ i) i) → ∃ i, i < n + 1 ∧ S.testBit i = true ∧ bs_oo Y i ≤ tab (S - 2 ^ i) i ∧ m + bs_ds Y a i ≤ tab (S - 2 ^ i) i := fun ⟨i, hi, h⟩ => ⟨i, by omega, h⟩
    have down : (¬ (S.testBit n = true ∧ bs_oo Y n ≤ tab (S - 2 ^ n) n ∧ m + bs_ds Y a n ≤ tab (S - 2 ^ n) n)) → (∃ i, i < n + 1 ∧ S.testBit i = true ∧ bs_oo Y i ≤ tab (S - 2 ^ i) i ∧ m + bs_ds Y a i ≤ tab (S - 2 ^ i) i) → ∃ i, i < n ∧ S.testBit i = true ∧ bs_oo Y i ≤ tab (S - 2 ^ i) i ∧ m + bs_ds Y a i ≤ tab (S - 2 ^ i) i := fun hne ⟨i, hi, h⟩ => by
      by_cases e : i = n
      · subst e; exact absurd h hne
      · exact ⟨i, by omega, h⟩
    rw [hs]
    by_cases c1 : S.testBit n = true
    · rw [if_pos c1]
      by_cases c2 : tab (S - 2 ^ n) n < bs_oo Y n
      · rw [if_pos c2]
        exact ih.trans ⟨up, down (fun x => by omega)⟩
      · rw [if_neg c2]
        by_cases c3 : m + bs_ds Y a n ≤ tab (S - 2 ^ n) n
        · exact ⟨fun _ => ⟨n, by omega, c1, by omega, c3⟩, fun _ => by omega⟩
        · have : m ≤ max (bs_lf Y tab S a n) (tab (S - 2 ^ n) n - bs_ds Y a n) ↔ m ≤ bs_lf Y tab S a n := by omega
          exact this.trans (ih.trans ⟨up, down (fun x => c3 x.2.2)⟩)
    · rw [if_neg c1]
      exact ih.trans ⟨up, down (fun x => c1 x.1)⟩
theorem bs_lf_in {Y : bs_Y} (k : bs_ok Y) {tab : Nat → Nat → Int} {S a n : Nat} (h : ∀ i, i < n → S.testBit i = true → tab (S - 2 ^ i) i ≤ bs_T Y) : -1000000 ≤ bs_lf Y tab S a n ∧ bs_lf Y tab S a n ≤ bs_T Y := by
  have hT := k.2.2.2.1
  refine pj_fo_inv (fun (i : Nat) (v : Int) => -1000000 ≤ v ∧ v ≤ bs_T Y) ⟨by omega, by omega⟩ (fun i hi v hv => ?_)
  have hds := k.2.1 a i
  split
  · rename_i hb
    have := h i hi hb
    split
    · exact hv
    · omega
  · exact hv
theorem bs_tv_0 {Y : bs_Y} (k : bs_ok Y) (a : Nat) : bs_tv Y 0 a (bs_T Y) := by
  have hT := k.2.2.2.1
  refine ⟨Int.le_refl _, by omega, fun m hm => ⟨fun h => ⟨[], bs_st_nil.mpr rfl, fun x hx => absurd hx List.not_mem_nil, h⟩, ?_⟩⟩
  rintro ⟨l, h1, h2, h3⟩
  exact bs_c_le k h3
theorem bs_tv_s {Y : bs_Y} (k : bs_ok Y) {tab : Nat → Nat → Int} {S a : Nat} (hS : S < 2 ^ bs_n Y) (h0 : S ≠ 0) (h : ∀ S' a', S' < S → a' < bs_n Y → bs_tv Y S' a' (tab S' a')) : bs_tv Y S a (bs_lf Y tab S a (bs_n Y)) := by
  have h256 : S < 256 := Nat.lt_of_lt_of_le hS (Nat.pow_le_pow_right (n := 2) (by decide) k.1)
  have hsub : ∀ i, S.testBit i = true → S - 2 ^ i < S ∧ i < 9 := fun i hb => by
    have := bs_bit h256 hb
    have := Nat.two_pow_pos i
    omega
  have hlim : ∀ i, S.testBit i = true → i < bs_n Y := fun i hb => by
    rcases Nat.lt_or_ge i (bs_n Y) with c | c
    · exact c
    · rw [Nat.testBit_lt_two_pow (Nat.lt_of_lt_of_le hS (Nat.pow_le_pow_right (n := 2) (by decide) c))] at hb; cases hb
  have hin := bs_lf_in k (tab := tab) (S := S) (a := a) (n := bs_n Y) (fun i hi hb => (h _ i (hsub i hb).1 (hlim i hb)).1)
  refine ⟨hin.2, hin.1, fun m hm => (bs_lf_le hm).trans ⟨?_, ?_⟩⟩
  · rintro ⟨i, hi, hb, ho, hd⟩
    have hv := h _ i (hsub i hb).1 (hlim i hb)
    have hT := k.2.2.2.2.1
    have hth : bs_th Y i = true := by
      cases e : bs_th Y i with
      | true => rfl
      | false =>
        unfold bs_oo at ho
        rw [e, if_neg (by decide)] at ho
        have := hv.1
        omega
    have hoo : bs_oo Y i = bs_o Y i := by unfold bs_oo; rw [if_pos hth]
    have hds := k.2.1 a i
    obtain ⟨l, l1, l2, l3⟩ := (hv.2.2 (bs_mn Y a m i) (by unfold bs_mn; omega)).mp (by unfold bs_mn; omega)
    exact ⟨i :: l, (bs_st_cons h256).mpr ⟨hb, l1⟩, fun x hx => by
      rcases List.mem_cons.mp hx with e | e
      · rw [e]; exact hi
      · exact l2 x e, hth, l3⟩
  · rintro ⟨l, l1, l2, l3⟩
    cases l with
    | nil => exact absurd (bs_st_nil.mp l1) h0
    | cons d l =>
      obtain ⟨hb, l1'⟩ := (bs_st_cons h256).mp l1
      have hv := h _ d (hsub d hb).1 (hlim d hb)
      have hds := k.2.1 a d
      have := (hv.2.2 (bs_mn Y a m d) (by unfold bs_mn; omega)).mpr ⟨l, l1', fun x hx => l2 x (List.mem_cons.mpr (Or.inr hx)), l3.2⟩
      have hoo : bs_oo Y d = bs_o Y d := by unfold bs_oo; rw [if_pos l3.1]
      unfold bs_mn at this
      exact ⟨d, l2 d (List.mem_cons.mpr (Or.inl rfl)), hb, by omega, by omega⟩
/-- the first of a set's rows -/
def bs_nx (Y : bs_Y) (tab : Nat → Nat → Int) (S a : Nat) (m : Int) : Nat := match pj_ff (fun i => S.testBit i = true ∧ max (m + bs_ds Y a i) (bs_oo Y i) ≤ tab (S - 2 ^ i) i) 0 (bs_n Y) with | some i => i | none => 0
def bs_tr (Y : bs_Y) (tab : Nat → Nat → Int) : Nat → Nat → Nat → Int → List Nat
  | 0, _, _, _ => []
  | k + 1, S, a, m => bs_nx Y tab S a m :: bs_tr Y tab k (S - 2 ^ bs_nx Y tab S a m) (bs_nx Y tab S a m) (max (m + bs_ds Y a (bs_nx Y tab S a m)) (bs_oo Y (bs_nx Y tab S a m)))
theorem bs_tr_sp {Y : bs_Y} (k : bs_ok Y) {tab : Nat → Nat → Int} (h : ∀ S' a', S' < 2 ^ bs_n Y → a' < bs_n Y ∨ a' = 8 → bs_tv Y S' a' (tab S' a')) (q : Nat) : ∀ (S a : Nat) (m : Int), S < 2 ^ bs_n Y → a < bs_n Y ∨ a = 8 → 0 ≤ m → m ≤ tab S a → pj_pc (S : Int) = q →
    bs_st S (bs_tr Y tab q S a m) ∧ (∀ x ∈ bs_tr Y tab q S a m, x < bs_n Y) ∧ bs_c Y a m (bs_tr Y tab q S a m) ∧ ∀ l, bs_st S l → (∀ x ∈ l, x < bs_n Y) → bs_c Y a m l → bs_lx (bs_tr Y tab q S a m) l := by
  have h256 : 2 ^ bs_n Y ≤ 256 := Nat.pow_le_pow_right (n := 2) (by decide) k.1
  induction q with
  | zero =>
    intro S a m hS ha hm hmt hpc
    have e0 : S = 0 := by
      have := (pj_pc_in (s := (S : Int)) (by omega) (by omega)).2.2
      omega
    subst e0
    exact ⟨bs_st_nil.mpr rfl, fun x hx => absurd hx List.not_mem_nil, Int.le_trans hmt (h 0 a hS ha).1, fun l _ _ _ => trivial⟩
  | succ q ih =>
    intro S a m hS ha hm hmt hpc
    obtain ⟨l0, s0, x0, c0⟩ := ((h S a hS ha).2.2 m hm).mp hmt
    have key : ∀ d l, bs_st S (d :: l) → (∀ x ∈ d :: l, x < bs_n Y) → bs_c Y a m (d :: l) → d < bs_n Y ∧ S.testBit d = true ∧ bs_th Y d = true ∧ max (m + bs_ds Y a d) (bs_oo Y d) ≤ tab (S - 2 ^ d) d ∧ bs_st (S - 2 ^ d) l ∧ bs_c Y d (bs_mn Y a m d) l := fun d l hs hx hc => by
      obtain ⟨hb, hs'⟩ := (bs_st_cons (by omega)).mp hs
      have hB := bs_bit (by omega) hb
      have hv := h (S - 2 ^ d) d (by omega) (Or.inl (hx d (List.mem_cons.mpr (Or.inl rfl))))
      have hds := k.2.1 a d
      have := (hv.2.2 (bs_mn Y a m d) (by unfold bs_mn; omega)).mpr ⟨l, hs', fun x hx' => hx x (List.mem_cons.mpr (Or.inr hx')), hc.2⟩
      have hoo : bs_oo Y d = bs_o Y d := by unfold bs_oo; rw [if_pos hc.1]
      unfold bs_mn at this
      exact ⟨hx d (List.mem_cons.mpr (Or.inl rfl)), hb, hc.1, by rw [hoo]; exact this, hs', hc.2⟩
    have hne : ∃ i, pj_ff (fun i => S.testBit i = true ∧ max (m + bs_ds Y a i) (bs_oo Y i) ≤ tab (S - 2 ^ i) i) 0 (bs_n Y) = some i := by
      cases hf : pj_ff (fun i => S.testBit i = true ∧ max (m + bs_ds Y a i) (bs_oo Y i) ≤ tab (S - 2 ^ i) i) 0 (bs_n Y) with
      | some i => exact ⟨i, rfl⟩
      | none =>
        cases l0 with
        | nil =>
          rw [bs_st_nil.mp s0] at hpc
          have : pj_pc ((0 : Nat) : Int) = 0 := by decide
          omega
        | cons d l =>
          obtain ⟨k1, k2, k3, k4, _⟩ := key d l s0 x0 c0
          exact absurd ⟨k2, k4⟩ (pj_ff_none hf d (by omega) (by omega))
    obtain ⟨i, hi⟩ := hne
    have hnx : bs_nx Y tab S a m = i := by unfold bs_nx; rw [hi]
    obtain ⟨_, g1, ⟨g2, g3⟩, g4⟩ := pj_ff_some hi
    have hB := bs_bit (S := S) (by omega) g2
    have hv := h (S - 2 ^ i) i (by omega) (Or.inl (by omega))
    have hT := k.2.2.2.2.1
    have hth : bs_th Y i = true := by
      cases e : bs_th Y i with
      | true => rfl
      | false =>
        unfold bs_oo at g3
        rw [e, if_neg (by decide)] at g3
        have := hv.1
        omega
    have hoo : bs_oo Y i = bs_o Y i := by unfold bs_oo; rw [if_pos hth]
    have hds := k.2.1 a i
    have hmn : max (m + bs_ds Y a i) (bs_oo Y i) = bs_mn Y a m i := by rw [hoo]; rfl
    have ht : bs_tr Y tab (q + 1) S a m = i :: bs_tr Y tab q (S - 2 ^ i) i (bs_mn Y a m i) := by
      show bs_nx Y tab S a m :: _ = _
      rw [hnx, hmn]
    rw [hmn] at g3
    obtain ⟨t1, t2, t3, t4⟩ := ih (S - 2 ^ i) i (bs_mn Y a m i) (by omega) (Or.inl (by omega)) (by unfold bs_mn; omega) g3 (by omega)
    rw [ht]
    refine ⟨(bs_st_cons (by omega)).mpr ⟨g2, t1⟩, fun x hx => ?_, ⟨hth, t3⟩, fun l hs hx hc => ?_⟩
    · rcases List.mem_cons.mp hx with e | e
      · rw [e]; omega
      · exact t2 x e
    · cases l with
      | nil =>
        rw [bs_st_nil.mp hs] at hpc
        have : pj_pc ((0 : Nat) : Int) = 0 := by decide
        omega
      | cons d l =>
        obtain ⟨k1, k2, k3, k4, k5, k6⟩ := key d l hs hx hc
        by_cases e : i = d
        · subst e
          exact Or.inr ⟨rfl, t4 l k5 (fun x hx' => hx x (List.mem_cons.mpr (Or.inr hx'))) k6⟩
        · have : ¬ d < i := fun c => g4 d (by omega) c ⟨k2, k4⟩
          exact Or.inl (by omega)
