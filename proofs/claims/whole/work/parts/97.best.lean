/-! ROUNDS: the best of all, by numbers alone -/
/-- how many finds; which are there; how far; from when on; what worth; till when; how many at most; from when -/
abbrev bs_Y : Type := Nat × (Nat → Bool) × (Nat → Nat → Int) × (Nat → Int) × (Nat → Int) × Int × Int × Int
abbrev bs_n (Y : bs_Y) : Nat := Y.1
abbrev bs_th (Y : bs_Y) : Nat → Bool := Y.2.1
abbrev bs_ds (Y : bs_Y) : Nat → Nat → Int := Y.2.2.1
abbrev bs_o (Y : bs_Y) : Nat → Int := Y.2.2.2.1
abbrev bs_g (Y : bs_Y) : Nat → Int := Y.2.2.2.2.1
abbrev bs_T (Y : bs_Y) : Int := Y.2.2.2.2.2.1
abbrev bs_H (Y : bs_Y) : Int := Y.2.2.2.2.2.2.1
abbrev bs_t (Y : bs_Y) : Int := Y.2.2.2.2.2.2.2
def bs_mn (Y : bs_Y) (a : Nat) (m : Int) (d : Nat) : Int := max (m + bs_ds Y a d) (bs_o Y d)
def bs_end (Y : bs_Y) (l : List Nat) : Nat × Int := l.foldl (fun e d => (d, bs_mn Y e.1 e.2 d)) (8, bs_t Y)
theorem bs_end_s (Y : bs_Y) (l : List Nat) (d : Nat) : bs_end Y (l ++ [d]) = (d, bs_mn Y (bs_end Y l).1 (bs_end Y l).2 d) := by
  unfold bs_end
  rw [List.foldl_append]; rfl
abbrev bs_can (Y : bs_Y) (l : List Nat) (d : Nat) : Prop := d ∉ l ∧ (l.length : Int) < bs_H Y ∧ bs_th Y d = true ∧ bs_mn Y (bs_end Y l).1 (bs_end Y l).2 d ≤ bs_T Y
def bs_w (Y : bs_Y) (l : List Nat) : Int := l.foldl (fun a d => a + bs_g Y d) 0
theorem bs_w_s (Y : bs_Y) (l : List Nat) (d : Nat) : bs_w Y (l ++ [d]) = bs_w Y l + bs_g Y d := by
  unfold bs_w
  rw [List.foldl_append]; rfl
def bs_ky (Y : bs_Y) (l : List Nat) : Int := 16 * bs_w Y l - l.length
def bs_up (Y : bs_Y) (b s : List Nat) : List Nat := if bs_ky Y b < bs_ky Y s then s else b
def bs_E (Y : bs_Y) : Nat → List Nat → List Nat → List Nat → List Nat
  | 0, _, b, _ => b
  | k + 1, l, b, cs => cs.foldl (fun b d => if bs_can Y l d then bs_E Y k (l ++ [d]) (bs_up Y b (l ++ [d])) (List.range (bs_n Y)) else b) b
/-- a row goes on -/
def bs_x (Y : bs_Y) : List Nat → List Nat → Prop
  | _, [] => True
  | l, d :: t => d < bs_n Y ∧ bs_can Y l d ∧ bs_x Y (l ++ [d]) t
def bs_lx : List Nat → List Nat → Prop
  | [], _ => True
  | _ :: _, [] => False
  | a :: s, b :: t => a < b ∨ a = b ∧ bs_lx s t
theorem bs_lx_refl (s : List Nat) : bs_lx s s := by
  induction s with
  | nil => trivial
  | cons a s ih => exact Or.inr ⟨rfl, ih⟩
theorem bs_lx_app (l : List Nat) {s t : List Nat} (h : bs_lx s t) : bs_lx (l ++ s) (l ++ t) := by
  induction l with
  | nil => exact h
  | cons a l ih => exact Or.inr ⟨rfl, ih⟩
theorem bs_lx_trans {s t u : List Nat} (h : bs_lx s t) (h' : bs_lx t u) (hl : s.length = t.length) : bs_lx s u := by
  induction s generalizing t u with
  | nil => trivial
  | cons a s ih =>
    cases t with
    | nil => exact absurd h id
    | cons b t =>
      cases u with
      | nil => exact absurd h' id
      | cons c u =>
        rcases h with h | ⟨h, h2⟩
        · rcases h' with h' | ⟨h', _⟩
          · exact Or.inl (by omega)
          · exact Or.inl (by omega)
        · rcases h' with h' | ⟨h', h3⟩
          · exact Or.inl (by omega)
          · exact Or.inr ⟨by omega, ih h2 h3 (Nat.succ.inj hl)⟩
theorem bs_lx_anti {s t : List Nat} (h : bs_lx s t) (h' : bs_lx t s) : s = t := by
  induction s generalizing t with
  | nil =>
    cases t with
    | nil => rfl
    | cons b t => exact absurd h' id
  | cons a s ih =>
    cases t with
    | nil => exact absurd h id
    | cons b t =>
      rcases h with h | ⟨h, h2⟩
      · rcases h' with h' | ⟨h', _⟩ <;> omega
      · rcases h' with h' | ⟨_, h3⟩
        · omega
        · rw [h, ih h2 h3]
theorem bs_nodup_len {n : Nat} {l : List Nat} (hn : l.Nodup) (h : ∀ x ∈ l, x < n) : l.length ≤ n := by
  have := List.Nodup.length_le_of_subset (l₂ := List.range n) hn (fun x hx => List.mem_range.mpr (h x hx))
  rwa [List.length_range] at this
theorem bs_snoc_nodup {l : List Nat} {d : Nat} (hn : l.Nodup) (h : d ∉ l) : (l ++ [d]).Nodup := by
  rw [List.nodup_append]
  refine ⟨hn, ?_, fun a ha b hb => ?_⟩
  · rw [List.nodup_cons]; exact ⟨List.not_mem_nil, List.nodup_nil⟩
  · rw [List.mem_singleton] at hb
    subst hb
    exact fun e => h (e ▸ ha)
theorem bs_snoc_lt {l : List Nat} {d n : Nat} (h : ∀ x ∈ l, x < n) (hd : d < n) : ∀ x ∈ l ++ [d], x < n := fun x hx => by
  rcases List.mem_append.mp hx with h1 | h1
  · exact h x h1
  · rw [List.mem_singleton.mp h1]; exact hd
/-- what comes out of going through all rows that go on from l by one of cs -/
def bs_sp (Y : bs_Y) (l b : List Nat) (cs : List Nat) (b' : List Nat) : Prop :=
  (b' = b ∨ ∃ d t, d ∈ cs ∧ bs_x Y l (d :: t) ∧ b' = l ++ d :: t) ∧ bs_ky Y b ≤ bs_ky Y b' ∧ (∀ d t, d ∈ cs → bs_x Y l (d :: t) → bs_ky Y (l ++ d :: t) ≤ bs_ky Y b') ∧
  (b' = b ∨ bs_ky Y b < bs_ky Y b' ∧ ∀ d t, d ∈ cs → bs_x Y l (d :: t) → bs_ky Y (l ++ d :: t) = bs_ky Y b' → bs_lx b' (l ++ d :: t))
theorem bs_sp_nil (Y : bs_Y) (l b : List Nat) : bs_sp Y l b [] b := ⟨Or.inl rfl, Int.le_refl _, fun d t h => absurd h List.not_mem_nil, Or.inl rfl⟩
theorem bs_sp_no (Y : bs_Y) (l b : List Nat) {cs : List Nat} (h : ∀ d ∈ cs, ¬ bs_can Y l d) : bs_sp Y l b cs b := ⟨Or.inl rfl, Int.le_refl _, fun d t hd hx => absurd hx.2.1 (h d hd), Or.inl rfl⟩
/-- one that can be, and all behind it -/
theorem bs_sp_one {Y : bs_Y} {l b : List Nat} {d : Nat} (hd : d < bs_n Y) (hc : bs_can Y l d) {b1 : List Nat} (h : bs_sp Y (l ++ [d]) (bs_up Y b (l ++ [d])) (List.range (bs_n Y)) b1) : bs_sp Y l b [d] b1 := by
  obtain ⟨h1, h2, h3, h4⟩ := h
  have e : ∀ t, l ++ [d] ++ t = l ++ d :: t := fun t => by rw [List.append_assoc]; rfl
  have hu : bs_ky Y b ≤ bs_ky Y (bs_up Y b (l ++ [d])) ∧ bs_ky Y (l ++ [d]) ≤ bs_ky Y (bs_up Y b (l ++ [d])) := by
    unfold bs_up
    split <;> omega
  have hall : ∀ t, bs_x Y l (d :: t) → bs_ky Y (l ++ d :: t) ≤ bs_ky Y b1 := fun t hx => by
    cases t with
    | nil => exact Int.le_trans hu.2 h2
    | cons d2 t =>
      have := h3 d2 t (List.mem_range.mpr hx.2.2.1) hx.2.2
      rwa [e] at this
  refine ⟨?_, Int.le_trans hu.1 h2, fun d' t hd' hx => ?_, ?_⟩
  · rcases h1 with h1 | ⟨d2, t, hd2, hx, h1⟩
    · rw [h1]
      unfold bs_up
      split
      · exact Or.inr ⟨d, [], List.mem_singleton.mpr rfl, ⟨hd, hc, trivial⟩, rfl⟩
      · exact Or.inl rfl
    · exact Or.inr ⟨d, d2 :: t, List.mem_singleton.mpr rfl, ⟨hd, hc, hx⟩, by rw [h1, e]⟩
  · rw [List.mem_singleton.mp hd'] at hx ⊢
    exact hall t hx
  · rcases h4 with h4 | ⟨h4, h5⟩
    · rw [h4]
      unfold bs_up
      by_cases c : bs_ky Y b < bs_ky Y (l ++ [d])
      · rw [if_pos c]
        refine Or.inr ⟨c, fun d' t hd' hx he => ?_⟩
        rw [List.mem_singleton.mp hd']
        exact bs_lx_app l (Or.inr ⟨rfl, trivial⟩)
      · rw [if_neg c]; exact Or.inl rfl
    · refine Or.inr ⟨Int.lt_of_le_of_lt hu.1 h4, fun d' t hd' hx he => ?_⟩
      rw [List.mem_singleton.mp hd'] at hx he ⊢
      cases t with
      | nil =>
        exfalso
        have := hu.2
        omega
      | cons d2 t =>
        have := h5 d2 t (List.mem_range.mpr hx.2.2.1) hx.2.2 (by rw [e]; exact he)
        rwa [e] at this
theorem bs_sp_app {Y : bs_Y} {l b b1 b2 : List Nat} {d : Nat} {cs : List Nat} (hs : ∀ x ∈ cs, d < x) (h : bs_sp Y l b [d] b1) (h' : bs_sp Y l b1 cs b2) : bs_sp Y l b (d :: cs) b2 := by
  obtain ⟨p1, p2, p3, p4⟩ := h
  obtain ⟨q1, q2, q3, q4⟩ := h'
  refine ⟨?_, Int.le_trans p2 q2, fun d' t hd' hx => ?_, ?_⟩
  · rcases q1 with q1 | ⟨d2, t, hd2, hx, q1⟩
    · rw [q1]
      rcases p1 with p1 | ⟨d2, t, hd2, hx, p1⟩
      · exact Or.inl p1
      · exact Or.inr ⟨d2, t, List.mem_cons.mpr (Or.inl (List.mem_singleton.mp hd2)), hx, p1⟩
    · exact Or.inr ⟨d2, t, List.mem_cons.mpr (Or.inr hd2), hx, q1⟩
  · rcases List.mem_cons.mp hd' with e | e
    · exact Int.le_trans (p3 d' t (List.mem_singleton.mpr e) hx) q2
    · exact q3 d' t e hx
  · rcases q4 with q4 | ⟨q4, q5⟩
    · rw [q4]
      rcases p4 with p4 | ⟨p4, p5⟩
      · exact Or.inl p4
      · refine Or.inr ⟨p4, fun d' t hd' hx he => ?_⟩
        rcases List.mem_cons.mp hd' with e | e
        · exact p5 d' t (List.mem_singleton.mpr e) hx he
        · rcases p1 with p1 | ⟨d2, t2, hd2, hx2, p1⟩
          · rw [p1] at p4; omega
          · rw [p1, List.mem_singleton.mp hd2]
            exact bs_lx_app l (Or.inl (hs d' e))
    · refine Or.inr ⟨Int.lt_of_le_of_lt p2 q4, fun d' t hd' hx he => ?_⟩
      rcases List.mem_cons.mp hd' with e | e
      · exfalso
        have := p3 d' t (List.mem_singleton.mpr e) hx
        omega
      · exact q5 d' t e hx he
theorem bs_E_sp (Y : bs_Y) (k : Nat) : ∀ (l b cs : List Nat), bs_n Y ≤ k + l.length → l.Nodup → (∀ x ∈ l, x < bs_n Y) → cs.Pairwise (· < ·) → (∀ x ∈ cs, x < bs_n Y) → bs_sp Y l b cs (bs_E Y k l b cs) := by
  induction k with
  | zero =>
    intro l b cs hk hn hl _ hcs
    refine bs_sp_no Y l b (fun d hd hc => ?_)
    have h1 : (d :: l).Nodup := List.nodup_cons.mpr ⟨hc.1, hn⟩
    have := bs_nodup_len h1 (n := bs_n Y) (fun x hx => by
      rcases List.mem_cons.mp hx with e | e
      · rw [e]; exact hcs d hd
      · exact hl x e)
    rw [List.length_cons] at this
    omega
  | succ k ih =>
    intro l b cs hk hn hl hs hcs
    induction cs generalizing b with
    | nil => exact bs_sp_nil Y l b
    | cons d cs ih2 =>
      have hs' := List.pairwise_cons.mp hs
      have hd := hcs d (List.mem_cons.mpr (Or.inl rfl))
      have hone : bs_sp Y l b [d] (if bs_can Y l d then bs_E Y k (l ++ [d]) (bs_up Y b (l ++ [d])) (List.range (bs_n Y)) else b) := by
        by_cases c : bs_can Y l d
        · rw [if_pos c]
          refine bs_sp_one hd c (ih _ _ _ (by rw [List.length_append]; simp; omega) (bs_snoc_nodup hn c.1) (bs_snoc_lt hl hd) List.pairwise_lt_range (fun x hx => List.mem_range.mp hx))
        · rw [if_neg c]
          exact bs_sp_no Y l b (fun x hx => by rw [List.mem_singleton.mp hx]; exact c)
      exact bs_sp_app hs'.1 hone (ih2 _ hs'.2 (fun x hx => hcs x (List.mem_cons.mpr (Or.inr hx))))
/-- the best of all rows -/
def bs_B (Y : bs_Y) : List Nat := bs_E Y 9 [] [] (List.range (bs_n Y))
theorem bs_B_sp (Y : bs_Y) (hn : bs_n Y ≤ 8) : bs_x Y [] (bs_B Y) ∧ (∀ s, bs_x Y [] s → bs_ky Y s ≤ bs_ky Y (bs_B Y)) ∧ (bs_B Y = [] ∨ ∀ s, bs_x Y [] s → bs_ky Y s = bs_ky Y (bs_B Y) → bs_lx (bs_B Y) s) := by
  obtain ⟨h1, h2, h3, h4⟩ := bs_E_sp Y 9 [] [] (List.range (bs_n Y)) (by simp; omega) List.nodup_nil (fun x hx => absurd hx List.not_mem_nil) List.pairwise_lt_range (fun x hx => List.mem_range.mp hx)
  refine ⟨?_, fun s hs => ?_, ?_⟩
  · rcases h1 with h1 | ⟨d, t, _, hx, h1⟩
    · show bs_x Y [] (bs_E Y 9 [] [] (List.range (bs_n Y)))
      rw [h1]; trivial
    · show bs_x Y [] (bs_E Y 9 [] [] (List.range (bs_n Y)))
      rw [h1]; exact hx
  · cases s with
    | nil => exact h2
    | cons d t => exact h3 d t (List.mem_range.mpr hs.1) hs
  · rcases h4 with h4 | ⟨h4, h5⟩
    · exact Or.inl h4
    · refine Or.inr fun s hs he => ?_
      cases s with
      | nil =>
        exfalso
        have h6 : bs_ky Y [] = bs_ky Y (bs_E Y 9 [] [] (List.range (bs_n Y))) := he
        omega
      | cons d t => exact h5 d t (List.mem_range.mpr hs.1) hs he
