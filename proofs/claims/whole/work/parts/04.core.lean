/-! THE PURE PICTURE: values, worlds, what of a heap stands for them -/
/-- a value: its type's number (0 int, 1 long, 9 nothing known, 10 .. a reference to that kind, below 0 null), and a number -/
abbrev pj_V : Type := Nat × Int
/-- a world: of a kind, the how-manieth, its place: the number there; 0 0 0 holds how many cells there are -/
abbrev pj_W : Type := Nat → Int → Int → Int
abbrev pj_C : Type := Nat × List pj_V × List pj_V × pj_W
/-- where it is: (its first cell, the heap ahead), (numbers of the classes, of their places), numbers of the arrays' classes, (the script's cell, its length, what it holds), the cells of texts -/
abbrev pj_G : Type := (Nat × Heap) × va_G × (Nat → ClassId) × (Nat × Nat × (Nat → Int32)) × (Nat → Nat)
def pj_wr (x : Int) : Int := (x + 2147483648) % 4294967296 - 2147483648
def pj_wl (x : Int) : Int := (x + 9223372036854775808) % 18446744073709551616 - 9223372036854775808
def pj_w8 (x : Int) : Int := (x + 128) % 256 - 128
def pj_w16 (x : Int) : Int := (x + 32768) % 65536 - 32768
theorem pj_wr_eq (x : Int) : (Int32.ofInt x).toInt = pj_wr x := by
  rw [Int32.toInt_ofInt]
  unfold pj_wr
  rw [show Int32.size = 4294967296 from rfl, Int.bmod_def]
  split <;> omega
theorem pj_wl_eq (x : Int) : (Int64.ofInt x).toInt = pj_wl x := by
  rw [Int64.toInt_ofInt]
  unfold pj_wl
  rw [show Int64.size = 18446744073709551616 from rfl, Int.bmod_def]
  split <;> omega
theorem pj_wr_in (x : Int) : -2147483648 ≤ pj_wr x ∧ pj_wr x < 2147483648 := by unfold pj_wr; omega
theorem pj_wl_in (x : Int) : -9223372036854775808 ≤ pj_wl x ∧ pj_wl x < 9223372036854775808 := by unfold pj_wl; omega
theorem pj_wr_id {x : Int} (h1 : -2147483648 ≤ x) (h2 : x < 2147483648) : pj_wr x = x := by unfold pj_wr; omega
theorem pj_wl_id {x : Int} (h1 : -9223372036854775808 ≤ x) (h2 : x < 9223372036854775808) : pj_wl x = x := by unfold pj_wl; omega
theorem pj_of (x : Int32) : Int32.ofInt x.toInt = x := Int32.ofInt_toInt x
theorem pj_ofr (x : Int) : Int32.ofInt (pj_wr x) = Int32.ofInt x := by rw [← pj_wr_eq, Int32.ofInt_toInt]
theorem pj_ofl (x : Int) : Int64.ofInt (pj_wl x) = Int64.ofInt x := by rw [← pj_wl_eq, Int64.ofInt_toInt]
/-- a number comes to a place of a world -/
def pj_set (w : pj_W) (k : Nat) (i s v : Int) : pj_W := fun k' i' s' => if k' = k ∧ i' = i ∧ s' = s then v else w k' i' s'
def pj_n (w : pj_W) : Nat := (w 0 0 0).toNat
def pj_ad (k : Nat) (i : Int) : Nat := pj_L.idxOf (k, i)
def pj_pt (t : Nat) : Nat := if t = 5 ∨ t = 6 then 0 else t
def pj_enc (g : pj_G) (v : pj_V) : Value :=
  if v.1 = 0 then .int (Int32.ofInt v.2) else if v.1 = 1 then .long (Int64.ofInt v.2) else if v.1 = 3 then .ref g.2.2.2.1.1 else if v.1 = 8 ∧ g.2.2.2.2 9 = 0 then .null else if v.1 < 10 then .ref (g.2.2.2.2 v.1) else if v.2 < 0 then .null else .ref (g.1.1 + pj_ad v.1 v.2)
def pj_okv (n : Nat) (v : pj_V) : Prop :=
  if v.1 = 0 then -2147483648 ≤ v.2 ∧ v.2 < 2147483648 else if v.1 = 1 then -9223372036854775808 ≤ v.2 ∧ v.2 < 9223372036854775808 else if v.1 < 10 then True else v.2 = -1 ∨ (0 ≤ v.2 ∧ pj_ad v.1 v.2 < n)
def pj_okt (n t : Nat) (z : Int) : Prop := pj_okv n (pj_pt t, z) ∧ (t = 5 → z = 0 ∨ z = 1) ∧ (t = 6 → -128 ≤ z ∧ z < 128)
def pj_df (t : Nat) : Int := if t < 10 then 0 else -1
def pj_ok (ph : Bool) (w : pj_W) : Prop :=
  pj_n w ≤ pj_L.length ∧ (∀ (k : Nat) (i : Int) (s : Nat), (k, i) ∈ pj_L → s < pj_sz k → pj_okt (pj_n w) (pj_tg k s) (w k i s)) ∧
  (∀ (k : Nat) (i : Int) (s : Nat), (k, i) ∈ pj_L → pj_n w ≤ pj_ad k i → s < pj_sz k → w k i s = pj_df (pj_tg k s)) ∧
  (ph = true → pj_n w = pj_L.length ∧ ∀ (k : Nat) (i : Int) (s : Nat) (t : Int), (k, i) ∈ pj_L → s < pj_sz k → pj_fi k s i = some t → w k i s = t)
/-- the cell that stands for a thing of the world -/
def pj_cell (g : pj_G) (w : pj_W) (q : Nat × Int) : va_E :=
  if pj_so q.1 = 0 then .inr (pj_ci q.1, (List.range (pj_sz q.1)).map fun s => pj_enc g (pj_pt (pj_tg q.1 s), w q.1 q.2 s))
  else if pj_so q.1 = 3 then .inl (g.2.2.1 (pj_ci q.1), pj_sz q.1, .inr (.inl fun s => Int64.ofInt (w q.1 q.2 s)))
  else if pj_so q.1 = 4 then .inl (g.2.2.1 (pj_ci q.1), pj_sz q.1, .inr (.inr (.inr (.inr fun s => if w q.1 q.2 s < 0 then none else some (g.1.1 + pj_ad (pj_tg q.1 s) (w q.1 q.2 s))))))
  else .inl (g.2.2.1 (pj_ci q.1), pj_sz q.1, .inl fun s => Int32.ofInt (w q.1 q.2 s))
def pj_ws (g : pj_G) (w : pj_W) : va_W := (List.range (pj_n w)).map fun j => (g.1.1 + j, pj_cell g w (pj_L.getD j (0, 0)))
abbrev pj_tys (g : pj_G) : List (ClassId × FieldType) := [(g.2.2.1 0, .int), (g.2.2.1 1, .byte), (g.2.2.1 2, .long), (g.2.2.1 3, .object RX9), (g.2.2.1 4, .object RX2), (g.2.2.1 5, .object RX0), (g.2.2.1 6, .object RX5), (g.2.2.1 7, .object RX4)]
abbrev pj_A (g : pj_G) : Nat → Prop := fun q => g.1.1 ≤ q
/-- the two texts: the model's keys, the reader's words -/
def pj_tx0 : String := " beach tide moon finder find pebble duel at pace pebbles worth of on none first last share to go set wait lift gull wave when loop end stop leads free "
def pj_tx1 : String := "beach tide moon finder at pace pebbles find worth pebble of on duel none first last share to go set wait lift gull wave when leads free loop end stop "
def pj_byt : List (List Int32) := [[32, 98, 101, 97, 99, 104, 32, 116, 105, 100, 101, 32, 109, 111, 111, 110, 32, 102, 105, 110, 100, 101, 114, 32, 102, 105, 110, 100, 32, 112, 101, 98, 98, 108, 101, 32, 100, 117, 101, 108, 32, 97, 116, 32, 112, 97, 99, 101, 32, 112, 101, 98, 98, 108, 101, 115, 32, 119, 111, 114, 116, 104, 32, 111, 102, 32, 111, 110, 32, 110, 111, 110, 101, 32, 102, 105, 114, 115, 116, 32, 108, 97, 115, 116, 32, 115, 104, 97, 114, 101, 32, 116, 111, 32, 103, 111, 32, 115, 101, 116, 32, 119, 97, 105, 116, 32, 108, 105, 102, 116, 32, 103, 117, 108, 108, 32, 119, 97, 118, 101, 32, 119, 104, 101, 110, 32, 108, 111, 111, 112, 32, 101, 110, 100, 32, 115, 116, 111, 112, 32, 108, 101, 97, 100, 115, 32, 102, 114, 101, 101, 32], [98, 101, 97, 99, 104, 32, 116, 105, 100, 101, 32, 109, 111, 111, 110, 32, 102, 105, 110, 100, 101, 114, 32, 97, 116, 32, 112, 97, 99, 101, 32, 112, 101, 98, 98, 108, 101, 115, 32, 102, 105, 110, 100, 32, 119, 111, 114, 116, 104, 32, 112, 101, 98, 98, 108, 101, 32, 111, 102, 32, 111, 110, 32, 100, 117, 101, 108, 32, 110, 111, 110, 101, 32, 102, 105, 114, 115, 116, 32, 108, 97, 115, 116, 32, 115, 104, 97, 114, 101, 32, 116, 111, 32, 103, 111, 32, 115, 101, 116, 32, 119, 97, 105, 116, 32, 108, 105, 102, 116, 32, 103, 117, 108, 108, 32, 119, 97, 118, 101, 32, 119, 104, 101, 110, 32, 108, 101, 97, 100, 115, 32, 102, 114, 101, 101, 32, 108, 111, 111, 112, 32, 101, 110, 100, 32, 115, 116, 111, 112, 32]]
def pj_len : List Nat := [151, 150]
/-- the classes, as they stay -/
def pj_nest : List (String × Nat × MethodName) := [(RX11, 52, yX8_init), (RX11, 59, yX6_init), (RX0, 23, yX5_init), (RX0, 24, yX4_init), (RX11, 76, yX2_init), (RX11, 88, yX9_init)]
def pj_K (g : pj_G) (U : State) : Prop := va_K g.2.1 pj_cl (pj_tys g) U ∧ (∀ q ∈ pj_nest, va_Nw (.methodLinkNest q.1 q.2.1 q.2.2 RX11) U) ∧ (∀ C ∈ [RX9, RX2, RX0, RX5, RX4], va_AO C U) ∧ (vk_R RX12 178 pj_tx0 (g.2.2.2.2 4) U ∧ vk_R RX7 38 pj_tx1 (g.2.2.2.2 5) U) ∧ vk_S 2 pj_len pj_byt (fun i => g.2.2.2.2 (4 + i)) (fun i => g.2.2.2.2 (6 + i)) (pj_A g) U g.1.2 ∧ va_Z "java/lang/String" "COMPACT_STRINGS" "Z" (.int 1) (pj_A g) U g.1.2 ∧ va_Z "jdk/internal/util/Preconditions" "SIOOBE_FORMATTER" "Ljava/util/function/BiFunction;" (if g.2.2.2.2 9 = 0 then .null else .ref (g.2.2.2.2 8)) (pj_A g) U g.1.2
def pj_H (g : pj_G) (w : pj_W) (H : Heap) : Prop := va_P g.2.1 pj_cl (pj_ws g w) H ∧ H.size = g.1.1 + pj_n w ∧ g.1.2.size = g.1.1 ∧ ∀ q : Nat, q < g.1.1 → H[q]? = g.1.2[q]?
theorem pj_K.warm {g : pj_G} {s U : State} (hW : s.WarmedH U.vm) (h : pj_K g s) : pj_K g U := ⟨va_K.moved hW.alike h.1, fun q hq => va_Nw.warmM hW (h.2.1 q hq), fun C hC => (h.2.2.1 C hC).moved hW.alike, ⟨h.2.2.2.1.1.warm hW, h.2.2.2.1.2.warm hW⟩, h.2.2.2.2.1.moved hW.alike, h.2.2.2.2.2.1.moved hW.alike, h.2.2.2.2.2.2.moved hW.alike⟩
theorem pj_L_nd : pj_L.Nodup := by decide +kernel
theorem pj_mem {k : Nat} {i : Int} {n : Nat} (hn : n ≤ pj_L.length) (h : pj_ad k i < n) : (k, i) ∈ pj_L := by
  have h1 : pj_L.idxOf (k, i) < pj_L.length := Nat.lt_of_lt_of_le h hn
  exact List.idxOf_lt_length_iff.mp h1
theorem pj_at {k : Nat} {i : Int} (h : (k, i) ∈ pj_L) : pj_L.getD (pj_ad k i) (0, 0) = (k, i) := by
  have h1 : pj_L.idxOf (k, i) < pj_L.length := List.idxOf_lt_length_iff.mpr h
  unfold pj_ad
  rw [List.getD_eq_getElem?_getD, List.getElem?_eq_getElem h1, List.getElem_idxOf h1]
  rfl
theorem pj_inj {j : Nat} {k : Nat} {i : Int} (hj : j < pj_L.length) (h : pj_L.getD j (0, 0) = (k, i)) : j = pj_ad k i := by
  rw [List.getD_eq_getElem?_getD, List.getElem?_eq_getElem hj] at h
  have h2 : pj_L[j] = (k, i) := h
  unfold pj_ad
  rw [← h2, List.Nodup.idxOf_getElem pj_L_nd]
