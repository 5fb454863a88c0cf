/-! DAYS FROM A TEXT: what both have behind a step -/
theorem pj_row.up {A : pj_Q} {n n' : Int} {W W' : Int → Int} {k F S T P c0 c1 c2 c4 c5 : Int} (h : pj_row A n W k F S T P c0 c1 c2 c4 c5) (hn : n ≤ n') (k0 : 0 ≤ k) (hW : ∀ j, 0 ≤ j → j ≤ k → W' j = W j) : pj_row A n' W' k F S T P c0 c1 c2 c4 c5 := by
  have e := hW k k0 (Int.le_refl k)
  unfold pj_row at h ⊢
  rw [e]
  rcases h with h | h | h | h | h | h | h | h | h | h | h | h
  · exact Or.inl h
  · exact Or.inr (Or.inl h)
  · exact Or.inr (Or.inr (Or.inl h))
  · exact Or.inr (Or.inr (Or.inr (Or.inl h)))
  · exact Or.inr (Or.inr (Or.inr (Or.inr (Or.inl h))))
  · exact Or.inr (Or.inr (Or.inr (Or.inr (Or.inr (Or.inl h)))))
  · exact Or.inr (Or.inr (Or.inr (Or.inr (Or.inr (Or.inr (Or.inl h))))))
  · exact Or.inr (Or.inr (Or.inr (Or.inr (Or.inr (Or.inr (Or.inr (Or.inl h)))))))
  · obtain ⟨h1, h2, h3, h4, h5, h6⟩ := h
    exact Or.inr (Or.inr (Or.inr (Or.inr (Or.inr (Or.inr (Or.inr (Or.inr (Or.inl ⟨h1, h2, h3, h4, h5, fun g => h6 (by rw [← hW (P + 1) (by omega) (by omega)]; exact g)⟩))))))))
  · obtain ⟨h1, h2, h3, h4, h5, h6, h7, h8, h9⟩ := h
    exact Or.inr (Or.inr (Or.inr (Or.inr (Or.inr (Or.inr (Or.inr (Or.inr (Or.inr (Or.inl ⟨h1, h2, h3, h4, h5, h6, h7, h8, by omega⟩)))))))))
  · obtain ⟨h1, h2, h3, h4, h5, h6, h7, h8, h9⟩ := h
    exact Or.inr (Or.inr (Or.inr (Or.inr (Or.inr (Or.inr (Or.inr (Or.inr (Or.inr (Or.inr (Or.inl ⟨h1, h2, h3, h4, h5, h6, h7, h8, by omega⟩))))))))))
  · obtain ⟨h1, h2, h3, h4, h5, h6, h7⟩ := h
    exact Or.inr (Or.inr (Or.inr (Or.inr (Or.inr (Or.inr (Or.inr (Or.inr (Or.inr (Or.inr (Or.inr ⟨h1, h2, h3, h4, h5, h6, by omega⟩))))))))))
theorem pj_row.wh {A : pj_Q} {n : Int} {W : Int → Int} {k F S T m c0 c1 c2 c5 : Int} (h : dt_wh A (W k) F S T c0 c1 c2 c5) (k1 : k < m) (m1 : m < n) : pj_row A n W k F S T m c0 c1 c2 m c5 := by
  unfold dt_wh at h
  unfold pj_row
  rcases h with ⟨h1, h2, h3, h4, h5, h6⟩ | ⟨h1, h2, h3, h4, h5, h6⟩ | ⟨h1, h2, h3, h4⟩
  · exact Or.inr (Or.inr (Or.inr (Or.inr (Or.inr (Or.inr (Or.inr (Or.inr (Or.inr (Or.inl ⟨h1, h2, h3, h4, h5, h6, rfl, k1, m1⟩)))))))))
  · exact Or.inr (Or.inr (Or.inr (Or.inr (Or.inr (Or.inr (Or.inr (Or.inr (Or.inr (Or.inr (Or.inl ⟨h1, h2, h3, h4, h5, h6, rfl, k1, m1⟩))))))))))
  · exact Or.inr (Or.inr (Or.inr (Or.inr (Or.inr (Or.inr (Or.inr (Or.inr (Or.inr (Or.inr (Or.inr ⟨h1, h2, h3, h4, rfl, k1, m1⟩))))))))))
theorem pj_row.wh_of {A : pj_Q} {n : Int} {W : Int → Int} {k F S T P c0 c1 c2 c4 c5 : Int} (h : pj_row A n W k F S T P c0 c1 c2 c4 c5) (hw : dt_bw (W k)) : dt_lo A (W k) F S T c0 c1 c2 c5 ∨ dt_wh A (W k) F S T c0 c1 c2 c5 := by
  unfold dt_bw at hw
  unfold pj_row at h
  rcases h with h | h | h | h | h | h | h | h | h | h | h | h
  · omega
  · omega
  · omega
  · omega
  · omega
  · omega
  · exact Or.inl h
  · omega
  · omega
  · exact Or.inr (Or.inl ⟨h.1, h.2.1, h.2.2.1, h.2.2.2.1, h.2.2.2.2.1, h.2.2.2.2.2.1⟩)
  · exact Or.inr (Or.inr (Or.inl ⟨h.1, h.2.1, h.2.2.1, h.2.2.2.1, h.2.2.2.2.1, h.2.2.2.2.2.1⟩))
  · exact Or.inr (Or.inr (Or.inr ⟨h.1, h.2.1, h.2.2.1, h.2.2.2.1⟩))
theorem pj_row.lo {A : pj_Q} {n : Int} {W : Int → Int} {k F S T P c0 c1 c2 c4 c5 : Int} (h : dt_lo A (W k) F S T c0 c1 c2 c5) : pj_row A n W k F S T P c0 c1 c2 c4 c5 := Or.inr (Or.inr (Or.inr (Or.inr (Or.inr (Or.inr (Or.inl h))))))
theorem pj_row.pl {A : pj_Q} {n : Int} {W : Int → Int} {k F S T P c0 c1 c2 c4 c5 : Int} (h : dt_pl A (W k) F S T c0 c1 c2 c5) : pj_row A n W k F S T P c0 c1 c2 c4 c5 := by
  unfold dt_pl at h
  unfold pj_row
  rcases h with h | h | h | h | h | h | h
  · exact Or.inl h
  · exact Or.inr (Or.inl h)
  · exact Or.inr (Or.inr (Or.inl h))
  · exact Or.inr (Or.inr (Or.inr (Or.inl h)))
  · exact Or.inr (Or.inr (Or.inr (Or.inr (Or.inl h))))
  · exact Or.inr (Or.inr (Or.inr (Or.inr (Or.inr (Or.inl h)))))
  · exact Or.inr (Or.inr (Or.inr (Or.inr (Or.inr (Or.inr (Or.inr (Or.inl h)))))))
theorem dt_Q_w {A : pj_Q} {i : Nat} {x a b c c0 c1 c2 c5 : Int} (h : dt_Q A i x a b c c0 c1 c2 c5) : x ≠ 28 ∧ (i = 24 ∨ i = 27 → dt_bw x) := by
  unfold dt_Q dt_pl dt_lo dt_wh at h
  unfold dt_bw
  rcases h with ⟨h1, h2, h⟩ | ⟨h1, h⟩ | ⟨h1, h⟩
  · exact ⟨by omega, fun g => by omega⟩
  · exact ⟨by omega, fun _ => by omega⟩
  · exact ⟨by omega, fun _ => by omega⟩
section
variable {A : pj_Q} {b d : Int} {u v u' v' : pj_W}
/-- a row more -/
theorem dt_more {i : Nat} {m e c op : Int} (D : dt_B A b d u v) (hm : v 60 0 5609 = m) (he : v 26 0 23 = e) (hc : v 26 0 24 = c) (hop : (i = 24 ∨ i = 27) ∧ op = 1 ∨ ¬ (i = 24 ∨ i = 27) ∧ op = 0) (e3 : e + op ≤ 3) (c30 : c + 1 ≤ 30)
    (hx : dt_fx d u u') (hv : dt_fv v v') (h3 : u' 14 0 3 = u 14 0 3) (h4 : u' 14 0 4 = u 14 0 4) (h2 : u' 14 0 2 = e + op ∧ v' 26 0 23 = e + op) (h6 : u' 24 d 6 = c + 1 ∧ v' 26 0 24 = c + 1) (h7 : u' 24 d 7 = m + 1 ∧ v' 60 0 5609 = m + 1)
    (h35 : ∀ j, 0 ≤ j → j < e → u' 35 0 j = u 35 0 j ∧ v' 67 0 j = v 67 0 j) (htop : op = 1 → u' 35 0 e = m ∧ v' 67 0 e = m)
    (hrow : ∀ k j, k = 47 ∨ k = 48 ∨ k = 49 ∨ k = 50 ∨ k = 51 → 0 ≤ j → j < m → u' k d j = u k d j) (hrv : ∀ s, 6630 ≤ s → s < 6630 + 6 * m → v' 60 0 s = v 60 0 s)
    (hQ : dt_Q A i (u' 47 d m) (u' 48 d m) (u' 49 d m) (u' 50 d m) (v' 60 0 (6630 + 6 * m)) (v' 60 0 (6630 + 6 * m + 1)) (v' 60 0 (6630 + 6 * m + 2)) (v' 60 0 (6630 + 6 * m + 5))) : dt_B A b d u' v' := by
  obtain ⟨H, ⟨⟨n1, n2, n3⟩, ⟨n4, n5, n6⟩, n7, n8, n9⟩, K, R⟩ := D
  rw [hm] at n8 n9 K R
  rw [he] at n2 n3 n9 K R
  rw [hc] at n5 n6 n9
  obtain ⟨q28, qbw⟩ := dt_Q_w hQ
  refine ⟨H.ex hx hv h3 h4, ⟨⟨by omega, by omega, by omega⟩, ⟨by omega, by omega, by omega⟩, by omega, by omega, by omega⟩, ?_, ?_⟩
  · rw [h7.2, h2.2]
    intro j j0 j1
    by_cases cj : j < e
    · obtain ⟨p1, p2, p3, p4, p5, p6⟩ := K j j0 cj
      obtain ⟨q1, q2⟩ := h35 j j0 cj
      rw [q1, q2, hrow 47 _ (by omega) p2 p3]
      refine ⟨p1, p2, by omega, fun g => ?_, p5, fun l l0 l1 => ?_⟩
      · by_cases cs : u 35 0 j + 1 < m
        · rw [hrow 47 _ (by omega) (by omega) cs]; exact p4 cs
        · rw [show u 35 0 j + 1 = m by omega]; exact q28
      · by_cases cl : l < e
        · rw [(h35 l (by omega) cl).1]; exact p6 l l0 cl
        · have : l = e := by omega
          subst this
          rw [(htop (by omega)).1]; exact p3
    · have : j = e := by omega
      subst this
      obtain ⟨q1, q2⟩ := htop (by omega)
      rw [q1, q2]
      exact ⟨rfl, n8, by omega, fun g => by omega, qbw (by omega), fun l l0 l1 => by omega⟩
  · rw [h7.2, h2.2]
    intro k k0 k1
    by_cases ck : k < m
    · rcases R k k0 ck with h | ⟨j, j0, j1, j2, j3⟩
      · refine Or.inl ?_
        rw [hrow 48 k (by omega) k0 ck, hrow 49 k (by omega) k0 ck, hrow 50 k (by omega) k0 ck, hrow 51 k (by omega) k0 ck, hrv _ (by omega) (by omega), hrv _ (by omega) (by omega), hrv _ (by omega) (by omega), hrv _ (by omega) (by omega), hrv _ (by omega) (by omega)]
        exact h.up (by omega) k0 (fun j j0 j1 => hrow 47 j (by omega) j0 (by omega))
      · refine Or.inr ⟨j, j0, by omega, by rw [(h35 j j0 j1).1]; exact j2, ?_⟩
        rw [hrow 47 k (by omega) k0 ck, hrow 48 k (by omega) k0 ck, hrow 49 k (by omega) k0 ck, hrow 50 k (by omega) k0 ck, hrv _ (by omega) (by omega), hrv _ (by omega) (by omega), hrv _ (by omega) (by omega), hrv _ (by omega) (by omega)]
        exact j3
    · have : k = m := by omega
      subst this
      rcases hQ with ⟨g1, g2, g⟩ | ⟨g1, g⟩ | ⟨g1, g⟩
      · exact Or.inl (pj_row.pl g)
      · exact Or.inl (pj_row.lo g)
      · exact Or.inr ⟨e, n2, by omega, (htop (by omega)).1, g⟩
/-- an end -/
theorem dt_less {m e c p : Int} (D : dt_B A b d u v) (hm : v 60 0 5609 = m) (he : v 26 0 23 = e) (hc : v 26 0 24 = c) (e1 : 1 ≤ e) (hp : u 35 0 (e - 1) = p)
    (hx : dt_fx d u u') (hv : dt_fv v v') (h3 : u' 14 0 3 = u 14 0 3) (h4 : u' 14 0 4 = u 14 0 4) (h2 : u' 14 0 2 = e - 1 ∧ v' 26 0 23 = e - 1) (h6 : u' 24 d 6 = c ∧ v' 26 0 24 = c) (h7 : u' 24 d 7 = m + 1 ∧ v' 60 0 5609 = m + 1)
    (h35 : ∀ j, u' 35 0 j = u 35 0 j ∧ v' 67 0 j = v 67 0 j)
    (hrow : ∀ k j, k = 47 ∨ k = 48 ∨ k = 49 ∨ k = 50 → 0 ≤ j → j < m → u' k d j = u k d j) (h51 : ∀ j, 0 ≤ j → j < m → j ≠ p → u' 51 d j = u 51 d j) (h51p : u' 51 d p = m) (h51m : u' 51 d m = p) (h47m : u' 47 d m = 28)
    (hrv : ∀ s, 6630 ≤ s → s < 6630 + 6 * m → s ≠ 6630 + 6 * p + 4 → v' 60 0 s = v 60 0 s) (hvp : v' 60 0 (6630 + 6 * p + 4) = m) (hvm : v' 60 0 (6630 + 6 * m) = 26 ∧ v' 60 0 (6630 + 6 * m + 4) = p) : dt_B A b d u' v' := by
  obtain ⟨H, ⟨⟨n1, n2, n3⟩, ⟨n4, n5, n6⟩, n7, n8, n9⟩, K, R⟩ := D
  rw [hm] at n8 n9 K R
  rw [he] at n2 n3 n9 K R
  rw [hc] at n5 n6 n9
  obtain ⟨p1, p2, p3, p4, p5, p6⟩ := K (e - 1) (by omega) (by omega)
  rw [hp] at p1 p2 p3 p4 p5 p6
  refine ⟨H.ex hx hv h3 h4, ⟨⟨by omega, by omega, by omega⟩, ⟨by omega, by omega, by omega⟩, by omega, by omega, by omega⟩, ?_, ?_⟩
  · rw [h7.2, h2.2]
    intro j j0 j1
    obtain ⟨t1, t2, t3, t4, t5, t6⟩ := K j j0 (by omega)
    have lt := t6 (e - 1) (by omega) (by omega)
    rw [hp] at lt
    obtain ⟨q1, q2⟩ := h35 j
    rw [q1, q2, hrow 47 _ (by omega) t2 t3]
    refine ⟨t1, t2, by omega, fun g => ?_, t5, fun l l0 l1 => ?_⟩
    · rw [hrow 47 _ (by omega) (by omega) (by omega)]; exact t4 (by omega)
    · rw [(h35 l).1]; exact t6 l l0 (by omega)
  · rw [h7.2, h2.2]
    intro k k0 k1
    by_cases ck : k < m
    · by_cases cp : k = p
      · subst cp
        have hl : dt_lo A (u 47 d k) (u 48 d k) (u 49 d k) (u 50 d k) (v 60 0 (6630 + 6 * k)) (v 60 0 (6630 + 6 * k + 1)) (v 60 0 (6630 + 6 * k + 2)) (v 60 0 (6630 + 6 * k + 5)) ∨ dt_wh A (u 47 d k) (u 48 d k) (u 49 d k) (u 50 d k) (v 60 0 (6630 + 6 * k)) (v 60 0 (6630 + 6 * k + 1)) (v 60 0 (6630 + 6 * k + 2)) (v 60 0 (6630 + 6 * k + 5)) := by
          rcases R k k0 ck with h | ⟨j, j0, j1, j2, j3⟩
          · exact h.wh_of p5
          · exact Or.inr j3
        refine Or.inl ?_
        rw [h51p, hvp, hrow 48 k (by omega) k0 ck, hrow 49 k (by omega) k0 ck, hrow 50 k (by omega) k0 ck, hrv (6630 + 6 * k) (by omega) (by omega) (by omega), hrv (6630 + 6 * k + 1) (by omega) (by omega) (by omega), hrv (6630 + 6 * k + 2) (by omega) (by omega) (by omega), hrv (6630 + 6 * k + 5) (by omega) (by omega) (by omega)]
        rcases hl with h | h
        · refine pj_row.lo ?_
          rw [hrow 47 k (by omega) k0 ck]; exact h
        · refine pj_row.wh ?_ ck (by omega)
          rw [hrow 47 k (by omega) k0 ck]; exact h
      · rcases R k k0 ck with h | ⟨j, j0, j1, j2, j3⟩
        · refine Or.inl ?_
          rw [hrow 48 k (by omega) k0 ck, hrow 49 k (by omega) k0 ck, hrow 50 k (by omega) k0 ck, h51 k k0 ck cp, hrv (6630 + 6 * k) (by omega) (by omega) (by omega), hrv (6630 + 6 * k + 1) (by omega) (by omega) (by omega), hrv (6630 + 6 * k + 2) (by omega) (by omega) (by omega), hrv (6630 + 6 * k + 4) (by omega) (by omega) (by omega), hrv (6630 + 6 * k + 5) (by omega) (by omega) (by omega)]
          exact h.up (by omega) k0 (fun j j0 j1 => hrow 47 j (by omega) j0 (by omega))
        · have je : j ≠ e - 1 := fun h => by
            rw [h, hp] at j2
            exact cp j2.symm
          refine Or.inr ⟨j, j0, by omega, by rw [(h35 j).1]; exact j2, ?_⟩
          rw [hrow 47 k (by omega) k0 ck, hrow 48 k (by omega) k0 ck, hrow 49 k (by omega) k0 ck, hrow 50 k (by omega) k0 ck, hrv (6630 + 6 * k) (by omega) (by omega) (by omega), hrv (6630 + 6 * k + 1) (by omega) (by omega) (by omega), hrv (6630 + 6 * k + 2) (by omega) (by omega) (by omega), hrv (6630 + 6 * k + 5) (by omega) (by omega) (by omega)]
          exact j3
    · have : k = m := by omega
      subst this
      refine Or.inl (Or.inr (Or.inr (Or.inr (Or.inr (Or.inr (Or.inr (Or.inr (Or.inr (Or.inl ⟨h47m, hvm.1, ?_, ?_, ?_, fun g => ?_⟩)))))))))
      · rw [h51m, hvm.2]
      · rw [h51m]; exact p2
      · rw [h51m]; exact p3
      · rw [h51m] at g ⊢
        by_cases cs : p + 1 < k
        · rw [hrow 47 _ (by omega) (by omega) cs] at g
          exact absurd g (p4 cs)
        · omega
end
