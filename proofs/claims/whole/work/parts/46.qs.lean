/-! WHAT IS ANSWERED, AND THE STATUS -/
abbrev pj_isF (A : pj_Q) (f : Int) : Prop := 0 ≤ f ∧ f < A 1
abbrev pj_isD (A : pj_Q) (d : Int) : Prop := 0 ≤ d ∧ d < A 2
def qs_told (A : pj_Q) (k : Int) : Int × Int := if 0 ≤ k ∧ k ≤ 8 then (A k, 0) else (-1, 1)
def qs_finder (A : pj_Q) (f k : Int) : Int × Int := if pj_isF A f ∧ 0 ≤ k ∧ k ≤ 4 then (A (10 + 5 * f + k), 0) else (-1, 1)
def qs_find (A : pj_Q) (d k : Int) : Int × Int := if pj_isD A d ∧ 0 ≤ k ∧ k ≤ 2 then (A (40 + 3 * d + k), 0) else (-1, 1)
def qs_pebble (A : pj_Q) (d k j : Int) : Int × Int := if pj_isD A d ∧ 0 ≤ j ∧ j ≤ 1 then (if 0 ≤ k ∧ k < pj_many A d then (A (64 + 120 * d + 2 * k + j), 0) else (-1, 6)) else (-1, 1)
def qs_onD (A : pj_Q) (d v : Int) : Int × Int := if pj_isD A d then (if pj_there A d then (v, 0) else (-1, 7)) else (-1, 1)
def qs_onF (A : pj_Q) (f v : Int) : Int × Int := if pj_isF A f then (v, 0) else (-1, 1)
def qs_or (v : Int) : Int × Int := if v = -1 then (-1, 6) else (v, 0)
def qs_onFD (A : pj_Q) (f d : Int) (v : Int × Int) : Int × Int := if pj_isF A f ∧ pj_isD A d then v else (-1, 1)
def qs_upto (a b c : Int) (v : Int × Int) : Int × Int := if a ≤ c ∧ c ≤ b then v else (-1, 1)
def pj_needs (A : pj_Q) (f : Int) : Int := pj_sum (fun d => if pj_there A d ∧ q_last A d ≠ pj_shl 1 f then 1 else 0) (A 2).toNat
def pj_duels (A : pj_Q) : Int := pj_un (fun d => 1 < pj_pc (q_last A d)) (A 2).toNat
def pj_safe (A : pj_Q) (f : Int) : Int := pj_un (fun d => pj_there A d ∧ q_last A d = pj_shl 1 f ∧ pj_and (pj_thr A d) (pj_xor (pj_shl 1 f) (-1)) = 0) (A 2).toNat
def pj_lies (A : pj_Q) (f k : Int) : Int × Int := if 0 ≤ k then (match pj_ff (fun d => k < pj_sum (fun d => pj_tal A f d) (d + 1)) 0 (A 2).toNat with | some d => ((d : Int), 0) | none => (-1, 6)) else (-1, 6)
def pj_rivals (A : pj_Q) (a b : Int) : Int := pj_un (fun d => 0 < pj_tal A a d ∧ 0 < pj_tal A b d) (A 2).toNat
def pj_richest (A : pj_Q) : Int := pj_fo (fun d a => if pj_there A d ∧ (a = -1 ∨ A (40 + 3 * a + 1) < A (40 + 3 * d + 1)) then (d : Int) else a) (A 2).toNat (-1)
def pj_latest (A : pj_Q) : Int := pj_fo (fun d a => if 0 < pj_many A d then max a (pj_min A d (pj_many A d - 1)) else a) (A 2).toNat (-1)
def pj_all (A : pj_Q) (d : Int) : Int := pj_fo (fun k a => pj_or a (pj_shl 1 (pj_who A d k))) (pj_many A d).toNat 0
def pj_alone (A : pj_Q) : Int := pj_un (fun d => pj_pc (pj_all A d) = 1) (A 2).toNat
def pj_part (A : pj_Q) (d k : Int) : Int × Int := match pj_ff (fun f => pj_and (pj_shr (q_last A d) f) 1 = 1 ∧ pj_sum (fun g => if pj_and (pj_shr (q_last A d) g) 1 = 1 then 1 else 0) f = k) 0 (A 1).toNat with | some f => (pj_share A f d, 0) | none => (-1, 6)
def pj_inC (A : pj_Q) (c r : Int) : Int := pj_sum (fun f => if c ≤ A (10 + 5 * f) ∧ A (10 + 5 * f) < c + r then 1 else 0) (A 1).toNat
def pj_crowd (A : pj_Q) (r : Int) : Int := pj_fo (fun c a => max a (pj_inC A c r)) (A 0).toNat 0
def pj_open (A : pj_Q) : Int := pj_sum (fun d => if pj_there A d ∧ pj_own A d = 0 then A (40 + 3 * d + 1) else 0) (A 2).toNat
def pj_far (A : pj_Q) (f : Int) (n : Nat) : Int × Int := pj_fo (fun d a => if pj_there A d ∧ a.2 < pj_walk A f (A (40 + 3 * d)) then ((d : Int), pj_walk A f (A (40 + 3 * d))) else a) n (-1, -1)
def pj_busy (A : pj_Q) (n : Nat) : Int := pj_fo (fun f a => if a = -1 ∨ pj_strewn A a < pj_strewn A f then (f : Int) else a) n (-1)
def pj_boys (A : pj_Q) (r : Int) : Int := match pj_ff (fun n => pj_boy A r n = -1) 0 8 with | some n => (n : Int) | none => 8
abbrev pj_aM (r : Int × Int) (w : pj_W) : Option (Int × pj_W) := some (r.1, pj_set w 26 0 2 r.2)
theorem mt_told (k : Int) (w : pj_W) : fM_told k w = pj_aM (qs_told (w 60 0) k) w := by
  unfold fM_told fM_told_10 qs_told
  by_cases c1 : k < 0
  · rw [if_pos c1, if_neg (by omega)]; rfl
  · by_cases c2 : k ≤ 8
    · rw [if_neg c1, if_pos c2, if_pos (by omega), if_pos (by omega)]; rfl
    · rw [if_neg c1, if_neg c2, if_neg (by omega)]; rfl
theorem mt_finder (f k : Int) {w : pj_W} (I : pj_IV (w 60 0)) : fM_finder f k w = pj_aM (qs_finder (w 60 0) f k) w := by
  have hA := I.1
  unfold fM_finder fM_finder_35 qs_finder
  rw [mq_isFinder, Option.bind_some]
  by_cases c : pj_isF (w 60 0) f
  · rw [if_pos c, if_neg (by omega)]
    by_cases c1 : k < 0
    · rw [if_pos c1, if_neg (by omega)]; rfl
    · by_cases c2 : 4 < k
      · rw [if_neg c1, if_pos c2, if_neg (by omega)]; rfl
      · rw [if_neg c1, if_neg c2, mq_finderRow (by omega) (by omega), Option.bind_some, pj_wr_id (by omega) (by omega), if_pos (by omega), if_pos ⟨c, by omega, by omega⟩]; rfl
  · rw [if_neg c, if_pos rfl, if_neg (fun x => c x.1)]; rfl
theorem mt_find (d k : Int) {w : pj_W} (I : pj_IV (w 60 0)) : fM_find d k w = pj_aM (qs_find (w 60 0) d k) w := by
  have hA := I.1
  unfold fM_find fM_find_36 qs_find
  rw [mq_isFind, Option.bind_some]
  by_cases c : pj_isD (w 60 0) d
  · rw [if_pos c, if_neg (by omega)]
    by_cases c1 : k < 0
    · rw [if_pos c1, if_neg (by omega)]; rfl
    · by_cases c2 : 2 < k
      · rw [if_neg c1, if_pos c2, if_neg (by omega)]; rfl
      · rw [if_neg c1, if_neg c2, mq_findRow (by omega) (by omega) (by omega) (by omega), Option.bind_some, Int.zero_add, pj_wr_id (by omega) (by omega), if_pos (by omega), if_pos ⟨c, by omega, by omega⟩]; rfl
  · rw [if_neg c, if_pos rfl, if_neg (fun x => c x.1)]; rfl
theorem mt_pebble (d k j : Int) {w : pj_W} (I : pj_IV (w 60 0)) : fM_pebble d k j w = pj_aM (qs_pebble (w 60 0) d k j) w := by
  have hA := I.1
  unfold fM_pebble fM_pebble_17 fM_pebble_36 qs_pebble
  rw [mq_isFind, Option.bind_some]
  by_cases c : pj_isD (w 60 0) d
  · have hD := I.2.2.2.1 d c.1 c.2
    rw [if_pos c, if_neg (by omega)]
    by_cases c1 : j < 0
    · rw [if_pos c1, if_neg (by omega)]; rfl
    · by_cases c2 : j ≤ 1
      · have cc : pj_isD (w 60 0) d ∧ 0 ≤ j ∧ j ≤ 1 := ⟨c, by omega, c2⟩
        rw [if_neg c1, if_pos c2]
        by_cases c3 : k < 0
        · rw [if_pos c3, if_pos cc, if_neg (by omega)]; rfl
        · rw [if_neg c3, if_pos cc, mq_manyOn c.1 (by omega), Option.bind_some]
          by_cases c4 : k < pj_many (w 60 0) d
          · rw [if_pos c4, if_pos (by omega), mq_pebbleRow (by omega) (by omega) (by omega) (by omega) (by omega) (by omega), Option.bind_some, Int.zero_add, pj_wr_id (by omega) (by omega), if_pos (by omega)]; rfl
          · rw [if_neg c4, if_neg (by omega)]; rfl
      · rw [if_neg c1, if_neg c2, if_neg (by omega)]; rfl
  · rw [if_neg c, if_pos rfl, if_neg (fun x => c x.1)]; rfl
theorem mt_last (d : Int) {w : pj_W} (I : pj_IV (w 60 0)) : fM_last d w = pj_aM (qs_onD (w 60 0) d (q_last (w 60 0) d)) w := by
  have hA := I.1
  unfold fM_last qs_onD
  rw [mq_wrongFind, Option.bind_some]
  by_cases c : pj_isD (w 60 0) d
  · have hD := I.2.2.2.1 d c.1 c.2
    rw [if_pos c, if_pos c, mq_lastOn c.1 (by omega) (by omega) (by omega)]
    by_cases c1 : pj_there (w 60 0) d
    · rw [if_pos c1, if_pos c1]; rfl
    · rw [if_neg c1, if_neg c1]; rfl
  · rw [if_neg c, if_neg c]; rfl
theorem mt_whose (d : Int) {w : pj_W} (I : pj_IV (w 60 0)) : fM_whose d w = pj_aM (qs_onD (w 60 0) d (pj_own (w 60 0) d)) w := by
  unfold fM_whose qs_onD
  rw [mq_wrongFind, Option.bind_some]
  by_cases c : pj_isD (w 60 0) d
  · rw [if_pos c, if_pos c, mq_ownersOf I c.1 c.2]
    by_cases c1 : pj_there (w 60 0) d
    · rw [if_pos c1, if_pos c1]; rfl
    · rw [if_neg c1, if_neg c1]; rfl
  · rw [if_neg c, if_neg c]; rfl
theorem mt_threat (d : Int) {w : pj_W} (I : pj_IV (w 60 0)) : fM_threat d w = pj_aM (qs_onD (w 60 0) d (pj_thr (w 60 0) d)) w := by
  unfold fM_threat qs_onD
  rw [mq_wrongFind, Option.bind_some]
  by_cases c : pj_isD (w 60 0) d
  · rw [if_pos c, if_pos c, mq_threatTo I c.1 c.2]
    by_cases c1 : pj_there (w 60 0) d
    · rw [if_pos c1, if_pos c1]; rfl
    · rw [if_neg c1, if_neg c1]; rfl
  · rw [if_neg c, if_neg c]; rfl
theorem mt_leads (f : Int) {w : pj_W} (I : pj_IV (w 60 0)) : fM_leads f w = pj_aM (qs_onF (w 60 0) f (pj_lead (w 60 0) f)) w := by
  have hA := I.1
  unfold fM_leads qs_onF
  rw [mq_isFinder, Option.bind_some]
  by_cases c : pj_isF (w 60 0) f
  · rw [if_pos c, if_pos c, if_neg (by omega), mq_leadOf I c.1 (by omega)]; rfl
  · rw [if_neg c, if_neg c]; rfl
theorem mt_or (v : Int) (w : pj_W) : fM_orNone v w = pj_aM (qs_or v) w := by
  unfold fM_orNone qs_or
  by_cases c : v = -1
  · rw [if_pos c, if_pos c]; rfl
  · rw [if_neg c, if_neg c]; rfl
theorem mt_ranked (k : Int) {w : pj_W} (I : pj_IV (w 60 0)) : fM_ranked k w = pj_aM (qs_or (pj_rank (w 60 0) k)) w := by
  unfold fM_ranked
  rw [mq_atRank I, Option.bind_some, mt_or]; rfl
theorem mt_leader {w : pj_W} (I : pj_IV (w 60 0)) : fM_leader w = pj_aM (qs_or (pj_rank (w 60 0) 0)) w := by
  unfold fM_leader
  rw [mq_atRank I, Option.bind_some, mt_or]; rfl
theorem mt_strewn (f : Int) {w : pj_W} (I : pj_IV (w 60 0)) : fM_strewn f w = pj_aM (qs_onF (w 60 0) f (pj_strewn (w 60 0) f)) w := by
  unfold fM_strewn qs_onF
  rw [mq_isFinder, Option.bind_some]
  by_cases c : pj_isF (w 60 0) f
  · rw [if_pos c, if_pos c, if_neg (by omega), mq_strewnOf I]; rfl
  · rw [if_neg c, if_neg c]; rfl
theorem mt_needs (f : Int) {w : pj_W} (I : pj_IV (w 60 0)) : fM_needs f w = pj_aM (qs_onF (w 60 0) f (pj_needs (w 60 0) f)) w := by
  have hA := I.1
  unfold fM_needs qs_onF
  rw [mq_isFinder, Option.bind_some]
  by_cases c : pj_isF (w 60 0) f
  · rw [if_pos c, if_pos c, if_neg (by omega)]
    unfold pj_needs
    refine pj_Lp_sum (fun d => if pj_there (w 60 0) d ∧ q_last (w 60 0) d ≠ pj_shl 1 f then 1 else 0) (w 60 0 2).toNat 1 (fun i hi => by split <;> omega) (by omega) (by omega) (by omega) (fun i hi a => ?_) ?_
    · show fM_needs_18b f w a i = _
      have hD := I.2.2.2.1 i (by omega) (by omega)
      unfold fM_needs_18b fM_needs_52 fM_needs_53
      rw [if_neg (by omega), mq_isThere, Option.bind_some, mq_lastOn (by omega) (by omega) (by omega) (by omega), pj_wri (by omega)]
      by_cases c1 : pj_there (w 60 0) i
      · rw [if_pos c1, if_neg (by omega), Option.bind_some]
        by_cases c2 : q_last (w 60 0) i = pj_shl 1 f
        · rw [if_pos c2, if_neg (fun x => x.2 c2)]
        · rw [if_neg c2, if_pos ⟨c1, c2⟩]
      · rw [if_neg c1, if_pos rfl, if_neg (fun x => c1 x.1)]
    · show fM_needs_18b f w _ _ = _
      unfold fM_needs_18b
      rw [if_pos (by omega)]
      rfl
  · rw [if_neg c, if_neg c]; rfl
theorem mt_duels {w : pj_W} (I : pj_IV (w 60 0)) : fM_duels w = pj_aM (pj_duels (w 60 0), 0) w := by
  have hA := I.1
  unfold fM_duels pj_duels
  refine pj_Lp_un (fun d => 1 < pj_pc (q_last (w 60 0) d)) (w 60 0 2).toNat (by omega) (fun i hi a ha ha2 => ?_) ?_
  · show fM_duels_4b w a i = _
    have hD := I.2.2.2.1 i (by omega) (by omega)
    have hl := pj_last_in I (d := (i : Int)) (by omega) (by omega)
    unfold fM_duels_4b fM_duels_34
    rw [if_neg (by omega), mq_lastOn (by omega) (by omega) (by omega) (by omega), Option.bind_some, mq_bits hl.1 (by omega), Option.bind_some, pj_wri (by omega)]
    by_cases c : pj_pc (q_last (w 60 0) i) ≤ 1
    · rw [if_pos c, if_neg (by omega), pj_or0 ha ha2]
    · rw [if_neg c, if_pos (by omega)]
  · show fM_duels_4b w _ _ = _
    unfold fM_duels_4b
    rw [if_pos (by omega)]
    rfl
theorem mt_safe (f : Int) {w : pj_W} (I : pj_IV (w 60 0)) : fM_safe f w = pj_aM (qs_onF (w 60 0) f (pj_safe (w 60 0) f)) w := by
  have hA := I.1
  unfold fM_safe qs_onF
  rw [mq_isFinder, Option.bind_some]
  by_cases c : pj_isF (w 60 0) f
  · rw [if_pos c, if_pos c, if_neg (by omega)]
    unfold pj_safe
    refine pj_Lp_un (fun d => pj_there (w 60 0) d ∧ q_last (w 60 0) d = pj_shl 1 f ∧ pj_and (pj_thr (w 60 0) d) (pj_xor (pj_shl 1 f) (-1)) = 0) (w 60 0 2).toNat (by omega) (fun i hi a ha ha2 => ?_) ?_
    · show fM_safe_18b f w a i = _
      have hD := I.2.2.2.1 i (by omega) (by omega)
      unfold fM_safe_18b fM_safe_68 fM_safe_69
      rw [if_neg (by omega), mq_isThere, Option.bind_some, mq_lastOn (by omega) (by omega) (by omega) (by omega), mq_threatTo I (by omega) (by omega), pj_wri (by omega), pj_or0 ha ha2]
      by_cases c1 : pj_there (w 60 0) i
      · rw [if_pos c1, if_neg (by omega), Option.bind_some]
        by_cases c2 : q_last (w 60 0) i = pj_shl 1 f
        · rw [if_pos c2, Option.bind_some]
          by_cases c3 : pj_and (pj_thr (w 60 0) i) (pj_xor (pj_shl 1 f) (-1)) = 0
          · rw [if_pos c3, if_pos ⟨c1, c2, c3⟩]
          · rw [if_neg c3, if_neg (fun x => c3 x.2.2)]
        · rw [if_neg c2, if_neg (fun x => c2 x.2.1)]
      · rw [if_neg c1, if_pos rfl, if_neg (fun x => c1 x.1)]
    · show fM_safe_18b f w _ _ = _
      unfold fM_safe_18b
      rw [if_pos (by omega)]
      rfl
  · rw [if_neg c, if_neg c]; rfl
