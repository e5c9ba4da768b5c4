/-! a SINGLE: the class's order and the reference's -/
def n_yy (S : zMem) (t s : Nat) : zMem := n_counts (n_turns S t s (1 - r_fl S t s)) 8 (r_fl (n_turns S t s (1 - r_fl S t s)) t s)
theorem fl_turns {S : zMem} {t s : Nat} {v : Int32} (ht : t < 24) (hs : s < 5) : r_fl (n_turns S t s v) t s = v := by
  unfold r_fl
  by_cases e : s = 4
  · rw [if_pos e, rd_turns hs ht, if_pos (by rw [if_pos e])]
  · rw [if_neg e, rd_turns hs ht, if_pos (by rw [if_neg e])]
theorem rd_yy {S : zMem} {t s p : Nat} (ht : t < 24) (hs : s < 4) : (n_yy S t s).1 24 0 0 p = if p = 13 then S.1 24 0 0 13 + (1 - r_fl S t s) else if p = 718 + 4 * t + s then 1 - r_fl S t s else if (s = 1 ∧ 1 - r_fl S t s = 1) ∧ p = 646 + t then S.1 24 0 0 0 else S.1 24 0 0 p := by
  unfold n_yy
  rw [fl_turns ht (by omega), cnt_at]
  by_cases e : p = 13
  · rw [if_pos e, if_pos e, rd_turns (by omega) ht, if_neg (by rw [if_neg (by omega)]; omega), if_neg (fun z => by have := z.2; omega)]
  · rw [if_neg e, if_neg e, rd_turns (by omega) ht]
    by_cases e1 : p = 718 + 4 * t + s
    · rw [if_pos e1, if_pos (by rw [if_neg (by omega)]; exact e1)]
    · rw [if_neg e1, if_neg (by rw [if_neg (by omega)]; exact e1)]
theorem yy_C {A B : zMem} {t s : Nat} (ht : t < 24) (hs : s < 4) (h : ∀ p, ¬ (p = 4 ∨ p = 7 ∨ (22 ≤ p ∧ p < 262)) → A.1 24 0 0 p = B.1 24 0 0 p) : ∀ p, ¬ (p = 4 ∨ p = 7 ∨ (22 ≤ p ∧ p < 262)) → (n_yy A t s).1 24 0 0 p = (n_yy B t s).1 24 0 0 p := by
  intro p hp
  have ef : r_fl A t s = r_fl B t s := by
    unfold r_fl
    rw [if_neg (by omega), if_neg (by omega)]
    exact h _ (by omega)
  rw [rd_yy ht hs, rd_yy ht hs, ef, h 13 (by omega), h 0 (by omega), h p hp]
theorem reads_row {Mr : zMem} {r t s m c : Nat} (hr : r < 4) (ht : t < 24) (hs : s < 4) (hm : m < 24) : ∀ p, (n_rdd (n_yy (n_logs (n_counts Mr 2 1) c (nI r) (nI 2) (nI t)) t s) r t m).1 24 0 0 p = (n_reads Mr r t s m c).1 24 0 0 p := by
  have e3 : ∀ p, (n_reads3 Mr r t s m).1 24 0 0 p = if p = 7 then Mr.1 24 0 0 7 + 1 else (n_rdd (n_yy Mr t s) r t m).1 24 0 0 p := by
    intro p
    unfold n_reads3
    rw [cnt_at]
    by_cases e : p = 7
    · rw [if_pos e, if_pos e, zn_upN (by omega), zn_upN (by omega)]
      unfold n_reads2
      rw [zn_upN (by omega), zn_upN (by omega), zf_reads1 (by omega) (by omega)]
    · rw [if_neg e, if_neg e, rdd_R hr ht hm]
      by_cases p1 : p = 306 + r
      · rw [if_pos p1, p1, zn_upS]
      rw [if_neg p1, zn_upN p1]
      by_cases p2 : p = 358 + 24 * r + m
      · rw [if_pos p2, p2, zn_upS]
      rw [if_neg p2, zn_upN p2]
      unfold n_reads2
      by_cases p3 : p = 622 + t
      · rw [if_pos p3, p3, zn_upS]
      rw [if_neg p3, zn_upN p3]
      by_cases p4 : p = 598 + t
      · rw [if_pos p4, p4, zn_upS, rd_yy ht hs, if_neg (by omega), if_neg (by omega), if_neg (fun z => by have := z.2; omega)]
      rw [if_neg p4, zn_upN p4]
      have e1 : n_reads1 Mr t s = n_isFree (n_yy Mr t s) t := rfl
      rw [e1]
      unfold n_isFree
      by_cases p5 : p = 550 + t ∨ p = 574 + t
      · rw [if_pos p5]
        rcases p5 with p5 | p5
        · rw [p5, zn_upN (by omega), zn_upS]
        · rw [p5, zn_upS]
      · rw [if_neg p5, zn_upN (by omega), zn_upN (by omega)]
  intro p
  unfold n_reads
  by_cases g : p = 4 ∨ (22 ≤ p ∧ p < 262)
  · rw [rdd_R hr ht hm, if_neg (by omega), if_neg (by omega), if_neg (by omega), if_neg (by omega), if_neg (by omega), rd_yy ht hs, if_neg (by omega), if_neg (by omega), if_neg (fun z => by have := z.2; omega)]
    refine logs_C (fun q hq => ?_) p g
    rw [e3, if_neg (by omega), cnt_at, if_neg (by omega), rdd_R hr ht hm, if_neg (by omega), if_neg (by omega), if_neg (by omega), if_neg (by omega), if_neg (by omega), rd_yy ht hs, if_neg (by omega), if_neg (by omega), if_neg (fun z => by have := z.2; omega)]
  · rw [zf_logs (M := n_reads3 Mr r t s m) (by omega) (by omega), e3]
    have ag : ∀ p, ¬ (p = 4 ∨ p = 7 ∨ (22 ≤ p ∧ p < 262)) → (n_logs (n_counts Mr 2 1) c (nI r) (nI 2) (nI t)).1 24 0 0 p = Mr.1 24 0 0 p := fun p hp => by
      rw [zf_logs (by omega) (by omega), cnt_at, if_neg (by omega)]
    by_cases e : p = 7
    · rw [if_pos e, e, rdd_R hr ht hm, if_neg (by omega), if_neg (by omega), if_neg (by omega), if_neg (by omega), if_neg (by omega), rd_yy ht hs, if_neg (by omega), if_neg (by omega), if_neg (fun z => by have := z.2; omega), zf_logs (by omega) (by omega), cnt_at, if_pos rfl]
    · rw [if_neg e, rdd_R hr ht hm, rdd_R hr ht hm]
      have y := yy_C ht hs ag
      rw [y (598 + t) (by omega), y p (by omega)]
theorem Sim_h1 {O : Nat → Prop} {M Mr : zMem} {w T c b r t s m : Nat} (h : SimZ (fun q => q = r) O M w Mr T c b) (hr : r < 4) (hc : c < 2147483000) (ht : t < 24) (hb : Mr.1 24 0 0 (550 + t) = nI r) (hs : s < 4) (h282 : Mr.1 24 0 0 (282 + r) = nI s) (hm : Mr.1 24 0 0 (306 + r) = nI m) (hm2 : m ≤ 24) (hT : T < 2147483648) : SimZ (fun q => q = r) O (m_tallyAdd (m_readTag (m_write (m_cnt M w 2 1) w (nI r) 2 (nI t)) w r t (nI r)) w (2 * r) 1) w (n_reads Mr r t s m c) T (c + 1) b := by
  have mlt := (reads_lt (h.2.2.2.2.2.2.2.2 r hr).2.2.2.1 hm ht hb hm2).1
  have s1 := Sim_log (r := nI r) (k := 2) (n := nI t) (Sim_cnt (k := 2) (x := 1) h (by omega)) hc
  have N1 : ∀ p, 262 ≤ p → (n_logs (n_counts Mr 2 1) c (nI r) 2 (nI t)).1 24 0 0 p = Mr.1 24 0 0 p := fun p hp => by
    rw [zf_logs (by omega) (by omega), cnt_at, if_neg (by omega)]
  have row := reads_row (Mr := Mr) (c := c) hr ht hs mlt
  have e2 : n_logs (n_counts Mr 2 1) c (nI r) (nI 2) (nI t) = n_logs (n_counts Mr 2 1) c (nI r) 2 (nI t) := rfl
  rw [e2] at row
  generalize eM1 : m_write (m_cnt M w 2 1) w (nI r) 2 (nI t) = M1 at *
  generalize eN1 : n_logs (n_counts Mr 2 1) c (nI r) 2 (nI t) = A at *
  have b1 : A.1 24 0 0 (550 + t) = nI r := (N1 _ (by omega)).trans hb
  obtain ⟨tk, hin, rch⟩ := Sim_bsy s1 hr t ht b1
  have R1 := s1.2.2.2.2.2.2.2.2 r hr
  have on1 := R1.2.1.2.2.1 tk
  have m5 : M1.1 4 w r 5 = nI s := ((show M1.1 4 w r 5 = A.1 24 0 0 (282 + r) from R1.1.1 5 (by omega)).trans (N1 _ (by omega))).trans h282
  obtain ⟨fl, fl2⟩ := S_flag (f := s) (by omega) (s1.2.2.2.1 t ht) hin
  have v01 : 1 - r_fl A t s = 0 ∨ 1 - r_fl A t s = 1 := by
    rcases fl2 with e | e
    · rw [e]
      exact .inr rfl
    · rw [e]
      exact .inl rfl
  have s2 := Sim_set (f := s) (v := 1 - r_fl A t s) s1 ht hin (by omega) v01 hT (fun _ _ => ⟨r, hr, on1, rch⟩)
  have eT1 : m_readTag1 M1 w r t = m_setFlag M1 w t (nI s) (1 - r_fl A t s) (M1.1 9 w 0 5) := by
    unfold m_readTag1
    rw [m5, fl]
  have hin2 : (n_turns A t s (1 - r_fl A t s)).1 24 0 0 (454 + t) = 1 := by
    rw [rd_turns (by omega) ht, if_neg (by rw [if_neg (by omega)]; omega), if_neg (fun z => by have := z.2; omega)]
    exact hin
  have fl3 := (S_flag (f := s) (by omega) (s2.2.2.2.1 t ht) hin2).1
  have m5' : (m_setFlag M1 w t (nI s) (1 - r_fl A t s) (M1.1 9 w 0 5)).1 4 w r 5 = nI s := by
    rw [rd_set (by omega), if_neg (by omega), if_neg (fun z => by have := z.2.1; omega)]
    exact m5
  have s3 := Sim_cnt (k := 8) (x := r_fl (n_turns A t s (1 - r_fl A t s)) t s) s2 (by omega)
  have eT2 : m_readTag2 M1 w r t = m_cnt (m_setFlag M1 w t (nI s) (1 - r_fl A t s) (M1.1 9 w 0 5)) w 8 (r_fl (n_turns A t s (1 - r_fl A t s)) t s) := by
    unfold m_readTag2
    rw [eT1, m5', fl3]
    rfl
  have eY : n_counts (n_turns A t s (1 - r_fl A t s)) 8 (r_fl (n_turns A t s (1 - r_fl A t s)) t s) = n_yy A t s := rfl
  rw [← eT2, eY] at s3
  have yk : ∀ p, p = 550 + t ∨ p = 306 + r → (n_yy A t s).1 24 0 0 p = A.1 24 0 0 p := fun p hp => by
    rw [rd_yy ht hs, if_neg (by omega), if_neg (by omega), if_neg (fun z => by have := z.2; omega)]
  have s4 := Sim_rdd s3 hr ht ((yk _ (.inl rfl)).trans b1) ((yk _ (.inr rfl)).trans ((N1 _ (by omega)).trans hm)) hm2
  exact Sim_R s4 (fun p => (row p).symm)
