/-! what each step leaves alone -/
def z_fcw (w : Nat) (M N : zMem) : Prop := (∀ a b c d, a = 10 ∨ a = 11 ∨ a = 24 ∨ a = 40 ∨ ¬ b = w → N.1 a b c d = M.1 a b c d) ∧ N.2 = M.2
theorem fw_0 {M N : zMem} (h : z_fcw 0 M N) : z_fc M N := h
theorem fw_rf {w : Nat} {M : zMem} : z_fcw w M M := ⟨fun _ _ _ _ _ => rfl, rfl⟩
theorem fw_tr {w : Nat} {A B C : zMem} (h : z_fcw w A B) (h2 : z_fcw w B C) : z_fcw w A C := ⟨fun a b c d e => (h2.1 a b c d e).trans (h.1 a b c d e), h2.2.trans h.2⟩
theorem fw_up {w : Nat} {M : zMem} {kd i k : Nat} {x : Int32} (h : kd < 10 ∨ (20 ≤ kd ∧ kd < 24)) : z_fcw w M (z_up M kd w i k x) := ⟨fun a b c d e => by rw [z_up1, if_neg (by omega)], rfl⟩
theorem fw_cp {w : Nat} {M : zMem} {kd i : Nat} {f : Nat → Int32} (h : kd < 10 ∨ (20 ≤ kd ∧ kd < 24)) : z_fcw w M (z_cp M kd w i f) := ⟨fun a b c d e => by rw [z_cp1, if_neg (by omega)], rfl⟩
theorem fw_it {w : Nat} {f : Nat → zMem → zMem} (hf : ∀ i M, z_fcw w M (f i M)) {M : zMem} : ∀ n, z_fcw w M (z_it f n M)
  | 0 => fw_rf
  | n + 1 => fw_tr (fw_it hf n) (hf n _)
theorem fw_set {w i : Nat} {M : zMem} {f v t : Int32} : z_fcw w M (m_setFlag M w i f v t) := by
  unfold m_setFlag
  repeat' (first | exact fw_rf | (with_reducible refine fw_tr ?_ (fw_up (by decide))) | (with_reducible refine fw_tr ?_ (fw_cp (by decide))) | split)
theorem fw_cnt {w k : Nat} {M : zMem} {x : Int32} : z_fcw w M (m_cnt M w k x) := fw_up (by decide)
theorem fw_wr {w : Nat} {M : zMem} {a b c : Int32} : z_fcw w M (m_write M w a b c) := by
  unfold m_write m_jAdd2
  repeat' (first | exact fw_rf | (with_reducible refine fw_tr ?_ (fw_up (by decide))) | (with_reducible refine fw_tr ?_ (fw_cp (by decide))) | split)
theorem fw_fade {w i : Nat} {M : zMem} {f : Int32} : z_fcw w M (m_fade M w i f) := by
  unfold m_fade
  exact fw_tr fw_set (fw_up (by decide))
theorem fw_settle {w i : Nat} {M : zMem} : z_fcw w M (m_settle M w i) := by
  unfold m_settle
  dsimp only
  split
  · split
    · split
      · exact fw_tr (fw_up (by decide)) fw_fade
      · exact fw_up (by decide)
    · split
      · exact fw_fade
      · exact fw_rf
  · exact fw_up (by decide)
theorem fw_rel {w i : Nat} {M : zMem} : z_fcw w M (m_release M w i) := by
  unfold m_release
  repeat' (first | exact fw_rf | (with_reducible refine fw_tr ?_ (fw_up (by decide))) | (with_reducible refine fw_tr ?_ (fw_cp (by decide))) | split)
theorem fw_leave {w i : Nat} {M : zMem} : z_fcw w M (m_leave M w i) := fw_tr (fw_up (by decide)) fw_rel
theorem fw_arrive {w i : Nat} {M : zMem} {x r : Int32} : z_fcw w M (m_arrive M w i x r) := by
  unfold m_arrive
  repeat' (first | exact fw_rf | (with_reducible refine fw_tr ?_ (fw_up (by decide))) | (with_reducible refine fw_tr ?_ (fw_cp (by decide))) | split)
theorem fw_come {w : Nat} {M : zMem} {t x r : Int32} : z_fcw w M (m_come M w t x r) := fw_tr fw_arrive fw_settle
theorem fw_carry {w i : Nat} {M : zMem} {x : Int32} : z_fcw w M (m_carry M w i x) := by
  unfold m_carry m_carry1
  refine fw_tr ?_ fw_settle
  split
  · exact fw_tr (fw_tr (fw_up (by decide)) fw_rel) (fw_up (by decide))
  · exact fw_up (by decide)
theorem fw_change {w i : Nat} {M : zMem} {f d : Int32} : z_fcw w M (m_change M w i f d) := by
  unfold m_change
  split
  · exact fw_set
  · split
    · exact fw_rf
    · exact fw_set
theorem fw_put {w : Nat} {M : zMem} {t p n v : Int32} : z_fcw w M (m_put M w t p n v) := fw_tr (fw_up (by decide)) (fw_up (by decide))
theorem fw_sel1 {w : Nat} {M : zMem} {x f a p n v : Int32} : ∀ N, z_fcw w M (z_it (f_sel w x f a p n v) N (0, M)).2
  | 0 => fw_rf
  | N + 1 => by
    refine fw_tr (B := (z_it (f_sel w x f a p n v) N (0, M)).2) (fw_sel1 N) ?_
    rw [z_itS, f_sel]
    split
    · split
      · exact fw_change
      · exact fw_change
    · exact fw_rf
theorem fw_sel {w : Nat} {M : zMem} {x f a p n v : Int32} : z_fcw w M (m_sel M w x f a p n v) := fw_tr (fw_tr (fw_sel1 24) fw_cnt) fw_wr
theorem fw_tcl {w i : Nat} {M : zMem} : z_fcw w M (m_tallyClear M w i) := by
  unfold m_tallyClear
  repeat' (first | exact fw_rf | (with_reducible refine fw_tr ?_ (fw_up (by decide))) | (with_reducible refine fw_tr ?_ (fw_cp (by decide))) | split)
theorem fw_tadd {w i : Nat} {M : zMem} {x : Int32} : z_fcw w M (m_tallyAdd M w i x) := by
  unfold m_tallyAdd
  repeat' (first | exact fw_rf | (with_reducible refine fw_tr ?_ (fw_up (by decide))) | (with_reducible refine fw_tr ?_ (fw_cp (by decide))) | split)
theorem fw_pcl {w i : Nat} {M : zMem} : z_fcw w M (m_pfxClear M w i) := fw_up (by decide)
theorem fw_padd {w i : Nat} {M : zMem} {x : Int32} : z_fcw w M (m_pfxAdd M w i x) := by
  unfold m_pfxAdd
  repeat' (first | exact fw_rf | (with_reducible refine fw_tr ?_ (fw_up (by decide))) | (with_reducible refine fw_tr ?_ (fw_cp (by decide))) | split)
theorem fw_ptake {w i : Nat} {M : zMem} : z_fcw w M (m_pfxTake M w i) := by
  unfold m_pfxTake
  repeat' (first | exact fw_rf | (with_reducible refine fw_tr ?_ (fw_up (by decide))) | (with_reducible refine fw_tr ?_ (fw_cp (by decide))) | split)
theorem fw_rest {w r : Nat} {M : zMem} : z_fcw w M (m_rest M w r) := fw_tr (fw_tr (fw_up (by decide)) fw_pcl) fw_tcl
theorem fw_relA {w : Nat} {M : zMem} {x : Int32} : z_fcw w M (m_releaseAll M w x) := fw_it (fun i M => by
  unfold f_rel
  split
  · exact fw_rel
  · exact fw_rf) 24
theorem fw_intr {w r : Nat} {M : zMem} {x : Int32} : z_fcw w M (m_intr M w r x) := fw_tr (fw_tr (fw_tr fw_relA fw_rest) (fw_up (by decide))) fw_wr
theorem fw_turn {w r : Nat} {M : zMem} {v : Int32} : z_fcw w M (m_turn M w r v) := fw_tr (fw_up (by decide)) (fw_it (fun i M => by
  unfold f_settle
  split
  · exact fw_rf
  · exact fw_settle) 24)
-- the reference
theorem fr_cnt {M : zMem} {k : Nat} {x : Int32} : z_fr M (n_counts M k x) := fr_up
theorem fr_turns {M : zMem} {t f : Nat} {v : Int32} : z_fr M (n_turns M t f v) := by
  unfold n_turns n_turns1
  repeat' (first | exact fr_rf | (with_reducible refine fr_tr ?_ fr_up) | (with_reducible refine fr_tr ?_ fr_cp) | split)
theorem fr_fades {M : zMem} {t f : Nat} : z_fr M (n_fades M t f) := by
  unfold n_fades
  split
  · exact fr_rf
  · exact fr_tr fr_turns fr_cnt
theorem fr_free {M : zMem} {t : Nat} : z_fr M (n_isFree M t) := fr_tr fr_up fr_up
theorem fr_uncl {M : zMem} {t : Nat} : z_fr M (n_unclean M t) := by
  unfold n_unclean
  repeat' (first | exact fr_rf | (with_reducible refine fr_tr ?_ fr_up) | (with_reducible refine fr_tr ?_ fr_cp) | split)
theorem fr_frees {M : zMem} {r : Nat} : z_fr M (n_frees M r) := fr_tr (fr_it (fun i M => by
  unfold f_mFrees
  split
  · exact fr_free
  · exact fr_rf) 24) fr_up
theorem fr_clears {M : zMem} {t : Nat} : z_fr M (n_clears M t) := by
  unfold n_clears n_clears0
  have e1 : z_fr M (z_it (f_cl1 t) 11 M) := fr_it (fun i M => fr_up) 11
  have e2 : z_fr M (z_it (f_cl2 t) 4 (z_it (f_cl1 t) 11 M)) := fr_tr e1 (fr_it (f := f_cl2 t) (fun i M => fr_up) 4)
  exact fr_tr (fr_tr (fr_tr (fr_tr e2 fr_up) fr_up) fr_up) fr_up
theorem fr_look {M : zMem} {t : Nat} : z_fr M (f_look t M) := by
  unfold f_look
  split
  · exact fr_rf
  · split
    · split
      · exact fr_tr fr_up fr_fades
      · exact fr_fades
    · exact fr_up
theorem fr_looks {M : zMem} : z_fr M (n_looks M) := fr_it (fun i M => fr_look) 24
theorem fr_log1 {M : zMem} {c : Nat} {r k n : Int32} : z_fr M (n_log1 M c r k n) := by
  unfold n_log1
  repeat' (first | exact fr_rf | (with_reducible refine fr_tr ?_ fr_up) | (with_reducible refine fr_tr ?_ fr_cp) | split)
theorem fr_logs {M : zMem} {c : Nat} {r k n : Int32} : z_fr M (n_logs M c r k n) := by
  unfold n_logs
  split
  · exact fr_tr fr_log1 fr_up
  · exact fr_tr (fr_tr fr_cp fr_log1) fr_up
theorem fr_breaks {M : zMem} {r c : Nat} : z_fr M (n_breaks M r c) := by
  unfold n_breaks
  split
  · exact fr_rf
  · exact fr_tr (fr_tr fr_frees fr_cnt) fr_logs
theorem fr_tag {M : zMem} {t : Nat} {x r : Int32} : z_fr M (n_tag M t x r) := fr_tr (fr_tr (fr_tr (fr_tr fr_clears fr_up) fr_up) fr_up) fr_looks
theorem fr_move {M : zMem} {t : Nat} {x : Int32} : z_fr M (n_move M t x) := by
  unfold n_move n_move2 n_move1
  refine fr_tr ?_ fr_looks
  split
  · exact fr_tr (fr_tr (fr_tr fr_uncl fr_up) fr_free) fr_cnt
  · exact fr_tr fr_uncl fr_up
theorem fr_power {M : zMem} {r c : Nat} {v : Int32} : z_fr M (n_power M r v c) := by
  unfold n_power n_power1
  refine fr_tr (fr_tr ?_ fr_up) fr_looks
  split
  · exact fr_breaks
  · exact fr_rf
theorem fr_does {M : zMem} {t f : Nat} {d : Int32} : z_fr M (n_does M t f d) := by
  unfold n_does
  split
  · exact fr_rf
  · exact fr_turns
theorem fr_sel1 {M : zMem} {r f a : Nat} {p n v : Int32} : ∀ N, z_fr M (z_it (f_mSel r f a p n v) N (0, M)).2
  | 0 => fr_rf
  | N + 1 => by
    refine fr_tr (B := (z_it (f_mSel r f a p n v) N (0, M)).2) (fr_sel1 N) ?_
    rw [z_itS, f_mSel]
    split
    · exact fr_does
    · exact fr_rf
theorem fr_sel {M : zMem} {r f a c : Nat} {p n v : Int32} : z_fr M (n_sel M r f a c p n v) := fr_tr (fr_tr (fr_sel1 24) fr_cnt) fr_logs
theorem fr_put {M : zMem} {t : Nat} {p n v : Int32} : z_fr M (n_put M t p n v) := fr_tr fr_up fr_cnt
