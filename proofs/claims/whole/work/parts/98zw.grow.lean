/-! a new world of the class's among the cells -/
def z_wk (a : Nat) : Bool := match a with
  | 2 => true
  | 3 => true
  | 4 => true
  | 7 => true
  | 8 => true
  | 9 => true
  | 20 => true
  | 21 => true
  | 22 => true
  | 23 => true
  | 30 => true
  | 31 => true
  | _ => false
def z_rid (w : Nat) : Nat → List zId
  | 0 => []
  | n + 1 => z_rid w n ++ [(4, w, n), (8, w, 2 * n), (8, w, 2 * n + 1), (23, w, n), (3, w, 3 * n), (22, w, 3 * n), (3, w, 3 * n + 1), (22, w, 3 * n + 1), (3, w, 3 * n + 2), (22, w, 3 * n + 2)]
def z_nid (w : Nat) : List zId := [(9, w, 0), (30, w, 0), (31, w, 0), (2, w, 0), (21, w, 0), (20, w, 0)] ++ (List.range 24).map (fun j => (7, w, j)) ++ z_rid w 4
/-- addresses: those of a world as its constructor gives them -/
def z_wad (h1 qT qR qj ij qc : Nat) (ad : Nat → Nat) (f : Nat → Nat → Nat) (w : Nat) (old : zId → Nat) : zId → Nat := fun id => if id.2.1 = w then (match id.1 with
  | 9 => h1
  | 30 => qT
  | 31 => qR
  | 2 => qj
  | 21 => ij
  | 20 => qc
  | 7 => ad id.2.2
  | 4 => f id.2.2 0
  | 8 => f (id.2.2 / 2) (1 + id.2.2 % 2)
  | 23 => f id.2.2 3
  | 3 => f (id.2.2 / 3) (4 + 2 * (id.2.2 % 3))
  | 22 => f (id.2.2 / 3) (5 + 2 * (id.2.2 % 3))
  | _ => old id) else old id
def z_Mw (M : zMem) (w : Nat) : zMem := (fun a b c d => if b = w ∧ z_wk a = true then c_0 a c d else M.1 a b c d, M.2)
def z_grw (E : zE) (h1 qT qR qj ij qc : Nat) (ad : Nat → Nat) (f : Nat → Nat → Nat) (w : Nat) : zE := (E.1, E.2.1, z_wad h1 qT qR qj ij qc ad f w E.2.2.1, E.2.2.2 ++ z_nid w)
/-- what a world's constructor lays, rows of references read as far as they reach -/
def z_w6 (E : zE) (ch h1 qT qR qj ij qc : Nat) (ad : Nat → Nat) (f : Nat → Nat → Nat) : va_W := [(h1, .inr (6, [.ref ch, .ref qT, .ref qR, .ref qj, .ref qc, .int 0, .int 0, .int 20, .int 40])), (qT, .inl (E.2.1 2, 24, .inr (.inr (.inr (.inr (fun j => some (ad j))))))), (qR, .inl (E.2.1 3, 4, .inr (.inr (.inr (.inr (fun j => some (f j 0))))))), (qj, .inr (1, [.ref ij, .int 0])), (ij, .inl (E.2.1 0, 240, .inl (fun _ => 0))), (qc, .inl (E.2.1 0, 14, .inl (fun _ => 0)))]
def z_w6c (E : zE) (ch h1 qT qR qj ij qc : Nat) (ad : Nat → Nat) (f : Nat → Nat → Nat) : va_W := [(h1, .inr (6, [.ref ch, .ref qT, .ref qR, .ref qj, .ref qc, .int 0, .int 0, .int 20, .int 40])), (qT, .inl (E.2.1 2, 24, .inr (.inr (.inr (.inr (z_rw ad 24)))))), (qR, .inl (E.2.1 3, 4, .inr (.inr (.inr (.inr (z_rw (fun j => f j 0) 4)))))), (qj, .inr (1, [.ref ij, .int 0])), (ij, .inl (E.2.1 0, 240, .inl (fun _ => 0))), (qc, .inl (E.2.1 0, 14, .inl (fun _ => 0)))]
theorem va_Dad {A : Nat → Prop} {ws ws2 : va_W} (h : va_D A ws) (e : ws2.map Prod.fst = ws.map Prod.fst) : va_D A ws2 := by
  have key : ∀ (k : Nat) (q : Nat × va_E), ws2[k]? = some q → ∃ q2, ws[k]? = some q2 ∧ q2.1 = q.1 := fun k q hk => by
    have h1 : (ws2.map Prod.fst)[k]? = some q.1 := by
      rw [List.getElem?_map, hk]
      rfl
    rw [e, List.getElem?_map] at h1
    cases hw : ws[k]? with
    | none => rw [hw] at h1; cases h1
    | some q2 => rw [hw] at h1; exact ⟨q2, rfl, Option.some.inj h1⟩
  refine ⟨fun i j x y hi hj exy => ?_, fun k q hk => ?_⟩
  · obtain ⟨u, hu, eu⟩ := key i x hi
    obtain ⟨v, hv, ev⟩ := key j y hj
    exact h.1 i j u v hu hv (by rw [eu, ev]; exact exy)
  · obtain ⟨u, hu, eu⟩ := key k q hk
    rw [← eu]
    exact h.2 k u hu
theorem va_Pcons {D : va_G} {cl : List vw_C} {a : Nat × va_E} {l : va_W} {H : Heap} (h1 : va_at D cl a H) (h2 : va_P D cl l H) : va_P D cl (a :: l) H := fun k q hk => by
  cases k with
  | zero => cases hk; exact h1
  | succ k => exact h2 k q hk
theorem va_Ptl {D : va_G} {cl : List vw_C} {a : Nat × va_E} {l : va_W} {H : Heap} (h : va_P D cl (a :: l) H) : va_P D cl l H := fun k q hk => h (k + 1) q hk
theorem va_Phd {D : va_G} {cl : List vw_C} {a : Nat × va_E} {l : va_W} {H : Heap} (h : va_P D cl (a :: l) H) : va_at D cl a H := h 0 a rfl
theorem va_Pl {D : va_G} {cl : List vw_C} {a l : va_W} {H : Heap} (h : va_P D cl (a ++ l) H) : va_P D cl a H := fun k q hk => h k q (by rw [List.getElem?_append_left (List.getElem?_eq_some_iff.mp hk).1]; exact hk)
theorem va_Pr {D : va_G} {cl : List vw_C} {a l : va_W} {H : Heap} (h : va_P D cl (a ++ l) H) : va_P D cl l H := fun k q hk => h (a.length + k) q (by rw [List.getElem?_append_right (Nat.le_add_right _ _), Nat.add_sub_cancel_left]; exact hk)
theorem va_rowq {D : va_G} {cl : List vw_C} {q n : Nat} {cA : ClassId} {ad : Nat → Nat} {H : Heap} (h : va_at D cl (q, .inl (cA, n, .inr (.inr (.inr (.inr (z_rw ad n)))))) H) : va_at D cl (q, .inl (cA, n, .inr (.inr (.inr (.inr (fun j => some (ad j))))))) H := by
  have h1 : H[q]? = some (vp_cell cA (n, .inr (.inr (.inr (.inr (z_rw ad n)))))) := h
  have e2 : (fun j : Fin n => va_rf (z_rw ad n j.val)) = fun j : Fin n => va_rf (some (ad j.val)) := funext (fun j => by unfold z_rw; rw [if_pos j.isLt])
  have e3 : vp_cell cA (n, .inr (.inr (.inr (.inr (z_rw ad n))))) = vp_cell cA (n, .inr (.inr (.inr (.inr (fun j => some (ad j)))))) := congrArg (fun F : Fin n → Value => ({ cls := cA, slots := Array.ofFn F, vm := .none } : Cell)) e2
  show H[q]? = some (vp_cell cA (n, .inr (.inr (.inr (.inr (fun j => some (ad j)))))))
  rw [h1, e3]
theorem z_w6of {E : zE} {ch h1 qT qR qj ij qc : Nat} {ad : Nat → Nat} {f : Nat → Nat → Nat} {X : va_W} {H : Heap} (h : va_P E.1 vwCl (z_w6c E ch h1 qT qR qj ij qc ad f ++ X) H) : va_P E.1 vwCl (z_w6 E ch h1 qT qR qj ij qc ad f ++ X) H :=
  va_Pcons (va_Phd h) (va_Pcons (va_rowq (va_Phd (va_Ptl h))) (va_Pcons (va_rowq (va_Phd (va_Ptl (va_Ptl h)))) (va_Ptl (va_Ptl (va_Ptl h)))))
set_option maxRecDepth 100000 in
set_option maxHeartbeats 4000000 in
theorem z_nwc {E : zE} {M : zMem} {ch h1 qT qR qj ij qc : Nat} {ad : Nat → Nat} {f : Nat → Nat → Nat} {w : Nat} (hw : w = 0 ∨ w = 1 ∨ w = 2) (hch : E.2.2.1 (1, 0, 0) = ch) : (z_nid w).map (fun id => ((z_grw E h1 qT qR qj ij qc ad f w).2.2.1 id, z_cont (z_grw E h1 qT qR qj ij qc ad f w) (z_Mw M w) id)) = z_w6 E ch h1 qT qR qj ij qc ad f ++ (z_tgs ad 24 ++ z_rds f (E.2.1 0) 4) := by
  subst hch
  rcases hw with rfl | rfl | rfl <;> rfl
theorem z_nidC : ∀ w, w = 0 ∨ w = 1 ∨ w = 2 → ∀ id, id ∈ z_nid w → (∀ id2, id2 ∈ z_succ id → id2 ∈ z_nid w ∨ id2 = (1, 0, 0)) ∧ (¬ id.1 = 0 ∧ ¬ id.1 = 50 ∧ ¬ id.1 = 99) ∧ z_isJ id.1 = false ∧ id.2.1 = w ∧ ¬ id.1 = 10 := by
  intro w hw
  rcases hw with rfl | rfl | rfl <;> decide +kernel
theorem z_nid9 (w : Nat) : (9, w, 0) ∈ z_nid w := List.mem_append_left _ (List.mem_append_left _ List.mem_cons_self)
theorem z_grow {A : Nat → Prop} {E : zE} {M : zMem} {H : Heap} {ch h1 qT qR qj ij qc : Nat} {ad : Nat → Nat} {f : Nat → Nat → Nat} {w : Nat} (hw : w = 0 ∨ w = 1 ∨ w = 2) (hcl : ∀ id, id ∈ E.2.2.2 → ∀ id2, id2 ∈ z_succ id → id2 ∈ E.2.2.2 ++ z_nid w) (hk0 : ∀ id, id ∈ E.2.2.2 → ¬ id.1 = 0 ∧ ¬ id.1 = 50 ∧ ¬ id.1 = 99) (hkJ : ∀ id2, id2 ∈ E.2.2.2 → ∀ id, id ∈ E.2.2.2 → z_isJ id.1 = true → id2.1 = id.1 → id2 = id) (hch : E.2.2.1 (1, 0, 0) = ch) (hin : (1, 0, 0) ∈ E.2.2.2)
    (hold : ∀ id, id ∈ E.2.2.2 → (z_grw E h1 qT qR qj ij qc ad f w).2.2.1 id = E.2.2.1 id ∧ z_cont (z_grw E h1 qT qR qj ij qc ad f w) (z_Mw M w) id = z_cont E M id)
    (hP : va_P E.1 vwCl (z_ws E M ++ (z_w6c E ch h1 qT qR qj ij qc ad f ++ (z_tgs ad 24 ++ z_rds f (E.2.1 0) 4))) H) (hD : va_D A (z_ws E M ++ (z_w6c E ch h1 qT qR qj ij qc ad f ++ (z_tgs ad 24 ++ z_rds f (E.2.1 0) 4)))) :
    va_P E.1 vwCl (z_ws (z_grw E h1 qT qR qj ij qc ad f w) (z_Mw M w)) H ∧ va_D A (z_ws (z_grw E h1 qT qR qj ij qc ad f w) (z_Mw M w)) ∧ z_okE (z_grw E h1 qT qR qj ij qc ad f w) := by
  have eW : z_ws (z_grw E h1 qT qR qj ij qc ad f w) (z_Mw M w) = z_ws E M ++ (z_w6 E ch h1 qT qR qj ij qc ad f ++ (z_tgs ad 24 ++ z_rds f (E.2.1 0) 4)) := by
    show ((E.2.2.2 ++ z_nid w).map (fun id => ((z_grw E h1 qT qR qj ij qc ad f w).2.2.1 id, z_cont (z_grw E h1 qT qR qj ij qc ad f w) (z_Mw M w) id))) = _
    rw [List.map_append, z_nwc hw hch]
    congr 1
    refine List.map_congr_left (fun id hid => ?_)
    obtain ⟨e1, e2⟩ := hold id hid
    rw [e1, e2]
  have hD2 : va_D A (z_ws E M ++ (z_w6 E ch h1 qT qR qj ij qc ad f ++ (z_tgs ad 24 ++ z_rds f (E.2.1 0) 4))) := va_Dad hD (by
    simp only [List.map_append]
    rfl)
  have hC := z_nidC w hw
  refine ⟨?_, by rw [eW]; exact hD2, z_okI (M := z_Mw M w) (by rw [eW]; exact hD2), fun id hid id2 h2 => ?_, fun id hid => ?_, fun id2 h2 id hid hJ he => ?_⟩
  · rw [eW]
    exact va_P.app (va_Pl hP) (z_w6of (va_Pr hP))
  · rcases List.mem_append.mp hid with q | q
    · exact hcl id q id2 h2
    · rcases (hC id q).1 id2 h2 with z | z
      · exact List.mem_append_right _ z
      · rw [z]
        exact List.mem_append_left _ hin
  · rcases List.mem_append.mp hid with q | q
    · exact hk0 id q
    · exact (hC id q).2.1
  · rcases List.mem_append.mp hid with q | q
    · rcases List.mem_append.mp h2 with q2 | q2
      · exact hkJ id2 q2 id q hJ he
      · have := (hC id2 q2).2.2.1
        rw [he, hJ] at this
        cases this
    · have := (hC id q).2.2.1
      rw [hJ] at this
      cases this
/-- the cells that were there say what they said -/
theorem z_old {E : zE} {M : zMem} {h1 qT qR qj ij qc : Nat} {ad : Nat → Nat} {f : Nat → Nat → Nat} {w : Nat} (hw : w = 1 ∨ w = 2) (hfr : ∀ id, id ∈ E.2.2.2 → ¬ id.2.1 = w) (h10 : ∀ id, id ∈ E.2.2.2 → id.1 = 10 → id = (10, 0, 0)) (hp2 : w = 1 → ¬ M.1 10 0 0 2 = 1) (hp3 : w = 2 → ¬ M.1 10 0 0 3 = 1) : ∀ id, id ∈ E.2.2.2 → (z_grw E h1 qT qR qj ij qc ad f w).2.2.1 id = E.2.2.1 id ∧ z_cont (z_grw E h1 qT qR qj ij qc ad f w) (z_Mw M w) id = z_cont E M id := by
  intro id hid
  have hne := hfr id hid
  obtain ⟨a, b, c⟩ := id
  have hne : ¬ b = w := hne
  have w0 : ¬ 0 = w := by omega
  have e1 : ∀ x y, (z_grw E h1 qT qR qj ij qc ad f w).2.2.1 (x, b, y) = E.2.2.1 (x, b, y) := fun x y => if_neg hne
  have e0 : ∀ x y, (z_grw E h1 qT qR qj ij qc ad f w).2.2.1 (x, 0, y) = E.2.2.1 (x, 0, y) := fun x y => if_neg w0
  have eM : ∀ x y, (z_Mw M w).1 x b y = M.1 x b y := fun x y => funext (fun d => if_neg (fun z => hne z.1))
  have eL : (z_Mw M w).2 = M.2 := rfl
  have eC : (z_grw E h1 qT qR qj ij qc ad f w).2.1 = E.2.1 := rfl
  refine ⟨e1 a c, ?_⟩
  have p1 : a = 10 → z_ptr (M.1 10 b c 2) ((z_grw E h1 qT qR qj ij qc ad f w).2.2.1 (9, 1, 0)) = z_ptr (M.1 10 b c 2) (E.2.2.1 (9, 1, 0)) := fun ha => by
    rcases hw with rfl | rfl
    · have h0 : b = 0 ∧ c = 0 := by
        have := h10 _ hid ha
        simp only [Prod.mk.injEq] at this
        exact this.2
      have h2 := hp2 rfl
      unfold z_ptr
      rw [h0.1, h0.2, if_neg h2, if_neg h2]
    · rw [show (z_grw E h1 qT qR qj ij qc ad f 2).2.2.1 (9, 1, 0) = E.2.2.1 (9, 1, 0) from rfl]
  have p2 : a = 10 → z_ptr (M.1 10 b c 3) ((z_grw E h1 qT qR qj ij qc ad f w).2.2.1 (9, 2, 0)) = z_ptr (M.1 10 b c 3) (E.2.2.1 (9, 2, 0)) := fun ha => by
    rcases hw with rfl | rfl
    · rw [show (z_grw E h1 qT qR qj ij qc ad f 1).2.2.1 (9, 2, 0) = E.2.2.1 (9, 2, 0) from rfl]
    · have h0 : b = 0 ∧ c = 0 := by
        have := h10 _ hid ha
        simp only [Prod.mk.injEq] at this
        exact this.2
      have h3 := hp3 rfl
      unfold z_ptr
      rw [h0.1, h0.2, if_neg h3, if_neg h3]
  generalize (z_grw E h1 qT qR qj ij qc ad f w) = E2 at e1 e0 eC p1 p2 ⊢
  generalize z_Mw M w = M2 at eM eL ⊢
  unfold z_cont
  dsimp only
  split <;> first
    | (simp only [eM, eL, eC, e1, e0]; done)
    | (simp only [eM, eL, eC, e1, e0, p1 (by first | rfl | assumption), p2 (by first | rfl | assumption)]; done)
theorem Mw_J0 : z_Mw J_0 0 = J_0 := by
  have e : (z_Mw J_0 0).1 = J_0.1 := by
    funext a b c d
    show (if b = 0 ∧ z_wk a = true then c_0 a c d else J_0.1 a b c d) = J_0.1 a b c d
    by_cases h : b = 0 ∧ z_wk a = true
    · rw [if_pos h]
      refine (J_0c (fun z => ?_)).symm
      have h2 := h.2
      rw [z] at h2
      exact absurd h2 (by decide)
    · rw [if_neg h]
  exact Prod.ext e rfl
/-! the reference's cells behind the class's -/
def z_rad (qm r0 r1 r2 z cr : Nat) (old : zId → Nat) : zId → Nat := fun id => if id.1 = 11 then qm else if id.1 = 40 then z else if id.1 = 47 then cr else if id.1 = 24 then (if id.2.2 = 0 then r0 else if id.2.2 = 1 then r1 else r2) else old id
def z_gr (E : zE) (qm r0 r1 r2 z cr : Nat) : zE := (E.1, E.2.1, z_rad qm r0 r1 r2 z cr E.2.2.1, E.2.2.2 ++ z_l10)
theorem z_gref {A : Nat → Prop} {E : zE} {M : zMem} {H : Heap} {qm r0 r1 r2 z cr : Nat} {F : va_W} (hE : z_okE E) (hk : ∀ id, id ∈ E.2.2.2 → ¬ id.1 = 11 ∧ ¬ id.1 = 24 ∧ ¬ id.1 = 40 ∧ ¬ id.1 = 47)
    (hF : z_l10.map (fun id => ((z_gr E qm r0 r1 r2 z cr).2.2.1 id, z_cont (z_gr E qm r0 r1 r2 z cr) M id)) = F) (hP : va_P E.1 vwCl (z_ws E M ++ F) H) (hD : va_D A (z_ws E M ++ F)) :
    va_P E.1 vwCl (z_ws (z_gr E qm r0 r1 r2 z cr) M) H ∧ va_D A (z_ws (z_gr E qm r0 r1 r2 z cr) M) ∧ z_okE (z_gr E qm r0 r1 r2 z cr) := by
  have ad : ∀ x y w, ¬ x = 11 → ¬ x = 40 → ¬ x = 47 → ¬ x = 24 → (z_gr E qm r0 r1 r2 z cr).2.2.1 (x, w, y) = E.2.2.1 (x, w, y) := fun x y w a1 a2 a3 a4 => by
    show (if x = 11 then qm else if x = 40 then z else if x = 47 then cr else if x = 24 then (if y = 0 then r0 else if y = 1 then r1 else r2) else E.2.2.1 (x, w, y)) = _
    rw [if_neg a1, if_neg a2, if_neg a3, if_neg a4]
  have eW : z_ws (z_gr E qm r0 r1 r2 z cr) M = z_ws E M ++ F := by
    show ((E.2.2.2 ++ z_l10).map (fun id => ((z_gr E qm r0 r1 r2 z cr).2.2.1 id, z_cont (z_gr E qm r0 r1 r2 z cr) M id))) = _
    rw [List.map_append, hF]
    congr 1
    refine List.map_congr_left (fun id hid => ?_)
    obtain ⟨k1, k2, k3, k4⟩ := hk id hid
    obtain ⟨a, b, c⟩ := id
    have k1 : ¬ a = 11 := k1
    have k2 : ¬ a = 24 := k2
    have k3 : ¬ a = 40 := k3
    have k4 : ¬ a = 47 := k4
    have e1 := ad a c b k1 k3 k4 k2
    have eC : (z_gr E qm r0 r1 r2 z cr).2.1 = E.2.1 := rfl
    have g1 := fun y w => ad 1 y w (by decide) (by decide) (by decide) (by decide)
    have g2 := fun y w => ad 2 y w (by decide) (by decide) (by decide) (by decide)
    have g3 := fun y w => ad 3 y w (by decide) (by decide) (by decide) (by decide)
    have g4 := fun y w => ad 4 y w (by decide) (by decide) (by decide) (by decide)
    have g7 := fun y w => ad 7 y w (by decide) (by decide) (by decide) (by decide)
    have g8 := fun y w => ad 8 y w (by decide) (by decide) (by decide) (by decide)
    have g9 := fun y w => ad 9 y w (by decide) (by decide) (by decide) (by decide)
    have g20 := fun y w => ad 20 y w (by decide) (by decide) (by decide) (by decide)
    have g21 := fun y w => ad 21 y w (by decide) (by decide) (by decide) (by decide)
    have g22 := fun y w => ad 22 y w (by decide) (by decide) (by decide) (by decide)
    have g23 := fun y w => ad 23 y w (by decide) (by decide) (by decide) (by decide)
    have g30 := fun y w => ad 30 y w (by decide) (by decide) (by decide) (by decide)
    have g31 := fun y w => ad 31 y w (by decide) (by decide) (by decide) (by decide)
    have g45 := fun y w => ad 45 y w (by decide) (by decide) (by decide) (by decide)
    have g46 := fun y w => ad 46 y w (by decide) (by decide) (by decide) (by decide)
    have g48 := fun y w => ad 48 y w (by decide) (by decide) (by decide) (by decide)
    show ((z_gr E qm r0 r1 r2 z cr).2.2.1 (a, b, c), z_cont (z_gr E qm r0 r1 r2 z cr) M (a, b, c)) = (E.2.2.1 (a, b, c), z_cont E M (a, b, c))
    rw [e1]
    clear e1
    generalize z_gr E qm r0 r1 r2 z cr = E2 at *
    congr 1
    unfold z_cont
    dsimp only
    split <;> first
      | exact absurd rfl k1
      | exact absurd (by assumption) k1
      | (simp only [eC, g1, g2, g3, g4, g7, g8, g9, g20, g21, g22, g23, g30, g31, g45, g46, g48]; done)
  refine ⟨by rw [eW]; exact hP, by rw [eW]; exact hD, z_okI (M := M) (by rw [eW]; exact hD), fun id hid id2 h2 => ?_, fun id hid => ?_, fun id2 h2 id hid hJ he => ?_⟩
  · rcases List.mem_append.mp hid with q | q
    · exact List.mem_append_left _ (hE.2.1 id q id2 h2)
    · exact List.mem_append_right _ (z_l10c id q id2 h2)
  · rcases List.mem_append.mp hid with q | q
    · exact hE.2.2.1 id q
    · exact z_l10k id q
  · have j47 : ∀ id, id ∈ z_l10 → z_isJ id.1 = true → id.1 = 47 := by decide +kernel
    rcases List.mem_append.mp hid with q | q
    · rcases List.mem_append.mp h2 with q2 | q2
      · exact hE.2.2.2 id2 q2 id q hJ he
      · exact absurd (he.symm.trans (j47 id2 q2 (by rw [he]; exact hJ))) (hk id q).2.2.2
    · rcases List.mem_append.mp h2 with q2 | q2
      · exact absurd (he.trans (j47 id q hJ)) (hk id2 q2).2.2.2
      · exact z_l10j id2 q2 id q hJ he
