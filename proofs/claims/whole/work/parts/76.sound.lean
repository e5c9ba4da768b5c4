/-! ONE CONTRACT FOR EVERY METHOD: what the small machine's call gives, the real one gives -/
def z_Link (k : Nat) : Prop := plainFor (z_tab k).1 = true ∧ ∃ pcs : List Nat, pcs.getD 0 0 = 0 ∧ (∀ i op, ((z_cods.getD (k / 16) []).getD (k % 16) [])[i]? = some op → z_OpOk z_tab (z_tab k).2.1 (z_tab k).2.2.1 (z_tab k).2.2.2 (z_tab k).1.cls pcs i op)
theorem z_ofW {l : Launch} {y : MethodName} {ws ws' : List Cond} {rm : Room} {Pc : Array Value → State → Prop} {Qc : Array Value → State → Outcome → State → Prop} {mc ms : Nat} {free : Addr → Prop} {cc : ByteArray} {maxL : Nat} {ret : Option FieldType}
    (hy : plainFor y = true) (hw : ws = Cond.code y cc maxL ret :: ws')
    (body : ∀ p e s m args below meth c s₁, BodyLoose p l y (headSpec ws rm) cc maxL ret e s m args below meth c s₁ → c.maxLocals = maxL → Pc args s →
      W p l e (headSpec ws rm).room s m args below meth c s.heap [] 0 0 (MQ below Qc args s mc ms free) (entryFrame m args maxL)) : Met l y ws rm Pc Qc mc ms free := by
  refine MetFree.of_bodySF (code := cc) (maxLocals := maxL) (ret := ret) hy ?_ ?_
  · intro args s m h hn
    obtain ⟨meth, c, h1, h2, h3, h4, h5, h6, -, -⟩ := Cond.code_spec hn (atoms_spec (ws := ws) h _ (by rw [hw]; exact List.mem_cons_self))
    exact ⟨meth, c, h1, h2, h3, h4, h5, h6⟩
  · intro p e s m args below meth c s₁ B hml hP _
    have hh0 : s₁.heap = s.heap := by rw [B.state]; rfl
    obtain ⟨t, a1, o, b1, b2, b3⟩ := body p e s m args below meth c s₁ B hml hP s₁ hh0 (Stand.of_body B)
    exact ⟨t, o, a1, b1, b2, ⟨b3.1, b3.2⟩⟩
theorem z_nop_eq : ∀ (l : List zOp) (i : Nat), z_nop l i = (l[i]?).getD o_bad
  | [], i => by simp [z_nop]
  | a :: l, 0 => by simp [z_nop]
  | a :: l, i + 1 => by simp [z_nop, z_nop_eq l i]
theorem z_lv_lay (E : zE) : ∀ (as : List zV) (n : Nat), (∀ v, v ∈ as → z_isU v = false) → z_lv E n (z_lay as) = lv_args n (as.map (z_c E))
  | [], n, _ => rfl
  | v :: l, n, h => by
    have hv := h v List.mem_cons_self
    have hl : ∀ u, u ∈ l → z_isU u = false := fun u hu => h u (List.mem_cons_of_mem _ hu)
    rw [List.map_cons]
    unfold z_lay lv_args
    rw [z_catc]
    cases hL : z_isL v with
    | true =>
      have hc : z_cat v = 2 := z_cat2.mpr hL
      rw [hc, if_pos rfl]
      simp only [cond_true]
      unfold z_lv
      rw [hv]
      simp only [cond_false]
      unfold z_lv
      have hu : z_isU z_un = true := rfl
      rw [hu]
      simp only [cond_true]
      rw [z_lv_lay E l (n + 1 + 1) hl]
    | false =>
      have hc : ¬ z_cat v = 2 := fun q => by rw [z_cat2.mp q] at hL; cases hL
      rw [if_neg hc]
      simp only [cond_false]
      unfold z_lv
      rw [hv]
      simp only [cond_false]
      rw [z_lv_lay E l (n + 1) hl]
theorem z_lv_pad (E : zE) : ∀ (l : List zV) (n m : Nat), z_lv E n (l ++ List.replicate m z_un) = z_lv E n l
  | [], n, 0 => rfl
  | [], n, m + 1 => by
    have h := z_lv_pad E [] (n + 1) m
    simp only [List.nil_append] at h ⊢
    rw [List.replicate_succ]
    unfold z_lv
    have hu : z_isU z_un = true := rfl
    rw [hu]
    simp only [cond_true]
    rw [h]
    rfl
  | v :: l, n, m => by
    have h := z_lv_pad E l (n + 1) m
    rw [List.cons_append]
    unfold z_lv
    rw [h]
theorem z_isU_ok {E : zE} {v : zV} (h : z_isU v = true) : ∃ w i, v = .inr (.inr (99, w, i)) := by
  rcases v with x | x | ⟨a, w, i⟩
  · simp [z_isU] at h
  · simp [z_isU] at h
  · have ha : a = 99 := by simpa [z_isU] using h
    exact ⟨w, i, by rw [ha]⟩
theorem z_vlay {E : zE} : ∀ (as : List zV), (∀ v, v ∈ as → z_vok E v) → ∀ u, u ∈ z_lay as → z_vok E u
  | [], _, u, hu => by simp [z_lay] at hu
  | v :: l, h, u, hu => by
    have ih := z_vlay l (fun w hw => h w (List.mem_cons_of_mem _ hw))
    unfold z_lay at hu
    cases hL : z_isL v with
    | true =>
      rw [hL] at hu
      simp only [cond_true, List.mem_cons] at hu
      rcases hu with e | e | e
      · rw [e]; exact h v List.mem_cons_self
      · rw [e]; exact z_vun
      · exact ih u e
    | false =>
      rw [hL] at hu
      simp only [cond_false, List.mem_cons] at hu
      rcases hu with e | e
      · rw [e]; exact h v List.mem_cons_self
      · exact ih u e
theorem z_lay_len : ∀ (as : List zV), (z_lay as).length = (as.map z_cat).sum
  | [] => rfl
  | v :: l => by
    have ih := z_lay_len l
    unfold z_lay
    cases hL : z_isL v with
    | true => simp only [cond_true, List.length_cons, List.map_cons, List.sum_cons, ih, z_cat2.mpr hL]; omega
    | false =>
      have hc : z_cat v = 1 := by rcases v with x | x | id <;> simp_all [z_cat, z_isL]
      simp only [cond_false, List.length_cons, List.map_cons, List.sum_cons, ih, hc]; omega
theorem lg_sl_len (E : zE) : ∀ (as : List zV), (lg_sl (as.map (z_c E))).length = (as.map z_cat).sum
  | [] => rfl
  | v :: l => by
    have ih := lg_sl_len E l
    have e1 : lg_sl ((v :: l).map (z_c E)) = (if (z_c E v).category = 2 then [Slot.val (z_c E v), .second] else [.val (z_c E v)]) ++ lg_sl (l.map (z_c E)) := rfl
    rw [e1, z_catc, List.length_append, ih]
    by_cases hc : z_cat v = 2
    · rw [if_pos hc]; simp [hc]
    · rw [if_neg hc]
      have hc1 : z_cat v = 1 := by rcases v with x | x | id <;> simp_all [z_cat]
      simp [hc1]
set_option maxHeartbeats 4000000 in
theorem z_sound_step (h : Nat) (IH : z_IH z_tab (z_call h) h) (k : Nat) (hk : z_Link k) (l : Launch) (E : zE) (as : List zV) (M : zMem) (K : zK) (hE : z_okE E) (hv : ∀ v, v ∈ as → z_vok E v) (hc : z_call (h + 1) k as M K) : z_Met (z_tab k) (h + 1) l E as M K := by
  obtain ⟨hpl, pcs, hp0, hlink⟩ := hk
  obtain ⟨ha, hc⟩ := hc
  have ha : (as.all (fun v => !z_isU v) && decide ((as.map z_cat).sum ≤ z_nl k)) = true := ha
  rw [Bool.and_eq_true] at ha
  obtain ⟨haU, haL⟩ := ha
  have haL := of_decide_eq_true haL
  have haU : ∀ v, v ∈ as → z_isU v = false := fun v hv => by
    have := List.all_eq_true.mp haU v hv
    simpa using this
  refine z_ofW (cc := (z_tab k).2.1) (maxL := (z_tab k).2.2.1) (ret := (z_tab k).2.2.2) hpl rfl ?_
  intro p e s m args below meth c s₁ B hml hPc
  obtain ⟨rfl, hP, hV⟩ := hPc
  have hx := B.exec
  have hb := B.bytes
  have hr := B.returns
  have hts : ∀ w ∈ zw, w.before (as.map (z_c E)).toArray s = true := fun w hw => atoms_spec (ws := z_wsm (z_tab k)) B.pre w (List.mem_cons_of_mem _ hw)
  have hown : s.vm.findClass (z_tab k).1.cls = some m.cls := findClass_of_methodNamed B.named
  have hlocks := B.notSynchronized
  have hC : z_Ctx (z_tab k).2.1 (z_tab k).2.2.1 (z_tab k).2.2.2 (z_tab k).1.cls h E p (headSpec (z_wsm (z_tab k)) (z_rm (h + 1))).room s m (as.map (z_c E)).toArray meth c := ⟨hx, hb, hml, hown, hts, hr, hlocks, hE, hV, rfl, rfl⟩
  have hrun : z_run (z_cd k) (z_call h) K 0 (z_pad (z_nl k) (z_lay as)) [] M := hc
  have hW := hrun (z_W (z_tab k).2.2.1 pcs E K p l e (headSpec (z_wsm (z_tab k)) (z_rm (h + 1))).room s m (as.map (z_c E)).toArray below meth c) (by
    rintro i ls st M2 ⟨P2, hP2, hop⟩
    unfold z_cd at hop
    rw [z_nop_eq] at hop
    cases ho : ((z_cods.getD (k / 16) []).getD (k % 16) [])[i]? with
    | none => rw [ho] at hop; exact hop.elim
    | some op =>
      rw [ho] at hop
      exact hlink i op ho h (z_call h) IH l E K p e _ s m _ below meth c hC P2 hP2 ls st M2 hop)
  have hvl : ∀ v, v ∈ z_pad (z_nl k) (z_lay as) → z_vok E v := by
    intro v hvm
    unfold z_pad at hvm
    rcases List.mem_append.mp hvm with q | q
    · exact z_vlay as hv v q
    · rw [List.eq_of_mem_replicate q]; exact z_vun
  rw [lg_entry_eq]
  have hl := lv_entry (as.map (z_c E)) (n := (z_tab k).2.2.1) (by rw [lg_sl_len]; exact haL)
  have hl2 : z_has E ((lg_sl (as.map (z_c E)) ++ List.replicate ((z_tab k).2.2.1 - (lg_sl (as.map (z_c E))).length) Slot.unset).toArray) (z_tab k).2.2.1 (z_pad (z_nl k) (z_lay as)) := by
    unfold z_has z_pad
    rw [z_lv_pad, z_lv_lay E as 0 haU]
    exact hl
  have hfin := hW hvl (fun v hv => by cases hv) s.heap [] _ hP va_S.rf hl2
  rw [hp0] at hfin
  exact hfin
