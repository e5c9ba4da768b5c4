/-! a call upon the cell that came last -/
theorem vx_ndN : ∀ l : List Nat, l.Nodup → va_nd l = true
  | [], _ => rfl
  | a :: l, h => by
    obtain ⟨h1, h2⟩ := List.nodup_cons.mp h
    show (decide (a ∉ l) && va_nd l) = true
    rw [decide_eq_true h1, vx_ndN l h2]
    rfl
theorem vx_rgl {ws : va_W} {c : Nat × va_E} : (List.range ws.length).map (fun i => (ws ++ [c])[i]?) = ws.map some := by
  refine List.ext_getElem? (fun i => ?_)
  rw [List.getElem?_map, List.getElem?_map]
  by_cases h : i < ws.length
  · rw [List.getElem?_range h, List.getElem?_eq_getElem h]
    show some ((ws ++ [c])[i]?) = _
    rw [List.getElem?_append_left h, List.getElem?_eq_getElem h]
    rfl
  · rw [List.getElem?_eq_none (by rw [List.length_range]; omega), List.getElem?_eq_none (by omega)]
    rfl
theorem vx_lastC {ws : va_W} {c : Nat × va_E} : [ws.length].map (fun i => (ws ++ [c])[i]?) = [c].map some := by
  simp
theorem vx_lastP {D : va_G} {cl : List vw_C} {ws : va_W} {c : Nat × va_E} {H : Heap} (hP : va_P D cl (ws ++ [c]) H) : va_P D cl [c] H := fun k q hk => by
  have hk0 : k < 1 := (List.getElem?_eq_some_iff.mp hk).1
  rw [show k = 0 by omega] at hk
  exact hP ws.length q (by rw [List.getElem?_append_right (Nat.le_refl _), Nat.sub_self]; exact hk)
theorem vx_lastD {A : Nat → Prop} {ws : va_W} {c : Nat × va_E} (hD : va_D A (ws ++ [c])) : va_D A [c] := by
  refine ⟨fun i j p q hi hj _ => ?_, fun k q hk => ?_⟩
  · have h1 : i < 1 := (List.getElem?_eq_some_iff.mp hi).1
    have h2 : j < 1 := (List.getElem?_eq_some_iff.mp hj).1
    omega
  · have hk0 : k < 1 := (List.getElem?_eq_some_iff.mp hk).1
    rw [show k = 0 by omega] at hk
    exact hD.2 ws.length q (by rw [List.getElem?_append_right (Nat.le_refl _), Nat.sub_self]; exact hk)
theorem vx_last {A0 : Nat → Prop} {D : va_G} {cl : List vw_C} {ws w1 : va_W} {c : Nat × va_E} {H H1 : Heap} (hP : va_P D cl (ws ++ [c]) H) (hD : va_D A0 (ws ++ [c])) (hk : ∀ q : Nat, q < H.size → ¬ va_A [c] H.size q → H1[q]? = H[q]?) (hF : ∀ q, va_A [c] H.size q → A0 q) (hP1 : va_P D cl w1 H1) (hD1 : va_D (va_A [c] H.size) w1) : va_P D cl (ws ++ w1) H1 ∧ va_D A0 (ws ++ w1) :=
  va_join (wc := [c]) (wr := ws) hP hD [ws.length] (List.range ws.length) vx_lastC vx_rgl (vx_ndN _ List.nodup_range) (fun i hi hj => by
    have h1 := List.mem_range.mp hi
    have h2 := List.mem_singleton.mp hj
    omega) hk hF hP1 hD1
