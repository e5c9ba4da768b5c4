/-! what the class's world and the reference's row have in common -/
def rp_of (k : Nat) : Nat := ([262, 278, 266, 270, 274, 282, 286, 290, 294, 298, 318, 322] : List Nat).getD k 0
def tp_of (k : Nat) : Nat := ([310, 306, 314] : List Nat).getD k 0
def S_rd (M : zMem) (w : Nat) (R : Nat → Int32) (r : Nat) : Prop := (∀ k, k < 12 → M.1 4 w r k = R (rp_of k + r)) ∧ ∀ k, k < 3 → M.1 8 w (2 * r) k = R (tp_of k + r)
def S_rv (R : Nat → Int32) (r : Nat) : Prop :=
  (R (262 + r) = 0 ∨ R (262 + r) = 1) ∧ (R (278 + r) = 0 ∨ R (278 + r) = 1) ∧ (R (278 + r) = 1 → R (262 + r) = 1) ∧
  (∃ x, x ≤ 64 ∧ R (266 + r) = nI x) ∧ (∃ x, 1 ≤ x ∧ x ≤ 8 ∧ R (270 + r) = nI x) ∧ (∃ x, x < 4 ∧ R (282 + r) = nI x) ∧ (∃ x, x < 4 ∧ R (294 + r) = nI x) ∧ (∃ x, x ≤ 8 ∧ R (298 + r) = nI x) ∧ (∃ x, x ≤ 900 ∧ R (326 + r) = nI x)
def S_sum (R : Nat → Int32) (b r : Nat) : Prop := ∃ e c, R (310 + r) = nI e ∧ R (314 + r) = nI c ∧ e + c ≤ b
def S_reads (M : zMem) (w : Nat) (R : Nat → Int32) (r : Nat) : Prop :=
  ∃ m, m ≤ 24 ∧ R (306 + r) = nI m ∧ (∀ j, j < m → M.1 23 w r j = R (358 + 24 * r + j) ∧ ∃ t, t < 24 ∧ R (358 + 24 * r + j) = nI t ∧ ¬ R (550 + t) = nI r) ∧ (∀ i j, i < j → j < m → ¬ R (358 + 24 * r + i) = R (358 + 24 * r + j))
def S_busy (R : Nat → Int32) (i : Nat) : Prop := R (550 + i) = -1 ∨ ∃ r, r < 4 ∧ R (550 + i) = nI r ∧ R (278 + r) = 1 ∧ ¬ r_has (R (502 + i)) (nI r) = 0
def S_ids (R : Nat → Int32) : Prop := ∀ i j, i < 24 → j < 24 → R (454 + i) = 1 → R (454 + j) = 1 → z_ush (R (478 + i)) 16 = z_ush (R (478 + j)) 16 → i = j
def S_w (M : zMem) (w : Nat) (R : Nat → Int32) (T : Nat) : Prop := (∀ k, k < 4 → M.1 9 w 0 (5 + k) = R k) ∧ R 0 = nI T ∧ (∃ x, 1 ≤ x ∧ x ≤ 200 ∧ R 2 = nI x) ∧ (∃ x, 1 ≤ x ∧ x ≤ 400 ∧ R 3 = nI x)
def x_cd (x : zX) : Int32 := nI (x.2.1 + 65536 * x.1 + (if x.2.2 = true then 16777216 else 0))
def S_list (M : zMem) (w o : Nat) (R : Nat → Int32) (a many : Nat) (l : List zX) : Prop :=
  M.1 3 w o 1 = nI l.length ∧ R many = nI l.length ∧ ∀ j (h : j < l.length), M.1 22 w o j = x_cd l[j] ∧ R (a + 3 * j) = nI l[j].1 ∧ R (a + 3 * j + 1) = nI l[j].2.1 ∧ R (a + 3 * j + 2) = (if l[j].2.2 = true then 1 else 0)
def S_back (M : zMem) (w o : Nat) (R : Nat → Int32) (a many : Nat) (l : List zX) : Prop :=
  M.1 3 w o 1 = nI l.length ∧ R many = nI l.length ∧ ∀ j (h : j < l.length), M.1 22 w o (l.length - 1 - j) = x_cd (l[j].1, l[j].2.1, false) ∧ R (a + 3 * j) = nI l[j].1 ∧ R (a + 3 * j + 1) = nI l[j].2.1
def S_ln (M : zMem) (w : Nat) (R : Nat → Int32) (r : Nat) : Prop := ∃ l : List zX, S_list M w (3 * r + 2) R (a_ln r 0) (330 + r) l ∧ x_ch 0 l 65536 ∧ x_red l ∧ l.length ≤ 296
def x_id (R : Nat → Int32) (t : Nat) : Nat := (R (478 + t)).toBitVec.toNat / 65536
def x_in (R : Nat → Int32) (r : Nat) (x : zX) (t : Nat) : Bool := decide (R (550 + t) = nI r) && decide (x_id R t / x_sz x = x.2.1)
def x_cn (R : Nat → Int32) (r : Nat) (x : zX) : Nat := fb_ct (x_in R r x) 24
def x_qn (R : Nat → Int32) (r : Nat) : Nat → zX → Nat
  | 0, _ => 1
  | d + 1, x => if x_cn R r x < 2 then 1 else 1 + x_qn R r d (x.1 + 1, 2 * x.2.1, false) + x_qn R r d (x.1 + 1, 2 * x.2.1 + 1, false)
def x_sum (f : zX → Nat) : List zX → Nat
  | [] => 0
  | x :: l => f x + x_sum f l
def S_tree (M : zMem) (w : Nat) (R : Nat → Int32) (r : Nat) : Prop :=
  ∃ ro al : List zX, S_back M w (3 * r) R (a_rw r 0) (326 + r) ro ∧ S_list M w (3 * r + 1) R (a_dn r 0) (334 + r) al ∧ ¬ ro = [] ∧ x_ch 0 (al ++ ro) 65536 ∧
    al.length + ro.length + x_sum (fun x => (16 - x.1) * (x_cn R r x / 2)) ro ≤ 488 ∧ R (306 + r) = nI (x_ne al).length ∧ (∀ k, k < 3 → M.1 8 w (2 * r + 1) k = 0) ∧ R (302 + r) = 0 ∧
    (R (294 + r) = 1 → R (350 + r) = 1 → ∃ e m c, R (310 + r) = nI e ∧ R (306 + r) = nI m ∧ R (314 + r) = nI c ∧ R (354 + r) = nI (e + m + c + x_sum (fun x => x_qn R r (16 - x.1) x) ro))
def fp_of (k : Nat) : Nat := ([338, 342, 346] : List Nat).getD k 0
def S_slots (M : zMem) (w : Nat) (R : Nat → Int32) (r : Nat) : Prop :=
  M.1 3 w (3 * r) 1 = 0 ∧ R (326 + r) = 0 ∧ (∀ k, k < 3 → M.1 8 w (2 * r + 1) k = R (fp_of k + r)) ∧ ∃ e s c q, R (338 + r) = nI e ∧ R (342 + r) = nI s ∧ R (346 + r) = nI c ∧ R (302 + r) = nI (e + s + c) ∧ R (298 + r) = nI q ∧ (e + s + c < 2 ^ q ∧ q ≤ 8) ∧ (R (294 + r) = nI 2 → q ≤ 4)
def S_rest (M : zMem) (w r : Nat) : Prop := M.1 3 w (3 * r) 1 = 0 ∧ ∀ k, k < 3 → M.1 8 w (2 * r + 1) k = 0
def S_stock (M : zMem) (w : Nat) (R : Nat → Int32) (r : Nat) : Prop :=
  (R (278 + r) = 0 → S_rest M w r) ∧ (R (278 + r) = 1 → (R (294 + r) = nI 0 ∨ R (294 + r) = nI 2) → S_slots M w R r) ∧ (R (278 + r) = 1 → (R (294 + r) = nI 1 ∨ R (294 + r) = nI 3) → S_tree M w R r)
/-- all that concerns one reader -/
def S_R (Z : Nat → Prop) (M : zMem) (w : Nat) (R : Nat → Int32) (b r : Nat) : Prop := S_rd M w R r ∧ S_rv R r ∧ S_sum R b r ∧ S_reads M w R r ∧ S_ln M w R r ∧ (¬ Z r → S_stock M w R r)
/-- all; Z: readers whose stock stands aside, O: tags whose power does -/
def SimZ (Z O : Nat → Prop) (M : zMem) (w : Nat) (Mr : zMem) (T c b : Nat) : Prop :=
  S_w M w (Mr.1 24 0 0) T ∧ S_jour M w (Mr.1 24 0 0) c ∧ S_cnt M w (Mr.1 24 0 0) ∧ S_tags M w Mr T ∧ (∀ i, i < 24 → ¬ O i → S_ok (Mr.1 24 0 0) i) ∧ (∀ i, i < 24 → S_busy (Mr.1 24 0 0) i) ∧ S_ids (Mr.1 24 0 0) ∧ (Mr.1 24 0 0 19 = 0 ∧ Mr.1 24 0 0 20 = 0) ∧ ∀ r, r < 4 → S_R Z M w (Mr.1 24 0 0) b r
def z_F : Nat → Prop := fun _ => False
