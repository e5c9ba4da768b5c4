/-! PREFIXES as a chain of spans of IDs: length, bits, was it empty -/
abbrev zX : Type := Nat × Nat × Bool
def x_sz (x : zX) : Nat := 2 ^ (16 - x.1)
def x_ch : Nat → List zX → Nat → Prop
  | lo, [], hi => lo = hi
  | lo, x :: l, hi => x.1 ≤ 16 ∧ x.2.1 * x_sz x = lo ∧ x_ch (lo + x_sz x) l hi
def x_jn (x y : zX) : Prop := x.2.2 = true ∧ y.2.2 = true ∧ x.1 = y.1 ∧ ¬ x.1 = 0 ∧ x.2.1 % 2 = 0 ∧ y.2.1 = x.2.1 + 1
def x_red (l : List zX) : Prop := ∀ l1 x y l2, l = l1 ++ x :: y :: l2 → ¬ x_jn x y
def x_up (x : zX) : zX := (x.1 - 1, x.2.1 / 2, true)
/-- those that were no empty ones -/
def x_ne (l : List zX) : List zX := l.filter (fun x => !x.2.2)
theorem x_pos (x : zX) : 0 < x_sz x := Nat.two_pow_pos _
theorem x_le {lo hi : Nat} {l : List zX} (h : x_ch lo l hi) : lo ≤ hi := by
  induction l generalizing lo with
  | nil => exact Nat.le_of_eq h
  | cons x l ih =>
    have := ih h.2.2
    omega
theorem x_lt {lo hi : Nat} {x : zX} {l : List zX} (h : x_ch lo (x :: l) hi) : lo < hi := by
  have h1 := x_le h.2.2
  have h2 := x_pos x
  omega
theorem x_app {lo hi : Nat} {l1 l2 : List zX} : x_ch lo (l1 ++ l2) hi ↔ ∃ m, x_ch lo l1 m ∧ x_ch m l2 hi := by
  induction l1 generalizing lo with
  | nil => exact ⟨fun h => ⟨lo, rfl, h⟩, fun ⟨m, h1, h2⟩ => by
      have h1 : lo = m := h1
      rw [h1]
      exact h2⟩
  | cons x l ih =>
    constructor
    · intro h
      obtain ⟨m, h1, h2⟩ := ih.mp h.2.2
      exact ⟨m, ⟨h.1, h.2.1, h1⟩, h2⟩
    · rintro ⟨m, h1, h2⟩
      exact ⟨h1.1, h1.2.1, ih.mpr ⟨m, h1.2.2, h2⟩⟩
theorem x_mem {lo hi : Nat} {l : List zX} {y : zX} (h : x_ch lo l hi) (hy : y ∈ l) : y.1 ≤ 16 ∧ lo ≤ y.2.1 * x_sz y ∧ y.2.1 * x_sz y + x_sz y ≤ hi := by
  induction l generalizing lo with
  | nil => exact absurd hy (List.not_mem_nil)
  | cons x l ih =>
    rcases List.mem_cons.mp hy with e | e
    · subst e
      have h1 := x_le h.2.2
      have h2 := h.2.1
      exact ⟨h.1, by omega, by omega⟩
    · have h1 := ih h.2.2 e
      exact ⟨h1.1, by omega, h1.2.2⟩
/-- a chain of small spans stops at each round number -/
theorem x_stop {g c : Nat} {hi : Nat} {l : List zX} : ∀ {lo : Nat}, x_ch lo l hi → (∀ y, y ∈ l → 16 - y.1 ≤ g) → lo ≤ c * 2 ^ g → c * 2 ^ g ≤ hi → ∃ l1 l2, l = l1 ++ l2 ∧ x_ch lo l1 (c * 2 ^ g) ∧ x_ch (c * 2 ^ g) l2 hi := by
  induction l with
  | nil =>
    intro lo h _ h1 h2
    have h : lo = hi := h
    have e : lo = c * 2 ^ g := by omega
    exact ⟨[], [], rfl, e, by rw [← e]; exact h⟩
  | cons x l ih =>
    intro lo h hg h1 h2
    rcases Nat.lt_or_ge lo (c * 2 ^ g) with h3 | h3
    · have hx := hg x (List.mem_cons_self)
      have e : 2 ^ g = 2 ^ (g - (16 - x.1)) * x_sz x := by
        rw [x_sz, ← Nat.pow_add]
        congr 1
        omega
      have h4 : lo + x_sz x ≤ c * 2 ^ g := by
        have h5 := h.2.1
        rw [e, ← Nat.mul_assoc] at h3 ⊢
        rw [← h5] at h3 ⊢
        have h6 := Nat.lt_of_mul_lt_mul_right h3
        calc x.2.1 * x_sz x + x_sz x = (x.2.1 + 1) * x_sz x := (Nat.succ_mul _ _).symm
          _ ≤ _ := Nat.mul_le_mul_right _ h6
      obtain ⟨l1, l2, e1, e2, e3⟩ := ih h.2.2 (fun y hy => hg y (List.mem_cons_of_mem _ hy)) h4 h2
      exact ⟨x :: l1, l2, by rw [e1]; rfl, ⟨h.1, h.2.1, e2⟩, e3⟩
    · have e : lo = c * 2 ^ g := by omega
      exact ⟨[], x :: l, rfl, e, by rw [← e]; exact h⟩
/-- one whole, or two halves -/
theorem x_two {b h : Nat} {l : List zX} (hl : x_ch (b * 2 ^ h) l (b * 2 ^ h + 2 ^ h)) (hh : h ≤ 16) :
    (∃ x, l = [x] ∧ x.1 = 16 - h ∧ x.2.1 = b) ∨ ∃ g l1 l2, h = g + 1 ∧ l = l1 ++ l2 ∧ x_ch (2 * b * 2 ^ g) l1 (2 * b * 2 ^ g + 2 ^ g) ∧ x_ch ((2 * b + 1) * 2 ^ g) l2 ((2 * b + 1) * 2 ^ g + 2 ^ g) ∧ ¬ l1 = [] ∧ ¬ l2 = [] := by
  have hp := Nat.two_pow_pos h
  cases l with
  | nil =>
    have : b * 2 ^ h = b * 2 ^ h + 2 ^ h := hl
    omega
  | cons x l =>
    have h1 := hl.1
    have h2 := hl.2.1
    have h3 := x_le hl.2.2
    by_cases c : h ≤ 16 - x.1
    · left
      have e1 : 16 - x.1 = h := by
        have h4 : x_sz x ≤ 2 ^ h := by omega
        have h5 : 16 - x.1 ≤ h := (Nat.pow_le_pow_iff_right (by decide)).mp h4
        omega
      have e2 : x_sz x = 2 ^ h := by rw [x_sz, e1]
      refine ⟨x, ?_, by omega, ?_⟩
      · cases l with
        | nil => rfl
        | cons y l =>
          have h6 := x_lt hl.2.2
          omega
      · rw [e2] at h2
        exact Nat.eq_of_mul_eq_mul_right hp h2
    · right
      obtain ⟨g, rfl⟩ : ∃ g, h = g + 1 := ⟨h - 1, by omega⟩
      have hg := Nat.two_pow_pos g
      have e2 : 2 ^ (g + 1) = 2 ^ g + 2 ^ g := by rw [Nat.pow_succ]; omega
      have e3 : b * 2 ^ (g + 1) = 2 * b * 2 ^ g := by rw [Nat.pow_succ, Nat.mul_comm (2 ^ g) 2, ← Nat.mul_assoc, Nat.mul_comm b 2]
      have e4 : (2 * b + 1) * 2 ^ g = 2 * b * 2 ^ g + 2 ^ g := Nat.succ_mul _ _
      have small : ∀ y, y ∈ x :: l → 16 - y.1 ≤ g := by
        intro y hy
        rcases List.mem_cons.mp hy with e | e
        · subst e
          omega
        · have h7 := x_mem hl.2.2 e
          have h8 := x_pos x
          have h9 : x_sz y < 2 ^ (g + 1) := by omega
          have h10 := (Nat.pow_lt_pow_iff_right (by decide)).mp h9
          omega
      obtain ⟨l1, l2, f1, f2, f3⟩ := x_stop (c := 2 * b + 1) (g := g) hl small (by omega) (by omega)
      refine ⟨g, l1, l2, rfl, f1, ?_, ?_, ?_, ?_⟩
      · rw [← e3, ← (show (2 * b + 1) * 2 ^ g = b * 2 ^ (g + 1) + 2 ^ g by omega)]
        exact f2
      · rw [show (2 * b + 1) * 2 ^ g + 2 ^ g = b * 2 ^ (g + 1) + 2 ^ (g + 1) by omega]
        exact f3
      · intro z
        subst z
        have f2 : b * 2 ^ (g + 1) = (2 * b + 1) * 2 ^ g := f2
        omega
      · intro z
        subst z
        have f3 : (2 * b + 1) * 2 ^ g = b * 2 ^ (g + 1) + 2 ^ (g + 1) := f3
        omega
theorem x_redL {l1 l2 : List zX} (h : x_red (l1 ++ l2)) : x_red l1 := fun a x y b e => h a x y (b ++ l2) (by rw [e, List.append_assoc]; rfl)
theorem x_redR {l1 l2 : List zX} (h : x_red (l1 ++ l2)) : x_red l2 := fun a x y b e => h (l1 ++ a) x y b (by rw [e, List.append_assoc])
theorem x_neA (l1 l2 : List zX) : x_ne (l1 ++ l2) = x_ne l1 ++ x_ne l2 := List.filter_append ..
/-- empty ones alone, none to be joined: it is one -/
theorem x_one : ∀ (h b : Nat) (l : List zX), h ≤ 16 → x_ch (b * 2 ^ h) l (b * 2 ^ h + 2 ^ h) → x_red l → x_ne l = [] → ∃ x, l = [x] ∧ x.1 = 16 - h ∧ x.2.1 = b ∧ x.2.2 = true := by
  intro h
  induction h with
  | zero =>
    intro b l hh hl hr hn
    rcases x_two hl hh with ⟨x, e, e1, e2⟩ | ⟨g, _, _, e, _⟩
    · refine ⟨x, e, e1, e2, ?_⟩
      subst e
      cases hx : x.2.2 with
      | true => rfl
      | false =>
        rw [x_ne, List.filter_cons, hx] at hn
        exact absurd hn (by simp)
    · omega
  | succ h ih =>
    intro b l hh hl hr hn
    rcases x_two hl hh with ⟨x, e, e1, e2⟩ | ⟨g, l1, l2, e, e0, c1, c2, n1, n2⟩
    · refine ⟨x, e, e1, e2, ?_⟩
      subst e
      cases hx : x.2.2 with
      | true => rfl
      | false =>
        rw [x_ne, List.filter_cons, hx] at hn
        exact absurd hn (by simp)
    · obtain rfl : g = h := by omega
      subst e0
      rw [x_neA] at hn
      obtain ⟨m1, m2⟩ := List.append_eq_nil_iff.mp hn
      obtain ⟨x, rfl, a1, a2, a3⟩ := ih (2 * b) l1 (by omega) c1 (x_redL hr) m1
      obtain ⟨y, rfl, b1, b2, b3⟩ := ih (2 * b + 1) l2 (by omega) c2 (x_redR hr) m2
      exact absurd ⟨a3, b3, by omega, by omega, by omega, by omega⟩ (hr [] x y [] rfl)
/-- how many there can be at most -/
def x_bf (s : Nat) : Nat → Nat
  | 0 => 1
  | h + 1 => x_bf s h + min (2 ^ h) s
theorem x_bf2 {s s1 s2 : Nat} (e : s1 + s2 = s) (hs : 1 ≤ s) : ∀ h, x_bf s1 h + x_bf s2 h ≤ x_bf s (h + 1)
  | 0 => by
    simp only [x_bf, Nat.pow_zero]
    omega
  | h + 1 => by
    have ih := x_bf2 e hs h
    have e2 : 2 ^ (h + 1) = 2 ^ h + 2 ^ h := by rw [Nat.pow_succ]; omega
    rw [x_bf, x_bf, x_bf, e2]
    generalize 2 ^ h = a at *
    omega
theorem x_bf1 (s : Nat) : ∀ h, 1 ≤ x_bf s h
  | 0 => Nat.le_refl _
  | h + 1 => Nat.le_trans (x_bf1 s h) (Nat.le_add_right ..)
theorem x_bfM {s t : Nat} (e : s ≤ t) : ∀ h, x_bf s h ≤ x_bf t h
  | 0 => Nat.le_refl _
  | h + 1 => by
    have := x_bfM e h
    rw [x_bf, x_bf]
    omega
theorem x_len : ∀ (h b : Nat) (l : List zX), h ≤ 16 → x_ch (b * 2 ^ h) l (b * 2 ^ h + 2 ^ h) → x_red l → l.length ≤ x_bf (x_ne l).length h := by
  intro h
  induction h with
  | zero =>
    intro b l hh hl hr
    rcases x_two hl hh with ⟨x, e, _⟩ | ⟨g, _, _, e, _⟩
    · subst e
      exact x_bf1 _ _
    · omega
  | succ h ih =>
    intro b l hh hl hr
    rcases x_two hl hh with ⟨x, e, _⟩ | ⟨g, l1, l2, e, e0, c1, c2, n1, n2⟩
    · subst e
      exact x_bf1 _ _
    · obtain rfl : g = h := by omega
      by_cases hn : x_ne l = []
      · obtain ⟨x, e, _⟩ := x_one (g + 1) b l hh hl hr hn
        subst e
        exact x_bf1 _ _
      · subst e0
        have i1 := ih (2 * b) l1 (by omega) c1 (x_redL hr)
        have i2 := ih (2 * b + 1) l2 (by omega) c2 (x_redR hr)
        have hp : 1 ≤ (x_ne (l1 ++ l2)).length := List.length_pos_iff.mpr hn
        rw [x_neA, List.length_append] at hp
        have i3 := x_bf2 (s1 := (x_ne l1).length) (s2 := (x_ne l2).length) rfl hp g
        rw [x_neA, List.length_append, List.length_append]
        omega
theorem x_296 : x_bf 24 16 = 296 := by decide
/-- two chains of one span, with nothing to be joined, and with the same ones that weren't empty, are alike -/
theorem x_uniq : ∀ (h b : Nat) (l k : List zX), h ≤ 16 → x_ch (b * 2 ^ h) l (b * 2 ^ h + 2 ^ h) → x_ch (b * 2 ^ h) k (b * 2 ^ h + 2 ^ h) → x_red l → x_red k → x_ne l = x_ne k → l = k := by
  intro h
  induction h with
  | zero =>
    intro b l k hh hl hk rl rk e
    rcases x_two hl hh with ⟨x, e1, a1, a2⟩ | ⟨g, _, _, e1, _⟩
    · rcases x_two hk hh with ⟨y, e2, b1, b2⟩ | ⟨g, _, _, e2, _⟩
      · subst e1 e2
        have e3 : x.2.2 = y.2.2 := by
          cases hx : x.2.2 <;> cases hy : y.2.2 <;> simp [x_ne, hx, hy] at e ⊢
        exact congrArg (fun z => [z]) (Prod.ext (by omega) (Prod.ext (by omega) e3))
      · omega
    · omega
  | succ h ih =>
    intro b l k hh hl hk rl rk e
    have one : ∀ (x : zX) (k1 k2 : List zX), x.1 = 16 - (h + 1) → x_ch (2 * b * 2 ^ h) k1 (2 * b * 2 ^ h + 2 ^ h) → x_ch ((2 * b + 1) * 2 ^ h) k2 ((2 * b + 1) * 2 ^ h + 2 ^ h) → ¬ k1 = [] → ¬ k2 = [] → x_ch (b * 2 ^ (h + 1)) (k1 ++ k2) (b * 2 ^ (h + 1) + 2 ^ (h + 1)) → x_red (k1 ++ k2) → x_ne [x] = x_ne (k1 ++ k2) → False := by
      intro x k1 k2 hx c1 c2 n1 n2 ck rk e
      cases hE : x.2.2 with
      | true =>
        have e1 : x_ne (k1 ++ k2) = [] := by
          rw [← e]
          simp [x_ne, hE]
        obtain ⟨z, e2, _⟩ := x_one (h + 1) b _ hh ck rk e1
        have := congrArg List.length e2
        rw [List.length_append] at this
        have p1 := List.length_pos_iff.mpr n1
        have p2 := List.length_pos_iff.mpr n2
        simp only [List.length_singleton] at this
        omega
      | false =>
        have e1 : x ∈ x_ne (k1 ++ k2) := by
          rw [← e]
          simp [x_ne, hE]
        have e2 : x ∈ k1 ++ k2 := (List.mem_filter.mp e1).1
        have e3 : x_sz x = 2 ^ (h + 1) := by rw [x_sz, hx]; congr 1; omega
        have p := Nat.two_pow_pos h
        have e4 : 2 ^ (h + 1) = 2 ^ h + 2 ^ h := by rw [Nat.pow_succ]; omega
        rcases List.mem_append.mp e2 with e5 | e5
        · have := x_mem c1 e5
          omega
        · have := x_mem c2 e5
          omega
    rcases x_two hl hh with ⟨x, e1, a1, a2⟩ | ⟨g, l1, l2, e0, e1, c1, c2, n1, n2⟩
    · rcases x_two hk hh with ⟨y, e2, b1, b2⟩ | ⟨g2, k1, k2, e3, e2, d1, d2, m1, m2⟩
      · subst e1 e2
        have e3 : x.2.2 = y.2.2 := by
          cases hx : x.2.2 <;> cases hy : y.2.2 <;> simp [x_ne, hx, hy] at e ⊢
        exact congrArg (fun z => [z]) (Prod.ext (by omega) (Prod.ext (by omega) e3))
      · obtain rfl : g2 = h := by omega
        subst e1 e2
        exact (one x k1 k2 (by omega) d1 d2 m1 m2 hk rk e).elim
    · obtain rfl : g = h := by omega
      rcases x_two hk hh with ⟨y, e2, b1, b2⟩ | ⟨g2, k1, k2, e3, e2, d1, d2, m1, m2⟩
      · subst e1 e2
        exact (one y l1 l2 (by omega) c1 c2 n1 n2 hl rl e.symm).elim
      · obtain rfl : g2 = g := by omega
        subst e1 e2
        rw [x_neA, x_neA] at e
        have sel : ∀ (a b' : List zX), x_ch (2 * b * 2 ^ g2) a (2 * b * 2 ^ g2 + 2 ^ g2) → x_ch ((2 * b + 1) * 2 ^ g2) b' ((2 * b + 1) * 2 ^ g2 + 2 ^ g2) → (x_ne a ++ x_ne b').filter (fun z => decide (z.2.1 * x_sz z < (2 * b + 1) * 2 ^ g2)) = x_ne a ∧ (x_ne a ++ x_ne b').filter (fun z => !decide (z.2.1 * x_sz z < (2 * b + 1) * 2 ^ g2)) = x_ne b' := by
          intro a b' ha hb'
          have e4 : (2 * b + 1) * 2 ^ g2 = 2 * b * 2 ^ g2 + 2 ^ g2 := Nat.succ_mul _ _
          have f1 : ∀ z ∈ x_ne a, z.2.1 * x_sz z < (2 * b + 1) * 2 ^ g2 := fun z hz => by
            have := x_mem ha (List.mem_filter.mp hz).1
            have := x_pos z
            omega
          have f2 : ∀ z ∈ x_ne b', ¬ z.2.1 * x_sz z < (2 * b + 1) * 2 ^ g2 := fun z hz => by
            have := x_mem hb' (List.mem_filter.mp hz).1
            omega
          rw [List.filter_append, List.filter_append]
          rw [List.filter_eq_self.mpr (fun z hz => decide_eq_true (f1 z hz)), List.filter_eq_nil_iff.mpr (fun z hz => by simpa using Nat.le_of_not_lt (f2 z hz)), List.filter_eq_nil_iff.mpr (fun z hz => by simpa using f1 z hz), List.filter_eq_self.mpr (fun z hz => by simpa using Nat.le_of_not_lt (f2 z hz))]
          exact ⟨List.append_nil _, List.nil_append _⟩
        have s1 := sel l1 l2 c1 c2
        have s2 := sel k1 k2 d1 d2
        rw [e] at s1
        have i1 := ih (2 * b) l1 k1 (by omega) c1 d1 (x_redL rl) (x_redL rk) (s1.1.symm.trans s2.1)
        have i2 := ih (2 * b + 1) l2 k2 (by omega) c2 d2 (x_redR rl) (x_redR rk) (s1.2.symm.trans s2.2)
        rw [i1, i2]
/-- a pair made one -/
theorem x_join {lo hi : Nat} {l1 l2 : List zX} {x y : zX} (h : x_ch lo (l1 ++ x :: y :: l2) hi) (j : x_jn x y) : x_ch lo (l1 ++ x_up x :: l2) hi ∧ x_ne (l1 ++ x_up x :: l2) = x_ne (l1 ++ x :: y :: l2) := by
  obtain ⟨j1, j2, j3, j4, j5, j6⟩ := j
  constructor
  · obtain ⟨m, h1, h2⟩ := x_app.mp h
    refine x_app.mpr ⟨m, h1, ?_⟩
    obtain ⟨a1, a2, a3, a4, a5⟩ := h2
    have e1 : x_sz (x_up x) = x_sz x + x_sz x := by
      show 2 ^ (16 - (x.1 - 1)) = 2 ^ (16 - x.1) + 2 ^ (16 - x.1)
      rw [show 16 - (x.1 - 1) = (16 - x.1) + 1 by omega, Nat.pow_succ]
      omega
    have e2 : x_sz y = x_sz x := by rw [x_sz, x_sz, j3]
    have e3 : x.2.1 / 2 * (x_sz x + x_sz x) = x.2.1 * x_sz x := by
      obtain ⟨c, hc⟩ : ∃ c, x.2.1 = c + c := ⟨x.2.1 / 2, by omega⟩
      rw [hc, show (c + c) / 2 = c by omega, Nat.mul_add, Nat.add_mul]
    refine ⟨by show x.1 - 1 ≤ 16; omega, ?_, ?_⟩
    · rw [e1]
      show x.2.1 / 2 * (x_sz x + x_sz x) = m
      rw [e3, a2]
    · rw [e1, ← Nat.add_assoc]
      rw [e2] at a5
      exact a5
  · rw [x_neA, x_neA]
    simp [x_ne, x_up, j1, j2]
/-- one made two -/
theorem x_split {lo hi : Nat} {l1 l2 : List zX} {x : zX} (h : x_ch lo (l1 ++ x :: l2) hi) (hx : x.1 < 16) (e e2 : Bool) : x_ch lo (l1 ++ (x.1 + 1, 2 * x.2.1, e) :: (x.1 + 1, 2 * x.2.1 + 1, e2) :: l2) hi := by
  obtain ⟨m, h1, a1, a2, a3⟩ := x_app.mp h
  refine x_app.mpr ⟨m, h1, ?_⟩
  have e1 : ∀ b c, x_sz (x.1 + 1, b, c) + x_sz (x.1 + 1, b, c) = x_sz x := by
    intro b c
    show 2 ^ (16 - (x.1 + 1)) + 2 ^ (16 - (x.1 + 1)) = 2 ^ (16 - x.1)
    rw [show 16 - x.1 = (16 - (x.1 + 1)) + 1 by omega, Nat.pow_succ]
    omega
  have e3 := e1 0 true
  have q : ∀ b c, x_sz (x.1 + 1, b, c) = x_sz (x.1 + 1, 0, true) := fun b c => rfl
  refine ⟨by show x.1 + 1 ≤ 16; omega, ?_, by show x.1 + 1 ≤ 16; omega, ?_, ?_⟩
  · rw [q, ← a2, ← e3]
    show 2 * x.2.1 * _ = x.2.1 * (_ + _)
    rw [Nat.mul_add, Nat.mul_comm 2 x.2.1, Nat.mul_assoc, Nat.two_mul, Nat.mul_add]
  · rw [q, q (2 * x.2.1) e, ← a2, ← e3]
    show (2 * x.2.1 + 1) * _ = x.2.1 * (_ + _) + _
    rw [Nat.add_mul, Nat.one_mul, Nat.mul_add, Nat.mul_comm 2 x.2.1, Nat.mul_assoc, Nat.two_mul, Nat.mul_add]
  · rw [q, q (2 * x.2.1 + 1) e2, Nat.add_assoc, e3]
    exact a3
