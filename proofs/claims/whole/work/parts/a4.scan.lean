/-! PICKETS: the reference looks at rows one by one -/
def sc1 (w : Int32) (s : Nat × Option Nat) (d : Nat) : Nat × Option Nat := match s.2 with
  | some _ => s
  | none => (s.1 + 1, if nI s.1 = w then some d else none)
def sc (w : Int32) (s : Nat × Option Nat) (l : List Nat) : Nat × Option Nat := l.foldl (sc1 w) s
theorem sc_app (w : Int32) (s : Nat × Option Nat) (a b : List Nat) : sc w s (a ++ b) = sc w (sc w s a) b := List.foldl_append
theorem sc_found (w : Int32) (n x : Nat) (l : List Nat) : sc w (n, some x) l = (n, some x) := by
  induction l with
  | nil => rfl
  | cons d l ih => exact ih
/-- none is asked for: all are counted -/
theorem sc_all {w : Int32} : ∀ (l : List Nat) (n : Nat), (∀ i, i < n + l.length → nI i ≠ w) → sc w (n, none) l = (n + l.length, none) := by
  intro l
  induction l with
  | nil => intro n _; rfl
  | cons d l ih =>
    intro n h
    have h0 := h n (by rw [List.length_cons]; omega)
    show sc w (sc1 w (n, none) d) l = _
    have e : sc1 w (n, none) d = (n + 1, none) := by
      show (n + 1, if nI n = w then some d else none) = _
      rw [if_neg h0]
    rw [e, ih (n + 1) (fun i hi => h i (by rw [List.length_cons]; omega)), List.length_cons]
    congr 1
    omega
/-- the i-th is found -/
theorem sc_at {l : List Nat} : ∀ {n i d : Nat}, l[i]? = some d → n + l.length < 2 ^ 31 → ∃ c, sc (nI (n + i)) (n, none) l = (c, some d) := by
  induction l with
  | nil => intro n i d h; cases h
  | cons x l ih =>
    intro n i d h hl
    rw [List.length_cons] at hl
    cases i with
    | zero =>
      cases h
      refine ⟨n + 1, ?_⟩
      show sc _ (sc1 _ (n, none) x) l = _
      have e : sc1 (nI (n + 0)) (n, none) x = (n + 1, some x) := by
        show (n + 1, if nI n = nI (n + 0) then some x else none) = _
        rw [if_pos (by rw [Nat.add_zero])]
      rw [e, sc_found]
    | succ i =>
      have hi : i < l.length := lt_of_some (show l[i]? = some d from h)
      obtain ⟨c, hc⟩ := ih (n := n + 1) (show l[i]? = some d from h) (by omega)
      refine ⟨c, ?_⟩
      show sc _ (sc1 _ (n, none) x) l = _
      have e : sc1 (nI (n + (i + 1))) (n, none) x = (n + 1, none) := by
        show (n + 1, if nI n = nI (n + (i + 1)) then some x else none) = _
        rw [if_neg]
        rw [nI_eq (by omega) (by omega)]
        omega
      rw [e, show n + (i + 1) = n + 1 + i by omega]
      exact hc
