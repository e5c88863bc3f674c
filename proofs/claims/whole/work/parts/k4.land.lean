/-! TEXTS: lands, as they are read -/
/-- how many bits are set, of five -/
def pc (m : Nat) : Nat := m % 2 + m / 2 % 2 + m / 4 % 2 + m / 8 % 2 + m / 16 % 2
def bt (m i : Nat) : Bool := decide (m / 2 ^ i % 2 = 1)
def cntI (k : Nat) : Nat := ([4, 4, 5, 2] : List Nat).getD k 0
def mxK (k : Nat) : Nat := ([8, 12, 5, 3] : List Nat).getD k 0
def loI (k i : Nat) : Nat := ([0, 0, 0, 0, 0, 0, 0, 1, 0, 0, 0, 1, 0, 0, 0, 0, 0, 0, 0, 0] : List Nat).getD (5 * k + i) 0
def hiI (k i : Nat) : Nat := ([9, 1, 99, 9, 0, 7, 7, 9, 9, 0, 7, 99, 9, 3, 15, 7, 9, 0, 0, 0] : List Nat).getD (5 * k + i) 0
def usI (k i : Nat) : Nat := ([0, 0, 20, 0, 0, 0, 1, 1, 0, 0, 0, 50, 5, 0, 0, 0, 2, 0, 0, 0] : List Nat).getD (5 * k + i) 0
/-- items: a row of worths -/
def itL (T : Nat → Nat) (N k : Nat) : Nat → Nat → Nat → (Nat → Int32) → Nat × Option (Nat → Int32)
  | 0, p, _, _ => (p, none)
  | f + 1, p, m, v => match ixS (6 + k) (sgn T N p) with
    | none => (p, some v)
    | some i => if bt m i then (p, none) else match (numR T N (bk T N (p + 1)) 2 (loI k i) (hiI k i)).2 with
      | none => ((numR T N (bk T N (p + 1)) 2 (loI k i) (hiI k i)).1, none)
      | some n => itL T N k f (numR T N (bk T N (p + 1)) 2 (loI k i) (hiI k i)).1 (m + 2 ^ i) (va_up v i (nI n))
def itP (T : Nat → Nat) (N k p : Nat) : Nat × Option (Nat → Int32) := itL T N k 6 p 0 (fun i => nI (usI k i))
/-- what a land's text has said so far: rows of each sort -/
abbrev LDr : Type := Nat → List (Nat → Int32)
def LDr.add (l : LDr) (k : Nat) (v : Nat → Int32) : LDr := fun j => if j = k then l j ++ [v] else l j
def lcP (T : Nat → Nat) (N p : Nat) (l : LDr) : Nat × Option (Nat × (Nat → Int32)) := match ixS 1 (sgn T N p) with
  | none => (p, none)
  | some k => if (l k).length < mxK k then (match (itP T N k (bk T N (p + 1))).2 with
    | none => ((itP T N k (bk T N (p + 1))).1, none)
    | some v => ((itP T N k (bk T N (p + 1))).1, some (k, v))) else (p, none)
/-- what is told stands at places -/
def atB (l : LDr) (k : Nat) : Bool := (l k).all (fun v => decide (v 0 < nI (l 0).length))
def wyB (l : LDr) : Bool := (l 1).all (fun v => decide (¬ v 0 = v 1 ∧ v 0 < nI (l 0).length ∧ v 1 < nI (l 0).length))
def whB (l : LDr) : Bool := decide (2 ≤ (l 0).length) && decide (1 ≤ (l 2).length) && wyB l && atB l 2 && atB l 3
def ldK (T : Nat → Nat) (N : Nat) (L : Nat → LDr → Nat × Option LDr) (q : Nat) (l : LDr) : Nat × Option LDr := if q < N then (if sgn T N q = 59 then L (bk T N (q + 1)) l else (q, none)) else if whB l then (q, some l) else (q, none)
def ldL (T : Nat → Nat) (N : Nat) : Nat → Nat → LDr → Nat × Option LDr
  | 0, p, _ => (p, none)
  | f + 1, p, l => match (lcP T N p l).2 with
    | none => ((lcP T N p l).1, none)
    | some x => ldK T N (ldL T N f) (lcP T N p l).1 (l.add x.1 x.2)
/-- a land: where its text fails, or what it says -/
def ldP (T : Nat → Nat) (N : Nat) : Nat × Option LDr := ldL T N (N + 1) (bk T N 0) (fun _ => [])
/-- a row of items within its bounds -/
def RwOk (k : Nat) (v : Nat → Int32) : Prop := ∀ i, i < cntI k → ∃ n, loI k i ≤ n ∧ n ≤ hiI k i ∧ v i = nI n
def LOk (l : LDr) : Prop := ∀ k, k < 4 → (l k).length ≤ mxK k ∧ ∀ v, v ∈ l k → RwOk k v
theorem pc_add : ∀ m, m < 32 → ∀ i, i < 5 → bt m i = false → m + 2 ^ i < 32 ∧ pc (m + 2 ^ i) = pc m + 1 := by decide
theorem pc_le : ∀ m, m < 32 → pc m ≤ 5 := by decide
theorem bt_I : ∀ m, m < 32 → ∀ i, i < 5 → (((nI m >>> (nI i &&& 31)) &&& 1 = 1) ↔ bt m i = true) := by decide +kernel
theorem bt_O : ∀ m, m < 32 → ∀ i, i < 5 → bt m i = false → nI m ||| (1 <<< (nI i &&& 31)) = nI (m + 2 ^ i) := by decide +kernel
theorem cnt5 : ∀ k, k < 4 → cntI k ≤ 5 ∧ 2 ≤ cntI k ∧ sa_slen.getD (6 + k) 0 = cntI k := by decide
theorem us_ok : ∀ k, k < 4 → ∀ i, i < cntI k → loI k i ≤ usI k i ∧ usI k i ≤ hiI k i := by decide
theorem hi99 : ∀ k, k < 4 → ∀ i, i < 5 → hiI k i ≤ 99 ∧ loI k i ≤ 1 := by decide
section LAND
variable {T : Nat → Nat} {N p : Nat}
theorem itL_st {k f m : Nat} {v : Nat → Int32} : (ixS (6 + k) (sgn T N p) = none → itL T N k (f + 1) p m v = (p, some v)) ∧ ∀ i, ixS (6 + k) (sgn T N p) = some i → (bt m i = true → itL T N k (f + 1) p m v = (p, none)) ∧ (bt m i = false → ((numR T N (bk T N (p + 1)) 2 (loI k i) (hiI k i)).2 = none → itL T N k (f + 1) p m v = ((numR T N (bk T N (p + 1)) 2 (loI k i) (hiI k i)).1, none)) ∧ ∀ n, (numR T N (bk T N (p + 1)) 2 (loI k i) (hiI k i)).2 = some n → itL T N k (f + 1) p m v = itL T N k f (numR T N (bk T N (p + 1)) 2 (loI k i) (hiI k i)).1 (m + 2 ^ i) (va_up v i (nI n))) := by
  have hun : itL T N k (f + 1) p m v = match ixS (6 + k) (sgn T N p) with
    | none => (p, some v)
    | some i => if bt m i then (p, none) else match (numR T N (bk T N (p + 1)) 2 (loI k i) (hiI k i)).2 with
      | none => ((numR T N (bk T N (p + 1)) 2 (loI k i) (hiI k i)).1, none)
      | some n => itL T N k f (numR T N (bk T N (p + 1)) 2 (loI k i) (hiI k i)).1 (m + 2 ^ i) (va_up v i (nI n)) := rfl
  refine ⟨fun e => by rw [hun, e], fun i e => ⟨fun h => ?_, fun h => ⟨fun hn => ?_, fun n hn => ?_⟩⟩⟩
  · rw [hun, e]
    dsimp only
    rw [if_pos h]
  · rw [hun, e]
    dsimp only
    rw [if_neg (by rw [h]; decide), hn]
  · rw [hun, e]
    dsimp only
    rw [if_neg (by rw [h]; decide), hn]
theorem num_in {a lo hi n : Nat} (h : (numR T N p a lo hi).2 = some n) : lo ≤ n ∧ n ≤ hi := by
  unfold numR at h
  split at h
  · cases h
  · split at h
    · cases h
    · split at h
      · cases h
      · cases h
        omega
theorem it_adv {k : Nat} (hk : k < 4) : ∀ (f p m : Nat) (v : Nat → Int32), p ≤ N → RwOk k v → (itL T N k f p m v).1 ≤ N ∧ p ≤ (itL T N k f p m v).1 ∧ ∀ w, (itL T N k f p m v).2 = some w → RwOk k w := by
  intro f
  induction f with
  | zero => intro p m v hp hv; exact ⟨hp, Nat.le_refl _, fun w h => by cases h⟩
  | succ f ih =>
    intro p m v hp hv
    have hst := itL_st (T := T) (N := N) (p := p) (k := k) (f := f) (m := m) (v := v)
    cases hi : ixS (6 + k) (sgn T N p) with
    | none =>
      rw [hst.1 hi]
      exact ⟨hp, Nat.le_refl _, fun w h => by cases h; exact hv⟩
    | some i =>
      have hic : i < cntI k := by rw [← (cnt5 k hk).2.2]; exact (ix_in hi (by omega)).2
      have hin := sgn_in (c := sgn T N p) (ix_in hi (by omega)).1 rfl
      obtain ⟨h1, h2⟩ := hst.2 i hi
      have hge := bk_ge (T := T) (N := N) (p := p + 1)
      have hle := bk_le (T := T) (N := N) (p := p + 1) (by omega)
      cases hb : bt m i with
      | true =>
        rw [h1 hb]
        exact ⟨hp, Nat.le_refl _, fun w h => by cases h⟩
      | false =>
        obtain ⟨h3, h4⟩ := h2 hb
        obtain ⟨n1, n2, n3⟩ := num_adv (T := T) (lo := loI k i) (hi := hiI k i) hle (show 2 ≤ 4 by omega)
        cases hn : (numR T N (bk T N (p + 1)) 2 (loI k i) (hiI k i)).2 with
        | none =>
          rw [h3 hn]
          exact ⟨n1, by dsimp only; omega, fun w h => by cases h⟩
        | some n =>
          have hv2 : RwOk k (va_up v i (nI n)) := fun y hy => by
            by_cases e : y = i
            · subst e
              exact ⟨n, (num_in hn).1, (num_in hn).2, va_up_self _ _ _⟩
            · rw [va_up_ne _ _ e]
              exact hv y hy
          rw [h4 n hn]
          obtain ⟨x1, x2, x3⟩ := ih (numR T N (bk T N (p + 1)) 2 (loI k i) (hiI k i)).1 (m + 2 ^ i) (va_up v i (nI n)) n1 hv2
          exact ⟨x1, by omega, x3⟩
theorem ix1 {c k : Nat} (h : ixS 1 c = some k) : k < 4 := (ix_in h (by omega)).2
theorem lc_adv {l : LDr} (hp : p ≤ N) : (lcP T N p l).1 ≤ N ∧ p ≤ (lcP T N p l).1 ∧ ∀ x, (lcP T N p l).2 = some x → p < (lcP T N p l).1 ∧ x.1 < 4 ∧ (l x.1).length < mxK x.1 ∧ RwOk x.1 x.2 := by
  unfold lcP
  cases hi : ixS 1 (sgn T N p) with
  | none => exact ⟨hp, Nat.le_refl _, fun x h => by cases h⟩
  | some k =>
    have hk := ix1 hi
    have hin := sgn_in (c := sgn T N p) (ix_in hi (by omega)).1 rfl
    have hge := bk_ge (T := T) (N := N) (p := p + 1)
    have hle := bk_le (T := T) (N := N) (p := p + 1) (by omega)
    dsimp only
    by_cases hm : (l k).length < mxK k
    · rw [if_pos hm]
      obtain ⟨x1, x2, x3⟩ := it_adv (T := T) (N := N) hk 6 (bk T N (p + 1)) 0 (fun i => nI (usI k i)) hle (fun i hi => ⟨usI k i, (us_ok k hk i hi).1, (us_ok k hk i hi).2, rfl⟩)
      have e : itL T N k 6 (bk T N (p + 1)) 0 (fun i => nI (usI k i)) = itP T N k (bk T N (p + 1)) := rfl
      rw [e] at x1 x2 x3
      generalize itP T N k (bk T N (p + 1)) = r0 at *
      obtain ⟨q, mm⟩ := r0
      cases mm with
      | none => exact ⟨x1, by dsimp only at x2 ⊢; omega, fun x h => by cases h⟩
      | some v =>
        dsimp only at x1 x2 ⊢
        refine ⟨x1, by omega, fun x h => ?_⟩
        cases h
        exact ⟨by omega, hk, hm, x3 v rfl⟩
    · rw [if_neg hm]
      exact ⟨hp, Nat.le_refl _, fun x h => by cases h⟩
theorem LOk.add {l : LDr} {k : Nat} {v : Nat → Int32} (h : LOk l) (hm : (l k).length < mxK k) (hv : RwOk k v) : LOk (l.add k v) := by
  intro j hj
  unfold LDr.add
  by_cases e : j = k
  · subst e
    rw [if_pos rfl, List.length_append, List.length_singleton]
    refine ⟨by omega, fun w hw => ?_⟩
    rw [List.mem_append, List.mem_singleton] at hw
    rcases hw with hw | hw
    · exact (h j hj).2 w hw
    · rw [hw]; exact hv
  · rw [if_neg e]
    exact h j hj
theorem LOk.nil : LOk (fun _ => []) := fun k _ => ⟨Nat.zero_le _, fun v hv => by cases hv⟩
theorem ldL_st {f : Nat} {l : LDr} : ((lcP T N p l).2 = none → ldL T N (f + 1) p l = ((lcP T N p l).1, none)) ∧ ∀ x, (lcP T N p l).2 = some x → ldL T N (f + 1) p l = ldK T N (ldL T N f) (lcP T N p l).1 (l.add x.1 x.2) := by
  have hun : ldL T N (f + 1) p l = match (lcP T N p l).2 with
    | none => ((lcP T N p l).1, none)
    | some x => ldK T N (ldL T N f) (lcP T N p l).1 (l.add x.1 x.2) := rfl
  refine ⟨fun e => ?_, fun c e => ?_⟩
  · rw [hun, e]
  · rw [hun, e]
theorem ld_ok : ∀ (f p : Nat) (l l2 : LDr), p ≤ N → LOk l → (ldL T N f p l).2 = some l2 → LOk l2 ∧ whB l2 = true := by
  intro f
  induction f with
  | zero => intro p l l2 _ _ e; cases e
  | succ f ih =>
    intro p l l2 hp hl e
    have hst := ldL_st (T := T) (N := N) (p := p) (f := f) (l := l)
    obtain ⟨a1, a2, a3⟩ := lc_adv (T := T) (l := l) hp
    generalize lcP T N p l = r0 at *
    obtain ⟨q, m⟩ := r0
    cases m with
    | none => rw [hst.1 rfl] at e; cases e
    | some x =>
      rw [hst.2 x rfl] at e
      obtain ⟨b1, b2, b3, b4⟩ := a3 x rfl
      have hl2 := hl.add b3 b4
      dsimp only at a1 a2 e
      unfold ldK at e
      by_cases hqN : q < N
      · rw [if_pos hqN] at e
        by_cases h59 : sgn T N q = 59
        · rw [if_pos h59] at e
          exact ih _ _ l2 (bk_le (by omega)) hl2 e
        · rw [if_neg h59] at e; cases e
      · rw [if_neg hqN] at e
        cases hw : whB (l.add x.1 x.2) with
        | true =>
          rw [hw, if_pos rfl] at e
          cases e
          exact ⟨hl2, hw⟩
        | false =>
          rw [hw, if_neg (by decide)] at e
          cases e
end LAND
