/-! TEXTS: sums, as they are read: where they end or fail; moves; worth -/
abbrev PRs : Type := Nat × Option (List Nat × LWt)
abbrev OPf : Type := Nat → Option (Nat × (Int32 → Int32 → Int32))
def clp (x : Int64) : Int32 := (if (if x < 1000000 then x else 1000000) < (-1000000) then (-1000000) else (if x < 1000000 then x else 1000000)).toInt32
def mulC (v w : Int32) : Int32 := clp (v.toInt64 * w.toInt64)
def divC (v w : Int32) : Int32 := clp (if ¬ (lg_cmp w.toInt64 0) = 0 then v.toInt64 / w.toInt64 else 0)
def addC (v w : Int32) : Int32 := clp (v.toInt64 + w.toInt64)
def subC (v w : Int32) : Int32 := clp (v.toInt64 - w.toInt64)
def op2 (c1 o1 : Nat) (g1 : Int32 → Int32 → Int32) (c2 o2 : Nat) (g2 : Int32 → Int32 → Int32) : OPf := fun c => if c = c1 then some (o1, g1) else if c = c2 then some (o2, g2) else none
def opT : OPf := op2 42 7 mulC 47 8 divC
def opS : OPf := op2 43 5 addC 45 6 subC
/-- one after another, joined by signs -/
def chn (T : Nat → Nat) (N : Nat) (op : OPf) (A : Nat → PRs) : Nat → PRs → PRs
  | 0, r => r
  | f + 1, r => match r.2 with
    | none => r
    | some m => match op (sgn T N r.1) with
      | none => r
      | some o => match (A (bk T N (r.1 + 1))).2 with
        | none => A (bk T N (r.1 + 1))
        | some m2 => chn T N op A f ((A (bk T N (r.1 + 1))).1, some (m.1 ++ m2.1 ++ [o.1], fun a b c d e => o.2 (m.2 a b c d e) (m2.2 a b c d e)))
def envV (i : Nat) : LWt := fun g w h m t => nI (if i = 0 then g else if i = 1 then w else if i = 2 then h else if i = 3 then m else t)
def atm (T : Nat → Nat) (N : Nat) (S : Option (Nat → PRs)) (p : Nat) : PRs :=
  if sgn T N p = 91 then (match S with
    | none => (p, none)
    | some S => match (S (bk T N (p + 1))).2 with
      | none => S (bk T N (p + 1))
      | some m => if sgn T N (S (bk T N (p + 1))).1 = 93 then (bk T N ((S (bk T N (p + 1))).1 + 1), some m) else ((S (bk T N (p + 1))).1, none))
  else match ixS 0 (sgn T N p) with
    | some i => (bk T N (p + 1), some ([16 * i + 1], envV i))
    | none => match (numR T N p 4 0 1000000).2 with
      | none => ((numR T N p 4 0 1000000).1, none)
      | some n => ((numR T N p 4 0 1000000).1, some ([16 * n], fun _ _ _ _ _ => nI n))
def tmP (T : Nat → Nat) (N : Nat) (S : Option (Nat → PRs)) (p : Nat) : PRs := chn T N opT (atm T N S) (N + 1) (atm T N S p)
def smP (T : Nat → Nat) (N : Nat) (S : Option (Nat → PRs)) (p : Nat) : PRs := chn T N opS (tmP T N S) (N + 1) (tmP T N S p)
def smD (T : Nat → Nat) (N : Nat) : Nat → Nat → PRs
  | 0 => smP T N none
  | k + 1 => smP T N (some (smD T N k))
/-- what is read lies on, and has no more moves than signs -/
def PAdv (N : Nat) (A : Nat → PRs) : Prop := ∀ p, p ≤ N → (A p).1 ≤ N ∧ p ≤ (A p).1 ∧ ∀ m, (A p).2 = some m → p < (A p).1 ∧ p + m.1.length ≤ (A p).1
section PARSE
variable {T : Nat → Nat} {N : Nat} {op : OPf} {A : Nat → PRs}
theorem op_in {c : Nat} {c1 o1 c2 o2 : Nat} {g1 g2 : Int32 → Int32 → Int32} {o : Nat × (Int32 → Int32 → Int32)} (h : op2 c1 o1 g1 c2 o2 g2 c = some o) : c = c1 ∨ c = c2 := by
  unfold op2 at h
  split at h
  · exact Or.inl (by assumption)
  · split at h
    · exact Or.inr (by assumption)
    · cases h
theorem chn_adv {p : Nat} (h0 : ∀ o, op 0 ≠ some o) (hA : PAdv N A) (hp : p ≤ N) : ∀ f r, r.1 ≤ N → p ≤ r.1 → (∀ m, r.2 = some m → p < r.1 ∧ p + m.1.length ≤ r.1) → (chn T N op A f r).1 ≤ N ∧ p ≤ (chn T N op A f r).1 ∧ ∀ m, (chn T N op A f r).2 = some m → p < (chn T N op A f r).1 ∧ p + m.1.length ≤ (chn T N op A f r).1 := by
  intro f
  induction f with
  | zero => intro r a b c; exact ⟨a, b, c⟩
  | succ f ih =>
    intro r a b c
    obtain ⟨q, m⟩ := r
    cases m with
    | none => exact ⟨a, b, c⟩
    | some m =>
      unfold chn
      dsimp only
      cases ho : op (sgn T N q) with
      | none => exact ⟨a, b, c⟩
      | some o =>
        have hq : q < N := by
          by_cases h : q < N
          · exact h
          · unfold sgn at ho
            rw [if_neg h] at ho
            exact absurd ho (h0 o)
        have hge := bk_ge (T := T) (N := N) (p := q + 1)
        have hle := bk_le (T := T) (N := N) (p := q + 1) (by omega)
        obtain ⟨x1, x2, x3⟩ := hA _ hle
        have c' := c m rfl
        dsimp only at a b c' ⊢
        cases hm2 : (A (bk T N (q + 1))).2 with
        | none =>
          dsimp only
          refine ⟨x1, by omega, fun m hm => ?_⟩
          rw [hm2] at hm
          cases hm
        | some m2 =>
          dsimp only
          have x3' := x3 m2 hm2
          refine ih _ x1 (by dsimp only; omega) (fun m3 hm3 => ?_)
          cases hm3
          dsimp only
          rw [List.length_append, List.length_append, List.length_singleton]
          omega
theorem op2_0 {c1 o1 c2 o2 : Nat} {g1 g2 : Int32 → Int32 → Int32} (h1 : 0 < c1) (h2 : 0 < c2) : ∀ o, op2 c1 o1 g1 c2 o2 g2 0 ≠ some o := by
  intro o h
  rcases op_in h with h | h <;> omega
theorem chP_adv (h0 : ∀ o, op 0 ≠ some o) (hA : PAdv N A) : PAdv N (fun p => chn T N op A (N + 1) (A p)) := fun p hp => chn_adv h0 hA hp _ _ (hA p hp).1 (hA p hp).2.1 (hA p hp).2.2
theorem ix_in {j c : Nat} {i : Nat} (h : ixS j c = some i) (hj : j < 10) : 0 < c ∧ i < sa_slen.getD j 0 := by
  unfold ixS at h
  have h1 := List.mem_range.mp (List.mem_of_find?_eq_some h)
  have h2 : decide ((sa_byt.getD j []).getD i 0 = nI c) = true := List.find?_some (p := fun i => decide ((sa_byt.getD j []).getD i 0 = nI c)) h
  have h2 := of_decide_eq_true h2
  refine ⟨?_, h1⟩
  have h3 := (byt_lo j hj i h1).1
  rw [h2] at h3
  cases c with
  | zero => exact absurd h3 (by decide)
  | succ c => omega
theorem num_adv {p a lo hi : Nat} (hp : p ≤ N) (ha : a ≤ 4) : (numR T N p a lo hi).1 ≤ N ∧ p ≤ (numR T N p a lo hi).1 ∧ ∀ n, (numR T N p a lo hi).2 = some n → p < (numR T N p a lo hi).1 := by
  have hall : ∀ y, y < ndg T N p a → isD (sgn T N (p + y)) = true := by
    intro y hy
    unfold ndg at hy
    rcases find_range (p := fun y => !isD (sgn T N (p + y))) a with ⟨e1, e2⟩ | ⟨k, e1, e2, e3, e4⟩
    · rw [e1] at hy
      have := e2 y hy
      cases h : isD (sgn T N (p + y)) with
      | true => rfl
      | false => rw [h] at this; cases this
    · rw [e2] at hy
      have := e4 y hy
      cases h : isD (sgn T N (p + y)) with
      | true => rfl
      | false => rw [h] at this; cases this
  have hN : p + ndg T N p a ≤ N := by
    by_cases h : ndg T N p a = 0
    · omega
    · have := (isD_in (hall (ndg T N p a - 1) (by omega))).1
      omega
  generalize hn : ndg T N p a = n at *
  have hle := bk_le (T := T) hN
  have hge := bk_ge (T := T) (N := N) (p := p + n)
  unfold numR
  rw [hn]
  split
  · exact ⟨hp, Nat.le_refl _, fun n h => by cases h⟩
  · split
    · exact ⟨hN, by dsimp only; omega, fun n h => by cases h⟩
    · split
      · exact ⟨by dsimp only; omega, by dsimp only; omega, fun n h => by cases h⟩
      · exact ⟨hle, by dsimp only; omega, fun n h => by dsimp only; omega⟩
theorem atm_adv {S : Option (Nat → PRs)} (hS : ∀ A, S = some A → PAdv N A) : PAdv N (atm T N S) := by
  intro p hp
  unfold atm
  by_cases h : sgn T N p = 91
  · rw [if_pos h]
    have hin := sgn_in (c := 91) (by omega) h
    cases S with
    | none => exact ⟨hp, Nat.le_refl _, fun m h => by cases h⟩
    | some A =>
      have hge := bk_ge (T := T) (N := N) (p := p + 1)
      have hle := bk_le (T := T) (N := N) (p := p + 1) (by omega)
      obtain ⟨x1, x2, x3⟩ := hS A rfl _ hle
      dsimp only
      cases hm : (A (bk T N (p + 1))).2 with
      | none =>
        dsimp only
        refine ⟨x1, by omega, fun m h => ?_⟩
        rw [hm] at h
        cases h
      | some m =>
        have x3' := x3 m hm
        dsimp only
        by_cases h2 : sgn T N (A (bk T N (p + 1))).1 = 93
        · rw [if_pos h2]
          have hin2 := sgn_in (c := 93) (by omega) h2
          have hge2 := bk_ge (T := T) (N := N) (p := (A (bk T N (p + 1))).1 + 1)
          have hle2 := bk_le (T := T) (N := N) (p := (A (bk T N (p + 1))).1 + 1) (by omega)
          refine ⟨hle2, by dsimp only; omega, fun m2 h => ?_⟩
          cases h
          dsimp only
          omega
        · rw [if_neg h2]
          exact ⟨x1, by dsimp only; omega, fun m h => by cases h⟩
  · rw [if_neg h]
    cases hi : ixS 0 (sgn T N p) with
    | some i =>
      have hin := sgn_in (c := sgn T N p) (ix_in hi (by omega)).1 rfl
      have hge := bk_ge (T := T) (N := N) (p := p + 1)
      have hle := bk_le (T := T) (N := N) (p := p + 1) (by omega)
      refine ⟨hle, by dsimp only; omega, fun m h => ?_⟩
      cases h
      dsimp only
      rw [List.length_singleton]
      omega
    | none =>
      obtain ⟨n1, n2, n3⟩ := num_adv (T := T) (lo := 0) (hi := 1000000) hp (show 4 ≤ 4 by omega)
      dsimp only
      cases hn : (numR T N p 4 0 1000000).2 with
      | none => exact ⟨n1, n2, fun m h => by cases h⟩
      | some n =>
        have := n3 n hn
        refine ⟨n1, n2, fun m h => ?_⟩
        cases h
        dsimp only
        rw [List.length_singleton]
        omega
theorem smP_adv {S : Option (Nat → PRs)} (hS : ∀ A, S = some A → PAdv N A) : PAdv N (smP T N S) ∧ PAdv N (tmP T N S) := by
  have ha := atm_adv (T := T) hS
  have ht : PAdv N (tmP T N S) := chP_adv (op2_0 (by omega) (by omega)) ha
  exact ⟨chP_adv (op2_0 (by omega) (by omega)) ht, ht⟩
theorem smD_adv : ∀ k, PAdv N (smD T N k) := by
  intro k
  induction k with
  | zero => exact (smP_adv (fun A h => by cases h)).1
  | succ k ih => exact (smP_adv (fun A h => by cases h; exact ih)).1
end PARSE
