/-! TEXTS: what a law is worth: sums and conditions, done by the moves -/
section PEX2
variable {T : Nat → Nat} {N g w h m t u : Nat}
theorem clpN {n : Nat} (hn : n ≤ 1000000) : clp (nI n).toInt64 = nI n := by
  have hm : (-1000000 : Int64).toInt = -1000000 := by decide
  have hp : (1000000 : Int64).toInt = 1000000 := by decide
  have ez : (nI n).toInt64.toInt = n := by rw [Int32.toInt_toInt64, nI_toInt (by omega)]
  by_cases e : n < 1000000
  · unfold clp
    rw [if_pos (show (nI n).toInt64 < 1000000 by rw [Int64.lt_iff_toInt_lt, hp, ez]; omega), if_neg (show ¬ (nI n).toInt64 < -1000000 by rw [Int64.lt_iff_toInt_lt, hm, ez]; omega), Int32.toInt32_toInt64]
  · have : n = 1000000 := by omega
    subst this
    decide
def tP (_ : Int32) : Prop := True
theorem atm_ex {S : Option (Nat → PRs)} (hb : g ≤ 99 ∧ w ≤ 9 ∧ h ≤ 9 ∧ m ≤ 3 ∧ t ≤ 100000) (h1 : 1 ≤ u) (hS : ∀ SP, S = some SP → ∀ p, RX g w h m t u tP (SP p)) (p : Nat) : RX g w h m t u tP (atm T N S p) := by
  intro x e
  unfold atm at e
  by_cases h91 : sgn T N p = 91
  · rw [if_pos h91] at e
    cases S with
    | none => cases e
    | some SP =>
      have hs := hS SP rfl (bk T N (p + 1))
      dsimp only at e
      generalize SP (bk T N (p + 1)) = r0 at *
      obtain ⟨q, mm⟩ := r0
      cases mm with
      | none => cases e
      | some y =>
        dsimp only at e
        by_cases h93 : sgn T N q = 93
        · rw [if_pos h93] at e
          cases e
          exact hs x rfl
        · rw [if_neg h93] at e; cases e
  · rw [if_neg h91] at e
    cases hi : ixS 0 (sgn T N p) with
    | some i =>
      rw [hi] at e
      cases e
      have hi5 : i < 5 := (ix_in hi (by omega)).2
      refine ⟨ex_one (a := i) (o := 1) (by omega) (by omega) h1 (fun l σ j Q x3 x4 y15 y16 he hz => w_D1 hi5 (hz _ ?_)), trivial⟩
      obtain ⟨b1, b2, b3, b4, b5⟩ := hb
      obtain ⟨e1, e2, e3, e4, e5⟩ := he
      unfold envV
      match i, hi5 with
      | 0, _ => rw [e1]; exact clpN (by omega)
      | 1, _ => rw [e2]; exact clpN (by omega)
      | 2, _ => rw [e3]; exact clpN (by omega)
      | 3, _ => rw [e4]; exact clpN (by omega)
      | 4, _ => rw [e5]; exact clpN (by omega)
      | n + 5, hi5 => omega
    | none =>
      rw [hi] at e
      dsimp only at e
      have hnb : ∀ n, (numR T N p 4 0 1000000).2 = some n → n ≤ 1000000 := by
        intro n hn
        unfold numR at hn
        split at hn
        · cases hn
        · split at hn
          · cases hn
          · split at hn
            · cases hn
            · cases hn
              omega
      cases hn : (numR T N p 4 0 1000000).2 with
      | none => rw [hn] at e; cases e
      | some n =>
        have hn6 := hnb n hn
        rw [hn] at e
        cases e
        exact ⟨ex_one (a := n) (o := 0) (by omega) (by omega) h1 (fun l σ j Q x3 x4 y15 y16 he hz => w_D0 (hz _ (clpN hn6))), trivial⟩
theorem sm_ex (hb : g ≤ 99 ∧ w ≤ 9 ∧ h ≤ 9 ∧ m ≤ 3 ∧ t ≤ 100000) {S : Option (Nat → PRs)} {uA : Nat} (h1 : 2 ≤ uA) (hS : ∀ SP, S = some SP → ∀ p, RX g w h m t uA tP (SP p)) (p : Nat) : RX g w h m t (uA + 2) tP (smP T N S p) := by
  have ha := fun p => atm_ex (T := T) (N := N) hb (by omega) hS p
  have ht : ∀ p, RX g w h m t (uA + 1) tP (tmP T N S p) := fun p => chn_ex (PV := tP) (op2_ex ⟨by omega, st7⟩ ⟨by omega, st8⟩) ha (by omega) (by omega) _ _ ((ha p).mono (by omega))
  exact chn_ex (PV := tP) (op2_ex ⟨by omega, st5⟩ ⟨by omega, st6⟩) ht (by omega) (by omega) _ _ ((ht p).mono (by omega))
theorem smD_ex (hb : g ≤ 99 ∧ w ≤ 9 ∧ h ≤ 9 ∧ m ≤ 3 ∧ t ≤ 100000) : ∀ k p, RX g w h m t (4 + 2 * k) tP (smD T N k p) := by
  intro k
  induction k with
  | zero => intro p; exact sm_ex hb (uA := 2) (by omega) (fun SP e => by cases e) p
  | succ k ih =>
    intro p
    have := sm_ex (T := T) (N := N) hb (S := some (smD T N k)) (uA := 4 + 2 * k) (by omega) (fun SP e => by cases e; exact ih) p
    exact this
theorem cmp_ex (hb : g ≤ 99 ∧ w ≤ 9 ∧ h ≤ 9 ∧ m ≤ 3 ∧ t ≤ 100000) {k : Nat} {r : PRs} (hr : RX g w h m t (4 + 2 * k) tP r) : RX g w h m t (5 + 2 * k) p01 (cmpR T N k r) := by
  intro x e
  obtain ⟨q, mm⟩ := r
  cases mm with
  | none => cases e
  | some y =>
    obtain ⟨e1, -⟩ := hr y rfl
    unfold cmpR at e
    dsimp only at e
    cases hi : ixS 3 (sgn T N q) with
    | none => rw [hi] at e; cases e
    | some i =>
      have hi3 : i < 3 := (ix_in hi (by omega)).2
      rw [hi] at e
      dsimp only at e
      have hs := smD_ex (T := T) (N := N) hb k (bk T N (q + 1))
      generalize smD T N k (bk T N (q + 1)) = r1 at *
      obtain ⟨q1, m1⟩ := r1
      cases m1 with
      | none => cases e
      | some y2 =>
        cases e
        obtain ⟨e2, -⟩ := hs y2 rfl
        exact ⟨ex_bin (by omega) (stCm hi3) ⟨trivial, trivial⟩ e1 e2 (by omega) (by omega) (by omega), cmp01 _ _ _⟩
theorem op1_ex {c1 o1 : Nat} {g1 : Int32 → Int32 → Int32} (h1 : (5 ≤ o1 ∧ o1 < 16) ∧ StpM o1 g1 (fun v w => p01 v ∧ p01 w)) (h2 : ∀ v w, p01 (g1 v w)) : ∀ c o, op1 c1 o1 g1 c = some o → (5 ≤ o.1 ∧ o.1 < 16) ∧ StpM o.1 o.2 (fun v w => p01 v ∧ p01 w) ∧ ∀ v w, p01 v → p01 w → p01 (o.2 v w) := by
  intro c o hc
  unfold op1 at hc
  split at hc
  · cases hc
    exact ⟨h1.1, h1.2, fun v w _ _ => h2 v w⟩
  · cases hc
theorem and01 (v w : Int32) : p01 (andC v w) := by unfold andC p01; split <;> simp
theorem or01 (v w : Int32) : p01 (orC v w) := by unfold orC p01; split <;> simp
theorem not01 (v : Int32) : p01 (notC v) := by unfold notC p01; split <;> simp
theorem trF_ex {U : Nat → PRs} {uU : Nat} (hU : ∀ p, RX g w h m t uU p01 (U p)) (h3 : 3 ≤ uU) {r : PRs} (hr : RX g w h m t (uU + 1) p01 r) : RX g w h m t (uU + 1) p01 (trF T N U r) := chn_ex (PV := p01) (op1_ex ⟨by omega, st12⟩ and01) hU (by omega) (by omega) _ _ hr
theorem trP_ex {U : Nat → PRs} {uU : Nat} (hU : ∀ p, RX g w h m t uU p01 (U p)) (h3 : 3 ≤ uU) (p : Nat) : RX g w h m t (uU + 1) p01 (trP T N U p) := trF_ex hU h3 ((hU p).mono (by omega))
theorem coF_ex {U : Nat → PRs} {uU : Nat} (hU : ∀ p, RX g w h m t uU p01 (U p)) (h3 : 3 ≤ uU) {r : PRs} (hr : RX g w h m t (uU + 2) p01 r) : RX g w h m t (uU + 2) p01 (coF T N U r) := chn_ex (PV := p01) (op1_ex ⟨by omega, st13⟩ or01) (trP_ex (T := T) (N := N) hU h3) (by omega) (by omega) _ _ hr
theorem coP_ex {U : Nat → PRs} {uU : Nat} (hU : ∀ p, RX g w h m t uU p01 (U p)) (h3 : 3 ≤ uU) (p : Nat) : RX g w h m t (uU + 2) p01 (coP T N U p) := coF_ex hU h3 ((trP_ex hU h3 p).mono (by omega))
theorem unD_ex (hb : g ≤ 99 ∧ w ≤ 9 ∧ h ≤ 9 ∧ m ≤ 3 ∧ t ≤ 100000) : ∀ k p, RX g w h m t (5 + 2 * k) p01 (unD T N k p) := by
  intro k
  induction k with
  | zero =>
    intro p
    unfold unD
    split
    · intro x e; cases e
    · exact cmp_ex hb (smD_ex hb 0 p)
  | succ k ih =>
    intro p
    unfold unD
    split
    · have hu := ih (bk T N (p + 1))
      generalize unD T N k (bk T N (p + 1)) = r at *
      obtain ⟨q, mm⟩ := r
      cases mm with
      | none => intro x e; cases e
      | some y =>
        intro x e
        cases e
        obtain ⟨e1, v1⟩ := hu y rfl
        exact ⟨ex_not v1 e1 (by omega) (by omega), not01 _⟩
    · split
      · have hu := coP_ex (T := T) (N := N) ih (by omega) (bk T N (p + 1))
        generalize coP T N (unD T N k) (bk T N (p + 1)) = r at *
        obtain ⟨q, mm⟩ := r
        cases mm with
        | none => intro x e; cases e
        | some y =>
          intro x e
          unfold clR at e
          dsimp only at e
          split at e
          · cases e
            exact ⟨(hu y rfl).1.mono (by omega), (hu y rfl).2⟩
          · cases e
      · exact cmp_ex hb (smD_ex hb (k + 1) p)
end PEX2
