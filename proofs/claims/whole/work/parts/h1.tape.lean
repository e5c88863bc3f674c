/-! TEXTS: the class's tape -/
def CTp (T : Nat → Nat) (N : Nat) (σ : sa_St) : Prop := SK σ.2.1 ∧ N ≤ 240 ∧ (∀ i, i < N → 0 < T i ∧ T i < 256) ∧ σ.1 1 1 = nI N ∧ ∀ i, i < N → σ.1 2 i = nI (T i)
def isD (c : Nat) : Bool := decide (48 ≤ c ∧ c ≤ 57)
/-- the digits from p on, at most a of them; what they say -/
def ndg (T : Nat → Nat) (N p a : Nat) : Nat := ((List.range a).find? (fun y => !isD (sgn T N (p + y)))).getD a
def nmv (T : Nat → Nat) (p : Nat) : Nat → Nat
  | 0 => 0
  | n + 1 => 10 * nmv T p n + (T (p + n) - 48)
/-- a number of at most a digits, from lo to hi: where it ends or fails, what it says -/
def numR (T : Nat → Nat) (N p a lo hi : Nat) : Nat × Option Nat := if ndg T N p a = 0 then (p, none) else if isD (sgn T N (p + ndg T N p a)) then (p + ndg T N p a, none) else if nmv T p (ndg T N p a) < lo ∨ hi < nmv T p (ndg T N p a) then (p + ndg T N p a - 1, none) else (bk T N (p + ndg T N p a), some (nmv T p (ndg T N p a)))
theorem ndg_of {T : Nat → Nat} {N p a i : Nat} (h1 : ∀ y, y < i → isD (sgn T N (p + y)) = true) (h2 : i = a ∨ isD (sgn T N (p + i)) = false) (hi : i ≤ a) : ndg T N p a = i := by
  unfold ndg
  rcases find_range (p := fun y => !isD (sgn T N (p + y))) a with ⟨e1, e2⟩ | ⟨k, e1, e2, e3, e4⟩
  · rw [e1]
    rcases h2 with h | h
    · exact h.symm
    · by_cases e : i = a
      · exact e.symm
      · have := e2 i (by omega)
        rw [h] at this
        cases this
  · rw [e2]
    show k = i
    rcases Nat.lt_trichotomy k i with h | h | h
    · rw [h1 k h] at e3; cases e3
    · exact h
    · rcases h2 with h3 | h3
      · omega
      · have := e4 i h
        rw [h3] at this
        cases this
section TAPE
variable {T : Nat → Nat} {N p : Nat} {σ : sa_St}
theorem CTp.at (h : CTp T N σ) {q : Int32} : CTp T N (sa_upI σ 1 2 q) := by
  obtain ⟨a, b, c, d, e⟩ := h
  exact ⟨a, b, c, by rw [upI_self, va_up_ne _ _ (by omega)]; exact d, fun i hi => by rw [upI_ne (by omega)]; exact e i hi⟩
theorem sgn_lt (h : CTp T N σ) : sgn T N p < 256 := by
  unfold sgn
  split
  · exact (h.2.2.1 p (by assumption)).2
  · omega
theorem sgn_in {c : Nat} (hc : 0 < c) (h : sgn T N p = c) : p < N ∧ T p = c := by
  unfold sgn at h
  split at h
  · exact ⟨by assumption, h⟩
  · omega
theorem isD_in (h : isD (sgn T N p) = true) : p < N ∧ sgn T N p = T p ∧ 48 ≤ T p ∧ T p ≤ 57 := by
  have h2 := of_decide_eq_true h
  have h3 := sgn_in (c := sgn T N p) (by omega) rfl
  exact ⟨h3.1, h3.2.symm, by omega, by omega⟩
theorem ch_n1 : ∀ b, b < 128 → ((nI b).toUInt32 % 65536).toInt32 = nI b ∧ vp_nar .char (nI b) = nI b := by decide
theorem ch_n2 : ∀ b, b < 128 → ((nI (128 + b)).toUInt32 % 65536).toInt32 = nI (128 + b) ∧ vp_nar .char (nI (128 + b)) = nI (128 + b) := by decide
theorem ch_nar (b : Nat) (hb : b < 256) : ((nI b).toUInt32 % 65536).toInt32 = nI b ∧ vp_nar .char (nI b) = nI b := by
  by_cases h : b < 128
  · exact ch_n1 b h
  · obtain ⟨d, rfl⟩ : ∃ d, b = 128 + d := ⟨b - 128, by omega⟩
    exact ch_n2 d (by omega)
theorem run_to {α : Type} {f : sa_M α} {σ υ : sa_St} {v : α} (h : wp f σ (fun r τ => r = v ∧ τ = υ)) : f σ = some (v, υ) := by
  obtain ⟨r, τ, h1, rfl, rfl⟩ := h
  exact h1
theorem c_skip (h : CTp T N σ) (hp : p ≤ N) (ha : σ.1 1 2 = nI p) : f_X7_skipBlanks 1 σ = some ((), sa_upI σ 1 2 (nI (bk T N p))) := by
  have h240 := h.2.1
  refine run_to ?_
  unfold f_X7_skipBlanks
  rw [wp_gd]
  refine ⟨rfl, ?_⟩
  refine wp_wh0 (fun m τ => ∃ q, p ≤ q ∧ q ≤ N ∧ m = N - q ∧ bk T N q = bk T N p ∧ τ = sa_upI σ 1 2 (nI q)) ?_ sa_F (N - p) σ (by unfold sa_F; omega) ⟨p, Nat.le_refl _, hp, rfl, rfl, (upI_id ha).symm⟩
  rintro m τ ⟨q, q1, q2, rfl, q3, rfl⟩ j hj
  obtain ⟨hk, -, hb, h1, hs⟩ := h.at (q := nI q)
  have x2 : (sa_upI σ 1 2 (nI q)).1 1 2 = nI q := by rw [upI_self, va_up_self]
  rw [wp_bnd, wp_rdI, x2]
  refine ⟨rfl, ?_⟩
  rw [wp_bnd, wp_rdI, h1]
  refine ⟨rfl, ?_⟩
  rw [wp_jn0, wp_if, nI_leI (by omega) (by omega)]
  have fin : ¬ (q < N ∧ T q = 32) → wp (sa_ret ()) (sa_upI σ 1 2 (nI q)) (fun r τ => r = () ∧ τ = sa_upI σ 1 2 (nI (bk T N p))) := fun hn => by
    rw [wp_ret, ← q3, bk_of hn]
    exact ⟨rfl, rfl⟩
  refine ⟨fun c => fin (by omega), fun c => ?_⟩
  have hqN : q < N := by omega
  obtain ⟨t0, t1⟩ := hb q hqN
  rw [wp_bnd, wp_rdR (v := 2) rfl (sk_1_0 hk), wp_bnd, wp_rdI, x2]
  refine ⟨rfl, ?_⟩
  rw [wp_bnd, wp_ldI (n := q) (len := 240) al_2 rfl (by omega) (by omega), hs q hqN, wp_if]
  have e32 : (nI (T q) = 32) ↔ T q = 32 := nI_eq (a := T q) (b := 32) (by omega) (by omega)
  rw [e32]
  refine ⟨fun c2 => fin (fun h => c2 h.2), fun c2 => ?_⟩
  have c3 := Decidable.not_not.mp c2
  rw [wp_bnd, wp_rdI, x2]
  refine ⟨rfl, ?_⟩
  rw [wp_bnd, wp_wrI]
  refine ⟨rfl, ?_⟩
  rw [nI_1, upI_two]
  exact hj (N - (q + 1)) _ (by omega) ⟨q + 1, by omega, by omega, rfl, by rw [← q3, bk_sp hqN c3], rfl⟩
theorem c_sign (h : CTp T N σ) (hp : p ≤ N) (ha : σ.1 1 2 = nI p) : f_X7_sign 1 σ = some (nI (sgn T N p), σ) := by
  obtain ⟨hk, h240, hb, h1, hs⟩ := h
  refine run_of ?_
  unfold f_X7_sign
  rw [wp_gd]
  refine ⟨rfl, ?_⟩
  rw [wp_bnd, wp_rdI, ha]
  refine ⟨rfl, ?_⟩
  rw [wp_jn1, wp_jn0, wp_if]
  refine ⟨fun q => absurd q (nI_pos (by omega)), fun _ => ?_⟩
  rw [wp_bnd, wp_rdI, ha]
  refine ⟨rfl, ?_⟩
  rw [wp_bnd, wp_rdI, h1]
  refine ⟨rfl, ?_⟩
  rw [wp_if, nI_leI (by omega) (by omega)]
  refine ⟨fun c => ?_, fun c => ?_⟩
  · rw [wp_retC rfl]
    unfold sgn
    rw [if_neg (by omega)]
    exact ⟨rfl, rfl⟩
  · have hpN : p < N := by omega
    obtain ⟨c1, c2⟩ := ch_nar (T p) (hb p hpN).2
    rw [wp_bnd, wp_rdR (v := 2) rfl (sk_1_0 hk), wp_bnd, wp_rdI, ha]
    refine ⟨rfl, ?_⟩
    rw [wp_bnd, wp_ldI (n := p) (len := 240) al_2 rfl (by omega) (by omega), hs p hpN, c1, wp_retC c2]
    unfold sgn
    rw [if_pos hpN]
    exact ⟨rfl, rfl⟩
theorem c_pass (h : CTp T N σ) (hp : p < N) (ha : σ.1 1 2 = nI p) : f_X7_pass 1 σ = some ((), sa_upI σ 1 2 (nI (bk T N (p + 1)))) := by
  refine run_to ?_
  unfold f_X7_pass
  rw [wp_gd]
  refine ⟨rfl, ?_⟩
  rw [wp_bnd, wp_rdI, ha]
  refine ⟨rfl, ?_⟩
  rw [wp_bnd, wp_wrI]
  refine ⟨rfl, ?_⟩
  rw [nI_1, wp_bnd, wp_of_eq (c_skip (p := p + 1) h.at (by omega) (by rw [upI_self, va_up_self])), wp_ret, upI_two]
  exact ⟨rfl, rfl⟩
theorem c_rewind (h : CTp T N σ) : f_X7_rewind 1 σ = some ((), sa_upI σ 1 2 (nI (bk T N 0))) := by
  refine run_to ?_
  unfold f_X7_rewind
  rw [wp_gd]
  refine ⟨rfl, ?_⟩
  rw [wp_bnd, wp_wrI]
  refine ⟨rfl, ?_⟩
  rw [wp_bnd, wp_of_eq (c_skip (p := 0) h.at (by omega) (by rw [upI_self, va_up_self]; rfl)), wp_ret, upI_two]
  exact ⟨rfl, rfl⟩
theorem c_dig {c : Nat} (hc : c < 256) : f_X7_isDigit (nI c) σ = some (nI (if isD c then 1 else 0), σ) := by
  refine run_of ?_
  unfold f_X7_isDigit
  rw [wp_jn1, wp_jn0, wp_if]
  have e1 : (nI c < 48) ↔ c < 48 := nI_ltI (a := c) (b := 48) (by omega) (by omega)
  have e2 : ((57 : Int32) < nI c) ↔ 57 < c := nI_ltI (a := 57) (b := c) (by omega) (by omega)
  unfold isD
  rw [e1]
  refine ⟨fun q => ?_, fun q => ?_⟩
  · rw [wp_retZ, decide_eq_false (by omega)]
    exact ⟨Or.inl rfl, rfl, rfl⟩
  · rw [wp_if, e2]
    refine ⟨fun q2 => ?_, fun q2 => ?_⟩
    · rw [wp_retZ, decide_eq_false (by omega)]
      exact ⟨Or.inl rfl, rfl, rfl⟩
    · rw [wp_retZ, decide_eq_true (by omega)]
      exact ⟨Or.inr rfl, rfl, rfl⟩
theorem c_ended (h : CTp T N σ) (hp : p ≤ N) (ha : σ.1 1 2 = nI p) : f_X7_isEnded 1 σ = some (nI (if p < N then 0 else 1), σ) := by
  obtain ⟨hk, h240, hb, h1, hs⟩ := h
  refine run_of ?_
  unfold f_X7_isEnded
  rw [wp_gd]
  refine ⟨rfl, ?_⟩
  rw [wp_bnd, wp_rdI, ha]
  refine ⟨rfl, ?_⟩
  rw [wp_bnd, wp_rdI, h1]
  refine ⟨rfl, ?_⟩
  rw [wp_jn1, wp_if, nI_ltI (by omega) (by omega)]
  refine ⟨fun c => ?_, fun c => ?_⟩
  · rw [wp_retZ, if_pos c]
    exact ⟨Or.inl rfl, rfl, rfl⟩
  · rw [wp_retZ, if_neg c]
    exact ⟨Or.inr rfl, rfl, rfl⟩
theorem c_take {c : Nat} (h : CTp T N σ) (hp : p ≤ N) (ha : σ.1 1 2 = nI p) (hc : 0 < c) (hc2 : c < 256) : f_X7_take 1 (nI c) σ = some (if sgn T N p = c then (nI 1, sa_upI σ 1 2 (nI (bk T N (p + 1)))) else (nI 0, σ)) := by
  have hlt := sgn_lt (p := p) h
  by_cases e : sgn T N p = c
  · have hin := sgn_in hc e
    rw [if_pos e]
    refine run_to ?_
    unfold f_X7_take
    rw [wp_gd]
    refine ⟨rfl, ?_⟩
    rw [wp_bnd, wp_of_eq (c_sign h hp ha), wp_if, nI_eq (by omega) (by omega)]
    refine ⟨fun _ => ?_, fun q => absurd e q⟩
    rw [wp_bnd, wp_rdI, ha]
    refine ⟨rfl, ?_⟩
    rw [wp_bnd, wp_wrI]
    refine ⟨rfl, ?_⟩
    rw [nI_1, wp_bnd, wp_of_eq (c_skip (p := p + 1) h.at (by omega) (by rw [upI_self, va_up_self])), wp_retZ, upI_two]
    exact ⟨Or.inr rfl, rfl, rfl⟩
  · rw [if_neg e]
    refine run_of ?_
    unfold f_X7_take
    rw [wp_gd]
    refine ⟨rfl, ?_⟩
    rw [wp_bnd, wp_of_eq (c_sign h hp ha), wp_if, nI_eq (by omega) (by omega)]
    refine ⟨fun q => absurd q e, fun _ => ?_⟩
    rw [wp_retZ]
    exact ⟨Or.inl rfl, rfl, rfl⟩
theorem c_takeD (h : CTp T N σ) (hp : p ≤ N) (ha : σ.1 1 2 = nI p) : f_X7_takeDigit 1 σ = some (if isD (sgn T N p) then (nI (T p - 48), sa_upI σ 1 2 (nI (bk T N (p + 1)))) else (mI, σ)) := by
  have hlt := sgn_lt (p := p) h
  cases e : isD (sgn T N p) with
  | true =>
    obtain ⟨i1, i2, i3, i4⟩ := isD_in e
    rw [if_pos rfl]
    refine run_to ?_
    unfold f_X7_takeDigit
    rw [wp_gd]
    refine ⟨rfl, ?_⟩
    rw [wp_bnd, wp_of_eq (c_sign h hp ha), wp_bnd, wp_of_eq (c_dig hlt), e, wp_if]
    refine ⟨fun _ => ?_, fun q => absurd (by decide) q⟩
    rw [wp_bnd, wp_of_eq (c_pass h i1 ha), wp_ret, i2]
    exact ⟨pk_sub (a := T p) (b := 48) (by omega), rfl⟩
  | false =>
    refine run_of ?_
    unfold f_X7_takeDigit
    rw [wp_gd]
    refine ⟨rfl, ?_⟩
    rw [wp_bnd, wp_of_eq (c_sign h hp ha), wp_bnd, wp_of_eq (c_dig hlt), e, wp_if]
    refine ⟨fun q => absurd rfl q, fun _ => ?_⟩
    rw [wp_ret]
    exact ⟨rfl, rfl⟩
end TAPE
