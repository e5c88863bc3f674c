/-! TEXTS: what a law is worth: the question, the answer -/
section WASK
variable {l : Nat} {σ : sa_St} {j : Int32 → Int32 → sa_M Int32} {Q : Int32 → sa_St → Prop} {x3 : Int32} {y15 y16 : Int64} {a pc : Nat}
theorem w_D4 {x4 : Int32} (hQ : Q y16.toInt32 σ) : wp (wD l j x3 x4 (nI 4) (nI a) y15 y16) σ Q := by
  unfold wD
  rw [wp_let, wp_jn2]
  rw [wp_if]
  refine ⟨fun q => absurd q (by decide), fun _ => ?_⟩
  rw [wp_if]
  refine ⟨fun q => absurd q (by decide), fun _ => ?_⟩
  rw [wp_if]
  refine ⟨fun q => absurd q (by decide), fun _ => ?_⟩
  rw [wp_if]
  refine ⟨fun q => absurd q (by decide), fun _ => ?_⟩
  rw [wp_if]
  refine ⟨fun _ => ?_, fun q => absurd (by decide) q⟩
  rw [wp_ret]
  exact hQ
theorem w_D3 (ha : a < 2 ^ 20) (hpc : pc < a) (v : Int32) (hv : y16 = v.toInt64) (hQ : wp (wT l j x3 (nI 3) (nI (if v = 0 then a - 1 else pc)) 0) σ Q) : wp (wD l j x3 (nI pc) (nI 3) (nI a) y15 y16) σ Q := by
  subst hv
  have e0 : (lg_cmp v.toInt64 0 = 0) ↔ v = 0 := by
    rw [lg_cmp_eq]
    constructor
    · intro e
      have e2 : v.toInt64.toInt32 = (0 : Int64).toInt32 := by rw [e]
      rw [Int32.toInt32_toInt64] at e2
      exact e2
    · intro e
      subst e
      rfl
  unfold wD
  rw [wp_let, wp_jn2]
  rw [wp_if]
  refine ⟨fun q => absurd q (by decide), fun _ => ?_⟩
  rw [wp_if]
  refine ⟨fun q => absurd q (by decide), fun _ => ?_⟩
  rw [wp_if]
  refine ⟨fun q => absurd q (by decide), fun _ => ?_⟩
  rw [wp_if]
  refine ⟨fun _ => ?_, fun q => absurd (by decide) q⟩
  rw [wp_jn1, wp_jn0, wp_if, e0]
  refine ⟨fun n0 => ?_, fun n0 => ?_⟩
  · rw [if_neg n0] at hQ
    exact hQ
  · rw [if_pos (Decidable.not_not.mp n0)] at hQ
    have es : nI a - 1 = nI (a - 1) := pk_sub (a := a) (b := 1) (by omega)
    rw [wp_if, nI_leI (by omega) (by omega)]
    refine ⟨fun q => by omega, fun _ => ?_⟩
    rw [es]
    exact hQ
theorem w_tail3 {z : Int64} (hQ : wp (j (nI 0) (nI (pc + 1))) σ Q) : wp (wT l j (nI 1) (nI 3) (nI pc) z) σ Q := by
  unfold wT
  rw [wp_jn1, wp_if]
  refine ⟨fun _ => ?_, fun q => absurd (show (1 : Int32) < nI 3 by decide) q⟩
  rw [wp_if]
  refine ⟨fun _ => ?_, fun q => absurd (show ¬ nI 3 = 2 by decide) q⟩
  have e : nI 1 + (-1) = nI 0 := by decide
  rw [wp_let, e, wp_jn0, wp_if]
  refine ⟨fun _ => ?_, fun q => absurd (show nI 0 ≤ 0 by decide) q⟩
  rw [wp_let, nI_1]
  exact hQ
end WASK
