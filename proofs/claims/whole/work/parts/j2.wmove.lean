/-! TEXTS: what a law is worth: which move -/
section WMOVE
variable {l : Nat} {σ : sa_St} {j : Int32 → Int32 → sa_M Int32} {Q : Int32 → sa_St → Prop} {x3 x4 : Int32} {y15 y16 : Int64} {a : Nat}
theorem w_D0 (hQ : wp (wT l j x3 (nI 0) x4 ((nI a).toInt64)) σ Q) : wp (wD l j x3 x4 (nI 0) (nI a) y15 y16) σ Q := by
  unfold wD
  rw [wp_let, wp_jn2]
  rw [wp_if]
  refine ⟨fun _ => ?_, fun q => absurd (by decide) q⟩
  rw [wp_let]
  exact hQ
theorem w_D1 (ha : a < 5) (hQ : wp (wT l j x3 (nI 1) x4 ((σ.1 17 a).toInt64)) σ Q) : wp (wD l j x3 x4 (nI 1) (nI a) y15 y16) σ Q := by
  unfold wD
  rw [wp_let, wp_jn2]
  rw [wp_if]
  refine ⟨fun q => absurd q (by decide), fun _ => ?_⟩
  rw [wp_if]
  refine ⟨fun _ => ?_, fun q => absurd (by decide) q⟩
  rw [wp_jn1, wp_jn0, wp_if]
  refine ⟨fun q => absurd q (nI_pos (by omega)), fun _ => ?_⟩
  rw [wp_bnd, wp_lenI al_17 (by omega), wp_if, nI_leI (by omega) (by omega)]
  refine ⟨fun q => by omega, fun _ => ?_⟩
  rw [wp_bnd, wp_ldI (n := a) (len := 5) al_17 rfl (by omega) (by omega)]
  exact hQ
theorem w_D2 (hQ : wp (wT l j x3 (nI 2) x4 (1 - y16)) σ Q) : wp (wD l j x3 x4 (nI 2) (nI a) y15 y16) σ Q := by
  unfold wD
  rw [wp_let, wp_jn2]
  rw [wp_if]
  refine ⟨fun q => absurd q (by decide), fun _ => ?_⟩
  rw [wp_if]
  refine ⟨fun q => absurd q (by decide), fun _ => ?_⟩
  rw [wp_if]
  refine ⟨fun _ => ?_, fun q => absurd (by decide) q⟩
  rw [wp_let]
  exact hQ
theorem w_D5 (hQ : wp (wT l j x3 (nI 5) x4 (y15 + y16)) σ Q) : wp (wD l j x3 x4 (nI 5) (nI a) y15 y16) σ Q := by
  unfold wD
  rw [wp_let, wp_jn2]
  rw [wp_if]
  refine ⟨fun q => absurd q (by decide), fun _ => ?_⟩
  rw [wp_if]
  refine ⟨fun q => absurd q (by decide), fun _ => ?_⟩
  rw [wp_if]
  refine ⟨fun q => absurd q (by decide), fun _ => ?_⟩
  rw [wp_if]
  refine ⟨fun q => absurd q (by decide), fun _ => ?_⟩
  rw [wp_if]
  refine ⟨fun q => absurd q (by decide), fun _ => ?_⟩
  rw [wp_if]
  refine ⟨fun _ => ?_, fun q => absurd (by decide) q⟩
  rw [wp_let]
  exact hQ
theorem w_D6 (hQ : wp (wT l j x3 (nI 6) x4 (y15 - y16)) σ Q) : wp (wD l j x3 x4 (nI 6) (nI a) y15 y16) σ Q := by
  unfold wD
  rw [wp_let, wp_jn2]
  rw [wp_if]
  refine ⟨fun q => absurd q (by decide), fun _ => ?_⟩
  rw [wp_if]
  refine ⟨fun q => absurd q (by decide), fun _ => ?_⟩
  rw [wp_if]
  refine ⟨fun q => absurd q (by decide), fun _ => ?_⟩
  rw [wp_if]
  refine ⟨fun q => absurd q (by decide), fun _ => ?_⟩
  rw [wp_if]
  refine ⟨fun q => absurd q (by decide), fun _ => ?_⟩
  rw [wp_if]
  refine ⟨fun q => absurd q (by decide), fun _ => ?_⟩
  rw [wp_if]
  refine ⟨fun _ => ?_, fun q => absurd (by decide) q⟩
  rw [wp_let]
  exact hQ
theorem w_D7 (hQ : wp (wT l j x3 (nI 7) x4 (y15 * y16)) σ Q) : wp (wD l j x3 x4 (nI 7) (nI a) y15 y16) σ Q := by
  unfold wD
  rw [wp_let, wp_jn2]
  rw [wp_if]
  refine ⟨fun q => absurd q (by decide), fun _ => ?_⟩
  rw [wp_if]
  refine ⟨fun q => absurd q (by decide), fun _ => ?_⟩
  rw [wp_if]
  refine ⟨fun q => absurd q (by decide), fun _ => ?_⟩
  rw [wp_if]
  refine ⟨fun q => absurd q (by decide), fun _ => ?_⟩
  rw [wp_if]
  refine ⟨fun q => absurd q (by decide), fun _ => ?_⟩
  rw [wp_if]
  refine ⟨fun q => absurd q (by decide), fun _ => ?_⟩
  rw [wp_if]
  refine ⟨fun q => absurd q (by decide), fun _ => ?_⟩
  rw [wp_if]
  refine ⟨fun _ => ?_, fun q => absurd (by decide) q⟩
  rw [wp_let]
  exact hQ
theorem w_D8 (hQ : wp (wT l j x3 (nI 8) x4 (if ¬ (lg_cmp y16 0) = 0 then y15 / y16 else 0)) σ Q) : wp (wD l j x3 x4 (nI 8) (nI a) y15 y16) σ Q := by
  unfold wD
  rw [wp_let, wp_jn2]
  rw [wp_if]
  refine ⟨fun q => absurd q (by decide), fun _ => ?_⟩
  rw [wp_if]
  refine ⟨fun q => absurd q (by decide), fun _ => ?_⟩
  rw [wp_if]
  refine ⟨fun q => absurd q (by decide), fun _ => ?_⟩
  rw [wp_if]
  refine ⟨fun q => absurd q (by decide), fun _ => ?_⟩
  rw [wp_if]
  refine ⟨fun q => absurd q (by decide), fun _ => ?_⟩
  rw [wp_if]
  refine ⟨fun q => absurd q (by decide), fun _ => ?_⟩
  rw [wp_if]
  refine ⟨fun q => absurd q (by decide), fun _ => ?_⟩
  rw [wp_if]
  refine ⟨fun q => absurd q (by decide), fun _ => ?_⟩
  rw [wp_if]
  refine ⟨fun _ => ?_, fun q => absurd (by decide) q⟩
  rw [wp_jn1, wp_if]
  refine ⟨fun hz => ?_, fun hz => ?_⟩
  · have hz' : y16 ≠ 0 := fun e => hz (by rw [lg_cmp_eq] at *; exact e)
    rw [if_pos hz] at hQ
    rw [wp_bnd, wp_dvL hz']
    exact hQ
  · rw [if_neg hz] at hQ
    exact hQ
theorem w_D12 (hQ : wp (wT l j x3 (nI 12) x4 (y15 &&& y16)) σ Q) : wp (wD l j x3 x4 (nI 12) (nI a) y15 y16) σ Q := by
  unfold wD
  rw [wp_let, wp_jn2]
  rw [wp_if]
  refine ⟨fun q => absurd q (by decide), fun _ => ?_⟩
  rw [wp_if]
  refine ⟨fun q => absurd q (by decide), fun _ => ?_⟩
  rw [wp_if]
  refine ⟨fun q => absurd q (by decide), fun _ => ?_⟩
  rw [wp_if]
  refine ⟨fun q => absurd q (by decide), fun _ => ?_⟩
  rw [wp_if]
  refine ⟨fun q => absurd q (by decide), fun _ => ?_⟩
  rw [wp_if]
  refine ⟨fun q => absurd q (by decide), fun _ => ?_⟩
  rw [wp_if]
  refine ⟨fun q => absurd q (by decide), fun _ => ?_⟩
  rw [wp_if]
  refine ⟨fun q => absurd q (by decide), fun _ => ?_⟩
  rw [wp_if]
  refine ⟨fun q => absurd q (by decide), fun _ => ?_⟩
  rw [wp_if]
  refine ⟨fun q => absurd q (by decide), fun _ => ?_⟩
  rw [wp_if]
  refine ⟨fun q => absurd q (by decide), fun _ => ?_⟩
  rw [wp_if]
  refine ⟨fun q => absurd q (by decide), fun _ => ?_⟩
  rw [wp_if]
  refine ⟨fun _ => ?_, fun q => absurd (by decide) q⟩
  rw [wp_let]
  exact hQ
theorem w_D13 (hQ : wp (wT l j x3 (nI 13) x4 (y15 ||| y16)) σ Q) : wp (wD l j x3 x4 (nI 13) (nI a) y15 y16) σ Q := by
  unfold wD
  rw [wp_let, wp_jn2]
  rw [wp_if]
  refine ⟨fun q => absurd q (by decide), fun _ => ?_⟩
  rw [wp_if]
  refine ⟨fun q => absurd q (by decide), fun _ => ?_⟩
  rw [wp_if]
  refine ⟨fun q => absurd q (by decide), fun _ => ?_⟩
  rw [wp_if]
  refine ⟨fun q => absurd q (by decide), fun _ => ?_⟩
  rw [wp_if]
  refine ⟨fun q => absurd q (by decide), fun _ => ?_⟩
  rw [wp_if]
  refine ⟨fun q => absurd q (by decide), fun _ => ?_⟩
  rw [wp_if]
  refine ⟨fun q => absurd q (by decide), fun _ => ?_⟩
  rw [wp_if]
  refine ⟨fun q => absurd q (by decide), fun _ => ?_⟩
  rw [wp_if]
  refine ⟨fun q => absurd q (by decide), fun _ => ?_⟩
  rw [wp_if]
  refine ⟨fun q => absurd q (by decide), fun _ => ?_⟩
  rw [wp_if]
  refine ⟨fun q => absurd q (by decide), fun _ => ?_⟩
  rw [wp_if]
  refine ⟨fun q => absurd q (by decide), fun _ => ?_⟩
  rw [wp_if]
  refine ⟨fun q => absurd q (by decide), fun _ => ?_⟩
  rw [wp_if]
  refine ⟨fun _ => ?_, fun q => absurd (by decide) q⟩
  rw [wp_let]
  exact hQ
theorem w_D9 (v w : Int32) (h15 : y15 = v.toInt64) (h16 : y16 = w.toInt64) (hQ : wp (wT l j x3 (nI 9) x4 (cmpC 0 v w).toInt64) σ Q) : wp (wD l j x3 x4 (nI 9) (nI a) y15 y16) σ Q := by
  subst h15
  subst h16
  have e1 : (0 ≤ lg_cmp v.toInt64 w.toInt64) ↔ w.toInt ≤ v.toInt := by rw [lg_cmp_ge, i64le, Int32.le_iff_toInt_le]
  have e2 : (lg_cmp v.toInt64 w.toInt64 ≤ 0) ↔ v.toInt ≤ w.toInt := by rw [lg_cmp_le, i64le, Int32.le_iff_toInt_le]
  unfold cmpC at hQ
  unfold wD
  rw [wp_let, wp_jn2]
  rw [wp_if]
  refine ⟨fun q => absurd q (by decide), fun _ => ?_⟩
  rw [wp_if]
  refine ⟨fun q => absurd q (by decide), fun _ => ?_⟩
  rw [wp_if]
  refine ⟨fun q => absurd q (by decide), fun _ => ?_⟩
  rw [wp_if]
  refine ⟨fun q => absurd q (by decide), fun _ => ?_⟩
  rw [wp_if]
  refine ⟨fun q => absurd q (by decide), fun _ => ?_⟩
  rw [wp_if]
  refine ⟨fun q => absurd q (by decide), fun _ => ?_⟩
  rw [wp_if]
  refine ⟨fun q => absurd q (by decide), fun _ => ?_⟩
  rw [wp_if]
  refine ⟨fun q => absurd q (by decide), fun _ => ?_⟩
  rw [wp_if]
  refine ⟨fun q => absurd q (by decide), fun _ => ?_⟩
  rw [wp_if]
  refine ⟨fun _ => ?_, fun q => absurd (by decide) q⟩
  rw [if_pos rfl] at hQ
  rw [wp_jn1, wp_if, e1]
  refine ⟨fun c1 => ?_, fun c1 => ?_⟩
  · rw [wp_if, e2]
    refine ⟨fun c2 => ?_, fun c2 => ?_⟩
    · rw [if_pos (show v = w by rw [← Int32.toInt_inj]; omega)] at hQ
      rw [wp_jn1, wp_if]
      exact ⟨fun q => absurd (by decide) q, fun _ => hQ⟩
    · rw [if_neg (show ¬ v = w by rw [← Int32.toInt_inj]; omega)] at hQ
      rw [wp_jn1, wp_if]
      exact ⟨fun _ => hQ, fun q => absurd (by decide) q⟩
  · rw [if_neg (show ¬ v = w by rw [← Int32.toInt_inj]; omega)] at hQ
    rw [wp_jn1, wp_if]
    exact ⟨fun _ => hQ, fun q => absurd (by decide) q⟩
theorem w_D10 (v w : Int32) (h15 : y15 = v.toInt64) (h16 : y16 = w.toInt64) (hQ : wp (wT l j x3 (nI 10) x4 (cmpC 1 v w).toInt64) σ Q) : wp (wD l j x3 x4 (nI 10) (nI a) y15 y16) σ Q := by
  subst h15
  subst h16
  have e1 : (0 ≤ lg_cmp v.toInt64 w.toInt64) ↔ w.toInt ≤ v.toInt := by rw [lg_cmp_ge, i64le, Int32.le_iff_toInt_le]
  have e2 : (lg_cmp v.toInt64 w.toInt64 ≤ 0) ↔ v.toInt ≤ w.toInt := by rw [lg_cmp_le, i64le, Int32.le_iff_toInt_le]
  unfold cmpC at hQ
  unfold wD
  rw [wp_let, wp_jn2]
  rw [wp_if]
  refine ⟨fun q => absurd q (by decide), fun _ => ?_⟩
  rw [wp_if]
  refine ⟨fun q => absurd q (by decide), fun _ => ?_⟩
  rw [wp_if]
  refine ⟨fun q => absurd q (by decide), fun _ => ?_⟩
  rw [wp_if]
  refine ⟨fun q => absurd q (by decide), fun _ => ?_⟩
  rw [wp_if]
  refine ⟨fun q => absurd q (by decide), fun _ => ?_⟩
  rw [wp_if]
  refine ⟨fun q => absurd q (by decide), fun _ => ?_⟩
  rw [wp_if]
  refine ⟨fun q => absurd q (by decide), fun _ => ?_⟩
  rw [wp_if]
  refine ⟨fun q => absurd q (by decide), fun _ => ?_⟩
  rw [wp_if]
  refine ⟨fun q => absurd q (by decide), fun _ => ?_⟩
  rw [wp_if]
  refine ⟨fun q => absurd q (by decide), fun _ => ?_⟩
  rw [wp_if]
  refine ⟨fun _ => ?_, fun q => absurd (by decide) q⟩
  rw [if_neg (by omega), if_pos rfl] at hQ
  rw [wp_jn1, wp_if, e1]
  refine ⟨fun c1 => ?_, fun c1 => ?_⟩
  · rw [wp_if, e2]
    refine ⟨fun c2 => ?_, fun c2 => ?_⟩
    · rw [if_neg (show ¬ v < w by rw [Int32.lt_iff_toInt_lt]; omega)] at hQ
      rw [wp_jn1, wp_if]
      exact ⟨fun _ => hQ, fun q => absurd (by decide) q⟩
    · rw [if_neg (show ¬ v < w by rw [Int32.lt_iff_toInt_lt]; omega)] at hQ
      rw [wp_jn1, wp_if]
      exact ⟨fun _ => hQ, fun q => absurd (by decide) q⟩
  · rw [if_pos (show v < w by rw [Int32.lt_iff_toInt_lt]; omega)] at hQ
    rw [wp_jn1, wp_if]
    exact ⟨fun q => absurd (by decide) q, fun _ => hQ⟩
theorem w_D11 (v w : Int32) (h15 : y15 = v.toInt64) (h16 : y16 = w.toInt64) (hQ : wp (wT l j x3 (nI 11) x4 (cmpC 2 v w).toInt64) σ Q) : wp (wD l j x3 x4 (nI 11) (nI a) y15 y16) σ Q := by
  subst h15
  subst h16
  have e1 : (0 ≤ lg_cmp v.toInt64 w.toInt64) ↔ w.toInt ≤ v.toInt := by rw [lg_cmp_ge, i64le, Int32.le_iff_toInt_le]
  have e2 : (lg_cmp v.toInt64 w.toInt64 ≤ 0) ↔ v.toInt ≤ w.toInt := by rw [lg_cmp_le, i64le, Int32.le_iff_toInt_le]
  unfold cmpC at hQ
  unfold wD
  rw [wp_let, wp_jn2]
  rw [wp_if]
  refine ⟨fun q => absurd q (by decide), fun _ => ?_⟩
  rw [wp_if]
  refine ⟨fun q => absurd q (by decide), fun _ => ?_⟩
  rw [wp_if]
  refine ⟨fun q => absurd q (by decide), fun _ => ?_⟩
  rw [wp_if]
  refine ⟨fun q => absurd q (by decide), fun _ => ?_⟩
  rw [wp_if]
  refine ⟨fun q => absurd q (by decide), fun _ => ?_⟩
  rw [wp_if]
  refine ⟨fun q => absurd q (by decide), fun _ => ?_⟩
  rw [wp_if]
  refine ⟨fun q => absurd q (by decide), fun _ => ?_⟩
  rw [wp_if]
  refine ⟨fun q => absurd q (by decide), fun _ => ?_⟩
  rw [wp_if]
  refine ⟨fun q => absurd q (by decide), fun _ => ?_⟩
  rw [wp_if]
  refine ⟨fun q => absurd q (by decide), fun _ => ?_⟩
  rw [wp_if]
  refine ⟨fun q => absurd q (by decide), fun _ => ?_⟩
  rw [wp_if]
  refine ⟨fun _ => ?_, fun q => absurd (by decide) q⟩
  rw [if_neg (by omega), if_neg (by omega)] at hQ
  rw [wp_jn1, wp_if, e1]
  refine ⟨fun c1 => ?_, fun c1 => ?_⟩
  · rw [wp_if, e2]
    refine ⟨fun c2 => ?_, fun c2 => ?_⟩
    · rw [if_neg (show ¬ w < v by rw [Int32.lt_iff_toInt_lt]; omega)] at hQ
      rw [wp_jn1, wp_if]
      exact ⟨fun _ => hQ, fun q => absurd (by decide) q⟩
    · rw [if_pos (show w < v by rw [Int32.lt_iff_toInt_lt]; omega)] at hQ
      rw [wp_jn1, wp_if]
      exact ⟨fun q => absurd (by decide) q, fun _ => hQ⟩
  · rw [if_neg (show ¬ w < v by rw [Int32.lt_iff_toInt_lt]; omega)] at hQ
    rw [wp_jn1, wp_if]
    exact ⟨fun _ => hQ, fun q => absurd (by decide) q⟩
end WMOVE
