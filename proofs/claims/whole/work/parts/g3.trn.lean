/-! STREAKS: how many sets fit, and which, by the class; arguments from -1 on -/
theorem i32_c (x : Int32) : x < -1 ∨ x = -1 ∨ ∃ i : Nat, i < 2 ^ 31 ∧ x = nI i := by
  have hm : (-1 : Int32).toInt = -1 := by decide
  have h1 := Int32.toInt_lt x
  by_cases h0 : 0 ≤ x.toInt
  · refine Or.inr (Or.inr ⟨x.toInt.toNat, by omega, ?_⟩)
    rw [← Int32.toInt_inj, nI_toInt (by omega)]
    omega
  · by_cases h2 : x.toInt = -1
    · refine Or.inr (Or.inl ?_)
      rw [← Int32.toInt_inj, hm]
      exact h2
    · refine Or.inl ?_
      rw [Int32.lt_iff_toInt_lt, hm]
      omega
theorem nlt_m1 {i : Nat} (h : i < 2 ^ 31) : ¬ nI i < (-1 : Int32) := by
  have hm : (-1 : Int32).toInt = -1 := by decide
  rw [Int32.lt_iff_toInt_lt, hm, nI_toInt h]
  omega
theorem nI_dec (y : Nat) (h : y + 1 < 2 ^ 31) : nI (y + 1) + (-1) = nI y := by
  have e : nI (y + 1) + (-1) = nI (y + 1) - 1 := by rw [Int32.sub_eq_add_neg]
  rw [e]
  exact nI_pred y
section TRN
variable {σ : sa_St} {N : Nat} {ok : Nat → Bool}
theorem c_manyS (hk : SK σ.2.1) (hN : N ≤ 4096) (h5 : σ.1 151 5 = nI N) (hok : ∀ S, S < N → (ok S = true ↔ ¬ σ.1 154 S < 0)) : f_X8_setsThatFit 151 σ = some (nI (fitL ok N).length, σ) := by
  refine run_of ?_
  unfold f_X8_setsThatFit
  rw [wp_gd]
  refine ⟨rfl, ?_⟩
  rw [wp_let, wp_let]
  refine wp_for2 N 0 (fun i a τ => τ = σ ∧ a = nI (fitL ok i).length) ?_ ?_ ⟨rfl, rfl⟩ (Nat.zero_le _) (by unfold sa_F; omega)
  · rintro i a τ hi ⟨rfl, rfl⟩ j hj
    rw [wp_bnd, wp_rdI, h5]
    refine ⟨rfl, ?_⟩
    rw [wp_if]
    refine ⟨fun q => absurd q (nI_ge hi (by omega)), fun _ => ?_⟩
    rw [wp_bnd, wp_rdR (v := 154) rfl (sk_151_3 hk), wp_bnd, wp_ldI (n := i) (len := 4096) al_154 rfl (by omega) (by omega), wp_jn1, wp_if]
    have hst := fitL_succ ok i
    refine ⟨fun q => ?_, fun q => ?_⟩
    · have h0 : ¬ ok i = true := fun h => (hok i hi).mp h q
      rw [if_neg h0] at hst
      rw [wp_let, nI_1]
      exact hj _ _ ⟨rfl, by rw [hst]⟩
    · have h0 : ok i = true := (hok i hi).mpr q
      rw [if_pos h0] at hst
      rw [wp_let, wp_let, nI_1, nI_1]
      exact hj _ _ ⟨rfl, by rw [hst, List.length_append]; rfl⟩
  · rintro a τ ⟨rfl, rfl⟩ j
    rw [wp_bnd, wp_rdI, h5]
    refine ⟨rfl, ?_⟩
    rw [wp_if]
    refine ⟨fun _ => ?_, fun q => absurd (nI_le (Nat.le_refl _) (by omega)) q⟩
    rw [wp_ret]
    exact ⟨rfl, rfl⟩
theorem fitL_hit {i x : Nat} (hl : (fitL ok x).length = i) (hx : x < N) (ho : ok x = true) : (fitL ok N)[i]? = some x := by
  have h1 : (fitL ok (x + 1))[i]? = some x := by
    rw [fitL_succ, if_pos ho, ← hl, List.getElem?_append_right (Nat.le_refl _), Nat.sub_self]
    rfl
  have h2 := fitL_pre ok h1 (N - (x + 1))
  rw [show x + 1 + (N - (x + 1)) = N by omega] at h2
  exact h2
theorem c_whichS {i : Nat} (hi31 : i < 2 ^ 31) (hk : SK σ.2.1) (hN : N ≤ 4096) (h5 : σ.1 151 5 = nI N) (hok : ∀ S, S < N → (ok S = true ↔ ¬ σ.1 154 S < 0)) : f_X8_setThatFits 151 (nI i) σ = some (oI ((fitL ok N)[i]?), σ) := by
  refine run_of ?_
  unfold f_X8_setThatFits
  rw [wp_gd]
  refine ⟨rfl, ?_⟩
  rw [wp_let]
  refine wp_for2 N 0 (fun x a τ => τ = σ ∧ (fitL ok x).length ≤ i ∧ a = nI (i - (fitL ok x).length)) ?_ ?_ ⟨rfl, Nat.zero_le _, rfl⟩ (Nat.zero_le _) (by unfold sa_F; omega)
  · rintro x a τ hx ⟨rfl, hle, rfl⟩ j hj
    rw [wp_bnd, wp_rdI, h5]
    refine ⟨rfl, ?_⟩
    rw [wp_if]
    refine ⟨fun q => absurd q (nI_ge hx (by omega)), fun _ => ?_⟩
    rw [wp_bnd, wp_rdR (v := 154) rfl (sk_151_3 hk), wp_bnd, wp_ldI (n := x) (len := 4096) al_154 rfl (by omega) (by omega), wp_jn1, wp_if]
    have hst := fitL_succ ok x
    refine ⟨fun q => ?_, fun q => ?_⟩
    · have h0 : ¬ ok x = true := fun h => (hok x hx).mp h q
      rw [if_neg h0] at hst
      rw [wp_let, nI_1]
      exact hj _ _ ⟨rfl, by rw [hst]; exact hle, by rw [hst]⟩
    · have h0 : ok x = true := (hok x hx).mpr q
      rw [if_pos h0] at hst
      have hlen : (fitL ok (x + 1)).length = (fitL ok x).length + 1 := by rw [hst, List.length_append]; rfl
      rw [wp_if, L0, nI_eq (by omega) (by omega)]
      refine ⟨fun h => ?_, fun h => ?_⟩
      · obtain ⟨y, hy⟩ : ∃ y, i - (fitL ok x).length = y + 1 := ⟨i - (fitL ok x).length - 1, by omega⟩
        rw [hy, wp_let, nI_dec y (by omega), wp_let, nI_1]
        exact hj _ _ ⟨rfl, by omega, by rw [hlen, show i - ((fitL ok x).length + 1) = y by omega]⟩
      · rw [wp_ret]
        refine ⟨?_, rfl⟩
        rw [fitL_hit (by omega) hx h0]
        rfl
  · rintro a τ ⟨rfl, hle, rfl⟩ j
    rw [wp_bnd, wp_rdI, h5]
    refine ⟨rfl, ?_⟩
    rw [wp_if]
    refine ⟨fun _ => ?_, fun q => absurd (nI_le (Nat.le_refl _) (by omega)) q⟩
    rw [wp_ret, List.getElem?_eq_none hle]
    exact ⟨rfl, rfl⟩
end TRN
