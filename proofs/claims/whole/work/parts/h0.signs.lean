/-! TEXTS: blanks, constant texts -/
def skp (T : Nat → Nat) (N : Nat) : Nat → Nat → Nat
  | 0, p => p
  | k + 1, p => if p < N ∧ T p = 32 then skp T N k (p + 1) else p
/-- past the blanks -/
def bk (T : Nat → Nat) (N p : Nat) : Nat := skp T N (N - p) p
section BK
variable {T : Nat → Nat} {N p : Nat}
theorem bk_st : bk T N p = if p < N ∧ T p = 32 then bk T N (p + 1) else p := by
  unfold bk
  by_cases h : p < N
  · rw [show N - p = (N - (p + 1)) + 1 by omega]
    rfl
  · rw [if_neg (fun q => h q.1), show N - p = 0 by omega]
    rfl
theorem skp_ge : ∀ k p, p ≤ skp T N k p := by
  intro k
  induction k with
  | zero => intro p; exact Nat.le_refl _
  | succ k ih =>
    intro p
    unfold skp
    split
    · exact Nat.le_trans (Nat.le_succ p) (ih (p + 1))
    · exact Nat.le_refl _
theorem skp_le : ∀ k p, p ≤ N → skp T N k p ≤ N := by
  intro k
  induction k with
  | zero => intro p h; exact h
  | succ k ih =>
    intro p h
    unfold skp
    split
    · exact ih (p + 1) (by omega)
    · exact h
theorem skp_nb : ∀ k p, N - p ≤ k → ¬ (skp T N k p < N ∧ T (skp T N k p) = 32) := by
  intro k
  induction k with
  | zero =>
    intro p h
    unfold skp
    omega
  | succ k ih =>
    intro p h
    unfold skp
    split
    · exact ih (p + 1) (by omega)
    · assumption
theorem bk_ge : p ≤ bk T N p := skp_ge _ _
theorem bk_le (h : p ≤ N) : bk T N p ≤ N := skp_le _ _ h
theorem bk_nb : ¬ (bk T N p < N ∧ T (bk T N p) = 32) := skp_nb _ _ (Nat.le_refl _)
theorem bk_of (h : ¬ (p < N ∧ T p = 32)) : bk T N p = p := by rw [bk_st, if_neg h]
theorem bk_bk : bk T N (bk T N p) = bk T N p := bk_of bk_nb
theorem bk_sp (h : p < N) (h2 : T p = 32) : bk T N p = bk T N (p + 1) := by rw [bk_st, if_pos ⟨h, h2⟩]
end BK
/-- the sign there, 0 past the end -/
def sgn (T : Nat → Nat) (N p : Nat) : Nat := if p < N then T p else 0
theorem upI_two {σ : sa_St} {a k : Nat} {x y : Int32} : sa_upI (sa_upI σ a k x) a k y = sa_upI σ a k y := by
  show (va_up (va_up σ.1 a (va_up (σ.1 a) k x)) a (va_up (va_up σ.1 a (va_up (σ.1 a) k x) a) k y), σ.2) = _
  rw [va_up_two, va_up_self, va_up_two]
  rfl
theorem upI_id {σ : sa_St} {a k : Nat} {x : Int32} (h : σ.1 a k = x) : sa_upI σ a k x = σ := by
  unfold sa_upI
  rw [va_up_id h, va_up_id rfl]
/-! constant texts -/
def ixS (j c : Nat) : Option Nat := (List.range (sa_slen.getD j 0)).find? (fun i => decide ((sa_byt.getD j []).getD i 0 = nI c))
section KT
variable {α : Type} {σ : sa_St} {j : Nat}
theorem wp_gdS {f : sa_M α} {Q : α → sa_St → Prop} (hj : j < 10) : wp (sa_gdS (1000 + j) f) σ Q ↔ wp f σ Q := by
  have e : sa_gdS (1000 + j) f σ = f σ := if_pos ⟨by omega, by omega⟩
  unfold wp
  rw [e]
theorem wp_kcod {Q : Int32 → sa_St → Prop} (hj : j < 10) : wp (sa_kcod (1000 + j)) σ Q ↔ Q 0 σ := wp_of_eq (by unfold sa_kcod; rw [if_pos ⟨by omega, by omega⟩])
theorem wp_kval {Q : Nat → sa_St → Prop} (hj : j < 10) : wp (sa_kval (1000 + j)) σ Q ↔ Q (3000 + j) σ := wp_of_eq (by unfold sa_kval; rw [if_pos ⟨by omega, by omega⟩, show 1000 + j - 1000 = j by omega])
theorem wp_klen {Q : Int32 → sa_St → Prop} (hj : j < 10) : wp (sa_klen (3000 + j)) σ Q ↔ Q (nI (sa_slen.getD j 0)) σ := wp_of_eq (by unfold sa_klen; rw [if_pos ⟨by omega, by omega⟩, show 3000 + j - 3000 = j by omega])
theorem slen_le : ∀ j, j < 10 → sa_slen.getD j 0 ≤ 20 := by decide
theorem wp_kld {i : Nat} {Q : Int32 → sa_St → Prop} (hj : j < 10) (hi : i < sa_slen.getD j 0) : wp (sa_kld (3000 + j) (nI i)) σ Q ↔ Q ((sa_byt.getD j []).getD i 0) σ := wp_of_eq (by
  have := slen_le j hj
  have hn : ¬ (nI i < 0 ∨ sa_slen.getD j 0 ≤ i) := fun h => h.elim (fun h => nI_pos (by omega) h) (fun h => by omega)
  unfold sa_kld
  rw [show 3000 + j - 3000 = j by omega, nI_clamp (by omega), if_pos ⟨⟨by omega, by omega⟩, hn⟩])
theorem wp_retC {v : Int32} {Q : Int32 → sa_St → Prop} (h : vp_nar .char v = v) : wp (sa_retC v) σ Q ↔ Q v σ := wp_of_eq (by unfold sa_retC; rw [if_pos h])
theorem e_lat (hj : j < 10) : f_J0_isLatin1_aae02 (1000 + j) σ = some (1, σ) := by
  refine run_of ?_
  unfold f_J0_isLatin1_aae02
  rw [wp_gdS hj, wp_jn1, wp_jn0, wp_if]
  refine ⟨fun q => absurd q (by decide), fun _ => ?_⟩
  rw [wp_bnd, wp_kcod hj, wp_if]
  refine ⟨fun q => absurd rfl q, fun _ => ?_⟩
  rw [wp_retZ]
  exact ⟨Or.inr rfl, rfl, rfl⟩
theorem e_kl (hj : j < 10) : f_J0_length_8abf5 (1000 + j) σ = some (nI (sa_slen.getD j 0), σ) := by
  have e0 : f_J0_coder_7d493 (1000 + j) σ = some (0, σ) := by
    refine run_of ?_
    unfold f_J0_coder_7d493
    rw [wp_gdS hj, wp_jn1, wp_if]
    refine ⟨fun q => absurd q (by decide), fun _ => ?_⟩
    rw [wp_bnd, wp_kcod hj, wp_of_eq (show sa_retB 0 σ = some (0, σ) from rfl)]
    exact ⟨rfl, rfl⟩
  have e1 : ∀ j, j < 10 → (nI (sa_slen.getD j 0)) >>> ((0 : Int32) &&& 31) = nI (sa_slen.getD j 0) := by decide
  refine run_of ?_
  unfold f_J0_length_8abf5
  rw [wp_gdS hj, wp_bnd, wp_kval hj, wp_bnd, wp_klen hj, wp_bnd, wp_of_eq e0, wp_ret, e1 j hj]
  exact ⟨rfl, rfl⟩
theorem byt_lo : ∀ j, j < 10 → ∀ i, i < sa_slen.getD j 0 → 0 < (sa_byt.getD j []).getD i 0 ∧ (sa_byt.getD j []).getD i 0 < 128 := by decide
theorem i8_lo : ∀ c, c < 128 → (nI c).toInt8.toInt32 = nI c := by decide
theorem i8_hi : ∀ c, c < 128 → (nI (128 + c)).toInt8.toInt32 < 0 := by decide
theorem e_ix {c : Nat} (hj : j < 10) (hc : c < 256) : f_J0_indexOf_0f7a4 (1000 + j) (nI c) σ = some (oI (ixS j c), σ) := by
  have h20 := slen_le j hj
  have h0 : ∀ j, j < 10 → 0 < sa_slen.getD j 0 := by decide
  have hl := h0 j hj
  have key : ∀ i, i < sa_slen.getD j 0 → ((sa_byt.getD j []).getD i 0 = (nI c).toInt8.toInt32 ↔ (sa_byt.getD j []).getD i 0 = nI c) := by
    intro i hi
    obtain ⟨b0, b1⟩ := byt_lo j hj i hi
    by_cases h : c < 128
    · rw [i8_lo c h]
    · obtain ⟨d, rfl⟩ : ∃ d, c = 128 + d := ⟨c - 128, by omega⟩
      have := i8_hi d (by omega)
      generalize (sa_byt.getD j []).getD i 0 = b at *
      constructor
      · intro e
        rw [e] at b0
        rw [Int32.lt_iff_toInt_lt] at b0 this
        omega
      · intro e
        rw [e] at b1
        have b2 : nI (128 + d) < nI 128 := b1
        rw [nI_ltI (by omega) (by omega)] at b2
        omega
  have inner : f_J1_indexOfChar_4cfef (3000 + j) (nI c) 0 (nI (sa_slen.getD j 0)) σ = some (oI (ixS j c), σ) := by
    refine run_of ?_
    unfold f_J1_indexOfChar_4cfef
    rw [wp_let]
    refine wp_for1 (sa_slen.getD j 0) 0 (fun i τ => τ = σ ∧ ∀ y, y < i → ¬ (sa_byt.getD j []).getD y 0 = nI c) ?_ ?_ ⟨rfl, fun y hy => by omega⟩ (Nat.zero_le _) (by unfold sa_F; omega)
    · rintro i τ hi ⟨rfl, hn⟩ k hk
      rw [wp_if]
      refine ⟨fun q => absurd q (nI_ge hi (by omega)), fun _ => ?_⟩
      rw [wp_bnd, wp_kld hj hi, wp_if]
      refine ⟨fun q => ?_, fun q => ?_⟩
      · rw [wp_let, nI_1]
        refine hk _ ⟨rfl, fun y hy => ?_⟩
        by_cases e : y = i
        · subst e; exact fun h => q ((key y hi).mpr h)
        · exact hn y (by omega)
      · have q' := (key i hi).mp (Decidable.not_not.mp q)
        rw [wp_ret]
        refine ⟨?_, rfl⟩
        unfold ixS
        rcases find_range (p := fun i => decide ((sa_byt.getD j []).getD i 0 = nI c)) (sa_slen.getD j 0) with ⟨-, h2⟩ | ⟨k2, h1, h2, h3, h4⟩
        · exact absurd q' (of_decide_eq_false (h2 i hi))
        · rw [h2]
          have : k2 = i := by
            rcases Nat.lt_trichotomy k2 i with h | h | h
            · exact absurd (of_decide_eq_true h3) (hn k2 h)
            · exact h
            · exact absurd q' (of_decide_eq_false (h4 i h))
          rw [this]
          rfl
    · rintro τ ⟨rfl, hn⟩ k
      rw [wp_if]
      refine ⟨fun _ => ?_, fun q => absurd (nI_le (Nat.le_refl _) (by omega)) q⟩
      rw [wp_ret]
      refine ⟨?_, rfl⟩
      unfold ixS
      rcases find_range (p := fun i => decide ((sa_byt.getD j []).getD i 0 = nI c)) (sa_slen.getD j 0) with ⟨h1, -⟩ | ⟨k2, h1, -, h3, -⟩
      · rw [h1]; rfl
      · exact absurd (of_decide_eq_true h3) (hn k2 h1)
  have emx : sa_max 0 0 = 0 := rfl
  have emn : sa_min (nI (sa_slen.getD j 0)) (nI (sa_slen.getD j 0)) = nI (sa_slen.getD j 0) := by rw [sa_minN (by omega) (by omega), Nat.min_self]
  refine run_of ?_
  unfold f_J0_indexOf_0f7a4
  rw [wp_gdS hj, wp_bnd]
  unfold f_J0_indexOf_7cf53
  rw [wp_gdS hj, wp_bnd, wp_of_eq (e_lat hj), wp_jn1, wp_if]
  refine ⟨fun q => absurd q (by decide), fun _ => ?_⟩
  rw [wp_bnd, wp_kval hj, wp_bnd, wp_of_eq (e_kl hj), wp_bnd]
  unfold f_J1_indexOf_4cfef
  rw [wp_bnd]
  unfold f_J1_canEncode_9a6ad
  rw [wp_jn1, wp_jn0, wp_if]
  refine ⟨fun q => absurd q (nI_pos (by omega)), fun _ => ?_⟩
  rw [wp_if]
  refine ⟨fun q => absurd q (nI_nlt (a := 255) (b := c) (by omega) (by omega)), fun _ => ?_⟩
  rw [wp_retZ]
  refine ⟨Or.inr rfl, ?_⟩
  rw [wp_if]
  refine ⟨fun _ => ?_, fun q => absurd (by decide) q⟩
  rw [emx, wp_let, wp_bnd, wp_klen hj, wp_let, emn, wp_if]
  refine ⟨fun _ => ?_, fun q => ?_⟩
  · rw [wp_bnd, wp_of_eq inner, wp_ret, wp_ret, wp_ret]
    exact ⟨rfl, rfl⟩
  · exact absurd ((nI_ltI (a := 0) (by omega) (by omega)).mpr hl) q
theorem ch_lo : ∀ j, j < 10 → ∀ i, i < sa_slen.getD j 0 → (((sa_byt.getD j []).getD i 0 &&& 255).toUInt32 % 65536).toInt32 = (sa_byt.getD j []).getD i 0 ∧ vp_nar .char ((sa_byt.getD j []).getD i 0) = (sa_byt.getD j []).getD i 0 := by decide
theorem e_chr {i : Nat} (hj : j < 10) (hi : i < sa_slen.getD j 0) : f_J0_charAt_5068e (1000 + j) (nI i) σ = some ((sa_byt.getD j []).getD i 0, σ) := by
  have h20 := slen_le j hj
  obtain ⟨c1, c2⟩ := ch_lo j hj i hi
  refine run_of ?_
  unfold f_J0_charAt_5068e
  rw [wp_gdS hj, wp_bnd, wp_of_eq (e_lat hj), wp_if]
  refine ⟨fun q => absurd q (by decide), fun _ => ?_⟩
  rw [wp_bnd, wp_kval hj, wp_bnd]
  unfold f_J1_charAt_3b067
  rw [wp_bnd, wp_klen hj, wp_bnd]
  unfold f_J0_checkIndex_df160
  rw [wp_bnd]
  unfold f_J3_checkIndex_8e157
  rw [wp_if]
  refine ⟨fun q => absurd q (nI_pos (by omega)), fun _ => ?_⟩
  rw [wp_if]
  refine ⟨fun _ => ?_, fun q => absurd ((nI_ltI (by omega) (by omega)).mpr hi) q⟩
  rw [wp_ret, wp_ret, wp_bnd, wp_kld hj hi, c1, wp_retC c2, wp_retC c2]
  exact ⟨rfl, rfl⟩
theorem e_am {x : Int32} (hj : j < 10) : f_X12_isAmong (1000 + j) x σ = some (nI (if ((List.range (sa_slen.getD j 0)).any (fun i => decide ((sa_byt.getD j []).getD i 0 = x))) then 1 else 0), σ) := by
  have h20 := slen_le j hj
  refine run_of ?_
  unfold f_X12_isAmong
  rw [wp_let]
  refine wp_for1 (sa_slen.getD j 0) 0 (fun i τ => τ = σ ∧ ∀ y, y < i → ¬ (sa_byt.getD j []).getD y 0 = x) ?_ ?_ ⟨rfl, fun y hy => by omega⟩ (Nat.zero_le _) (by unfold sa_F; omega)
  · rintro i τ hi ⟨rfl, hn⟩ k hk
    rw [wp_bnd, wp_of_eq (e_kl hj), wp_if]
    refine ⟨fun q => absurd q (nI_ge hi (by omega)), fun _ => ?_⟩
    rw [wp_bnd, wp_of_eq (e_chr hj hi), wp_if]
    refine ⟨fun q => ?_, fun q => ?_⟩
    · rw [wp_let, nI_1]
      refine hk _ ⟨rfl, fun y hy => ?_⟩
      by_cases e : y = i
      · subst e; exact q
      · exact hn y (by omega)
    · have : (List.range (sa_slen.getD j 0)).any (fun i => decide ((sa_byt.getD j []).getD i 0 = x)) = true := List.any_eq_true.mpr ⟨i, List.mem_range.mpr hi, decide_eq_true (Decidable.not_not.mp q)⟩
      rw [wp_retZ, this]
      exact ⟨Or.inr rfl, rfl, rfl⟩
  · rintro τ ⟨rfl, hn⟩ k
    have : (List.range (sa_slen.getD j 0)).any (fun i => decide ((sa_byt.getD j []).getD i 0 = x)) = false := List.any_eq_false.mpr (fun y hy h => hn y (List.mem_range.mp hy) (of_decide_eq_true h))
    rw [wp_bnd, wp_of_eq (e_kl hj), wp_if]
    refine ⟨fun _ => ?_, fun q => absurd (nI_le (Nat.le_refl _) (by omega)) q⟩
    rw [wp_retZ, this]
    exact ⟨Or.inl rfl, rfl, rfl⟩
end KT
