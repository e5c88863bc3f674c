/-! A CAMP: the object id, its cells K -/
def CA (ρ : Nat → Nat → Nat) (id K : Nat) : Prop := sa_sh id = some (.inl 0) ∧ ρ id 0 = K + 1 ∧ sa_sh K = some (.inr (.int, 259))
theorem CA.al {ρ : Nat → Nat → Nat} {id K : Nat} (h : CA ρ id K) : sa_al .int K = 259 := by
  unfold sa_al
  rw [h.2.2]
  rfl
theorem CA.ne {ρ : Nat → Nat → Nat} {id K : Nat} (h : CA ρ id K) : K ≠ id := by
  intro e
  have h1 := h.1
  rw [← e, h.2.2] at h1
  cases h1
theorem kx (i j : Nat) : (23 : Int32) + nI i * 7 + nI j = nI (23 + 7 * i + j) := by
  show nI 23 + nI i * nI 7 + nI j = _
  rw [pk_mul, nI_add, nI_add, Nat.mul_comm]
section CAMP
variable {σ : sa_St} {id K : Nat}
theorem w_of {i j : Nat} {Q : Int32 → sa_St → Prop} (h : CA σ.2.1 id K) (hi : i < 8) (hj : j < 7) (hq : Q (σ.1 K (23 + 7 * i + j)) σ) : wp (f_X0_of id (nI i) (nI j)) σ Q := by
  unfold f_X0_of
  rw [wp_gd, wp_bnd, wp_rdR h.1 h.2.1, wp_bnd, wp_ldI h.al (kx i j) (by omega) (by decide), wp_ret]
  exact ⟨h.1, hq⟩
theorem w_set {i j : Nat} {v : Int32} {Q : Unit → sa_St → Prop} (h : CA σ.2.1 id K) (hi : i < 8) (hj : j < 7) (hq : Q () (sa_upI σ K (23 + 7 * i + j) v)) : wp (f_X0_set id (nI i) (nI j) v) σ Q := by
  unfold f_X0_set
  rw [wp_gd, wp_bnd, wp_rdR h.1 h.2.1, wp_bnd, wp_stI h.al (kx i j) (by omega) (by decide), wp_ret]
  exact ⟨h.1, hq⟩
theorem w_ldK {n : Nat} {j : Int32} {Q : Int32 → sa_St → Prop} (h : CA σ.2.1 id K) (hj : j = nI n) (hn : n < 259) (hq : Q (σ.1 K n) σ) : wp (sa_ldI .int K j) σ Q := (wp_ldI h.al hj hn (by decide)).mpr hq
theorem w_stK {n : Nat} {j v : Int32} {Q : Unit → sa_St → Prop} (h : CA σ.2.1 id K) (hj : j = nI n) (hn : n < 259) (hq : Q () (sa_upI σ K n v)) : wp (sa_stI K j v) σ Q := (wp_stI h.al hj hn (by decide)).mpr hq
theorem w_rc {Q : Nat → sa_St → Prop} (h : CA σ.2.1 id K) (hq : Q K σ) : wp (sa_rdR 0 id 0) σ Q := (wp_rdR h.1 h.2.1).mpr hq
theorem w_has {c : Int32} {Q : Int32 → sa_St → Prop} (h : CA σ.2.1 id K) (h0 : (c < 0 ∨ σ.1 K 22 ≤ c) → Q 0 σ) (h1 : ¬ c < 0 → ¬ σ.1 K 22 ≤ c → Q 1 σ) : wp (f_X0_hasCompany id c) σ Q := by
  unfold f_X0_hasCompany
  rw [wp_gd, wp_jn1, wp_jn0, wp_if, wp_retZ]
  refine ⟨h.1, fun hc => ⟨Or.inl rfl, h0 (Or.inl hc)⟩, fun hc => ?_⟩
  rw [wp_bnd]
  refine w_rc h ?_
  rw [wp_bnd]
  refine w_ldK h (n := 22) rfl (by decide) ?_
  rw [wp_if, wp_retZ, wp_retZ]
  exact ⟨fun hm => ⟨Or.inl rfl, h0 (Or.inr hm)⟩, fun hm => ⟨Or.inr rfl, h1 hc hm⟩⟩
/-- one of m companies -/
theorem w_hasN {i m : Nat} {Q : Int32 → sa_St → Prop} (h : CA σ.2.1 id K) (hm : σ.1 K 22 = nI m) (hm8 : m ≤ 8) (hi : i < m) (hq : Q 1 σ) : wp (f_X0_hasCompany id (nI i)) σ Q := by
  refine w_has h (fun h9 => ?_) (fun _ _ => hq)
  rw [hm] at h9
  rcases h9 with h9 | h9
  · exact absurd h9 (nI_pos (by omega))
  · exact absurd h9 (nI_ge hi (by omega))
theorem w_lives {i m : Nat} {Q : Int32 → sa_St → Prop} (h : CA σ.2.1 id K) (hm : σ.1 K 22 = nI m) (hm8 : m ≤ 8) (hi : i < m) (h0 : σ.1 K (23 + 7 * i + 2) ≤ 0 → Q 0 σ) (h1 : ¬ σ.1 K (23 + 7 * i + 2) ≤ 0 → Q 1 σ) : wp (f_X0_lives id (nI i)) σ Q := by
  unfold f_X0_lives
  rw [wp_gd, wp_bnd]
  refine ⟨h.1, w_hasN h hm hm8 hi ?_⟩
  rw [wp_jn1, wp_jn0, wp_if, wp_retZ, wp_bnd]
  refine ⟨fun h9 => absurd h9 (by decide), fun _ => w_of (j := 2) h (by omega) (by decide) ?_⟩
  rw [wp_if, wp_retZ, wp_retZ]
  exact ⟨fun h9 => ⟨Or.inl rfl, h0 h9⟩, fun h9 => ⟨Or.inr rfl, h1 h9⟩⟩
/-- of any number: whether a company of it lives -/
theorem w_livesX {c : Int32} {m : Nat} {Q : Int32 → sa_St → Prop} (h : CA σ.2.1 id K) (hm : σ.1 K 22 = nI m) (hm8 : m ≤ 8) (h0 : (¬ ∃ i, i < m ∧ c = nI i ∧ ¬ σ.1 K (23 + 7 * i + 2) ≤ 0) → Q 0 σ) (h1 : ∀ i, i < m → c = nI i → ¬ σ.1 K (23 + 7 * i + 2) ≤ 0 → Q 1 σ) : wp (f_X0_lives id c) σ Q := by
  by_cases hx : ∃ i, i < m ∧ c = nI i
  · obtain ⟨i, hi, rfl⟩ := hx
    refine w_lives h hm hm8 hi (fun g => h0 ?_) (fun g => h1 i hi rfl g)
    rintro ⟨j, hj, e, hg⟩
    rw [nI_eq (by omega) (by omega)] at e
    subst e
    exact hg g
  · have hq := h0 (fun ⟨i, hi, e, _⟩ => hx ⟨i, hi, e⟩)
    unfold f_X0_lives
    rw [wp_gd, wp_bnd]
    refine ⟨h.1, w_has h (fun _ => ?_) (fun g1 g2 => ?_)⟩
    · rw [wp_jn1, wp_jn0, wp_if, wp_retZ]
      exact ⟨fun _ => ⟨Or.inl rfl, hq⟩, fun h9 => absurd rfl h9⟩
    · rw [hm] at g2
      rcases pk_ix c (n := m) (by omega) with g | g | g
      · exact absurd g g1
      · exact absurd g g2
      · exact absurd g hx
end CAMP
