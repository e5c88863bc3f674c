/-! TEXTS: text, of a land, by the reference -/
def DD0 (j k : Nat) : Prop := ARd j k ∨ (j = 159 ∧ (k = 6 ∨ k = 25 ∨ k = 26 ∨ k = 27 ∨ k = 43 ∨ k = 48 ∨ k = 69 ∨ k = 73)) ∨ j = 164 ∨ j = 166 ∨ j = 169 ∨ j = 173
/-- a land settled, as the reference holds it -/
def RSe (l : LDr) (τ : sa_St) : Prop := τ.1 159 6 = 0 ∧ (τ.1 159 25 = nI (l 0).length ∧ τ.1 159 26 = nI (l 1).length ∧ τ.1 159 27 = nI (l 3).length) ∧ (∀ x, x < (l 0).length → ∀ i, i < 4 → τ.1 164 (4 * x + i) = (l 0).getD x (fun _ => 0) i) ∧ (∀ x, x < (l 1).length → ∀ i, i < 4 → τ.1 166 (4 * x + i) = (l 1).getD x (fun _ => 0) i) ∧ (∀ x, x < (l 3).length → ∀ i, i < 2 → τ.1 169 (2 * x + i) = (l 3).getD x (fun _ => 0) i) ∧ (τ.1 159 43 = 0 ∧ τ.1 159 48 = 0 ∧ τ.1 159 69 = 0 ∧ τ.1 159 73 = 0) ∧ ∃ k wl : Nat → Int32, τ.1 173 = toW k wl ∧ wl 79 = 0 ∧ STl (l 2).length (l 3).length (dnC (l 2).length 0) (rC l) (bF l) k
theorem ld_le {T : Nat → Nat} {N : Nat} : ∀ (f p : Nat) (l : LDr), p ≤ N → (ldL T N f p l).1 ≤ N := by
  intro f
  induction f with
  | zero => intro p l hp; exact hp
  | succ f ih =>
    intro p l hp
    have hst := ldL_st (T := T) (N := N) (p := p) (f := f) (l := l)
    obtain ⟨a1, a2, a3⟩ := lc_adv (T := T) (l := l) hp
    generalize lcP T N p l = r0 at *
    obtain ⟨q, m⟩ := r0
    have a4 : q ≤ N := a1
    cases m with
    | none => rw [hst.1 rfl]; exact a4
    | some x =>
      rw [hst.2 x rfl]
      unfold ldK
      dsimp only
      split
      · split
        · exact ih _ _ (bk_le (by omega))
        · exact a4
      · split
        · exact a4
        · exact a4
section MTXT0
variable {T : Nat → Nat} {N : Nat} {σ : sa_St}
theorem m_txt0 (h : RBy T N σ) : wp (f_X12_text 159 (nI 0)) σ (fun r τ => ((ldP T N).2 = none → r = -1 ∧ ZFr ARd σ τ) ∧ ∀ l, (ldP T N).2 = some l → r = nI (l 2).length ∧ ZFr DD0 σ τ ∧ RSe l τ) := by
  have hN := h.2.1
  have hle : (ldP T N).1 ≤ N := ld_le _ _ _ (bk_le (by omega))
  have hok : ∀ l, (ldP T N).2 = some l → LOk l := fun l e => (ld_ok (N + 1) (bk T N 0) (fun _ => []) l (bk_le (by omega)) LOk.nil e).1
  have z0 : ZFr ARd σ (sa_upI σ 159 0 0) := ZFr.up (by unfold ARd; omega)
  have hR := h.z z0 (by unfold ARd; omega) (fun k => by unfold ARd; omega)
  unfold f_X12_text
  rw [wp_gd]
  refine ⟨rfl, ?_⟩
  rw [wp_bnd, wp_wrI]
  refine ⟨rfl, ?_⟩
  generalize sa_upI σ 159 0 0 = σ1 at *
  rw [wp_bnd, w_isIn]
  refine ⟨fun _ => ?_, fun q => absurd (by decide) q⟩
  rw [wp_jn0, wp_if]
  refine ⟨fun q => absurd q (show ¬ nI 1 = 0 by decide), fun _ => ?_⟩
  rw [wp_jn0, wp_if]
  refine ⟨fun _ => ?_, fun q => absurd (show ¬ nI 0 = 1 by decide) q⟩
  rw [wp_jn0, wp_if]
  refine ⟨fun _ => ?_, fun q => absurd (show ¬ nI 0 = 2 by decide) q⟩
  rw [wp_bnd]
  refine wp_mono (m_flt0 hR) (fun r τ hr => ?_)
  obtain ⟨z1, hr⟩ := hr
  have z2 := z0.trans z1
  have hRt := hR.z z1 (by unfold ARd; omega) (fun k => by unfold ARd; omega)
  generalize ldP T N = r0 at *
  obtain ⟨q, mm⟩ := r0
  rw [wp_if]
  cases mm with
  | none =>
    have hr' : r = nI q := hr
    have hne : ¬ r = -1 := fun e => by
      rw [hr'] at e
      have e' : nI q = mI := e
      rw [eq_mI (by dsimp only at hle; omega)] at e'
      exact e'
    refine ⟨fun q => absurd q hne, fun _ => ?_⟩
    rw [wp_ret]
    exact ⟨fun _ => ⟨rfl, z2⟩, fun cs e => by cases e⟩
  | some l =>
    obtain ⟨rfl, hx⟩ := hr
    have hl : LOk l := hok l rfl
    have d0 : τ.1 159 28 = nI (l 0).length := (hx 0 (by omega)).1
    have d1 : τ.1 159 29 = nI (l 1).length := (hx 1 (by omega)).1
    have d2 : τ.1 159 30 = nI (l 2).length := (hx 2 (by omega)).1
    have d3 : τ.1 159 31 = nI (l 3).length := (hx 3 (by omega)).1
    have x0 : ∀ x, x < (l 0).length → ∀ i, i < 4 → τ.1 165 (4 * x + i) = (l 0).getD x (fun _ => 0) i := fun x a i b => (hx 0 (by omega)).2 x a i b
    have x1 : ∀ x, x < (l 1).length → ∀ i, i < 4 → τ.1 167 (4 * x + i) = (l 1).getD x (fun _ => 0) i := fun x a i b => (hx 1 (by omega)).2 x a i b
    have x2 : ∀ x, x < (l 2).length → ∀ i, i < 5 → τ.1 168 (5 * x + i) = rC l x i := fun x a i b => (hx 2 (by omega)).2 x a i b
    have x3 : ∀ x, x < (l 3).length → ∀ i, i < 2 → τ.1 170 (2 * x + i) = (l 3).getD x (fun _ => 0) i := fun x a i b => (hx 3 (by omega)).2 x a i b
    have b0 : (l 0).length ≤ 8 := (hl 0 (by omega)).1
    have b1 : (l 1).length ≤ 12 := (hl 1 (by omega)).1
    have b3 : (l 3).length ≤ 3 := (hl 3 (by omega)).1
    clear hx
    refine ⟨fun _ => ?_, fun q => absurd rfl q⟩
    rw [wp_bnd, wp_rdI]
    refine ⟨rfl, ?_⟩
    rw [wp_bnd, wp_wrI]
    refine ⟨rfl, ?_⟩
    rw [wp_if]
    refine ⟨fun _ => ?_, fun q => absurd (show ¬ nI 0 = 1 by decide) q⟩
    rw [wp_if]
    refine ⟨fun _ => ?_, fun q => absurd (show ¬ nI 0 = 2 by decide) q⟩
    rw [wp_bnd, wp_rdI, upI_self, va_up_ne _ _ (by omega), d0]
    refine ⟨rfl, ?_⟩
    rw [wp_bnd, wp_wrI]
    refine ⟨rfl, ?_⟩
    rw [wp_bnd, wp_rdI, upI_self, va_up_ne _ _ (by omega), upI_self, va_up_ne _ _ (by omega), d1]
    refine ⟨rfl, ?_⟩
    rw [wp_bnd, wp_wrI]
    refine ⟨rfl, ?_⟩
    rw [wp_bnd, wp_rdI, upI_self, va_up_ne _ _ (by omega), upI_self, va_up_ne _ _ (by omega), upI_self, va_up_ne _ _ (by omega), d3]
    refine ⟨rfl, ?_⟩
    rw [wp_bnd, wp_wrI]
    refine ⟨rfl, ?_⟩
    have z3 : ZFr DD0 σ (sa_upI (sa_upI (sa_upI (sa_upI τ 159 6 0) 159 25 (nI (l 0).length)) 159 26 (nI (l 1).length)) 159 27 (nI (l 3).length)) := ((((show ZFr DD0 σ τ from z2.mono (fun j k q => Or.inl q)).trans (ZFr.up (by unfold DD0; omega))).trans (ZFr.up (by unfold DD0; omega))).trans (ZFr.up (by unfold DD0; omega))).trans (ZFr.up (by unfold DD0; omega))
    have c9 : ∀ k, k ≠ 6 → k ≠ 25 → k ≠ 26 → k ≠ 27 → (sa_upI (sa_upI (sa_upI (sa_upI τ 159 6 0) 159 25 (nI (l 0).length)) 159 26 (nI (l 1).length)) 159 27 (nI (l 3).length)).1 159 k = τ.1 159 k := fun k a b c d => by rw [upI_self, va_up_ne _ _ d, upI_self, va_up_ne _ _ c, upI_self, va_up_ne _ _ b, upI_self, va_up_ne _ _ a]
    have cj : ∀ j, j ≠ 159 → (sa_upI (sa_upI (sa_upI (sa_upI τ 159 6 0) 159 25 (nI (l 0).length)) 159 26 (nI (l 1).length)) 159 27 (nI (l 3).length)).1 j = τ.1 j := fun j a => by rw [upI_ne a, upI_ne a, upI_ne a, upI_ne a]
    have f6 : (sa_upI (sa_upI (sa_upI (sa_upI τ 159 6 0) 159 25 (nI (l 0).length)) 159 26 (nI (l 1).length)) 159 27 (nI (l 3).length)).1 159 6 = 0 := by rw [upI_self, va_up_ne _ _ (by omega), upI_self, va_up_ne _ _ (by omega), upI_self, va_up_ne _ _ (by omega), upI_self, va_up_self]
    have f25 : (sa_upI (sa_upI (sa_upI (sa_upI τ 159 6 0) 159 25 (nI (l 0).length)) 159 26 (nI (l 1).length)) 159 27 (nI (l 3).length)).1 159 25 = nI (l 0).length := by rw [upI_self, va_up_ne _ _ (by omega), upI_self, va_up_ne _ _ (by omega), upI_self, va_up_self]
    have f26 : (sa_upI (sa_upI (sa_upI (sa_upI τ 159 6 0) 159 25 (nI (l 0).length)) 159 26 (nI (l 1).length)) 159 27 (nI (l 3).length)).1 159 26 = nI (l 1).length := by rw [upI_self, va_up_ne _ _ (by omega), upI_self, va_up_self]
    have f27 : (sa_upI (sa_upI (sa_upI (sa_upI τ 159 6 0) 159 25 (nI (l 0).length)) 159 26 (nI (l 1).length)) 159 27 (nI (l 3).length)).1 159 27 = nI (l 3).length := by rw [upI_self, va_up_self]
    have k3 : SK (sa_upI (sa_upI (sa_upI (sa_upI τ 159 6 0) 159 25 (nI (l 0).length)) 159 26 (nI (l 1).length)) 159 27 (nI (l 3).length)).2.1 := hRt.1
    generalize sa_upI (sa_upI (sa_upI (sa_upI τ 159 6 0) 159 25 (nI (l 0).length)) 159 26 (nI (l 1).length)) 159 27 (nI (l 3).length) = τ1 at z3 c9 cj f6 f25 f26 f27 k3 ⊢
    rw [wp_let]
    refine m_cp (A := 164) (B := 165) (n := 32) rfl (by omega) al_164 al_165 (by omega) (sk_159_18 k3) (sk_159_19 k3) (fun α a1 a2 a3 => ?_)
    rw [wp_let]
    refine m_cp (A := 166) (B := 167) (n := 48) rfl (by omega) al_166 al_167 (by omega) (by rw [a1]; exact sk_159_20 k3) (by rw [a1]; exact sk_159_21 k3) (fun β e1 e2 e3 => ?_)
    rw [wp_let]
    refine m_cp (A := 169) (B := 170) (n := 6) rfl (by omega) al_169 al_170 (by omega) (by rw [e1, a1]; exact sk_159_23 k3) (by rw [e1, a1]; exact sk_159_24 k3) (fun γ g1 g2 g3 => ?_)
    rw [wp_let]
    refine m_z0 (by rw [g1, e1, a1]; exact k3) (fun δ i1 i2 i3 => ?_)
    have sd : δ.2 = τ1.2 := i1.trans (g1.trans (e1.trans a1))
    have fd : ∀ j, j ≠ 164 → j ≠ 166 → j ≠ 169 → j ≠ 173 → δ.1 j = τ1.1 j := fun j a b c d => by rw [i2 j d, g2 j c, e2 j b, a2 j a]
    have y0 : ∀ x, x < (l 0).length → ∀ i, i < 4 → δ.1 164 (4 * x + i) = (l 0).getD x (fun _ => 0) i := fun x hx i hi => by
      rw [i2 164 (by omega), g2 164 (by omega), e2 164 (by omega), a3 _ (by omega), cj 165 (by omega)]
      exact x0 x hx i hi
    have y1 : ∀ x, x < (l 1).length → ∀ i, i < 4 → δ.1 166 (4 * x + i) = (l 1).getD x (fun _ => 0) i := fun x hx i hi => by
      rw [i2 166 (by omega), g2 166 (by omega), e3 _ (by omega), a2 167 (by omega), cj 167 (by omega)]
      exact x1 x hx i hi
    have y3 : ∀ x, x < (l 3).length → ∀ i, i < 2 → δ.1 169 (2 * x + i) = (l 3).getD x (fun _ => 0) i := fun x hx i hi => by
      rw [i2 169 (by omega), g3 _ (by omega), e2 170 (by omega), a2 170 (by omega), cj 170 (by omega)]
      exact x3 x hx i hi
    have d9 : δ.1 159 = τ1.1 159 := fd 159 (by omega) (by omega) (by omega) (by omega)
    refine m_camp (l := l) (by rw [sd]; exact k3) hl (by rw [d9, c9 30 (by omega) (by omega) (by omega) (by omega)]; exact d2) (by rw [d9]; exact f27) i3 (fun x hx i hi => by rw [fd 168 (by omega) (by omega) (by omega) (by omega), cj 168 (by omega)]; exact x2 x hx i hi) (fun f hf => y3 f hf 1 (by omega)) (fun ε s1 s2 s3 s4 s5 => ?_)
    refine ⟨(fun e => by cases e), fun l2 e => ?_⟩
    cases e
    refine ⟨rfl, ?_, ?_, ⟨?_, ?_, ?_⟩, fun x hx i hi => ?_, fun x hx i hi => ?_, fun x hx i hi => ?_, s4, s5⟩
    · refine z3.trans ⟨fun a b _ => by rw [s1, sd], by rw [s1, sd], fun j k n => ?_⟩
      unfold DD0 at n
      by_cases e : j = 159
      · subst e
        rw [s3 k (by omega) (by omega) (by omega) (by omega), d9]
      · rw [s2 j e (by omega), fd j (by omega) (by omega) (by omega) (by omega)]
    · rw [s3 6 (by omega) (by omega) (by omega) (by omega), d9]; exact f6
    · rw [s3 25 (by omega) (by omega) (by omega) (by omega), d9]; exact f25
    · rw [s3 26 (by omega) (by omega) (by omega) (by omega), d9]; exact f26
    · rw [s3 27 (by omega) (by omega) (by omega) (by omega), d9]; exact f27
    · rw [s2 164 (by omega) (by omega)]; exact y0 x hx i hi
    · rw [s2 166 (by omega) (by omega)]; exact y1 x hx i hi
    · rw [s2 169 (by omega) (by omega)]; exact y3 x hx i hi
end MTXT0
