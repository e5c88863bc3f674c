/-! TEXTS: text, of laws and of orders: alike -/
theorem or_le {T : Nat → Nat} {N : Nat} : ∀ (f p : Nat) (acc : List STp), p ≤ N → (orL T N f p acc).1 ≤ N := by
  intro f
  induction f with
  | zero => intro p acc hp; exact hp
  | succ f ih =>
    intro p acc hp
    have hst := orL_st (T := T) (N := N) (p := p) (f := f) (acc := acc)
    have ad := st_adv (T := T) hp
    generalize stP T N p = r0 at *
    obtain ⟨q, m⟩ := r0
    have a1 : q ≤ N := ad.1
    cases m with
    | none => rw [hst.1 rfl]; exact a1
    | some c =>
      rw [hst.2 c rfl]
      unfold orK
      dsimp only
      split
      · split
        · exact a1
        · split
          · exact ih _ _ (bk_le (by omega))
          · exact a1
      · exact a1
section TXT2
variable {T : Nat → Nat} {N n m : Nat} {σ : sa_St}
theorem m_txt2 (h : RBy T N σ) (h34 : σ.1 159 34 = nI m) (hm4 : m < 4) : wp (f_X12_text 159 (nI 2)) σ (fun r τ => ((orP T N).2 = none → r = -1 ∧ ZFr ARd σ τ) ∧ ∀ xs, (orP T N).2 = some xs → r = nI m ∧ ZFr (DD2 m) σ τ ∧ τ.1 159 6 = 0 ∧ τ.1 159 34 = nI (m + 1) ∧ τ.1 172 m = nI xs.length ∧ ORw (48 * m) (τ.1 171) xs) := by
  have hN := h.2.1
  have hle : (orP T N).1 ≤ N := or_le _ _ _ (bk_le (by omega))
  have hok : ∀ xs, (orP T N).2 = some xs → xs.length ≤ 16 := fun xs e => (or_ok 17 (bk T N 0) [] xs (bk_le (by omega)) (by decide) (fun x hx => by cases hx) e).1.2
  have z0 : ZFr ARd σ (sa_upI σ 159 0 0) := ZFr.up (by unfold ARd; omega)
  have hR := h.z z0 (by unfold ARd; omega) (fun k => by unfold ARd; omega)
  have e34 : (sa_upI σ 159 0 0).1 159 34 = nI m := by rw [upI_self, va_up_ne _ _ (by omega)]; exact h34
  have e4 : (nI m = 4) ↔ m = 4 := nI_eq (a := m) (b := 4) (by omega) (by omega)
  unfold f_X12_text
  rw [wp_gd]
  refine ⟨rfl, ?_⟩
  rw [wp_bnd, wp_wrI]
  refine ⟨rfl, ?_⟩
  generalize sa_upI σ 159 0 0 = σ1 at *
  rw [wp_bnd, w_isIn]
  refine ⟨fun _ => ?_, fun q => absurd (by decide) q⟩
  rw [wp_jn0, wp_if]
  refine ⟨fun q => absurd q (show ¬ nI 1 = 0 by decide), fun _ => ?_⟩
  rw [wp_jn0, wp_if]
  refine ⟨fun _ => ?_, fun q => absurd (show ¬ nI 2 = 1 by decide) q⟩
  rw [wp_jn0, wp_if]
  refine ⟨fun q => absurd rfl q, fun _ => ?_⟩
  rw [wp_bnd, wp_rdI, e34]
  refine ⟨rfl, ?_⟩
  rw [wp_if, e4]
  refine ⟨fun q => by omega, fun _ => ?_⟩
  rw [wp_bnd]
  refine wp_mono (m_flt2 hR) (fun r τ hr => ?_)
  obtain ⟨z1, hr⟩ := hr
  have z2 := z0.trans z1
  have hRt := hR.z z1 (by unfold ARd; omega) (fun k => by unfold ARd; omega)
  have e34t : τ.1 159 34 = nI m := by rw [z1.2.2 159 34 (by unfold ARd; omega)]; exact e34
  generalize orP T N = r0 at *
  obtain ⟨q, mm⟩ := r0
  rw [wp_if]
  cases mm with
  | none =>
    have hr' : r = nI q := hr
    have hne : ¬ r = -1 := fun e => by
      rw [hr'] at e
      have e' : nI q = mI := e
      rw [eq_mI (by dsimp only at hle; omega)] at e'
      exact e'
    refine ⟨fun q => absurd q hne, fun _ => ?_⟩
    rw [wp_ret]
    exact ⟨fun _ => ⟨rfl, z2⟩, fun cs e => by cases e⟩
  | some xs =>
    obtain ⟨rfl, hx4, hxs⟩ := hr
    have h16 := hok xs rfl
    refine ⟨fun _ => ?_, fun q => absurd rfl q⟩
    rw [wp_bnd, wp_rdI]
    refine ⟨rfl, ?_⟩
    rw [wp_bnd, wp_wrI]
    refine ⟨rfl, ?_⟩
    rw [wp_if]
    refine ⟨fun _ => ?_, fun q => absurd (show ¬ nI 2 = 1 by decide) q⟩
    rw [wp_if]
    refine ⟨fun q => absurd rfl q, fun _ => ?_⟩
    have z3 : ZFr (DD2 m) σ (sa_upI τ 159 6 0) := (show ZFr (DD2 m) σ τ from z2.mono (fun j k q => Or.inl q)).trans (ZFr.up (Or.inr (Or.inl ⟨rfl, Or.inl rfl⟩)))
    have hk3 : SK (sa_upI τ 159 6 0).2.1 := hRt.1
    have f6 : (sa_upI τ 159 6 0).1 159 6 = 0 := by rw [upI_self, va_up_self]
    have f34 : (sa_upI τ 159 6 0).1 159 34 = nI m := by rw [upI_self, va_up_ne _ _ (by omega)]; exact e34t
    have f172 : (sa_upI τ 159 6 0).1 172 4 = nI xs.length := by rw [upI_ne (by omega)]; exact hx4
    have fxs : ORw 192 ((sa_upI τ 159 6 0).1 171) xs := hxs.fr (upI_ne (by omega))
    generalize sa_upI τ 159 6 0 = τ1 at *
    rw [wp_let]
    refine wp_for1 48 0 (fun i υ => υ.2 = τ1.2 ∧ (∀ j, j ≠ 171 → υ.1 j = τ1.1 j) ∧ (∀ j, j < 48 * m ∨ 192 ≤ j → υ.1 171 j = τ1.1 171 j) ∧ ∀ y, y < i → υ.1 171 (48 * m + y) = τ1.1 171 (192 + y)) ?_ ?_ ⟨rfl, fun _ _ => rfl, fun _ _ => rfl, fun y hy => by omega⟩ (by omega) (by unfold sa_F; omega)
    · rintro i υ hi ⟨g1, g2, g3, g4⟩ j hj
      have hku : SK υ.2.1 := by rw [g1]; exact hk3
      have ea : 48 * nI m + nI i = nI (48 * m + i) := by
        have e1 : (48 : Int32) * nI m = nI (48 * m) := pk_mul 48 m
        rw [e1, nI_add]
      have eb : 192 + nI i = nI (192 + i) := nI_add 192 i
      rw [wp_if]
      refine ⟨fun q => absurd q (nI_ge (a := i) (b := 48) hi (by decide)), fun _ => ?_⟩
      rw [wp_bnd, wp_rdR (v := 171) rfl (sk_159_32 hku), wp_bnd, wp_rdI, g2 159 (by omega), f34]
      refine ⟨rfl, ?_⟩
      rw [wp_bnd, wp_rdR (v := 171) rfl (sk_159_32 hku), wp_bnd, eb, wp_ldI (n := 192 + i) (len := 240) al_171 rfl (by omega) (by omega), g3 (192 + i) (by omega), wp_bnd, ea, wp_stI (n := 48 * m + i) (len := 240) al_171 rfl (by omega) (by omega), wp_let, nI_1]
      refine hj _ ⟨g1, fun j a => by rw [upI_ne a]; exact g2 j a, fun j a => by rw [upI_self, va_up_ne _ _ (by omega)]; exact g3 j a, fun y hy => ?_⟩
      rw [upI_self]
      by_cases e : y = i
      · subst e; rw [va_up_self]
      · rw [va_up_ne _ _ (by omega)]; exact g4 y (by omega)
    · rintro υ ⟨g1, g2, g3, g4⟩ j
      have hku : SK υ.2.1 := by rw [g1]; exact hk3
      rw [wp_if]
      refine ⟨fun _ => ?_, fun q => absurd (show (48 : Int32) ≤ nI 48 by decide) q⟩
      rw [wp_bnd, wp_rdR (v := 172) rfl (sk_159_33 hku), wp_bnd, wp_rdI, g2 159 (by omega), f34]
      refine ⟨rfl, ?_⟩
      rw [wp_bnd, wp_rdR (v := 172) rfl (sk_159_33 hku), wp_bnd, wp_ldI (j := 4) (n := 4) (len := 5) al_172 rfl (by omega) (by omega), g2 172 (by omega), f172, wp_bnd, wp_stI (n := m) (len := 5) al_172 rfl (by omega) (by omega), wp_bnd, wp_rdI, upI_ne (by omega), g2 159 (by omega), f34]
      refine ⟨rfl, ?_⟩
      rw [wp_bnd, wp_wrI, nI_1]
      refine ⟨rfl, ?_⟩
      rw [wp_bnd, wp_rdI, upI_self, va_up_self]
      refine ⟨rfl, ?_⟩
      rw [wp_ret, nI_pred]
      refine ⟨(fun e => by cases e), fun cs2 e2 => ?_⟩
      cases e2
      refine ⟨rfl, ?_, ?_, ?_, ?_, fun i hi => ?_⟩
      · have z4 : ZFr (DD2 m) τ1 υ := by
          refine ⟨fun a b _ => by rw [g1], by rw [g1], fun j k hA => ?_⟩
          by_cases e : j = 171
          · subst e
            exact g3 k (by unfold DD2 at hA; omega)
          · rw [g2 j e]
        exact ((z3.trans z4).trans (ZFr.up (Or.inr (Or.inr (Or.inr ⟨rfl, rfl⟩))))).trans (ZFr.up (Or.inr (Or.inl ⟨rfl, Or.inr rfl⟩)))
      · rw [upI_self, va_up_ne _ _ (by omega), upI_ne (by omega), g2 159 (by omega)]; exact f6
      · rw [upI_self, va_up_self]
      · rw [upI_ne (by omega), upI_self, va_up_self]
      · rw [upI_ne (by omega), upI_ne (by omega)]
        obtain ⟨a, b, c⟩ := fxs i hi
        refine ⟨?_, ?_, ?_⟩
        · rw [g4 (3 * i) (by omega)]; exact a
        · rw [show 48 * m + 3 * i + 1 = 48 * m + (3 * i + 1) by omega, g4 (3 * i + 1) (by omega)]; exact b
        · rw [show 48 * m + 3 * i + 2 = 48 * m + (3 * i + 2) by omega, g4 (3 * i + 2) (by omega)]; exact c
end TXT2
theorem CC1_BB {n m D j k : Nat} (q : CC1 n j k) : BB n m D j k := by
  rcases q with ⟨a, b | b⟩ | q | q | ⟨a, b⟩
  · exact Or.inr (Or.inl ⟨a, b⟩)
  · exact Or.inl (Or.inl ⟨a, b⟩)
  · exact Or.inl (Or.inr (Or.inr (Or.inr (Or.inl q))))
  · exact Or.inl (Or.inr (Or.inr (Or.inr (Or.inr (Or.inl q)))))
  · exact Or.inr (Or.inr (Or.inl ⟨a, b⟩))
theorem CC2_BB {n m D j k : Nat} (q : CC2 m j k) : BB n m D j k := by
  rcases q with ⟨a, b | b⟩ | q | q | ⟨a, b⟩
  · exact Or.inr (Or.inl ⟨a, b⟩)
  · exact Or.inl (Or.inl ⟨a, b⟩)
  · exact Or.inl (Or.inr (Or.inr (Or.inr (Or.inr (Or.inr (Or.inl q))))))
  · exact Or.inl (Or.inr (Or.inr (Or.inr (Or.inr (Or.inr (Or.inr (Or.inl q)))))))
  · exact Or.inr (Or.inr (Or.inr (Or.inl ⟨a, b⟩)))
theorem DD1_BB {n m D j k : Nat} (q : DD1 n j k) : BB n m D j k := by
  rcases q with q | ⟨a, b | b⟩ | ⟨a, b⟩ | ⟨a, b⟩
  · exact Or.inl (Or.inr (Or.inr (Or.inr (Or.inr (Or.inr (Or.inr (Or.inr q)))))))
  · exact Or.inr (Or.inr (Or.inr (Or.inr (Or.inl ⟨a, Or.inl b⟩))))
  · exact Or.inr (Or.inr (Or.inr (Or.inr (Or.inl ⟨a, Or.inr (Or.inl b)⟩))))
  · exact Or.inr (Or.inr (Or.inr (Or.inr (Or.inr (Or.inl a)))))
  · exact Or.inr (Or.inr (Or.inr (Or.inr (Or.inr (Or.inr (Or.inl a))))))
theorem DD2_BB {n m D j k : Nat} (q : DD2 m j k) : BB n m D j k := by
  rcases q with q | ⟨a, b | b⟩ | ⟨a, b⟩ | ⟨a, b⟩
  · exact Or.inl (Or.inr (Or.inr (Or.inr (Or.inr (Or.inr (Or.inr (Or.inr q)))))))
  · exact Or.inr (Or.inr (Or.inr (Or.inr (Or.inl ⟨a, Or.inl b⟩))))
  · exact Or.inr (Or.inr (Or.inr (Or.inr (Or.inl ⟨a, Or.inr (Or.inr b)⟩))))
  · exact Or.inr (Or.inr (Or.inr (Or.inr (Or.inr (Or.inr (Or.inr (Or.inl a)))))))
  · exact Or.inr (Or.inr (Or.inr (Or.inr (Or.inr (Or.inr (Or.inr (Or.inr a)))))))
