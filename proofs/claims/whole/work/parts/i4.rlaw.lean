/-! TEXTS: units and laws, by the reference -/
section RLAW
variable {T : Nat → Nat} {N R o d k p g w h m t : Nat} {σ : sa_St}
theorem m_unit {gU : Nat → sa_M Int32} {gC gP : Nat → Int32 → Int32 → sa_M Int32} (hd : d + k = 6) (hU : ∀ k', k = k' + 1 → ∀ (q : Nat) (σ : sa_St), RSt T N R o (d + 1) q σ → EV g w h m t σ → wp (gU 159) σ (RPb T N R o (d + 1) g w h m t σ (unD T N k' q))) (hC : ∀ k', k = k' + 1 → ∀ (q : Nat) (σ : sa_St), RSt T N R o (d + 1) q σ → EV g w h m t σ → wp (gC 159 0 0) σ (RPb T N R o (d + 1) g w h m t σ (coP T N (unD T N k') q))) (hs : RSt T N R o d p σ) (he : EV g w h m t σ) : wp (fb_X12_unit gU gC gP 159) σ (RPb T N R o d g w h m t σ (unD T N k p)) := by
  obtain ⟨hlk, hs1, x10⟩ := hs.look
  have hpN := hs.nb.1
  have h240 := hs.1.2.1
  have fr1 : RFr σ (sa_upI σ 159 10 (nI p)) := RFr.up (by omega)
  have he1 := he.fr fr1
  generalize sa_upI σ 159 10 (nI p) = σ1 at *
  have e33 : (lkv T N p = 33) ↔ sgn T N p = 33 := lkv_eq (c := 33) hs.1 (by omega) (by omega)
  have e40 : (lkv T N p = 40) ↔ sgn T N p = 40 := lkv_eq (c := 40) hs.1 (by omega) (by omega)
  have hgi := m_goesIn hs1 x10 (show d ≤ 6 by omega)
  -- too deep
  have deep0 : k = 0 → sgn T N p = 33 ∨ sgn T N p = 40 → f_X12_goesIn 159 σ1 = some (0, sa_upI σ1 159 11 (nI p)) ∧ RPb T N R o d g w h m t σ (unD T N k p) 0 (sa_upI σ1 159 11 (nI p)) := fun k0 hc => by
    subst k0
    rw [if_neg (by omega)] at hgi
    refine ⟨hgi, ⟨fr1.trans (RFr.up (by omega)), ?_⟩, Or.inl rfl⟩
    unfold unD
    rw [if_pos hc]
    dsimp only
    rw [upI_self, va_up_self]
  have deepS : ∀ k', k = k' + 1 → sgn T N p = 33 ∨ sgn T N p = 40 → p < N ∧ f_X12_goesIn 159 σ1 = some (1, sa_upI (sa_upI σ1 159 12 (nI (d + 1))) 159 10 (nI (p + 1))) ∧ RFr σ1 (sa_upI (sa_upI σ1 159 12 (nI (d + 1))) 159 10 (nI (p + 1))) ∧ RSt T N R o (d + 1) (bk T N (p + 1)) (sa_upI (sa_upI σ1 159 12 (nI (d + 1))) 159 10 (nI (p + 1))) := fun k' ek hc => by
    have hpN2 : p < N := by
      rcases hc with e | e
      · exact (sgn_in (c := 33) (by omega) e).1
      · exact (sgn_in (c := 40) (by omega) e).1
    rw [if_pos (by omega)] at hgi
    exact ⟨hpN2, hgi, (RFr.up (by omega)).trans (RFr.up (by omega)), hs1.deep (by omega)⟩
  have ed : nI (d + 1) - 1 = nI d := nI_pred d
  unfold fb_X12_unit
  rw [wp_gd]
  refine ⟨rfl, ?_⟩
  rw [wp_bnd, wp_of_eq hlk, wp_if, e33]
  refine ⟨fun n33 => ?_, fun y33 => ?_⟩
  · rw [wp_if, e40]
    refine ⟨fun n40 => ?_, fun y40 => ?_⟩
    · have plain : unD T N k p = cmpR T N k (smD T N k p) := by
        cases k with
        | zero => unfold unD; rw [if_neg (by omega)]
        | succ k => unfold unD; rw [if_neg n33, if_neg n40]
      rw [plain, wp_bnd]
      refine wp_mono (m_cmp0 hd hs1 he1) (fun r τ hr => ?_)
      rw [wp_retZ]
      exact ⟨hr.2, hr.fr fr1⟩
    · have h40 := Decidable.not_not.mp y40
      cases k with
      | zero =>
        obtain ⟨a, b⟩ := deep0 rfl (Or.inr h40)
        rw [wp_bnd, wp_of_eq a, wp_if]
        refine ⟨fun q => absurd rfl q, fun _ => ?_⟩
        rw [wp_retZ]
        exact ⟨Or.inl rfl, b⟩
      | succ k =>
        obtain ⟨hpN2, a, fr2, hs2⟩ := deepS k rfl (Or.inr h40)
        have hle := bk_le (T := T) (N := N) (p := p + 1) (by omega)
        have ad := (co_adv (T := T) (un_adv (T := T) (N := N) k) _ hle).1
        unfold unD
        rw [if_neg n33, if_pos h40, wp_bnd, wp_of_eq a, wp_if]
        refine ⟨fun _ => ?_, fun q => absurd (show ¬ (1 : Int32) = 0 by decide) q⟩
        rw [wp_bnd]
        refine wp_mono (hC k rfl _ _ hs2 (he1.fr fr2)) (fun v τ hr => ?_)
        have v01 := hr.2
        have hr2 := (hr.1.fr fr2).fr fr1
        rw [wp_bnd]
        refine m_close (c := 41) (by omega) (by omega) hr2 (fun υ q fr e11 eq => ?_) (fun υ q x fr hsq eq hv => ?_)
        · rw [← eq, wp_if]
          refine ⟨fun q => absurd rfl q, fun _ => ?_⟩
          rw [wp_retZ]
          exact ⟨Or.inl rfl, ⟨fr, e11⟩, Or.inl rfl⟩
        · rw [← eq, wp_if]
          refine ⟨fun _ => ?_, fun q => absurd (show ¬ (1 : Int32) = 0 by decide) q⟩
          rw [wp_bnd, wp_rdI, hsq.2.2.2]
          refine ⟨rfl, ?_⟩
          rw [wp_bnd, wp_wrI, ed]
          refine ⟨rfl, ?_⟩
          rw [wp_retZ]
          exact ⟨v01, ⟨fr.trans (RFr.up (by omega)), hv, hsq.out⟩, v01⟩
  · have h33 := Decidable.not_not.mp y33
    cases k with
    | zero =>
      obtain ⟨a, b⟩ := deep0 rfl (Or.inl h33)
      rw [wp_bnd, wp_of_eq a, wp_if]
      refine ⟨fun q => absurd rfl q, fun _ => ?_⟩
      rw [wp_retZ]
      exact ⟨Or.inl rfl, b⟩
    | succ k =>
      obtain ⟨hpN2, a, fr2, hs2⟩ := deepS k rfl (Or.inl h33)
      unfold unD
      rw [if_pos h33, wp_bnd, wp_of_eq a, wp_if]
      refine ⟨fun _ => ?_, fun q => absurd (show ¬ (1 : Int32) = 0 by decide) q⟩
      rw [wp_bnd]
      refine wp_mono (hU k rfl _ _ hs2 (he1.fr fr2)) (fun v τ hr => ?_)
      obtain ⟨⟨fr3, hr⟩, v01⟩ := hr
      have fr4 := (fr1.trans fr2).trans fr3
      rw [wp_bnd, wp_rdI]
      refine ⟨rfl, ?_⟩
      rw [wp_bnd, wp_wrI]
      refine ⟨rfl, ?_⟩
      have n01 : notC v = 0 ∨ notC v = 1 := by unfold notC; split <;> simp
      have fin : wp (sa_retZ (notC v)) (sa_upI τ 159 12 (τ.1 159 12 - 1)) (RPb T N R o d g w h m t σ (ngR (unD T N k (bk T N (p + 1))))) := by
        rw [wp_retZ]
        refine ⟨n01, ⟨fr4.trans (RFr.up (by omega)), ?_⟩, n01⟩
        generalize unD T N k (bk T N (p + 1)) = r0 at *
        obtain ⟨q, mm⟩ := r0
        cases mm with
        | none =>
          show (sa_upI τ 159 12 (τ.1 159 12 - 1)).1 159 11 = nI q
          rw [upI_self, va_up_ne _ _ (by omega)]
          exact hr
        | some x =>
          obtain ⟨rfl, hs3⟩ := hr
          refine ⟨rfl, ?_⟩
          rw [hs3.2.2.2, ed]
          exact hs3.out
      rw [wp_jn1, wp_if]
      refine ⟨fun hv => ?_, fun hv => ?_⟩
      · have : notC v = 0 := by unfold notC; rw [if_neg hv]
        rw [this] at fin
        exact fin
      · have : notC v = 1 := by unfold notC; rw [if_pos (Decidable.not_not.mp hv)]
        rw [this] at fin
        exact fin
theorem m_units : ∀ k n d, d + k = 6 → 3 * k + 1 ≤ n → ∀ (q : Nat) (σ : sa_St), RSt T N R o d q σ → EV g w h m t σ → wp (f_X12_unit n 159) σ (RPb T N R o d g w h m t σ (unD T N k q)) := by
  intro k
  induction k with
  | zero =>
    intro n d hd hn q σ hs he
    obtain ⟨n, rfl⟩ : ∃ n', n = n' + 1 := ⟨n - 1, by omega⟩
    exact m_unit (gU := (gr_X12_unit n).1) (gC := (gr_X12_unit n).2.1) (gP := (gr_X12_unit n).2.2) hd (fun k' e => by omega) (fun k' e => by omega) hs he
  | succ k ih =>
    intro n d hd hn q σ hs he
    obtain ⟨n, rfl⟩ : ∃ n', n = n' + 3 := ⟨n - 3, by omega⟩
    have u2 := ih (n + 2) (d + 1) (by omega) (by omega)
    have u0 := ih n (d + 1) (by omega) (by omega)
    have t1 := m_part (gC := (gr_X12_unit n).2.1) (gP := (gr_X12_unit n).2.2) (gU := (gr_X12_unit n).1) (show d + 1 + k = 6 by omega) u0
    have c2 := m_cond (gU := (gr_X12_unit (n + 1)).1) (gC := (gr_X12_unit (n + 1)).2.1) (gP := (gr_X12_unit (n + 1)).2.2) t1
    exact m_unit (gU := (gr_X12_unit (n + 2)).1) (gC := (gr_X12_unit (n + 2)).2.1) (gP := (gr_X12_unit (n + 2)).2.2) hd (fun k' e => by cases e; exact u2) (fun k' e => by cases e; exact c2.1) hs he
theorem m_conds : (∀ (q : Nat) (σ : sa_St), RSt T N R o 0 q σ → EV g w h m t σ → wp (f_X12_condition 60 159 0 0) σ (RPb T N R o 0 g w h m t σ (coP T N (unD T N 6) q))) ∧ ∀ (p q : Nat) (x : List Nat × LWt) (σ : sa_St), RAdv N p (q, some x) → p ≤ N → RSt T N R o 0 q σ → EV g w h m t σ → wp (f_X12_condition 60 159 1 (x.2 g w h m t)) σ (RPb T N R o 0 g w h m t σ (coF T N (unD T N 6) (trF T N (unD T N 6) (cmpR T N 6 (q, some x))))) := by
  have u0 := m_units (T := T) (N := N) (R := R) (o := o) (g := g) (w := w) (h := h) (m := m) (t := t) 6 58 0 rfl (by omega)
  have t1 := m_part (gC := (gr_X12_unit 58).2.1) (gP := (gr_X12_unit 58).2.2) (gU := (gr_X12_unit 58).1) (show 0 + 6 = 6 by omega) u0
  exact m_cond (gU := (gr_X12_unit 59).1) (gC := (gr_X12_unit 59).2.1) (gP := (gr_X12_unit 59).2.2) t1
end RLAW
