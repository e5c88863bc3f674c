/-! TEXTS: sums, by the reference, in their depth -/
section RSM
variable {T : Nat → Nat} {N R o d p g w h m t : Nat} {σ : sa_St}
theorem ix0 {c i : Nat} (hc : c < 256) (hi : ixS 0 c = some i) : (i = 0 ∧ c = 103) ∨ (i = 1 ∧ c = 119) ∨ (i = 2 ∧ c = 104) ∨ (i = 3 ∧ c = 109) ∨ (i = 4 ∧ c = 116) := by
  have h5 : i < 5 := (ix_in hi (by omega)).2
  have h2 : decide ((sa_byt.getD 0 []).getD i 0 = nI c) = true := List.find?_some (p := fun i => decide ((sa_byt.getD 0 []).getD i 0 = nI c)) hi
  have h3 := of_decide_eq_true h2
  match i, h5 with
  | 0, _ => exact Or.inl ⟨rfl, ((nI_eq (a := 103) (b := c) (by omega) (by omega)).mp h3).symm⟩
  | 1, _ => exact Or.inr (Or.inl ⟨rfl, ((nI_eq (a := 119) (b := c) (by omega) (by omega)).mp h3).symm⟩)
  | 2, _ => exact Or.inr (Or.inr (Or.inl ⟨rfl, ((nI_eq (a := 104) (b := c) (by omega) (by omega)).mp h3).symm⟩))
  | 3, _ => exact Or.inr (Or.inr (Or.inr (Or.inl ⟨rfl, ((nI_eq (a := 109) (b := c) (by omega) (by omega)).mp h3).symm⟩)))
  | 4, _ => exact Or.inr (Or.inr (Or.inr (Or.inr ⟨rfl, ((nI_eq (a := 116) (b := c) (by omega) (by omega)).mp h3).symm⟩)))
  | n + 5, h5 => omega
theorem RSt.ft (hs : RSt T N R o d p σ) (hp : p ≤ N) : ¬ (sa_upI σ 159 11 (nI p)).1 159 11 = -1 := by
  rw [upI_self, va_up_self]
  intro e
  have e' : nI p = mI := e
  rw [eq_mI (by have := hs.1.2.1; omega)] at e'
  exact e'
theorem m_num (hs : RSt T N R o d p σ) (h10 : σ.1 159 10 = nI p) : wp (sa_bnd (f_X12_isDigit 159) fun v3 =>
sa_jn0 (sa_let (0 : Int32) fun x4 =>
sa_let (0 : Int32) fun x5 =>
sa_wh2 (fun j90 (x6 : Int32) (x7 : Int32) =>
sa_bnd (f_X12_isDigit 159) fun v8 =>
sa_jn0 (sa_ret (x6 : Int32)) fun j156 =>
if v8 = 0 then
j156
else
sa_bnd (sa_rdI 12 159 11) fun v9 =>
if ¬ v9 = (-1) then
j156
else
if ¬ x7 = 4 then
sa_bnd (sa_rdR 12 159 5) fun v10 =>
sa_bnd (sa_rdI 12 159 8) fun v11 =>
sa_bnd (sa_rdI 12 159 10) fun v12 =>
sa_bnd (sa_ldI .byte v10 (v11 + v12)) fun v13 =>
sa_let ((((10 * x6) + v13) - 48) : Int32) fun x14 =>
sa_bnd (sa_rdI 12 159 10) fun v15 =>
sa_bnd (sa_wrI 12 159 10 (v15 + 1)) fun _ =>
sa_let ((x7 + 1) : Int32) fun x16 =>
j90 x14 x16
else
sa_bnd (f_X12_fails 159) fun v17 =>
sa_ret (0 : Int32)) sa_F x4 x5) fun j86 =>
if ¬ v3 = 0 then
j86
else
sa_bnd (f_X12_fails 159) fun v18 =>
j86) σ (RPo T N R o d g w h m t σ (match (numR T N p 4 0 1000000).2 with
      | none => ((numR T N p 4 0 1000000).1, none)
      | some n => ((numR T N p 4 0 1000000).1, some ([16 * n], fun _ _ _ _ _ => nI n)))) := by
  have hpN := hs.nb.1
  have h240 := hs.1.2.1
  have hd0 := m_dig hs.1 hpN h10
  rw [wp_bnd, wp_of_eq hd0, wp_jn0, wp_if]
  cases e0 : isD (sgn T N p) with
  | false =>
    refine ⟨fun q => absurd rfl q, fun _ => ?_⟩
    have hn : ndg T N p 4 = 0 := ndg_of (i := 0) (fun y hy => by omega) (Or.inr e0) (by omega)
    have hr : numR T N p 4 0 1000000 = (p, none) := by unfold numR; rw [hn, if_pos rfl]
    have hd1 : f_X12_isDigit 159 (sa_upI σ 159 11 (nI p)) = some (nI 0, sa_upI σ 159 11 (nI p)) := by
      have := m_dig (hs.1.up (k := 11) (v := nI p) (by omega)) hpN (by rw [upI_self, va_up_ne _ _ (by omega)]; exact h10)
      rw [e0] at this
      exact this
    rw [hr, wp_bnd, wp_of_eq (hs.fail h10), wp_let, wp_let]
    refine wp_wh2 (fun k a b τ => τ = sa_upI σ 159 11 (nI p)) ?_ sa_F 0 0 0 _ (by unfold sa_F; omega) rfl
    rintro k a b τ rfl j hj
    rw [wp_bnd, wp_of_eq hd1, wp_jn0, wp_if]
    refine ⟨fun _ => ?_, fun q => absurd rfl q⟩
    rw [wp_ret]
    exact ⟨RFr.up (by omega), by dsimp only; rw [upI_self, va_up_self]⟩
  | true =>
    refine ⟨fun _ => ?_, fun q => absurd (show ¬ nI 1 = 0 by decide) q⟩
    rw [wp_let, wp_let]
    refine wp_for2 4 0 (fun i v τ => p + i ≤ N ∧ (∀ y, y < i → isD (sgn T N (p + y)) = true) ∧ v = nI (nmv T p i) ∧ τ = sa_upI σ 159 10 (nI (p + i))) ?_ ?_ ⟨hpN, fun y hy => by omega, rfl, (upI_id h10).symm⟩ (by omega) (by unfold sa_F; omega)
    · rintro i v τ hi ⟨hiN, hd, rfl, rfl⟩ j hj
      have ht := hs.1.up (k := 10) (v := nI (p + i)) (by omega)
      have x10 : (sa_upI σ 159 10 (nI (p + i))).1 159 10 = nI (p + i) := by rw [upI_self, va_up_self]
      have x11 : (sa_upI σ 159 10 (nI (p + i))).1 159 11 = -1 := by rw [upI_self, va_up_ne _ _ (by omega)]; exact hs.2.2.1
      have e4 : (nI i = 4) ↔ i = 4 := nI_eq (a := i) (b := 4) (by omega) (by omega)
      rw [wp_bnd, wp_of_eq (m_dig ht hiN x10), wp_jn0, wp_if]
      cases hdg : isD (sgn T N (p + i)) with
      | false =>
        have i0 : 0 < i := by
          cases i with
          | zero => rw [Nat.add_zero, e0] at hdg; cases hdg
          | succ i => omega
        have hn : ndg T N p 4 = i := ndg_of hd (Or.inr hdg) (by omega)
        have hv : nmv T p i < 10000 := by
          have h1 := nmv_le (T := T) (p := p) i (fun y hy => (isD_in (hd y hy)).2.2.2)
          have h2 : 10 ^ i ≤ 10 ^ 4 := Nat.pow_le_pow_right (by omega) (by omega)
          omega
        have hr : numR T N p 4 0 1000000 = (bk T N (p + i), some (nmv T p i)) := by
          unfold numR
          rw [hn, if_neg (by omega), hdg, if_neg (by decide), if_neg (by omega)]
        refine ⟨fun _ => ?_, fun q => absurd rfl q⟩
        rw [wp_ret, hr]
        exact ⟨RFr.up (by omega), rfl, hs.at hiN⟩
      | true =>
        obtain ⟨d1, d2, d3, d4⟩ := isD_in hdg
        refine ⟨fun q => absurd q (by decide), fun _ => ?_⟩
        rw [wp_bnd, wp_rdI, x11]
        refine ⟨rfl, ?_⟩
        rw [wp_if]
        refine ⟨fun q => absurd rfl q, fun _ => ?_⟩
        rw [wp_if, e4]
        refine ⟨fun _ => ?_, fun q => by omega⟩
        have ev : 10 * nI (nmv T p i) + nI (T (p + i)) - 48 = nI (nmv T p (i + 1)) := by
          have e2 : (10 : Int32) * nI (nmv T p i) = nI (10 * nmv T p i) := pk_mul 10 (nmv T p i)
          have e3 : nI (10 * nmv T p i + T (p + i)) - 48 = nI (10 * nmv T p i + T (p + i) - 48) := pk_sub (a := 10 * nmv T p i + T (p + i)) (b := 48) (by omega)
          rw [e2, nI_add, e3]
          show nI _ = nI (10 * nmv T p i + (T (p + i) - 48))
          congr 1
          omega
        rw [wp_bnd, wp_rdR (v := R) rfl ht.2.2.2.2.1, wp_bnd, wp_rdI, ht.2.2.2.2.2.1]
        refine ⟨rfl, ?_⟩
        rw [wp_bnd, wp_rdI, x10]
        refine ⟨rfl, ?_⟩
        rw [wp_bnd, ht.ld d1, by_n1 _ (by omega), ev, wp_let, wp_bnd, wp_rdI, x10]
        refine ⟨rfl, ?_⟩
        rw [wp_bnd, wp_wrI, nI_1, upI_two]
        refine ⟨rfl, ?_⟩
        rw [wp_let, nI_1]
        refine hj _ _ ⟨by omega, fun y hy => ?_, rfl, rfl⟩
        by_cases e : y = i
        · subst e; exact hdg
        · exact hd y (by omega)
    · rintro v τ ⟨hiN, hd, rfl, rfl⟩ j
      have ht := hs.1.up (k := 10) (v := nI (p + 4)) (by omega)
      have x10 : (sa_upI σ 159 10 (nI (p + 4))).1 159 10 = nI (p + 4) := by rw [upI_self, va_up_self]
      have x11 : (sa_upI σ 159 10 (nI (p + 4))).1 159 11 = -1 := by rw [upI_self, va_up_ne _ _ (by omega)]; exact hs.2.2.1
      have hn : ndg T N p 4 = 4 := ndg_of hd (Or.inl rfl) (by omega)
      have hv : nmv T p 4 < 10000 := nmv_le (T := T) (p := p) 4 (fun y hy => (isD_in (hd y hy)).2.2.2)
      rw [wp_bnd, wp_of_eq (m_dig ht hiN x10), wp_jn0, wp_if]
      cases hdg : isD (sgn T N (p + 4)) with
      | false =>
        have hr : numR T N p 4 0 1000000 = (bk T N (p + 4), some (nmv T p 4)) := by
          unfold numR
          rw [hn, if_neg (by omega), hdg, if_neg (by decide), if_neg (by omega)]
        refine ⟨fun _ => ?_, fun q => absurd rfl q⟩
        rw [wp_ret, hr]
        exact ⟨RFr.up (by omega), rfl, hs.at hiN⟩
      | true =>
        have hr : numR T N p 4 0 1000000 = (p + 4, none) := by
          unfold numR
          rw [hn, if_neg (by omega), hdg, if_pos rfl]
        have hf := m_fails x11
        rw [x10] at hf
        refine ⟨fun q => absurd q (by decide), fun _ => ?_⟩
        rw [wp_bnd, wp_rdI, x11]
        refine ⟨rfl, ?_⟩
        rw [wp_if]
        refine ⟨fun q => absurd rfl q, fun _ => ?_⟩
        rw [wp_if]
        refine ⟨fun q => absurd rfl q, fun _ => ?_⟩
        rw [wp_bnd, wp_of_eq hf, wp_ret, hr]
        exact ⟨(RFr.up (by omega)).trans (RFr.up (by omega)), by dsimp only; rw [upI_self, va_up_self]⟩
theorem m_goesIn (hs : RSt T N R o d p σ) (h10 : σ.1 159 10 = nI p) (hd : d ≤ 6) : f_X12_goesIn 159 σ = some (if d < 6 then (1, sa_upI (sa_upI σ 159 12 (nI (d + 1))) 159 10 (nI (p + 1))) else (0, sa_upI σ 159 11 (nI p))) := by
  have e6 : (nI d = 6) ↔ d = 6 := nI_eq (a := d) (b := 6) (by omega) (by omega)
  by_cases h : d < 6
  · rw [if_pos h]
    refine run_to ?_
    unfold f_X12_goesIn
    rw [wp_gd]
    refine ⟨rfl, ?_⟩
    rw [wp_bnd, wp_rdI, hs.2.2.2]
    refine ⟨rfl, ?_⟩
    rw [wp_if, e6]
    refine ⟨fun _ => ?_, fun q => by omega⟩
    rw [wp_bnd, wp_rdI, hs.2.2.2]
    refine ⟨rfl, ?_⟩
    rw [wp_bnd, wp_wrI, nI_1]
    refine ⟨rfl, ?_⟩
    rw [wp_bnd, wp_rdI, upI_self, va_up_ne _ _ (by omega), h10]
    refine ⟨rfl, ?_⟩
    rw [wp_bnd, wp_wrI, nI_1]
    refine ⟨rfl, ?_⟩
    rw [wp_retZ]
    exact ⟨Or.inr rfl, rfl, rfl⟩
  · rw [if_neg h]
    refine run_to ?_
    unfold f_X12_goesIn
    rw [wp_gd]
    refine ⟨rfl, ?_⟩
    rw [wp_bnd, wp_rdI, hs.2.2.2]
    refine ⟨rfl, ?_⟩
    rw [wp_if, e6]
    refine ⟨fun q => by omega, fun _ => ?_⟩
    rw [wp_bnd, wp_of_eq (hs.fail h10), wp_retZ]
    exact ⟨Or.inl rfl, rfl, rfl⟩
theorem RSt.deep (hs : RSt T N R o d p σ) {q : Nat} (hq : q ≤ N) {d2 : Nat} : RSt T N R o d2 (bk T N q) (sa_upI (sa_upI σ 159 12 (nI d2)) 159 10 (nI q)) := by
  obtain ⟨a, -, c, e⟩ := hs
  exact ⟨(a.up (by omega)).up (by omega), ⟨q, hq, rfl, by rw [upI_self, va_up_self]⟩, by rw [upI_self, va_up_ne _ _ (by omega), upI_self, va_up_ne _ _ (by omega)]; exact c, by rw [upI_self, va_up_ne _ _ (by omega), upI_self, va_up_self]⟩
/-- a closing sign, and out again -/
theorem m_close {c : Nat} {r0 : PRs} {v : Int32} {τ : sa_St} (hc : 0 < c ∧ c < 256) (hn : r0.1 ≤ 240) (hr : RPo T N R o (d + 1) g w h m t σ r0 v τ) {Q : Int32 → sa_St → Prop} (hno : ∀ υ q, RFr σ υ → υ.1 159 11 = nI q → (q, none) = clR T N c r0 → Q 0 υ) (hyes : ∀ υ q x, RFr σ υ → RSt T N R o (d + 1) q υ → (q, some x) = clR T N c r0 → v = x.2 g w h m t → Q 1 υ) : wp (f_X12_takes 159 (nI c)) τ Q := by
  obtain ⟨fr, hr⟩ := hr
  obtain ⟨q, mm⟩ := r0
  cases mm with
  | none =>
    have hr' : τ.1 159 11 = nI q := hr
    have h11 : ¬ τ.1 159 11 = -1 := fun e => by
      rw [hr'] at e
      have e' : nI q = mI := e
      rw [eq_mI (by dsimp only at hn; omega)] at e'
      exact e'
    rw [wp_of_eq (m_took h11)]
    exact hno τ q fr hr' rfl
  | some x =>
    obtain ⟨rfl, hs⟩ := hr
    have hs0 := hs
    obtain ⟨a, ⟨p', b1, b2, b3⟩, c1, e⟩ := hs
    have htk := m_takesC a b1 b3 c1 hc.1 hc.2
    dsimp only at b2
    rw [b2] at htk
    by_cases hsg : sgn T N q = c
    · have hin := sgn_in hc.1 hsg
      rw [if_pos hsg] at htk
      rw [wp_of_eq htk]
      refine hyes _ (bk T N (q + 1)) x (fr.trans (RFr.up (by omega))) (hs0.at (by omega)) ?_ rfl
      unfold clR
      dsimp only
      rw [if_pos hsg]
    · rw [if_neg hsg] at htk
      rw [wp_of_eq htk]
      refine hno _ q (fr.trans ((RFr.up (by omega)).trans (RFr.up (by omega)))) (by rw [upI_self, va_up_self]) ?_
      unfold clR
      dsimp only
      rw [if_neg hsg]
end RSM
