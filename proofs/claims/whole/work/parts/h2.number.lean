/-! TEXTS: a number by the class; how the reference looks -/
section NUM
variable {T : Nat → Nat} {N p : Nat} {σ : sa_St}
theorem nmv_le {T : Nat → Nat} {p : Nat} : ∀ n, (∀ y, y < n → T (p + y) ≤ 57) → nmv T p n < 10 ^ n := by
  intro n
  induction n with
  | zero => intro _; exact (by decide : 0 < 1)
  | succ n ih =>
    intro h
    have h1 := ih (fun y hy => h y (by omega))
    have h2 := h n (by omega)
    show 10 * nmv T p n + (T (p + n) - 48) < 10 ^ (n + 1)
    rw [Nat.pow_succ]
    omega
theorem c_number {a lo hi : Nat} (h : CTp T N σ) (hp : p ≤ N) (ha : σ.1 1 2 = nI p) (a4 : a ≤ 4) (hlo : lo < 2 ^ 31) (hhi : hi < 2 ^ 31) : f_X7_takeNumber 1 (nI a) (nI lo) (nI hi) σ = some (oI (numR T N p a lo hi).2, sa_upI σ 1 2 (nI (numR T N p a lo hi).1)) := by
  have h240 := h.2.1
  have x2 : ∀ q : Nat, (sa_upI σ 1 2 (nI q)).1 1 2 = nI q := fun q => by rw [upI_self, va_up_self]
  refine run_to ?_
  unfold f_X7_takeNumber
  rw [wp_gd]
  refine ⟨rfl, ?_⟩
  rw [wp_let, wp_let]
  have fin : ∀ i, i ≤ a → p + i ≤ N → (∀ y, y < i → isD (sgn T N (p + y)) = true) → (i = a ∨ isD (sgn T N (p + i)) = false) → wp (sa_jn0 (sa_ret ((-1) : Int32)) fun j68 =>
if nI i = 0 then
j68
else
sa_bnd (f_X7_sign 1) fun v5 =>
sa_bnd (f_X7_isDigit v5) fun v6 =>
if v6 = 0 then
sa_jn0 (sa_bnd (sa_rdI 7 1 2) fun v7 =>
sa_bnd (sa_wrI 7 1 2 (v7 - 1)) fun _ =>
sa_ret ((-1) : Int32)) fun j82 =>
if nI (nmv T p i) < nI lo then
j82
else
if nI (nmv T p i) ≤ nI hi then
sa_bnd (f_X7_skipBlanks 1) fun _ =>
sa_ret (nI (nmv T p i) : Int32)
else
j82
else
j68) (sa_upI σ 1 2 (nI (p + i))) (fun r τ => r = oI (numR T N p a lo hi).2 ∧ τ = sa_upI σ 1 2 (nI (numR T N p a lo hi).1)) := by
    intro i hi1 hiN hd hx
    have hn := ndg_of hd hx hi1
    have hv : nmv T p i < 10000 := by
      have h1 := nmv_le (T := T) (p := p) i (fun y hy => (isD_in (hd y hy)).2.2.2)
      have h2 : 10 ^ i ≤ 10 ^ 4 := Nat.pow_le_pow_right (by omega) (by omega)
      omega
    have e0 : (nI i = 0) ↔ i = 0 := nI_eq (a := i) (b := 0) (by omega) (by omega)
    unfold numR
    rw [hn, wp_jn0, wp_if, e0]
    refine ⟨fun q => ?_, fun q => ?_⟩
    · rw [if_pos q, wp_ret, q]
      exact ⟨rfl, rfl⟩
    · rw [if_neg q, wp_bnd, wp_of_eq (c_sign (p := p + i) h.at hiN (x2 _)), wp_bnd, wp_of_eq (c_dig (sgn_lt h)), wp_if]
      cases hdg : isD (sgn T N (p + i)) with
      | true =>
        refine ⟨fun q => absurd q (by decide), fun _ => ?_⟩
        rw [wp_ret, if_pos rfl]
        exact ⟨rfl, rfl⟩
      | false =>
        refine ⟨fun _ => ?_, fun q => absurd rfl q⟩
        rw [if_neg (show ¬ false = true by decide)]
        have bad : nmv T p i < lo ∨ hi < nmv T p i → wp (sa_bnd (sa_rdI 7 1 2) fun v7 => sa_bnd (sa_wrI 7 1 2 (v7 - 1)) fun _ => sa_ret ((-1) : Int32)) (sa_upI σ 1 2 (nI (p + i))) (fun r τ => r = oI (if nmv T p i < lo ∨ hi < nmv T p i then (p + i - 1, none) else (bk T N (p + i), some (nmv T p i))).2 ∧ τ = sa_upI σ 1 2 (nI (if nmv T p i < lo ∨ hi < nmv T p i then (p + i - 1, none) else (bk T N (p + i), some (nmv T p i))).1)) := fun hb => by
          have ep : nI (p + i) - 1 = nI (p + i - 1) := by
            obtain ⟨y, hy⟩ : ∃ y, p + i = y + 1 := ⟨p + i - 1, by omega⟩
            rw [hy]
            exact nI_pred y
          rw [if_pos hb, wp_bnd, wp_rdI, x2]
          refine ⟨rfl, ?_⟩
          rw [wp_bnd, wp_wrI, ep, upI_two]
          refine ⟨rfl, ?_⟩
          rw [wp_ret]
          exact ⟨rfl, rfl⟩
        rw [wp_jn0, wp_if, nI_ltI (by omega) hlo]
        refine ⟨fun q2 => bad (Or.inl q2), fun q2 => ?_⟩
        rw [wp_if, nI_leI (by omega) hhi]
        refine ⟨fun q3 => ?_, fun q3 => bad (Or.inr (by omega))⟩
        rw [if_neg (show ¬ (nmv T p i < lo ∨ hi < nmv T p i) by omega), wp_bnd, wp_of_eq (c_skip (p := p + i) h.at hiN (x2 _)), wp_ret, upI_two]
        exact ⟨rfl, rfl⟩
  refine wp_for2 a 0 (fun i v τ => p + i ≤ N ∧ (∀ y, y < i → isD (sgn T N (p + y)) = true) ∧ v = nI (nmv T p i) ∧ τ = sa_upI σ 1 2 (nI (p + i))) ?_ ?_ ⟨hp, fun y hy => by omega, rfl, (upI_id ha).symm⟩ (Nat.zero_le _) (by unfold sa_F; omega)
  · rintro i v τ hi1 ⟨hiN, hd, rfl, rfl⟩ j hj
    have hs := c_sign (p := p + i) (h.at (q := nI (p + i))) hiN (x2 _)
    rw [wp_jn0, wp_if, nI_leI (by omega) (by omega)]
    refine ⟨fun q => by omega, fun _ => ?_⟩
    rw [wp_bnd, wp_of_eq hs, wp_bnd, wp_of_eq (c_dig (sgn_lt h)), wp_if]
    cases hdg : isD (sgn T N (p + i)) with
    | false =>
      refine ⟨fun _ => fin i (by omega) hiN hd (Or.inr hdg), fun q => absurd rfl q⟩
    | true =>
      obtain ⟨d1, d2, d3, d4⟩ := isD_in hdg
      have ev : nI (nmv T p i) * 10 + (nI (T (p + i)) - 48) = nI (nmv T p (i + 1)) := by
        have e1 : nI (T (p + i)) - 48 = nI (T (p + i) - 48) := pk_sub (a := T (p + i)) (b := 48) (by omega)
        have e2 : nI (nmv T p i) * 10 = nI (nmv T p i * 10) := pk_mul (nmv T p i) 10
        rw [e1, e2, nI_add]
        show nI _ = nI (10 * nmv T p i + (T (p + i) - 48))
        rw [Nat.mul_comm]
      refine ⟨fun q => absurd q (by decide), fun _ => ?_⟩
      rw [wp_bnd, wp_of_eq hs, d2, ev, wp_let, wp_bnd, wp_rdI, x2]
      refine ⟨rfl, ?_⟩
      rw [wp_bnd, wp_wrI, nI_1, upI_two]
      refine ⟨rfl, ?_⟩
      rw [wp_let, nI_1]
      refine hj _ _ ⟨by omega, fun y hy => ?_, rfl, rfl⟩
      by_cases e : y = i
      · subst e; exact hdg
      · exact hd y (by omega)
  · rintro v τ ⟨hiN, hd, rfl, rfl⟩ j
    rw [wp_jn0, wp_if]
    refine ⟨fun _ => fin a (Nat.le_refl _) hiN hd (Or.inl rfl), fun q => absurd (nI_le (Nat.le_refl _) (by omega)) q⟩
end NUM
/-- the reference's text: its row, where it begins -/
def RTp (T : Nat → Nat) (N R o : Nat) (σ : sa_St) : Prop := SK σ.2.1 ∧ N ≤ 240 ∧ (∀ i, i < N → 0 < T i ∧ T i < 256) ∧ ((R = 160 ∧ o = 0) ∨ (R = 161 ∧ o ≤ 720)) ∧ σ.2.1 159 5 = R + 1 ∧ σ.1 159 8 = nI o ∧ σ.1 159 9 = nI N ∧ ∀ i, i < N → σ.1 R (o + i) = vp_nar .byte (nI (T i))
def lkv (T : Nat → Nat) (N p : Nat) : Int32 := if p < N then nI (T p) else mI
theorem by_n1 : ∀ b, b < 128 → vp_nar .byte (nI b) = nI b := by decide
theorem by_n2 : ∀ b, b < 128 → vp_nar .byte (nI (128 + b)) < 0 ∧ vp_nar .byte (nI (128 + b)) &&& 255 = nI (128 + b) := by decide
theorem by_n3 : ∀ b, b < 128 → nI b &&& 255 = nI b := by decide
theorem by_and (b : Nat) (hb : b < 256) : vp_nar .byte (nI b) &&& 255 = nI b := by
  by_cases h : b < 128
  · rw [by_n1 b h, by_n3 b h]
  · obtain ⟨d, rfl⟩ : ∃ d, b = 128 + d := ⟨b - 128, by omega⟩
    exact (by_n2 d (by omega)).2
theorem by_eq {b c : Nat} (hb : b < 256) (hc : c < 128) : (vp_nar .byte (nI b) = nI c) ↔ b = c := by
  by_cases h : b < 128
  · rw [by_n1 b h, nI_eq (by omega) (by omega)]
  · obtain ⟨d, rfl⟩ : ∃ d, b = 128 + d := ⟨b - 128, by omega⟩
    have := (by_n2 d (by omega)).1
    constructor
    · intro e
      rw [e] at this
      exact absurd this (nI_pos (by omega))
    · intro e
      omega
theorem by_dig {b : Nat} (hb : b < 256) : (¬ vp_nar .byte (nI b) < 48 ∧ ¬ 57 < vp_nar .byte (nI b)) ↔ isD b = true := by
  unfold isD
  rw [decide_eq_true_iff]
  by_cases h : b < 128
  · have e1 : (nI b < 48) ↔ b < 48 := nI_ltI (a := b) (b := 48) (by omega) (by omega)
    have e2 : ((57 : Int32) < nI b) ↔ 57 < b := nI_ltI (a := 57) (b := b) (by omega) (by omega)
    rw [by_n1 b h, e1, e2]
    omega
  · obtain ⟨d, rfl⟩ : ∃ d, b = 128 + d := ⟨b - 128, by omega⟩
    have h1 := (by_n2 d (by omega)).1
    have h2 : vp_nar .byte (nI (128 + d)) < 48 := by
      rw [Int32.lt_iff_toInt_lt] at h1 ⊢
      have e0 : (0 : Int32).toInt = 0 := by decide
      have e48 : (48 : Int32).toInt = 48 := by decide
      omega
    constructor
    · intro e
      exact absurd h2 e.1
    · intro e
      omega
section LOOK
variable {T : Nat → Nat} {N R o p : Nat} {σ : sa_St}
theorem RTp.up (h : RTp T N R o σ) {k : Nat} {v : Int32} (hk : k ≠ 8 ∧ k ≠ 9) : RTp T N R o (sa_upI σ 159 k v) := by
  obtain ⟨a, b, c, d, e, f, g, i⟩ := h
  exact ⟨a, b, c, d, e, by rw [upI_self, va_up_ne _ _ (by omega)]; exact f, by rw [upI_self, va_up_ne _ _ (by omega)]; exact g, fun y hy => by rw [upI_ne (by omega)]; exact i y hy⟩
theorem RTp.ld (h : RTp T N R o σ) (hp : p < N) {Q : Int32 → sa_St → Prop} : wp (sa_ldI .byte R (nI o + nI p)) σ Q ↔ Q (vp_nar .byte (nI (T p))) σ := by
  obtain ⟨a, b, c, d, e, f, g, i⟩ := h
  rcases d with ⟨rfl, rfl⟩ | ⟨rfl, d⟩
  · rw [wp_ldI (n := 0 + p) (len := 240) al_160 (nI_add 0 p) (by omega) (by omega), i p hp]
  · rw [wp_ldI (n := o + p) (len := 960) al_161 (nI_add o p) (by omega) (by omega), i p hp]
theorem m_look (h : RTp T N R o σ) (hp : p ≤ N) (ha : σ.1 159 10 = nI p) : f_X12_look 159 σ = some (lkv T N (bk T N p), sa_upI σ 159 10 (nI (bk T N p))) := by
  have h240 := h.2.1
  refine run_to ?_
  unfold f_X12_look
  rw [wp_gd]
  refine ⟨rfl, ?_⟩
  refine wp_wh0 (fun m τ => ∃ q, p ≤ q ∧ q ≤ N ∧ m = N - q ∧ bk T N q = bk T N p ∧ τ = sa_upI σ 159 10 (nI q)) ?_ sa_F (N - p) σ (by unfold sa_F; omega) ⟨p, Nat.le_refl _, hp, rfl, rfl, (upI_id ha).symm⟩
  rintro m τ ⟨q, q1, q2, rfl, q3, rfl⟩ j hj
  have hq := h.up (k := 10) (v := nI q) (by omega)
  have x10 : (sa_upI σ 159 10 (nI q)).1 159 10 = nI q := by rw [upI_self, va_up_self]
  generalize hS : sa_upI σ 159 10 (nI q) = S at hq x10
  obtain ⟨a, b, c, d, e, f, g, i⟩ := hq
  rw [wp_bnd, wp_rdI, x10]
  refine ⟨rfl, ?_⟩
  rw [wp_bnd, wp_rdI, g]
  refine ⟨rfl, ?_⟩
  rw [wp_jn0, wp_if, nI_leI (by omega) (by omega)]
  have fin : ¬ (q < N ∧ T q = 32) → wp (sa_bnd (sa_rdI 12 159 10) fun v3 =>
sa_bnd (sa_rdI 12 159 9) fun v4 =>
sa_jn1 (fun (y5 : Int32) =>
sa_ret (y5 : Int32)) fun j76 =>
if v4 ≤ v3 then
j76 (-1)
else
sa_bnd (sa_rdR 12 159 5) fun v6 =>
sa_bnd (sa_rdI 12 159 8) fun v7 =>
sa_bnd (sa_rdI 12 159 10) fun v8 =>
sa_bnd (sa_ldI .byte v6 (v7 + v8)) fun v9 =>
j76 (v9 &&& 255)) S (fun r τ => r = lkv T N (bk T N p) ∧ τ = sa_upI σ 159 10 (nI (bk T N p))) := fun hn => by
    rw [← q3, bk_of hn, wp_bnd, wp_rdI, x10]
    refine ⟨rfl, ?_⟩
    rw [wp_bnd, wp_rdI, g]
    refine ⟨rfl, ?_⟩
    rw [wp_jn1, wp_if, nI_leI (by omega) (by omega)]
    unfold lkv
    refine ⟨fun c2 => ?_, fun c2 => ?_⟩
    · rw [wp_ret, if_neg (by omega)]
      exact ⟨rfl, hS.symm⟩
    · rw [if_pos (show q < N by omega), wp_bnd, wp_rdR (v := R) rfl e, wp_bnd, wp_rdI, f]
      refine ⟨rfl, ?_⟩
      rw [wp_bnd, wp_rdI, x10]
      refine ⟨rfl, ?_⟩
      rw [wp_bnd, RTp.ld ⟨a, b, c, d, e, f, g, i⟩ (show q < N by omega), wp_ret, by_and _ (c q (by omega)).2]
      exact ⟨rfl, hS.symm⟩
  refine ⟨fun c2 => fin (by omega), fun c2 => ?_⟩
  have hqN : q < N := by omega
  rw [wp_bnd, wp_rdR (v := R) rfl e, wp_bnd, wp_rdI, f]
  refine ⟨rfl, ?_⟩
  rw [wp_bnd, wp_rdI, x10]
  refine ⟨rfl, ?_⟩
  rw [wp_bnd, RTp.ld ⟨a, b, c, d, e, f, g, i⟩ hqN, wp_if]
  have e32 : (vp_nar .byte (nI (T q)) = 32) ↔ T q = 32 := by_eq (c := 32) (c q hqN).2 (by omega)
  rw [e32]
  refine ⟨fun c3 => fin (fun h => c3 h.2), fun c3 => ?_⟩
  rw [wp_bnd, wp_rdI, x10]
  refine ⟨rfl, ?_⟩
  rw [wp_bnd, wp_wrI]
  refine ⟨rfl, ?_⟩
  rw [nI_1, ← hS, upI_two]
  exact hj (N - (q + 1)) _ (by omega) ⟨q + 1, by omega, by omega, rfl, by rw [← q3, bk_sp hqN (Decidable.not_not.mp c3)], rfl⟩
theorem m_fails (h11 : σ.1 159 11 = -1) : f_X12_fails 159 σ = some (0, sa_upI σ 159 11 (σ.1 159 10)) := by
  refine run_to ?_
  unfold f_X12_fails
  rw [wp_gd]
  refine ⟨rfl, ?_⟩
  rw [wp_bnd, wp_rdI, h11]
  refine ⟨rfl, ?_⟩
  rw [wp_jn0, wp_if]
  refine ⟨fun q => absurd rfl q, fun _ => ?_⟩
  rw [wp_bnd, wp_rdI]
  refine ⟨rfl, ?_⟩
  rw [wp_bnd, wp_wrI]
  refine ⟨rfl, ?_⟩
  rw [wp_retZ]
  exact ⟨Or.inl rfl, rfl, rfl⟩
theorem m_failed (h11 : ¬ σ.1 159 11 = -1) : f_X12_fails 159 σ = some (0, σ) := by
  refine run_of ?_
  unfold f_X12_fails
  rw [wp_gd]
  refine ⟨rfl, ?_⟩
  rw [wp_bnd, wp_rdI]
  refine ⟨rfl, ?_⟩
  rw [wp_jn0, wp_if]
  refine ⟨fun _ => ?_, fun q => absurd h11 q⟩
  rw [wp_retZ]
  exact ⟨Or.inl rfl, rfl, rfl⟩
theorem m_takesC {c : Nat} (h : RTp T N R o σ) (hp : p ≤ N) (ha : σ.1 159 10 = nI p) (h11 : σ.1 159 11 = -1) (hc : 0 < c) (hc2 : c < 256) : f_X12_takes 159 (nI c) σ = some (if sgn T N (bk T N p) = c then (1, sa_upI σ 159 10 (nI (bk T N p + 1))) else (0, sa_upI (sa_upI σ 159 10 (nI (bk T N p))) 159 11 (nI (bk T N p)))) := by
  have hl := m_look h hp ha
  have hle := bk_le (T := T) hp
  have hlk : (lkv T N (bk T N p) = nI c) ↔ sgn T N (bk T N p) = c := by
    unfold lkv sgn
    split
    · exact nI_eq (by have := (h.2.2.1 _ (by assumption)).2; omega) (by omega)
    · constructor
      · intro e
        have e' : nI c = mI := e.symm
        rw [eq_mI (by omega)] at e'
        exact e'.elim
      · intro e; omega
  have y11 : (sa_upI σ 159 10 (nI (bk T N p))).1 159 11 = -1 := by rw [upI_self, va_up_ne _ _ (by omega)]; exact h11
  have y10 : (sa_upI σ 159 10 (nI (bk T N p))).1 159 10 = nI (bk T N p) := by rw [upI_self, va_up_self]
  have hf := m_fails y11
  rw [y10] at hf
  by_cases e : sgn T N (bk T N p) = c
  · rw [if_pos e]
    refine run_to ?_
    unfold f_X12_takes
    rw [wp_gd]
    refine ⟨rfl, ?_⟩
    rw [wp_bnd, wp_rdI, h11]
    refine ⟨rfl, ?_⟩
    rw [wp_jn0, wp_if]
    refine ⟨fun q => absurd rfl q, fun _ => ?_⟩
    rw [wp_bnd, wp_of_eq hl, wp_if, hlk]
    refine ⟨fun _ => ?_, fun q => absurd e q⟩
    rw [wp_bnd, wp_rdI, y10]
    refine ⟨rfl, ?_⟩
    rw [wp_bnd, wp_wrI, nI_1, upI_two]
    refine ⟨rfl, ?_⟩
    rw [wp_retZ]
    exact ⟨Or.inr rfl, rfl, rfl⟩
  · rw [if_neg e]
    refine run_to ?_
    unfold f_X12_takes
    rw [wp_gd]
    refine ⟨rfl, ?_⟩
    rw [wp_bnd, wp_rdI, h11]
    refine ⟨rfl, ?_⟩
    rw [wp_jn0, wp_if]
    refine ⟨fun q => absurd rfl q, fun _ => ?_⟩
    rw [wp_bnd, wp_of_eq hl, wp_if, hlk]
    refine ⟨fun q => absurd q e, fun _ => ?_⟩
    rw [wp_bnd, wp_of_eq hf, wp_retZ]
    exact ⟨Or.inl rfl, rfl, rfl⟩
theorem m_took {c : Int32} (h11 : ¬ σ.1 159 11 = -1) : f_X12_takes 159 c σ = some (0, σ) := by
  refine run_of ?_
  unfold f_X12_takes
  rw [wp_gd]
  refine ⟨rfl, ?_⟩
  rw [wp_bnd, wp_rdI]
  refine ⟨rfl, ?_⟩
  rw [wp_jn0, wp_if]
  refine ⟨fun _ => ?_, fun q => absurd h11 q⟩
  rw [wp_bnd, wp_of_eq (m_failed h11), wp_retZ]
  exact ⟨Or.inl rfl, rfl, rfl⟩
theorem m_dig (h : RTp T N R o σ) (hp : p ≤ N) (ha : σ.1 159 10 = nI p) : f_X12_isDigit 159 σ = some (nI (if isD (sgn T N p) then 1 else 0), σ) := by
  have h0 := h
  obtain ⟨a, b, c, d, e, f, g, i⟩ := h
  refine run_of ?_
  unfold f_X12_isDigit
  rw [wp_gd]
  refine ⟨rfl, ?_⟩
  rw [wp_bnd, wp_rdI, ha]
  refine ⟨rfl, ?_⟩
  rw [wp_bnd, wp_rdI, g]
  refine ⟨rfl, ?_⟩
  rw [wp_jn1, wp_jn0, wp_if, nI_leI (by omega) (by omega)]
  refine ⟨fun c2 => ?_, fun c2 => ?_⟩
  · have : sgn T N p = 0 := by unfold sgn; rw [if_neg (by omega)]
    rw [wp_retZ, this]
    exact ⟨Or.inl rfl, rfl, rfl⟩
  · have hpN : p < N := by omega
    have hs : sgn T N p = T p := by unfold sgn; rw [if_pos hpN]
    have hb := by_dig (c p hpN).2
    rw [hs, wp_bnd, wp_rdR (v := R) rfl e, wp_bnd, wp_rdI, f]
    refine ⟨rfl, ?_⟩
    rw [wp_bnd, wp_rdI, ha]
    refine ⟨rfl, ?_⟩
    rw [wp_bnd, h0.ld hpN, wp_if]
    have no : ¬ isD (T p) = true → wp (sa_retZ 0) σ (fun r τ => r = nI (if isD (T p) then 1 else 0) ∧ τ = σ) := fun hn => by
      rw [wp_retZ, if_neg hn]
      exact ⟨Or.inl rfl, rfl, rfl⟩
    refine ⟨fun q => no (fun hd => (hb.mpr hd).1 q), fun q => ?_⟩
    rw [wp_bnd, wp_rdR (v := R) rfl e, wp_bnd, wp_rdI, f]
    refine ⟨rfl, ?_⟩
    rw [wp_bnd, wp_rdI, ha]
    refine ⟨rfl, ?_⟩
    rw [wp_bnd, h0.ld hpN, wp_if]
    refine ⟨fun q2 => no (fun hd => (hb.mpr hd).2 q2), fun q2 => ?_⟩
    rw [wp_retZ, if_pos (hb.mp ⟨q, q2⟩)]
    exact ⟨Or.inr rfl, rfl, rfl⟩
end LOOK
