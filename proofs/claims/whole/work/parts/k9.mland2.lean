/-! TEXTS: lands, by the reference: all of them -/
section MLAND2
variable {T : Nat → Nat} {N : Nat} {σ : sa_St} {l : LDr}
theorem bI {b : Bool} {c : Prop} (h : (nI (if b then 1 else 0) : Int32) = 0 → c) : b = false → c := fun e => h (by rw [e]; rfl)
theorem m_isWhole (hk : SK σ.2.1) (hl : LOk l) (hd : RLd l σ) : f_X12_isWhole 159 σ = some (nI (if whB l then 1 else 0), σ) := by
  have l0 : (l 0).length ≤ 8 := (hl 0 (by omega)).1
  have l1 : (l 1).length ≤ 12 := (hl 1 (by omega)).1
  have l2 : (l 2).length ≤ 5 := (hl 2 (by omega)).1
  have l3 : (l 3).length ≤ 3 := (hl 3 (by omega)).1
  have d0 : σ.1 159 28 = nI (l 0).length := (hd 0 (by omega)).1
  have d1 : σ.1 159 29 = nI (l 1).length := (hd 1 (by omega)).1
  have d2 : σ.1 159 30 = nI (l 2).length := (hd 2 (by omega)).1
  have d3 : σ.1 159 31 = nI (l 3).length := (hd 3 (by omega)).1
  refine run_of ?_
  unfold f_X12_isWhole
  rw [wp_gd]
  refine ⟨rfl, ?_⟩
  -- the last loop: foes
  have L3 : ∀ b : Bool, (b = true ↔ (2 ≤ (l 0).length ∧ 1 ≤ (l 2).length) ∧ wyB l = true ∧ atB l 2 = true) → wp (sa_let (0 : Int32) fun x11 =>
sa_wh2 (fun j143 (x12 : Int32) (x13 : Int32) =>
sa_bnd (sa_rdI 12 159 31) fun v14 =>
if v14 ≤ x13 then
sa_retZ x12
else
sa_jn1 (fun (y15 : Int32) =>
sa_let ((x13 + 1) : Int32) fun x16 =>
j143 y15 x16) fun j175 =>
sa_jn0 (j175 0) fun j174 =>
if x12 = 0 then
j174
else
sa_bnd (sa_rdR 12 159 24) fun v17 =>
sa_bnd (sa_ldI .int v17 (2 * x13)) fun v18 =>
sa_bnd (sa_rdI 12 159 28) fun v19 =>
if v19 ≤ v18 then
j174
else
j175 1) sa_F (nI (if b then 1 else 0)) x11) σ (fun r τ => r = nI (if whB l then 1 else 0) ∧ τ = σ) := by
    intro b hb
    rw [wp_let]
    refine wp_for2 (l 3).length 0 (fun x a τ => τ = σ ∧ ∃ c : Bool, a = nI (if c then 1 else 0) ∧ (c = true ↔ b = true ∧ ∀ y, y < x → (l 3).getD y (fun _ => 0) 0 < nI (l 0).length)) ?_ ?_ ⟨rfl, b, rfl, fun h => ⟨h, fun y hy => by omega⟩, fun h => h.1⟩ (Nat.zero_le _) (by unfold sa_F; omega)
    · rintro x a τ hx ⟨rfl, c, rfl, hc⟩ j hj
      obtain ⟨n, n1, n2⟩ := rw_pl (i := 0) hl (k := 3) (by omega) hx (by decide)
      have hcell : τ.1 170 (2 * x) = nI n := by
        have := (hd 3 (by omega)).2 x hx 0 (by decide)
        rw [n2] at this
        exact this
      have e2 : (2 : Int32) * nI x = nI (2 * x) := pk_mul 2 x
      have lt : (nI n < nI (l 0).length) ↔ n < (l 0).length := nI_ltI (by omega) (by omega)
      have no : ¬ (c = true ∧ n < (l 0).length) → wp (j 0 (nI x + 1)) τ (fun r υ => r = nI (if whB l then 1 else 0) ∧ υ = τ) := fun h => by
        rw [nI_1]
        refine hj _ _ ⟨rfl, false, rfl, (fun h => by cases h), fun h2 => absurd ⟨hc.mpr ⟨h2.1, fun y hy => h2.2 y (by omega)⟩, ?_⟩ h⟩
        have := h2.2 x (by omega)
        rw [n2] at this
        exact lt.mp this
      rw [wp_bnd, wp_rdI, d3]
      refine ⟨rfl, ?_⟩
      rw [wp_if]
      refine ⟨fun q => absurd q (nI_ge hx (by omega)), fun _ => ?_⟩
      rw [wp_jn1, wp_jn0, wp_if]
      cases c with
      | false =>
        refine ⟨fun _ => ?_, fun q => absurd rfl q⟩
        rw [wp_let]
        exact no (fun h => by cases h.1)
      | true =>
        refine ⟨fun q => absurd q (by decide), fun _ => ?_⟩
        rw [wp_bnd, wp_rdR (v := 170) rfl (sk_159_24 hk), wp_bnd, e2, wp_ldI (n := 2 * x) (len := 6) al_170 rfl (by omega) (by omega), hcell, wp_bnd, wp_rdI, d0]
        refine ⟨rfl, ?_⟩
        rw [wp_if, nI_leI (by omega) (by omega)]
        refine ⟨fun c2 => ?_, fun c2 => ?_⟩
        · rw [wp_let]
          exact no (fun h => by omega)
        · rw [wp_let, nI_1]
          refine hj _ _ ⟨rfl, true, rfl, fun _ => ⟨(hc.mp rfl).1, fun y hy => ?_⟩, fun _ => rfl⟩
          by_cases e : y = x
          · subst e; rw [n2]; exact lt.mpr (by omega)
          · exact (hc.mp rfl).2 y (by omega)
    · rintro a τ ⟨rfl, c, rfl, hc⟩ j
      rw [wp_bnd, wp_rdI, d3]
      refine ⟨rfl, ?_⟩
      rw [wp_if]
      refine ⟨fun _ => ?_, fun q => absurd (nI_le (Nat.le_refl _) (by omega)) q⟩
      have hcw : c = whB l := by
        have h3 : atB l 3 = true ↔ ∀ y, y < (l 3).length → (l 3).getD y (fun _ => 0) 0 < nI (l 0).length := by
          unfold atB
          rw [all_ix (d := fun _ => 0)]
          exact ⟨fun h y hy => of_decide_eq_true (h y hy), fun h y hy => decide_eq_true (h y hy)⟩
        have hw := wh_eq (l := l)
        rw [Bool.eq_iff_iff, hc, hb, hw, h3]
        constructor
        · rintro ⟨⟨⟨a, b⟩, c, d⟩, e⟩; exact ⟨a, b, c, d, e⟩
        · rintro ⟨a, b, c, d, e⟩; exact ⟨⟨⟨a, b⟩, c, d⟩, e⟩
      rw [wp_retZ, hcw]
      refine ⟨?_, rfl, rfl⟩
      cases whB l with
      | true => exact Or.inr rfl
      | false => exact Or.inl rfl
  -- companies
  have L2 : ∀ b : Bool, (b = true ↔ (2 ≤ (l 0).length ∧ 1 ≤ (l 2).length) ∧ wyB l = true) → wp (sa_let (0 : Int32) fun x7 =>
sa_wh2 (fun j102 (x8 : Int32) (x9 : Int32) =>
sa_bnd (sa_rdI 12 159 30) fun v10 =>
if v10 ≤ x9 then
sa_let (0 : Int32) fun x11 =>
sa_wh2 (fun j143 (x12 : Int32) (x13 : Int32) =>
sa_bnd (sa_rdI 12 159 31) fun v14 =>
if v14 ≤ x13 then
sa_retZ x12
else
sa_jn1 (fun (y15 : Int32) =>
sa_let ((x13 + 1) : Int32) fun x16 =>
j143 y15 x16) fun j175 =>
sa_jn0 (j175 0) fun j174 =>
if x12 = 0 then
j174
else
sa_bnd (sa_rdR 12 159 24) fun v17 =>
sa_bnd (sa_ldI .int v17 (2 * x13)) fun v18 =>
sa_bnd (sa_rdI 12 159 28) fun v19 =>
if v19 ≤ v18 then
j174
else
j175 1) sa_F x8 x11
else
sa_jn1 (fun (y20 : Int32) =>
sa_let ((x9 + 1) : Int32) fun x21 =>
j102 y20 x21) fun j134 =>
sa_jn0 (j134 0) fun j133 =>
if x8 = 0 then
j133
else
sa_bnd (sa_rdR 12 159 22) fun v22 =>
sa_bnd (sa_ldI .int v22 (5 * x9)) fun v23 =>
sa_bnd (sa_rdI 12 159 28) fun v24 =>
if v24 ≤ v23 then
j133
else
j134 1) sa_F (nI (if b then 1 else 0)) x7) σ (fun r τ => r = nI (if whB l then 1 else 0) ∧ τ = σ) := by
    intro b hb
    rw [wp_let]
    refine wp_for2 (l 2).length 0 (fun x a τ => τ = σ ∧ ∃ c : Bool, a = nI (if c then 1 else 0) ∧ (c = true ↔ b = true ∧ ∀ y, y < x → (l 2).getD y (fun _ => 0) 0 < nI (l 0).length)) ?_ ?_ ⟨rfl, b, rfl, fun h => ⟨h, fun y hy => by omega⟩, fun h => h.1⟩ (Nat.zero_le _) (by unfold sa_F; omega)
    · rintro x a τ hx ⟨rfl, c, rfl, hc⟩ j hj
      obtain ⟨n, n1, n2⟩ := rw_pl (i := 0) hl (k := 2) (by omega) hx (by decide)
      have hcell : τ.1 168 (5 * x) = nI n := by
        have := (hd 2 (by omega)).2 x hx 0 (by decide)
        rw [n2] at this
        exact this
      have e2 : (5 : Int32) * nI x = nI (5 * x) := pk_mul 5 x
      have lt : (nI n < nI (l 0).length) ↔ n < (l 0).length := nI_ltI (by omega) (by omega)
      have no : ¬ (c = true ∧ n < (l 0).length) → wp (j 0 (nI x + 1)) τ (fun r υ => r = nI (if whB l then 1 else 0) ∧ υ = τ) := fun h => by
        rw [nI_1]
        refine hj _ _ ⟨rfl, false, rfl, (fun h => by cases h), fun h2 => absurd ⟨hc.mpr ⟨h2.1, fun y hy => h2.2 y (by omega)⟩, ?_⟩ h⟩
        have := h2.2 x (by omega)
        rw [n2] at this
        exact lt.mp this
      rw [wp_bnd, wp_rdI, d2]
      refine ⟨rfl, ?_⟩
      rw [wp_if]
      refine ⟨fun q => absurd q (nI_ge hx (by omega)), fun _ => ?_⟩
      rw [wp_jn1, wp_jn0, wp_if]
      cases c with
      | false =>
        refine ⟨fun _ => ?_, fun q => absurd rfl q⟩
        rw [wp_let]
        exact no (fun h => by cases h.1)
      | true =>
        refine ⟨fun q => absurd q (by decide), fun _ => ?_⟩
        rw [wp_bnd, wp_rdR (v := 168) rfl (sk_159_22 hk), wp_bnd, e2, wp_ldI (n := 5 * x) (len := 25) al_168 rfl (by omega) (by omega), hcell, wp_bnd, wp_rdI, d0]
        refine ⟨rfl, ?_⟩
        rw [wp_if, nI_leI (by omega) (by omega)]
        refine ⟨fun c2 => ?_, fun c2 => ?_⟩
        · rw [wp_let]
          exact no (fun h => by omega)
        · rw [wp_let, nI_1]
          refine hj _ _ ⟨rfl, true, rfl, fun _ => ⟨(hc.mp rfl).1, fun y hy => ?_⟩, fun _ => rfl⟩
          by_cases e : y = x
          · subst e; rw [n2]; exact lt.mpr (by omega)
          · exact (hc.mp rfl).2 y (by omega)
    · rintro a τ ⟨rfl, c, rfl, hc⟩ j
      rw [wp_bnd, wp_rdI, d2]
      refine ⟨rfl, ?_⟩
      rw [wp_if]
      refine ⟨fun _ => ?_, fun q => absurd (nI_le (Nat.le_refl _) (by omega)) q⟩
      refine L3 c ?_
      have h3 : atB l 2 = true ↔ ∀ y, y < (l 2).length → (l 2).getD y (fun _ => 0) 0 < nI (l 0).length := by
        unfold atB
        rw [all_ix (d := fun _ => 0)]
        exact ⟨fun h y hy => of_decide_eq_true (h y hy), fun h y hy => decide_eq_true (h y hy)⟩
      rw [hc, hb, h3]
      constructor
      · rintro ⟨⟨a, b⟩, c⟩; exact ⟨a, b, c⟩
      · rintro ⟨a, b, c⟩; exact ⟨⟨a, b⟩, c⟩
  -- ways
  rw [wp_bnd, wp_rdI, d0]
  refine ⟨rfl, ?_⟩
  have L1 : ∀ b : Bool, (b = true ↔ (2 ≤ (l 0).length ∧ 1 ≤ (l 2).length)) → wp (sa_let (0 : Int32) fun x3 =>
sa_wh2 (fun j23 (x4 : Int32) (x5 : Int32) =>
sa_bnd (sa_rdI 12 159 29) fun v6 =>
if v6 ≤ x5 then
sa_let (0 : Int32) fun x7 =>
sa_wh2 (fun j102 (x8 : Int32) (x9 : Int32) =>
sa_bnd (sa_rdI 12 159 30) fun v10 =>
if v10 ≤ x9 then
sa_let (0 : Int32) fun x11 =>
sa_wh2 (fun j143 (x12 : Int32) (x13 : Int32) =>
sa_bnd (sa_rdI 12 159 31) fun v14 =>
if v14 ≤ x13 then
sa_retZ x12
else
sa_jn1 (fun (y15 : Int32) =>
sa_let ((x13 + 1) : Int32) fun x16 =>
j143 y15 x16) fun j175 =>
sa_jn0 (j175 0) fun j174 =>
if x12 = 0 then
j174
else
sa_bnd (sa_rdR 12 159 24) fun v17 =>
sa_bnd (sa_ldI .int v17 (2 * x13)) fun v18 =>
sa_bnd (sa_rdI 12 159 28) fun v19 =>
if v19 ≤ v18 then
j174
else
j175 1) sa_F x8 x11
else
sa_jn1 (fun (y20 : Int32) =>
sa_let ((x9 + 1) : Int32) fun x21 =>
j102 y20 x21) fun j134 =>
sa_jn0 (j134 0) fun j133 =>
if x8 = 0 then
j133
else
sa_bnd (sa_rdR 12 159 22) fun v22 =>
sa_bnd (sa_ldI .int v22 (5 * x9)) fun v23 =>
sa_bnd (sa_rdI 12 159 28) fun v24 =>
if v24 ≤ v23 then
j133
else
j134 1) sa_F x4 x7
else
sa_jn1 (fun (y25 : Int32) =>
sa_let ((x5 + 1) : Int32) fun x26 =>
j23 y25 x26) fun j93 =>
sa_jn0 (j93 0) fun j92 =>
if x4 = 0 then
j92
else
sa_bnd (sa_rdR 12 159 21) fun v27 =>
sa_bnd (sa_ldI .int v27 (4 * x5)) fun v28 =>
sa_bnd (sa_rdR 12 159 21) fun v29 =>
sa_bnd (sa_ldI .int v29 ((4 * x5) + 1)) fun v30 =>
if v28 = v30 then
j92
else
sa_bnd (sa_rdR 12 159 21) fun v31 =>
sa_bnd (sa_ldI .int v31 (4 * x5)) fun v32 =>
sa_bnd (sa_rdI 12 159 28) fun v33 =>
if v33 ≤ v32 then
j92
else
sa_bnd (sa_rdR 12 159 21) fun v34 =>
sa_bnd (sa_ldI .int v34 ((4 * x5) + 1)) fun v35 =>
sa_bnd (sa_rdI 12 159 28) fun v36 =>
if v36 ≤ v35 then
j92
else
j93 1) sa_F (nI (if b then 1 else 0)) x3) σ (fun r τ => r = nI (if whB l then 1 else 0) ∧ τ = σ) := by
    intro b hb
    rw [wp_let]
    refine wp_for2 (l 1).length 0 (fun x a τ => τ = σ ∧ ∃ c : Bool, a = nI (if c then 1 else 0) ∧ (c = true ↔ b = true ∧ ∀ y, y < x → (¬ (l 1).getD y (fun _ => 0) 0 = (l 1).getD y (fun _ => 0) 1 ∧ (l 1).getD y (fun _ => 0) 0 < nI (l 0).length ∧ (l 1).getD y (fun _ => 0) 1 < nI (l 0).length))) ?_ ?_ ⟨rfl, b, rfl, fun h => ⟨h, fun y hy => by omega⟩, fun h => h.1⟩ (Nat.zero_le _) (by unfold sa_F; omega)
    · rintro x a τ hx ⟨rfl, c, rfl, hc⟩ j hj
      obtain ⟨n, n1, n2⟩ := rw_pl (i := 0) hl (k := 1) (by omega) hx (by decide)
      obtain ⟨m, m1, m2⟩ := rw_pl (i := 1) hl (k := 1) (by omega) hx (by decide)
      have hcell : τ.1 167 (4 * x) = nI n := by
        have := (hd 1 (by omega)).2 x hx 0 (by decide)
        rw [n2] at this
        exact this
      have hcell2 : τ.1 167 (4 * x + 1) = nI m := by
        have := (hd 1 (by omega)).2 x hx 1 (by decide)
        rw [m2] at this
        exact this
      have e2 : (4 : Int32) * nI x = nI (4 * x) := pk_mul 4 x
      have lt : (nI n < nI (l 0).length) ↔ n < (l 0).length := nI_ltI (by omega) (by omega)
      have lt2 : (nI m < nI (l 0).length) ↔ m < (l 0).length := nI_ltI (by omega) (by omega)
      have no : ¬ (c = true ∧ ¬ nI n = nI m ∧ n < (l 0).length ∧ m < (l 0).length) → wp (j 0 (nI x + 1)) τ (fun r υ => r = nI (if whB l then 1 else 0) ∧ υ = τ) := fun h => by
        rw [nI_1]
        refine hj _ _ ⟨rfl, false, rfl, (fun h => by cases h), fun h2 => absurd ⟨hc.mpr ⟨h2.1, fun y hy => h2.2 y (by omega)⟩, ?_⟩ h⟩
        have := h2.2 x (by omega)
        rw [n2, m2] at this
        exact ⟨this.1, lt.mp this.2.1, lt2.mp this.2.2⟩
      rw [wp_bnd, wp_rdI, d1]
      refine ⟨rfl, ?_⟩
      rw [wp_if]
      refine ⟨fun q => absurd q (nI_ge hx (by omega)), fun _ => ?_⟩
      rw [wp_jn1, wp_jn0, wp_if]
      cases c with
      | false =>
        refine ⟨fun _ => ?_, fun q => absurd rfl q⟩
        rw [wp_let]
        exact no (fun h => by cases h.1)
      | true =>
        refine ⟨fun q => absurd q (by decide), fun _ => ?_⟩
        rw [wp_bnd, wp_rdR (v := 167) rfl (sk_159_21 hk), wp_bnd, e2, wp_ldI (n := 4 * x) (len := 48) al_167 rfl (by omega) (by omega), hcell, wp_bnd, wp_rdR (v := 167) rfl (sk_159_21 hk), wp_bnd, nI_1, wp_ldI (n := 4 * x + 1) (len := 48) al_167 rfl (by omega) (by omega), hcell2, wp_if]
        refine ⟨fun c2 => ?_, fun c2 => ?_⟩
        · rw [wp_let]
          exact no (fun h => h.2.1 c2)
        · rw [wp_bnd, wp_rdR (v := 167) rfl (sk_159_21 hk), wp_bnd, wp_ldI (n := 4 * x) (len := 48) al_167 rfl (by omega) (by omega), hcell, wp_bnd, wp_rdI, d0]
          refine ⟨rfl, ?_⟩
          rw [wp_if, nI_leI (by omega) (by omega)]
          refine ⟨fun c3 => ?_, fun c3 => ?_⟩
          · rw [wp_let]
            exact no (fun h => by omega)
          · rw [wp_bnd, wp_rdR (v := 167) rfl (sk_159_21 hk), wp_bnd, wp_ldI (n := 4 * x + 1) (len := 48) al_167 rfl (by omega) (by omega), hcell2, wp_bnd, wp_rdI, d0]
            refine ⟨rfl, ?_⟩
            rw [wp_if, nI_leI (by omega) (by omega)]
            refine ⟨fun c4 => ?_, fun c4 => ?_⟩
            · rw [wp_let]
              exact no (fun h => by omega)
            · rw [wp_let, nI_1]
              refine hj _ _ ⟨rfl, true, rfl, fun _ => ⟨(hc.mp rfl).1, fun y hy => ?_⟩, fun _ => rfl⟩
              by_cases e : y = x
              · subst e; rw [n2, m2]; exact ⟨c2, lt.mpr (by omega), lt2.mpr (by omega)⟩
              · exact (hc.mp rfl).2 y (by omega)
    · rintro a τ ⟨rfl, c, rfl, hc⟩ j
      rw [wp_bnd, wp_rdI, d1]
      refine ⟨rfl, ?_⟩
      rw [wp_if]
      refine ⟨fun _ => ?_, fun q => absurd (nI_le (Nat.le_refl _) (by omega)) q⟩
      refine L2 c ?_
      have h3 : wyB l = true ↔ ∀ y, y < (l 1).length → (¬ (l 1).getD y (fun _ => 0) 0 = (l 1).getD y (fun _ => 0) 1 ∧ (l 1).getD y (fun _ => 0) 0 < nI (l 0).length ∧ (l 1).getD y (fun _ => 0) 1 < nI (l 0).length) := by
        unfold wyB
        rw [all_ix (d := fun _ => 0)]
        exact ⟨fun h y hy => of_decide_eq_true (h y hy), fun h y hy => decide_eq_true (h y hy)⟩
      rw [hc, hb, h3]
  have e1 : (nI (l 0).length ≤ 1) ↔ (l 0).length ≤ 1 := nI_leI (a := (l 0).length) (b := 1) (by omega) (by omega)
  have e0 : (nI (l 2).length ≤ 0) ↔ (l 2).length ≤ 0 := nI_leI (a := (l 2).length) (b := 0) (by omega) (by omega)
  rw [wp_jn1, wp_jn0, wp_if, e1]
  refine ⟨fun c => ?_, fun c => ?_⟩
  · exact L1 false ⟨(fun h => by cases h), fun h => by omega⟩
  · rw [wp_bnd, wp_rdI, d2]
    refine ⟨rfl, ?_⟩
    rw [wp_if, e0]
    refine ⟨fun c2 => ?_, fun c2 => ?_⟩
    · exact L1 false ⟨(fun h => by cases h), fun h => by omega⟩
    · exact L1 true ⟨fun _ => by omega, fun _ => rfl⟩
def LA (j k : Nat) : Prop := (j = 159 ∧ ((8 ≤ k ∧ k ≤ 12) ∨ (28 ≤ k ∧ k ≤ 31))) ∨ j = 165 ∨ j = 167 ∨ j = 168 ∨ j = 170
theorem RLd.fr {τ : sa_St} (h : RLd l σ) (e : RFr σ τ) : RLd l τ := fun k hk => ⟨by rw [e.2.2 (28 + k) (by omega)]; exact (h k hk).1, fun x hx i hi => by rw [e.2.1 _ (ar_ok k hk).1.1]; exact (h k hk).2 x hx i hi⟩
theorem m_readLd (h : RBy T N σ) : wp (f_X12_readLand 159) σ (fun _ τ => ZFr LA σ τ ∧ match (ldP T N).2 with
    | none => τ.1 159 11 = nI (ldP T N).1
    | some l => τ.1 159 11 = -1 ∧ RLd l τ) := by
  have h240 := h.2.1
  have hb0 := bk_le (T := T) (N := N) (p := 0) (by omega)
  obtain ⟨S0, d, run, hs0, r5, hL, hj, hkk⟩ := m_starts h
  unfold f_X12_readLand
  rw [wp_gd]
  refine ⟨rfl, ?_⟩
  rw [wp_bnd, wp_rdR (v := 160) rfl (sk_159_1 h.1), wp_bnd, wp_rdI, h.2.2.2.1]
  refine ⟨rfl, ?_⟩
  rw [wp_bnd, wp_of_eq run, wp_bnd, wp_wrI]
  refine ⟨rfl, ?_⟩
  rw [wp_bnd, wp_wrI]
  refine ⟨rfl, ?_⟩
  rw [wp_bnd, wp_wrI]
  refine ⟨rfl, ?_⟩
  rw [wp_bnd, wp_wrI]
  refine ⟨rfl, ?_⟩
  have hs : RSt T N 160 0 d (bk T N 0) (sa_upI (sa_upI (sa_upI (sa_upI S0 159 28 0) 159 29 0) 159 30 0) 159 31 0) := (((hs0.fld (by omega)).fld (by omega)).fld (by omega)).fld (by omega)
  have frS : VFr S0 (sa_upI (sa_upI (sa_upI (sa_upI S0 159 28 0) 159 29 0) 159 30 0) 159 31 0) := (((VFr.f (by omega)).trans (VFr.f (by omega))).trans (VFr.f (by omega))).trans (VFr.f (by omega))
  have hd0 : RLd (fun _ => []) (sa_upI (sa_upI (sa_upI (sa_upI S0 159 28 0) 159 29 0) 159 30 0) 159 31 0) := fun k hk => by
    refine ⟨?_, fun x hx => absurd hx (Nat.not_lt_zero x)⟩
    match k, hk with
    | 0, _ => rw [upI_self, va_up_ne _ _ (by omega), upI_self, va_up_ne _ _ (by omega), upI_self, va_up_ne _ _ (by omega), upI_self, va_up_self]; rfl
    | 1, _ => rw [upI_self, va_up_ne _ _ (by omega), upI_self, va_up_ne _ _ (by omega), upI_self, va_up_self]; rfl
    | 2, _ => rw [upI_self, va_up_ne _ _ (by omega), upI_self, va_up_self]; rfl
    | 3, _ => rw [upI_self, va_up_self]; rfl
    | n + 4, hk => omega
  generalize sa_upI (sa_upI (sa_upI (sa_upI S0 159 28 0) 159 29 0) 159 30 0) 159 31 0 = S at *
  have zf : ∀ τ, VFr S τ → ZFr LA σ τ := fun τ fr0 => by
    have fr := frS.trans fr0
    refine ⟨fun a b c => by rw [fr.1]; exact r5 a b c, by rw [fr.1]; exact hL, fun j k hA => ?_⟩
    unfold LA at hA
    by_cases e1 : j = 159
    · subst e1
      rw [fr.2.2 k (by omega)]
      exact hkk k (by omega)
    · rw [fr.2.1 j e1 (by omega) (by omega) (by omega) (by omega), hj j e1]
  rw [wp_let]
  refine wp_wh1 (fun m x4 τ => VFr S τ ∧ ((∃ (f p : Nat) (l : LDr), m = f + 1 ∧ x4 = 1 ∧ N - p < f ∧ RSt T N 160 0 d p τ ∧ LOk l ∧ RLd l τ ∧ ldL T N f p l = ldP T N) ∨ (∃ (q : Nat) (l : LDr), m = 0 ∧ x4 = 0 ∧ RSt T N 160 0 d q τ ∧ LOk l ∧ RLd l τ ∧ ldP T N = if q < N then (q, none) else if whB l then (q, some l) else (q, none)) ∨ ∃ q : Nat, m = 0 ∧ x4 = 0 ∧ q ≤ N ∧ τ.1 159 11 = nI q ∧ ldP T N = (q, none))) ?_ sa_F (N + 2) 1 S (by unfold sa_F; omega) ⟨VFr.rfl', Or.inl ⟨N + 1, bk T N 0, fun _ => [], rfl, rfl, by omega, hs, LOk.nil, hd0, rfl⟩⟩
  rintro m x4 τ ⟨fr, hP⟩ j hjn
  rcases hP with ⟨f, p, l, rfl, rfl, hf, hst, hl, hd, hc⟩ | ⟨q, l, -, rfl, hst, hl, hd, hc⟩ | ⟨q, -, rfl, hq, h11, hc⟩
  · obtain ⟨f, rfl⟩ : ∃ f', f = f' + 1 := ⟨f - 1, by omega⟩
    have hun := ldL_st (T := T) (N := N) (p := p) (f := f) (l := l)
    rw [hc] at hun
    rw [wp_jn0, wp_if]
    refine ⟨fun q => absurd q (by decide), fun _ => ?_⟩
    rw [wp_bnd, wp_rdI, hst.2.2.1]
    refine ⟨rfl, ?_⟩
    rw [wp_if]
    refine ⟨fun q => absurd rfl q, fun _ => ?_⟩
    rw [wp_bnd]
    refine wp_mono (m_lclause hst hl hd) (fun _ τ2 hr => ?_)
    obtain ⟨fr2, hr⟩ := hr
    have fr3 := fr.trans fr2
    obtain ⟨a1, a2, a3⟩ := lc_adv (T := T) (l := l) hst.nb.1
    generalize lcP T N p l = r0 at *
    obtain ⟨q, mm⟩ := r0
    rw [wp_bnd, wp_rdI]
    refine ⟨rfl, ?_⟩
    rw [wp_jn1, wp_jn0, wp_if]
    cases mm with
    | none =>
      have hr' : τ2.1 159 11 = nI q := hr
      have hne : ¬ τ2.1 159 11 = -1 := fun e => by
        rw [hr'] at e
        have e' : nI q = mI := e
        rw [eq_mI (by dsimp only at a1; omega)] at e'
        exact e'
      refine ⟨fun _ => ?_, fun q => absurd hne q⟩
      rw [wp_if]
      refine ⟨fun _ => ?_, fun q => absurd rfl q⟩
      exact hjn 0 _ _ (by omega) ⟨fr3, Or.inr (Or.inr ⟨q, rfl, rfl, a1, hr', hun.1 rfl⟩)⟩
    | some x =>
      obtain ⟨hs2, hd2⟩ := hr
      have hun2 := hun.2 x rfl
      obtain ⟨b1, b2, b3, b4⟩ := a3 x rfl
      have hl2 := hl.add b3 b4
      dsimp only at a1 a2 b1 hs2 hun2
      refine ⟨fun q => absurd hs2.2.2.1 q, fun _ => ?_⟩
      obtain ⟨hlk, hs3, x10⟩ := hs2.look
      have fr4 : VFr S (sa_upI τ2 159 10 (nI q)) := fr3.trans (RFr.up (by omega)).v
      have hd3 : RLd (l.add x.1 x.2) (sa_upI τ2 159 10 (nI q)) := hd2.fr (RFr.up (by omega))
      have e59 : (lkv T N q = 59) ↔ sgn T N q = 59 := lkv_eq (c := 59) hs2.1 (by omega) (by omega)
      rw [wp_bnd, wp_of_eq hlk, wp_if, e59]
      generalize sa_upI τ2 159 10 (nI q) = τ3 at *
      unfold ldK at hun2
      refine ⟨fun n59 => ?_, fun y59 => ?_⟩
      · rw [wp_if]
        refine ⟨fun _ => ?_, fun q => absurd rfl q⟩
        refine hjn 0 _ _ (by omega) ⟨fr4, Or.inr (Or.inl ⟨q, l.add x.1 x.2, rfl, rfl, hs3, hl2, hd3, ?_⟩)⟩
        rw [hun2]
        by_cases hqN : q < N
        · rw [if_pos hqN, if_pos hqN, if_neg n59]
        · rw [if_neg hqN, if_neg hqN]
      · have h59 := Decidable.not_not.mp y59
        have hin := sgn_in (c := 59) (by omega) h59
        have hge := bk_ge (T := T) (N := N) (p := q + 1)
        rw [if_pos hin.1, if_pos h59] at hun2
        rw [wp_if]
        refine ⟨fun q => absurd q (by decide), fun _ => ?_⟩
        rw [wp_bnd, wp_rdI, x10]
        refine ⟨rfl, ?_⟩
        rw [wp_bnd, wp_wrI, nI_1]
        refine ⟨rfl, ?_⟩
        exact hjn (f + 1) _ _ (by omega) ⟨fr4.trans (RFr.up (by omega)).v, Or.inl ⟨f, bk T N (q + 1), l.add x.1 x.2, rfl, rfl, by omega, hs3.at (by omega), hl2, hd3.fr (RFr.up (by omega)), hun2.symm⟩⟩
  · rw [wp_jn0, wp_if]
    refine ⟨fun _ => ?_, fun q => absurd rfl q⟩
    rw [wp_bnd, wp_rdI, hst.2.2.1]
    refine ⟨rfl, ?_⟩
    rw [wp_jn0, wp_if]
    refine ⟨fun q => absurd rfl q, fun _ => ?_⟩
    obtain ⟨hlk, hs2, x10⟩ := hst.look
    have fr2 : VFr S (sa_upI τ 159 10 (nI q)) := fr.trans (RFr.up (by omega)).v
    have hd2 : RLd l (sa_upI τ 159 10 (nI q)) := hd.fr (RFr.up (by omega))
    rw [wp_bnd, wp_of_eq hlk, wp_jn0, wp_if]
    generalize sa_upI τ 159 10 (nI q) = τ2 at *
    have bad : ldP T N = (q, none) → wp (sa_bnd (f_X12_fails 159) fun v7 => sa_ret ()) τ2 (fun _ τ => ZFr LA σ τ ∧ match (ldP T N).2 with
      | none => τ.1 159 11 = nI (ldP T N).1
      | some l => τ.1 159 11 = -1 ∧ RLd l τ) := fun e => by
      rw [wp_bnd, wp_of_eq (hs2.fail x10), wp_ret, e]
      exact ⟨zf _ (fr2.trans (RFr.up (by omega)).v), by dsimp only; rw [upI_self, va_up_self]⟩
    by_cases hqN : q < N
    · rw [if_pos hqN] at hc
      have hne : ¬ lkv T N q = -1 := fun e => by
        unfold lkv at e
        rw [if_pos hqN] at e
        have e' : nI (T q) = mI := e
        rw [eq_mI (by have := (hst.1.2.2.1 q hqN).2; omega)] at e'
        exact e'
      exact ⟨fun _ => bad hc, fun q => absurd hne q⟩
    · rw [if_neg hqN] at hc
      have hy : lkv T N q = -1 := by unfold lkv; rw [if_neg hqN]; rfl
      refine ⟨fun q => absurd hy q, fun _ => ?_⟩
      rw [wp_bnd, wp_of_eq (m_isWhole hs2.1.1 hl hd2), wp_if]
      cases hw : whB l with
      | true =>
        rw [hw, if_pos rfl] at hc
        refine ⟨fun _ => ?_, fun q => absurd (show ¬ nI 1 = 0 by decide) q⟩
        rw [wp_ret, hc]
        exact ⟨zf _ fr2, hs2.2.2.1, hd2⟩
      | false =>
        rw [hw, if_neg (show ¬ false = true by decide)] at hc
        exact ⟨fun q => absurd rfl q, fun _ => bad hc⟩
  · have hne : ¬ τ.1 159 11 = -1 := fun e => by
      rw [h11] at e
      have e' : nI q = mI := e
      rw [eq_mI (by omega)] at e'
      exact e'
    rw [wp_jn0, wp_if]
    refine ⟨fun _ => ?_, fun q => absurd rfl q⟩
    rw [wp_bnd, wp_rdI]
    refine ⟨rfl, ?_⟩
    rw [wp_jn0, wp_if]
    refine ⟨fun _ => ?_, fun q => absurd hne q⟩
    rw [wp_ret, hc]
    exact ⟨zf _ fr, h11⟩
end MLAND2
