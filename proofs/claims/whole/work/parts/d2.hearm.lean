/-! HEARS, by the reference -/
section HEARM
variable {P W H B m r : Nat} {z k wl : Nat → Int32} {σ : sa_St} {M : Nat → Nat → Nat} {Q : Int32 → sa_St → Prop}
/-- what the reference's rounds rest on -/
def HS (P m r : Nat) (k wl : Nat → Int32) (M : Nat → Nat → Nat) (σ : sa_St) : Prop := SK σ.2.1 ∧ σ.1 173 = toW k wl ∧ ∀ a b, a < P → b < P → σ.1 189 (8 * a + b) = en (M a b)
theorem HS.set {h : Nat → Int32} (hs : HS P m r k wl M σ) : HS P m r k wl M (va_up σ.1 190 h, σ.2) := by
  refine ⟨hs.1, ?_, fun a b ha hb => ?_⟩
  · show va_up σ.1 190 h 173 = _
    rw [va_up_ne _ _ (by omega)]
    exact hs.2.1
  · show va_up σ.1 190 h 189 _ = _
    rw [va_up_ne _ _ (by omega)]
    exact hs.2.2 a b ha hb
theorem m_lives8 (hs : HS P m r k wl M σ) (hkm : KM P W H B m k) (hP : P ≤ 8) {i : Nat} (hi : i < m) : f_X12_lives 173 (nI i) σ = some (nI (if liv k m i then 1 else 0), σ) := by
  obtain ⟨-, -, ⟨xg99, o2⟩, -⟩ := (hkm.2.2.2.1 i hi).x hP
  rw [m_lives al_173 hs.2.1 hkm.2.1 hkm.1 hi o2 xg99]
  unfold liv
  by_cases h0 : xg k i = 0
  · simp [h0]
  · simp [h0, hi]
theorem m_near (hs : HS P m r k wl M σ) (hkm : KM P W H B m k) (hP : P ≤ 8) (hr : r ≤ 7) {a b : Nat} (ha : a < m) (hb : b < m) : f_X12_isNear 159 (nI a) (nI b) (nI r) σ = some (nI (if nrR (liv k m) (hDr M k r) a b then 1 else 0), σ) := by
  have hk := hs.1
  have m8 := hkm.1
  have e35 := sk_159_35 hk
  have e70 := sk_159_70 hk
  obtain ⟨⟨pa, oa⟩, -⟩ := (hkm.2.2.2.1 a ha).x hP
  obtain ⟨⟨pb, ob⟩, -⟩ := (hkm.2.2.2.1 b hb).x hP
  have key : ∀ Q : Int32 → sa_St → Prop, Q (nI (if nrR (liv k m) (hDr M k r) a b then 1 else 0)) σ → wp (f_X12_isNear 159 (nI a) (nI b) (nI r)) σ Q := by
    intro Q hQ
    unfold nrR at hQ
    unfold f_X12_isNear
    rw [wp_gd]
    refine ⟨rfl, ?_⟩
    rw [wp_bnd, wp_rdR (v := 173) rfl e35, wp_bnd, wp_of_eq (m_lives8 hs hkm hP ha), wp_jn0, wp_if]
    cases ha2 : liv k m a with
    | false =>
      refine ⟨fun _ => ?_, fun q => absurd rfl q⟩
      rw [wp_retZ]
      rw [ha2] at hQ
      exact ⟨Or.inl rfl, hQ⟩
    | true =>
      refine ⟨fun q => absurd q (by decide), fun _ => ?_⟩
      rw [wp_bnd, wp_rdR (v := 173) rfl e35, wp_bnd, wp_of_eq (m_lives8 hs hkm hP hb), wp_if]
      cases hb2 : liv k m b with
      | false =>
        refine ⟨fun q => absurd rfl q, fun _ => ?_⟩
        rw [wp_retZ]
        rw [ha2, hb2] at hQ
        exact ⟨Or.inl rfl, hQ⟩
      | true =>
        refine ⟨fun _ => ?_, fun q => absurd (show ¬ nI 1 = 0 by decide) q⟩
        have hv := hs.2.2 (xp k a) (xp k b) pa pb
        have w0 : toW k wl (7 * a) = nI (xp k a) := (toW_own0 (by omega)).trans oa
        have w1 : toW k wl (7 * b) = nI (xp k b) := (toW_own0 (by omega)).trans ob
        have hdd : hDr M k r a b = decide (M (xp k a) (xp k b) ≤ r) := rfl
        rw [ha2, hb2, hdd] at hQ
        rw [wp_bnd, wp_rdR (v := 189) rfl e70, wp_bnd, wp_rdR (v := 173) rfl e35, wp_bnd, wp_ldI (n := 7 * a) (len := 260) al_173 (i7 a) (by omega) (by omega), hs.2.1, w0, wp_bnd, wp_rdR (v := 173) rfl e35, wp_bnd, wp_ldI (n := 7 * b) (len := 260) al_173 (i7 b) (by omega) (by omega), hs.2.1, w1, wp_bnd, wp_ldI (n := 8 * xp k a + xp k b) (len := 64) al_189 (i8L (xp k a) (xp k b)) (by omega) (by omega), hv, wp_jn1, wp_jn0, wp_if]
        generalize M (xp k a) (xp k b) = v at hQ ⊢
        by_cases h1 : v < 1000
        · rw [en_lt h1]
          refine ⟨fun q => ?_, fun _ => ?_⟩
          · have q' : nI v = mI := q
            rw [eq_mI (by omega)] at q'
            exact q'.elim
          · rw [wp_if, nI_ltI (by omega) (by omega)]
            refine ⟨fun q => ?_, fun q => ?_⟩
            · rw [wp_retZ]
              rw [decide_eq_false (by omega)] at hQ
              exact ⟨Or.inl rfl, hQ⟩
            · rw [wp_retZ]
              rw [decide_eq_true (by omega)] at hQ
              exact ⟨Or.inr rfl, hQ⟩
        · rw [en_ge (by omega)]
          refine ⟨fun _ => ?_, fun q => absurd rfl q⟩
          rw [wp_retZ]
          rw [decide_eq_false (by omega)] at hQ
          exact ⟨Or.inl rfl, hQ⟩
  exact run_of (key _ ⟨rfl, rfl⟩)
def hh0 (k : Nat → Int32) (m i : Nat) : Nat := if liv k m i then xqm k m i else 0
theorem hh0_lt (hkm : KM P W H B m k) (i : Nat) : hh0 k m i < 16 := by
  unfold hh0
  split
  · exact xqm_lt hkm i
  · decide
def hal (k : Nat → Int32) (m : Nat) : Nat → Nat := ac (fun a i => a ||| hh0 k m i) 0
theorem hal_lt (hkm : KM P W H B m k) : ∀ i, hal k m i < 16 := by
  intro i
  induction i with
  | zero => exact (by decide : 0 < 16)
  | succ i ih => exact or_16 ih (hh0_lt hkm i)
theorem hal_eq : ∀ i, i ≤ m → knB (liv k m) (xqm k m) (2 ^ m - 1) i = hal k m i := by
  intro i
  induction i with
  | zero => exact fun _ => rfl
  | succ i ih =>
    intro hi
    show (if (2 ^ m - 1).testBit i && liv k m i then knB (liv k m) (xqm k m) (2 ^ m - 1) i ||| xqm k m i else knB (liv k m) (xqm k m) (2 ^ m - 1) i) = hal k m i ||| hh0 k m i
    rw [ih (by omega), Nat.testBit_two_pow_sub_one, decide_eq_true (show i < m by omega), Bool.true_and]
    unfold hh0
    cases liv k m i with
    | true => rfl
    | false => exact (Nat.or_zero _).symm
/-- what each knows at first, and all of it -/
theorem m_first {ex : Int32 → sa_M Int32} (hs : HS P m r k wl M σ) (hkm : KM P W H B m k) (hP : P ≤ 8) (hQ : ∀ h : Nat → Int32, (∀ i, i < m → h i = nI (hh0 k m i)) → wp (ex (nI (hal k m m))) (va_up σ.1 190 h, σ.2) Q) :
    wp (sa_wh2 (fun j35 (x5 : Int32) (x6 : Int32) =>
sa_bnd (sa_rdR 12 159 35) fun v7 =>
sa_bnd (sa_ldI .int v7 75) fun v8 =>
if v8 ≤ x6 then
ex x5
else
sa_bnd (sa_rdR 12 159 71) fun v41 =>
sa_bnd (sa_rdR 12 159 35) fun v42 =>
sa_bnd (f_X12_lives v42 x6) fun v43 =>
sa_jn1 (fun (y44 : Int32) =>
sa_bnd (sa_stI v41 x6 y44) fun _ =>
sa_bnd (sa_rdR 12 159 71) fun v45 =>
sa_bnd (sa_ldI .int v45 x6) fun v46 =>
sa_let ((x5 ||| v46) : Int32) fun x47 =>
sa_let ((x6 + 1) : Int32) fun x48 =>
j35 x47 x48) fun j77 =>
if v43 = 0 then
j77 0
else
sa_bnd (sa_rdR 12 159 35) fun v49 =>
sa_bnd (sa_ldI .int v49 ((7 * x6) + 5)) fun v50 =>
j77 v50) sa_F 0 0) σ Q := by
  have hk := hs.1
  have m8 := hkm.1
  have e35 := sk_159_35 hk
  have e71 := sk_159_71 hk
  have h0 : σ = (va_up σ.1 190 (σ.1 190), σ.2) := by
    refine Prod.ext ?_ rfl
    funext j
    show _ = va_up σ.1 190 (σ.1 190) j
    by_cases e : j = 190
    · subst e; rw [va_up_self]
    · rw [va_up_ne _ _ e]
  refine wp_for2 m 0 (fun c a τ => ∃ h : Nat → Int32, τ = (va_up σ.1 190 h, σ.2) ∧ (∀ i, i < c → h i = nI (hh0 k m i)) ∧ a = nI (hal k m c)) ?_ ?_ ⟨_, h0, fun i hi => by omega, rfl⟩ (by omega) (by unfold sa_F; omega)
  · rintro c a τ hc ⟨h, rfl, hh, rfl⟩ j hj
    have hs1 := hs.set (h := h)
    have fl := m_lives8 hs1 hkm hP hc
    have h173 : (va_up σ.1 190 h, σ.2).1 173 = toW k wl := hs1.2.1
    obtain ⟨hq, oq⟩ := xq_eq hkm hc
    have hl1 := hal_lt hkm c
    have hl2 := hh0_lt hkm c
    have go : ∀ y : Int32, y = nI (hh0 k m c) → wp (sa_bnd (sa_stI 190 (nI c) y) fun _ => sa_bnd (sa_rdR 12 159 71) fun v45 => sa_bnd (sa_ldI .int v45 (nI c)) fun v46 => sa_let ((nI (hal k m c) ||| v46) : Int32) fun x47 => sa_let ((nI c + 1) : Int32) fun x48 => j x47 x48) (va_up σ.1 190 h, σ.2) Q := by
      rintro y rfl
      rw [wp_bnd, wp_stI (n := c) (len := 8) al_190 rfl (by omega) (by omega), up_set, wp_bnd, wp_rdR (σ := (va_up σ.1 190 (va_up h c (nI (hh0 k m c))), σ.2)) (v := 190) rfl e71, wp_bnd, wp_ldI (n := c) (len := 8) al_190 rfl (by omega) (by omega), wp_let, wp_let, nI_1]
      refine hj _ _ ⟨_, rfl, fun i hi => ?_, ?_⟩
      · by_cases e : i = c
        · subst e; exact va_up_self _ _ _
        · rw [va_up_ne _ _ e]; exact hh i (by omega)
      · show nI (hal k m c) ||| va_up σ.1 190 (va_up h c (nI (hh0 k m c))) 190 c = nI (hal k m c ||| hh0 k m c)
        rw [va_up_self, va_up_self, nI_or (by omega) (by omega)]
    rw [wp_bnd, wp_rdR (σ := (va_up σ.1 190 h, σ.2)) (v := 173) rfl e35, wp_bnd, wp_ldI (j := 75) (n := 75) (len := 260) al_173 rfl (by omega) (by omega), h173, toW_75, hkm.2.1, wp_if]
    refine ⟨fun q => absurd q (nI_ge hc (by omega)), fun _ => ?_⟩
    rw [wp_bnd, wp_rdR (σ := (va_up σ.1 190 h, σ.2)) (v := 190) rfl e71, wp_bnd, wp_rdR (σ := (va_up σ.1 190 h, σ.2)) (v := 173) rfl e35, wp_bnd, wp_of_eq fl, wp_jn1, wp_if]
    cases hv : liv k m c with
    | false =>
      refine ⟨fun _ => ?_, fun q => absurd rfl q⟩
      exact go 0 (by unfold hh0; rw [hv]; rfl)
    | true =>
      refine ⟨fun q => absurd q (by decide), fun _ => ?_⟩
      rw [wp_bnd, wp_rdR (σ := (va_up σ.1 190 h, σ.2)) (v := 173) rfl e35, wp_bnd, wp_ldI (n := 7 * c + 5) (len := 260) al_173 (i75 c) (by omega) (by omega), h173, toW_own (by omega), oq]
      exact go _ (by unfold hh0; rw [hv]; rfl)
  · rintro a τ ⟨h, rfl, hh, rfl⟩ j
    rw [wp_bnd, wp_rdR (σ := (va_up σ.1 190 h, σ.2)) (v := 173) rfl e35, wp_bnd, wp_ldI (j := 75) (n := 75) (len := 260) al_173 rfl (by omega) (by omega), (hs.set (h := h)).2.1, toW_75, hkm.2.1, wp_if]
    refine ⟨fun _ => ?_, fun q => absurd (nI_le (Nat.le_refl m) (by omega)) q⟩
    exact hQ h hh
/-- one hears all that are near it -/
theorem m_hear1 {ex : sa_M Int32} {a : Nat} {g : Nat → Nat} {h : Nat → Int32} (hs : HS P m r k wl M σ) (hkm : KM P W H B m k) (hP : P ≤ 8) (hr : r ≤ 7) (ha : a < m) (hg : ∀ i, g i < 16) (hh : ∀ i, i < m → h i = nI (g i)) (hQ : ∀ h2 : Nat → Int32, (∀ i, i < m → h2 i = nI (hrA (nrR (liv k m) (hDr M k r)) m g a i)) → wp ex (va_up σ.1 190 h2, σ.2) Q) :
    wp (sa_wh1 (fun j119 (x30 : Int32) =>
sa_bnd (sa_rdR 12 159 35) fun v31 =>
sa_bnd (sa_ldI .int v31 75) fun v32 =>
if v32 ≤ x30 then
ex
else
sa_bnd (sa_rdR 12 159 71) fun v34 =>
sa_bnd (sa_ldI .int v34 (nI a)) fun v35 =>
sa_bnd (f_X12_isNear 159 (nI a) x30 (nI r)) fun v36 =>
sa_jn1 (fun (y37 : Int32) =>
sa_bnd (sa_stI v34 (nI a) (v35 ||| y37)) fun _ =>
sa_let ((x30 + 1) : Int32) fun x38 =>
j119 x38) fun j162 =>
if v36 = 0 then
j162 0
else
sa_bnd (sa_rdR 12 159 71) fun v39 =>
sa_bnd (sa_ldI .int v39 x30) fun v40 =>
j162 v40) sa_F 0) (va_up σ.1 190 h, σ.2) Q := by
  have hk := hs.1
  have m8 := hkm.1
  have e35 := sk_159_35 hk
  have e71 := sk_159_71 hk
  refine wp_for1 m 0 (fun b τ => ∃ h : Nat → Int32, τ = (va_up σ.1 190 h, σ.2) ∧ ∀ i, i < m → h i = nI (ac (hr1 (nrR (liv k m) (hDr M k r)) a) g b i)) ?_ ?_ ⟨h, rfl, hh⟩ (by omega) (by unfold sa_F; omega)
  · rintro b τ hb ⟨h, rfl, hh⟩ j hj
    have hs1 := hs.set (h := h)
    have hlt := hrA_lt (R := nrR (liv k m) (hDr M k r)) hg a b
    have hst : ac (hr1 (nrR (liv k m) (hDr M k r)) a) g (b + 1) = hr1 (nrR (liv k m) (hDr M k r)) a (ac (hr1 (nrR (liv k m) (hDr M k r)) a) g b) b := rfl
    generalize ac (hr1 (nrR (liv k m) (hDr M k r)) a) g b = G at hlt hst hh
    have row : (va_up σ.1 190 h, σ.2).1 190 = h := va_up_self σ.1 190 h
    have l1 := hlt a
    have l2 := hlt b
    have go : ∀ y : Nat, y < 16 → y = (if nrR (liv k m) (hDr M k r) a b then G b else 0) → wp (sa_bnd (sa_stI 190 (nI a) (nI (G a) ||| nI y)) fun _ => sa_let ((nI b + 1) : Int32) fun x38 => j x38) (va_up σ.1 190 h, σ.2) Q := by
      intro y hy he
      rw [wp_bnd, wp_stI (n := a) (len := 8) al_190 rfl (by omega) (by omega), up_set, wp_let, nI_1, nI_or (by omega) (by omega)]
      refine hj _ ⟨_, rfl, fun i hi => ?_⟩
      rw [hst]
      unfold hr1
      by_cases e : i = a
      · subst e; rw [va_up_self, va_up_self, he]
      · rw [va_up_ne _ _ e, va_up_ne _ _ e]; exact hh i hi
    rw [wp_bnd, wp_rdR (σ := (va_up σ.1 190 h, σ.2)) (v := 173) rfl e35, wp_bnd, wp_ldI (j := 75) (n := 75) (len := 260) al_173 rfl (by omega) (by omega), hs1.2.1, toW_75, hkm.2.1, wp_if]
    refine ⟨fun q => absurd q (nI_ge hb (by omega)), fun _ => ?_⟩
    rw [wp_bnd, wp_rdR (σ := (va_up σ.1 190 h, σ.2)) (v := 190) rfl e71, wp_bnd, wp_ldI (n := a) (len := 8) al_190 rfl (by omega) (by omega), row, hh a ha, wp_bnd, wp_of_eq (m_near hs1 hkm hP hr ha hb), wp_jn1, wp_if]
    cases hn : nrR (liv k m) (hDr M k r) a b with
    | false =>
      refine ⟨fun _ => ?_, fun q => absurd rfl q⟩
      exact go 0 (by omega) (by rw [hn]; rfl)
    | true =>
      refine ⟨fun q => absurd q (by decide), fun _ => ?_⟩
      rw [wp_bnd, wp_rdR (σ := (va_up σ.1 190 h, σ.2)) (v := 190) rfl e71, wp_bnd, wp_ldI (n := b) (len := 8) al_190 rfl (by omega) (by omega), row, hh b hb]
      exact go _ l2 (by rw [hn]; rfl)
  · rintro τ ⟨h, rfl, hh⟩ j
    rw [wp_bnd, wp_rdR (σ := (va_up σ.1 190 h, σ.2)) (v := 173) rfl e35, wp_bnd, wp_ldI (j := 75) (n := 75) (len := 260) al_173 rfl (by omega) (by omega), (hs.set (h := h)).2.1, toW_75, hkm.2.1, wp_if]
    refine ⟨fun _ => ?_, fun q => absurd (nI_le (Nat.le_refl m) (by omega)) q⟩
    exact hQ h hh
end HEARM
