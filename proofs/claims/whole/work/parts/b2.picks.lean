/-! PICKETS: both -/
theorem okS_m {k : Nat → Int32} {m b : Nat} : ∀ j, okS k m b (m + j) = okS k m b m := by
  intro j
  induction j with
  | zero => rfl
  | succ j ih =>
    show (okS k m b (m + j) && (!liv k m (m + j) || decide (b ≤ xg k (m + j)))) = _
    have : liv k m (m + j) = false := by unfold liv; simp; intro h; omega
    rw [this, ih]
    simp
theorem okS_8 {k : Nat → Int32} {m b : Nat} (hm : m ≤ 8) : okS k m b 8 = okS k m b m := by
  have := okS_m (k := k) (m := m) (b := b) (8 - m)
  rw [show m + (8 - m) = 8 by omega] at this
  exact this
theorem okS_at {k : Nat → Int32} {m b c : Nat} : ∀ i, okS k m b i = true → c < i → liv k m c = true → b ≤ xg k c := by
  intro i
  induction i with
  | zero => intro _ h; omega
  | succ i ih =>
    intro h hc hl
    have h' : (okS k m b i && (!liv k m i || decide (b ≤ xg k i))) = true := h
    rw [Bool.and_eq_true] at h'
    by_cases e : c = i
    · subst e
      have h2 := h'.2
      rw [hl] at h2
      simpa using h2
    · exact ih h'.1 (by omega) hl
theorem capS_hi {k : Nat → Int32} {m b l c : Nat} (h : m ≤ c) : capS k m l b c = 0 := by
  have : liv k m c = false := by unfold liv; simp; intro h2; omega
  unfold capS cap1
  rw [this]
  split <;> rfl
theorem capS_le {k : Nat → Int32} {P W H B m l b : Nat} (h : KM P W H B m k) (hP : P ≤ 8) (i : Nat) : capS k m l b i ≤ 99 := by
  unfold capS
  split
  · exact cap1_le k h hP
  · omega
theorem gc_of {k : Nat → Int32} {P W H B m l b : Nat} (h : KM P W H B m k) (hP : P ≤ 8) (ho : okS k m b 8 = true) : GC m b l (xg k) (capS k m l b) := by
  intro c hc
  have x9 := ((h.2.2.2.1 c hc).x hP).2.2.1.1
  have m8 := h.1
  refine ⟨x9, ?_⟩
  unfold capS cap1
  rw [if_pos ho]
  by_cases h0 : xg k c = 0
  · refine Or.inl ⟨h0, ?_⟩
    have : liv k m c = false := by unfold liv; simp [h0]
    rw [this]
    rfl
  · have hl : liv k m c = true := by unfold liv; simp [h0, hc]
    rw [hl]
    exact Or.inr ⟨okS_at 8 ho (by omega) hl, rfl⟩
theorem flat_trim {α : Type} {g : Nat → List α} {m : Nat} : ∀ j, (∀ c, m ≤ c → c < m + j → g c = []) → (List.range (m + j)).flatMap g = (List.range m).flatMap g := by
  intro j
  induction j with
  | zero => intro _; rfl
  | succ j ih =>
    intro h
    rw [← Nat.add_assoc, List.range_succ, List.flatMap_append, ih (fun c h1 h2 => h c h1 (by omega))]
    have := h (m + j) (by omega) (by omega)
    simp [this]
theorem rows_trim {m : Nat} (hm : m ≤ 8) : ∀ (n : Nat) (cap : Nat → Nat) (d : Nat), (∀ c, m ≤ c → cap c = 0) → zc_rows 8 n cap d = zc_rows m n cap d := by
  intro n
  induction n with
  | zero => intro cap d _; rfl
  | succ n ih =>
    intro cap d h
    show (List.range 8).flatMap _ = (List.range m).flatMap _
    have e := flat_trim (g := fun c => if 0 < cap c then zc_rows 8 n (zc_dec cap c) (10 * d + c) else []) (m := m) (8 - m) (fun c h1 _ => by
      have := h c h1
      simp [this])
    rw [show m + (8 - m) = 8 by omega] at e
    rw [e]
    congr 1
    funext c
    by_cases hc : 0 < cap c
    · rw [if_pos hc, if_pos hc]
      refine ih _ _ (fun c2 h2 => ?_)
      have := h c2 h2
      unfold zc_dec
      split <;> omega
    · rw [if_neg hc, if_neg hc]
theorem rows_nil {m n d : Nat} {cap : Nat → Nat} (h : ∀ c, cap c = 0) : zc_rows m (n + 1) cap d = [] := by
  show (List.range m).flatMap _ = _
  rw [List.flatMap_eq_nil_iff]
  intro c _
  have := h c
  simp [this]
/-- the rows of pickets -/
def prow (k : Nat → Int32) (m N l b : Nat) : List Nat := zc_rows m N (capS k m l b) 0
theorem prow_len {k : Nat → Int32} {m N l b : Nat} (hm : m ≤ 8) : (prow k m N l b).length = zc_wr 8 (capS k m l b) N := by
  unfold prow
  rw [← rows_trim hm N _ 0 (fun c h => capS_hi h), zc_rows_len]
theorem prow_bd {k : Nat → Int32} {m N l b x : Nat} (hm : m ≤ 8) (hN : N ≤ 6) (hx : x ∈ prow k m N l b) : x < 10 ^ 6 := by
  have h1 := zc_rows_bd (m := m) (by omega) N _ _ _ hx
  have h2 : 10 ^ N ≤ 10 ^ 6 := Nat.pow_le_pow_right (by omega) hN
  omega
/-- the answer -/
def pans (rs : List Nat) (i : Int32) : Int32 := if i = mI then nI rs.length else oI (rs[i.toNatClampNeg]?)
section LAYP
variable {σ : sa_St} {k wl : Nat → Int32} {P W H B m l b N : Nat} {w : Int32} {Q : Int32 → sa_St → Prop}
theorem m_layP (hk : SK σ.2.1) (h173 : σ.1 173 = toW k wl) (hkm : KM P W H B m k) (hP : P ≤ 8) (hb : b ≤ 99) (hQ : ∀ r : Nat → Int32, (∀ c, c < m → r c = nI (xg k c)) → Q (nI (if okS k m b m then 1 else 0)) (ps (sa_upI σ 159 64 w) r 0 mI)) : wp (f_X12_layPickets 159 (nI b) w) σ Q := by
  have e35 := sk_159_35 hk
  have e62 := sk_159_62 hk
  have m8 := hkm.1
  have k22 := hkm.2.1
  unfold f_X12_layPickets
  rw [wp_gd]
  refine ⟨rfl, ?_⟩
  rw [wp_bnd, wp_wrI]
  refine ⟨rfl, ?_⟩
  rw [wp_bnd, wp_wrI]
  refine ⟨rfl, ?_⟩
  rw [wp_bnd, wp_wrI]
  refine ⟨rfl, ?_⟩
  have e : sa_upI (sa_upI (sa_upI σ 159 63 0) 159 64 w) 159 65 (-1) = ps (sa_upI σ 159 64 w) (σ.1 185) 0 mI := by
    refine ps_ext rfl ?_ ?_ ?_ (fun k h h2 => ?_) (fun j h h2 => ?_)
    · rw [upI_ne (by omega), upI_ne (by omega), upI_ne (by omega)]
    · rw [upI_self, va_up_ne _ _ (by omega), upI_self, va_up_ne _ _ (by omega), upI_self, va_up_self]
      rfl
    · rw [upI_self, va_up_self]
      rfl
    · simp only [upI_self]
      rw [va_up_ne _ _ h2]
      by_cases e : k = 64
      · subst e; rw [va_up_self, va_up_self]
      · rw [va_up_ne _ _ e, va_up_ne _ _ e, va_up_ne _ _ h]
    · rw [upI_ne h, upI_ne h, upI_ne h, upI_ne h]
  rw [e, wp_let, wp_let]
  have h173' : (sa_upI σ 159 64 w).1 173 = toW k wl := by rw [upI_ne (by omega)]; exact h173
  refine wp_for2 m 0 (fun i a τ => ∃ r : Nat → Int32, τ = ps (sa_upI σ 159 64 w) r 0 mI ∧ (∀ c, c < i → r c = nI (xg k c)) ∧ a = nI (if okS k m b i then 1 else 0)) ?_ ?_ ⟨_, rfl, fun c hc => by omega, rfl⟩ (by omega) (by unfold sa_F; omega)
  · rintro i a τ hi ⟨r, rfl, hr, rfl⟩ j hj
    obtain ⟨-, -, ⟨x9, o2⟩, -⟩ := (hkm.2.2.2.1 i hi).x hP
    have hok : okS k m b (i + 1) = (okS k m b i && (!liv k m i || decide (b ≤ xg k i))) := rfl
    have hliv : liv k m i = decide (xg k i ≠ 0) := by unfold liv; simp [hi]
    have go : ∀ y : Int32, y = nI (if okS k m b (i + 1) then 1 else 0) → wp (j y (nI (i + 1))) (ps (sa_upI σ 159 64 w) (va_up r i (nI (xg k i))) 0 mI) Q := by
      intro y hy
      refine hj _ _ ⟨_, rfl, fun c hc => ?_, hy⟩
      by_cases e : c = i
      · subst e; exact va_up_self _ _ _
      · rw [va_up_ne _ _ e]; exact hr c (by omega)
    rw [wp_bnd, wp_rdR (σ := ps (sa_upI σ 159 64 w) r 0 mI) (v := 173) rfl e35, wp_bnd, wp_ldI (j := 75) (n := 75) (len := 260) al_173 rfl (by omega) (by omega), ps_ne (by omega) (by omega), h173', toW_75, k22, wp_if]
    refine ⟨fun q => absurd q (nI_ge hi (by omega)), fun _ => ?_⟩
    rw [wp_bnd, wp_rdR (σ := ps (sa_upI σ 159 64 w) r 0 mI) (v := 185) rfl e62, wp_bnd, wp_rdR (σ := ps (sa_upI σ 159 64 w) r 0 mI) (v := 173) rfl e35, wp_bnd, wp_ldI (n := 7 * i + 2) (len := 260) al_173 (show (7 : Int32) * nI i + 2 = nI (7 * i + 2) by show nI 7 * nI i + nI 2 = _; rw [pk_mul, nI_add]) (by omega) (by omega), ps_ne (by omega) (by omega), h173', toW_own (by omega), o2, wp_bnd, wp_stI (n := i) (len := 8) al_185 rfl (by omega) (by omega), ps_up185, wp_jn1, wp_jn0, wp_if]
    generalize okS k m b i = oo at *
    generalize okS k m b (i + 1) = o1 at *
    generalize xg k i = g at *
    refine ⟨fun q => ?_, fun q => ?_⟩
    · have h0 : oo = false := by
        cases oo with
        | false => rfl
        | true => exact absurd q (by decide)
      subst h0
      rw [wp_let, nI_1]
      exact go 0 (by rw [hok]; rfl)
    · have h0 : oo = true := by
        cases oo with
        | false => exact absurd rfl q
        | true => rfl
      subst h0
      rw [wp_bnd, wp_rdR (σ := ps (sa_upI σ 159 64 w) (va_up r i (nI g)) 0 mI) (v := 185) rfl e62, wp_bnd, wp_ldI (n := i) (len := 8) al_185 rfl (by omega) (by omega), ps_185, va_up_self, wp_jn0, wp_if]
      refine ⟨fun q2 => ?_, fun q2 => ?_⟩
      · have hg0 : g = 0 := by
          rw [L0, nI_eq (by omega) (by omega)] at q2
          exact q2
        rw [wp_let, nI_1]
        exact go 1 (by rw [hok, hliv, hg0]; rfl)
      · have hg0 : g ≠ 0 := fun e => q2 (by rw [e]; rfl)
        rw [wp_bnd, wp_rdR (σ := ps (sa_upI σ 159 64 w) (va_up r i (nI g)) 0 mI) (v := 185) rfl e62, wp_bnd, wp_ldI (n := i) (len := 8) al_185 rfl (by omega) (by omega), ps_185, va_up_self, wp_if]
        refine ⟨fun q3 => ?_, fun q3 => ?_⟩
        · rw [nI_ltI (by omega) (by omega)] at q3
          rw [wp_let, nI_1]
          exact go 0 (by rw [hok, hliv]; simp [hg0, show ¬ b ≤ g by omega]; rfl)
        · rw [nI_ltI (by omega) (by omega)] at q3
          rw [wp_let, nI_1]
          exact go 1 (by rw [hok, hliv]; simp [hg0, show b ≤ g by omega]; rfl)
  · rintro a τ ⟨r, rfl, hr, rfl⟩ j
    rw [wp_bnd, wp_rdR (σ := ps (sa_upI σ 159 64 w) r 0 mI) (v := 173) rfl e35, wp_bnd, wp_ldI (j := 75) (n := 75) (len := 260) al_173 rfl (by omega) (by omega), ps_ne (by omega) (by omega), h173', toW_75, k22, wp_if]
    refine ⟨fun _ => ?_, fun q => absurd (nI_le (Nat.le_refl m) (by omega)) q⟩
    rw [wp_retZ]
    refine ⟨?_, hQ r hr⟩
    split
    · exact Or.inr rfl
    · exact Or.inl rfl
/-- laid out, and gone through -/
theorem m_one {J : sa_M Int32} (hk : SK σ.2.1) (h173 : σ.1 173 = toW k wl) (hkm : KM P W H B m k) (hP : P ≤ 8) (hb : b ≤ 99) (hl : 1 ≤ l ∧ l ≤ 9) (hN : 1 ≤ N ∧ N ≤ 6) (hQ : ∀ r : Nat → Int32, wp J (ps (sa_upI σ 159 64 w) r (sc w (0, none) (prow k m N l b)).1 (oI (sc w (0, none) (prow k m N l b)).2)) Q) :
    wp (sa_bnd (f_X12_layPickets 159 (nI b) w) fun v3 => sa_jn0 J fun j52 => if v3 = 0 then j52 else sa_bnd (f_X12_goPickets 60 159 (nI N) (nI l) (nI b) 0) fun _ => j52) σ Q := by
  have m8 := hkm.1
  rw [wp_bnd]
  refine m_layP hk h173 hkm hP hb (fun r hr => ?_)
  rw [wp_jn0, wp_if, ← okS_8 m8]
  refine ⟨fun q => ?_, fun q => ?_⟩
  · have h0 : okS k m b 8 = false := by
      cases ho : okS k m b 8 with
      | false => rfl
      | true => rw [ho] at q; exact absurd q (by decide)
    have hq := hQ r
    have e : prow k m N l b = [] := by
      unfold prow
      obtain ⟨n, rfl⟩ : ∃ n, N = n + 1 := ⟨N - 1, by omega⟩
      refine rows_nil (fun c => ?_)
      unfold capS
      rw [h0]
      rfl
    rw [e] at hq
    exact hq
  · have h0 : okS k m b 8 = true := by
      cases ho : okS k m b 8 with
      | true => rfl
      | false => rw [ho] at q; exact absurd rfl q
    rw [wp_bnd]
    refine m_go (σ := sa_upI σ 159 64 w) (k := k) (wl := wl) (m := m) (w := w) hk (by rw [upI_ne (by omega)]; exact h173) hkm.2.1 m8 hl hb (by rw [upI_self, va_up_self]) N 60 (by omega) hN.2 (xg k) (capS k m l b) r (0, none) 0 _ (gc_of hkm hP h0) hr (fun x hx => by cases hx) (by
      have h2 : 10 ^ N ≤ 10 ^ 6 := Nat.pow_le_pow_right (by omega) hN.2
      omega) (fun r2 h2 => ?_)
    exact hQ r2
theorem sc_ans {rs : List Nat} {i : Int32} (hl : rs.length < 2 ^ 31) (hi : mI ≤ i) : (if i = mI then nI (sc i (0, none) rs).1 else oI (sc i (0, none) rs).2) = pans rs i := by
  unfold pans
  by_cases e : i = mI
  · subst e
    rw [if_pos rfl, if_pos rfl, sc_all rs 0 (fun j hj => by
      have : (nI j = mI) = False := eq_mI (by omega)
      rw [Ne, this]
      exact not_false), Nat.zero_add]
  · rw [if_neg e, if_neg e]
    have h0 : ¬ i < 0 := by
      intro q
      rw [Int32.lt_iff_toInt_lt] at q
      rw [Int32.le_iff_toInt_le, mI_t] at hi
      have : i.toInt = mI.toInt := by rw [mI_t]; rw [show (0 : Int32).toInt = 0 from rfl] at q; omega
      exact e (Int32.toInt_inj.mp this)
    obtain ⟨j, hj, rfl⟩ := nI_of h0
    rw [nI_clamp hj]
    by_cases hjl : j < rs.length
    · obtain ⟨d, hd⟩ : ∃ d, rs[j]? = some d := ⟨rs[j], List.getElem?_eq_getElem hjl⟩
      obtain ⟨c, hc⟩ := sc_at (n := 0) hd (by omega)
      rw [Nat.zero_add] at hc
      rw [hc, hd]
    · rw [sc_all rs 0 (fun x hx => by rw [Ne, nI_eq (by omega) hj]; omega), List.getElem?_eq_none (by omega)]
end LAYP
