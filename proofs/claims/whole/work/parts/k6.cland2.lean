/-! TEXTS: lands, by the class: all of them -/
theorem all_ix {α : Type} {f : α → Bool} {d : α} : ∀ L : List α, L.all f = true ↔ ∀ x, x < L.length → f (L.getD x d) = true := by
  intro L
  induction L with
  | nil => exact ⟨fun _ x hx => absurd hx (Nat.not_lt_zero x), fun _ => rfl⟩
  | cons a L ih =>
    rw [List.all_cons, Bool.and_eq_true, ih]
    constructor
    · rintro ⟨h1, h2⟩ x hx
      cases x with
      | zero => exact h1
      | succ x => exact h2 x (Nat.lt_of_succ_lt_succ hx)
    · intro h
      exact ⟨h 0 (Nat.succ_pos _), fun x hx => h (x + 1) (Nat.succ_lt_succ hx)⟩
theorem gd_mem {α : Type} {d : α} {L : List α} {x : Nat} (hx : x < L.length) : L.getD x d ∈ L := by
  rw [List.getD_eq_getElem?_getD, List.getElem?_eq_getElem hx]
  exact List.getElem_mem hx
section CLAND2
variable {T : Nat → Nat} {N D p : Nat} {σ : sa_St} {l : LDr}
theorem c_cell {k x i : Nat} (hD : D = 3 ∨ D = 9) (hk : SK σ.2.1) (h1 : k < 4) (h2 : x < 12) (h3 : i < 5) : f_X1_cell D (nI k) (nI x) (nI i) σ = some (σ.1 (D + 2) (60 * k + 5 * x + i), σ) := by
  refine run_of ?_
  unfold f_X1_cell
  rw [wp_gd]
  refine ⟨sh_D hD, ?_⟩
  have e : (nI k * 12 + nI x) * 5 + nI i = nI (60 * k + 5 * x + i) := by rw [ix60, nI_add]
  rw [wp_bnd, wp_rdR (v := D + 2) (sh_D hD) (sk_D1 hD hk), wp_bnd, e, wp_ldI (n := 60 * k + 5 * x + i) (len := 240) (al_D2 hD) rfl (by omega) (by omega), wp_ret]
  exact ⟨rfl, rfl⟩
theorem c_hasP {n P : Nat} (hD : D = 3 ∨ D = 9) (hk : SK σ.2.1) (hP : σ.1 (D + 1) 0 = nI P) (h1 : n < 1000) (h2 : P < 1000) : f_X1_hasPlace D (nI n) σ = some (nI (if n < P then 1 else 0), σ) := by
  refine run_of ?_
  unfold f_X1_hasPlace
  rw [wp_gd]
  refine ⟨sh_D hD, ?_⟩
  rw [wp_jn1, wp_jn0, wp_if]
  refine ⟨fun q => absurd q (nI_pos (by omega)), fun _ => ?_⟩
  rw [wp_bnd, wp_rdR (v := D + 1) (sh_D hD) (sk_D0 hD hk), wp_bnd, wp_ldI (j := 0) (n := 0) (len := 4) (al_D1 hD) rfl (by omega) (by omega), hP, wp_if, nI_leI (by omega) (by omega)]
  refine ⟨fun c => ?_, fun c => ?_⟩
  · rw [wp_retZ, if_neg (by omega)]
    exact ⟨Or.inl rfl, rfl, rfl⟩
  · rw [wp_retZ, if_pos (by omega)]
    exact ⟨Or.inr rfl, rfl, rfl⟩
/-- an item that names a place -/
theorem rw_pl {k x i : Nat} (hl : LOk l) (hk : k < 4) (hx : x < (l k).length) (hi : i < cntI k) : ∃ n, n ≤ 99 ∧ (l k).getD x (fun _ => 0) i = nI n := by
  obtain ⟨n, -, h2, h3⟩ := (hl k hk).2 _ (gd_mem hx) i hi
  have := (hi99 k hk i (by have := (cnt5 k hk).1; omega)).1
  exact ⟨n, by omega, h3⟩
theorem c_areAt {k : Nat} (hD : D = 3 ∨ D = 9) (hk : SK σ.2.1) (h4 : k < 4) (hl : LOk l) (hd : CLd D l σ) : f_X1_areAtPlaces D (nI k) 0 σ = some (nI (if atB l k then 1 else 0), σ) := by
  have hlk := (hl k h4).1
  have hl0 := (hl 0 (by omega)).1
  have m12 := mx12 k h4
  have m8 : mxK 0 = 8 := rfl
  have c2 := (cnt5 k h4).2.1
  refine run_of ?_
  unfold f_X1_areAtPlaces
  rw [wp_gd]
  refine ⟨sh_D hD, ?_⟩
  rw [wp_let]
  refine wp_for1 (l k).length 0 (fun x τ => τ = σ ∧ ∀ y, y < x → (l k).getD y (fun _ => 0) 0 < nI (l 0).length) ?_ ?_ ⟨rfl, fun y hy => by omega⟩ (Nat.zero_le _) (by unfold sa_F; omega)
  · rintro x τ hx ⟨rfl, hn⟩ j hj
    rw [wp_bnd, wp_rdR (v := D + 1) (sh_D hD) (sk_D0 hD hk), wp_bnd, wp_ldI (n := k) (len := 4) (al_D1 hD) rfl h4 (by omega), hd.1 k h4, wp_if]
    refine ⟨fun q => absurd q (nI_ge hx (by omega)), fun _ => ?_⟩
    obtain ⟨n, n1, n2⟩ := rw_pl (i := 0) hl h4 hx (by omega)
    rw [wp_bnd, wp_of_eq (show f_X1_cell D (nI k) (nI x) 0 _ = _ from c_cell (i := 0) hD hk h4 (show x < 12 by omega) (by omega)), hd.2 k h4 x hx 0 (by omega), n2, wp_bnd, wp_of_eq (c_hasP hD hk (hd.1 0 (by omega)) (by omega) (by omega)), wp_if]
    have el : (nI n < nI (l 0).length) ↔ n < (l 0).length := nI_ltI (by omega) (by omega)
    by_cases c : n < (l 0).length
    · rw [if_pos c]
      refine ⟨fun _ => ?_, fun q => absurd (show ¬ nI 1 = 0 by decide) q⟩
      rw [wp_let, nI_1]
      refine hj _ ⟨rfl, fun y hy => ?_⟩
      by_cases e : y = x
      · subst e; rw [n2]; exact el.mpr c
      · exact hn y (by omega)
    · rw [if_neg c]
      refine ⟨fun q => absurd rfl q, fun _ => ?_⟩
      have hno : atB l k = false := by
        cases e : atB l k with
        | false => rfl
        | true =>
          have := (all_ix (d := fun _ => 0) (l k)).mp e x hx
          have := of_decide_eq_true this
          rw [n2] at this
          exact absurd (el.mp this) c
      rw [wp_retZ, hno]
      exact ⟨Or.inl rfl, rfl, rfl⟩
  · rintro τ ⟨rfl, hn⟩ j
    rw [wp_bnd, wp_rdR (v := D + 1) (sh_D hD) (sk_D0 hD hk), wp_bnd, wp_ldI (n := k) (len := 4) (al_D1 hD) rfl h4 (by omega), hd.1 k h4, wp_if]
    refine ⟨fun _ => ?_, fun q => absurd (nI_le (Nat.le_refl _) (by omega)) q⟩
    have hy : atB l k = true := (all_ix (d := fun _ => 0) (l k)).mpr (fun x hx => decide_eq_true (hn x hx))
    rw [wp_retZ, hy]
    exact ⟨Or.inr rfl, rfl, rfl⟩
theorem wh_eq : whB l = true ↔ 2 ≤ (l 0).length ∧ 1 ≤ (l 2).length ∧ wyB l = true ∧ atB l 2 = true ∧ atB l 3 = true := by
  unfold whB
  rw [Bool.and_eq_true, Bool.and_eq_true, Bool.and_eq_true, Bool.and_eq_true, decide_eq_true_iff, decide_eq_true_iff]
  constructor
  · rintro ⟨⟨⟨⟨a, b⟩, c⟩, d⟩, e⟩; exact ⟨a, b, c, d, e⟩
  · rintro ⟨a, b, c, d, e⟩; exact ⟨⟨⟨⟨a, b⟩, c⟩, d⟩, e⟩
theorem c_isWhole (hD : D = 3 ∨ D = 9) (hk : SK σ.2.1) (hl : LOk l) (hd : CLd D l σ) : f_X1_isWhole D σ = some (nI (if whB l then 1 else 0), σ) := by
  have hl0 : (l 0).length ≤ 8 := (hl 0 (by omega)).1
  have hl1 : (l 1).length ≤ 12 := (hl 1 (by omega)).1
  have hl2 : (l 2).length ≤ 5 := (hl 2 (by omega)).1
  have no : ¬ whB l = true → wp (sa_retZ 0) σ (fun r τ => r = nI (if whB l then 1 else 0) ∧ τ = σ) := fun h => by
    rw [wp_retZ, if_neg h]
    exact ⟨Or.inl rfl, rfl, rfl⟩
  have e2 : (nI (l 0).length < 2) ↔ (l 0).length < 2 := nI_ltI (a := (l 0).length) (b := 2) (by omega) (by omega)
  have e1 : ((1 : Int32) ≤ nI (l 2).length) ↔ 1 ≤ (l 2).length := nI_leI (a := 1) (b := (l 2).length) (by omega) (by omega)
  refine run_of ?_
  unfold f_X1_isWhole
  rw [wp_gd]
  refine ⟨sh_D hD, ?_⟩
  rw [wp_bnd, wp_rdR (v := D + 1) (sh_D hD) (sk_D0 hD hk), wp_bnd, wp_ldI (j := 0) (n := 0) (len := 4) (al_D1 hD) rfl (by omega) (by omega), hd.1 0 (by omega), wp_jn0, wp_if, e2]
  refine ⟨fun c => no (fun h => by have := (wh_eq.mp h).1; omega), fun c => ?_⟩
  rw [wp_bnd, wp_rdR (v := D + 1) (sh_D hD) (sk_D0 hD hk), wp_bnd, wp_ldI (j := 2) (n := 2) (len := 4) (al_D1 hD) rfl (by omega) (by omega), hd.1 2 (by omega), wp_if, e1]
  refine ⟨fun c2 => ?_, fun c2 => no (fun h => c2 (wh_eq.mp h).2.1)⟩
  rw [wp_let]
  refine wp_for1 (l 1).length 0 (fun x τ => τ = σ ∧ ∀ y, y < x → decide (¬ (l 1).getD y (fun _ => 0) 0 = (l 1).getD y (fun _ => 0) 1 ∧ (l 1).getD y (fun _ => 0) 0 < nI (l 0).length ∧ (l 1).getD y (fun _ => 0) 1 < nI (l 0).length) = true) ?_ ?_ ⟨rfl, fun y hy => by omega⟩ (Nat.zero_le _) (by unfold sa_F; omega)
  · rintro x τ hx ⟨rfl, hn⟩ j hj
    obtain ⟨a, a1, a2⟩ := rw_pl (i := 0) hl (k := 1) (by omega) hx (by decide)
    obtain ⟨b, b1, b2⟩ := rw_pl (i := 1) hl (k := 1) (by omega) hx (by decide)
    have la : (nI a < nI (l 0).length) ↔ a < (l 0).length := nI_ltI (by omega) (by omega)
    have lb : (nI b < nI (l 0).length) ↔ b < (l 0).length := nI_ltI (by omega) (by omega)
    have bad : ¬ (¬ nI a = nI b ∧ a < (l 0).length ∧ b < (l 0).length) → wp (sa_retZ 0) τ (fun r υ => r = nI (if whB l then 1 else 0) ∧ υ = τ) := fun h => no (fun hw => by
      have := (all_ix (d := fun _ => 0) (l 1)).mp (wh_eq.mp hw).2.2.1 x hx
      have := of_decide_eq_true this
      rw [a2, b2] at this
      exact h ⟨this.1, la.mp this.2.1, lb.mp this.2.2⟩)
    rw [wp_bnd, wp_rdR (v := D + 1) (sh_D hD) (sk_D0 hD hk), wp_bnd, wp_ldI (j := 1) (n := 1) (len := 4) (al_D1 hD) rfl (by omega) (by omega), hd.1 1 (by omega), wp_if]
    refine ⟨fun q => absurd q (nI_ge hx (by omega)), fun _ => ?_⟩
    rw [wp_bnd, wp_of_eq (show f_X1_cell D 1 (nI x) 0 _ = _ from c_cell (k := 1) (i := 0) hD hk (by omega) (show x < 12 by omega) (by omega)), hd.2 1 (by omega) x hx 0 (by omega), a2, wp_bnd, wp_of_eq (show f_X1_cell D 1 (nI x) 1 _ = _ from c_cell (k := 1) (i := 1) hD hk (by omega) (show x < 12 by omega) (by omega)), hd.2 1 (by omega) x hx 1 (by omega), b2, wp_jn0, wp_if]
    refine ⟨fun q => bad (fun h => h.1 q), fun nab => ?_⟩
    rw [wp_bnd, wp_of_eq (c_hasP hD hk (hd.1 0 (by omega)) (by omega) (by omega)), wp_if]
    by_cases ca : a < (l 0).length
    · rw [if_pos ca]
      refine ⟨fun q => absurd q (by decide), fun _ => ?_⟩
      rw [wp_bnd, wp_of_eq (c_hasP hD hk (hd.1 0 (by omega)) (by omega) (by omega)), wp_if]
      by_cases cb : b < (l 0).length
      · rw [if_pos cb]
        refine ⟨fun _ => ?_, fun q => absurd (show ¬ nI 1 = 0 by decide) q⟩
        rw [wp_let, nI_1]
        refine hj _ ⟨rfl, fun y hy => ?_⟩
        by_cases e : y = x
        · subst e
          rw [a2, b2]
          exact decide_eq_true ⟨nab, la.mpr ca, lb.mpr cb⟩
        · exact hn y (by omega)
      · rw [if_neg cb]
        refine ⟨fun q => absurd rfl q, fun _ => bad (fun h => cb h.2.2)⟩
    · rw [if_neg ca]
      refine ⟨fun _ => bad (fun h => ca h.2.1), fun q => absurd rfl q⟩
  · rintro τ ⟨rfl, hn⟩ j
    have hwy : wyB l = true := (all_ix (d := fun _ => 0) (l 1)).mpr (fun x hx => hn x hx)
    rw [wp_bnd, wp_rdR (v := D + 1) (sh_D hD) (sk_D0 hD hk), wp_bnd, wp_ldI (j := 1) (n := 1) (len := 4) (al_D1 hD) rfl (by omega) (by omega), hd.1 1 (by omega), wp_if]
    refine ⟨fun _ => ?_, fun q => absurd (nI_le (Nat.le_refl _) (by omega)) q⟩
    rw [wp_bnd, wp_of_eq (show f_X1_areAtPlaces D 2 0 _ = _ from c_areAt (k := 2) hD hk (by omega) hl hd), wp_jn1, wp_jn0, wp_if]
    cases h2 : atB l 2 with
    | false =>
      refine ⟨fun _ => no (fun h => ?_), fun q => absurd rfl q⟩
      have := (wh_eq.mp h).2.2.2.1
      rw [h2] at this
      cases this
    | true =>
      refine ⟨fun q => absurd q (by decide), fun _ => ?_⟩
      rw [wp_bnd, wp_of_eq (show f_X1_areAtPlaces D 3 0 _ = _ from c_areAt (k := 3) hD hk (by omega) hl hd), wp_if]
      cases h3 : atB l 3 with
      | false =>
        refine ⟨fun _ => no (fun h => ?_), fun q => absurd rfl q⟩
        have := (wh_eq.mp h).2.2.2.2
        rw [h3] at this
        cases this
      | true =>
        refine ⟨fun q => absurd q (by decide), fun _ => ?_⟩
        rw [wp_retZ, if_pos (wh_eq.mpr ⟨by omega, c2, hwy, h2, h3⟩)]
        exact ⟨Or.inr rfl, rfl, rfl⟩
theorem c_readLd (hD : D = 3 ∨ D = 9) (ct : CTp T N σ) : wp (f_X1_readFrom D 1) σ (fun r τ => TFr (D + 1) (D + 2) σ τ ∧ match (ldP T N).2 with
    | none => r = 0 ∧ τ.1 1 2 = nI (ldP T N).1
    | some l => r = 1 ∧ CLd D l τ) := by
  have h240 := ct.2.1
  have hb0 := bk_le (T := T) (N := N) (p := 0) (by omega)
  unfold f_X1_readFrom
  rw [wp_gd]
  refine ⟨sh_D hD, ?_⟩
  rw [wp_bnd, wp_rdR (v := D + 1) (sh_D hD) (sk_D0 hD ct.1), wp_bnd]
  refine wp_fillI (al_D1 hD) (by omega) (by omega) (fun g hg _ => ?_)
  have fr1 : TFr (D + 1) (D + 2) σ (va_up σ.1 (D + 1) g, σ.2) := ⟨rfl, fun j _ a _ => va_up_ne _ _ a, fun k _ => by show va_up σ.1 (D + 1) g 1 k = _; rw [va_up_ne _ _ (by omega)]⟩
  have d1 : CLd D (fun _ => []) (va_up σ.1 (D + 1) g, σ.2) := ⟨fun k hk => by show va_up σ.1 (D + 1) g (D + 1) k = _; rw [va_up_self, hg k (by omega)]; rfl, fun k _ x hx => absurd hx (Nat.not_lt_zero x)⟩
  generalize (va_up σ.1 (D + 1) g, σ.2) = σ1 at *
  have ct1 := ct.tf fr1 (by omega) (by omega)
  rw [wp_bnd, wp_of_eq (c_rewind ct1), wp_let]
  have cat : ∀ {l : LDr} {τ : sa_St} {q : Int32}, CLd D l τ → CLd D l (sa_upI τ 1 2 q) := fun {l τ q} h => by
    unfold CLd at h ⊢
    rw [upI_ne (by omega), upI_ne (by omega)]
    exact h
  refine wp_wh1 (fun f x τ => ∃ (i p : Nat) (l : LDr), x = nI i ∧ 2 * i ≤ p ∧ p ≤ N ∧ N - p < f ∧ TFr (D + 1) (D + 2) σ τ ∧ τ.1 1 2 = nI p ∧ LOk l ∧ CLd D l τ ∧ ldL T N f p l = ldP T N) ?_ sa_F (N + 1) 0 _ (by unfold sa_F; omega) ⟨0, bk T N 0, fun _ => [], rfl, by omega, hb0, by omega, fr1.trans TFr.at, by rw [upI_self, va_up_self], LOk.nil, cat d1, rfl⟩
  rintro f x τ ⟨i, p, l, rfl, hi, hp, hf, fr, hpos, hl, hd, hc⟩ j hj
  obtain ⟨f, rfl⟩ : ∃ f', f = f' + 1 := ⟨f - 1, by omega⟩
  have hst := ldL_st (T := T) (N := N) (p := p) (f := f) (l := l)
  rw [hc] at hst
  have ctt := ct.tf fr (by omega) (by omega)
  have e240 : ¬ (240 : Int32) ≤ nI i := fun h => by
    have : 240 ≤ i := (nI_leI (a := 240) (b := i) (by omega) (by omega)).mp h
    omega
  obtain ⟨a1, a2, a3⟩ := lc_adv (T := T) (l := l) hp
  rw [wp_if]
  refine ⟨fun q => absurd q e240, fun _ => ?_⟩
  rw [wp_bnd]
  refine wp_mono (c_lclause hD ctt hp hpos hl hd) (fun r τ2 hr => ?_)
  obtain ⟨fr2, hp2, hr⟩ := hr
  have fr3 := fr.trans fr2
  have ct3 := ct.tf fr3 (by omega) (by omega)
  generalize lcP T N p l = r0 at *
  obtain ⟨q, m⟩ := r0
  cases m with
  | none =>
    have hr' : r = 0 := hr
    subst hr'
    rw [wp_if]
    refine ⟨fun q => absurd rfl q, fun _ => ?_⟩
    rw [wp_retZ, hst.1 rfl]
    exact ⟨Or.inl rfl, fr3, rfl, hp2⟩
  | some x =>
    obtain ⟨rfl, hd2⟩ := hr
    have hst2 := hst.2 x rfl
    obtain ⟨b1, b2, b3, b4⟩ := a3 x rfl
    have hl2 := hl.add b3 b4
    dsimp only at a1 a2 b1 hp2 hst2
    rw [wp_if]
    refine ⟨fun _ => ?_, fun q => absurd (show ¬ (1 : Int32) = 0 by decide) q⟩
    rw [wp_bnd, wp_of_eq (c_ended ct3 a1 hp2), wp_if]
    unfold ldK at hst2
    by_cases hqN : q < N
    · rw [if_pos hqN] at hst2 ⊢
      refine ⟨fun _ => ?_, fun q => absurd rfl q⟩
      have htk := c_take (c := 59) ct3 a1 hp2 (by omega) (by omega)
      by_cases h59 : sgn T N q = 59
      · have hge := bk_ge (T := T) (N := N) (p := q + 1)
        have hle := bk_le (T := T) (N := N) (p := q + 1) (by omega)
        rw [if_pos h59] at htk hst2
        rw [wp_bnd, wp_of_eq (show f_X7_take 1 59 τ2 = _ from htk), wp_if]
        refine ⟨fun _ => ?_, fun q => absurd (show ¬ nI 1 = 0 by decide) q⟩
        rw [wp_let, nI_1]
        exact hj f _ _ (by omega) ⟨i + 1, bk T N (q + 1), l.add x.1 x.2, rfl, by omega, hle, by omega, fr3.trans TFr.at, by rw [upI_self, va_up_self], hl2, cat hd2, hst2.symm⟩
      · rw [if_neg h59] at htk hst2
        rw [wp_bnd, wp_of_eq (show f_X7_take 1 59 τ2 = _ from htk), wp_if]
        refine ⟨fun q => absurd rfl q, fun _ => ?_⟩
        rw [wp_retZ, hst2]
        exact ⟨Or.inl rfl, fr3, rfl, hp2⟩
    · rw [if_neg hqN] at hst2 ⊢
      refine ⟨fun q => absurd q (by decide), fun _ => ?_⟩
      rw [wp_bnd, wp_of_eq (c_isWhole hD ct3.1 hl2 hd2), wp_retZ]
      cases hw : whB (l.add x.1 x.2) with
      | true =>
        rw [hw, if_pos rfl] at hst2
        rw [hst2]
        exact ⟨Or.inr rfl, fr3, rfl, hd2⟩
      | false =>
        rw [hw, if_neg (show ¬ false = true by decide)] at hst2
        rw [hst2]
        exact ⟨Or.inl rfl, fr3, rfl, hp2⟩
end CLAND2
