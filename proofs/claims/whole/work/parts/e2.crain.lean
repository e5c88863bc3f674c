/-! JOURNEYS, by the class: an hour of rain, pouring off, the mean -/
def cnS (z : Nat → Int32) (sk : Nat → Nat → Int32) : CNf := fun p e => min 100 (if sk p (e + 1) = mI then (z (5 * p + 2)).toNatClampNeg else (sk p (e + 1)).toNatClampNeg)
def lsS (f : Nat → LWt) (hold : Int32) (z : Nat → Int32) (wr md h0 : Nat) : LSf := fun p e g => min (WN f hold g wr (z (5 * p)).toNatClampNeg md (h0 + e)) g
/-- what is told of a sky -/
def SkS (sk : Nat → Nat → Int32) : Prop := (∀ p h, sk p h = mI ∨ sk p h = nI 0 ∨ sk p h = nI 100) ∧ ∀ p h, 24 < h → h < 2 ^ 31 → sk p h = mI
def TV (L P W F n : Nat) (f : Nat → LWt) (z : Nat → Int32) (hold : Int32) (sk : Nat → Nat → Int32) (wr md h0 : Nat) (σ : sa_St) : Prop := Cx L P W F n f z hold σ ∧ σ.2.1 136 2 = L + 1 ∧ (σ.1 136 6 = nI wr ∧ σ.1 136 7 = nI md ∧ σ.1 136 8 = nI h0) ∧ (∀ p h, p < P → 1 ≤ h → h ≤ 24 → σ.1 135 (25 * p + h) = sk p h) ∧ (0 < P ∧ wr ≤ 9 ∧ md ≤ 3 ∧ h0 ≤ 99000) ∧ SkS sk
theorem nm_33 (j : Nat) (h : 33 ≤ j) : j ∉ [17, 20, 23, 26, 29, 32] := by
  simp only [List.mem_cons, List.not_mem_nil, or_false]
  omega
def CF (R : Nat) (σ τ : sa_St) : Prop := τ.2.1 = σ.2.1 ∧ (∀ j, j ∉ [17, 20, 23, 26, 29, 32] → τ.1 j = σ.1 j) ∧ ∀ j, j ≠ R → 33 ≤ j → τ.2.2 j = σ.2.2 j
theorem CF.rfl' {R : Nat} {σ : sa_St} : CF R σ σ := ⟨rfl, fun _ _ => rfl, fun _ _ _ => rfl⟩
theorem CF.trans {R : Nat} {σ τ υ : sa_St} (h : CF R σ τ) (h2 : CF R τ υ) : CF R σ υ := ⟨h2.1.trans h.1, fun j hj => (h2.2.1 j hj).trans (h.2.1 j hj), fun j hj h3 => (h2.2.2 j hj h3).trans (h.2.2 j hj h3)⟩
theorem CF.upL {R i : Nat} {v : Int64} {σ τ : sa_St} (h : CF R σ τ) : CF R σ (sa_upL τ R i v) := ⟨h.1, h.2.1, fun j hj h3 => by rw [upL_ne hj]; exact h.2.2 j hj h3⟩
theorem CF.dn {R : Nat} {σ τ : sa_St} (h : CF R σ τ) : Dn [0] σ τ := by
  refine ⟨fun a b _ _ => by rw [h.1], fun a k g => ?_⟩
  by_cases e : a ∈ [17, 20, 23, 26, 29, 32]
  · simp only [List.mem_cons, List.not_mem_nil, or_false] at e
    rcases e with rfl | rfl | rfl | rfl | rfl | rfl <;> cases g
  · rw [h.2.1 a e]
section TVS
variable {L P W F n : Nat} {f : Nat → LWt} {z : Nat → Int32} {hold : Int32} {sk : Nat → Nat → Int32} {wr md h0 : Nat} {σ τ : sa_St}
theorem TV.dn (h : TV L P W F n f z hold sk wr md h0 σ) (K : Dn [0] σ τ) (hM : τ.2.2 175 = σ.2.2 175) (h2 : τ.2.1 136 2 = σ.2.1 136 2) (h3 : ∀ k, 6 ≤ k → k ≤ 8 → τ.1 136 k = σ.1 136 k) : TV L P W F n f z hold sk wr md h0 τ := by
  obtain ⟨g1, g2, ⟨g3, g4, g5⟩, g6, g7⟩ := h
  refine ⟨g1.dn K rfl rfl ?_, h2.trans g2, ⟨(h3 6 (by omega) (by omega)).trans g3, (h3 7 (by omega) (by omega)).trans g4, (h3 8 (by omega) (by omega)).trans g5⟩, fun p h a b c => ?_, g7⟩
  · rw [hM, K.row 176 (fun _ => rfl)]
    exact g1.memo
  · rw [K.row 135 (fun _ => rfl)]
    exact g6 p h a b c
theorem TV.cf {R : Nat} (h : TV L P W F n f z hold sk wr md h0 σ) (hf : CF R σ τ) (hR : R ≠ 175) : TV L P W F n f z hold sk wr md h0 τ := h.dn hf.dn (hf.2.2 175 (Ne.symm hR) (by omega)) (by rw [hf.1]) (fun k _ _ => by rw [hf.2.1 136 (nm_33 136 (by omega))])
theorem e_cell (hcx : Cx L P W F n f z hold σ) {a b c : Nat} (h : (a * 12 + b) * 5 + c < 240) : f_X1_cell L (nI a) (nI b) (nI c) σ = some (z ((a * 12 + b) * 5 + c), σ) := by
  obtain ⟨hk, hL, hLd, hM, hW, hz0, hh0⟩ := hcx
  obtain ⟨⟨a1, a2, a3, a4, a5, a6⟩, e1, e2, e3, e4, e5, e6⟩ := LD.of hk hL
  refine run_of ?_
  unfold f_X1_cell
  rw [wp_gd]
  refine ⟨e1, ?_⟩
  rw [wp_bnd, wp_rdR e1 a3, wp_bnd, wp_ldI (n := (a * 12 + b) * 5 + c) e3 (icl a b c) h (by omega), wp_ret, hz0]
  exact ⟨rfl, rfl⟩
theorem e_lwy (hcx : Cx L P W F n f z hold σ) (hP0 : 0 < P) {a b : Nat} (ha : a < P) (hb : b < P) : f_X1_lowestWay L (nI a) (nI b) σ = some (oI (lwy W z a b), σ) := by
  have P8 := hcx.zr.1.1
  obtain ⟨hk, hL, hLd, hM, hW, hz0, hh0⟩ := hcx
  obtain ⟨⟨a1, a2, a3, a4, a5, a6⟩, e1, e2, e3, e4, e5, e6⟩ := LD.of hk hL
  have hlow := (hM hP0).1 a b ha hb
  rw [hz0] at hlow
  refine run_of ?_
  unfold f_X1_lowestWay
  rw [wp_gd]
  refine ⟨e1, ?_⟩
  rw [wp_bnd, wp_rdR e1 a4, wp_bnd, wp_ldI (n := 8 * a + b) e4 (i8R a b) (by omega) (by omega), wp_ret]
  exact ⟨low_lwy hlow, rfl⟩
theorem cnS_le (p e : Nat) : cnS z sk p e ≤ 100 := Nat.min_le_left _ _
theorem e_chance (hT : TV L P W F n f z hold sk wr md h0 σ) {p e : Nat} (hp : p < P) (he : e ≤ 900) : f_X6_chance 134 L (nI p) (nI e + 1) σ = some (nI (cnS z sk p e), σ) := by
  obtain ⟨hcx, -, -, hch, -, hsk⟩ := hT
  have hz := hcx.zr
  have P8 := hz.1.1
  have e0 := sk_134_0 hcx.1
  have fc := e_cell hcx (a := 0) (b := p) (c := 2) (by omega)
  have ez := (rz_eq hz hp).2
  have e99 := (rz_eq hz hp).1
  rw [show (0 * 12 + p) * 5 + 2 = 5 * p + 2 by omega, ez] at fc
  have key : ∀ Q : Int32 → sa_St → Prop, Q (nI (cnS z sk p e)) σ → wp (f_X6_chance 134 L (nI p) (nI e + 1)) σ Q := by
    intro Q hQ
    have tail : ∀ y : Int32, y = sk p (e + 1) → wp (sa_jn1 (fun (y2 : Int32) => sa_ret (y2 : Int32)) fun j40 => if 0 ≤ y then j40 y else sa_bnd (f_X1_cell L 0 (nI p) 2) fun v3 => j40 v3) σ Q := by
      rintro y rfl
      unfold cnS at hQ
      rw [wp_jn1, wp_if]
      rcases hsk.1 p (e + 1) with h | h | h
      · rw [if_pos h, Nat.min_eq_right (by omega)] at hQ
        rw [h]
        refine ⟨fun q => absurd q (by decide), fun _ => ?_⟩
        rw [wp_bnd, wp_of_eq (show f_X1_cell L 0 (nI p) 2 σ = _ from fc), wp_ret]
        exact hQ
      · rw [h, if_neg (by rw [eq_mI (by omega)]; exact not_false), nI_clamp (by omega), Nat.min_eq_right (by omega)] at hQ
        rw [h]
        refine ⟨fun _ => ?_, fun q => absurd (by decide) q⟩
        rw [wp_ret]
        exact hQ
      · rw [h, if_neg (by rw [eq_mI (by omega)]; exact not_false), nI_clamp (by omega), Nat.min_eq_right (by omega)] at hQ
        rw [h]
        refine ⟨fun _ => ?_, fun q => absurd (by decide) q⟩
        rw [wp_ret]
        exact hQ
    unfold f_X6_chance
    rw [wp_gd]
    refine ⟨rfl, ?_⟩
    rw [nI_1, wp_jn1, wp_if]
    refine ⟨fun q => ?_, fun q => ?_⟩
    · have q' : 24 < e + 1 := (nI_ltI (a := 24) (by omega) (by omega)).mp q
      exact tail _ (hsk.2 p (e + 1) q' (by omega)).symm
    · have q' : ¬ 24 < e + 1 := fun h => q ((nI_ltI (a := 24) (by omega) (by omega)).mpr h)
      rw [wp_bnd, wp_rdR (v := 135) rfl e0, wp_bnd, wp_ldI (n := 25 * p + (e + 1)) (len := 200) al_135 (i25 p (e + 1)) (by omega) (by omega)]
      exact tail _ (hch p (e + 1) hp (by omega) (by omega))
  exact run_of (key _ ⟨rfl, rfl⟩)
end TVS
theorem rn1_0 {c g : Nat} {l d : Nat → Nat} (h : d g * c / 100 = 0) : rn1 c l d g = d := by
  funext x
  unfold rn1
  rw [h, Nat.sub_zero, Nat.add_zero]
  by_cases e : x = g - l g
  · rw [e, va_up_self]
    by_cases e2 : g - l g = g
    · rw [e2, va_up_self]
    · rw [va_up_ne _ _ e2]
  · rw [va_up_ne _ _ e]
    by_cases e2 : x = g
    · rw [e2, va_up_self]
    · rw [va_up_ne _ _ e2]
theorem rowU {r : Nat → Int64} {D : Nat → Nat} {i v : Nat} {y : Int64} (h : ∀ x, x < 100 → r x = lN (D x)) (hy : y = lN v) : ∀ x, x < 100 → va_up r i y x = lN (va_up D i v x) := by
  intro x hx
  by_cases e : x = i
  · subst e; rw [va_up_self, va_up_self, hy]
  · rw [va_up_ne _ _ e, va_up_ne _ _ e]; exact h x hx
section CRAIN
variable {L P W F n : Nat} {f : Nat → LWt} {z : Nat → Int32} {hold : Int32} {sk : Nat → Nat → Int32} {wr md h0 : Nat} {σ : sa_St} {R p e : Nat} {d : Nat → Nat} {Q : Unit → sa_St → Prop}
theorem c_rain1 (hT : TV L P W F n f z hold sk wr md h0 σ) (hal : sa_al .long R = 100) (hR : 141 ≤ R ∧ R ≤ 150) (hd : ∀ x, x < 100 → σ.2.2 R x = lN (d x)) (hs : zc_sm 100 d = AL) (hp : p < P) (he : e ≤ 900) (hQ : ∀ τ, CF R σ τ → (∀ x, x < 100 → τ.2.2 R x = lN (rnD (cnS z sk p e) (lsS f hold z wr md h0 p e) d 99 x)) → Q () τ) : wp (f_X9_letRain 136 R (nI p) (nI e)) σ Q := by
  have hT0 := hT
  obtain ⟨hcx, h2, ⟨f6, f7, f8⟩, hch, ⟨hP0, w9, m3, h99⟩, hsk⟩ := hT
  have hz := hcx.zr
  have P8 := hz.1.1
  have hk := hcx.1
  have hc := cnS_le (z := z) (sk := sk) p e
  obtain ⟨hh, hh9, ezh⟩ := (hz.2.1 p hp).1
  have ezc : (z (5 * p)).toNatClampNeg = hh := by rw [ezh, nI_clamp (by omega)]
  have fc := e_cell hcx (a := 0) (b := p) (c := 0) (by omega)
  rw [show (0 * 12 + p) * 5 + 0 = 5 * p by omega, ezh] at fc
  unfold f_X9_letRain
  rw [wp_gd]
  refine ⟨rfl, ?_⟩
  rw [wp_bnd, wp_rdR (v := 134) rfl (sk_136_1 hk), wp_bnd, wp_rdR (v := L) rfl h2, wp_bnd, wp_of_eq (e_chance hT0 hp he), wp_let, wp_bnd, wp_rdR (v := L) rfl h2, wp_bnd, wp_of_eq (show f_X1_cell L 0 (nI p) 0 σ = _ from fc), wp_let]
  have hlsd : ∀ g, lsS f hold z wr md h0 p e g = min (WN f hold g wr hh md (h0 + e)) g := fun g => by unfold lsS; rw [ezc]
  generalize hcn : cnS z sk p e = c at *
  refine wp_for1 100 1 (fun g τ => 1 ≤ g ∧ CF R σ τ ∧ ∀ x, x < 100 → τ.2.2 R x = lN (rnD c (lsS f hold z wr md h0 p e) d (g - 1) x)) ?_ ?_ ⟨Nat.le_refl 1, CF.rfl', hd⟩ (by omega) (by unfold sa_F; omega)
  · rintro g τ hg ⟨g1, hcf, hrow⟩ j hj
    have hsD := rnD_sum (c := c) (l := lsS f hold z wr md h0 p e) (d := d) hc (g - 1) (by omega)
    have hnx : rnD c (lsS f hold z wr md h0 p e) d (g + 1 - 1) = rn1 c (lsS f hold z wr md h0 p e) (rnD c (lsS f hold z wr md h0 p e) d (g - 1)) g := by
      obtain ⟨y, rfl⟩ : ∃ y, g = y + 1 := ⟨g - 1, by omega⟩
      rfl
    rw [hnx] at hj
    generalize rnD c (lsS f hold z wr md h0 p e) d (g - 1) = D at hsD hj hrow
    have hDg : D g ≤ AL := by rw [hs] at hsD; exact d_bd hsD hg
    have hmul : D g * c ≤ AL * 100 := Nat.mul_le_mul hDg hc
    have hw := wet_le (d := D g) hc
    unfold AL at hmul hDg
    have hT1 := hT0.cf hcf (by omega)
    obtain ⟨hcx1, -, ⟨f6', f7', f8'⟩, -⟩ := hT1
    rw [wp_if]
    refine ⟨fun q => absurd q (nI_ge (b := 100) hg (by omega)), fun _ => ?_⟩
    have hdiv : lN (D g) * (nI c).toInt64 / 100 = lN (D g * c / 100) := by
      rw [nI_l (by omega), lN_mul]
      exact pk_lDiv (a := D g * c) (b := 100) (by omega) (by omega) (by omega)
    rw [wp_bnd, wp_ldL (n := g) hal rfl hg (by omega), hrow g hg, wp_bnd, wp_dvL (by decide), hdiv, wp_jn0, wp_if, lg_cmp_le]
    refine ⟨fun q => ?_, fun q => ?_⟩
    · have q0 : D g * c / 100 = 0 := by
        have q' : lN (D g * c / 100) ≤ lN 0 := q
        rw [pk_lLE (by omega) (by omega)] at q'
        omega
      rw [wp_let, nI_1]
      refine hj _ ⟨by omega, hcf, ?_⟩
      rw [rn1_0 q0]
      exact hrow
    · rw [wp_bnd, wp_rdR (v := 15) rfl (sk_136_0 hcx1.1), wp_bnd, wp_rdI]
      refine ⟨rfl, ?_⟩
      rw [f6', wp_bnd, wp_rdI]
      refine ⟨rfl, ?_⟩
      rw [f7', wp_bnd, wp_rdI]
      refine ⟨rfl, ?_⟩
      rw [f8', nI_add, wp_bnd]
      refine w_loss hcx1.1 hcx1.2.2.2.2.1 (by omega) w9 hh9 m3 (by omega) (fun τ2 hF => ?_)
      rw [hcx1.2.2.2.2.2.2]
      have hls : min (WN f hold g wr hh md (h0 + e)) g = lsS f hold z wr md h0 p e g := (hlsd g).symm
      have hll : lsS f hold z wr md h0 p e g ≤ g := by rw [← hls]; omega
      rw [hls]
      have hrow2 : ∀ x, x < 100 → τ2.2.2 R x = lN (D x) := fun x hx => by
        rw [(hF.2 R (nm_33 R (by omega))).2]
        exact hrow x hx
      rw [wp_bnd, wp_ldL (n := g) hal rfl hg (by omega), hrow2 g hg, wp_bnd, lN_sub hw, wp_stL (n := g) hal rfl hg (by omega), pk_sub hll, wp_bnd, wp_ldL (n := g - lsS f hold z wr md h0 p e g) hal rfl (by omega) (by omega), wp_bnd, wp_stL (n := g - lsS f hold z wr md h0 p e g) hal rfl (by omega) (by omega), wp_let, nI_1]
      have hr3 := rowU (i := g) (v := D g - D g * c / 100) hrow2 rfl
      refine hj _ ⟨by omega, CF.upL (CF.upL (hcf.trans ⟨hF.1, fun j hj => (hF.2 j hj).1, fun j _ h3 => (hF.2 j (nm_33 j h3)).2⟩)), ?_⟩
      rw [upL_self, upL_self]
      unfold rn1
      refine rowU hr3 ?_
      rw [hr3 _ (by omega), lN_add]
  · rintro τ ⟨-, hcf, hrow⟩ j
    rw [wp_if]
    refine ⟨fun _ => ?_, fun q => absurd (show (100 : Int32) ≤ nI 100 by decide) q⟩
    rw [wp_ret]
    exact hQ τ hcf hrow
end CRAIN
