/-! JOURNEYS, by the reference: chances, an hour of rain, pouring off -/
def MF (n : Nat) (f : Nat → LWt) (σ τ : sa_St) : Prop := (∀ a b, ¬ (a = 159 ∧ b = 5) → τ.2.1 a b = σ.2.1 a b) ∧ (∀ j, j ∉ [159, 163, 175, 176] → τ.1 j = σ.1 j) ∧ (∀ k, ¬ isPF k → k ≠ 60 → k ≠ 61 → τ.1 159 k = σ.1 159 k) ∧ MemoR n f (τ.2.2 175) (τ.1 176)
def MV (L P W F n : Nat) (f : Nat → LWt) (z : Nat → Int32) (hold : Int32) (sk : Nat → Nat → Int32) (k wl : Nat → Int32) (σ : sa_St) : Prop := Cx L P W F n f z hold σ ∧ σ.1 173 = toW k wl ∧ ∃ ns, ns ≤ 16 ∧ σ.1 159 48 = nI ns ∧ ∀ p h, skyAt (σ.1 178) (σ.1 179) (σ.1 180) p h ns = sk p h
theorem nm_M (j : Nat) (h : j ≠ 159 ∧ j ≠ 163 ∧ j ≠ 175 ∧ j ≠ 176) : j ∉ [159, 163, 175, 176] := by
  simp only [List.mem_cons, List.not_mem_nil, or_false]
  omega
section MVS
variable {L P W F n : Nat} {f : Nat → LWt} {z : Nat → Int32} {hold : Int32} {sk : Nat → Nat → Int32} {k wl : Nat → Int32} {σ τ υ : sa_St}
theorem MF.trans (h : MF n f σ τ) (h2 : MF n f τ υ) : MF n f σ υ := ⟨fun a b c => (h2.1 a b c).trans (h.1 a b c), fun j a => (h2.2.1 j a).trans (h.2.1 j a), fun k a b c => (h2.2.2.1 k a b c).trans (h.2.2.1 k a b c), h2.2.2.2⟩
theorem MF.refl (hM : MemoR n f (σ.2.2 175) (σ.1 176)) : MF n f σ σ := ⟨fun _ _ _ => rfl, fun _ _ => rfl, fun _ _ _ _ => rfl, hM⟩
theorem MF.ofWf (h : Wf n f σ τ) : MF n f σ τ := ⟨h.1.1.1, fun j hj => (h.1.2 j hj).1, fun k a _ _ => h.2.1 k a, h.2.2⟩
theorem MF.upL {id i : Nat} {v : Int64} (h : MF n f σ τ) (hid : id ≠ 175) : MF n f σ (sa_upL τ id i v) := ⟨h.1, h.2.1, h.2.2.1, by rw [upL_ne (Ne.symm hid)]; exact h.2.2.2⟩
theorem MF.up {k : Nat} {v : Int32} (h : MF n f σ τ) (hk : k = 60 ∨ k = 61) : MF n f σ (sa_upI τ 159 k v) := by
  refine ⟨h.1, fun j hj => ?_, fun k2 a b c => ?_, ?_⟩
  · rw [upI_ne (fun e => hj (by rw [e]; decide))]
    exact h.2.1 j hj
  · rw [upI_self, va_up_ne _ _ (by omega)]
    exact h.2.2.1 k2 a b c
  · rw [upI_ne (by omega)]
    exact h.2.2.2
theorem pf_no {k : Nat} (h : k < 8 ∨ k = 15 ∨ k = 16 ∨ 18 ≤ k) : ¬ isPF k := by
  unfold isPF
  omega
theorem MF.dn (h : MF n f σ τ) : Dn [0, 9] σ τ := by
  refine ⟨fun a b g _ => h.1 a b g, fun a k g => ?_⟩
  by_cases e : a = 159
  · subst e
    by_cases e2 : isPF k
    · rw [isPF_0 e2] at g; cases g
    · by_cases e3 : k = 60
      · subst e3; cases g
      · by_cases e4 : k = 61
        · subst e4; cases g
        · exact h.2.2.1 k e2 e3 e4
  · by_cases e2 : a = 163
    · subst e2; cases g
    · by_cases e3 : a = 175
      · subst e3; cases g
      · by_cases e4 : a = 176
        · subst e4; cases g
        · rw [h.2.1 a (nm_M a ⟨e, e2, e3, e4⟩)]
theorem MV.mf (h : MV L P W F n f z hold sk k wl σ) (hf : MF n f σ τ) : MV L P W F n f z hold sk k wl τ := by
  obtain ⟨g1, g2, ns, g3, g4, g5⟩ := h
  refine ⟨g1.dn hf.dn rfl rfl hf.2.2.2, by rw [hf.2.1 173 (nm_M 173 (by omega))]; exact g2, ns, g3, by rw [hf.2.2.1 48 (pf_no (by omega)) (by omega) (by omega)]; exact g4, fun p h => ?_⟩
  rw [hf.2.1 178 (nm_M 178 (by omega)), hf.2.1 179 (nm_M 179 (by omega)), hf.2.1 180 (nm_M 180 (by omega))]
  exact g5 p h
theorem MV.pl (h : MV L P W F n f z hold sk k wl σ) {p j : Nat} (hp : p < P) (hj : j < 4) : σ.1 164 (4 * p + j) = z (5 * p + j) := by
  obtain ⟨⟨-, -, hLd, -, -, hz, -⟩, -⟩ := h
  have := (hLd.2.2.1 p hp).2.2.2.2 j hj
  rw [hz] at this
  exact this
theorem MV.wy (h : MV L P W F n f z hold sk k wl σ) {w j : Nat} (hw : w < W) (hj : j < 4) : σ.1 166 (4 * w + j) = z (60 + 5 * w + j) := by
  obtain ⟨⟨-, -, hLd, -, -, hz, -⟩, -⟩ := h
  have := (hLd.2.2.2.1 w hw).2.2.2 j hj
  rw [hz] at this
  exact this
theorem m_chance (hV : MV L P W F n f z hold sk k wl σ) (hsk : SkS sk) {p e : Nat} (hp : p < P) (he : e ≤ 900) : f_X12_chanceAt 159 (nI p) (nI e + 1) σ = some (nI (cnS z sk p e), σ) := by
  have hpl := hV.pl (j := 2) hp (by omega)
  have hz := hV.1.zr
  have P8 := hz.1.1
  have hk := hV.1.1
  have ez := (rz_eq hz hp).2
  have e99 := (rz_eq hz hp).1
  rw [ez] at hpl
  obtain ⟨-, -, ns, ns16, h48, hsa⟩ := hV
  have hse := hsa p (e + 1)
  rw [nI_1]
  have key : ∀ Q : Int32 → sa_St → Prop, Q (nI (cnS z sk p e)) σ → wp (f_X12_chanceAt 159 (nI p) (nI (e + 1))) σ Q := by
    intro Q hQ
    unfold cnS at hQ
    unfold f_X12_chanceAt
    rw [wp_gd]
    refine ⟨rfl, ?_⟩
    rw [wp_bnd, wp_rdI, h48]
    refine ⟨rfl, ?_⟩
    rw [wp_let]
    have e0 : nI ns - 1 = if ns = 0 then mI else nI (ns - 1) := by
      by_cases h : ns = 0
      · rw [if_pos h, h]; rfl
      · rw [if_neg h]; exact pk_sub (a := ns) (b := 1) (by omega)
    rw [e0]
    refine wp_wh1 (fun m a τ => ∃ i, i ≤ ns ∧ m = i ∧ τ = σ ∧ a = (if i = 0 then mI else nI (i - 1)) ∧ skyAt (σ.1 178) (σ.1 179) (σ.1 180) p (e + 1) i = sk p (e + 1)) ?_ sa_F ns _ σ (by unfold sa_F; omega) ⟨ns, Nat.le_refl _, rfl, rfl, rfl, hse⟩
    rintro m a τ ⟨i, hi, rfl, rfl, rfl, hs⟩ j hj
    cases m with
    | zero =>
      rw [if_pos rfl, wp_if]
      refine ⟨fun _ => ?_, fun q => absurd (show mI < 0 by decide) q⟩
      have hs' : sk p (e + 1) = mI := hs.symm
      rw [if_pos hs', Nat.min_eq_right (by omega)] at hQ
      rw [wp_bnd, wp_rdR (v := 164) rfl (sk_159_18 hk), wp_bnd, wp_ldI (n := 4 * p + 2) (len := 32) al_164 (i42 p) (by omega) (by omega), hpl, wp_ret]
      exact hQ
    | succ y =>
      have ec : (if y + 1 = 0 then mI else nI (y + 1 - 1)) = nI y := by rw [if_neg (by omega), Nat.add_sub_cancel]
      have hss : skyAt (τ.1 178) (τ.1 179) (τ.1 180) p (e + 1) (y + 1) = if τ.1 178 y = nI p ∧ τ.1 179 y = nI (e + 1) then (if τ.1 180 y = 0 then 0 else 100) else skyAt (τ.1 178) (τ.1 179) (τ.1 180) p (e + 1) y := rfl
      rw [hss] at hs
      have next : ¬ (τ.1 178 y = nI p ∧ τ.1 179 y = nI (e + 1)) → wp (sa_let ((nI y + (-1)) : Int32) fun x8 => j x8) τ Q := fun hn => by
        rw [wp_let]
        rw [if_neg hn] at hs
        refine hj y _ τ (by omega) ⟨y, by omega, rfl, rfl, ?_, hs⟩
        cases y with
        | zero => rfl
        | succ y => rw [if_neg (by omega)]; exact pk_m1 y
      rw [ec, wp_if]
      refine ⟨fun q => absurd q (nI_pos (by omega)), fun _ => ?_⟩
      rw [wp_bnd, wp_rdR (v := 178) rfl (sk_159_45 hk), wp_bnd, wp_ldI (n := y) (len := 16) al_178 rfl (by omega) (by omega), wp_jn0, wp_if]
      refine ⟨fun q => next (fun h => q h.1), fun q => ?_⟩
      have q1 := Decidable.not_not.mp q
      rw [wp_bnd, wp_rdR (v := 179) rfl (sk_159_46 hk), wp_bnd, wp_ldI (n := y) (len := 16) al_179 rfl (by omega) (by omega), wp_if]
      refine ⟨fun q => next (fun h => q h.2), fun q => ?_⟩
      have q2 := Decidable.not_not.mp q
      rw [if_pos ⟨q1, q2⟩] at hs
      rw [wp_bnd, wp_rdR (v := 180) rfl (sk_159_47 hk), wp_bnd, wp_ldI (n := y) (len := 16) al_180 rfl (by omega) (by omega), wp_jn1, wp_if]
      refine ⟨fun q3 => ?_, fun q3 => ?_⟩
      · rw [if_pos q3] at hs
        rw [wp_ret]
        rw [← hs, if_neg (show ¬ (0 : Int32) = mI by decide)] at hQ
        exact hQ
      · rw [if_neg q3] at hs
        rw [wp_ret]
        rw [← hs, if_neg (show ¬ (100 : Int32) = mI by decide)] at hQ
        exact hQ
  exact run_of (key _ ⟨rfl, rfl⟩)
end MVS
section MRAIN
variable {L P W F n : Nat} {f : Nat → LWt} {z : Nat → Int32} {hold : Int32} {sk : Nat → Nat → Int32} {k wl : Nat → Int32} {σ : sa_St} {wr md h0 c p e m : Nat} {d : Nat → Nat} {Q : Unit → sa_St → Prop}
/-- who goes -/
def Go (k : Nat → Int32) (c wr md h0 : Nat) : Prop := c < 8 ∧ k (23 + 7 * c + 3) = nI wr ∧ k (23 + 7 * c + 4) = nI md ∧ k 21 = nI h0 ∧ wr ≤ 9 ∧ md ≤ 3 ∧ h0 ≤ 99000
theorem m_rain1 (hV : MV L P W F n f z hold sk k wl σ) (hsk : SkS sk) (hgo : Go k c wr md h0) (h60 : σ.1 159 60 = nI c) (h61 : σ.1 159 61 = nI e) (hd : ∀ x, x < 100 → σ.2.2 181 x = lN (d x)) (hs : zc_sm 100 d = AL) (hp : p < P) (he : e ≤ 900) (hQ : ∀ τ, MF n f σ τ → τ.1 159 60 = nI c → τ.1 159 61 = nI (e + 1) → (∀ x, x < 100 → τ.2.2 181 x = lN (rnD (cnS z sk p e) (lsS f hold z wr md h0 p e) d 99 x)) → Q () τ) : wp (f_X12_rainsOn 159 (nI p)) σ Q := by
  have hz := hV.1.zr
  have P8 := hz.1.1
  have hk := hV.1.1
  obtain ⟨c8, kw, kd, kt, w9, d3, h99⟩ := hgo
  have hc := cnS_le (z := z) (sk := sk) p e
  obtain ⟨hh, hh9, ezh⟩ := (hz.2.1 p hp).1
  have ezc : (z (5 * p)).toNatClampNeg = hh := by rw [ezh, nI_clamp (by omega)]
  have hlsd : ∀ g, lsS f hold z wr md h0 p e g = min (WN f hold g wr hh md (h0 + e)) g := fun g => by unfold lsS; rw [ezc]
  unfold f_X12_rainsOn
  rw [wp_gd]
  refine ⟨rfl, ?_⟩
  rw [wp_bnd, wp_rdI, h61]
  refine ⟨rfl, ?_⟩
  rw [wp_bnd, wp_of_eq (m_chance hV hsk hp he), wp_let]
  have hfin : ∀ x, x < 100 → tnD (cnS z sk p e) (lsS f hold z wr md h0 p e) d 99 x = rnD (cnS z sk p e) (lsS f hold z wr md h0 p e) d 99 x := fun x hx => tn_all hc hx
  generalize hcn : cnS z sk p e = ch at *
  refine wp_for1 100 0 (fun i τ => MF n f σ τ ∧ τ.1 159 60 = nI c ∧ τ.1 159 61 = nI e ∧ (∀ x, x < 100 → τ.2.2 181 x = lN (d x)) ∧ ∀ x, x < i → τ.2.2 182 x = lN (tn0 d x)) ?_ ?_ ⟨MF.refl hV.1.memo, h60, h61, hd, fun x hx => by omega⟩ (by omega) (by unfold sa_F; omega)
  · rintro i τ hi ⟨mf, g60, g61, g1, g2⟩ j hj
    have hk1 := (hV.mf mf).1.1
    have put : ∀ y : Int64, y = lN (tn0 d i) → wp (sa_bnd (sa_stL 182 (nI i) y) fun _ => sa_let ((nI i + 1) : Int32) fun x41 => j x41) τ Q := fun y hy => by
      rw [wp_bnd, wp_stL (n := i) (len := 100) al_182 rfl hi (by omega), wp_let, nI_1]
      refine hj _ ⟨mf.upL (by omega), g60, g61, fun x hx => by rw [upL_ne (by omega)]; exact g1 x hx, fun x hx => ?_⟩
      rw [upL_self]
      by_cases e : x = i
      · subst e; rw [va_up_self]; exact hy
      · rw [va_up_ne _ _ e]; exact g2 x (by omega)
    rw [wp_if]
    refine ⟨fun q => absurd q (nI_nlt (a := 99) (b := i) (by omega) (by omega)), fun _ => ?_⟩
    rw [wp_bnd, wp_rdR (v := 182) rfl (sk_159_50 hk1), wp_jn1, wp_if]
    refine ⟨fun q => put 0 ?_, fun q => ?_⟩
    · unfold tn0
      rw [if_neg (fun h => q (by rw [h]; rfl))]
      rfl
    · have q' : i = 0 := by
        have q2 := Decidable.not_not.mp q
        rw [L0, nI_eq (by omega) (by omega)] at q2
        exact q2
      rw [wp_bnd, wp_rdR (v := 181) rfl (sk_159_49 hk1), wp_bnd, wp_ldL (j := 0) (n := 0) (len := 100) al_181 rfl (by omega) (by omega), g1 0 (by omega)]
      refine put _ ?_
      unfold tn0
      rw [if_pos q']
  · rintro τ ⟨mf, g60, g61, g1, g2⟩ j
    rw [wp_if]
    refine ⟨fun _ => ?_, fun q => absurd (show (99 : Int32) < nI 100 by decide) q⟩
    rw [wp_let]
    refine wp_for1 100 1 (fun g τ => 1 ≤ g ∧ MF n f σ τ ∧ τ.1 159 60 = nI c ∧ τ.1 159 61 = nI e ∧ (∀ x, x < 100 → τ.2.2 181 x = lN (d x)) ∧ ∀ x, x < 100 → τ.2.2 182 x = lN (tnD ch (lsS f hold z wr md h0 p e) d (g - 1) x)) ?_ ?_ ⟨Nat.le_refl 1, mf, g60, g61, g1, g2⟩ (by omega) (by unfold sa_F; omega)
    · rintro g υ hg ⟨gg, mf1, t60, t61, t1, t2⟩ j2 hj2
      have hnx : tnD ch (lsS f hold z wr md h0 p e) d (g + 1 - 1) = tn1 ch (lsS f hold z wr md h0 p e) d (tnD ch (lsS f hold z wr md h0 p e) d (g - 1)) g := by
        obtain ⟨y, rfl⟩ : ∃ y, g = y + 1 := ⟨g - 1, by omega⟩
        rfl
      rw [hnx] at hj2
      generalize tnD ch (lsS f hold z wr md h0 p e) d (g - 1) = T at hj2 t2
      have hV1 := hV.mf mf1
      have hk1 := hV1.1.1
      have hDg : d g ≤ AL := d_bd hs hg
      have hmul : d g * ch ≤ AL * 100 := Nat.mul_le_mul hDg hc
      have hw := wet_le (d := d g) hc
      unfold AL at hmul hDg
      rw [wp_if]
      refine ⟨fun q => absurd q (nI_nlt (a := 99) (b := g) (by omega) (by omega)), fun _ => ?_⟩
      rw [wp_bnd, wp_rdR (v := 181) rfl (sk_159_49 hk1), wp_bnd, wp_ldL (n := g) (len := 100) al_181 rfl hg (by omega), t1 g hg, wp_jn0, wp_if, lg_cmp_eq]
      refine ⟨fun _ => ?_, fun q => ?_⟩
      · have hdiv : lN (d g) * (nI ch).toInt64 / 100 = lN (d g * ch / 100) := by
          rw [nI_l (by omega), lN_mul]
          exact pk_lDiv (a := d g * ch) (b := 100) (by omega) (by omega) (by omega)
        have w3 : υ.1 173 (7 * c + 3) = nI wr := by rw [hV1.2.1, toW_own (by omega)]; exact kw
        have w4 : υ.1 173 (7 * c + 4) = nI md := by rw [hV1.2.1, toW_own (by omega)]; exact kd
        have w76 : υ.1 173 76 = nI h0 := by rw [hV1.2.1, toW_76]; exact kt
        have wz : υ.1 164 (4 * p) = nI hh := by
          have := hV1.pl (j := 0) hp (by omega)
          exact this.trans ezh
        rw [wp_bnd, wp_rdR (v := 181) rfl (sk_159_49 hk1), wp_bnd, wp_ldL (n := g) (len := 100) al_181 rfl hg (by omega), t1 g hg, wp_bnd, wp_dvL (by decide), hdiv, wp_bnd, wp_rdR (v := 173) rfl (sk_159_35 hk1), wp_bnd, wp_rdI, t60]
        refine ⟨rfl, ?_⟩
        rw [wp_bnd, wp_ldI (n := 7 * c + 3) (len := 260) al_173 (i73 c) (by omega) (by omega), w3, wp_bnd, wp_rdR (v := 164) rfl (sk_159_18 hk1), wp_bnd, wp_ldI (n := 4 * p) (len := 32) al_164 (i4 p) (by omega) (by omega), wz, wp_bnd, wp_rdR (v := 173) rfl (sk_159_35 hk1), wp_bnd, wp_rdI, t60]
        refine ⟨rfl, ?_⟩
        rw [wp_bnd, wp_ldI (n := 7 * c + 4) (len := 260) al_173 (i74 c) (by omega) (by omega), w4, wp_bnd, wp_rdR (v := 173) rfl (sk_159_35 hk1), wp_bnd, wp_ldI (j := 76) (n := 76) (len := 260) al_173 rfl (by omega) (by omega), w76, wp_bnd, wp_rdI, t61]
        refine ⟨rfl, ?_⟩
        rw [nI_add, wp_bnd]
        refine w_wearBy hk1 hV1.1.2.2.2.2.1 (by omega) w9 hh9 d3 (by omega) (fun τ2 hF => ?_)
        rw [hV1.1.2.2.2.2.2.2]
        have mf2 : MF n f υ τ2 := MF.ofWf hF
        have hV2 := hV1.mf mf2
        have hk2 := hV2.1.1
        have hle := WN_le f hold g wr hh md (h0 + e)
        have hmin : sa_min (nI g) (nI (WN f hold g wr hh md (h0 + e))) = nI (lsS f hold z wr md h0 p e g) := by
          rw [sa_minN (by omega) (by omega), hlsd, Nat.min_comm]
        have hll : lsS f hold z wr md h0 p e g ≤ g := by rw [hlsd]; omega
        have s1 : ∀ x, x < 100 → τ2.2.2 181 x = lN (d x) := fun x hx => by rw [hF.1.1.2 181 (by omega)]; exact t1 x hx
        have s2 : ∀ x, x < 100 → τ2.2.2 182 x = lN (T x) := fun x hx => by rw [hF.1.1.2 182 (by omega)]; exact t2 x hx
        rw [wp_let, hmin, pk_sub hll, wp_bnd, wp_rdR (v := 182) rfl (sk_159_50 hk2), wp_bnd, wp_ldL (n := g - lsS f hold z wr md h0 p e g) (len := 100) al_182 rfl (by omega) (by omega), s2 _ (by omega), wp_bnd, lN_add, wp_stL (n := g - lsS f hold z wr md h0 p e g) (len := 100) al_182 rfl (by omega) (by omega)]
        have s3 := rowU (i := g - lsS f hold z wr md h0 p e g) (v := T (g - lsS f hold z wr md h0 p e g) + d g * ch / 100) s2 rfl
        have u1 : (sa_upL τ2 182 (g - lsS f hold z wr md h0 p e g) (lN (T (g - lsS f hold z wr md h0 p e g) + d g * ch / 100))).2.2 182 = va_up (τ2.2.2 182) (g - lsS f hold z wr md h0 p e g) (lN (T (g - lsS f hold z wr md h0 p e g) + d g * ch / 100)) := upL_self
        have u2 : (sa_upL τ2 182 (g - lsS f hold z wr md h0 p e g) (lN (T (g - lsS f hold z wr md h0 p e g) + d g * ch / 100))).2.2 181 = τ2.2.2 181 := upL_ne (by omega)
        rw [wp_bnd, wp_rdR (v := 182) rfl (sk_159_50 (show SK (sa_upL τ2 182 (g - lsS f hold z wr md h0 p e g) (lN (T (g - lsS f hold z wr md h0 p e g) + d g * ch / 100))).2.1 from hk2)), wp_bnd, wp_ldL (n := g) (len := 100) al_182 rfl hg (by omega), u1, s3 g hg, wp_bnd, wp_rdR (v := 181) rfl (sk_159_49 (show SK (sa_upL τ2 182 (g - lsS f hold z wr md h0 p e g) (lN (T (g - lsS f hold z wr md h0 p e g) + d g * ch / 100))).2.1 from hk2)), wp_bnd, wp_ldL (n := g) (len := 100) al_181 rfl hg (by omega), u2, s1 g hg, wp_bnd, lN_sub hw, lN_add, wp_stL (n := g) (len := 100) al_182 rfl hg (by omega), wp_let, nI_1]
        refine hj2 _ ⟨by omega, ((mf1.trans mf2).upL (by omega)).upL (by omega), ?_, ?_, fun x hx => ?_, ?_⟩
        · show τ2.1 159 60 = _
          rw [hF.2.1 60 (pf_no (by omega))]
          exact t60
        · show τ2.1 159 61 = _
          rw [hF.2.1 61 (pf_no (by omega))]
          exact t61
        · rw [upL_ne (by omega), upL_ne (by omega)]
          exact s1 x hx
        · rw [upL_self, u1]
          unfold tn1
          exact rowU s3 rfl
      · have q0 : d g = 0 := by
          have q' : lN (d g) = lN 0 := Decidable.not_not.mp q
          rw [pk_lEQ (by omega) (by omega)] at q'
          exact q'
        rw [wp_let, nI_1]
        refine hj2 _ ⟨by omega, mf1, t60, t61, t1, ?_⟩
        rw [tn1_0 q0]
        exact t2
    · rintro υ ⟨-, mf1, t60, t61, t1, t2⟩ j2
      rw [wp_if]
      refine ⟨fun _ => ?_, fun q => absurd (show (99 : Int32) < nI 100 by decide) q⟩
      rw [wp_let]
      refine wp_for1 100 0 (fun i τ => MF n f σ τ ∧ τ.1 159 60 = nI c ∧ τ.1 159 61 = nI e ∧ (∀ x, x < 100 → τ.2.2 182 x = lN (tnD ch (lsS f hold z wr md h0 p e) d 99 x)) ∧ ∀ x, x < i → τ.2.2 181 x = lN (tnD ch (lsS f hold z wr md h0 p e) d 99 x)) ?_ ?_ ⟨mf1, t60, t61, t2, fun x hx => by omega⟩ (by omega) (by unfold sa_F; omega)
      · rintro i τ hi ⟨mf3, b60, b61, b2, b1⟩ j3 hj3
        have hk3 := (hV.mf mf3).1.1
        rw [wp_if]
        refine ⟨fun q => absurd q (nI_nlt (a := 99) (b := i) (by omega) (by omega)), fun _ => ?_⟩
        rw [wp_bnd, wp_rdR (v := 181) rfl (sk_159_49 hk3), wp_bnd, wp_rdR (v := 182) rfl (sk_159_50 hk3), wp_bnd, wp_ldL (n := i) (len := 100) al_182 rfl hi (by omega), b2 i hi, wp_bnd, wp_stL (n := i) (len := 100) al_181 rfl hi (by omega), wp_let, nI_1]
        refine hj3 _ ⟨mf3.upL (by omega), b60, b61, fun x hx => by rw [upL_ne (by omega)]; exact b2 x hx, fun x hx => ?_⟩
        rw [upL_self]
        by_cases e : x = i
        · subst e; rw [va_up_self]
        · rw [va_up_ne _ _ e]; exact b1 x (by omega)
      · rintro τ ⟨mf3, b60, b61, b2, b1⟩ j3
        rw [wp_if]
        refine ⟨fun _ => ?_, fun q => absurd (show (99 : Int32) < nI 100 by decide) q⟩
        rw [wp_bnd, wp_rdI, b61]
        refine ⟨rfl, ?_⟩
        rw [wp_bnd, wp_wrI, nI_1]
        refine ⟨rfl, ?_⟩
        rw [wp_ret]
        refine hQ _ (mf3.up (Or.inr rfl)) (by rw [upI_self, va_up_ne _ _ (by omega)]; exact b60) (by rw [upI_self, va_up_self]) (fun x hx => ?_)
        rw [← hfin x hx]
        exact b1 x hx
end MRAIN
