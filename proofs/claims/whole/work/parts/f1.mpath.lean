/-! JOURNEYS, by the reference: pouring off, setting out, a path -/
section MPATH
variable {L P W F n : Nat} {f : Nat → LWt} {z : Nat → Int32} {hold : Int32} {sk : Nat → Nat → Int32} {k wl : Nat → Int32} {σ : sa_St} {wr md h0 c e a0 to : Nat} {d : Nat → Nat}
theorem pr1_at0 {v : Nat} : pr1 v d 0 = d := by
  funext x
  unfold pr1
  rw [Nat.zero_sub]
  by_cases e : x = 0
  · subst e; rw [va_up_self, va_up_self, Nat.zero_add]
  · rw [va_up_ne _ _ e, va_up_ne _ _ e]
theorem m_shift {v : Nat} {Q : Unit → sa_St → Prop} (hV : MV L P W F n f z hold sk k wl σ) (hd : ∀ x, x < 100 → σ.2.2 181 x = lN (d x)) (hv : v ≤ 99) (hQ : ∀ τ, MF n f σ τ → τ.1 = σ.1 → (∀ x, x < 100 → τ.2.2 181 x = lN (prD v d 99 x)) → Q () τ) : wp (f_X12_shifts 159 (nI v)) σ Q := by
  unfold f_X12_shifts
  rw [wp_gd]
  refine ⟨rfl, ?_⟩
  rw [wp_let]
  refine wp_for1 100 0 (fun i τ => MF n f σ τ ∧ τ.1 = σ.1 ∧ ∀ x, x < 100 → τ.2.2 181 x = lN (prD v d (i - 1) x)) ?_ ?_ ⟨MF.refl hV.1.memo, rfl, hd⟩ (by omega) (by unfold sa_F; omega)
  · rintro i τ hi ⟨mf, h1, hrow⟩ j hj
    have hk1 := (hV.mf mf).1.1
    have hnx : prD v d (i + 1 - 1) = pr1 v (prD v d (i - 1)) i := by
      cases i with
      | zero => exact pr1_at0.symm
      | succ y => rfl
    rw [hnx] at hj
    generalize prD v d (i - 1) = D at hj hrow
    have hmx : sa_max 0 (nI i - nI v) = nI (i - v) := mx_sub (by omega) (by omega)
    have hr3 := rowU (i := i) (v := 0) (y := 0) hrow rfl
    rw [wp_if]
    refine ⟨fun q => absurd q (nI_nlt (a := 99) (b := i) (by omega) (by omega)), fun _ => ?_⟩
    rw [wp_bnd, wp_rdR (v := 181) rfl (sk_159_49 hk1), wp_bnd, wp_ldL (n := i) (len := 100) al_181 rfl hi (by omega), hrow i hi, wp_bnd, wp_rdR (v := 181) rfl (sk_159_49 hk1), wp_bnd, wp_stL (n := i) (len := 100) al_181 rfl hi (by omega)]
    have u1 : (sa_upL τ 181 i 0).2.2 181 = va_up (τ.2.2 181) i 0 := upL_self
    rw [hmx, wp_bnd, wp_rdR (v := 181) rfl (sk_159_49 (show SK (sa_upL τ 181 i 0).2.1 from hk1)), wp_bnd, wp_ldL (n := i - v) (len := 100) al_181 rfl (by omega) (by omega), u1, hr3 _ (by omega), wp_bnd, lN_add, wp_stL (n := i - v) (len := 100) al_181 rfl (by omega) (by omega), wp_let, nI_1]
    refine hj _ ⟨(mf.upL (by omega)).upL (by omega), h1, ?_⟩
    rw [upL_self, u1]
    unfold pr1
    exact rowU hr3 rfl
  · rintro τ ⟨mf, h1, hrow⟩ j
    rw [wp_if]
    refine ⟨fun _ => ?_, fun q => absurd (show (99 : Int32) < nI 100 by decide) q⟩
    rw [wp_ret]
    exact hQ τ mf h1 hrow
theorem m_begin {g : Nat} {Q : Unit → sa_St → Prop} (hV : MV L P W F n f z hold sk k wl σ) (hc : c < 8) (hg : k (23 + 7 * c + 2) = nI g) (hg9 : g < 100) (hQ : ∀ τ, MF n f σ τ → τ.1 159 60 = nI c → τ.1 159 61 = nI 0 → (∀ x, x < 100 → τ.2.2 181 x = lN (st0 g x)) → Q () τ) : wp (f_X12_beginsParts 159 (nI c)) σ Q := by
  unfold f_X12_beginsParts
  rw [wp_gd]
  refine ⟨rfl, ?_⟩
  rw [wp_let]
  refine wp_for1 100 0 (fun i τ => MF n f σ τ ∧ ∀ x, x < i → τ.2.2 181 x = lN 0) ?_ ?_ ⟨MF.refl hV.1.memo, fun x hx => by omega⟩ (by omega) (by unfold sa_F; omega)
  · rintro i τ hi ⟨mf, hrow⟩ j hj
    have hk1 := (hV.mf mf).1.1
    rw [wp_if]
    refine ⟨fun q => absurd q (nI_nlt (a := 99) (b := i) (by omega) (by omega)), fun _ => ?_⟩
    rw [wp_bnd, wp_rdR (v := 181) rfl (sk_159_49 hk1), wp_bnd, wp_stL (n := i) (len := 100) al_181 rfl hi (by omega), wp_let, nI_1]
    refine hj _ ⟨mf.upL (by omega), fun x hx => ?_⟩
    rw [upL_self]
    by_cases e : x = i
    · subst e; rw [va_up_self]; rfl
    · rw [va_up_ne _ _ e]; exact hrow x (by omega)
  · rintro τ ⟨mf, hrow⟩ j
    have hV1 := hV.mf mf
    have hk1 := hV1.1.1
    have w2 : τ.1 173 (7 * c + 2) = nI g := by rw [hV1.2.1, toW_own (by omega)]; exact hg
    rw [wp_if]
    refine ⟨fun _ => ?_, fun q => absurd (show (99 : Int32) < nI 100 by decide) q⟩
    rw [wp_bnd, wp_rdR (v := 181) rfl (sk_159_49 hk1), wp_bnd, wp_rdR (v := 173) rfl (sk_159_35 hk1), wp_bnd, wp_ldI (n := 7 * c + 2) (len := 260) al_173 (i72 c) (by omega) (by omega), w2, wp_bnd, wp_stL (n := g) (len := 100) al_181 rfl hg9 (by omega), wp_bnd, wp_wrI]
    refine ⟨rfl, ?_⟩
    rw [wp_bnd, wp_wrI]
    refine ⟨rfl, ?_⟩
    rw [wp_ret]
    refine hQ _ (((mf.upL (by omega)).up (Or.inl rfl)).up (Or.inr rfl)) (by rw [upI_self, va_up_ne _ _ (by omega), upI_self, va_up_self]) (by rw [upI_self, va_up_self]; rfl) (fun x hx => ?_)
    show (sa_upL τ 181 g 1000000000).2.2 181 x = _
    rw [upL_self]
    unfold st0
    by_cases e : x = g
    · subst e; rw [va_up_self, if_pos rfl]; rfl
    · rw [va_up_ne _ _ e, if_neg e]; exact hrow x hx
theorem m_mean (hk : SK σ.2.1) (hd : ∀ x, x < 100 → σ.2.2 181 x = lN (d x)) (hs : zc_sm 100 d = AL) : f_X12_meanNow 159 σ = some (nI (mnD d), σ) := by
  refine run_of ?_
  unfold f_X12_meanNow
  rw [wp_gd]
  refine ⟨rfl, ?_⟩
  rw [wp_let, wp_let]
  refine wp_for2 100 1 (fun g a τ => 1 ≤ g ∧ τ = σ ∧ a = lN (mnS d (g - 1))) ?_ ?_ ⟨Nat.le_refl 1, rfl, rfl⟩ (by omega) (by unfold sa_F; omega)
  · rintro g a τ hg ⟨g1, rfl, rfl⟩ j hj
    have hnx : mnS d (g + 1 - 1) = mnS d (g - 1) + d g * g := by
      obtain ⟨y, rfl⟩ : ∃ y, g = y + 1 := ⟨g - 1, by omega⟩
      rfl
    rw [wp_if]
    refine ⟨fun q => absurd q (nI_nlt (a := 99) (b := g) (by omega) (by omega)), fun _ => ?_⟩
    rw [wp_bnd, wp_rdR (v := 181) rfl (sk_159_49 hk), wp_bnd, wp_ldL (n := g) (len := 100) al_181 rfl hg (by omega), hd g hg, wp_let, wp_let, nI_1]
    refine hj _ τ ⟨by omega, rfl, ?_⟩
    rw [nI_l (by omega), lN_mul, lN_add, hnx]
  · rintro a τ ⟨-, rfl, rfl⟩ j
    have hb := mnS_bd hs 99 (Nat.le_refl _)
    unfold AL at hb
    have hdiv : lN (mnS d (100 - 1)) / 1000000 = lN (mnD d) := pk_lDiv (a := mnS d 99) (b := 1000000) (by omega) (by omega) (by omega)
    rw [wp_if]
    refine ⟨fun _ => ?_, fun q => absurd (show (99 : Int32) < nI 100 by decide) q⟩
    rw [wp_bnd, wp_dvL (by decide), hdiv, wp_ret, lN_i]
    exact ⟨rfl, rfl⟩
theorem m_sure (hk : SK σ.2.1) (hd : ∀ x, x < 100 → σ.2.2 181 x = lN (d x)) (hs : zc_sm 100 d = AL) : f_X12_sureNow 159 σ = some (nI (suD d), σ) := by
  have hd0 := d_bd hs (x := 0) (by omega)
  have e2 : (1000000000 - lN (d 0)).toInt32 = nI (suD d) := by
    have e3 : (1000000000 : Int64) = lN AL := rfl
    rw [e3, lN_sub hd0, lN_i]
    rfl
  refine run_of ?_
  unfold f_X12_sureNow
  rw [wp_gd]
  refine ⟨rfl, ?_⟩
  rw [wp_bnd, wp_rdR (v := 181) rfl (sk_159_49 hk), wp_bnd, wp_ldL (j := 0) (n := 0) (len := 100) al_181 rfl (by omega) (by omega), hd 0 (by omega), wp_ret, e2]
  exact ⟨rfl, rfl⟩
theorem m_path {R : Nat} {q : List Nat} {am : Option Nat} {Q : Unit → sa_St → Prop} (hV : MV L P W F n f z hold sk k wl σ) (hsk : SkS sk) (hgo : Go k c wr md h0) (hpa : Pa P W z a0 to q) (hR : R = 183 ∨ R = 184) (hq : ∀ j, j < q.length → σ.1 R j = nI (q.getD j 0)) (ham : ∀ x, am = some x → x < 8) (h60 : σ.1 159 60 = nI c) (h61 : σ.1 159 61 = nI e) (hd : ∀ x, x < 100 → σ.2.2 181 x = lN (d x)) (hs : zc_sm 100 d = AL) (he : e ≤ 12) (hQ : ∀ τ, MF n f σ τ → (∀ x, x < 100 → τ.2.2 181 x = lN ((pv W z (cnS z sk) (lsS f hold z wr md h0) am q (d, e) (q.length - 1)).1 x)) → Q () τ) : wp (f_X12_goPath 159 R (nI q.length) (oI am)) σ Q := by
  have hz := hV.1.zr
  have P8 := hz.1.1
  have W12 := hz.1.2.1
  have hal : sa_al .int R = 9 := by rcases hR with rfl | rfl <;> rfl
  have hRm : R ∉ [159, 163, 175, 176] := nm_M R (by omega)
  obtain ⟨p1, p8, -, -, pP, -, pw⟩ := hpa
  unfold f_X12_goPath
  rw [wp_gd]
  refine ⟨rfl, ?_⟩
  rw [wp_let]
  refine wp_for1 q.length 1 (fun i τ => 1 ≤ i ∧ MF n f σ τ ∧ τ.1 159 60 = nI c ∧ τ.1 159 61 = nI (pv W z (cnS z sk) (lsS f hold z wr md h0) am q (d, e) (i - 1)).2 ∧ ∀ x, x < 100 → τ.2.2 181 x = lN ((pv W z (cnS z sk) (lsS f hold z wr md h0) am q (d, e) (i - 1)).1 x)) ?_ ?_ ⟨Nat.le_refl 1, MF.refl hV.1.memo, h60, h61, hd⟩ p1 (by unfold sa_F; omega)
  · rintro i τ hi ⟨i1, mf, g60, g61, hrow⟩ j hj
    obtain ⟨y, rfl⟩ : ∃ y, i = y + 1 := ⟨i - 1, by omega⟩
    rw [show y + 1 - 1 = y by omega] at g61 hrow
    rw [show y + 1 + 1 - 1 = y + 1 by omega] at hj
    have hV1 := hV.mf mf
    have hk1 := hV1.1.1
    have ey : nI (y + 1) - 1 = nI y := nI_pred y
    have py := pP y (by omega)
    have py1 := pP (y + 1) hi
    obtain ⟨w, hw⟩ := Option.isSome_iff_exists.mp (pw y hi)
    have hwW := lwy_lt hw
    obtain ⟨⟨t1, t9, et⟩, f9, ef⟩ := wt_eq hz hwW
    have fw := r_wayOf hV1.1 py py1 (lwy_low (W := W) (z := z) (a := q.getD y 0) (b := q.getD (y + 1) 0))
    rw [hw] at fw
    have fw' : f_X12_wayOf 159 (nI (q.getD y 0)) (nI (q.getD (y + 1) 0)) τ = some (nI w, τ) := fw
    have hst : pv W z (cnS z sk) (lsS f hold z wr md h0) am q (d, e) (y + 1) = legA W z (cnS z sk) (lsS f hold z wr md h0) am (q.getD y 0) (q.getD (y + 1) 0) (pv W z (cnS z sk) (lsS f hold z wr md h0) am q (d, e) y) := rfl
    have hsum := (pv_sum (W := W) (z := z) (cn := cnS z sk) (ls := lsS f hold z wr md h0) (am := am) (q := q) (s := (d, e)) (fun p e => cnS_le p e) y).trans hs
    have hpe := pv_e (W := W) (z := z) (cn := cnS z sk) (ls := lsS f hold z wr md h0) (am := am) (q := q) (s := (d, e)) y
    have hph := phr_le (q := q) hz y
    have hpe' : (pv W z (cnS z sk) (lsS f hold z wr md h0) am q (d, e) y).2 ≤ 100 := by rw [hpe]; show e + _ ≤ _; omega
    rw [hst] at hj
    have eh : hrs W z (q.getD y 0) (q.getD (y + 1) 0) = wtN z w := by unfold hrs; rw [hw]
    have efd : frd W z (q.getD y 0) (q.getD (y + 1) 0) = wfN z w := by unfold frd; rw [hw]
    have qR : ∀ υ, MF n f σ υ → ∀ x, x < q.length → υ.1 R x = nI (q.getD x 0) := fun υ hf x hx => by rw [hf.2.1 R hRm]; exact hq x hx
    rw [wp_if]
    refine ⟨fun q => absurd q (nI_ge hi (by omega)), fun _ => ?_⟩
    rw [ey, wp_bnd, wp_ldI (n := y) (len := 9) hal rfl (by omega) (by omega), qR τ mf y (by omega), wp_bnd, wp_ldI (n := y + 1) (len := 9) hal rfl (by omega) (by omega), qR τ mf (y + 1) hi, wp_bnd, wp_of_eq fw', wp_let]
    generalize pv W z (cnS z sk) (lsS f hold z wr md h0) am q (d, e) y = S at *
    have hleg : legA W z (cnS z sk) (lsS f hold z wr md h0) am (q.getD y 0) (q.getD (y + 1) 0) S = if am = some (q.getD (y + 1) 0) then (prD 10 (prD (wfN z w) (rnT (cnS z sk) (lsS f hold z wr md h0) (q.getD (y + 1) 0) S.2 S.1 (wtN z w)) 99) 99, S.2 + wtN z w) else (prD (wfN z w) (rnT (cnS z sk) (lsS f hold z wr md h0) (q.getD (y + 1) 0) S.2 S.1 (wtN z w)) 99, S.2 + wtN z w) := by
      unfold legA leg
      rw [eh, efd]
    rw [hleg] at hj
    refine wp_for1 (wtN z w) 0 (fun h τ => MF n f σ τ ∧ τ.1 159 60 = nI c ∧ τ.1 159 61 = nI (S.2 + h) ∧ ∀ x, x < 100 → τ.2.2 181 x = lN (rnT (cnS z sk) (lsS f hold z wr md h0) (q.getD (y + 1) 0) S.2 S.1 h x)) ?_ ?_ ⟨mf, g60, g61, hrow⟩ (by omega) (by unfold sa_F; omega)
    · rintro h υ hh ⟨mf2, t60, t61, hrow2⟩ j2 hj2
      have hV2 := hV.mf mf2
      have hk2 := hV2.1.1
      have hwy := hV2.wy (j := 2) hwW (by omega)
      rw [et] at hwy
      have hsum2 := (rnT_sum (cn := cnS z sk) (ls := lsS f hold z wr md h0) (b := q.getD (y + 1) 0) (e := S.2) (d := S.1) (fun e => cnS_le _ e) h).trans hsum
      rw [wp_bnd, wp_rdR (v := 166) rfl (sk_159_20 hk2), wp_bnd, wp_ldI (n := 4 * w + 2) (len := 48) al_166 (i42 w) (by omega) (by omega), hwy, wp_if]
      refine ⟨fun q => absurd q (nI_ge hh (by omega)), fun _ => ?_⟩
      rw [wp_bnd, wp_ldI (n := y + 1) (len := 9) hal rfl (by omega) (by omega), qR υ mf2 (y + 1) hi, wp_bnd]
      refine m_rain1 hV2 hsk hgo t60 t61 hrow2 hsum2 py1 (by omega) (fun τ3 mf3 s60 s61 hrow3 => ?_)
      rw [wp_let, nI_1]
      exact hj2 _ ⟨mf2.trans mf3, s60, s61, hrow3⟩
    · rintro υ ⟨mf2, t60, t61, hrow2⟩ j2
      have hV2 := hV.mf mf2
      have hk2 := hV2.1.1
      have hwy := hV2.wy (j := 2) hwW (by omega)
      rw [et] at hwy
      have hwf := hV2.wy (j := 3) hwW (by omega)
      rw [ef] at hwf
      rw [wp_bnd, wp_rdR (v := 166) rfl (sk_159_20 hk2), wp_bnd, wp_ldI (n := 4 * w + 2) (len := 48) al_166 (i42 w) (by omega) (by omega), hwy, wp_if]
      refine ⟨fun _ => ?_, fun q => absurd (nI_le (Nat.le_refl _) (by omega)) q⟩
      rw [wp_bnd, wp_rdR (v := 166) rfl (sk_159_20 hk2), wp_bnd, wp_ldI (n := 4 * w + 3) (len := 48) al_166 (i43 w) (by omega) (by omega), hwf, wp_bnd]
      refine m_shift hV2 hrow2 (by omega) (fun τ3 mf3 e3 hrow3 => ?_)
      have mf23 := mf2.trans mf3
      rw [wp_bnd, wp_ldI (n := y + 1) (len := 9) hal rfl (by omega) (by omega), qR τ3 mf23 (y + 1) hi, wp_jn0, wp_if]
      refine ⟨fun hne => ?_, fun heq => ?_⟩
      · rw [wp_let, nI_1]
        have hna : ¬ am = some (q.getD (y + 1) 0) := fun h => hne (by rw [h]; rfl)
        rw [if_neg hna] at hj
        exact hj _ ⟨by omega, mf23, by rw [e3]; exact t60, by rw [e3]; exact t61, hrow3⟩
      · have h9 := Decidable.not_not.mp heq
        have hya : am = some (q.getD (y + 1) 0) := by
          cases am with
          | none =>
            have h9' : nI (q.getD (y + 1) 0) = mI := h9
            rw [eq_mI (by omega)] at h9'
            exact h9'.elim
          | some x =>
            have hx := ham x rfl
            have h9' : nI (q.getD (y + 1) 0) = nI x := h9
            rw [nI_eq (by omega) (by omega)] at h9'
            rw [h9']
        rw [if_pos hya] at hj
        rw [wp_bnd]
        refine m_shift (v := 10) (hV2.mf mf3) hrow3 (by omega) (fun τ4 mf4 e4 hrow4 => ?_)
        rw [wp_let, nI_1]
        exact hj _ ⟨by omega, mf23.trans mf4, by rw [e4, e3]; exact t60, by rw [e4, e3]; exact t61, hrow4⟩
  · rintro τ ⟨-, mf, -, -, hrow⟩ j
    rw [wp_if]
    refine ⟨fun _ => ?_, fun q => absurd (nI_le (Nat.le_refl _) (by omega)) q⟩
    rw [wp_ret]
    exact hQ τ mf hrow
end MPATH
