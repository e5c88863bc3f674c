def h1C (f : Nat → LWt) (hold : Int32) (z k : Nat → Int32) (ρ m : Nat) : C3 := zL (rD z k ρ) (fun i => nI (rA f hold z k i)) (xp k) (k, nI 0, nI 0) m
def h3C (f : Nat → LWt) (hold : Int32) (z k : Nat → Int32) (ρ m F : Nat) : C3 := ac (bS z m) (ac (wS z) (h1C f hold z k ρ m) m) F
def h4C (f : Nat → LWt) (hold : Int32) (z k : Nat → Int32) (ρ m F h : Nat) : C3 := if (h + 1) % 6 = 0 then ac (dS z) (h3C f hold z k ρ m F) m else h3C f hold z k ρ m F
def hK (C : C3) (ρ h : Nat) : Nat → Int32 := va_up (va_up (va_up (va_up C.1 (79 + 3 * (h % 60)) (nI ρ)) (79 + 3 * (h % 60) + 1) C.2.1) (79 + 3 * (h % 60) + 2) C.2.2) 21 (nI (h + 1))
section HOUR
variable {L P W F n H B m ρ h : Nat} {f : Nat → LWt} {z : Nat → Int32} {hold : Int32} {k : Nat → Int32}
theorem KM.h1 (hkm : KM P W H B m k) (hz : ZR P W F z) (hB : B + 2000 < 2 ^ 30) : KM P W H (B + 792) m (h1C f hold z k ρ m).1 := by
  have m8 := hkm.1
  have := KM.zL (C := (k, nI 0, nI 0)) (D := rD z k ρ) (a := fun i => rA f hold z k i) hkm hz.1.1 (by omega) (fun i _ => Nat.min_le_right _ _) m (Nat.le_refl m)
  exact this.mono (Nat.le_refl H) (by omega)
theorem KM.h3 (hkm : KM P W H B m k) (hz : ZR P W F z) (hB : B + 2000 < 2 ^ 30) : KM P W H (B + 807) m (h3C f hold z k ρ m F).1 := by
  have F3 := hz.1.2.2
  have := ((hkm.h1 (f := f) (hold := hold) (ρ := ρ) hz hB).walk (z := z) hz.1.1 m (Nat.le_refl m)).foe hz (by omega) F (Nat.le_refl F)
  exact this.mono (Nat.le_refl H) (by omega)
theorem KM.h4 (hkm : KM P W H B m k) (hz : ZR P W F z) (hB : B + 2000 < 2 ^ 30) : KM P W H (B + 815) m (h4C f hold z k ρ m F h).1 := by
  have m8 := hkm.1
  have h3 := hkm.h3 (f := f) (hold := hold) (ρ := ρ) hz hB
  unfold h4C
  by_cases hc : (h + 1) % 6 = 0
  · rw [if_pos hc]
    exact (h3.dew hz.1.1 (by omega) m (Nat.le_refl m)).mono (Nat.le_refl H) (by omega)
  · rw [if_neg hc]
    exact h3.mono (Nat.le_refl H) (by omega)
theorem h3_far (hkm : KM P W H B m k) (hz : ZR P W F z) (hB : B + 2000 < 2 ^ 30) {x : Nat} (hx : x = 21 ∨ 79 ≤ x) : (h3C f hold z k ρ m F).1 x = k x := by
  have m8 := hkm.1
  have P8 := hz.1.1
  unfold h3C
  rw [acb_far hz m8 hx F (Nat.le_refl F), acw_far hx m m8]
  exact zL_mid (C := (k, nI 0, nI 0)) (fun i hi => Nat.lt_of_lt_of_le ((hkm.2.2.2.1 i hi).x P8).1.1 P8) (by omega)
theorem h4_far (hkm : KM P W H B m k) (hz : ZR P W F z) (hB : B + 2000 < 2 ^ 30) {x : Nat} (hx : x = 21 ∨ 79 ≤ x) : (h4C f hold z k ρ m F h).1 x = k x := by
  unfold h4C
  by_cases hc : (h + 1) % 6 = 0
  · rw [if_pos hc, acd_far (hkm.h3 (f := f) (hold := hold) (ρ := ρ) hz hB) hz.1.1 (by omega) hx m (Nat.le_refl m), h3_far hkm hz hB hx]
  · rw [if_neg hc, h3_far hkm hz hB hx]
theorem KM.hk (hkm : KM P W H B m k) (hz : ZR P W F z) (hB : B + 2000 < 2 ^ 30) (hh : h ≤ H) : KM P W (H + 1) (B + 815) m (hK (h4C f hold z k ρ m F h) ρ h) := by
  have h4 := hkm.h4 (f := f) (hold := hold) (ρ := ρ) (h := h) hz hB
  exact (((h4.free (n := 79 + 3 * (h % 60)) (by omega)).free (n := 79 + 3 * (h % 60) + 1) (by omega)).free (n := 79 + 3 * (h % 60) + 2) (by omega)).hour (by omega) (by omega)
theorem log_hour {C : C3} {wl wl' : Nat → Int32} (hl : LogR k wl) (hh : k 21 = nI h) (hh31 : h < 2 ^ 30) (hfar : ∀ j, 79 ≤ j → C.1 j = k j) (u1 : wl' 79 = nI (min (h + 1) 60)) (u2 : ∀ i x, i < min h 59 → x < 3 → wl' (80 + 3 * i + x) = wl (80 + 3 * (i + (if h < 60 then 0 else 1)) + x)) (u3 : wl' (80 + 3 * min h 59) = nI ρ) (u4 : wl' (80 + 3 * min h 59 + 1) = C.2.1) (u5 : wl' (80 + 3 * min h 59 + 2) = C.2.2) : LogR (hK C ρ h) wl' := by
  obtain ⟨h0, h031, e0, l79, hlg⟩ := hl
  have eh : h0 = h := by
    rw [hh, nI_eq (by omega) h031] at e0
    exact e0.symm
  subst eh
  refine ⟨h0 + 1, by omega, va_up_self _ _ _, u1, fun i x hi hx => ?_⟩
  unfold hK
  by_cases hi2 : i < min h0 59
  · rw [u2 i x hi2 hx, hlg _ x (by split <;> omega) hx]
    have es : (h0 - min h0 60 + (i + (if h0 < 60 then 0 else 1))) % 60 = (h0 + 1 - min (h0 + 1) 60 + i) % 60 := by
      by_cases hc : h0 < 60
      · rw [if_pos hc]; congr 1; omega
      · rw [if_neg hc]; congr 1; omega
    rw [es]
    have hne : (h0 + 1 - min (h0 + 1) 60 + i) % 60 ≠ h0 % 60 := by
      by_cases hc : h0 < 60
      · rw [show h0 + 1 - min (h0 + 1) 60 + i = i by omega]
        omega
      · omega
    rw [va_up_ne _ _ (by omega), va_up_ne _ _ (by omega), va_up_ne _ _ (by omega), va_up_ne _ _ (by omega)]
    exact (hfar _ (by omega)).symm
  · have hie : i = min h0 59 := by omega
    subst hie
    have es : (h0 + 1 - min (h0 + 1) 60 + min h0 59) % 60 = h0 % 60 := by
      by_cases hc : h0 < 60
      · congr 1; omega
      · rw [show h0 + 1 - min (h0 + 1) 60 + min h0 59 = h0 by omega]
    rw [es, va_up_ne _ _ (by omega)]
    rcases (show x = 0 ∨ x = 1 ∨ x = 2 by omega) with rfl | rfl | rfl
    · simp only [Nat.add_zero]
      rw [va_up_ne _ _ (by omega), va_up_ne _ _ (by omega), va_up_self]
      exact u3
    · rw [va_up_ne _ _ (by omega), va_up_self]
      exact u4
    · rw [va_up_self]
      exact u5
theorem c_hour {σ : sa_St} {id K : Nat} {Q : Int32 → sa_St → Prop} (hcx : Cx L P W F n f z hold σ) (hca : CA σ.2.1 id K) (hid : id = 44 ∧ K = 45 ∨ id = 46 ∧ K = 47) (hKk : σ.1 K = k) (hkm : KM P W H B m k) (hH : H ≤ 100000) (hB : B + 2000 < 2 ^ 30) (hρ : ρ < 2 ^ 31) (hh : k 21 = nI h) (hhH : h ≤ H) (hQ : ∀ τ, Fr (sS K id) σ τ → τ.1 K = hK (h4C f hold z k ρ m F h) ρ h → Q (nI (h + 1)) τ) : wp (f_X0_passHour id L 15 (nI ρ)) σ Q := by
  have hzr := hcx.zr
  have m8 := hkm.1
  have q1 := hca.1
  have hne := hca.ne
  unfold f_X0_passHour
  simp only [wp_gd, wp_bnd, wp_wrI, q1, true_and]
  have hcs0 : CS (sS K id) σ id K (k, nI 0, nI 0) (sa_upI (sa_upI σ id 1 0) id 2 0) := by
    refine ⟨Fr.up (Fr.up Fr.rfl' (by simp)) (by simp), ?_, ?_, ?_⟩
    · rw [upI_ne hne, upI_ne hne]; exact hKk
    · rw [upI_self, va_up_ne _ _ (by omega), upI_self, va_up_self]; rfl
    · rw [upI_self, va_up_self]; rfl
  refine c_rain hcx hca hid hcs0 hkm hH hρ (fun τ1 h1 => ?_)
  refine c_walk hcx hca hid h1 (hkm.h1 (f := f) (hold := hold) (ρ := ρ) hzr hB) (fun τ2 h2 => ?_)
  refine c_foes hcx hca hid h2 ((hkm.h1 (f := f) (hold := hold) (ρ := ρ) hzr hB).walk hzr.1.1 m (Nat.le_refl m)) (by omega) (fun τ3 h3 => ?_)
  have h3' : CS (sS K id) σ id K (h3C f hold z k ρ m F) τ3 := h3
  have tail : ∀ τ, CS (sS K id) σ id K (h4C f hold z k ρ m F h) τ → wp (sa_bnd (sa_rdR 0 id 0) fun v4 =>
sa_bnd (sa_ldI .int v4 21) fun v5 =>
sa_bnd (sa_md v5 60) fun v6 =>
sa_let ((79 + (v6 * 3)) : Int32) fun x7 =>
sa_bnd (sa_rdR 0 id 0) fun v8 =>
sa_bnd (sa_stI v8 x7 (nI ρ)) fun _ =>
sa_bnd (sa_rdR 0 id 0) fun v9 =>
sa_bnd (sa_rdI 0 id 1) fun v10 =>
sa_bnd (sa_stI v9 (x7 + 1) v10) fun _ =>
sa_bnd (sa_rdR 0 id 0) fun v11 =>
sa_bnd (sa_rdI 0 id 2) fun v12 =>
sa_bnd (sa_stI v11 (x7 + 2) v12) fun _ =>
sa_bnd (sa_rdR 0 id 0) fun v13 =>
sa_bnd (sa_ldI .int v13 21) fun v14 =>
sa_bnd (sa_stI v13 21 (v14 + 1)) fun _ =>
sa_bnd (sa_rdR 0 id 0) fun v15 =>
sa_bnd (sa_ldI .int v15 21) fun v16 =>
sa_ret (v16 : Int32)) τ Q := by
    intro τ hI
    have hca2 := hI.ca hca
    have q2 := hca2.2.1
    have q3 := hca2.al
    obtain ⟨i1, i2, i3, i4⟩ := hI
    have o21 : (h4C f hold z k ρ m F h).1 21 = nI h := (h4_far hkm hzr hB (Or.inl rfl)).trans hh
    have hne2 := Ne.symm hne
    have hqq := hQ
    clear hQ hid hcx hca hca2 hkm hzr h1 h2 h3 h3' hcs0
    simp (disch := omega) only [wp_gd, wp_bnd, wp_let, wp_jn0, wp_jn1, wp_jn2, wp_if, wp_ret, wp_rdI, wp_rdL, v_rdR, v_ldI, v_ldL, v_ldR, v_stI, v_stB, v_stZ, v_stL, wp_wrI, wp_wrL, wp_wrR, wp_wrZ, wp_retZ, v_md, v_dv, v_tb, upI_2, true_and, and_true, Nat.add_sub_cancel, Nat.zero_lt_succ, Nat.succ_pos, okN, clN, L0, L1, L2, L3, L4, L5, L6, L7, L8, L9, L10, L11, L12, L13, L14, L15, L16, L17, L18, L19, L20, L21, L22, L23, L24, L25, L26, L27, L28, L29, L30, L31, L32, L33, L34, L35, L36, L37, L38, L39, L40, L41, L42, L43, L44, L45, L46, L47, L48, L49, L50, L51, L52, L53, L54, L55, L56, L57, L58, L59, L60, L61, L62, L63, L64, L65, L66, L67, L68, L69, L70, L71, L72, L73, L74, L75, L76, L77, L78, L79, L80, L81, L82, L83, L84, L85, L86, L87, L88, L89, L90, L91, L92, L93, L94, L95, L96, L97, L98, L99, L100, L101, L102, L103, L104, L105, L106, L107, L108, L109, L110, L111, L112, L113, L114, L115, L116, L117, L118, L119, L120, L121, L122, L123, L124, L125, L126, L127, L128, L129, L130, L131, L200, L240, L255, L260, L1000, L4096, L10140, L1000000, ng1, mI_lt, mI_le, lt_mI, le_mI, eq_mI, mI_eq, mI_mI, mI_mE, nI_add, pk_mul, pk_sub, pk_rem, sa_minN, sa_maxN, ne_eq, nI_leI, nI_ltI, nI_eq, dT_le, dF_le, dT_lt, dF_lt, dT_eq, dF_eq, true_imp_iff, false_imp_iff, not_true_eq_false, not_false_eq_true, false_or, or_false, true_or, or_true, false_and, and_false, Decidable.not_not, reduceIte, if_true, if_false, upI_self, upI_ne, upL_1, upL_21, upL_self, upL_ne, upR_1, upR_22, upR_self, upR_ne, va_up_self, va_up_ne, Nat.reduceAdd, Nat.reduceMul, Nat.reduceSub, Nat.reduceLT, Nat.reduceLeDiff, Nat.reduceEqDiff, Nat.reduceSubDiff, Nat.zero_add, cm3, cm5, cm7, cm8, cm25, Nat.not_lt_zero, Nat.zero_le, not_false_iff, and_self, imp_self, implies_true, forall_const, Nat.lt_irrefl, Nat.le_refl, and_imp, q1, q2, q3, i2, i3, i4, o21]
    refine hqq _ (Fr.up (Fr.up (Fr.up (Fr.up i1 (by simp)) (by simp)) (by simp)) (by simp)) ?_
    simp (disch := omega) only [upI_self, i2, hK]
  have hca3 := h3'.ca hca
  have q2 := hca3.2.1
  have q3 := hca3.al
  have i2 := h3'.2.1
  have o21 : (h3C f hold z k ρ m F).1 21 = nI h := (h3_far hkm hzr hB (Or.inl rfl)).trans hh
  rw [v_rdR, q2]
  refine ⟨q1, by omega, ?_⟩
  rw [Nat.add_sub_cancel, v_ldI, q3]
  refine ⟨nI_in (c := 21) (by omega) (by omega), ?_⟩
  rw [show (21 : Int32).toNatClampNeg = 21 from nI_clamp (n := 21) (by omega), i2, o21, v_md]
  refine ⟨by decide, ?_⟩
  have e6 : nI h + 1 - (nI h + 1) / 6 * 6 = nI ((h + 1) % 6) := by
    rw [nI_1]
    exact pk_rem (a := h + 1) (d := 6) (by omega) (by omega) (by omega)
  rw [e6, wp_jn0, wp_if]
  by_cases hc : (h + 1) % 6 = 0
  · rw [hc]
    refine ⟨fun q => absurd (show nI 0 = 0 from rfl) q, fun _ => ?_⟩
    rw [wp_bnd]
    refine c_dew hcx hca hid h3' (hkm.h3 hzr hB) (by omega) (fun τ4 h4 => ?_)
    refine tail τ4 ?_
    unfold h4C
    rw [if_pos hc]
    exact h4
  · have hcl : (h + 1) % 6 < 6 := Nat.mod_lt _ (by omega)
    refine ⟨fun _ => ?_, fun q => absurd ?_ q⟩
    · refine tail τ3 ?_
      unfold h4C
      rw [if_neg hc]
      exact h3'
    · rw [L0, nI_eq (by omega) (by omega)]
      exact hc
theorem m_hour {σ : sa_St} {R : Nat} {wl : Nat → Int32} {Q : Unit → sa_St → Prop} (hcx : Cx L P W F n f z hold σ) (hR : R = 173 ∨ R = 174) (hw : σ.1 R = toW k wl) (hl : LogR k wl) (hkm : KM P W H B m k) (hH : H ≤ 100000) (hB : B + 2000 < 2 ^ 30) (hρ : ρ < 2 ^ 31) (hh : k 21 = nI h) (hhH : h ≤ H) (hQ : ∀ τ wl', Mf n f R σ τ → τ.1 R = toW (hK (h4C f hold z k ρ m F h) ρ h) wl' → LogR (hK (h4C f hold z k ρ m F h) ρ h) wl' → Q () τ) : wp (f_X12_goHour 159 R (nI ρ)) σ Q := by
  have hzr := hcx.zr
  have m8 := hkm.1
  have P8 := hzr.1.1
  have hRn : R ≠ 159 := by omega
  have hal : sa_al .int R = 260 := by rcases hR with rfl | rfl <;> rfl
  have h79 : wl 79 = nI (min h 60) := by
    obtain ⟨h0, h031, e0, l79, -⟩ := hl
    rw [hh, nI_eq (by omega) h031] at e0
    rw [e0]
    exact l79
  unfold f_X12_goHour
  simp only [wp_gd, wp_bnd, wp_wrI, sh_159, true_and]
  have hms0 : MS n f R σ (k, nI 0, nI 0) wl (sa_upI (sa_upI σ 159 40 0) 159 41 0) := by
    refine ⟨Mf.up9 (Mf.up9 (Mf.refl hcx.memo) (Or.inl rfl)) (Or.inr rfl), ?_, ?_, ?_⟩
    · rw [upI_ne hRn, upI_ne hRn]; exact hw
    · rw [upI_self, va_up_ne _ _ (by omega), upI_self, va_up_self]; rfl
    · rw [upI_self, va_up_self]; rfl
  rw [wp_let]
  refine g_rain hcx hR hkm hH (by omega) hρ hms0 (fun τ1 h1 => ?_)
  rw [wp_let]
  refine g_walk hcx hR (hkm.h1 (f := f) (hold := hold) (ρ := ρ) hzr hB) h1 (fun τ2 h2 => ?_)
  rw [wp_let]
  refine g_foes hcx hR ((hkm.h1 (f := f) (hold := hold) (ρ := ρ) hzr hB).walk hzr.1.1 m (Nat.le_refl m)) (by omega) h2 (fun τ3 h3 => ?_)
  have h3' : MS n f R σ (h3C f hold z k ρ m F) wl τ3 := h3
  have hk3 := hkm.h3 (f := f) (hold := hold) (ρ := ρ) hzr hB
  have tail : ∀ τ, MS n f R σ (up21 (h4C f hold z k ρ m F h) (nI (h + 1))) wl τ → wp (sa_bnd (f_X12_writes 159 R (nI ρ)) fun _ => sa_ret ()) τ Q := by
    intro τ hI
    rw [wp_bnd]
    refine m_writes hR hI h79 (by omega) (fun τ4 wl' hM hw4 u1 u2 u3 u4 u5 => ?_)
    rw [wp_ret]
    refine hQ τ4 wl' hM ?_ (log_hour hl hh (by omega) (fun j hj => h4_far hkm hzr hB (Or.inr hj)) u1 u2 u3 u4 u5)
    rw [hw4]
    refine toW_cong (fun j hj => ?_)
    show va_up _ _ _ _ = va_up _ _ _ _
    by_cases e : j = 21
    · subst e; rw [va_up_self, va_up_self]
    · rw [va_up_ne _ _ e, va_up_ne _ _ e, va_up_ne _ _ (by omega), va_up_ne _ _ (by omega), va_up_ne _ _ (by omega)]
  have o21 : (h3C f hold z k ρ m F).1 21 = nI h := (h3_far hkm hzr hB (Or.inl rfl)).trans hh
  have hw3 := h3'.2.1
  have e76 : (76 : Int32).toNatClampNeg = 76 := nI_clamp (n := 76) (by omega)
  have ms4 : MS n f R σ (up21 (h3C f hold z k ρ m F) (nI (h + 1))) wl (sa_upI τ3 R 76 (nI h + 1)) := by
    refine ⟨Mf.up h3'.1 hR, ?_, ?_, ?_⟩
    · rw [upI_self, hw3, toW_u76, nI_1]; rfl
    · rw [upI_ne (by omega)]; exact h3'.2.2.1
    · rw [upI_ne (by omega)]; exact h3'.2.2.2
  rw [wp_bnd, v_ldI, hal]
  refine ⟨nI_in (c := 76) (by omega) (by omega), ?_⟩
  rw [e76, hw3, toW_76, o21, wp_bnd, v_stI, hal]
  refine ⟨nI_in (c := 76) (by omega) (by omega), ?_⟩
  rw [e76, wp_bnd, v_ldI, hal]
  refine ⟨nI_in (c := 76) (by omega) (by omega), ?_⟩
  rw [e76, wp_bnd, v_md, upI_self, va_up_self]
  refine ⟨by decide, ?_⟩
  have e6 : nI h + 1 - (nI h + 1) / 6 * 6 = nI ((h + 1) % 6) := by
    rw [nI_1]
    exact pk_rem (a := h + 1) (d := 6) (by omega) (by omega) (by omega)
  rw [e6, wp_jn0, wp_if]
  by_cases hc : (h + 1) % 6 = 0
  · rw [hc]
    refine ⟨fun q => absurd (show nI 0 = 0 from rfl) q, fun _ => ?_⟩
    rw [wp_let]
    have hk3' : KM P W (H + 1) (B + 807) m (up21 (h3C f hold z k ρ m F) (nI (h + 1))).1 := hk3.hour (by omega) (by omega)
    refine g_dew hcx hR hk3' (by omega) ms4 (fun τ4 h4 => ?_)
    refine tail τ4 ?_
    rw [acd_up21 hk3 P8 (by omega) m (Nat.le_refl m)] at h4
    unfold h4C
    rw [if_pos hc]
    exact h4
  · have hcl : (h + 1) % 6 < 6 := Nat.mod_lt _ (by omega)
    refine ⟨fun _ => ?_, fun q => absurd ?_ q⟩
    · refine tail _ ?_
      unfold h4C
      rw [if_neg hc]
      exact ms4
    · rw [L0, nI_eq (by omega) (by omega)]
      exact hc
theorem AR_hour (hz : ZR P W F z) (hkm : KM P W H B m k) (hH : H ≤ 100000) (hB : B + 2000 < 2 ^ 30) (hρ : ρ < 2 ^ 31) (b : Int32) : ∃ k', AR L P W F n f z hold 4 (nI ρ) b k (some (k' 21, k')) ∧ KM P W (H + 1) (B + 815) m k' ∧ k' 21 ≠ mI := by
  obtain ⟨t1, t2⟩ := hkm.h21 hH
  have e21 : hK (h4C f hold z k ρ m F (k 21).toNatClampNeg) ρ (k 21).toNatClampNeg 21 = nI ((k 21).toNatClampNeg + 1) := va_up_self _ _ _
  refine ⟨hK (h4C f hold z k ρ m F (k 21).toNatClampNeg) ρ (k 21).toNatClampNeg, ⟨fun σ id K hcx hca hid hK' Q h0 h1 => ?_, fun σ R wl hcx hR hw hl => ⟨fun Q hQ => ?_, fun r k' h Q hQ => ?_⟩⟩, hkm.hk hz hB t1, ?_⟩
  · unfold f_X11_obey
    have a1 := (LD.of hcx.1 hcx.2.1).1.1
    rw [wp_gd]
    refine ⟨rfl, ?_⟩
    rw [if_neg (by decide), if_neg (by decide), if_neg (by decide), if_neg (by decide)]
    simp only [wp_bnd, v_rdR, sh_0, true_and, a1, sk_0_3 hcx.1, Nat.add_sub_cancel, Nat.zero_lt_succ, Nat.reduceSub, Nat.reduceLT, wp_ret]
    refine c_hour hcx hca hid hK' hkm hH hB hρ t2 t1 (fun τ hF hk => ?_)
    rw [← e21]
    exact h1 _ _ rfl τ hF hk
  · show wp (sa_ret 1) σ Q
    rw [wp_ret]
    exact hQ
  · cases h
    show wp (f_X12_goHour 159 R (nI ρ)) σ Q
    exact m_hour hcx hR hw hl hkm hH hB hρ t2 t1 hQ
  · rw [e21, ne_eq, eq_mI (by omega)]
    exact not_false
end HOUR
