section GFOES
variable {L P W F n H B m R : Nat} {f : Nat → LWt} {z : Nat → Int32} {hold : Int32} {σ0 σ : sa_St} {C : C3} {wl : Nat → Int32} {Q : Unit → sa_St → Prop}
theorem m_throws (hcx0 : Cx L P W F n f z hold σ0) (hR : R = 173 ∨ R = 174) (hkm : KM P W H B m C.1) {x : Nat} (hx : x < F) (hms : MS n f R σ0 C wl σ) (hQ : ∀ τ, MS n f R σ0 (bS z m C x) wl τ → Q () τ) : wp (f_X12_throwsAt 159 R (nI x)) σ Q := by
  have hzr := hcx0.zr
  have m8 := hkm.1
  have P8 := hzr.1.1
  have F3 := hzr.1.2.2
  have o22 := hkm.2.1
  have hal : sa_al .int R = 260 := by rcases hR with rfl | rfl <;> rfl
  obtain ⟨b9, ob⟩ := xb_eq hkm (show x < 3 by omega)
  obtain ⟨hpF, hpz⟩ := fp_eq hzr hx
  have p8 := Nat.lt_of_lt_of_le hpF P8
  have hcx := (hms.1.fm hR).cx hcx0
  have hk23 := sk_159_23 hcx.1
  have hfo : σ.1 169 (2 * x) = nI (fp z x) := by
    have := (hcx.2.2.1.2.2.2.2 x hx).2.2 0 (by omega)
    rw [hcx.2.2.2.2.2.1] at this
    exact this.trans hpz
  have hw := hms.2.1
  have eS : bS z m C x = if xb C.1 x = 0 then C else match lA C.1 (fp z x) m with | none => C | some i => cL (bS1 C x) i (nI (min 5 (xg C.1 i))) (fp z x) := rfl
  by_cases b0 : xb C.1 x = 0
  · rw [if_pos b0] at eS
    have hs := hQ σ (by rw [eS]; exact hms)
    clear hQ hcx hcx0 hkm hzr hR
    simp (disch := omega) only [f_X12_throwsAt, wp_gd, wp_bnd, wp_let, wp_jn0, wp_jn1, wp_jn2, wp_if, wp_ret, wp_rdI, wp_rdL, v_rdR, v_ldI, v_ldL, v_ldR, v_stI, v_stB, v_stZ, v_stL, wp_wrI, wp_wrL, wp_wrR, wp_wrZ, wp_retZ, v_md, v_dv, v_tb, upI_2, true_and, and_true, Nat.add_sub_cancel, Nat.zero_lt_succ, Nat.succ_pos, okN, clN, L0, L1, L2, L3, L4, L5, L6, L7, L8, L9, L10, L11, L12, L13, L14, L15, L16, L17, L18, L19, L20, L21, L22, L23, L24, L25, L26, L27, L28, L29, L30, L31, L32, L33, L34, L35, L36, L37, L38, L39, L40, L41, L42, L43, L44, L45, L46, L47, L48, L49, L50, L51, L52, L53, L54, L55, L56, L57, L58, L59, L60, L61, L62, L63, L64, L65, L66, L67, L68, L69, L70, L71, L72, L73, L74, L75, L76, L77, L78, L79, L80, L81, L82, L83, L84, L85, L86, L87, L88, L89, L90, L91, L92, L93, L94, L95, L96, L97, L98, L99, L100, L101, L102, L103, L104, L105, L106, L107, L108, L109, L110, L111, L112, L113, L114, L115, L116, L117, L118, L119, L120, L121, L122, L123, L124, L125, L126, L127, L128, L129, L130, L131, L200, L240, L255, L260, L1000, L4096, L10140, L1000000, ng1, mI_lt, mI_le, lt_mI, le_mI, eq_mI, mI_eq, mI_mI, mI_mE, nI_add, pk_mul, pk_sub, pk_rem, sa_minN, sa_maxN, ne_eq, nI_leI, nI_ltI, nI_eq, dT_le, dF_le, dT_lt, dF_lt, dT_eq, dF_eq, true_imp_iff, false_imp_iff, not_true_eq_false, not_false_eq_true, false_or, or_false, true_or, or_true, false_and, and_false, Decidable.not_not, reduceIte, if_true, if_false, upI_self, upI_ne, upL_1, upL_21, upL_self, upL_ne, upR_1, upR_22, upR_self, upR_ne, va_up_self, va_up_ne, Nat.reduceAdd, Nat.reduceMul, Nat.reduceSub, Nat.reduceLT, Nat.reduceLeDiff, Nat.reduceEqDiff, Nat.reduceSubDiff, Nat.zero_add, cm3, cm5, cm7, cm8, cm25, Nat.not_lt_zero, Nat.zero_le, not_false_iff, and_self, imp_self, implies_true, forall_const, Nat.lt_irrefl, Nat.le_refl, and_imp, sh_0, sh_159, sh_1, sh_15, sh_44, sh_46, sh_48, sh_134, sh_136, sh_151, sh_156, hal, hw, toW_own, toW_own0, toW_gr, toW_lo, toW_bk, toW_75, toW_76, toW_77, toW_78, ob]
    exact hs
  · rw [if_neg b0] at eS
    have pre : (nI (xb C.1 x) = nI 0) = False := eq_false (by rw [nI_eq (by omega) (by omega)]; exact b0)
    unfold f_X12_throwsAt
    rw [wp_gd]
    refine ⟨rfl, ?_⟩
    rw [wp_bnd, v_ldI]
    have e72 : (72 : Int32) + nI x = nI (72 + x) := nI_add 72 x
    rw [e72, hal]
    refine ⟨nI_in (by omega) (by omega), ?_⟩
    rw [nI_clamp (by omega), hw, toW_bk (by omega), ob, wp_if]
    refine ⟨fun _ => ?_, fun q => absurd (fun e => (pre ▸ e : False)) q⟩
    rw [wp_let]
    refine wp_for1 m 0 (fun i τ => τ = σ ∧ lA C.1 (fp z x) i = none) ?_ ?_ ⟨rfl, rfl⟩ (by omega) (by unfold sa_F; omega)
    · rintro i τ hi ⟨rfl, hno⟩ c hc
      obtain ⟨⟨xp8, o0⟩, ⟨xl9, xv12, hxv, o1, o6⟩, ⟨xg99, o2⟩, -⟩ := (hkm.2.2.2.1 i hi).x P8
      have hs : lA C.1 (fp z x) (i + 1) = if xg C.1 i ≠ 0 ∧ xl C.1 i = 0 ∧ xp C.1 i = fp z x then some i else none := by
        conv => lhs; unfold lA
        rw [hno]
      have hx8 : xp C.1 i < 8 := Nat.lt_of_lt_of_le xp8 P8
      have go : lA C.1 (fp z x) (i + 1) = none → _ := fun h => hc τ ⟨rfl, h⟩
      by_cases g0 : xg C.1 i = 0
      · have g := go (by rw [hs, if_neg (by simp [g0])])
        clear hQ hcx hcx0 hkm hzr hR hc eS go hms
        simp (disch := omega) only [f_X12_isThere, f_X12_lives, wp_gd, wp_bnd, wp_let, wp_jn0, wp_jn1, wp_jn2, wp_if, wp_ret, wp_rdI, wp_rdL, v_rdR, v_ldI, v_ldL, v_ldR, v_stI, v_stB, v_stZ, v_stL, wp_wrI, wp_wrL, wp_wrR, wp_wrZ, wp_retZ, v_md, v_dv, v_tb, upI_2, true_and, and_true, Nat.add_sub_cancel, Nat.zero_lt_succ, Nat.succ_pos, okN, clN, L0, L1, L2, L3, L4, L5, L6, L7, L8, L9, L10, L11, L12, L13, L14, L15, L16, L17, L18, L19, L20, L21, L22, L23, L24, L25, L26, L27, L28, L29, L30, L31, L32, L33, L34, L35, L36, L37, L38, L39, L40, L41, L42, L43, L44, L45, L46, L47, L48, L49, L50, L51, L52, L53, L54, L55, L56, L57, L58, L59, L60, L61, L62, L63, L64, L65, L66, L67, L68, L69, L70, L71, L72, L73, L74, L75, L76, L77, L78, L79, L80, L81, L82, L83, L84, L85, L86, L87, L88, L89, L90, L91, L92, L93, L94, L95, L96, L97, L98, L99, L100, L101, L102, L103, L104, L105, L106, L107, L108, L109, L110, L111, L112, L113, L114, L115, L116, L117, L118, L119, L120, L121, L122, L123, L124, L125, L126, L127, L128, L129, L130, L131, L200, L240, L255, L260, L1000, L4096, L10140, L1000000, ng1, mI_lt, mI_le, lt_mI, le_mI, eq_mI, mI_eq, mI_mI, mI_mE, nI_add, pk_mul, pk_sub, pk_rem, sa_minN, sa_maxN, ne_eq, nI_leI, nI_ltI, nI_eq, dT_le, dF_le, dT_lt, dF_lt, dT_eq, dF_eq, true_imp_iff, false_imp_iff, not_true_eq_false, not_false_eq_true, false_or, or_false, true_or, or_true, false_and, and_false, Decidable.not_not, reduceIte, if_true, if_false, upI_self, upI_ne, upL_1, upL_21, upL_self, upL_ne, upR_1, upR_22, upR_self, upR_ne, va_up_self, va_up_ne, Nat.reduceAdd, Nat.reduceMul, Nat.reduceSub, Nat.reduceLT, Nat.reduceLeDiff, Nat.reduceEqDiff, Nat.reduceSubDiff, Nat.zero_add, cm3, cm5, cm7, cm8, cm25, Nat.not_lt_zero, Nat.zero_le, not_false_iff, and_self, imp_self, implies_true, forall_const, Nat.lt_irrefl, Nat.le_refl, and_imp, sh_0, sh_159, sh_1, sh_15, sh_44, sh_46, sh_48, sh_134, sh_136, sh_151, sh_156, hal, hw, toW_own, toW_own0, toW_gr, toW_lo, toW_bk, toW_75, toW_76, toW_77, toW_78, o22, o2]
        exact g
      by_cases l0 : xl C.1 i = 0
      case neg =>
        have g := go (by rw [hs, if_neg (by simp [l0])])
        clear hQ hcx hcx0 hkm hzr hR hc eS go hms
        simp (disch := omega) only [f_X12_isThere, f_X12_lives, wp_gd, wp_bnd, wp_let, wp_jn0, wp_jn1, wp_jn2, wp_if, wp_ret, wp_rdI, wp_rdL, v_rdR, v_ldI, v_ldL, v_ldR, v_stI, v_stB, v_stZ, v_stL, wp_wrI, wp_wrL, wp_wrR, wp_wrZ, wp_retZ, v_md, v_dv, v_tb, upI_2, true_and, and_true, Nat.add_sub_cancel, Nat.zero_lt_succ, Nat.succ_pos, okN, clN, L0, L1, L2, L3, L4, L5, L6, L7, L8, L9, L10, L11, L12, L13, L14, L15, L16, L17, L18, L19, L20, L21, L22, L23, L24, L25, L26, L27, L28, L29, L30, L31, L32, L33, L34, L35, L36, L37, L38, L39, L40, L41, L42, L43, L44, L45, L46, L47, L48, L49, L50, L51, L52, L53, L54, L55, L56, L57, L58, L59, L60, L61, L62, L63, L64, L65, L66, L67, L68, L69, L70, L71, L72, L73, L74, L75, L76, L77, L78, L79, L80, L81, L82, L83, L84, L85, L86, L87, L88, L89, L90, L91, L92, L93, L94, L95, L96, L97, L98, L99, L100, L101, L102, L103, L104, L105, L106, L107, L108, L109, L110, L111, L112, L113, L114, L115, L116, L117, L118, L119, L120, L121, L122, L123, L124, L125, L126, L127, L128, L129, L130, L131, L200, L240, L255, L260, L1000, L4096, L10140, L1000000, ng1, mI_lt, mI_le, lt_mI, le_mI, eq_mI, mI_eq, mI_mI, mI_mE, nI_add, pk_mul, pk_sub, pk_rem, sa_minN, sa_maxN, ne_eq, nI_leI, nI_ltI, nI_eq, dT_le, dF_le, dT_lt, dF_lt, dT_eq, dF_eq, true_imp_iff, false_imp_iff, not_true_eq_false, not_false_eq_true, false_or, or_false, true_or, or_true, false_and, and_false, Decidable.not_not, reduceIte, if_true, if_false, upI_self, upI_ne, upL_1, upL_21, upL_self, upL_ne, upR_1, upR_22, upR_self, upR_ne, va_up_self, va_up_ne, Nat.reduceAdd, Nat.reduceMul, Nat.reduceSub, Nat.reduceLT, Nat.reduceLeDiff, Nat.reduceEqDiff, Nat.reduceSubDiff, Nat.zero_add, cm3, cm5, cm7, cm8, cm25, Nat.not_lt_zero, Nat.zero_le, not_false_iff, and_self, imp_self, implies_true, forall_const, Nat.lt_irrefl, Nat.le_refl, and_imp, sh_0, sh_159, sh_1, sh_15, sh_44, sh_46, sh_48, sh_134, sh_136, sh_151, sh_156, hal, hw, toW_own, toW_own0, toW_gr, toW_lo, toW_bk, toW_75, toW_76, toW_77, toW_78, o22, o2, o1]
        exact g
      by_cases p0 : xp C.1 i = fp z x
      · have hl := lA_mono (show lA C.1 (fp z x) (i + 1) = some i by rw [hs, if_pos ⟨g0, l0, p0⟩]) (show i + 1 ≤ m by omega)
        rw [hl] at eS
        have eS' : bS z m C x = cL (bS1 C x) i (nI (min 5 (xg C.1 i))) (fp z x) := eS
        have hI2 : MS n f R σ0 (bS1 C x) wl (sa_upI τ R (72 + x) (nI (xb C.1 x - 1))) := by
          refine ⟨Mf.up hms.1 hR, ?_, ?_, ?_⟩
          · rw [upI_self, hw, toW_ub (by omega)]; rfl
          · rw [upI_ne (by omega)]; exact hms.2.2.1
          · rw [upI_ne (by omega)]; exact hms.2.2.2
        have g : wp (f_X12_loses 159 R (nI i) (nI 5) (nI 0)) (sa_upI τ R (72 + x) (nI (xb C.1 x - 1))) Q := by
          refine r_loseP hR hI2 (by omega) p8 ?_ ?_ xg99 (by omega) (fun τ2 h2 => hQ τ2 ?_)
          · show va_up C.1 _ _ _ = _
            rw [va_up_ne _ _ (by omega), o0, p0]
          · show va_up C.1 _ _ _ = _
            rw [va_up_ne _ _ (by omega)]
            exact o2
          · rw [eS']
            exact h2
        clear hQ hcx hcx0 hkm hzr hR hc eS go hms hI2
        simp (disch := omega) only [f_X12_isThere, f_X12_lives, wp_gd, wp_bnd, wp_let, wp_jn0, wp_jn1, wp_jn2, wp_if, wp_ret, wp_rdI, wp_rdL, v_rdR, v_ldI, v_ldL, v_ldR, v_stI, v_stB, v_stZ, v_stL, wp_wrI, wp_wrL, wp_wrR, wp_wrZ, wp_retZ, v_md, v_dv, v_tb, upI_2, true_and, and_true, Nat.add_sub_cancel, Nat.zero_lt_succ, Nat.succ_pos, okN, clN, L0, L1, L2, L3, L4, L5, L6, L7, L8, L9, L10, L11, L12, L13, L14, L15, L16, L17, L18, L19, L20, L21, L22, L23, L24, L25, L26, L27, L28, L29, L30, L31, L32, L33, L34, L35, L36, L37, L38, L39, L40, L41, L42, L43, L44, L45, L46, L47, L48, L49, L50, L51, L52, L53, L54, L55, L56, L57, L58, L59, L60, L61, L62, L63, L64, L65, L66, L67, L68, L69, L70, L71, L72, L73, L74, L75, L76, L77, L78, L79, L80, L81, L82, L83, L84, L85, L86, L87, L88, L89, L90, L91, L92, L93, L94, L95, L96, L97, L98, L99, L100, L101, L102, L103, L104, L105, L106, L107, L108, L109, L110, L111, L112, L113, L114, L115, L116, L117, L118, L119, L120, L121, L122, L123, L124, L125, L126, L127, L128, L129, L130, L131, L200, L240, L255, L260, L1000, L4096, L10140, L1000000, ng1, mI_lt, mI_le, lt_mI, le_mI, eq_mI, mI_eq, mI_mI, mI_mE, nI_add, pk_mul, pk_sub, pk_rem, sa_minN, sa_maxN, ne_eq, nI_leI, nI_ltI, nI_eq, dT_le, dF_le, dT_lt, dF_lt, dT_eq, dF_eq, true_imp_iff, false_imp_iff, not_true_eq_false, not_false_eq_true, false_or, or_false, true_or, or_true, false_and, and_false, Decidable.not_not, reduceIte, if_true, if_false, upI_self, upI_ne, upL_1, upL_21, upL_self, upL_ne, upR_1, upR_22, upR_self, upR_ne, va_up_self, va_up_ne, Nat.reduceAdd, Nat.reduceMul, Nat.reduceSub, Nat.reduceLT, Nat.reduceLeDiff, Nat.reduceEqDiff, Nat.reduceSubDiff, Nat.zero_add, cm3, cm5, cm7, cm8, cm25, Nat.not_lt_zero, Nat.zero_le, not_false_iff, and_self, imp_self, implies_true, forall_const, Nat.lt_irrefl, Nat.le_refl, and_imp, sh_0, sh_159, sh_1, sh_15, sh_44, sh_46, sh_48, sh_134, sh_136, sh_151, sh_156, hal, hw, toW_own, toW_own0, toW_gr, toW_lo, toW_bk, toW_75, toW_76, toW_77, toW_78, o22, o2, o1, o0, hk23, al_169, hfo, ob]
        exact g
      · have g := go (by rw [hs, if_neg (by simp [p0])])
        clear hQ hcx hcx0 hkm hzr hR hc eS go hms
        simp (disch := omega) only [f_X12_isThere, f_X12_lives, wp_gd, wp_bnd, wp_let, wp_jn0, wp_jn1, wp_jn2, wp_if, wp_ret, wp_rdI, wp_rdL, v_rdR, v_ldI, v_ldL, v_ldR, v_stI, v_stB, v_stZ, v_stL, wp_wrI, wp_wrL, wp_wrR, wp_wrZ, wp_retZ, v_md, v_dv, v_tb, upI_2, true_and, and_true, Nat.add_sub_cancel, Nat.zero_lt_succ, Nat.succ_pos, okN, clN, L0, L1, L2, L3, L4, L5, L6, L7, L8, L9, L10, L11, L12, L13, L14, L15, L16, L17, L18, L19, L20, L21, L22, L23, L24, L25, L26, L27, L28, L29, L30, L31, L32, L33, L34, L35, L36, L37, L38, L39, L40, L41, L42, L43, L44, L45, L46, L47, L48, L49, L50, L51, L52, L53, L54, L55, L56, L57, L58, L59, L60, L61, L62, L63, L64, L65, L66, L67, L68, L69, L70, L71, L72, L73, L74, L75, L76, L77, L78, L79, L80, L81, L82, L83, L84, L85, L86, L87, L88, L89, L90, L91, L92, L93, L94, L95, L96, L97, L98, L99, L100, L101, L102, L103, L104, L105, L106, L107, L108, L109, L110, L111, L112, L113, L114, L115, L116, L117, L118, L119, L120, L121, L122, L123, L124, L125, L126, L127, L128, L129, L130, L131, L200, L240, L255, L260, L1000, L4096, L10140, L1000000, ng1, mI_lt, mI_le, lt_mI, le_mI, eq_mI, mI_eq, mI_mI, mI_mE, nI_add, pk_mul, pk_sub, pk_rem, sa_minN, sa_maxN, ne_eq, nI_leI, nI_ltI, nI_eq, dT_le, dF_le, dT_lt, dF_lt, dT_eq, dF_eq, true_imp_iff, false_imp_iff, not_true_eq_false, not_false_eq_true, false_or, or_false, true_or, or_true, false_and, and_false, Decidable.not_not, reduceIte, if_true, if_false, upI_self, upI_ne, upL_1, upL_21, upL_self, upL_ne, upR_1, upR_22, upR_self, upR_ne, va_up_self, va_up_ne, Nat.reduceAdd, Nat.reduceMul, Nat.reduceSub, Nat.reduceLT, Nat.reduceLeDiff, Nat.reduceEqDiff, Nat.reduceSubDiff, Nat.zero_add, cm3, cm5, cm7, cm8, cm25, Nat.not_lt_zero, Nat.zero_le, not_false_iff, and_self, imp_self, implies_true, forall_const, Nat.lt_irrefl, Nat.le_refl, and_imp, sh_0, sh_159, sh_1, sh_15, sh_44, sh_46, sh_48, sh_134, sh_136, sh_151, sh_156, hal, hw, toW_own, toW_own0, toW_gr, toW_lo, toW_bk, toW_75, toW_76, toW_77, toW_78, o22, o2, o1, o0, hk23, al_169, hfo]
        exact g
    · rintro τ ⟨rfl, hno⟩ c
      rw [hno] at eS
      have eS' : bS z m C x = C := eS
      have hs := hQ τ (by rw [eS']; exact hms)
      clear hQ hcx hcx0 hkm hzr hR eS hms
      simp (disch := omega) only [wp_gd, wp_bnd, wp_let, wp_jn0, wp_jn1, wp_jn2, wp_if, wp_ret, wp_rdI, wp_rdL, v_rdR, v_ldI, v_ldL, v_ldR, v_stI, v_stB, v_stZ, v_stL, wp_wrI, wp_wrL, wp_wrR, wp_wrZ, wp_retZ, v_md, v_dv, v_tb, upI_2, true_and, and_true, Nat.add_sub_cancel, Nat.zero_lt_succ, Nat.succ_pos, okN, clN, L0, L1, L2, L3, L4, L5, L6, L7, L8, L9, L10, L11, L12, L13, L14, L15, L16, L17, L18, L19, L20, L21, L22, L23, L24, L25, L26, L27, L28, L29, L30, L31, L32, L33, L34, L35, L36, L37, L38, L39, L40, L41, L42, L43, L44, L45, L46, L47, L48, L49, L50, L51, L52, L53, L54, L55, L56, L57, L58, L59, L60, L61, L62, L63, L64, L65, L66, L67, L68, L69, L70, L71, L72, L73, L74, L75, L76, L77, L78, L79, L80, L81, L82, L83, L84, L85, L86, L87, L88, L89, L90, L91, L92, L93, L94, L95, L96, L97, L98, L99, L100, L101, L102, L103, L104, L105, L106, L107, L108, L109, L110, L111, L112, L113, L114, L115, L116, L117, L118, L119, L120, L121, L122, L123, L124, L125, L126, L127, L128, L129, L130, L131, L200, L240, L255, L260, L1000, L4096, L10140, L1000000, ng1, mI_lt, mI_le, lt_mI, le_mI, eq_mI, mI_eq, mI_mI, mI_mE, nI_add, pk_mul, pk_sub, pk_rem, sa_minN, sa_maxN, ne_eq, nI_leI, nI_ltI, nI_eq, dT_le, dF_le, dT_lt, dF_lt, dT_eq, dF_eq, true_imp_iff, false_imp_iff, not_true_eq_false, not_false_eq_true, false_or, or_false, true_or, or_true, false_and, and_false, Decidable.not_not, reduceIte, if_true, if_false, upI_self, upI_ne, upL_1, upL_21, upL_self, upL_ne, upR_1, upR_22, upR_self, upR_ne, va_up_self, va_up_ne, Nat.reduceAdd, Nat.reduceMul, Nat.reduceSub, Nat.reduceLT, Nat.reduceLeDiff, Nat.reduceEqDiff, Nat.reduceSubDiff, Nat.zero_add, cm3, cm5, cm7, cm8, cm25, Nat.not_lt_zero, Nat.zero_le, not_false_iff, and_self, imp_self, implies_true, forall_const, Nat.lt_irrefl, Nat.le_refl, and_imp, sh_0, sh_159, sh_1, sh_15, sh_44, sh_46, sh_48, sh_134, sh_136, sh_151, sh_156, hal, hw, toW_own, toW_own0, toW_gr, toW_lo, toW_bk, toW_75, toW_76, toW_77, toW_78, o22]
      exact hs
theorem g_foes (hcx0 : Cx L P W F n f z hold σ0) (hR : R = 173 ∨ R = 174) (hkm : KM P W H B m C.1) (hB : B + 20 < 2 ^ 30) {ex : sa_M Unit} (hms : MS n f R σ0 C wl σ) (hQ : ∀ τ, MS n f R σ0 (ac (bS z m) C F) wl τ → wp ex τ Q) :
    wp (sa_wh1 (fun j215 (x8 : Int32) =>
sa_bnd (sa_rdI 12 159 27) fun v9 =>
if v9 ≤ x8 then
ex
else
sa_bnd (f_X12_throwsAt 159 R x8) fun _ =>
sa_let ((x8 + 1) : Int32) fun x21 =>
j215 x21) sa_F 0) σ Q := by
  have hzr := hcx0.zr
  have F3 := hzr.1.2.2
  have hkx := hkm.foe hzr hB
  refine wp_for1 F 0 (fun i τ => MS n f R σ0 (ac (bS z m) C i) wl τ) ?_ ?_ hms (by omega) (by unfold sa_F; omega)
  · intro x τ hx hI c hc
    have hcx := (hI.1.fm hR).cx hcx0
    have r3 := hcx.2.2.1.2.1.2.2.2.2.2
    simp only [wp_bnd, wp_rdI, sh_159, true_and]
    rw [wp_if]
    refine ⟨fun q => absurd q (by rw [r3]; exact nI_ge hx (by omega)), fun _ => ?_⟩
    rw [wp_bnd]
    refine m_throws hcx0 hR (hkx x (by omega)) hx hI (fun τ2 h2 => ?_)
    rw [wp_let, nI_1]
    exact hc τ2 h2
  · intro τ hI c
    have hcx := (hI.1.fm hR).cx hcx0
    have r3 := hcx.2.2.1.2.1.2.2.2.2.2
    simp only [wp_bnd, wp_rdI, sh_159, true_and]
    rw [wp_if]
    exact ⟨fun _ => hQ τ hI, fun q => absurd (by rw [r3]; exact nI_le (Nat.le_refl F) (by omega)) q⟩
end GFOES
/-! the hour's own number, and the log, stand while companies lose -/
def up21 (C : C3) (v : Int32) : C3 := (va_up C.1 21 v, C.2)
section FAR
variable {z : Nat → Int32} {C : C3} {x i m : Nat}
theorem cL_far {v : Int32} {p : Nat} (hi : i < 8) (hp : p < 8) (hx : x = 21 ∨ 79 ≤ x) : (cL C i v p).1 x = C.1 x := cL_mid hp (by omega)
theorem cR_far {v : Int32} (hi : i < 8) (hx : x = 21 ∨ 79 ≤ x) : (cR C i v).1 x = C.1 x := by
  unfold cR
  by_cases h : C.1 (23 + 7 * i + 2) - v = nI 0
  · rw [if_pos h]; show va_up _ _ _ _ = _; simp (disch := omega) only [va_up_ne]
  · rw [if_neg h]; show va_up _ _ _ _ = _; simp (disch := omega) only [va_up_ne]
theorem wS_far (hi : i < 8) (hx : x = 21 ∨ 79 ≤ x) : (wS z C i).1 x = C.1 x := by
  have h1 : (wS1 C i).1 x = C.1 x := va_up_ne _ _ (by omega)
  unfold wS
  repeat' split
  · rfl
  · rfl
  · rw [cR_far hi hx, h1]
  · exact h1
theorem acw_far (hx : x = 21 ∨ 79 ≤ x) : ∀ m, m ≤ 8 → (ac (wS z) C m).1 x = C.1 x := by
  intro m
  induction m with
  | zero => intro _; rfl
  | succ m ih => intro h; exact (wS_far (by omega) hx).trans (ih (by omega))
theorem bS_far {y : Nat} (hm : m ≤ 8) (hp : fp z y < 8) (hy : y < 3) (hx : x = 21 ∨ 79 ≤ x) : (bS z m C y).1 x = C.1 x := by
  have h1 : (bS1 C y).1 x = C.1 x := va_up_ne _ _ (by omega)
  unfold bS
  by_cases h : xb C.1 y = 0
  · rw [if_pos h]
  · rw [if_neg h]
    cases hl : lA C.1 (fp z y) m with
    | none => rfl
    | some i =>
      have := (lA_lt hl).1
      exact (cL_far (by omega) hp hx).trans h1
theorem acb_far {P W F : Nat} (hz : ZR P W F z) (hm : m ≤ 8) (hx : x = 21 ∨ 79 ≤ x) : ∀ y, y ≤ F → (ac (bS z m) C y).1 x = C.1 x := by
  intro y
  induction y with
  | zero => intro _; rfl
  | succ y ih =>
    intro h
    have h1 := (fp_eq hz (show y < F by omega)).1
    have h2 := hz.1
    exact (bS_far hm (by omega) (by omega) hx).trans (ih (by omega))
theorem dS_far {P W H B : Nat} (hk : KM P W H B m C.1) (hP : P ≤ 8) (hi : i < m) (hx : x = 21 ∨ 79 ≤ x) : (dS z C i).1 x = C.1 x := by
  have m8 := hk.1
  have h1 := ((hk.2.2.2.1 i hi).x hP).1.1
  unfold dS
  repeat' split
  · rfl
  · rfl
  · exact cL_far (by omega) (by omega) hx
theorem acd_far {P W H B : Nat} (hk : KM P W H B m C.1) (hP : P ≤ 8) (hB : B + 9 < 2 ^ 30) (hx : x = 21 ∨ 79 ≤ x) : ∀ y, y ≤ m → (ac (dS z) C y).1 x = C.1 x := by
  intro y
  induction y with
  | zero => intro _; rfl
  | succ y ih => intro h; exact (dS_far (hk.dew hP hB y (by omega)) hP (by omega) hx).trans (ih (by omega))
theorem cL_up21 {v w : Int32} {p : Nat} (hp : p < 8) : cL (up21 C w) i v p = up21 (cL C i v p) w := by
  have e : ∀ y, y ≠ 21 → (up21 C w).1 y = C.1 y := fun y hy => va_up_ne _ _ hy
  refine Prod.ext (funext fun y => ?_) ?_
  · by_cases hy : y = 21
    · subst hy
      show (cL (up21 C w) i v p).1 21 = va_up (cL C i v p).1 21 w 21
      rw [va_up_self, cL_mid hp (by omega)]
      exact va_up_self C.1 21 w
    · show _ = va_up (cL C i v p).1 21 w y
      rw [va_up_ne _ _ hy]
      unfold cL
      simp only [e (23 + 7 * i + 2) (by omega), e (23 + 7 * i + 5) (by omega), e p (by omega), e (8 + p) (by omega), e y hy]
  · show (_, _) = _
    unfold cL
    simp only [e (23 + 7 * i + 2) (by omega)]
    rfl
theorem dS_up21 {w : Int32} (hp : xp C.1 i < 8) : dS z (up21 C w) i = up21 (dS z C i) w := by
  have e : ∀ y, y ≠ 21 → (up21 C w).1 y = C.1 y := fun y hy => va_up_ne _ _ hy
  have e1 : xg (up21 C w).1 i = xg C.1 i := by unfold xg; rw [e _ (by omega)]
  have e2 : xl (up21 C w).1 i = xl C.1 i := by unfold xl; rw [e _ (by omega)]
  have e3 : xp (up21 C w).1 i = xp C.1 i := by unfold xp; rw [e _ (by omega)]
  unfold dS
  rw [e1, e2, e3]
  by_cases h1 : xg C.1 i = 0
  · rw [if_pos h1, if_pos h1]
  rw [if_neg h1, if_neg h1]
  by_cases h2 : xl C.1 i = 0 ∧ z (5 * xp C.1 i + 1) = nI 1
  · rw [if_pos h2, if_pos h2]
  · rw [if_neg h2, if_neg h2]
    exact cL_up21 hp
theorem acd_up21 {P W H B : Nat} {w : Int32} (hk : KM P W H B m C.1) (hP : P ≤ 8) (hB : B + 9 < 2 ^ 30) : ∀ y, y ≤ m → ac (dS z) (up21 C w) y = up21 (ac (dS z) C y) w := by
  intro y
  induction y with
  | zero => intro _; rfl
  | succ y ih =>
    intro h
    have h1 := (((hk.dew (z := z) hP hB y (by omega)).2.2.2.1 y (by omega)).x hP).1.1
    show dS z (ac (dS z) (up21 C w) y) y = up21 (dS z (ac (dS z) C y) y) w
    rw [ih (by omega), dS_up21 (by omega)]
end FAR
