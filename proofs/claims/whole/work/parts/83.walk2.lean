section GWALK
variable {L P W F n H B m R : Nat} {f : Nat → LWt} {z : Nat → Int32} {hold : Int32} {σ0 σ : sa_St} {C : C3} {wl : Nat → Int32} {Q : Unit → sa_St → Prop}
theorem g_walk (hcx0 : Cx L P W F n f z hold σ0) (hR : R = 173 ∨ R = 174) (hkm : KM P W H B m C.1) {ex : sa_M Unit} (hms : MS n f R σ0 C wl σ) (hQ : ∀ τ, MS n f R σ0 (ac (wS z) C m) wl τ → wp ex τ Q) :
    wp (sa_wh1 (fun j112 (x5 : Int32) =>
sa_bnd (sa_ldI .int R 75) fun v6 =>
if v6 ≤ x5 then
ex
else
sa_let ((7 * x5) : Int32) fun x22 =>
sa_bnd (f_X12_lives R x5) fun v23 =>
sa_jn0 (sa_let ((x5 + 1) : Int32) fun x24 =>
j112 x24) fun j207 =>
if v23 = 0 then
j207
else
sa_bnd (sa_ldI .int R (x22 + 1)) fun v25 =>
if ¬ v25 = 0 then
sa_bnd (sa_ldI .int R (x22 + 1)) fun v26 =>
sa_bnd (sa_stI R (x22 + 1) (v26 - 1)) fun _ =>
sa_bnd (sa_ldI .int R (x22 + 1)) fun v27 =>
if ¬ v27 = 0 then
j207
else
sa_bnd (sa_rdR 12 159 20) fun v28 =>
sa_bnd (sa_ldI .int R (x22 + 6)) fun v29 =>
sa_bnd (sa_ldI .int v28 ((4 * v29) + 3)) fun v30 =>
if v30 ≤ 0 then
j207
else
sa_bnd (sa_rdR 12 159 20) fun v31 =>
sa_bnd (sa_ldI .int R (x22 + 6)) fun v32 =>
sa_bnd (sa_ldI .int v31 ((4 * v32) + 3)) fun v33 =>
sa_bnd (f_X12_loses 159 R x5 v33 1) fun _ =>
j207
else
j207) sa_F 0) σ Q := by
  have hzr := hcx0.zr
  have m8 := hkm.1
  have P8 := hzr.1.1
  have W12 := hzr.1.2.1
  have hkx := hkm.walk (z := z) P8
  have hal : sa_al .int R = 260 := by rcases hR with rfl | rfl <;> rfl
  refine wp_for1 m 0 (fun i τ => MS n f R σ0 (ac (wS z) C i) wl τ) ?_ ?_ hms (by omega) (by unfold sa_F; omega)
  · intro i τ hi hI c hc
    have hcx := (hI.1.fm hR).cx hcx0
    have hk1 := hkx i (by omega)
    have step : ac (wS z) C (i + 1) = wS z (ac (wS z) C i) i := rfl
    rw [step] at hc
    generalize ac (wS z) C i = Ci at hI hk1 hc
    obtain ⟨⟨xp8, o0⟩, ⟨xl9, xv12, hxv, o1, o6⟩, ⟨xg99, o2⟩, -⟩ := (hk1.2.2.2.1 i hi).x P8
    have o22 := hk1.2.1
    have hw := hI.2.1
    have i8 : i < 8 := by omega
    have f1 := m_lives hal hw o22 m8 hi o2 xg99
    have eS : wS z Ci i = if xg Ci.1 i = 0 then Ci else if xl Ci.1 i = 0 then Ci else if xl Ci.1 i = 1 then cR (wS1 Ci i) i (nI (min (fd z (xv Ci.1 i)) (xg Ci.1 i))) else wS1 Ci i := rfl
    by_cases g0 : xg Ci.1 i = 0
    · rw [if_pos g0] at eS
      have hs := hc τ (by rw [eS]; exact hI)
      clear hQ hc hms hkm hzr hcx hcx0 hkx hk1 hR
      simp (disch := omega) only [wp_gd, wp_bnd, wp_let, wp_jn0, wp_jn1, wp_jn2, wp_if, wp_ret, wp_rdI, wp_rdL, v_rdR, v_ldI, v_ldL, v_ldR, v_stI, v_stB, v_stZ, v_stL, wp_wrI, wp_wrL, wp_wrR, wp_wrZ, wp_retZ, v_md, v_dv, v_tb, upI_2, true_and, and_true, Nat.add_sub_cancel, Nat.zero_lt_succ, Nat.succ_pos, okN, clN, L0, L1, L2, L3, L4, L5, L6, L7, L8, L9, L10, L11, L12, L13, L14, L15, L16, L17, L18, L19, L20, L21, L22, L23, L24, L25, L26, L27, L28, L29, L30, L31, L32, L33, L34, L35, L36, L37, L38, L39, L40, L41, L42, L43, L44, L45, L46, L47, L48, L49, L50, L51, L52, L53, L54, L55, L56, L57, L58, L59, L60, L61, L62, L63, L64, L65, L66, L67, L68, L69, L70, L71, L72, L73, L74, L75, L76, L77, L78, L79, L80, L81, L82, L83, L84, L85, L86, L87, L88, L89, L90, L91, L92, L93, L94, L95, L96, L97, L98, L99, L100, L101, L102, L103, L104, L105, L106, L107, L108, L109, L110, L111, L112, L113, L114, L115, L116, L117, L118, L119, L120, L121, L122, L123, L124, L125, L126, L127, L128, L129, L130, L131, L200, L240, L255, L260, L1000, L4096, L10140, L1000000, ng1, mI_lt, mI_le, lt_mI, le_mI, eq_mI, mI_eq, mI_mI, mI_mE, nI_add, pk_mul, pk_sub, pk_rem, sa_minN, sa_maxN, ne_eq, nI_leI, nI_ltI, nI_eq, dT_le, dF_le, dT_lt, dF_lt, dT_eq, dF_eq, true_imp_iff, false_imp_iff, not_true_eq_false, not_false_eq_true, false_or, or_false, true_or, or_true, false_and, and_false, Decidable.not_not, reduceIte, if_true, if_false, upI_self, upI_ne, upL_1, upL_21, upL_self, upL_ne, upR_1, upR_22, upR_self, upR_ne, va_up_self, va_up_ne, Nat.reduceAdd, Nat.reduceMul, Nat.reduceSub, Nat.reduceLT, Nat.reduceLeDiff, Nat.reduceEqDiff, Nat.reduceSubDiff, Nat.zero_add, cm3, cm5, cm7, cm8, cm25, Nat.not_lt_zero, Nat.zero_le, not_false_iff, and_self, imp_self, implies_true, forall_const, Nat.lt_irrefl, Nat.le_refl, and_imp, hal, hw, toW_own, toW_own0, toW_gr, toW_lo, toW_bk, toW_75, toW_76, toW_77, toW_78, o22, wp_of_eq f1]
      exact hs
    rw [if_neg g0] at eS
    by_cases l0 : xl Ci.1 i = 0
    · rw [if_pos l0] at eS
      have hs := hc τ (by rw [eS]; exact hI)
      clear hQ hc hms hkm hzr hcx hcx0 hkx hk1 hR
      simp (disch := omega) only [wp_gd, wp_bnd, wp_let, wp_jn0, wp_jn1, wp_jn2, wp_if, wp_ret, wp_rdI, wp_rdL, v_rdR, v_ldI, v_ldL, v_ldR, v_stI, v_stB, v_stZ, v_stL, wp_wrI, wp_wrL, wp_wrR, wp_wrZ, wp_retZ, v_md, v_dv, v_tb, upI_2, true_and, and_true, Nat.add_sub_cancel, Nat.zero_lt_succ, Nat.succ_pos, okN, clN, L0, L1, L2, L3, L4, L5, L6, L7, L8, L9, L10, L11, L12, L13, L14, L15, L16, L17, L18, L19, L20, L21, L22, L23, L24, L25, L26, L27, L28, L29, L30, L31, L32, L33, L34, L35, L36, L37, L38, L39, L40, L41, L42, L43, L44, L45, L46, L47, L48, L49, L50, L51, L52, L53, L54, L55, L56, L57, L58, L59, L60, L61, L62, L63, L64, L65, L66, L67, L68, L69, L70, L71, L72, L73, L74, L75, L76, L77, L78, L79, L80, L81, L82, L83, L84, L85, L86, L87, L88, L89, L90, L91, L92, L93, L94, L95, L96, L97, L98, L99, L100, L101, L102, L103, L104, L105, L106, L107, L108, L109, L110, L111, L112, L113, L114, L115, L116, L117, L118, L119, L120, L121, L122, L123, L124, L125, L126, L127, L128, L129, L130, L131, L200, L240, L255, L260, L1000, L4096, L10140, L1000000, ng1, mI_lt, mI_le, lt_mI, le_mI, eq_mI, mI_eq, mI_mI, mI_mE, nI_add, pk_mul, pk_sub, pk_rem, sa_minN, sa_maxN, ne_eq, nI_leI, nI_ltI, nI_eq, dT_le, dF_le, dT_lt, dF_lt, dT_eq, dF_eq, true_imp_iff, false_imp_iff, not_true_eq_false, not_false_eq_true, false_or, or_false, true_or, or_true, false_and, and_false, Decidable.not_not, reduceIte, if_true, if_false, upI_self, upI_ne, upL_1, upL_21, upL_self, upL_ne, upR_1, upR_22, upR_self, upR_ne, va_up_self, va_up_ne, Nat.reduceAdd, Nat.reduceMul, Nat.reduceSub, Nat.reduceLT, Nat.reduceLeDiff, Nat.reduceEqDiff, Nat.reduceSubDiff, Nat.zero_add, cm3, cm5, cm7, cm8, cm25, Nat.not_lt_zero, Nat.zero_le, not_false_iff, and_self, imp_self, implies_true, forall_const, Nat.lt_irrefl, Nat.le_refl, and_imp, hal, hw, toW_own, toW_own0, toW_gr, toW_lo, toW_bk, toW_75, toW_76, toW_77, toW_78, o22, wp_of_eq f1, o1]
      exact hs
    rw [if_neg l0] at eS
    have hI2 : MS n f R σ0 (wS1 Ci i) wl (sa_upI τ R (7 * i + 1) (nI (xl Ci.1 i - 1))) := by
      refine ⟨Mf.up hI.1 hR, ?_, ?_, ?_⟩
      · rw [upI_self, hw, toW_uo (by omega)]; rfl
      · rw [upI_ne (by omega)]; exact hI.2.2.1
      · rw [upI_ne (by omega)]; exact hI.2.2.2
    by_cases l1 : xl Ci.1 i = 1
    · rw [if_pos l1] at eS
      have hxw := hxv (by omega)
      obtain ⟨fd9, hfd⟩ := fd_eq hzr hxw
      have hwy : τ.1 166 (4 * xv Ci.1 i + 3) = nI (fd z (xv Ci.1 i)) := by
        have := (hcx.2.2.1.2.2.2.1 (xv Ci.1 i) hxw).2.2.2 3 (by omega)
        rw [hcx.2.2.2.2.2.1, hfd] at this
        exact this
      have e2 : (wS1 Ci i).1 (23 + 7 * i + 2) = nI (xg Ci.1 i) := by
        show va_up Ci.1 _ _ _ = _
        rw [va_up_ne _ _ (by omega)]
        exact o2
      have e0 : (wS1 Ci i).1 (23 + 7 * i + 0) = nI (xp Ci.1 i) := by
        show va_up Ci.1 _ _ _ = _
        rw [va_up_ne _ _ (by omega)]
        exact o0
      have hk20 := sk_159_20 hcx.1
      have hRn : R ≠ 166 := by omega
      by_cases fz : fd z (xv Ci.1 i) = 0
      · have hs := hc _ (by
          rw [eS, fz, Nat.zero_min, cR_0 e2 (by omega) xg99]
          exact hI2)
        clear hQ hc hms hkm hzr hcx hcx0 hkx hk1 hR hI hI2 eS hfd e2 e0
        simp (disch := omega) only [wp_gd, wp_bnd, wp_let, wp_jn0, wp_jn1, wp_jn2, wp_if, wp_ret, wp_rdI, wp_rdL, v_rdR, v_ldI, v_ldL, v_ldR, v_stI, v_stB, v_stZ, v_stL, wp_wrI, wp_wrL, wp_wrR, wp_wrZ, wp_retZ, v_md, v_dv, v_tb, upI_2, true_and, and_true, Nat.add_sub_cancel, Nat.zero_lt_succ, Nat.succ_pos, okN, clN, L0, L1, L2, L3, L4, L5, L6, L7, L8, L9, L10, L11, L12, L13, L14, L15, L16, L17, L18, L19, L20, L21, L22, L23, L24, L25, L26, L27, L28, L29, L30, L31, L32, L33, L34, L35, L36, L37, L38, L39, L40, L41, L42, L43, L44, L45, L46, L47, L48, L49, L50, L51, L52, L53, L54, L55, L56, L57, L58, L59, L60, L61, L62, L63, L64, L65, L66, L67, L68, L69, L70, L71, L72, L73, L74, L75, L76, L77, L78, L79, L80, L81, L82, L83, L84, L85, L86, L87, L88, L89, L90, L91, L92, L93, L94, L95, L96, L97, L98, L99, L100, L101, L102, L103, L104, L105, L106, L107, L108, L109, L110, L111, L112, L113, L114, L115, L116, L117, L118, L119, L120, L121, L122, L123, L124, L125, L126, L127, L128, L129, L130, L131, L200, L240, L255, L260, L1000, L4096, L10140, L1000000, ng1, mI_lt, mI_le, lt_mI, le_mI, eq_mI, mI_eq, mI_mI, mI_mE, nI_add, pk_mul, pk_sub, pk_rem, sa_minN, sa_maxN, ne_eq, nI_leI, nI_ltI, nI_eq, dT_le, dF_le, dT_lt, dF_lt, dT_eq, dF_eq, true_imp_iff, false_imp_iff, not_true_eq_false, not_false_eq_true, false_or, or_false, true_or, or_true, false_and, and_false, Decidable.not_not, reduceIte, if_true, if_false, upI_self, upI_ne, upL_1, upL_21, upL_self, upL_ne, upR_1, upR_22, upR_self, upR_ne, va_up_self, va_up_ne, Nat.reduceAdd, Nat.reduceMul, Nat.reduceSub, Nat.reduceLT, Nat.reduceLeDiff, Nat.reduceEqDiff, Nat.reduceSubDiff, Nat.zero_add, cm3, cm5, cm7, cm8, cm25, Nat.not_lt_zero, Nat.zero_le, not_false_iff, and_self, imp_self, implies_true, forall_const, Nat.lt_irrefl, Nat.le_refl, and_imp, sh_0, sh_159, sh_1, sh_15, sh_44, sh_46, sh_48, sh_134, sh_136, sh_151, sh_156, hal, hw, toW_own, toW_own0, toW_gr, toW_lo, toW_bk, toW_75, toW_76, toW_77, toW_78, o22, wp_of_eq f1, o1, o6, hk20, al_166, hwy]
        exact hs
      · have go : wp (f_X12_loses 159 R (nI i) (nI (fd z (xv Ci.1 i))) (nI 1)) (sa_upI τ R (7 * i + 1) (nI (xl Ci.1 i - 1))) (fun _ τ3 => wp (c (nI (i + 1))) τ3 Q) := by
          refine r_loseR hR hI2 i8 (Nat.lt_of_lt_of_le xp8 P8) e0 e2 xg99 (by omega) (fun τ2 h2 => hc τ2 ?_)
          rw [eS]
          exact h2
        clear hQ hc hms hkm hzr hcx hcx0 hkx hk1 hR hI hI2 eS hfd e2 e0
        simp (disch := omega) only [wp_gd, wp_bnd, wp_let, wp_jn0, wp_jn1, wp_jn2, wp_if, wp_ret, wp_rdI, wp_rdL, v_rdR, v_ldI, v_ldL, v_ldR, v_stI, v_stB, v_stZ, v_stL, wp_wrI, wp_wrL, wp_wrR, wp_wrZ, wp_retZ, v_md, v_dv, v_tb, upI_2, true_and, and_true, Nat.add_sub_cancel, Nat.zero_lt_succ, Nat.succ_pos, okN, clN, L0, L1, L2, L3, L4, L5, L6, L7, L8, L9, L10, L11, L12, L13, L14, L15, L16, L17, L18, L19, L20, L21, L22, L23, L24, L25, L26, L27, L28, L29, L30, L31, L32, L33, L34, L35, L36, L37, L38, L39, L40, L41, L42, L43, L44, L45, L46, L47, L48, L49, L50, L51, L52, L53, L54, L55, L56, L57, L58, L59, L60, L61, L62, L63, L64, L65, L66, L67, L68, L69, L70, L71, L72, L73, L74, L75, L76, L77, L78, L79, L80, L81, L82, L83, L84, L85, L86, L87, L88, L89, L90, L91, L92, L93, L94, L95, L96, L97, L98, L99, L100, L101, L102, L103, L104, L105, L106, L107, L108, L109, L110, L111, L112, L113, L114, L115, L116, L117, L118, L119, L120, L121, L122, L123, L124, L125, L126, L127, L128, L129, L130, L131, L200, L240, L255, L260, L1000, L4096, L10140, L1000000, ng1, mI_lt, mI_le, lt_mI, le_mI, eq_mI, mI_eq, mI_mI, mI_mE, nI_add, pk_mul, pk_sub, pk_rem, sa_minN, sa_maxN, ne_eq, nI_leI, nI_ltI, nI_eq, dT_le, dF_le, dT_lt, dF_lt, dT_eq, dF_eq, true_imp_iff, false_imp_iff, not_true_eq_false, not_false_eq_true, false_or, or_false, true_or, or_true, false_and, and_false, Decidable.not_not, reduceIte, if_true, if_false, upI_self, upI_ne, upL_1, upL_21, upL_self, upL_ne, upR_1, upR_22, upR_self, upR_ne, va_up_self, va_up_ne, Nat.reduceAdd, Nat.reduceMul, Nat.reduceSub, Nat.reduceLT, Nat.reduceLeDiff, Nat.reduceEqDiff, Nat.reduceSubDiff, Nat.zero_add, cm3, cm5, cm7, cm8, cm25, Nat.not_lt_zero, Nat.zero_le, not_false_iff, and_self, imp_self, implies_true, forall_const, Nat.lt_irrefl, Nat.le_refl, and_imp, sh_0, sh_159, sh_1, sh_15, sh_44, sh_46, sh_48, sh_134, sh_136, sh_151, sh_156, hal, hw, toW_own, toW_own0, toW_gr, toW_lo, toW_bk, toW_75, toW_76, toW_77, toW_78, o22, wp_of_eq f1, o1, o6, hk20, al_166, hwy]
        exact go
    · rw [if_neg l1] at eS
      have hs := hc _ (by rw [eS]; exact hI2)
      clear hQ hc hms hkm hzr hcx hcx0 hkx hk1 hR hI hI2 eS
      simp (disch := omega) only [wp_gd, wp_bnd, wp_let, wp_jn0, wp_jn1, wp_jn2, wp_if, wp_ret, wp_rdI, wp_rdL, v_rdR, v_ldI, v_ldL, v_ldR, v_stI, v_stB, v_stZ, v_stL, wp_wrI, wp_wrL, wp_wrR, wp_wrZ, wp_retZ, v_md, v_dv, v_tb, upI_2, true_and, and_true, Nat.add_sub_cancel, Nat.zero_lt_succ, Nat.succ_pos, okN, clN, L0, L1, L2, L3, L4, L5, L6, L7, L8, L9, L10, L11, L12, L13, L14, L15, L16, L17, L18, L19, L20, L21, L22, L23, L24, L25, L26, L27, L28, L29, L30, L31, L32, L33, L34, L35, L36, L37, L38, L39, L40, L41, L42, L43, L44, L45, L46, L47, L48, L49, L50, L51, L52, L53, L54, L55, L56, L57, L58, L59, L60, L61, L62, L63, L64, L65, L66, L67, L68, L69, L70, L71, L72, L73, L74, L75, L76, L77, L78, L79, L80, L81, L82, L83, L84, L85, L86, L87, L88, L89, L90, L91, L92, L93, L94, L95, L96, L97, L98, L99, L100, L101, L102, L103, L104, L105, L106, L107, L108, L109, L110, L111, L112, L113, L114, L115, L116, L117, L118, L119, L120, L121, L122, L123, L124, L125, L126, L127, L128, L129, L130, L131, L200, L240, L255, L260, L1000, L4096, L10140, L1000000, ng1, mI_lt, mI_le, lt_mI, le_mI, eq_mI, mI_eq, mI_mI, mI_mE, nI_add, pk_mul, pk_sub, pk_rem, sa_minN, sa_maxN, ne_eq, nI_leI, nI_ltI, nI_eq, dT_le, dF_le, dT_lt, dF_lt, dT_eq, dF_eq, true_imp_iff, false_imp_iff, not_true_eq_false, not_false_eq_true, false_or, or_false, true_or, or_true, false_and, and_false, Decidable.not_not, reduceIte, if_true, if_false, upI_self, upI_ne, upL_1, upL_21, upL_self, upL_ne, upR_1, upR_22, upR_self, upR_ne, va_up_self, va_up_ne, Nat.reduceAdd, Nat.reduceMul, Nat.reduceSub, Nat.reduceLT, Nat.reduceLeDiff, Nat.reduceEqDiff, Nat.reduceSubDiff, Nat.zero_add, cm3, cm5, cm7, cm8, cm25, Nat.not_lt_zero, Nat.zero_le, not_false_iff, and_self, imp_self, implies_true, forall_const, Nat.lt_irrefl, Nat.le_refl, and_imp, sh_0, sh_159, sh_1, sh_15, sh_44, sh_46, sh_48, sh_134, sh_136, sh_151, sh_156, hal, hw, toW_own, toW_own0, toW_gr, toW_lo, toW_bk, toW_75, toW_76, toW_77, toW_78, o22, wp_of_eq f1, o1]
      exact hs
  · intro τ hI c
    have o22 := (hkx m (Nat.le_refl m)).2.1
    have hw := hI.2.1
    have hq := hQ τ hI
    clear hR
    simp (disch := omega) only [wp_gd, wp_bnd, wp_let, wp_jn0, wp_jn1, wp_jn2, wp_if, wp_ret, wp_rdI, wp_rdL, v_rdR, v_ldI, v_ldL, v_ldR, v_stI, v_stB, v_stZ, v_stL, wp_wrI, wp_wrL, wp_wrR, wp_wrZ, wp_retZ, v_md, v_dv, v_tb, upI_2, true_and, and_true, Nat.add_sub_cancel, Nat.zero_lt_succ, Nat.succ_pos, okN, clN, L0, L1, L2, L3, L4, L5, L6, L7, L8, L9, L10, L11, L12, L13, L14, L15, L16, L17, L18, L19, L20, L21, L22, L23, L24, L25, L26, L27, L28, L29, L30, L31, L32, L33, L34, L35, L36, L37, L38, L39, L40, L41, L42, L43, L44, L45, L46, L47, L48, L49, L50, L51, L52, L53, L54, L55, L56, L57, L58, L59, L60, L61, L62, L63, L64, L65, L66, L67, L68, L69, L70, L71, L72, L73, L74, L75, L76, L77, L78, L79, L80, L81, L82, L83, L84, L85, L86, L87, L88, L89, L90, L91, L92, L93, L94, L95, L96, L97, L98, L99, L100, L101, L102, L103, L104, L105, L106, L107, L108, L109, L110, L111, L112, L113, L114, L115, L116, L117, L118, L119, L120, L121, L122, L123, L124, L125, L126, L127, L128, L129, L130, L131, L200, L240, L255, L260, L1000, L4096, L10140, L1000000, ng1, mI_lt, mI_le, lt_mI, le_mI, eq_mI, mI_eq, mI_mI, mI_mE, nI_add, pk_mul, pk_sub, pk_rem, sa_minN, sa_maxN, ne_eq, nI_leI, nI_ltI, nI_eq, dT_le, dF_le, dT_lt, dF_lt, dT_eq, dF_eq, true_imp_iff, false_imp_iff, not_true_eq_false, not_false_eq_true, false_or, or_false, true_or, or_true, false_and, and_false, Decidable.not_not, reduceIte, if_true, if_false, upI_self, upI_ne, upL_1, upL_21, upL_self, upL_ne, upR_1, upR_22, upR_self, upR_ne, va_up_self, va_up_ne, Nat.reduceAdd, Nat.reduceMul, Nat.reduceSub, Nat.reduceLT, Nat.reduceLeDiff, Nat.reduceEqDiff, Nat.reduceSubDiff, Nat.zero_add, cm3, cm5, cm7, cm8, cm25, Nat.not_lt_zero, Nat.zero_le, not_false_iff, and_self, imp_self, implies_true, forall_const, Nat.lt_irrefl, Nat.le_refl, and_imp, hal, hw, toW_own, toW_own0, toW_gr, toW_lo, toW_bk, toW_75, toW_76, toW_77, toW_78, o22]
    exact hq
end GWALK
/-! DEW -/
def dS (z : Nat → Int32) (C : C3) (i : Nat) : C3 := if xg C.1 i = 0 then C else if xl C.1 i = 0 ∧ z (5 * xp C.1 i + 1) = nI 1 then C else cL C i (nI 1) (xp C.1 i)
section DEW
variable {L P W F n H B m R : Nat} {f : Nat → LWt} {z : Nat → Int32} {hold : Int32} {σ0 σ : sa_St} {C : C3} {wl : Nat → Int32} {Q : Unit → sa_St → Prop}
theorem KM.dewS (h : KM P W H B m C.1) (hP : P ≤ 8) (hB : B + 1 < 2 ^ 30) {i : Nat} (hi : i < m) : KM P W H (B + 1) m (dS z C i).1 := by
  unfold dS
  by_cases h1 : xg C.1 i = 0
  · rw [if_pos h1]; exact h.mono (Nat.le_refl H) (by omega)
  rw [if_neg h1]
  by_cases h2 : xl C.1 i = 0 ∧ z (5 * xp C.1 i + 1) = nI 1
  · rw [if_pos h2]; exact h.mono (Nat.le_refl H) (by omega)
  rw [if_neg h2]
  obtain ⟨⟨xp8, kp⟩, -, ⟨xg99, kg⟩, -⟩ := (h.2.2.2.1 i hi).x hP
  exact h.lost hi kg xg99 (by omega) xp8 hP (Nat.le_refl _) hB
theorem KM.dew (h : KM P W H B m C.1) (hP : P ≤ 8) (hB : B + 9 < 2 ^ 30) : ∀ x, x ≤ m → KM P W H (B + x) m (ac (dS z) C x).1 := by
  have m8 := h.1
  intro x
  induction x with
  | zero => intro _; exact h
  | succ x ih => intro hx; exact (ih (by omega)).dewS hP (by omega) (by omega)
theorem c_dew {id K : Nat} (hcx0 : Cx L P W F n f z hold σ0) (hca0 : CA σ0.2.1 id K) (hid : id = 44 ∧ K = 45 ∨ id = 46 ∧ K = 47) (hcs : CS (sS K id) σ0 id K C σ) (hkm : KM P W H B m C.1) (hB : B + 9 < 2 ^ 30) (hQ : ∀ τ, CS (sS K id) σ0 id K (ac (dS z) C m) τ → Q () τ) : wp (f_X0_letDewFall id L) σ Q := by
  have hzr := hcx0.zr
  have m8 := hkm.1
  have P8 := hzr.1.1
  have q1 := hca0.1
  have hkx := hkm.dew (z := z) P8 hB
  simp (disch := omega) only [f_X0_letDewFall, wp_gd, wp_bnd, wp_let, wp_jn0, wp_jn1, wp_jn2, wp_if, wp_ret, wp_rdI, wp_rdL, v_rdR, v_ldI, v_ldL, v_ldR, v_stI, v_stB, v_stZ, v_stL, wp_wrI, wp_wrL, wp_wrR, wp_wrZ, wp_retZ, v_md, v_dv, v_tb, upI_2, true_and, and_true, Nat.add_sub_cancel, Nat.zero_lt_succ, Nat.succ_pos, okN, clN, L0, L1, L2, L3, L4, L5, L6, L7, L8, L9, L10, L11, L12, L13, L14, L15, L16, L17, L18, L19, L20, L21, L22, L23, L24, L25, L26, L27, L28, L29, L30, L31, L32, L33, L34, L35, L36, L37, L38, L39, L40, L41, L42, L43, L44, L45, L46, L47, L48, L49, L50, L51, L52, L53, L54, L55, L56, L57, L58, L59, L60, L61, L62, L63, L64, L65, L66, L67, L68, L69, L70, L71, L72, L73, L74, L75, L76, L77, L78, L79, L80, L81, L82, L83, L84, L85, L86, L87, L88, L89, L90, L91, L92, L93, L94, L95, L96, L97, L98, L99, L100, L101, L102, L103, L104, L105, L106, L107, L108, L109, L110, L111, L112, L113, L114, L115, L116, L117, L118, L119, L120, L121, L122, L123, L124, L125, L126, L127, L128, L129, L130, L131, L200, L240, L255, L260, L1000, L4096, L10140, L1000000, ng1, mI_lt, mI_le, lt_mI, le_mI, eq_mI, mI_eq, mI_mI, mI_mE, nI_add, pk_mul, pk_sub, pk_rem, sa_minN, sa_maxN, ne_eq, nI_leI, nI_ltI, nI_eq, dT_le, dF_le, dT_lt, dF_lt, dT_eq, dF_eq, true_imp_iff, false_imp_iff, not_true_eq_false, not_false_eq_true, false_or, or_false, true_or, or_true, false_and, and_false, Decidable.not_not, reduceIte, if_true, if_false, upI_self, upI_ne, upL_1, upL_21, upL_self, upL_ne, upR_1, upR_22, upR_self, upR_ne, va_up_self, va_up_ne, Nat.reduceAdd, Nat.reduceMul, Nat.reduceSub, Nat.reduceLT, Nat.reduceLeDiff, Nat.reduceEqDiff, Nat.reduceSubDiff, Nat.zero_add, cm3, cm5, cm7, cm8, cm25, Nat.not_lt_zero, Nat.zero_le, not_false_iff, and_self, imp_self, implies_true, forall_const, Nat.lt_irrefl, Nat.le_refl, and_imp, q1]
  refine wp_for1 m 0 (fun i τ => CS (sS K id) σ0 id K (ac (dS z) C i) τ) ?_ ?_ hcs (by omega) (by unfold sa_F; omega)
  · intro i τ hi hI c hc
    have hcx := (hI.fa hid).cx hcx0
    have hca := hI.ca hca0
    have hk1 := hkx i (by omega)
    have step : ac (dS z) C (i + 1) = dS z (ac (dS z) C i) i := rfl
    rw [step] at hc
    generalize ac (dS z) C i = Ci at hI hk1 hc
    obtain ⟨⟨xp8, o0⟩, ⟨xl9, xv12, hxv, o1, o6⟩, ⟨xg99, o2⟩, -⟩ := (hk1.2.2.2.1 i hi).x P8
    have o22 := hk1.2.1
    have c2 := hI.2.1
    have i8 : i < 8 := by omega
    obtain ⟨r, r1, hrf⟩ := (hzr.2.1 (xp Ci.1 i) xp8).2.1
    have f1 := e_lives hca c2 o22 m8 hi o2 xg99
    have f0 := e_of hca c2 (j := 0) i8 (by omega)
    rw [o0] at f0
    have f2 := e_under hcx hca c2 i8 xp8 o0 o1 xl9 r1 hrf
    have q1 := hca.1
    have q2 := hca.2.1
    have q3 := hca.al
    have eS : dS z Ci i = if xg Ci.1 i = 0 then Ci else if xl Ci.1 i = 0 ∧ z (5 * xp Ci.1 i + 1) = nI 1 then Ci else cL Ci i (nI 1) (xp Ci.1 i) := rfl
    simp only [hrf, nI_eq (show r < 2 ^ 31 by omega) (show 1 < 2 ^ 31 by omega)] at eS
    by_cases g0 : xg Ci.1 i = 0
    · rw [if_pos g0] at eS
      have hs := hc τ (by rw [eS]; exact hI)
      clear hid hQ hc hcs hkm hzr hcx hcx0 hkx hk1
      simp (disch := omega) only [wp_gd, wp_bnd, wp_let, wp_jn0, wp_jn1, wp_jn2, wp_if, wp_ret, wp_rdI, wp_rdL, v_rdR, v_ldI, v_ldL, v_ldR, v_stI, v_stB, v_stZ, v_stL, wp_wrI, wp_wrL, wp_wrR, wp_wrZ, wp_retZ, v_md, v_dv, v_tb, upI_2, true_and, and_true, Nat.add_sub_cancel, Nat.zero_lt_succ, Nat.succ_pos, okN, clN, L0, L1, L2, L3, L4, L5, L6, L7, L8, L9, L10, L11, L12, L13, L14, L15, L16, L17, L18, L19, L20, L21, L22, L23, L24, L25, L26, L27, L28, L29, L30, L31, L32, L33, L34, L35, L36, L37, L38, L39, L40, L41, L42, L43, L44, L45, L46, L47, L48, L49, L50, L51, L52, L53, L54, L55, L56, L57, L58, L59, L60, L61, L62, L63, L64, L65, L66, L67, L68, L69, L70, L71, L72, L73, L74, L75, L76, L77, L78, L79, L80, L81, L82, L83, L84, L85, L86, L87, L88, L89, L90, L91, L92, L93, L94, L95, L96, L97, L98, L99, L100, L101, L102, L103, L104, L105, L106, L107, L108, L109, L110, L111, L112, L113, L114, L115, L116, L117, L118, L119, L120, L121, L122, L123, L124, L125, L126, L127, L128, L129, L130, L131, L200, L240, L255, L260, L1000, L4096, L10140, L1000000, ng1, mI_lt, mI_le, lt_mI, le_mI, eq_mI, mI_eq, mI_mI, mI_mE, nI_add, pk_mul, pk_sub, pk_rem, sa_minN, sa_maxN, ne_eq, nI_leI, nI_ltI, nI_eq, dT_le, dF_le, dT_lt, dF_lt, dT_eq, dF_eq, true_imp_iff, false_imp_iff, not_true_eq_false, not_false_eq_true, false_or, or_false, true_or, or_true, false_and, and_false, Decidable.not_not, reduceIte, if_true, if_false, upI_self, upI_ne, upL_1, upL_21, upL_self, upL_ne, upR_1, upR_22, upR_self, upR_ne, va_up_self, va_up_ne, Nat.reduceAdd, Nat.reduceMul, Nat.reduceSub, Nat.reduceLT, Nat.reduceLeDiff, Nat.reduceEqDiff, Nat.reduceSubDiff, Nat.zero_add, cm3, cm5, cm7, cm8, cm25, Nat.not_lt_zero, Nat.zero_le, not_false_iff, and_self, imp_self, implies_true, forall_const, Nat.lt_irrefl, Nat.le_refl, and_imp, q1, q2, q3, c2, o22, wp_of_eq f1]
      exact hs
    rw [if_neg g0] at eS
    by_cases l0 : xl Ci.1 i = 0 ∧ r = 1
    · rw [if_pos l0] at eS
      have hs := hc τ (by rw [eS]; exact hI)
      have e9 : (if xl Ci.1 i = 0 then r else 0) = 1 := by rw [if_pos l0.1, l0.2]
      rw [e9] at f2
      clear hid hQ hc hcs hkm hzr hcx hcx0 hkx hk1
      simp (disch := omega) only [wp_gd, wp_bnd, wp_let, wp_jn0, wp_jn1, wp_jn2, wp_if, wp_ret, wp_rdI, wp_rdL, v_rdR, v_ldI, v_ldL, v_ldR, v_stI, v_stB, v_stZ, v_stL, wp_wrI, wp_wrL, wp_wrR, wp_wrZ, wp_retZ, v_md, v_dv, v_tb, upI_2, true_and, and_true, Nat.add_sub_cancel, Nat.zero_lt_succ, Nat.succ_pos, okN, clN, L0, L1, L2, L3, L4, L5, L6, L7, L8, L9, L10, L11, L12, L13, L14, L15, L16, L17, L18, L19, L20, L21, L22, L23, L24, L25, L26, L27, L28, L29, L30, L31, L32, L33, L34, L35, L36, L37, L38, L39, L40, L41, L42, L43, L44, L45, L46, L47, L48, L49, L50, L51, L52, L53, L54, L55, L56, L57, L58, L59, L60, L61, L62, L63, L64, L65, L66, L67, L68, L69, L70, L71, L72, L73, L74, L75, L76, L77, L78, L79, L80, L81, L82, L83, L84, L85, L86, L87, L88, L89, L90, L91, L92, L93, L94, L95, L96, L97, L98, L99, L100, L101, L102, L103, L104, L105, L106, L107, L108, L109, L110, L111, L112, L113, L114, L115, L116, L117, L118, L119, L120, L121, L122, L123, L124, L125, L126, L127, L128, L129, L130, L131, L200, L240, L255, L260, L1000, L4096, L10140, L1000000, ng1, mI_lt, mI_le, lt_mI, le_mI, eq_mI, mI_eq, mI_mI, mI_mE, nI_add, pk_mul, pk_sub, pk_rem, sa_minN, sa_maxN, ne_eq, nI_leI, nI_ltI, nI_eq, dT_le, dF_le, dT_lt, dF_lt, dT_eq, dF_eq, true_imp_iff, false_imp_iff, not_true_eq_false, not_false_eq_true, false_or, or_false, true_or, or_true, false_and, and_false, Decidable.not_not, reduceIte, if_true, if_false, upI_self, upI_ne, upL_1, upL_21, upL_self, upL_ne, upR_1, upR_22, upR_self, upR_ne, va_up_self, va_up_ne, Nat.reduceAdd, Nat.reduceMul, Nat.reduceSub, Nat.reduceLT, Nat.reduceLeDiff, Nat.reduceEqDiff, Nat.reduceSubDiff, Nat.zero_add, cm3, cm5, cm7, cm8, cm25, Nat.not_lt_zero, Nat.zero_le, not_false_iff, and_self, imp_self, implies_true, forall_const, Nat.lt_irrefl, Nat.le_refl, and_imp, q1, q2, q3, c2, o22, wp_of_eq f1, wp_of_eq f2]
      exact hs
    · rw [if_neg l0] at eS
      have e9 : (if xl Ci.1 i = 0 then r else 0) = 0 := by
        by_cases u : xl Ci.1 i = 0
        · rw [if_pos u]; omega
        · rw [if_neg u]
      rw [e9] at f2
      have go : wp (f_X0_lose id (nI i) (nI 1) (nI (xp Ci.1 i))) τ (fun _ τ3 => wp (c (nI (i + 1))) τ3 Q) := by
        have p8 := Nat.lt_of_lt_of_le xp8 P8
        refine w_lose hca hI (by simp) (by simp) i8 (Or.inr ⟨xp Ci.1 i, p8, rfl, rfl⟩) (fun τ2 h2 => hc τ2 ?_)
        rw [eS]
        rw [c_lose_cL p8, o2, sa_minN (by omega) (by omega), show min 1 (xg Ci.1 i) = 1 by omega] at h2
        exact h2
      clear hid hQ hc hcs hkm hzr hcx hcx0 hkx hk1
      simp (disch := omega) only [wp_gd, wp_bnd, wp_let, wp_jn0, wp_jn1, wp_jn2, wp_if, wp_ret, wp_rdI, wp_rdL, v_rdR, v_ldI, v_ldL, v_ldR, v_stI, v_stB, v_stZ, v_stL, wp_wrI, wp_wrL, wp_wrR, wp_wrZ, wp_retZ, v_md, v_dv, v_tb, upI_2, true_and, and_true, Nat.add_sub_cancel, Nat.zero_lt_succ, Nat.succ_pos, okN, clN, L0, L1, L2, L3, L4, L5, L6, L7, L8, L9, L10, L11, L12, L13, L14, L15, L16, L17, L18, L19, L20, L21, L22, L23, L24, L25, L26, L27, L28, L29, L30, L31, L32, L33, L34, L35, L36, L37, L38, L39, L40, L41, L42, L43, L44, L45, L46, L47, L48, L49, L50, L51, L52, L53, L54, L55, L56, L57, L58, L59, L60, L61, L62, L63, L64, L65, L66, L67, L68, L69, L70, L71, L72, L73, L74, L75, L76, L77, L78, L79, L80, L81, L82, L83, L84, L85, L86, L87, L88, L89, L90, L91, L92, L93, L94, L95, L96, L97, L98, L99, L100, L101, L102, L103, L104, L105, L106, L107, L108, L109, L110, L111, L112, L113, L114, L115, L116, L117, L118, L119, L120, L121, L122, L123, L124, L125, L126, L127, L128, L129, L130, L131, L200, L240, L255, L260, L1000, L4096, L10140, L1000000, ng1, mI_lt, mI_le, lt_mI, le_mI, eq_mI, mI_eq, mI_mI, mI_mE, nI_add, pk_mul, pk_sub, pk_rem, sa_minN, sa_maxN, ne_eq, nI_leI, nI_ltI, nI_eq, dT_le, dF_le, dT_lt, dF_lt, dT_eq, dF_eq, true_imp_iff, false_imp_iff, not_true_eq_false, not_false_eq_true, false_or, or_false, true_or, or_true, false_and, and_false, Decidable.not_not, reduceIte, if_true, if_false, upI_self, upI_ne, upL_1, upL_21, upL_self, upL_ne, upR_1, upR_22, upR_self, upR_ne, va_up_self, va_up_ne, Nat.reduceAdd, Nat.reduceMul, Nat.reduceSub, Nat.reduceLT, Nat.reduceLeDiff, Nat.reduceEqDiff, Nat.reduceSubDiff, Nat.zero_add, cm3, cm5, cm7, cm8, cm25, Nat.not_lt_zero, Nat.zero_le, not_false_iff, and_self, imp_self, implies_true, forall_const, Nat.lt_irrefl, Nat.le_refl, and_imp, q1, q2, q3, c2, o22, wp_of_eq f1, wp_of_eq f2, wp_of_eq f0]
      exact go
  · intro τ hI c
    have hca := hI.ca hca0
    have o22 := (hkx m (Nat.le_refl m)).2.1
    have c2 := hI.2.1
    have q1 := hca.1
    have q2 := hca.2.1
    have q3 := hca.al
    have hq := hQ τ hI
    clear hid
    simp (disch := omega) only [wp_gd, wp_bnd, wp_let, wp_jn0, wp_jn1, wp_jn2, wp_if, wp_ret, wp_rdI, wp_rdL, v_rdR, v_ldI, v_ldL, v_ldR, v_stI, v_stB, v_stZ, v_stL, wp_wrI, wp_wrL, wp_wrR, wp_wrZ, wp_retZ, v_md, v_dv, v_tb, upI_2, true_and, and_true, Nat.add_sub_cancel, Nat.zero_lt_succ, Nat.succ_pos, okN, clN, L0, L1, L2, L3, L4, L5, L6, L7, L8, L9, L10, L11, L12, L13, L14, L15, L16, L17, L18, L19, L20, L21, L22, L23, L24, L25, L26, L27, L28, L29, L30, L31, L32, L33, L34, L35, L36, L37, L38, L39, L40, L41, L42, L43, L44, L45, L46, L47, L48, L49, L50, L51, L52, L53, L54, L55, L56, L57, L58, L59, L60, L61, L62, L63, L64, L65, L66, L67, L68, L69, L70, L71, L72, L73, L74, L75, L76, L77, L78, L79, L80, L81, L82, L83, L84, L85, L86, L87, L88, L89, L90, L91, L92, L93, L94, L95, L96, L97, L98, L99, L100, L101, L102, L103, L104, L105, L106, L107, L108, L109, L110, L111, L112, L113, L114, L115, L116, L117, L118, L119, L120, L121, L122, L123, L124, L125, L126, L127, L128, L129, L130, L131, L200, L240, L255, L260, L1000, L4096, L10140, L1000000, ng1, mI_lt, mI_le, lt_mI, le_mI, eq_mI, mI_eq, mI_mI, mI_mE, nI_add, pk_mul, pk_sub, pk_rem, sa_minN, sa_maxN, ne_eq, nI_leI, nI_ltI, nI_eq, dT_le, dF_le, dT_lt, dF_lt, dT_eq, dF_eq, true_imp_iff, false_imp_iff, not_true_eq_false, not_false_eq_true, false_or, or_false, true_or, or_true, false_and, and_false, Decidable.not_not, reduceIte, if_true, if_false, upI_self, upI_ne, upL_1, upL_21, upL_self, upL_ne, upR_1, upR_22, upR_self, upR_ne, va_up_self, va_up_ne, Nat.reduceAdd, Nat.reduceMul, Nat.reduceSub, Nat.reduceLT, Nat.reduceLeDiff, Nat.reduceEqDiff, Nat.reduceSubDiff, Nat.zero_add, cm3, cm5, cm7, cm8, cm25, Nat.not_lt_zero, Nat.zero_le, not_false_iff, and_self, imp_self, implies_true, forall_const, Nat.lt_irrefl, Nat.le_refl, and_imp, q1, q2, q3, c2, o22]
    exact hq
theorem g_dew (hcx0 : Cx L P W F n f z hold σ0) (hR : R = 173 ∨ R = 174) (hkm : KM P W H B m C.1) (hB : B + 9 < 2 ^ 30) {ex : sa_M Unit} (hms : MS n f R σ0 C wl σ) (hQ : ∀ τ, MS n f R σ0 (ac (dS z) C m) wl τ → wp ex τ Q) :
    wp (sa_wh1 (fun j255 (x14 : Int32) =>
sa_bnd (sa_ldI .int R 75) fun v15 =>
if v15 ≤ x14 then
ex
else
sa_bnd (f_X12_lives R x14) fun v16 =>
sa_jn0 (sa_let ((x14 + 1) : Int32) fun x17 =>
j255 x17) fun j303 =>
if v16 = 0 then
j303
else
sa_bnd (sa_ldI .int R ((7 * x14) + 1)) fun v18 =>
sa_jn0 (sa_bnd (f_X12_loses 159 R x14 1 0) fun _ =>
j303) fun j295 =>
if 0 < v18 then
j295
else
sa_bnd (sa_ldI .int R (7 * x14)) fun v19 =>
sa_bnd (f_X12_isRoofed 159 v19) fun v20 =>
if ¬ v20 = 0 then
j303
else
j295) sa_F 0) σ Q := by
  have hzr := hcx0.zr
  have m8 := hkm.1
  have P8 := hzr.1.1
  have hkx := hkm.dew (z := z) P8 hB
  have hal : sa_al .int R = 260 := by rcases hR with rfl | rfl <;> rfl
  refine wp_for1 m 0 (fun i τ => MS n f R σ0 (ac (dS z) C i) wl τ) ?_ ?_ hms (by omega) (by unfold sa_F; omega)
  · intro i τ hi hI c hc
    have hcx := (hI.1.fm hR).cx hcx0
    have hk1 := hkx i (by omega)
    have step : ac (dS z) C (i + 1) = dS z (ac (dS z) C i) i := rfl
    rw [step] at hc
    generalize ac (dS z) C i = Ci at hI hk1 hc
    obtain ⟨⟨xp8, o0⟩, ⟨xl9, xv12, hxv, o1, o6⟩, ⟨xg99, o2⟩, -⟩ := (hk1.2.2.2.1 i hi).x P8
    have o22 := hk1.2.1
    have hw := hI.2.1
    have i8 : i < 8 := by omega
    obtain ⟨r, r1, hrf⟩ := (hzr.2.1 (xp Ci.1 i) xp8).2.1
    have f1 := m_lives hal hw o22 m8 hi o2 xg99
    have f4 := m_roof hcx xp8 r1 hrf
    have eS : dS z Ci i = if xg Ci.1 i = 0 then Ci else if xl Ci.1 i = 0 ∧ z (5 * xp Ci.1 i + 1) = nI 1 then Ci else cL Ci i (nI 1) (xp Ci.1 i) := rfl
    simp only [hrf, nI_eq (show r < 2 ^ 31 by omega) (show 1 < 2 ^ 31 by omega)] at eS
    by_cases g0 : xg Ci.1 i = 0
    · rw [if_pos g0] at eS
      have hs := hc τ (by rw [eS]; exact hI)
      clear hQ hc hms hkm hzr hcx hcx0 hkx hk1 hR
      simp (disch := omega) only [wp_gd, wp_bnd, wp_let, wp_jn0, wp_jn1, wp_jn2, wp_if, wp_ret, wp_rdI, wp_rdL, v_rdR, v_ldI, v_ldL, v_ldR, v_stI, v_stB, v_stZ, v_stL, wp_wrI, wp_wrL, wp_wrR, wp_wrZ, wp_retZ, v_md, v_dv, v_tb, upI_2, true_and, and_true, Nat.add_sub_cancel, Nat.zero_lt_succ, Nat.succ_pos, okN, clN, L0, L1, L2, L3, L4, L5, L6, L7, L8, L9, L10, L11, L12, L13, L14, L15, L16, L17, L18, L19, L20, L21, L22, L23, L24, L25, L26, L27, L28, L29, L30, L31, L32, L33, L34, L35, L36, L37, L38, L39, L40, L41, L42, L43, L44, L45, L46, L47, L48, L49, L50, L51, L52, L53, L54, L55, L56, L57, L58, L59, L60, L61, L62, L63, L64, L65, L66, L67, L68, L69, L70, L71, L72, L73, L74, L75, L76, L77, L78, L79, L80, L81, L82, L83, L84, L85, L86, L87, L88, L89, L90, L91, L92, L93, L94, L95, L96, L97, L98, L99, L100, L101, L102, L103, L104, L105, L106, L107, L108, L109, L110, L111, L112, L113, L114, L115, L116, L117, L118, L119, L120, L121, L122, L123, L124, L125, L126, L127, L128, L129, L130, L131, L200, L240, L255, L260, L1000, L4096, L10140, L1000000, ng1, mI_lt, mI_le, lt_mI, le_mI, eq_mI, mI_eq, mI_mI, mI_mE, nI_add, pk_mul, pk_sub, pk_rem, sa_minN, sa_maxN, ne_eq, nI_leI, nI_ltI, nI_eq, dT_le, dF_le, dT_lt, dF_lt, dT_eq, dF_eq, true_imp_iff, false_imp_iff, not_true_eq_false, not_false_eq_true, false_or, or_false, true_or, or_true, false_and, and_false, Decidable.not_not, reduceIte, if_true, if_false, upI_self, upI_ne, upL_1, upL_21, upL_self, upL_ne, upR_1, upR_22, upR_self, upR_ne, va_up_self, va_up_ne, Nat.reduceAdd, Nat.reduceMul, Nat.reduceSub, Nat.reduceLT, Nat.reduceLeDiff, Nat.reduceEqDiff, Nat.reduceSubDiff, Nat.zero_add, cm3, cm5, cm7, cm8, cm25, Nat.not_lt_zero, Nat.zero_le, not_false_iff, and_self, imp_self, implies_true, forall_const, Nat.lt_irrefl, Nat.le_refl, and_imp, hal, hw, toW_own, toW_own0, toW_gr, toW_lo, toW_bk, toW_75, toW_76, toW_77, toW_78, o22, wp_of_eq f1]
      exact hs
    rw [if_neg g0] at eS
    by_cases l0 : xl Ci.1 i = 0 ∧ r = 1
    · rw [if_pos l0] at eS
      have hs := hc τ (by rw [eS]; exact hI)
      rw [l0.2] at f4
      clear hQ hc hms hkm hzr hcx hcx0 hkx hk1 hR
      simp (disch := omega) only [wp_gd, wp_bnd, wp_let, wp_jn0, wp_jn1, wp_jn2, wp_if, wp_ret, wp_rdI, wp_rdL, v_rdR, v_ldI, v_ldL, v_ldR, v_stI, v_stB, v_stZ, v_stL, wp_wrI, wp_wrL, wp_wrR, wp_wrZ, wp_retZ, v_md, v_dv, v_tb, upI_2, true_and, and_true, Nat.add_sub_cancel, Nat.zero_lt_succ, Nat.succ_pos, okN, clN, L0, L1, L2, L3, L4, L5, L6, L7, L8, L9, L10, L11, L12, L13, L14, L15, L16, L17, L18, L19, L20, L21, L22, L23, L24, L25, L26, L27, L28, L29, L30, L31, L32, L33, L34, L35, L36, L37, L38, L39, L40, L41, L42, L43, L44, L45, L46, L47, L48, L49, L50, L51, L52, L53, L54, L55, L56, L57, L58, L59, L60, L61, L62, L63, L64, L65, L66, L67, L68, L69, L70, L71, L72, L73, L74, L75, L76, L77, L78, L79, L80, L81, L82, L83, L84, L85, L86, L87, L88, L89, L90, L91, L92, L93, L94, L95, L96, L97, L98, L99, L100, L101, L102, L103, L104, L105, L106, L107, L108, L109, L110, L111, L112, L113, L114, L115, L116, L117, L118, L119, L120, L121, L122, L123, L124, L125, L126, L127, L128, L129, L130, L131, L200, L240, L255, L260, L1000, L4096, L10140, L1000000, ng1, mI_lt, mI_le, lt_mI, le_mI, eq_mI, mI_eq, mI_mI, mI_mE, nI_add, pk_mul, pk_sub, pk_rem, sa_minN, sa_maxN, ne_eq, nI_leI, nI_ltI, nI_eq, dT_le, dF_le, dT_lt, dF_lt, dT_eq, dF_eq, true_imp_iff, false_imp_iff, not_true_eq_false, not_false_eq_true, false_or, or_false, true_or, or_true, false_and, and_false, Decidable.not_not, reduceIte, if_true, if_false, upI_self, upI_ne, upL_1, upL_21, upL_self, upL_ne, upR_1, upR_22, upR_self, upR_ne, va_up_self, va_up_ne, Nat.reduceAdd, Nat.reduceMul, Nat.reduceSub, Nat.reduceLT, Nat.reduceLeDiff, Nat.reduceEqDiff, Nat.reduceSubDiff, Nat.zero_add, cm3, cm5, cm7, cm8, cm25, Nat.not_lt_zero, Nat.zero_le, not_false_iff, and_self, imp_self, implies_true, forall_const, Nat.lt_irrefl, Nat.le_refl, and_imp, hal, hw, toW_own, toW_own0, toW_gr, toW_lo, toW_bk, toW_75, toW_76, toW_77, toW_78, o22, wp_of_eq f1, o1, o0, wp_of_eq f4]
      exact hs
    · rw [if_neg l0] at eS
      have go : wp (f_X12_loses 159 R (nI i) (nI 1) (nI 0)) τ (fun _ τ3 => wp (c (nI (i + 1))) τ3 Q) := by
        refine r_loseP hR hI i8 (Nat.lt_of_lt_of_le xp8 P8) o0 o2 xg99 (by omega) (fun τ2 h2 => hc τ2 ?_)
        rw [eS]
        rw [show min 1 (xg Ci.1 i) = 1 by omega] at h2
        exact h2
      clear hQ hc hms hkm hzr hcx hcx0 hkx hk1 hR
      by_cases u : xl Ci.1 i = 0
      · have r0 : r = 0 := by omega
        rw [r0] at f4
        simp (disch := omega) only [wp_gd, wp_bnd, wp_let, wp_jn0, wp_jn1, wp_jn2, wp_if, wp_ret, wp_rdI, wp_rdL, v_rdR, v_ldI, v_ldL, v_ldR, v_stI, v_stB, v_stZ, v_stL, wp_wrI, wp_wrL, wp_wrR, wp_wrZ, wp_retZ, v_md, v_dv, v_tb, upI_2, true_and, and_true, Nat.add_sub_cancel, Nat.zero_lt_succ, Nat.succ_pos, okN, clN, L0, L1, L2, L3, L4, L5, L6, L7, L8, L9, L10, L11, L12, L13, L14, L15, L16, L17, L18, L19, L20, L21, L22, L23, L24, L25, L26, L27, L28, L29, L30, L31, L32, L33, L34, L35, L36, L37, L38, L39, L40, L41, L42, L43, L44, L45, L46, L47, L48, L49, L50, L51, L52, L53, L54, L55, L56, L57, L58, L59, L60, L61, L62, L63, L64, L65, L66, L67, L68, L69, L70, L71, L72, L73, L74, L75, L76, L77, L78, L79, L80, L81, L82, L83, L84, L85, L86, L87, L88, L89, L90, L91, L92, L93, L94, L95, L96, L97, L98, L99, L100, L101, L102, L103, L104, L105, L106, L107, L108, L109, L110, L111, L112, L113, L114, L115, L116, L117, L118, L119, L120, L121, L122, L123, L124, L125, L126, L127, L128, L129, L130, L131, L200, L240, L255, L260, L1000, L4096, L10140, L1000000, ng1, mI_lt, mI_le, lt_mI, le_mI, eq_mI, mI_eq, mI_mI, mI_mE, nI_add, pk_mul, pk_sub, pk_rem, sa_minN, sa_maxN, ne_eq, nI_leI, nI_ltI, nI_eq, dT_le, dF_le, dT_lt, dF_lt, dT_eq, dF_eq, true_imp_iff, false_imp_iff, not_true_eq_false, not_false_eq_true, false_or, or_false, true_or, or_true, false_and, and_false, Decidable.not_not, reduceIte, if_true, if_false, upI_self, upI_ne, upL_1, upL_21, upL_self, upL_ne, upR_1, upR_22, upR_self, upR_ne, va_up_self, va_up_ne, Nat.reduceAdd, Nat.reduceMul, Nat.reduceSub, Nat.reduceLT, Nat.reduceLeDiff, Nat.reduceEqDiff, Nat.reduceSubDiff, Nat.zero_add, cm3, cm5, cm7, cm8, cm25, Nat.not_lt_zero, Nat.zero_le, not_false_iff, and_self, imp_self, implies_true, forall_const, Nat.lt_irrefl, Nat.le_refl, and_imp, hal, hw, toW_own, toW_own0, toW_gr, toW_lo, toW_bk, toW_75, toW_76, toW_77, toW_78, o22, wp_of_eq f1, o1, o0, wp_of_eq f4]
        exact go
      · simp (disch := omega) only [wp_gd, wp_bnd, wp_let, wp_jn0, wp_jn1, wp_jn2, wp_if, wp_ret, wp_rdI, wp_rdL, v_rdR, v_ldI, v_ldL, v_ldR, v_stI, v_stB, v_stZ, v_stL, wp_wrI, wp_wrL, wp_wrR, wp_wrZ, wp_retZ, v_md, v_dv, v_tb, upI_2, true_and, and_true, Nat.add_sub_cancel, Nat.zero_lt_succ, Nat.succ_pos, okN, clN, L0, L1, L2, L3, L4, L5, L6, L7, L8, L9, L10, L11, L12, L13, L14, L15, L16, L17, L18, L19, L20, L21, L22, L23, L24, L25, L26, L27, L28, L29, L30, L31, L32, L33, L34, L35, L36, L37, L38, L39, L40, L41, L42, L43, L44, L45, L46, L47, L48, L49, L50, L51, L52, L53, L54, L55, L56, L57, L58, L59, L60, L61, L62, L63, L64, L65, L66, L67, L68, L69, L70, L71, L72, L73, L74, L75, L76, L77, L78, L79, L80, L81, L82, L83, L84, L85, L86, L87, L88, L89, L90, L91, L92, L93, L94, L95, L96, L97, L98, L99, L100, L101, L102, L103, L104, L105, L106, L107, L108, L109, L110, L111, L112, L113, L114, L115, L116, L117, L118, L119, L120, L121, L122, L123, L124, L125, L126, L127, L128, L129, L130, L131, L200, L240, L255, L260, L1000, L4096, L10140, L1000000, ng1, mI_lt, mI_le, lt_mI, le_mI, eq_mI, mI_eq, mI_mI, mI_mE, nI_add, pk_mul, pk_sub, pk_rem, sa_minN, sa_maxN, ne_eq, nI_leI, nI_ltI, nI_eq, dT_le, dF_le, dT_lt, dF_lt, dT_eq, dF_eq, true_imp_iff, false_imp_iff, not_true_eq_false, not_false_eq_true, false_or, or_false, true_or, or_true, false_and, and_false, Decidable.not_not, reduceIte, if_true, if_false, upI_self, upI_ne, upL_1, upL_21, upL_self, upL_ne, upR_1, upR_22, upR_self, upR_ne, va_up_self, va_up_ne, Nat.reduceAdd, Nat.reduceMul, Nat.reduceSub, Nat.reduceLT, Nat.reduceLeDiff, Nat.reduceEqDiff, Nat.reduceSubDiff, Nat.zero_add, cm3, cm5, cm7, cm8, cm25, Nat.not_lt_zero, Nat.zero_le, not_false_iff, and_self, imp_self, implies_true, forall_const, Nat.lt_irrefl, Nat.le_refl, and_imp, hal, hw, toW_own, toW_own0, toW_gr, toW_lo, toW_bk, toW_75, toW_76, toW_77, toW_78, o22, wp_of_eq f1, o1]
        exact go
  · intro τ hI c
    have o22 := (hkx m (Nat.le_refl m)).2.1
    have hw := hI.2.1
    have hq := hQ τ hI
    clear hR
    simp (disch := omega) only [wp_gd, wp_bnd, wp_let, wp_jn0, wp_jn1, wp_jn2, wp_if, wp_ret, wp_rdI, wp_rdL, v_rdR, v_ldI, v_ldL, v_ldR, v_stI, v_stB, v_stZ, v_stL, wp_wrI, wp_wrL, wp_wrR, wp_wrZ, wp_retZ, v_md, v_dv, v_tb, upI_2, true_and, and_true, Nat.add_sub_cancel, Nat.zero_lt_succ, Nat.succ_pos, okN, clN, L0, L1, L2, L3, L4, L5, L6, L7, L8, L9, L10, L11, L12, L13, L14, L15, L16, L17, L18, L19, L20, L21, L22, L23, L24, L25, L26, L27, L28, L29, L30, L31, L32, L33, L34, L35, L36, L37, L38, L39, L40, L41, L42, L43, L44, L45, L46, L47, L48, L49, L50, L51, L52, L53, L54, L55, L56, L57, L58, L59, L60, L61, L62, L63, L64, L65, L66, L67, L68, L69, L70, L71, L72, L73, L74, L75, L76, L77, L78, L79, L80, L81, L82, L83, L84, L85, L86, L87, L88, L89, L90, L91, L92, L93, L94, L95, L96, L97, L98, L99, L100, L101, L102, L103, L104, L105, L106, L107, L108, L109, L110, L111, L112, L113, L114, L115, L116, L117, L118, L119, L120, L121, L122, L123, L124, L125, L126, L127, L128, L129, L130, L131, L200, L240, L255, L260, L1000, L4096, L10140, L1000000, ng1, mI_lt, mI_le, lt_mI, le_mI, eq_mI, mI_eq, mI_mI, mI_mE, nI_add, pk_mul, pk_sub, pk_rem, sa_minN, sa_maxN, ne_eq, nI_leI, nI_ltI, nI_eq, dT_le, dF_le, dT_lt, dF_lt, dT_eq, dF_eq, true_imp_iff, false_imp_iff, not_true_eq_false, not_false_eq_true, false_or, or_false, true_or, or_true, false_and, and_false, Decidable.not_not, reduceIte, if_true, if_false, upI_self, upI_ne, upL_1, upL_21, upL_self, upL_ne, upR_1, upR_22, upR_self, upR_ne, va_up_self, va_up_ne, Nat.reduceAdd, Nat.reduceMul, Nat.reduceSub, Nat.reduceLT, Nat.reduceLeDiff, Nat.reduceEqDiff, Nat.reduceSubDiff, Nat.zero_add, cm3, cm5, cm7, cm8, cm25, Nat.not_lt_zero, Nat.zero_le, not_false_iff, and_self, imp_self, implies_true, forall_const, Nat.lt_irrefl, Nat.le_refl, and_imp, hal, hw, toW_own, toW_own0, toW_gr, toW_lo, toW_bk, toW_75, toW_76, toW_77, toW_78, o22]
    exact hq
end DEW
