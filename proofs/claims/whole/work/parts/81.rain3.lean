section MELEM
variable {L P W F n m : Nat} {f : Nat → LWt} {z : Nat → Int32} {hold : Int32} {σ : sa_St} {R : Nat} {k wl : Nat → Int32} {i : Nat}
theorem m_lives (hal : sa_al .int R = 260) (hw : σ.1 R = toW k wl) (k22 : k 22 = nI m) (m8 : m ≤ 8) (hi : i < m) {g : Nat} (kg : k (23 + 7 * i + 2) = nI g) (g99 : g ≤ 99) : f_X12_lives R (nI i) σ = some (nI (if g = 0 then 0 else 1), σ) := by
  refine run_of ?_
  by_cases h : g = 0
  · simp (disch := omega) only [f_X12_lives, wp_gd, wp_bnd, wp_let, wp_jn0, wp_jn1, wp_jn2, wp_if, wp_ret, wp_rdI, wp_rdL, v_rdR, v_ldI, v_ldL, v_ldR, v_stI, v_stB, v_stZ, v_stL, wp_wrI, wp_wrL, wp_wrR, wp_wrZ, wp_retZ, v_md, v_dv, v_tb, upI_2, true_and, and_true, Nat.add_sub_cancel, Nat.zero_lt_succ, Nat.succ_pos, okN, clN, L0, L1, L2, L3, L4, L5, L6, L7, L8, L9, L10, L11, L12, L13, L14, L15, L16, L17, L18, L19, L20, L21, L22, L23, L24, L25, L26, L27, L28, L29, L30, L31, L32, L33, L34, L35, L36, L37, L38, L39, L40, L41, L42, L43, L44, L45, L46, L47, L48, L49, L50, L51, L52, L53, L54, L55, L56, L57, L58, L59, L60, L61, L62, L63, L64, L65, L66, L67, L68, L69, L70, L71, L72, L73, L74, L75, L76, L77, L78, L79, L80, L81, L82, L83, L84, L85, L86, L87, L88, L89, L90, L91, L92, L93, L94, L95, L96, L97, L98, L99, L100, L101, L102, L103, L104, L105, L106, L107, L108, L109, L110, L111, L112, L113, L114, L115, L116, L117, L118, L119, L120, L121, L122, L123, L124, L125, L126, L127, L128, L129, L130, L131, L200, L240, L255, L260, L1000, L4096, L10140, L1000000, ng1, mI_lt, mI_le, lt_mI, le_mI, eq_mI, mI_eq, mI_mI, mI_mE, nI_add, pk_mul, pk_sub, pk_rem, sa_minN, sa_maxN, ne_eq, nI_leI, nI_ltI, nI_eq, dT_le, dF_le, dT_lt, dF_lt, dT_eq, dF_eq, true_imp_iff, false_imp_iff, not_true_eq_false, not_false_eq_true, false_or, or_false, true_or, or_true, false_and, and_false, Decidable.not_not, reduceIte, if_true, if_false, upI_self, upI_ne, upL_1, upL_21, upL_self, upL_ne, upR_1, upR_22, upR_self, upR_ne, va_up_self, va_up_ne, Nat.reduceAdd, Nat.reduceMul, Nat.reduceSub, Nat.reduceLT, Nat.reduceLeDiff, Nat.reduceEqDiff, Nat.reduceSubDiff, Nat.zero_add, cm3, cm5, cm7, cm8, cm25, Nat.not_lt_zero, Nat.zero_le, not_false_iff, and_self, imp_self, implies_true, forall_const, Nat.lt_irrefl, Nat.le_refl, and_imp, hal, hw, toW_own, toW_own0, toW_gr, toW_lo, toW_bk, toW_75, toW_76, toW_77, toW_78, k22, kg]
  · simp (disch := omega) only [f_X12_lives, wp_gd, wp_bnd, wp_let, wp_jn0, wp_jn1, wp_jn2, wp_if, wp_ret, wp_rdI, wp_rdL, v_rdR, v_ldI, v_ldL, v_ldR, v_stI, v_stB, v_stZ, v_stL, wp_wrI, wp_wrL, wp_wrR, wp_wrZ, wp_retZ, v_md, v_dv, v_tb, upI_2, true_and, and_true, Nat.add_sub_cancel, Nat.zero_lt_succ, Nat.succ_pos, okN, clN, L0, L1, L2, L3, L4, L5, L6, L7, L8, L9, L10, L11, L12, L13, L14, L15, L16, L17, L18, L19, L20, L21, L22, L23, L24, L25, L26, L27, L28, L29, L30, L31, L32, L33, L34, L35, L36, L37, L38, L39, L40, L41, L42, L43, L44, L45, L46, L47, L48, L49, L50, L51, L52, L53, L54, L55, L56, L57, L58, L59, L60, L61, L62, L63, L64, L65, L66, L67, L68, L69, L70, L71, L72, L73, L74, L75, L76, L77, L78, L79, L80, L81, L82, L83, L84, L85, L86, L87, L88, L89, L90, L91, L92, L93, L94, L95, L96, L97, L98, L99, L100, L101, L102, L103, L104, L105, L106, L107, L108, L109, L110, L111, L112, L113, L114, L115, L116, L117, L118, L119, L120, L121, L122, L123, L124, L125, L126, L127, L128, L129, L130, L131, L200, L240, L255, L260, L1000, L4096, L10140, L1000000, ng1, mI_lt, mI_le, lt_mI, le_mI, eq_mI, mI_eq, mI_mI, mI_mE, nI_add, pk_mul, pk_sub, pk_rem, sa_minN, sa_maxN, ne_eq, nI_leI, nI_ltI, nI_eq, dT_le, dF_le, dT_lt, dF_lt, dT_eq, dF_eq, true_imp_iff, false_imp_iff, not_true_eq_false, not_false_eq_true, false_or, or_false, true_or, or_true, false_and, and_false, Decidable.not_not, reduceIte, if_true, if_false, upI_self, upI_ne, upL_1, upL_21, upL_self, upL_ne, upR_1, upR_22, upR_self, upR_ne, va_up_self, va_up_ne, Nat.reduceAdd, Nat.reduceMul, Nat.reduceSub, Nat.reduceLT, Nat.reduceLeDiff, Nat.reduceEqDiff, Nat.reduceSubDiff, Nat.zero_add, cm3, cm5, cm7, cm8, cm25, Nat.not_lt_zero, Nat.zero_le, not_false_iff, and_self, imp_self, implies_true, forall_const, Nat.lt_irrefl, Nat.le_refl, and_imp, hal, hw, toW_own, toW_own0, toW_gr, toW_lo, toW_bk, toW_75, toW_76, toW_77, toW_78, k22, kg]
theorem m_roof (hcx : Cx L P W F n f z hold σ) {p r : Nat} (hp : p < P) (r1 : r ≤ 1) (hr : z (5 * p + 1) = nI r) : f_X12_isRoofed 159 (nI p) σ = some (nI r, σ) := by
  obtain ⟨hk, hL, hLd, hM, hW, hz0, hh0⟩ := hcx
  obtain ⟨⟨a1, a2, a3, a4, a5, a6⟩, e1, e2, e3, e4, e5, e6⟩ := LD.of hk hL
  obtain ⟨⟨b1, b2, b3⟩, ⟨c0, c1, c3, r0, r1, r3⟩, lp, lw, lf⟩ := hLd
  have hpl : σ.1 164 (4 * p + 1) = nI r := by
    have := (lp p hp).2.2.2.2 1 (by omega)
    rw [hz0, hr] at this
    exact this
  refine run_of ?_
  rcases (show r = 0 ∨ r = 1 by omega) with rfl | rfl
  · simp (disch := omega) only [f_X12_isRoofed, wp_gd, wp_bnd, wp_let, wp_jn0, wp_jn1, wp_jn2, wp_if, wp_ret, wp_rdI, wp_rdL, v_rdR, v_ldI, v_ldL, v_ldR, v_stI, v_stB, v_stZ, v_stL, wp_wrI, wp_wrL, wp_wrR, wp_wrZ, wp_retZ, v_md, v_dv, v_tb, upI_2, true_and, and_true, Nat.add_sub_cancel, Nat.zero_lt_succ, Nat.succ_pos, okN, clN, L0, L1, L2, L3, L4, L5, L6, L7, L8, L9, L10, L11, L12, L13, L14, L15, L16, L17, L18, L19, L20, L21, L22, L23, L24, L25, L26, L27, L28, L29, L30, L31, L32, L33, L34, L35, L36, L37, L38, L39, L40, L41, L42, L43, L44, L45, L46, L47, L48, L49, L50, L51, L52, L53, L54, L55, L56, L57, L58, L59, L60, L61, L62, L63, L64, L65, L66, L67, L68, L69, L70, L71, L72, L73, L74, L75, L76, L77, L78, L79, L80, L81, L82, L83, L84, L85, L86, L87, L88, L89, L90, L91, L92, L93, L94, L95, L96, L97, L98, L99, L100, L101, L102, L103, L104, L105, L106, L107, L108, L109, L110, L111, L112, L113, L114, L115, L116, L117, L118, L119, L120, L121, L122, L123, L124, L125, L126, L127, L128, L129, L130, L131, L200, L240, L255, L260, L1000, L4096, L10140, L1000000, ng1, mI_lt, mI_le, lt_mI, le_mI, eq_mI, mI_eq, mI_mI, mI_mE, nI_add, pk_mul, pk_sub, pk_rem, sa_minN, sa_maxN, ne_eq, nI_leI, nI_ltI, nI_eq, dT_le, dF_le, dT_lt, dF_lt, dT_eq, dF_eq, true_imp_iff, false_imp_iff, not_true_eq_false, not_false_eq_true, false_or, or_false, true_or, or_true, false_and, and_false, Decidable.not_not, reduceIte, if_true, if_false, upI_self, upI_ne, upL_1, upL_21, upL_self, upL_ne, upR_1, upR_22, upR_self, upR_ne, va_up_self, va_up_ne, Nat.reduceAdd, Nat.reduceMul, Nat.reduceSub, Nat.reduceLT, Nat.reduceLeDiff, Nat.reduceEqDiff, Nat.reduceSubDiff, Nat.zero_add, cm3, cm5, cm7, cm8, cm25, Nat.not_lt_zero, Nat.zero_le, not_false_iff, and_self, imp_self, implies_true, forall_const, Nat.lt_irrefl, Nat.le_refl, and_imp, sh_0, sh_159, sh_1, sh_15, sh_44, sh_46, sh_48, sh_134, sh_136, sh_151, sh_156, sk_159_18 hk, al_164, hpl]
  · simp (disch := omega) only [f_X12_isRoofed, wp_gd, wp_bnd, wp_let, wp_jn0, wp_jn1, wp_jn2, wp_if, wp_ret, wp_rdI, wp_rdL, v_rdR, v_ldI, v_ldL, v_ldR, v_stI, v_stB, v_stZ, v_stL, wp_wrI, wp_wrL, wp_wrR, wp_wrZ, wp_retZ, v_md, v_dv, v_tb, upI_2, true_and, and_true, Nat.add_sub_cancel, Nat.zero_lt_succ, Nat.succ_pos, okN, clN, L0, L1, L2, L3, L4, L5, L6, L7, L8, L9, L10, L11, L12, L13, L14, L15, L16, L17, L18, L19, L20, L21, L22, L23, L24, L25, L26, L27, L28, L29, L30, L31, L32, L33, L34, L35, L36, L37, L38, L39, L40, L41, L42, L43, L44, L45, L46, L47, L48, L49, L50, L51, L52, L53, L54, L55, L56, L57, L58, L59, L60, L61, L62, L63, L64, L65, L66, L67, L68, L69, L70, L71, L72, L73, L74, L75, L76, L77, L78, L79, L80, L81, L82, L83, L84, L85, L86, L87, L88, L89, L90, L91, L92, L93, L94, L95, L96, L97, L98, L99, L100, L101, L102, L103, L104, L105, L106, L107, L108, L109, L110, L111, L112, L113, L114, L115, L116, L117, L118, L119, L120, L121, L122, L123, L124, L125, L126, L127, L128, L129, L130, L131, L200, L240, L255, L260, L1000, L4096, L10140, L1000000, ng1, mI_lt, mI_le, lt_mI, le_mI, eq_mI, mI_eq, mI_mI, mI_mE, nI_add, pk_mul, pk_sub, pk_rem, sa_minN, sa_maxN, ne_eq, nI_leI, nI_ltI, nI_eq, dT_le, dF_le, dT_lt, dF_lt, dT_eq, dF_eq, true_imp_iff, false_imp_iff, not_true_eq_false, not_false_eq_true, false_or, or_false, true_or, or_true, false_and, and_false, Decidable.not_not, reduceIte, if_true, if_false, upI_self, upI_ne, upL_1, upL_21, upL_self, upL_ne, upR_1, upR_22, upR_self, upR_ne, va_up_self, va_up_ne, Nat.reduceAdd, Nat.reduceMul, Nat.reduceSub, Nat.reduceLT, Nat.reduceLeDiff, Nat.reduceEqDiff, Nat.reduceSubDiff, Nat.zero_add, cm3, cm5, cm7, cm8, cm25, Nat.not_lt_zero, Nat.zero_le, not_false_iff, and_self, imp_self, implies_true, forall_const, Nat.lt_irrefl, Nat.le_refl, and_imp, sh_0, sh_159, sh_1, sh_15, sh_44, sh_46, sh_48, sh_134, sh_136, sh_151, sh_156, sk_159_18 hk, al_164, hpl]
theorem m_has {ρ p : Nat} (hρ : ρ < 2 ^ 31) (hp : p < 8) : f_X12_has (nI ρ) (nI p) σ = some (nI (ρ / 2 ^ p % 2), σ) := by
  have hb := bitI hρ hp
  have hbl : ρ / 2 ^ p % 2 < 2 := Nat.mod_lt _ (by omega)
  generalize ρ / 2 ^ p % 2 = bb at hb hbl
  refine run_of ?_
  rcases (show bb = 0 ∨ bb = 1 by omega) with rfl | rfl
  · simp (disch := omega) only [f_X12_has, wp_gd, wp_bnd, wp_let, wp_jn0, wp_jn1, wp_jn2, wp_if, wp_ret, wp_rdI, wp_rdL, v_rdR, v_ldI, v_ldL, v_ldR, v_stI, v_stB, v_stZ, v_stL, wp_wrI, wp_wrL, wp_wrR, wp_wrZ, wp_retZ, v_md, v_dv, v_tb, upI_2, true_and, and_true, Nat.add_sub_cancel, Nat.zero_lt_succ, Nat.succ_pos, okN, clN, L0, L1, L2, L3, L4, L5, L6, L7, L8, L9, L10, L11, L12, L13, L14, L15, L16, L17, L18, L19, L20, L21, L22, L23, L24, L25, L26, L27, L28, L29, L30, L31, L32, L33, L34, L35, L36, L37, L38, L39, L40, L41, L42, L43, L44, L45, L46, L47, L48, L49, L50, L51, L52, L53, L54, L55, L56, L57, L58, L59, L60, L61, L62, L63, L64, L65, L66, L67, L68, L69, L70, L71, L72, L73, L74, L75, L76, L77, L78, L79, L80, L81, L82, L83, L84, L85, L86, L87, L88, L89, L90, L91, L92, L93, L94, L95, L96, L97, L98, L99, L100, L101, L102, L103, L104, L105, L106, L107, L108, L109, L110, L111, L112, L113, L114, L115, L116, L117, L118, L119, L120, L121, L122, L123, L124, L125, L126, L127, L128, L129, L130, L131, L200, L240, L255, L260, L1000, L4096, L10140, L1000000, ng1, mI_lt, mI_le, lt_mI, le_mI, eq_mI, mI_eq, mI_mI, mI_mE, nI_add, pk_mul, pk_sub, pk_rem, sa_minN, sa_maxN, ne_eq, nI_leI, nI_ltI, nI_eq, dT_le, dF_le, dT_lt, dF_lt, dT_eq, dF_eq, true_imp_iff, false_imp_iff, not_true_eq_false, not_false_eq_true, false_or, or_false, true_or, or_true, false_and, and_false, Decidable.not_not, reduceIte, if_true, if_false, upI_self, upI_ne, upL_1, upL_21, upL_self, upL_ne, upR_1, upR_22, upR_self, upR_ne, va_up_self, va_up_ne, Nat.reduceAdd, Nat.reduceMul, Nat.reduceSub, Nat.reduceLT, Nat.reduceLeDiff, Nat.reduceEqDiff, Nat.reduceSubDiff, Nat.zero_add, cm3, cm5, cm7, cm8, cm25, Nat.not_lt_zero, Nat.zero_le, not_false_iff, and_self, imp_self, implies_true, forall_const, Nat.lt_irrefl, Nat.le_refl, and_imp, hb]
  · simp (disch := omega) only [f_X12_has, wp_gd, wp_bnd, wp_let, wp_jn0, wp_jn1, wp_jn2, wp_if, wp_ret, wp_rdI, wp_rdL, v_rdR, v_ldI, v_ldL, v_ldR, v_stI, v_stB, v_stZ, v_stL, wp_wrI, wp_wrL, wp_wrR, wp_wrZ, wp_retZ, v_md, v_dv, v_tb, upI_2, true_and, and_true, Nat.add_sub_cancel, Nat.zero_lt_succ, Nat.succ_pos, okN, clN, L0, L1, L2, L3, L4, L5, L6, L7, L8, L9, L10, L11, L12, L13, L14, L15, L16, L17, L18, L19, L20, L21, L22, L23, L24, L25, L26, L27, L28, L29, L30, L31, L32, L33, L34, L35, L36, L37, L38, L39, L40, L41, L42, L43, L44, L45, L46, L47, L48, L49, L50, L51, L52, L53, L54, L55, L56, L57, L58, L59, L60, L61, L62, L63, L64, L65, L66, L67, L68, L69, L70, L71, L72, L73, L74, L75, L76, L77, L78, L79, L80, L81, L82, L83, L84, L85, L86, L87, L88, L89, L90, L91, L92, L93, L94, L95, L96, L97, L98, L99, L100, L101, L102, L103, L104, L105, L106, L107, L108, L109, L110, L111, L112, L113, L114, L115, L116, L117, L118, L119, L120, L121, L122, L123, L124, L125, L126, L127, L128, L129, L130, L131, L200, L240, L255, L260, L1000, L4096, L10140, L1000000, ng1, mI_lt, mI_le, lt_mI, le_mI, eq_mI, mI_eq, mI_mI, mI_mE, nI_add, pk_mul, pk_sub, pk_rem, sa_minN, sa_maxN, ne_eq, nI_leI, nI_ltI, nI_eq, dT_le, dF_le, dT_lt, dF_lt, dT_eq, dF_eq, true_imp_iff, false_imp_iff, not_true_eq_false, not_false_eq_true, false_or, or_false, true_or, or_true, false_and, and_false, Decidable.not_not, reduceIte, if_true, if_false, upI_self, upI_ne, upL_1, upL_21, upL_self, upL_ne, upR_1, upR_22, upR_self, upR_ne, va_up_self, va_up_ne, Nat.reduceAdd, Nat.reduceMul, Nat.reduceSub, Nat.reduceLT, Nat.reduceLeDiff, Nat.reduceEqDiff, Nat.reduceSubDiff, Nat.zero_add, cm3, cm5, cm7, cm8, cm25, Nat.not_lt_zero, Nat.zero_le, not_false_iff, and_self, imp_self, implies_true, forall_const, Nat.lt_irrefl, Nat.le_refl, and_imp, hb]
theorem m_wear (hcx : Cx L P W F n f z hold σ) (hal : sa_al .int R = 260) (hw : σ.1 R = toW k wl) (hi : i < 8) {p g w d h t : Nat} (hp : p < P) (kp : k (23 + 7 * i + 0) = nI p) (kg : k (23 + 7 * i + 2) = nI g) (kw : k (23 + 7 * i + 3) = nI w) (kd : k (23 + 7 * i + 4) = nI d) (kt : k 21 = nI t) (hh : z (5 * p) = nI h) (g99 : g ≤ 99) (w9 : w ≤ 9) (d3 : d ≤ 3) (h9 : h ≤ 9) (ht : t ≤ 100000) {Q : Int32 → sa_St → Prop} (hQ : ∀ τ, Wf n f σ τ → Q (nI (WN f hold g w h d t)) τ) : wp (f_X12_wearOf 159 R (nI i)) σ Q := by
  obtain ⟨hk, hL, hLd, hM, hW, hz0, hh0⟩ := hcx
  obtain ⟨⟨a1, a2, a3, a4, a5, a6⟩, e1, e2, e3, e4, e5, e6⟩ := LD.of hk hL
  obtain ⟨⟨b1, b2, b3⟩, ⟨c0, c1, c3, r0, r1, r3⟩, lp, lw, lf⟩ := hLd
  have hpl : σ.1 164 (4 * p) = nI h := by
    have := (lp p hp).2.2.2.2 0 (by omega)
    rw [hz0] at this
    exact this.trans hh
  simp (disch := omega) only [f_X12_wearOf, wp_gd, wp_bnd, wp_let, wp_jn0, wp_jn1, wp_jn2, wp_if, wp_ret, wp_rdI, wp_rdL, v_rdR, v_ldI, v_ldL, v_ldR, v_stI, v_stB, v_stZ, v_stL, wp_wrI, wp_wrL, wp_wrR, wp_wrZ, wp_retZ, v_md, v_dv, v_tb, upI_2, true_and, and_true, Nat.add_sub_cancel, Nat.zero_lt_succ, Nat.succ_pos, okN, clN, L0, L1, L2, L3, L4, L5, L6, L7, L8, L9, L10, L11, L12, L13, L14, L15, L16, L17, L18, L19, L20, L21, L22, L23, L24, L25, L26, L27, L28, L29, L30, L31, L32, L33, L34, L35, L36, L37, L38, L39, L40, L41, L42, L43, L44, L45, L46, L47, L48, L49, L50, L51, L52, L53, L54, L55, L56, L57, L58, L59, L60, L61, L62, L63, L64, L65, L66, L67, L68, L69, L70, L71, L72, L73, L74, L75, L76, L77, L78, L79, L80, L81, L82, L83, L84, L85, L86, L87, L88, L89, L90, L91, L92, L93, L94, L95, L96, L97, L98, L99, L100, L101, L102, L103, L104, L105, L106, L107, L108, L109, L110, L111, L112, L113, L114, L115, L116, L117, L118, L119, L120, L121, L122, L123, L124, L125, L126, L127, L128, L129, L130, L131, L200, L240, L255, L260, L1000, L4096, L10140, L1000000, ng1, mI_lt, mI_le, lt_mI, le_mI, eq_mI, mI_eq, mI_mI, mI_mE, nI_add, pk_mul, pk_sub, pk_rem, sa_minN, sa_maxN, ne_eq, nI_leI, nI_ltI, nI_eq, dT_le, dF_le, dT_lt, dF_lt, dT_eq, dF_eq, true_imp_iff, false_imp_iff, not_true_eq_false, not_false_eq_true, false_or, or_false, true_or, or_true, false_and, and_false, Decidable.not_not, reduceIte, if_true, if_false, upI_self, upI_ne, upL_1, upL_21, upL_self, upL_ne, upR_1, upR_22, upR_self, upR_ne, va_up_self, va_up_ne, Nat.reduceAdd, Nat.reduceMul, Nat.reduceSub, Nat.reduceLT, Nat.reduceLeDiff, Nat.reduceEqDiff, Nat.reduceSubDiff, Nat.zero_add, cm3, cm5, cm7, cm8, cm25, Nat.not_lt_zero, Nat.zero_le, not_false_iff, and_self, imp_self, implies_true, forall_const, Nat.lt_irrefl, Nat.le_refl, and_imp, sh_0, sh_159, sh_1, sh_15, sh_44, sh_46, sh_48, sh_134, sh_136, sh_151, sh_156, hal, hw, toW_own, toW_own0, toW_gr, toW_lo, toW_bk, toW_75, toW_76, toW_77, toW_78, kp, kg, kw, kd, kt, sk_159_18 hk, al_164, hpl]
  refine w_wearBy hk hW g99 w9 h9 d3 ht (fun τ hF => ?_)
  rw [hh0]
  exact hQ τ hF
end MELEM
theorem MS.wf {n R : Nat} {f : Nat → LWt} {σ0 σ τ : sa_St} {C : C3} {wl : Nat → Int32} (h : MS n f R σ0 C wl σ) (hR : R = 173 ∨ R = 174) (hF : Wf n f σ τ) : MS n f R σ0 C wl τ := by
  obtain ⟨hM, hw, h40, h41⟩ := h
  refine ⟨⟨⟨⟨fun a b g => (hF.1.1.1 a b g).trans (hM.1.1.1 a b g), fun j hj => (hF.1.1.2 j hj).trans (hM.1.1.2 j hj)⟩, fun j hj => ?_⟩, fun k g1 g2 g3 => ?_, hF.2.2⟩, ?_, ?_, ?_⟩
  · simp only [List.mem_cons, List.not_mem_nil, or_false, not_or] at hj
    have a1 := hF.1.2 j (by simp only [List.mem_cons, List.not_mem_nil, or_false]; omega)
    have a2 := hM.1.2 j (by simp only [List.mem_cons, List.not_mem_nil, or_false]; omega)
    exact ⟨a1.1.trans a2.1, a1.2.trans a2.2⟩
  · rw [hF.2.1 k g1]
    exact hM.2.1 k g1 g2 g3
  · rw [(hF.1.2 R (by simp only [List.mem_cons, List.not_mem_nil, or_false]; omega)).1]
    exact hw
  · rw [hF.2.1 40 (by unfold isPF; omega)]
    exact h40
  · rw [hF.2.1 41 (by unfold isPF; omega)]
    exact h41
theorem zL_none {D : Nat → Bool} {v : Nat → Int32} {p : Nat → Nat} {C : C3} : ∀ {m : Nat}, (∀ i, i < m → D i = false) → zL D v p C m = C := by
  intro m
  induction m with
  | zero => intro _; rfl
  | succ m ih =>
    intro h
    rw [zL_succ, h m (by omega), ih (fun i hi => h i (by omega))]
    rfl
def dP (z k : Nat → Int32) (ρ p c i : Nat) : Bool := rD z k ρ i && (decide (xp k i < p) || (decide (xp k i = p) && decide (i < c)))
section MRAIN
variable {L P W F n H B m R ρ : Nat} {f : Nat → LWt} {z : Nat → Int32} {hold : Int32} {σ0 σ : sa_St} {C : C3} {wl : Nat → Int32} {Q : Unit → sa_St → Prop}
abbrev zR (f : Nat → LWt) (hold : Int32) (z : Nat → Int32) (ρ : Nat) (C : C3) (m p c : Nat) : C3 := zL (dP z C.1 ρ p c) (fun i => nI (rA f hold z C.1 i)) (xp C.1) C m
theorem g_rain1 (hcx0 : Cx L P W F n f z hold σ0) (hR : R = 173 ∨ R = 174) (hkm : KM P W H B m C.1) (hH : H ≤ 100000) (hB : B + 1000 < 2 ^ 30) {p0 : Nat} (hp0 : p0 < P) (hbit : ρ / 2 ^ p0 % 2 = 1) {ex : sa_M Unit} (hms : MS n f R σ0 (zR f hold z ρ C m p0 0) wl σ) (hQ : ∀ τ, MS n f R σ0 (zR f hold z ρ C m p0 m) wl τ → wp ex τ Q) :
    wp (sa_wh1 (fun j34 (x37 : Int32) =>
sa_bnd (sa_ldI .int R 75) fun v38 =>
if v38 ≤ x37 then
ex
else
sa_bnd (f_X12_lives R x37) fun v39 =>
sa_jn0 (sa_let ((x37 + 1) : Int32) fun x40 =>
j34 x40) fun j98 =>
if v39 = 0 then
j98
else
sa_bnd (sa_ldI .int R (7 * x37)) fun v41 =>
if ¬ v41 = nI p0 then
j98
else
sa_bnd (sa_ldI .int R ((7 * x37) + 1)) fun v42 =>
sa_jn0 (sa_bnd (f_X12_wearOf 159 R x37) fun v43 =>
sa_bnd (f_X12_loses 159 R x37 v43 0) fun _ =>
j98) fun j83 =>
if 0 < v42 then
j83
else
sa_bnd (f_X12_isRoofed 159 (nI p0)) fun v44 =>
if ¬ v44 = 0 then
j98
else
j83) sa_F 0) σ Q := by
  have hzr := hcx0.zr
  have m8 := hkm.1
  have P8 := hzr.1.1
  have hpi : ∀ i, i < m → xp C.1 i < 8 := fun i hi => Nat.lt_of_lt_of_le ((hkm.2.2.2.1 i hi).x P8).1.1 P8
  have hai : ∀ i, i < m → rA f hold z C.1 i ≤ xg C.1 i := fun i _ => Nat.min_le_right _ _
  have hkz : ∀ c, KM P W H (B + 99 * m) m (zR f hold z ρ C m p0 c).1 := fun c => hkm.zL P8 hB hai m (Nat.le_refl m)
  have hal : sa_al .int R = 260 := by rcases hR with rfl | rfl <;> rfl
  refine wp_for1 m 0 (fun c τ => MS n f R σ0 (zR f hold z ρ C m p0 c) wl τ) ?_ ?_ hms (by omega) (by unfold sa_F; omega)
  · intro c τ hc hI kc hkc
    have hcx := (hI.1.fm hR).cx hcx0
    obtain ⟨⟨xp8, kp⟩, ⟨xl9, xv12, -, kl, kv⟩, ⟨xg99, kg⟩, ⟨xw9, kw⟩, ⟨xd3, kd⟩⟩ := (hkm.2.2.2.1 c hc).x P8
    have ow : ∀ x, x < 7 → (dP z C.1 ρ p0 c c = false ∨ (x ≠ 2 ∧ x ≠ 5)) → (zR f hold z ρ C m p0 c).1 (23 + 7 * c + x) = C.1 (23 + 7 * c + x) := fun x hx h => zL_own hx hpi (h.elim Or.inl (fun q => Or.inr (Or.inr q)))
    have o0 := (ow 0 (by omega) (Or.inr (by omega))).trans kp
    have o1 := (ow 1 (by omega) (Or.inr (by omega))).trans kl
    have o3 := (ow 3 (by omega) (Or.inr (by omega))).trans kw
    have o4 := (ow 4 (by omega) (Or.inr (by omega))).trans kd
    have o22 := (hkz c).2.1
    obtain ⟨t1, t2⟩ := hkm.h21 hH
    have o21 : (zR f hold z ρ C m p0 c).1 21 = nI (C.1 21).toNatClampNeg := (zL_mid hpi (Or.inl (by omega))).trans t2
    have c8 : c < 8 := by omega
    have hw := hI.2.1
    obtain ⟨r, r1, hrf⟩ := (hzr.2.1 p0 hp0).2.1
    have f4 := m_roof hcx hp0 r1 hrf
    have keep : dP z C.1 ρ p0 (c + 1) c = dP z C.1 ρ p0 c c → wp (kc (nI (c + 1))) τ Q := by
      intro h
      refine hkc τ ?_
      have e : zR f hold z ρ C m p0 (c + 1) = zR f hold z ρ C m p0 c := by
        refine zL_congr (fun i hi => ?_)
        by_cases hic : i = c
        · subst hic; exact h
        · unfold dP
          have : decide (i < c + 1) = decide (i < c) := by
            apply decide_eq_decide.mpr
            omega
          rw [this]
      rw [e]
      exact hI
    by_cases hpc : xp C.1 c = p0
    case neg =>
      have hs := keep (by unfold dP; simp [hpc])
      obtain ⟨g2, g299, hg2⟩ := ((hkz c).2.2.2.1 c hc).2.2.1
      have f1 := m_lives hal hw o22 m8 hc hg2 g299
      generalize xp C.1 c = q at *
      clear hkm hzr hcx hcx0 hkz hpi hai hms hQ hkc keep ow hI hR o1 o3 o4 o21 t1 t2 kp kl kv kg kw kd
      by_cases g0 : g2 = 0
      · simp (disch := omega) only [wp_gd, wp_bnd, wp_let, wp_jn0, wp_jn1, wp_jn2, wp_if, wp_ret, wp_rdI, wp_rdL, v_rdR, v_ldI, v_ldL, v_ldR, v_stI, v_stB, v_stZ, v_stL, wp_wrI, wp_wrL, wp_wrR, wp_wrZ, wp_retZ, v_md, v_dv, v_tb, upI_2, true_and, and_true, Nat.add_sub_cancel, Nat.zero_lt_succ, Nat.succ_pos, okN, clN, L0, L1, L2, L3, L4, L5, L6, L7, L8, L9, L10, L11, L12, L13, L14, L15, L16, L17, L18, L19, L20, L21, L22, L23, L24, L25, L26, L27, L28, L29, L30, L31, L32, L33, L34, L35, L36, L37, L38, L39, L40, L41, L42, L43, L44, L45, L46, L47, L48, L49, L50, L51, L52, L53, L54, L55, L56, L57, L58, L59, L60, L61, L62, L63, L64, L65, L66, L67, L68, L69, L70, L71, L72, L73, L74, L75, L76, L77, L78, L79, L80, L81, L82, L83, L84, L85, L86, L87, L88, L89, L90, L91, L92, L93, L94, L95, L96, L97, L98, L99, L100, L101, L102, L103, L104, L105, L106, L107, L108, L109, L110, L111, L112, L113, L114, L115, L116, L117, L118, L119, L120, L121, L122, L123, L124, L125, L126, L127, L128, L129, L130, L131, L200, L240, L255, L260, L1000, L4096, L10140, L1000000, ng1, mI_lt, mI_le, lt_mI, le_mI, eq_mI, mI_eq, mI_mI, mI_mE, nI_add, pk_mul, pk_sub, pk_rem, sa_minN, sa_maxN, ne_eq, nI_leI, nI_ltI, nI_eq, dT_le, dF_le, dT_lt, dF_lt, dT_eq, dF_eq, true_imp_iff, false_imp_iff, not_true_eq_false, not_false_eq_true, false_or, or_false, true_or, or_true, false_and, and_false, Decidable.not_not, reduceIte, if_true, if_false, upI_self, upI_ne, upL_1, upL_21, upL_self, upL_ne, upR_1, upR_22, upR_self, upR_ne, va_up_self, va_up_ne, Nat.reduceAdd, Nat.reduceMul, Nat.reduceSub, Nat.reduceLT, Nat.reduceLeDiff, Nat.reduceEqDiff, Nat.reduceSubDiff, Nat.zero_add, cm3, cm5, cm7, cm8, cm25, Nat.not_lt_zero, Nat.zero_le, not_false_iff, and_self, imp_self, implies_true, forall_const, Nat.lt_irrefl, Nat.le_refl, and_imp, hal, hw, toW_own, toW_own0, toW_gr, toW_lo, toW_bk, toW_75, toW_76, toW_77, toW_78, o22, wp_of_eq f1]
        exact hs
      · simp (disch := omega) only [wp_gd, wp_bnd, wp_let, wp_jn0, wp_jn1, wp_jn2, wp_if, wp_ret, wp_rdI, wp_rdL, v_rdR, v_ldI, v_ldL, v_ldR, v_stI, v_stB, v_stZ, v_stL, wp_wrI, wp_wrL, wp_wrR, wp_wrZ, wp_retZ, v_md, v_dv, v_tb, upI_2, true_and, and_true, Nat.add_sub_cancel, Nat.zero_lt_succ, Nat.succ_pos, okN, clN, L0, L1, L2, L3, L4, L5, L6, L7, L8, L9, L10, L11, L12, L13, L14, L15, L16, L17, L18, L19, L20, L21, L22, L23, L24, L25, L26, L27, L28, L29, L30, L31, L32, L33, L34, L35, L36, L37, L38, L39, L40, L41, L42, L43, L44, L45, L46, L47, L48, L49, L50, L51, L52, L53, L54, L55, L56, L57, L58, L59, L60, L61, L62, L63, L64, L65, L66, L67, L68, L69, L70, L71, L72, L73, L74, L75, L76, L77, L78, L79, L80, L81, L82, L83, L84, L85, L86, L87, L88, L89, L90, L91, L92, L93, L94, L95, L96, L97, L98, L99, L100, L101, L102, L103, L104, L105, L106, L107, L108, L109, L110, L111, L112, L113, L114, L115, L116, L117, L118, L119, L120, L121, L122, L123, L124, L125, L126, L127, L128, L129, L130, L131, L200, L240, L255, L260, L1000, L4096, L10140, L1000000, ng1, mI_lt, mI_le, lt_mI, le_mI, eq_mI, mI_eq, mI_mI, mI_mE, nI_add, pk_mul, pk_sub, pk_rem, sa_minN, sa_maxN, ne_eq, nI_leI, nI_ltI, nI_eq, dT_le, dF_le, dT_lt, dF_lt, dT_eq, dF_eq, true_imp_iff, false_imp_iff, not_true_eq_false, not_false_eq_true, false_or, or_false, true_or, or_true, false_and, and_false, Decidable.not_not, reduceIte, if_true, if_false, upI_self, upI_ne, upL_1, upL_21, upL_self, upL_ne, upR_1, upR_22, upR_self, upR_ne, va_up_self, va_up_ne, Nat.reduceAdd, Nat.reduceMul, Nat.reduceSub, Nat.reduceLT, Nat.reduceLeDiff, Nat.reduceEqDiff, Nat.reduceSubDiff, Nat.zero_add, cm3, cm5, cm7, cm8, cm25, Nat.not_lt_zero, Nat.zero_le, not_false_iff, and_self, imp_self, implies_true, forall_const, Nat.lt_irrefl, Nat.le_refl, and_imp, hal, hw, toW_own, toW_own0, toW_gr, toW_lo, toW_bk, toW_75, toW_76, toW_77, toW_78, o22, wp_of_eq f1, o0]
        exact hs
    have hd0 : dP z C.1 ρ p0 c c = false := by unfold dP; simp [hpc]
    have o2 := (ow 2 (by omega) (Or.inl hd0)).trans kg
    have f1 := m_lives hal hw o22 m8 hc o2 xg99
    have hd1 : dP z C.1 ρ p0 (c + 1) c = rD z C.1 ρ c := by unfold dP; simp [hpc]
    have hrD : rD z C.1 ρ c = (decide (xg C.1 c ≠ 0) && (decide (ρ / 2 ^ xp C.1 c % 2 = 1) && !(decide (xl C.1 c = 0) && decide (z (5 * xp C.1 c + 1) = nI 1)))) := rfl
    rw [hpc, hbit, hrf] at hrD
    have hs : rD z C.1 ρ c = false → wp (kc (nI (c + 1))) τ Q := fun h => keep (by rw [hd1, hd0, h])
    have go : rD z C.1 ρ c = true → wp (f_X12_wearOf 159 R (nI c)) τ (fun v43 τ1 => wp (f_X12_loses 159 R (nI c) v43 (nI 0)) τ1 (fun _ τ2 => wp (kc (nI (c + 1))) τ2 Q)) := by
      intro hD
      obtain ⟨hh9, hhz⟩ := hN_eq hzr xp8
      refine m_wear hcx hal hw c8 xp8 o0 o2 o3 o4 o21 hhz xg99 xw9 xd3 hh9 (by omega) (fun τ1 hF1 => ?_)
      refine r_loseP hR (hI.wf hR hF1) c8 (hpi c hc) o0 o2 xg99 (WN_le _ _ _ _ _ _ _) (fun τ2 h2 => hkc τ2 ?_)
      have e : cL (zR f hold z ρ C m p0 c) c (nI (min (WN f hold (xg C.1 c) (xw C.1 c) (hN z (xp C.1 c)) (xd C.1 c) (C.1 21).toNatClampNeg) (xg C.1 c))) (xp C.1 c) = zR f hold z ρ C m p0 (c + 1) := by
        refine zL_add (v := fun i => nI (rA f hold z C.1 i)) hpi hc hd0 (fun i hi => ?_)
        by_cases hic : i = c
        · subst hic
          rw [hd1, hD]
          simp
        · have : decide (i < c + 1) = decide (i < c) := by
            apply decide_eq_decide.mpr
            omega
          have h3 : (i == c) = false := by simp; omega
          unfold dP
          rw [this, h3, Bool.or_false]
      rw [← e]
      exact h2
    generalize rD z C.1 ρ c = dd at hs go hrD
    generalize xg C.1 c = g at f1 hrD o2 xg99
    generalize xl C.1 c = l at o1 hrD xl9
    rw [hpc] at o0
    clear hkm hzr hcx hcx0 hkz hpi hai hms hQ hkc keep ow hI hR o3 o4 o21 t1 t2 kp kl kv kg kw kd hd0 hd1 hbit
    by_cases g0 : g = 0
    · have hs2 := hs (by rw [hrD]; simp [g0])
      simp (disch := omega) only [wp_gd, wp_bnd, wp_let, wp_jn0, wp_jn1, wp_jn2, wp_if, wp_ret, wp_rdI, wp_rdL, v_rdR, v_ldI, v_ldL, v_ldR, v_stI, v_stB, v_stZ, v_stL, wp_wrI, wp_wrL, wp_wrR, wp_wrZ, wp_retZ, v_md, v_dv, v_tb, upI_2, true_and, and_true, Nat.add_sub_cancel, Nat.zero_lt_succ, Nat.succ_pos, okN, clN, L0, L1, L2, L3, L4, L5, L6, L7, L8, L9, L10, L11, L12, L13, L14, L15, L16, L17, L18, L19, L20, L21, L22, L23, L24, L25, L26, L27, L28, L29, L30, L31, L32, L33, L34, L35, L36, L37, L38, L39, L40, L41, L42, L43, L44, L45, L46, L47, L48, L49, L50, L51, L52, L53, L54, L55, L56, L57, L58, L59, L60, L61, L62, L63, L64, L65, L66, L67, L68, L69, L70, L71, L72, L73, L74, L75, L76, L77, L78, L79, L80, L81, L82, L83, L84, L85, L86, L87, L88, L89, L90, L91, L92, L93, L94, L95, L96, L97, L98, L99, L100, L101, L102, L103, L104, L105, L106, L107, L108, L109, L110, L111, L112, L113, L114, L115, L116, L117, L118, L119, L120, L121, L122, L123, L124, L125, L126, L127, L128, L129, L130, L131, L200, L240, L255, L260, L1000, L4096, L10140, L1000000, ng1, mI_lt, mI_le, lt_mI, le_mI, eq_mI, mI_eq, mI_mI, mI_mE, nI_add, pk_mul, pk_sub, pk_rem, sa_minN, sa_maxN, ne_eq, nI_leI, nI_ltI, nI_eq, dT_le, dF_le, dT_lt, dF_lt, dT_eq, dF_eq, true_imp_iff, false_imp_iff, not_true_eq_false, not_false_eq_true, false_or, or_false, true_or, or_true, false_and, and_false, Decidable.not_not, reduceIte, if_true, if_false, upI_self, upI_ne, upL_1, upL_21, upL_self, upL_ne, upR_1, upR_22, upR_self, upR_ne, va_up_self, va_up_ne, Nat.reduceAdd, Nat.reduceMul, Nat.reduceSub, Nat.reduceLT, Nat.reduceLeDiff, Nat.reduceEqDiff, Nat.reduceSubDiff, Nat.zero_add, cm3, cm5, cm7, cm8, cm25, Nat.not_lt_zero, Nat.zero_le, not_false_iff, and_self, imp_self, implies_true, forall_const, Nat.lt_irrefl, Nat.le_refl, and_imp, hal, hw, toW_own, toW_own0, toW_gr, toW_lo, toW_bk, toW_75, toW_76, toW_77, toW_78, o22, wp_of_eq f1]
      exact hs2
    by_cases l0 : l = 0 ∧ r = 1
    · have hs2 := hs (by rw [hrD, l0.1, l0.2]; simp)
      obtain ⟨rfl, rfl⟩ := l0
      simp (disch := omega) only [wp_gd, wp_bnd, wp_let, wp_jn0, wp_jn1, wp_jn2, wp_if, wp_ret, wp_rdI, wp_rdL, v_rdR, v_ldI, v_ldL, v_ldR, v_stI, v_stB, v_stZ, v_stL, wp_wrI, wp_wrL, wp_wrR, wp_wrZ, wp_retZ, v_md, v_dv, v_tb, upI_2, true_and, and_true, Nat.add_sub_cancel, Nat.zero_lt_succ, Nat.succ_pos, okN, clN, L0, L1, L2, L3, L4, L5, L6, L7, L8, L9, L10, L11, L12, L13, L14, L15, L16, L17, L18, L19, L20, L21, L22, L23, L24, L25, L26, L27, L28, L29, L30, L31, L32, L33, L34, L35, L36, L37, L38, L39, L40, L41, L42, L43, L44, L45, L46, L47, L48, L49, L50, L51, L52, L53, L54, L55, L56, L57, L58, L59, L60, L61, L62, L63, L64, L65, L66, L67, L68, L69, L70, L71, L72, L73, L74, L75, L76, L77, L78, L79, L80, L81, L82, L83, L84, L85, L86, L87, L88, L89, L90, L91, L92, L93, L94, L95, L96, L97, L98, L99, L100, L101, L102, L103, L104, L105, L106, L107, L108, L109, L110, L111, L112, L113, L114, L115, L116, L117, L118, L119, L120, L121, L122, L123, L124, L125, L126, L127, L128, L129, L130, L131, L200, L240, L255, L260, L1000, L4096, L10140, L1000000, ng1, mI_lt, mI_le, lt_mI, le_mI, eq_mI, mI_eq, mI_mI, mI_mE, nI_add, pk_mul, pk_sub, pk_rem, sa_minN, sa_maxN, ne_eq, nI_leI, nI_ltI, nI_eq, dT_le, dF_le, dT_lt, dF_lt, dT_eq, dF_eq, true_imp_iff, false_imp_iff, not_true_eq_false, not_false_eq_true, false_or, or_false, true_or, or_true, false_and, and_false, Decidable.not_not, reduceIte, if_true, if_false, upI_self, upI_ne, upL_1, upL_21, upL_self, upL_ne, upR_1, upR_22, upR_self, upR_ne, va_up_self, va_up_ne, Nat.reduceAdd, Nat.reduceMul, Nat.reduceSub, Nat.reduceLT, Nat.reduceLeDiff, Nat.reduceEqDiff, Nat.reduceSubDiff, Nat.zero_add, cm3, cm5, cm7, cm8, cm25, Nat.not_lt_zero, Nat.zero_le, not_false_iff, and_self, imp_self, implies_true, forall_const, Nat.lt_irrefl, Nat.le_refl, and_imp, hal, hw, toW_own, toW_own0, toW_gr, toW_lo, toW_bk, toW_75, toW_76, toW_77, toW_78, o22, wp_of_eq f1, o0, o1, wp_of_eq f4]
      exact hs2
    · have hg := go (by
        rw [hrD]
        have u : ¬ (l = 0 ∧ nI r = nI 1) := by rw [nI_eq (by omega) (by omega)]; exact l0
        by_cases u1 : l = 0
        · have u2 : ¬ nI r = nI 1 := fun h => u ⟨u1, h⟩
          simp [g0, u2]
        · simp [g0, u1])
      by_cases u1 : l = 0
      · have u2 : r = 0 := by omega
        simp (disch := omega) only [wp_gd, wp_bnd, wp_let, wp_jn0, wp_jn1, wp_jn2, wp_if, wp_ret, wp_rdI, wp_rdL, v_rdR, v_ldI, v_ldL, v_ldR, v_stI, v_stB, v_stZ, v_stL, wp_wrI, wp_wrL, wp_wrR, wp_wrZ, wp_retZ, v_md, v_dv, v_tb, upI_2, true_and, and_true, Nat.add_sub_cancel, Nat.zero_lt_succ, Nat.succ_pos, okN, clN, L0, L1, L2, L3, L4, L5, L6, L7, L8, L9, L10, L11, L12, L13, L14, L15, L16, L17, L18, L19, L20, L21, L22, L23, L24, L25, L26, L27, L28, L29, L30, L31, L32, L33, L34, L35, L36, L37, L38, L39, L40, L41, L42, L43, L44, L45, L46, L47, L48, L49, L50, L51, L52, L53, L54, L55, L56, L57, L58, L59, L60, L61, L62, L63, L64, L65, L66, L67, L68, L69, L70, L71, L72, L73, L74, L75, L76, L77, L78, L79, L80, L81, L82, L83, L84, L85, L86, L87, L88, L89, L90, L91, L92, L93, L94, L95, L96, L97, L98, L99, L100, L101, L102, L103, L104, L105, L106, L107, L108, L109, L110, L111, L112, L113, L114, L115, L116, L117, L118, L119, L120, L121, L122, L123, L124, L125, L126, L127, L128, L129, L130, L131, L200, L240, L255, L260, L1000, L4096, L10140, L1000000, ng1, mI_lt, mI_le, lt_mI, le_mI, eq_mI, mI_eq, mI_mI, mI_mE, nI_add, pk_mul, pk_sub, pk_rem, sa_minN, sa_maxN, ne_eq, nI_leI, nI_ltI, nI_eq, dT_le, dF_le, dT_lt, dF_lt, dT_eq, dF_eq, true_imp_iff, false_imp_iff, not_true_eq_false, not_false_eq_true, false_or, or_false, true_or, or_true, false_and, and_false, Decidable.not_not, reduceIte, if_true, if_false, upI_self, upI_ne, upL_1, upL_21, upL_self, upL_ne, upR_1, upR_22, upR_self, upR_ne, va_up_self, va_up_ne, Nat.reduceAdd, Nat.reduceMul, Nat.reduceSub, Nat.reduceLT, Nat.reduceLeDiff, Nat.reduceEqDiff, Nat.reduceSubDiff, Nat.zero_add, cm3, cm5, cm7, cm8, cm25, Nat.not_lt_zero, Nat.zero_le, not_false_iff, and_self, imp_self, implies_true, forall_const, Nat.lt_irrefl, Nat.le_refl, and_imp, hal, hw, toW_own, toW_own0, toW_gr, toW_lo, toW_bk, toW_75, toW_76, toW_77, toW_78, o22, wp_of_eq f1, o0, o1, wp_of_eq f4]
        exact hg
      · simp (disch := omega) only [wp_gd, wp_bnd, wp_let, wp_jn0, wp_jn1, wp_jn2, wp_if, wp_ret, wp_rdI, wp_rdL, v_rdR, v_ldI, v_ldL, v_ldR, v_stI, v_stB, v_stZ, v_stL, wp_wrI, wp_wrL, wp_wrR, wp_wrZ, wp_retZ, v_md, v_dv, v_tb, upI_2, true_and, and_true, Nat.add_sub_cancel, Nat.zero_lt_succ, Nat.succ_pos, okN, clN, L0, L1, L2, L3, L4, L5, L6, L7, L8, L9, L10, L11, L12, L13, L14, L15, L16, L17, L18, L19, L20, L21, L22, L23, L24, L25, L26, L27, L28, L29, L30, L31, L32, L33, L34, L35, L36, L37, L38, L39, L40, L41, L42, L43, L44, L45, L46, L47, L48, L49, L50, L51, L52, L53, L54, L55, L56, L57, L58, L59, L60, L61, L62, L63, L64, L65, L66, L67, L68, L69, L70, L71, L72, L73, L74, L75, L76, L77, L78, L79, L80, L81, L82, L83, L84, L85, L86, L87, L88, L89, L90, L91, L92, L93, L94, L95, L96, L97, L98, L99, L100, L101, L102, L103, L104, L105, L106, L107, L108, L109, L110, L111, L112, L113, L114, L115, L116, L117, L118, L119, L120, L121, L122, L123, L124, L125, L126, L127, L128, L129, L130, L131, L200, L240, L255, L260, L1000, L4096, L10140, L1000000, ng1, mI_lt, mI_le, lt_mI, le_mI, eq_mI, mI_eq, mI_mI, mI_mE, nI_add, pk_mul, pk_sub, pk_rem, sa_minN, sa_maxN, ne_eq, nI_leI, nI_ltI, nI_eq, dT_le, dF_le, dT_lt, dF_lt, dT_eq, dF_eq, true_imp_iff, false_imp_iff, not_true_eq_false, not_false_eq_true, false_or, or_false, true_or, or_true, false_and, and_false, Decidable.not_not, reduceIte, if_true, if_false, upI_self, upI_ne, upL_1, upL_21, upL_self, upL_ne, upR_1, upR_22, upR_self, upR_ne, va_up_self, va_up_ne, Nat.reduceAdd, Nat.reduceMul, Nat.reduceSub, Nat.reduceLT, Nat.reduceLeDiff, Nat.reduceEqDiff, Nat.reduceSubDiff, Nat.zero_add, cm3, cm5, cm7, cm8, cm25, Nat.not_lt_zero, Nat.zero_le, not_false_iff, and_self, imp_self, implies_true, forall_const, Nat.lt_irrefl, Nat.le_refl, and_imp, hal, hw, toW_own, toW_own0, toW_gr, toW_lo, toW_bk, toW_75, toW_76, toW_77, toW_78, o22, wp_of_eq f1, o0, o1]
        exact hg
  · intro τ hI kc
    have o22 := (hkz m).2.1
    have hw := hI.2.1
    have hq := hQ τ hI
    simp (disch := omega) only [wp_gd, wp_bnd, wp_let, wp_jn0, wp_jn1, wp_jn2, wp_if, wp_ret, wp_rdI, wp_rdL, v_rdR, v_ldI, v_ldL, v_ldR, v_stI, v_stB, v_stZ, v_stL, wp_wrI, wp_wrL, wp_wrR, wp_wrZ, wp_retZ, v_md, v_dv, v_tb, upI_2, true_and, and_true, Nat.add_sub_cancel, Nat.zero_lt_succ, Nat.succ_pos, okN, clN, L0, L1, L2, L3, L4, L5, L6, L7, L8, L9, L10, L11, L12, L13, L14, L15, L16, L17, L18, L19, L20, L21, L22, L23, L24, L25, L26, L27, L28, L29, L30, L31, L32, L33, L34, L35, L36, L37, L38, L39, L40, L41, L42, L43, L44, L45, L46, L47, L48, L49, L50, L51, L52, L53, L54, L55, L56, L57, L58, L59, L60, L61, L62, L63, L64, L65, L66, L67, L68, L69, L70, L71, L72, L73, L74, L75, L76, L77, L78, L79, L80, L81, L82, L83, L84, L85, L86, L87, L88, L89, L90, L91, L92, L93, L94, L95, L96, L97, L98, L99, L100, L101, L102, L103, L104, L105, L106, L107, L108, L109, L110, L111, L112, L113, L114, L115, L116, L117, L118, L119, L120, L121, L122, L123, L124, L125, L126, L127, L128, L129, L130, L131, L200, L240, L255, L260, L1000, L4096, L10140, L1000000, ng1, mI_lt, mI_le, lt_mI, le_mI, eq_mI, mI_eq, mI_mI, mI_mE, nI_add, pk_mul, pk_sub, pk_rem, sa_minN, sa_maxN, ne_eq, nI_leI, nI_ltI, nI_eq, dT_le, dF_le, dT_lt, dF_lt, dT_eq, dF_eq, true_imp_iff, false_imp_iff, not_true_eq_false, not_false_eq_true, false_or, or_false, true_or, or_true, false_and, and_false, Decidable.not_not, reduceIte, if_true, if_false, upI_self, upI_ne, upL_1, upL_21, upL_self, upL_ne, upR_1, upR_22, upR_self, upR_ne, va_up_self, va_up_ne, Nat.reduceAdd, Nat.reduceMul, Nat.reduceSub, Nat.reduceLT, Nat.reduceLeDiff, Nat.reduceEqDiff, Nat.reduceSubDiff, Nat.zero_add, cm3, cm5, cm7, cm8, cm25, Nat.not_lt_zero, Nat.zero_le, not_false_iff, and_self, imp_self, implies_true, forall_const, Nat.lt_irrefl, Nat.le_refl, and_imp, hal, hw, toW_own, toW_own0, toW_gr, toW_lo, toW_bk, toW_75, toW_76, toW_77, toW_78, o22]
    exact hq
end MRAIN
