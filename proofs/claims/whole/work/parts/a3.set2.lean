theorem mx_sub {g b : Nat} (hg : g ≤ 99) (hb : b ≤ 99) : sa_max (nI 0) (nI g - nI b) = nI (g - b) := by
  by_cases h : b ≤ g
  · rw [pk_sub h, sa_maxN (by omega) (by omega), Nat.zero_max]
  · have hn : nI g - nI b < 0 := pk_sneg (by omega) (by omega)
    show (if nI 0 < nI g - nI b then nI g - nI b else nI 0) = _
    rw [if_neg, show g - b = 0 by omega]
    rw [Int32.lt_iff_toInt_lt] at hn ⊢
    rw [nI_toInt (by omega)]
    rw [show (0 : Int32).toInt = 0 from rfl] at hn
    omega
section SET2
variable {σ : sa_St} {P W H B m l b : Nat} {Q : Unit → sa_St → Prop}
theorem c_set (hk : SK σ.2.1) (hkm : KM P W H B m (σ.1 45)) (hP : P ≤ 8) (hl : 1 ≤ l ∧ l ≤ 9) (hb : b ≤ 99) (hQ : ∀ r : Nat → Int32, (∀ i, i < 8 → r i = nI (capS (σ.1 45) m l b i)) → Q () (va_up σ.1 157 r, σ.2)) : wp (f_X10_set 156 44 (nI l) (nI b)) σ Q := by
  have e0 := sk_156_0 hk
  unfold f_X10_set
  rw [wp_gd]
  refine ⟨rfl, ?_⟩
  rw [wp_bnd, wp_rdR (v := 157) rfl e0, wp_bnd]
  refine wp_fillI al_157 (by omega) (by omega) (fun f0 h0 _ => ?_)
  rw [wp_let, wp_let]
  refine wp_for2 8 0 (fun i acc τ => ∃ r : Nat → Int32, τ = (va_up σ.1 157 r, σ.2) ∧ acc = nI (if okS (σ.1 45) m b i then 1 else 0) ∧ ∀ j, j < 8 → r j = nI (if j < i then cap1 (σ.1 45) m l b j else 0)) ?_ ?_ ⟨f0, rfl, rfl, fun j hj => by rw [if_neg (by omega)]; exact h0 j hj⟩ (by omega) (by unfold sa_F; omega)
  · rintro i acc τ hi ⟨r, rfl, rfl, hr⟩ c hc
    have h45 : (va_up σ.1 157 r, σ.2).1 45 = σ.1 45 := va_up_ne (k := 157) (j := 45) σ.1 r (by omega)
    have f1 := e_lives8 (σ := (va_up σ.1 157 r, σ.2)) (ca_44 hk) h45 hkm hP hi
    have f2 := e_of (σ := (va_up σ.1 157 r, σ.2)) (ca_44 hk) h45 (j := 2) hi (by omega)
    have go : ∀ (y : Int32) (r2 : Nat → Int32), y = nI (if okS (σ.1 45) m b (i + 1) then 1 else 0) → (∀ j, j < 8 → r2 j = nI (if j < i + 1 then cap1 (σ.1 45) m l b j else 0)) → wp (c y (nI (i + 1))) (va_up σ.1 157 r2, σ.2) Q := fun y r2 h1 h2 => hc y _ ⟨r2, rfl, h1, h2⟩
    have hok : okS (σ.1 45) m b (i + 1) = (okS (σ.1 45) m b i && (!liv (σ.1 45) m i || decide (b ≤ xg (σ.1 45) i))) := rfl
    by_cases hv : liv (σ.1 45) m i = true
    · have him : i < m := by unfold liv at hv; simp at hv; exact hv.1
      obtain ⟨-, -, ⟨xg99, o2⟩, -⟩ := (hkm.2.2.2.1 i him).x hP
      have hc1 : cap1 (σ.1 45) m l b i = (xg (σ.1 45) i - b) / l := by unfold cap1; rw [if_pos hv]
      rw [hv] at f1 hok
      rw [o2] at f2
      have go2 := fun y h => go y (va_up r i (nI ((xg (σ.1 45) i - b) / l))) h (fun j hj => by
        by_cases e : j = i
        · subst e; rw [va_up_self, if_pos (by omega), hc1]
        · rw [va_up_ne _ _ e, hr j hj]
          by_cases e2 : j < i
          · rw [if_pos e2, if_pos (by omega)]
          · rw [if_neg e2, if_neg (by omega)])
      have hmx := mx_sub xg99 hb
      have hdv : nI (xg (σ.1 45) i - b) / nI l = nI ((xg (σ.1 45) i - b) / l) := pk_div (by omega) (by omega) (by omega)
      have hml : max 1 l = l := by omega
      generalize xg (σ.1 45) i = g at *
      generalize okS (σ.1 45) m b i = oo at *
      generalize okS (σ.1 45) m b (i + 1) = o1 at *
      clear hc hkm go hQ hr h0
      cases oo with
      | false =>
        have g9 := go2 (nI 0) (by rw [hok]; rfl)
        simp (disch := omega) only [wp_gd, wp_bnd, wp_let, wp_jn0, wp_jn1, wp_jn2, wp_if, wp_ret, wp_rdI, wp_rdL, v_rdR, v_ldI, v_ldL, v_ldR, v_stI, v_stB, v_stZ, v_stL, wp_wrI, wp_wrL, wp_wrR, wp_wrZ, wp_retZ, v_md, v_dv, v_tb, upI_2, true_and, and_true, Nat.add_sub_cancel, Nat.zero_lt_succ, Nat.succ_pos, okN, clN, L0, L1, L2, L3, L4, L5, L6, L7, L8, L9, L10, L11, L12, L13, L14, L15, L16, L17, L18, L19, L20, L21, L22, L23, L24, L25, L26, L27, L28, L29, L30, L31, L32, L33, L34, L35, L36, L37, L38, L39, L40, L41, L42, L43, L44, L45, L46, L47, L48, L49, L50, L51, L52, L53, L54, L55, L56, L57, L58, L59, L60, L61, L62, L63, L64, L65, L66, L67, L68, L69, L70, L71, L72, L73, L74, L75, L76, L77, L78, L79, L80, L81, L82, L83, L84, L85, L86, L87, L88, L89, L90, L91, L92, L93, L94, L95, L96, L97, L98, L99, L100, L101, L102, L103, L104, L105, L106, L107, L108, L109, L110, L111, L112, L113, L114, L115, L116, L117, L118, L119, L120, L121, L122, L123, L124, L125, L126, L127, L128, L129, L130, L131, L200, L240, L255, L260, L1000, L4096, L10140, L1000000, ng1, mI_lt, mI_le, lt_mI, le_mI, eq_mI, mI_eq, mI_mI, mI_mE, nI_add, pk_mul, pk_sub, pk_rem, sa_minN, sa_maxN, ne_eq, nI_leI, nI_ltI, nI_eq, dT_le, dF_le, dT_lt, dF_lt, dT_eq, dF_eq, true_imp_iff, false_imp_iff, not_true_eq_false, not_false_eq_true, false_or, or_false, true_or, or_true, false_and, and_false, Decidable.not_not, reduceIte, if_true, if_false, upI_self, upI_ne, upL_1, upL_21, upL_self, upL_ne, upR_1, upR_22, upR_self, upR_ne, va_up_self, va_up_ne, Nat.reduceAdd, Nat.reduceMul, Nat.reduceSub, Nat.reduceLT, Nat.reduceLeDiff, Nat.reduceEqDiff, Nat.reduceSubDiff, Nat.zero_add, cm3, cm5, cm7, cm8, cm25, Nat.not_lt_zero, Nat.zero_le, not_false_iff, and_self, imp_self, implies_true, forall_const, Nat.lt_irrefl, Nat.le_refl, and_imp, sh_156, e0, al_157, wp_of_eq f1, wp_of_eq f2, hmx, Nat.zero_max, hdv, hml, v_dv, up_set, Bool.false_eq_true]
        exact g9
      | true =>
        by_cases hgb : b ≤ g
        · have g9 := go2 (nI 1) (by rw [hok]; simp [hgb])
          simp (disch := omega) only [wp_gd, wp_bnd, wp_let, wp_jn0, wp_jn1, wp_jn2, wp_if, wp_ret, wp_rdI, wp_rdL, v_rdR, v_ldI, v_ldL, v_ldR, v_stI, v_stB, v_stZ, v_stL, wp_wrI, wp_wrL, wp_wrR, wp_wrZ, wp_retZ, v_md, v_dv, v_tb, upI_2, true_and, and_true, Nat.add_sub_cancel, Nat.zero_lt_succ, Nat.succ_pos, okN, clN, L0, L1, L2, L3, L4, L5, L6, L7, L8, L9, L10, L11, L12, L13, L14, L15, L16, L17, L18, L19, L20, L21, L22, L23, L24, L25, L26, L27, L28, L29, L30, L31, L32, L33, L34, L35, L36, L37, L38, L39, L40, L41, L42, L43, L44, L45, L46, L47, L48, L49, L50, L51, L52, L53, L54, L55, L56, L57, L58, L59, L60, L61, L62, L63, L64, L65, L66, L67, L68, L69, L70, L71, L72, L73, L74, L75, L76, L77, L78, L79, L80, L81, L82, L83, L84, L85, L86, L87, L88, L89, L90, L91, L92, L93, L94, L95, L96, L97, L98, L99, L100, L101, L102, L103, L104, L105, L106, L107, L108, L109, L110, L111, L112, L113, L114, L115, L116, L117, L118, L119, L120, L121, L122, L123, L124, L125, L126, L127, L128, L129, L130, L131, L200, L240, L255, L260, L1000, L4096, L10140, L1000000, ng1, mI_lt, mI_le, lt_mI, le_mI, eq_mI, mI_eq, mI_mI, mI_mE, nI_add, pk_mul, pk_sub, pk_rem, sa_minN, sa_maxN, ne_eq, nI_leI, nI_ltI, nI_eq, dT_le, dF_le, dT_lt, dF_lt, dT_eq, dF_eq, true_imp_iff, false_imp_iff, not_true_eq_false, not_false_eq_true, false_or, or_false, true_or, or_true, false_and, and_false, Decidable.not_not, reduceIte, if_true, if_false, upI_self, upI_ne, upL_1, upL_21, upL_self, upL_ne, upR_1, upR_22, upR_self, upR_ne, va_up_self, va_up_ne, Nat.reduceAdd, Nat.reduceMul, Nat.reduceSub, Nat.reduceLT, Nat.reduceLeDiff, Nat.reduceEqDiff, Nat.reduceSubDiff, Nat.zero_add, cm3, cm5, cm7, cm8, cm25, Nat.not_lt_zero, Nat.zero_le, not_false_iff, and_self, imp_self, implies_true, forall_const, Nat.lt_irrefl, Nat.le_refl, and_imp, sh_156, e0, al_157, wp_of_eq f1, wp_of_eq f2, hmx, Nat.zero_max, hdv, hml, v_dv, up_set]
          exact g9
        · have g9 := go2 (nI 0) (by rw [hok]; simp [hgb])
          simp (disch := omega) only [wp_gd, wp_bnd, wp_let, wp_jn0, wp_jn1, wp_jn2, wp_if, wp_ret, wp_rdI, wp_rdL, v_rdR, v_ldI, v_ldL, v_ldR, v_stI, v_stB, v_stZ, v_stL, wp_wrI, wp_wrL, wp_wrR, wp_wrZ, wp_retZ, v_md, v_dv, v_tb, upI_2, true_and, and_true, Nat.add_sub_cancel, Nat.zero_lt_succ, Nat.succ_pos, okN, clN, L0, L1, L2, L3, L4, L5, L6, L7, L8, L9, L10, L11, L12, L13, L14, L15, L16, L17, L18, L19, L20, L21, L22, L23, L24, L25, L26, L27, L28, L29, L30, L31, L32, L33, L34, L35, L36, L37, L38, L39, L40, L41, L42, L43, L44, L45, L46, L47, L48, L49, L50, L51, L52, L53, L54, L55, L56, L57, L58, L59, L60, L61, L62, L63, L64, L65, L66, L67, L68, L69, L70, L71, L72, L73, L74, L75, L76, L77, L78, L79, L80, L81, L82, L83, L84, L85, L86, L87, L88, L89, L90, L91, L92, L93, L94, L95, L96, L97, L98, L99, L100, L101, L102, L103, L104, L105, L106, L107, L108, L109, L110, L111, L112, L113, L114, L115, L116, L117, L118, L119, L120, L121, L122, L123, L124, L125, L126, L127, L128, L129, L130, L131, L200, L240, L255, L260, L1000, L4096, L10140, L1000000, ng1, mI_lt, mI_le, lt_mI, le_mI, eq_mI, mI_eq, mI_mI, mI_mE, nI_add, pk_mul, pk_sub, pk_rem, sa_minN, sa_maxN, ne_eq, nI_leI, nI_ltI, nI_eq, dT_le, dF_le, dT_lt, dF_lt, dT_eq, dF_eq, true_imp_iff, false_imp_iff, not_true_eq_false, not_false_eq_true, false_or, or_false, true_or, or_true, false_and, and_false, Decidable.not_not, reduceIte, if_true, if_false, upI_self, upI_ne, upL_1, upL_21, upL_self, upL_ne, upR_1, upR_22, upR_self, upR_ne, va_up_self, va_up_ne, Nat.reduceAdd, Nat.reduceMul, Nat.reduceSub, Nat.reduceLT, Nat.reduceLeDiff, Nat.reduceEqDiff, Nat.reduceSubDiff, Nat.zero_add, cm3, cm5, cm7, cm8, cm25, Nat.not_lt_zero, Nat.zero_le, not_false_iff, and_self, imp_self, implies_true, forall_const, Nat.lt_irrefl, Nat.le_refl, and_imp, sh_156, e0, al_157, wp_of_eq f1, wp_of_eq f2, hmx, Nat.zero_max, hdv, hml, v_dv, up_set]
          exact g9
    · have hv' : liv (σ.1 45) m i = false := by simpa using hv
      rw [hv'] at f1 hok
      have hc1 : cap1 (σ.1 45) m l b i = 0 := by unfold cap1; rw [hv']; rfl
      have g9 := go (nI (if okS (σ.1 45) m b i then 1 else 0)) r (by rw [hok]; simp) (fun j hj => by
        rw [hr j hj]
        by_cases e : j = i
        · subst e; rw [if_neg (by omega), if_pos (by omega), hc1]
        · by_cases e2 : j < i
          · rw [if_pos e2, if_pos (by omega)]
          · rw [if_neg e2, if_neg (by omega)])
      clear hc hkm go hQ hr h0 f2 hok
      generalize nI (if okS (σ.1 45) m b i then 1 else 0) = acc at *
      simp (disch := omega) only [wp_gd, wp_bnd, wp_let, wp_jn0, wp_jn1, wp_jn2, wp_if, wp_ret, wp_rdI, wp_rdL, v_rdR, v_ldI, v_ldL, v_ldR, v_stI, v_stB, v_stZ, v_stL, wp_wrI, wp_wrL, wp_wrR, wp_wrZ, wp_retZ, v_md, v_dv, v_tb, upI_2, true_and, and_true, Nat.add_sub_cancel, Nat.zero_lt_succ, Nat.succ_pos, okN, clN, L0, L1, L2, L3, L4, L5, L6, L7, L8, L9, L10, L11, L12, L13, L14, L15, L16, L17, L18, L19, L20, L21, L22, L23, L24, L25, L26, L27, L28, L29, L30, L31, L32, L33, L34, L35, L36, L37, L38, L39, L40, L41, L42, L43, L44, L45, L46, L47, L48, L49, L50, L51, L52, L53, L54, L55, L56, L57, L58, L59, L60, L61, L62, L63, L64, L65, L66, L67, L68, L69, L70, L71, L72, L73, L74, L75, L76, L77, L78, L79, L80, L81, L82, L83, L84, L85, L86, L87, L88, L89, L90, L91, L92, L93, L94, L95, L96, L97, L98, L99, L100, L101, L102, L103, L104, L105, L106, L107, L108, L109, L110, L111, L112, L113, L114, L115, L116, L117, L118, L119, L120, L121, L122, L123, L124, L125, L126, L127, L128, L129, L130, L131, L200, L240, L255, L260, L1000, L4096, L10140, L1000000, ng1, mI_lt, mI_le, lt_mI, le_mI, eq_mI, mI_eq, mI_mI, mI_mE, nI_add, pk_mul, pk_sub, pk_rem, sa_minN, sa_maxN, ne_eq, nI_leI, nI_ltI, nI_eq, dT_le, dF_le, dT_lt, dF_lt, dT_eq, dF_eq, true_imp_iff, false_imp_iff, not_true_eq_false, not_false_eq_true, false_or, or_false, true_or, or_true, false_and, and_false, Decidable.not_not, reduceIte, if_true, if_false, upI_self, upI_ne, upL_1, upL_21, upL_self, upL_ne, upR_1, upR_22, upR_self, upR_ne, va_up_self, va_up_ne, Nat.reduceAdd, Nat.reduceMul, Nat.reduceSub, Nat.reduceLT, Nat.reduceLeDiff, Nat.reduceEqDiff, Nat.reduceSubDiff, Nat.zero_add, cm3, cm5, cm7, cm8, cm25, Nat.not_lt_zero, Nat.zero_le, not_false_iff, and_self, imp_self, implies_true, forall_const, Nat.lt_irrefl, Nat.le_refl, and_imp, wp_of_eq f1, Bool.false_eq_true]
      exact g9
  · rintro acc τ ⟨r, rfl, rfl, hr⟩ c
    by_cases ho : okS (σ.1 45) m b 8 = true
    · have hq := hQ r (fun i hi => by rw [hr i hi, if_pos hi]; unfold capS; rw [if_pos ho])
      rw [ho]
      clear hQ hr hkm
      simp (disch := omega) only [wp_gd, wp_bnd, wp_let, wp_jn0, wp_jn1, wp_jn2, wp_if, wp_ret, wp_rdI, wp_rdL, v_rdR, v_ldI, v_ldL, v_ldR, v_stI, v_stB, v_stZ, v_stL, wp_wrI, wp_wrL, wp_wrR, wp_wrZ, wp_retZ, v_md, v_dv, v_tb, upI_2, true_and, and_true, Nat.add_sub_cancel, Nat.zero_lt_succ, Nat.succ_pos, okN, clN, L0, L1, L2, L3, L4, L5, L6, L7, L8, L9, L10, L11, L12, L13, L14, L15, L16, L17, L18, L19, L20, L21, L22, L23, L24, L25, L26, L27, L28, L29, L30, L31, L32, L33, L34, L35, L36, L37, L38, L39, L40, L41, L42, L43, L44, L45, L46, L47, L48, L49, L50, L51, L52, L53, L54, L55, L56, L57, L58, L59, L60, L61, L62, L63, L64, L65, L66, L67, L68, L69, L70, L71, L72, L73, L74, L75, L76, L77, L78, L79, L80, L81, L82, L83, L84, L85, L86, L87, L88, L89, L90, L91, L92, L93, L94, L95, L96, L97, L98, L99, L100, L101, L102, L103, L104, L105, L106, L107, L108, L109, L110, L111, L112, L113, L114, L115, L116, L117, L118, L119, L120, L121, L122, L123, L124, L125, L126, L127, L128, L129, L130, L131, L200, L240, L255, L260, L1000, L4096, L10140, L1000000, ng1, mI_lt, mI_le, lt_mI, le_mI, eq_mI, mI_eq, mI_mI, mI_mE, nI_add, pk_mul, pk_sub, pk_rem, sa_minN, sa_maxN, ne_eq, nI_leI, nI_ltI, nI_eq, dT_le, dF_le, dT_lt, dF_lt, dT_eq, dF_eq, true_imp_iff, false_imp_iff, not_true_eq_false, not_false_eq_true, false_or, or_false, true_or, or_true, false_and, and_false, Decidable.not_not, reduceIte, if_true, if_false, upI_self, upI_ne, upL_1, upL_21, upL_self, upL_ne, upR_1, upR_22, upR_self, upR_ne, va_up_self, va_up_ne, Nat.reduceAdd, Nat.reduceMul, Nat.reduceSub, Nat.reduceLT, Nat.reduceLeDiff, Nat.reduceEqDiff, Nat.reduceSubDiff, Nat.zero_add, cm3, cm5, cm7, cm8, cm25, Nat.not_lt_zero, Nat.zero_le, not_false_iff, and_self, imp_self, implies_true, forall_const, Nat.lt_irrefl, Nat.le_refl, and_imp]
      exact hq
    · have ho' : okS (σ.1 45) m b 8 = false := by simpa using ho
      rw [ho', wp_if]
      refine ⟨fun _ => ?_, fun q => absurd (by decide) q⟩
      rw [wp_jn0, wp_if]
      refine ⟨fun q => absurd (show nI 0 = 0 from rfl) q, fun _ => ?_⟩
      rw [wp_bnd, wp_rdR (σ := (va_up σ.1 157 r, σ.2)) (v := 157) rfl e0, wp_bnd]
      refine wp_fillI al_157 (by omega) (by omega) (fun f1 h1 _ => ?_)
      rw [wp_ret]
      have hq := hQ f1 (fun i hi => by rw [h1 i hi]; unfold capS; rw [ho']; rfl)
      have e : (va_up (va_up σ.1 157 r, σ.2).1 157 f1, (va_up σ.1 157 r, σ.2).2) = (va_up σ.1 157 f1, σ.2) := Prod.ext va_up_two rfl
      rw [e]
      exact hq
end SET2
