section LAYW
variable {L P W F n bh : Nat} {f : Nat → LWt} {z : Nat → Int32} {hold : Int32} {σ : sa_St} {Q : Unit → sa_St → Prop}
theorem wayB_eq {a b k x y : Nat} (hx : x < 8) (hy : y < 8) (ha : a < 8) (hb : b < 8) (e1 : z (60 + 5 * k) = nI x) (e2 : z (60 + 5 * k + 1) = nI y) : wayB z a b k = decide ((x = a ∧ y = b) ∨ (x = b ∧ y = a)) := by
  unfold wayB
  apply decide_eq_decide.mpr
  rw [e1, e2, nI_eq (by omega) (by omega), nI_eq (by omega) (by omega), nI_eq (by omega) (by omega), nI_eq (by omega) (by omega)]
theorem lay_ways (hcx : Cx L P W F n f z hold σ) (hbh : bh ≤ 1) {ex : sa_M Unit} {r : Nat → Int32} (hr : ∀ a b, a < 8 → b < 8 → r (8 * a + b) = en (mp0 0 (cW z bh) (wayB z) a b)) (hQ : ∀ r2 : Nat → Int32, (∀ a b, a < 8 → b < 8 → r2 (8 * a + b) = en (mp0 W (cW z bh) (wayB z) a b)) → wp ex (va_up σ.1 189 r2, σ.2) Q) :
    wp (sa_wh1 (fun j38 (x4 : Int32) =>
sa_bnd (sa_rdI 12 159 26) fun v5 =>
if v5 ≤ x4 then
ex
else
sa_jn1 (fun (y26 : Int32) =>
sa_bnd (sa_rdR 12 159 20) fun v27 =>
sa_bnd (sa_ldI .int v27 (4 * x4)) fun v28 =>
sa_bnd (sa_rdR 12 159 20) fun v29 =>
sa_bnd (sa_ldI .int v29 ((4 * x4) + 1)) fun v30 =>
sa_bnd (f_X12_shortens 159 v28 v30 y26) fun _ =>
sa_bnd (sa_rdR 12 159 20) fun v31 =>
sa_bnd (sa_ldI .int v31 ((4 * x4) + 1)) fun v32 =>
sa_bnd (sa_rdR 12 159 20) fun v33 =>
sa_bnd (sa_ldI .int v33 (4 * x4)) fun v34 =>
sa_bnd (f_X12_shortens 159 v32 v34 y26) fun _ =>
sa_let ((x4 + 1) : Int32) fun x35 =>
j38 x35) fun j64 =>
if nI bh = 0 then
j64 1
else
sa_bnd (sa_rdR 12 159 20) fun v36 =>
sa_bnd (sa_ldI .int v36 ((4 * x4) + 2)) fun v37 =>
j64 v37) sa_F 0) (va_up σ.1 189 r, σ.2) Q := by
  have hzr := hcx.zr
  have P8 := hzr.1.1
  have W12 := hzr.1.2.1
  have hk := hcx.1
  have r1 : σ.1 159 26 = nI W := hcx.2.2.1.2.1.2.2.2.2.1
  refine wp_for1 W 0 (fun k τ => ∃ r1 : Nat → Int32, τ = (va_up σ.1 189 r1, σ.2) ∧ ∀ a b, a < 8 → b < 8 → r1 (8 * a + b) = en (mp0 k (cW z bh) (wayB z) a b)) ?_ ?_ ⟨r, rfl, hr⟩ (by omega) (by unfold sa_F; omega)
  · rintro k τ hkW ⟨r2, rfl, h2⟩ c hc
    obtain ⟨x, y, hx, hy, hxy, zx, zy⟩ := (hzr.2.2.1 k hkW).1
    obtain ⟨c1, c9, hct⟩ := cW_eq (bh := bh) hzr hkW
    have hw := (hcx.2.2.1.2.2.2.1 k hkW).2.2.2
    have hz0 := hcx.2.2.2.2.2.1
    have w0 : σ.1 166 (4 * k) = nI x := by
      have := hw 0 (by omega)
      rw [hz0] at this
      exact this.trans zx
    have w1 : σ.1 166 (4 * k + 1) = nI y := by
      have := hw 1 (by omega)
      rw [hz0] at this
      exact this.trans zy
    have w2 : bh ≠ 0 → σ.1 166 (4 * k + 2) = nI (cW z bh k) := fun h => by
      have := hw 2 (by omega)
      rw [hz0] at this
      exact this.trans (hct h)
    have g : wp (f_X12_shortens 159 (nI x) (nI y) (nI (cW z bh k))) (va_up σ.1 189 r2, σ.2) (fun _ τ1 => wp (sa_bnd (sa_rdR 12 159 20) fun v31 =>
sa_bnd (sa_ldI .int v31 ((4 * nI k) + 1)) fun v32 =>
sa_bnd (sa_rdR 12 159 20) fun v33 =>
sa_bnd (sa_ldI .int v33 (4 * nI k)) fun v34 =>
sa_bnd (f_X12_shortens 159 v32 v34 (nI (cW z bh k))) fun _ =>
sa_let ((nI k + 1) : Int32) fun x35 =>
c x35) τ1 Q) := by
      refine m_short (σ := (va_up σ.1 189 r2, σ.2)) (a := x) (b := y) (v := cW z bh k) (x := mp0 k (cW z bh) (wayB z) x y) hk (by omega) (by omega) (by omega) (by show va_up σ.1 189 r2 189 _ = _; rw [va_up_self]; exact h2 x y (by omega) (by omega)) ?_
      rw [up_set]
      have g2 : wp (f_X12_shortens 159 (nI y) (nI x) (nI (cW z bh k))) (va_up σ.1 189 (va_up r2 (8 * x + y) (en (min (mp0 k (cW z bh) (wayB z) x y) (cW z bh k)))), σ.2) (fun _ τ2 => wp (c (nI (k + 1))) τ2 Q) := by
        refine m_short (σ := (va_up σ.1 189 (va_up r2 (8 * x + y) (en (min (mp0 k (cW z bh) (wayB z) x y) (cW z bh k)))), σ.2)) (a := y) (b := x) (v := cW z bh k) (x := mp0 k (cW z bh) (wayB z) y x) hk (by omega) (by omega) (by omega) ((congrFun (va_up_self σ.1 189 _) _).trans ((va_up_ne _ _ (by omega)).trans (h2 y x (by omega) (by omega)))) ?_
        rw [up_set]
        refine hc _ ⟨_, rfl, fun a b ha hb => ?_⟩
        rw [mp0_succ, wayB_eq (by omega) (by omega) ha hb zx zy]
        by_cases e1 : y = a ∧ x = b
        · obtain ⟨rfl, rfl⟩ := e1
          rw [va_up_self, if_neg (by omega), if_pos (by simp)]
        · rw [va_up_ne _ _ (by omega)]
          by_cases e2 : x = a ∧ y = b
          · obtain ⟨rfl, rfl⟩ := e2
            rw [va_up_self, if_neg hxy, if_pos (by simp)]
          · rw [va_up_ne _ _ (by omega), h2 a b ha hb]
            by_cases e3 : a = b
            · subst e3
              rw [if_pos rfl, mp0_diag]
            · rw [if_neg e3, if_neg]
              simp
              omega
      clear hc hw
      simp (disch := omega) only [wp_gd, wp_bnd, wp_let, wp_jn0, wp_jn1, wp_jn2, wp_if, wp_ret, wp_rdI, wp_rdL, v_rdR, v_ldI, v_ldL, v_ldR, v_stI, v_stB, v_stZ, v_stL, wp_wrI, wp_wrL, wp_wrR, wp_wrZ, wp_retZ, v_md, v_dv, v_tb, upI_2, true_and, and_true, Nat.add_sub_cancel, Nat.zero_lt_succ, Nat.succ_pos, okN, clN, L0, L1, L2, L3, L4, L5, L6, L7, L8, L9, L10, L11, L12, L13, L14, L15, L16, L17, L18, L19, L20, L21, L22, L23, L24, L25, L26, L27, L28, L29, L30, L31, L32, L33, L34, L35, L36, L37, L38, L39, L40, L41, L42, L43, L44, L45, L46, L47, L48, L49, L50, L51, L52, L53, L54, L55, L56, L57, L58, L59, L60, L61, L62, L63, L64, L65, L66, L67, L68, L69, L70, L71, L72, L73, L74, L75, L76, L77, L78, L79, L80, L81, L82, L83, L84, L85, L86, L87, L88, L89, L90, L91, L92, L93, L94, L95, L96, L97, L98, L99, L100, L101, L102, L103, L104, L105, L106, L107, L108, L109, L110, L111, L112, L113, L114, L115, L116, L117, L118, L119, L120, L121, L122, L123, L124, L125, L126, L127, L128, L129, L130, L131, L200, L240, L255, L260, L1000, L4096, L10140, L1000000, ng1, mI_lt, mI_le, lt_mI, le_mI, eq_mI, mI_eq, mI_mI, mI_mE, nI_add, pk_mul, pk_sub, pk_rem, sa_minN, sa_maxN, ne_eq, nI_leI, nI_ltI, nI_eq, dT_le, dF_le, dT_lt, dF_lt, dT_eq, dF_eq, true_imp_iff, false_imp_iff, not_true_eq_false, not_false_eq_true, false_or, or_false, true_or, or_true, false_and, and_false, Decidable.not_not, reduceIte, if_true, if_false, upI_self, upI_ne, upL_1, upL_21, upL_self, upL_ne, upR_1, upR_22, upR_self, upR_ne, va_up_self, va_up_ne, Nat.reduceAdd, Nat.reduceMul, Nat.reduceSub, Nat.reduceLT, Nat.reduceLeDiff, Nat.reduceEqDiff, Nat.reduceSubDiff, Nat.zero_add, cm3, cm5, cm7, cm8, cm25, Nat.not_lt_zero, Nat.zero_le, not_false_iff, and_self, imp_self, implies_true, forall_const, Nat.lt_irrefl, Nat.le_refl, and_imp, sh_0, sh_159, sh_1, sh_15, sh_44, sh_46, sh_48, sh_134, sh_136, sh_151, sh_156, sk_159_20 hk, al_166, w0, w1]
      exact g2
    clear hc hw
    by_cases hb0 : bh = 0
    · have e1c : cW z bh k = 1 := if_pos hb0
      rw [e1c] at g
      simp (disch := omega) only [wp_gd, wp_bnd, wp_let, wp_jn0, wp_jn1, wp_jn2, wp_if, wp_ret, wp_rdI, wp_rdL, v_rdR, v_ldI, v_ldL, v_ldR, v_stI, v_stB, v_stZ, v_stL, wp_wrI, wp_wrL, wp_wrR, wp_wrZ, wp_retZ, v_md, v_dv, v_tb, upI_2, true_and, and_true, Nat.add_sub_cancel, Nat.zero_lt_succ, Nat.succ_pos, okN, clN, L0, L1, L2, L3, L4, L5, L6, L7, L8, L9, L10, L11, L12, L13, L14, L15, L16, L17, L18, L19, L20, L21, L22, L23, L24, L25, L26, L27, L28, L29, L30, L31, L32, L33, L34, L35, L36, L37, L38, L39, L40, L41, L42, L43, L44, L45, L46, L47, L48, L49, L50, L51, L52, L53, L54, L55, L56, L57, L58, L59, L60, L61, L62, L63, L64, L65, L66, L67, L68, L69, L70, L71, L72, L73, L74, L75, L76, L77, L78, L79, L80, L81, L82, L83, L84, L85, L86, L87, L88, L89, L90, L91, L92, L93, L94, L95, L96, L97, L98, L99, L100, L101, L102, L103, L104, L105, L106, L107, L108, L109, L110, L111, L112, L113, L114, L115, L116, L117, L118, L119, L120, L121, L122, L123, L124, L125, L126, L127, L128, L129, L130, L131, L200, L240, L255, L260, L1000, L4096, L10140, L1000000, ng1, mI_lt, mI_le, lt_mI, le_mI, eq_mI, mI_eq, mI_mI, mI_mE, nI_add, pk_mul, pk_sub, pk_rem, sa_minN, sa_maxN, ne_eq, nI_leI, nI_ltI, nI_eq, dT_le, dF_le, dT_lt, dF_lt, dT_eq, dF_eq, true_imp_iff, false_imp_iff, not_true_eq_false, not_false_eq_true, false_or, or_false, true_or, or_true, false_and, and_false, Decidable.not_not, reduceIte, if_true, if_false, upI_self, upI_ne, upL_1, upL_21, upL_self, upL_ne, upR_1, upR_22, upR_self, upR_ne, va_up_self, va_up_ne, Nat.reduceAdd, Nat.reduceMul, Nat.reduceSub, Nat.reduceLT, Nat.reduceLeDiff, Nat.reduceEqDiff, Nat.reduceSubDiff, Nat.zero_add, cm3, cm5, cm7, cm8, cm25, Nat.not_lt_zero, Nat.zero_le, not_false_iff, and_self, imp_self, implies_true, forall_const, Nat.lt_irrefl, Nat.le_refl, and_imp, sh_0, sh_159, sh_1, sh_15, sh_44, sh_46, sh_48, sh_134, sh_136, sh_151, sh_156, r1, sk_159_20 hk, al_166, w0, w1]
      simp (disch := omega) only [wp_gd, wp_bnd, wp_let, wp_jn0, wp_jn1, wp_jn2, wp_if, wp_ret, wp_rdI, wp_rdL, v_rdR, v_ldI, v_ldL, v_ldR, v_stI, v_stB, v_stZ, v_stL, wp_wrI, wp_wrL, wp_wrR, wp_wrZ, wp_retZ, v_md, v_dv, v_tb, upI_2, true_and, and_true, Nat.add_sub_cancel, Nat.zero_lt_succ, Nat.succ_pos, okN, clN, L0, L1, L2, L3, L4, L5, L6, L7, L8, L9, L10, L11, L12, L13, L14, L15, L16, L17, L18, L19, L20, L21, L22, L23, L24, L25, L26, L27, L28, L29, L30, L31, L32, L33, L34, L35, L36, L37, L38, L39, L40, L41, L42, L43, L44, L45, L46, L47, L48, L49, L50, L51, L52, L53, L54, L55, L56, L57, L58, L59, L60, L61, L62, L63, L64, L65, L66, L67, L68, L69, L70, L71, L72, L73, L74, L75, L76, L77, L78, L79, L80, L81, L82, L83, L84, L85, L86, L87, L88, L89, L90, L91, L92, L93, L94, L95, L96, L97, L98, L99, L100, L101, L102, L103, L104, L105, L106, L107, L108, L109, L110, L111, L112, L113, L114, L115, L116, L117, L118, L119, L120, L121, L122, L123, L124, L125, L126, L127, L128, L129, L130, L131, L200, L240, L255, L260, L1000, L4096, L10140, L1000000, ng1, mI_lt, mI_le, lt_mI, le_mI, eq_mI, mI_eq, mI_mI, mI_mE, nI_add, pk_mul, pk_sub, pk_rem, sa_minN, sa_maxN, ne_eq, nI_leI, nI_ltI, nI_eq, dT_le, dF_le, dT_lt, dF_lt, dT_eq, dF_eq, true_imp_iff, false_imp_iff, not_true_eq_false, not_false_eq_true, false_or, or_false, true_or, or_true, false_and, and_false, Decidable.not_not, reduceIte, if_true, if_false, upI_self, upI_ne, upL_1, upL_21, upL_self, upL_ne, upR_1, upR_22, upR_self, upR_ne, va_up_self, va_up_ne, Nat.reduceAdd, Nat.reduceMul, Nat.reduceSub, Nat.reduceLT, Nat.reduceLeDiff, Nat.reduceEqDiff, Nat.reduceSubDiff, Nat.zero_add, cm3, cm5, cm7, cm8, cm25, Nat.not_lt_zero, Nat.zero_le, not_false_iff, and_self, imp_self, implies_true, forall_const, Nat.lt_irrefl, Nat.le_refl, and_imp, sh_159] at g
      exact g
    · have w2' := w2 hb0
      simp (disch := omega) only [wp_gd, wp_bnd, wp_let, wp_jn0, wp_jn1, wp_jn2, wp_if, wp_ret, wp_rdI, wp_rdL, v_rdR, v_ldI, v_ldL, v_ldR, v_stI, v_stB, v_stZ, v_stL, wp_wrI, wp_wrL, wp_wrR, wp_wrZ, wp_retZ, v_md, v_dv, v_tb, upI_2, true_and, and_true, Nat.add_sub_cancel, Nat.zero_lt_succ, Nat.succ_pos, okN, clN, L0, L1, L2, L3, L4, L5, L6, L7, L8, L9, L10, L11, L12, L13, L14, L15, L16, L17, L18, L19, L20, L21, L22, L23, L24, L25, L26, L27, L28, L29, L30, L31, L32, L33, L34, L35, L36, L37, L38, L39, L40, L41, L42, L43, L44, L45, L46, L47, L48, L49, L50, L51, L52, L53, L54, L55, L56, L57, L58, L59, L60, L61, L62, L63, L64, L65, L66, L67, L68, L69, L70, L71, L72, L73, L74, L75, L76, L77, L78, L79, L80, L81, L82, L83, L84, L85, L86, L87, L88, L89, L90, L91, L92, L93, L94, L95, L96, L97, L98, L99, L100, L101, L102, L103, L104, L105, L106, L107, L108, L109, L110, L111, L112, L113, L114, L115, L116, L117, L118, L119, L120, L121, L122, L123, L124, L125, L126, L127, L128, L129, L130, L131, L200, L240, L255, L260, L1000, L4096, L10140, L1000000, ng1, mI_lt, mI_le, lt_mI, le_mI, eq_mI, mI_eq, mI_mI, mI_mE, nI_add, pk_mul, pk_sub, pk_rem, sa_minN, sa_maxN, ne_eq, nI_leI, nI_ltI, nI_eq, dT_le, dF_le, dT_lt, dF_lt, dT_eq, dF_eq, true_imp_iff, false_imp_iff, not_true_eq_false, not_false_eq_true, false_or, or_false, true_or, or_true, false_and, and_false, Decidable.not_not, reduceIte, if_true, if_false, upI_self, upI_ne, upL_1, upL_21, upL_self, upL_ne, upR_1, upR_22, upR_self, upR_ne, va_up_self, va_up_ne, Nat.reduceAdd, Nat.reduceMul, Nat.reduceSub, Nat.reduceLT, Nat.reduceLeDiff, Nat.reduceEqDiff, Nat.reduceSubDiff, Nat.zero_add, cm3, cm5, cm7, cm8, cm25, Nat.not_lt_zero, Nat.zero_le, not_false_iff, and_self, imp_self, implies_true, forall_const, Nat.lt_irrefl, Nat.le_refl, and_imp, sh_0, sh_159, sh_1, sh_15, sh_44, sh_46, sh_48, sh_134, sh_136, sh_151, sh_156, r1, sk_159_20 hk, al_166, w0, w1, w2']
      simp (disch := omega) only [wp_gd, wp_bnd, wp_let, wp_jn0, wp_jn1, wp_jn2, wp_if, wp_ret, wp_rdI, wp_rdL, v_rdR, v_ldI, v_ldL, v_ldR, v_stI, v_stB, v_stZ, v_stL, wp_wrI, wp_wrL, wp_wrR, wp_wrZ, wp_retZ, v_md, v_dv, v_tb, upI_2, true_and, and_true, Nat.add_sub_cancel, Nat.zero_lt_succ, Nat.succ_pos, okN, clN, L0, L1, L2, L3, L4, L5, L6, L7, L8, L9, L10, L11, L12, L13, L14, L15, L16, L17, L18, L19, L20, L21, L22, L23, L24, L25, L26, L27, L28, L29, L30, L31, L32, L33, L34, L35, L36, L37, L38, L39, L40, L41, L42, L43, L44, L45, L46, L47, L48, L49, L50, L51, L52, L53, L54, L55, L56, L57, L58, L59, L60, L61, L62, L63, L64, L65, L66, L67, L68, L69, L70, L71, L72, L73, L74, L75, L76, L77, L78, L79, L80, L81, L82, L83, L84, L85, L86, L87, L88, L89, L90, L91, L92, L93, L94, L95, L96, L97, L98, L99, L100, L101, L102, L103, L104, L105, L106, L107, L108, L109, L110, L111, L112, L113, L114, L115, L116, L117, L118, L119, L120, L121, L122, L123, L124, L125, L126, L127, L128, L129, L130, L131, L200, L240, L255, L260, L1000, L4096, L10140, L1000000, ng1, mI_lt, mI_le, lt_mI, le_mI, eq_mI, mI_eq, mI_mI, mI_mE, nI_add, pk_mul, pk_sub, pk_rem, sa_minN, sa_maxN, ne_eq, nI_leI, nI_ltI, nI_eq, dT_le, dF_le, dT_lt, dF_lt, dT_eq, dF_eq, true_imp_iff, false_imp_iff, not_true_eq_false, not_false_eq_true, false_or, or_false, true_or, or_true, false_and, and_false, Decidable.not_not, reduceIte, if_true, if_false, upI_self, upI_ne, upL_1, upL_21, upL_self, upL_ne, upR_1, upR_22, upR_self, upR_ne, va_up_self, va_up_ne, Nat.reduceAdd, Nat.reduceMul, Nat.reduceSub, Nat.reduceLT, Nat.reduceLeDiff, Nat.reduceEqDiff, Nat.reduceSubDiff, Nat.zero_add, cm3, cm5, cm7, cm8, cm25, Nat.not_lt_zero, Nat.zero_le, not_false_iff, and_self, imp_self, implies_true, forall_const, Nat.lt_irrefl, Nat.le_refl, and_imp, sh_159] at g
      exact g
  · rintro τ ⟨r1', rfl, h1⟩ c
    have g := hQ r1' h1
    simp (disch := omega) only [wp_gd, wp_bnd, wp_let, wp_jn0, wp_jn1, wp_jn2, wp_if, wp_ret, wp_rdI, wp_rdL, v_rdR, v_ldI, v_ldL, v_ldR, v_stI, v_stB, v_stZ, v_stL, wp_wrI, wp_wrL, wp_wrR, wp_wrZ, wp_retZ, v_md, v_dv, v_tb, upI_2, true_and, and_true, Nat.add_sub_cancel, Nat.zero_lt_succ, Nat.succ_pos, okN, clN, L0, L1, L2, L3, L4, L5, L6, L7, L8, L9, L10, L11, L12, L13, L14, L15, L16, L17, L18, L19, L20, L21, L22, L23, L24, L25, L26, L27, L28, L29, L30, L31, L32, L33, L34, L35, L36, L37, L38, L39, L40, L41, L42, L43, L44, L45, L46, L47, L48, L49, L50, L51, L52, L53, L54, L55, L56, L57, L58, L59, L60, L61, L62, L63, L64, L65, L66, L67, L68, L69, L70, L71, L72, L73, L74, L75, L76, L77, L78, L79, L80, L81, L82, L83, L84, L85, L86, L87, L88, L89, L90, L91, L92, L93, L94, L95, L96, L97, L98, L99, L100, L101, L102, L103, L104, L105, L106, L107, L108, L109, L110, L111, L112, L113, L114, L115, L116, L117, L118, L119, L120, L121, L122, L123, L124, L125, L126, L127, L128, L129, L130, L131, L200, L240, L255, L260, L1000, L4096, L10140, L1000000, ng1, mI_lt, mI_le, lt_mI, le_mI, eq_mI, mI_eq, mI_mI, mI_mE, nI_add, pk_mul, pk_sub, pk_rem, sa_minN, sa_maxN, ne_eq, nI_leI, nI_ltI, nI_eq, dT_le, dF_le, dT_lt, dF_lt, dT_eq, dF_eq, true_imp_iff, false_imp_iff, not_true_eq_false, not_false_eq_true, false_or, or_false, true_or, or_true, false_and, and_false, Decidable.not_not, reduceIte, if_true, if_false, upI_self, upI_ne, upL_1, upL_21, upL_self, upL_ne, upR_1, upR_22, upR_self, upR_ne, va_up_self, va_up_ne, Nat.reduceAdd, Nat.reduceMul, Nat.reduceSub, Nat.reduceLT, Nat.reduceLeDiff, Nat.reduceEqDiff, Nat.reduceSubDiff, Nat.zero_add, cm3, cm5, cm7, cm8, cm25, Nat.not_lt_zero, Nat.zero_le, not_false_iff, and_self, imp_self, implies_true, forall_const, Nat.lt_irrefl, Nat.le_refl, and_imp, sh_0, sh_159, sh_1, sh_15, sh_44, sh_46, sh_48, sh_134, sh_136, sh_151, sh_156, r1]
    exact g
theorem m_lay (hcx : Cx L P W F n f z hold σ) (hbh : bh ≤ 1) (hQ : ∀ r : Nat → Int32, (∀ a b, a < P → b < P → r (8 * a + b) = en (mpN (mpE W (cW z bh) z) P a b)) → Q () (va_up σ.1 189 r, σ.2)) : wp (f_X12_layApart 159 (nI bh)) σ Q := by
  have hzr := hcx.zr
  have P8 := hzr.1.1
  have hk := hcx.1
  have r0 : σ.1 159 25 = nI P := hcx.2.2.1.2.1.2.2.2.1
  unfold f_X12_layApart
  rw [wp_gd]
  refine ⟨rfl, ?_⟩
  rw [wp_let]
  refine wp_for1 64 0 (fun i τ => ∃ r1 : Nat → Int32, τ = (va_up σ.1 189 r1, σ.2) ∧ ∀ t, t < i → r1 t = if t / 8 = t % 8 then nI 0 else mI) ?_ ?_ ⟨σ.1 189, Prod.ext (va_up_id rfl).symm rfl, fun t ht => by omega⟩ (by omega) (by unfold sa_F; omega)
  · rintro i τ hi ⟨r1, rfl, h1⟩ c hc
    have go : ∀ v, v = (if i / 8 = i % 8 then nI 0 else mI) → wp (c (nI (i + 1))) (sa_upI (va_up σ.1 189 r1, σ.2) 189 i v) Q := by
      rintro v rfl
      rw [up_set]
      refine hc _ ⟨_, rfl, fun t ht => ?_⟩
      by_cases e : t = i
      · subst e; rw [va_up_self]
      · rw [va_up_ne _ _ e]; exact h1 t (by omega)
    have ed : nI i / nI 8 = nI (i / 8) := pk_div (by omega) (by omega) (by omega)
    have em : nI i - nI i / nI 8 * nI 8 = nI (i % 8) := pk_rem (by omega) (by omega) (by omega)
    rw [ed] at em
    clear hc hcx hzr
    by_cases he : i / 8 = i % 8
    · have g := go _ rfl
      rw [if_pos he] at g
      simp (disch := omega) only [wp_gd, wp_bnd, wp_let, wp_jn0, wp_jn1, wp_jn2, wp_if, wp_ret, wp_rdI, wp_rdL, v_rdR, v_ldI, v_ldL, v_ldR, v_stI, v_stB, v_stZ, v_stL, wp_wrI, wp_wrL, wp_wrR, wp_wrZ, wp_retZ, v_md, v_dv, v_tb, upI_2, true_and, and_true, Nat.add_sub_cancel, Nat.zero_lt_succ, Nat.succ_pos, okN, clN, L0, L1, L2, L3, L4, L5, L6, L7, L8, L9, L10, L11, L12, L13, L14, L15, L16, L17, L18, L19, L20, L21, L22, L23, L24, L25, L26, L27, L28, L29, L30, L31, L32, L33, L34, L35, L36, L37, L38, L39, L40, L41, L42, L43, L44, L45, L46, L47, L48, L49, L50, L51, L52, L53, L54, L55, L56, L57, L58, L59, L60, L61, L62, L63, L64, L65, L66, L67, L68, L69, L70, L71, L72, L73, L74, L75, L76, L77, L78, L79, L80, L81, L82, L83, L84, L85, L86, L87, L88, L89, L90, L91, L92, L93, L94, L95, L96, L97, L98, L99, L100, L101, L102, L103, L104, L105, L106, L107, L108, L109, L110, L111, L112, L113, L114, L115, L116, L117, L118, L119, L120, L121, L122, L123, L124, L125, L126, L127, L128, L129, L130, L131, L200, L240, L255, L260, L1000, L4096, L10140, L1000000, ng1, mI_lt, mI_le, lt_mI, le_mI, eq_mI, mI_eq, mI_mI, mI_mE, nI_add, pk_mul, pk_sub, pk_rem, sa_minN, sa_maxN, ne_eq, nI_leI, nI_ltI, nI_eq, dT_le, dF_le, dT_lt, dF_lt, dT_eq, dF_eq, true_imp_iff, false_imp_iff, not_true_eq_false, not_false_eq_true, false_or, or_false, true_or, or_true, false_and, and_false, Decidable.not_not, reduceIte, if_true, if_false, upI_self, upI_ne, upL_1, upL_21, upL_self, upL_ne, upR_1, upR_22, upR_self, upR_ne, va_up_self, va_up_ne, Nat.reduceAdd, Nat.reduceMul, Nat.reduceSub, Nat.reduceLT, Nat.reduceLeDiff, Nat.reduceEqDiff, Nat.reduceSubDiff, Nat.zero_add, cm3, cm5, cm7, cm8, cm25, Nat.not_lt_zero, Nat.zero_le, not_false_iff, and_self, imp_self, implies_true, forall_const, Nat.lt_irrefl, Nat.le_refl, and_imp, sh_0, sh_159, sh_1, sh_15, sh_44, sh_46, sh_48, sh_134, sh_136, sh_151, sh_156, sk_159_70 hk, al_189, v_dv, v_md, ed]
      exact g
    · have g := go _ rfl
      rw [if_neg he] at g
      simp (disch := omega) only [wp_gd, wp_bnd, wp_let, wp_jn0, wp_jn1, wp_jn2, wp_if, wp_ret, wp_rdI, wp_rdL, v_rdR, v_ldI, v_ldL, v_ldR, v_stI, v_stB, v_stZ, v_stL, wp_wrI, wp_wrL, wp_wrR, wp_wrZ, wp_retZ, v_md, v_dv, v_tb, upI_2, true_and, and_true, Nat.add_sub_cancel, Nat.zero_lt_succ, Nat.succ_pos, okN, clN, L0, L1, L2, L3, L4, L5, L6, L7, L8, L9, L10, L11, L12, L13, L14, L15, L16, L17, L18, L19, L20, L21, L22, L23, L24, L25, L26, L27, L28, L29, L30, L31, L32, L33, L34, L35, L36, L37, L38, L39, L40, L41, L42, L43, L44, L45, L46, L47, L48, L49, L50, L51, L52, L53, L54, L55, L56, L57, L58, L59, L60, L61, L62, L63, L64, L65, L66, L67, L68, L69, L70, L71, L72, L73, L74, L75, L76, L77, L78, L79, L80, L81, L82, L83, L84, L85, L86, L87, L88, L89, L90, L91, L92, L93, L94, L95, L96, L97, L98, L99, L100, L101, L102, L103, L104, L105, L106, L107, L108, L109, L110, L111, L112, L113, L114, L115, L116, L117, L118, L119, L120, L121, L122, L123, L124, L125, L126, L127, L128, L129, L130, L131, L200, L240, L255, L260, L1000, L4096, L10140, L1000000, ng1, mI_lt, mI_le, lt_mI, le_mI, eq_mI, mI_eq, mI_mI, mI_mE, nI_add, pk_mul, pk_sub, pk_rem, sa_minN, sa_maxN, ne_eq, nI_leI, nI_ltI, nI_eq, dT_le, dF_le, dT_lt, dF_lt, dT_eq, dF_eq, true_imp_iff, false_imp_iff, not_true_eq_false, not_false_eq_true, false_or, or_false, true_or, or_true, false_and, and_false, Decidable.not_not, reduceIte, if_true, if_false, upI_self, upI_ne, upL_1, upL_21, upL_self, upL_ne, upR_1, upR_22, upR_self, upR_ne, va_up_self, va_up_ne, Nat.reduceAdd, Nat.reduceMul, Nat.reduceSub, Nat.reduceLT, Nat.reduceLeDiff, Nat.reduceEqDiff, Nat.reduceSubDiff, Nat.zero_add, cm3, cm5, cm7, cm8, cm25, Nat.not_lt_zero, Nat.zero_le, not_false_iff, and_self, imp_self, implies_true, forall_const, Nat.lt_irrefl, Nat.le_refl, and_imp, sh_0, sh_159, sh_1, sh_15, sh_44, sh_46, sh_48, sh_134, sh_136, sh_151, sh_156, sk_159_70 hk, al_189, v_dv, v_md, ed]
      exact g
  · rintro τ ⟨r1, rfl, h1⟩ c
    rw [wp_if]
    refine ⟨fun _ => ?_, fun q => absurd (nI_le (Nat.le_refl 64) (by omega)) q⟩
    rw [wp_let]
    refine lay_ways hcx hbh (fun a b ha hb => ?_) (fun r2 h2 => ?_)
    · rw [h1 _ (by omega)]
      unfold mp0
      by_cases e : a = b
      · rw [if_pos (by omega), if_pos e]; rfl
      · rw [if_neg (by omega), if_neg e]; rfl
    · rw [wp_let]
      refine wp_for1 P 0 (fun m τ => ∃ r3 : Nat → Int32, τ = (va_up σ.1 189 r3, σ.2) ∧ ∀ a b, a < P → b < P → r3 (8 * a + b) = en (mpN (mpE W (cW z bh) z) m a b)) ?_ ?_ ⟨r2, rfl, fun a b ha hb => by rw [h2 a b (by omega) (by omega)]; exact congrArg en (mpE_eq (by omega) (by omega)).symm⟩ (by omega) (by unfold sa_F; omega)
      · rintro m τ hm ⟨r3, rfl, h3⟩ d hd
        have r0' : (va_up σ.1 189 r3, σ.2).1 159 25 = nI P := by
          show va_up σ.1 189 r3 159 25 = _
          rw [va_up_ne _ _ (by omega)]
          exact r0
        rw [wp_bnd, wp_rdI]
        refine ⟨rfl, ?_⟩
        rw [r0', wp_if]
        refine ⟨fun q => absurd q (nI_ge hm (by omega)), fun _ => ?_⟩
        rw [wp_let]
        refine lay_by hcx hbh hm h3 (fun r4 h4 => ?_)
        rw [wp_let, nI_1]
        exact hd _ ⟨r4, rfl, h4⟩
      · rintro τ ⟨r3, rfl, h3⟩ d
        have g := hQ r3 h3
        simp (disch := omega) only [wp_gd, wp_bnd, wp_let, wp_jn0, wp_jn1, wp_jn2, wp_if, wp_ret, wp_rdI, wp_rdL, v_rdR, v_ldI, v_ldL, v_ldR, v_stI, v_stB, v_stZ, v_stL, wp_wrI, wp_wrL, wp_wrR, wp_wrZ, wp_retZ, v_md, v_dv, v_tb, upI_2, true_and, and_true, Nat.add_sub_cancel, Nat.zero_lt_succ, Nat.succ_pos, okN, clN, L0, L1, L2, L3, L4, L5, L6, L7, L8, L9, L10, L11, L12, L13, L14, L15, L16, L17, L18, L19, L20, L21, L22, L23, L24, L25, L26, L27, L28, L29, L30, L31, L32, L33, L34, L35, L36, L37, L38, L39, L40, L41, L42, L43, L44, L45, L46, L47, L48, L49, L50, L51, L52, L53, L54, L55, L56, L57, L58, L59, L60, L61, L62, L63, L64, L65, L66, L67, L68, L69, L70, L71, L72, L73, L74, L75, L76, L77, L78, L79, L80, L81, L82, L83, L84, L85, L86, L87, L88, L89, L90, L91, L92, L93, L94, L95, L96, L97, L98, L99, L100, L101, L102, L103, L104, L105, L106, L107, L108, L109, L110, L111, L112, L113, L114, L115, L116, L117, L118, L119, L120, L121, L122, L123, L124, L125, L126, L127, L128, L129, L130, L131, L200, L240, L255, L260, L1000, L4096, L10140, L1000000, ng1, mI_lt, mI_le, lt_mI, le_mI, eq_mI, mI_eq, mI_mI, mI_mE, nI_add, pk_mul, pk_sub, pk_rem, sa_minN, sa_maxN, ne_eq, nI_leI, nI_ltI, nI_eq, dT_le, dF_le, dT_lt, dF_lt, dT_eq, dF_eq, true_imp_iff, false_imp_iff, not_true_eq_false, not_false_eq_true, false_or, or_false, true_or, or_true, false_and, and_false, Decidable.not_not, reduceIte, if_true, if_false, upI_self, upI_ne, upL_1, upL_21, upL_self, upL_ne, upR_1, upR_22, upR_self, upR_ne, va_up_self, va_up_ne, Nat.reduceAdd, Nat.reduceMul, Nat.reduceSub, Nat.reduceLT, Nat.reduceLeDiff, Nat.reduceEqDiff, Nat.reduceSubDiff, Nat.zero_add, cm3, cm5, cm7, cm8, cm25, Nat.not_lt_zero, Nat.zero_le, not_false_iff, and_self, imp_self, implies_true, forall_const, Nat.lt_irrefl, Nat.le_refl, and_imp, sh_0, sh_159, sh_1, sh_15, sh_44, sh_46, sh_48, sh_134, sh_136, sh_151, sh_156, r0]
        exact g
end LAYW
