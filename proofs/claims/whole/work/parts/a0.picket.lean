/-! PICKETS: how many rows, by the class -/
theorem ch_row : ∀ T, T < 7 → ∀ o, o < 7 → (sa_row 6).getD (T * 7 + o) 0 = nI (zc_ch T o) := by decide
theorem len_row6 : (sa_row 6).length = 49 := by decide
section PICK
variable {σ : sa_St} {cap : Nat → Nat} {N : Nat} {Q : Int32 → sa_St → Prop}
/-- one company's nights chosen among so many -/
theorem c_own {ex : Int32 → sa_M Int32} {i T : Nat} {w : Nat → Int32} (hk : SK σ.2.1) (hi : i < 8) (hT : T ≤ 6) (hcap : σ.1 157 i = nI (cap i)) (hc99 : cap i ≤ 99) (hw : σ.1 158 = w) (hwt : ∀ t, t ≤ T → w t = nI (zc_wr i cap t)) (hQ : wp (ex (nI (zc_wr (i + 1) cap T))) σ Q) :
    wp (sa_wh2 (fun j40 (x13 : Int32) (x14 : Int32) =>
sa_jn0 (ex x13) fun j89 =>
if nI T < x14 then
j89
else
sa_bnd (sa_rdR 10 156 0) fun v17 =>
sa_bnd (sa_ldI .int v17 (nI i)) fun v18 =>
if v18 < x14 then
j89
else
sa_bnd (sa_tb 6 ((nI T * 7) + x14)) fun v19 =>
sa_bnd (sa_rdR 10 156 1) fun v20 =>
sa_bnd (sa_ldI .int v20 (nI T - x14)) fun v21 =>
sa_let ((x13 + (v19 * v21)) : Int32) fun x22 =>
sa_let ((x14 + 1) : Int32) fun x23 =>
j40 x22 x23) sa_F 0 0) σ Q := by
  have hfull : ∀ o, o ≤ T + 1 → (o = T + 1 ∨ cap i < o) → zc_sm o (fun o => if o ≤ cap i then zc_ch T o * zc_wr i cap (T - o) else 0) = zc_wr (i + 1) cap T := by
    intro o ho h
    rw [zc_wr_succ]
    rcases h with rfl | h
    · rfl
    · have : ∀ d, o + d ≤ T + 1 → zc_sm (o + d) (fun o => if o ≤ cap i then zc_ch T o * zc_wr i cap (T - o) else 0) = zc_sm o (fun o => if o ≤ cap i then zc_ch T o * zc_wr i cap (T - o) else 0) := by
        intro d
        induction d with
        | zero => intro _; rfl
        | succ d ih =>
          intro hd
          show zc_sm (o + d) _ + (if o + d ≤ cap i then zc_ch T (o + d) * zc_wr i cap (T - (o + d)) else 0) = _
          rw [ih (by omega), if_neg (by omega), Nat.add_zero]
      have := this (T + 1 - o) (by omega)
      rw [show o + (T + 1 - o) = T + 1 by omega] at this
      exact this.symm
  refine wp_wh2 (fun ms a c τ => ∃ o, c = nI o ∧ o + ms = T + 1 ∧ τ = σ ∧ a = nI (zc_sm o (fun o => if o ≤ cap i then zc_ch T o * zc_wr i cap (T - o) else 0)) ∧ (o = 0 ∨ o - 1 ≤ cap i)) ?_ sa_F (T + 1) 0 0 σ (by unfold sa_F; omega) ⟨0, rfl, by omega, rfl, rfl, Or.inl rfl⟩
  rintro ms a c τ ⟨o, rfl, hms, rfl, rfl, ho⟩ d hd
  by_cases h1 : T < o
  · have e := hfull o (by omega) (Or.inl (by omega))
    rw [e]
    clear hd hfull
    simp (disch := omega) only [wp_gd, wp_bnd, wp_let, wp_jn0, wp_jn1, wp_jn2, wp_if, wp_ret, wp_rdI, wp_rdL, v_rdR, v_ldI, v_ldL, v_ldR, v_stI, v_stB, v_stZ, v_stL, wp_wrI, wp_wrL, wp_wrR, wp_wrZ, wp_retZ, v_md, v_dv, v_tb, upI_2, true_and, and_true, Nat.add_sub_cancel, Nat.zero_lt_succ, Nat.succ_pos, okN, clN, L0, L1, L2, L3, L4, L5, L6, L7, L8, L9, L10, L11, L12, L13, L14, L15, L16, L17, L18, L19, L20, L21, L22, L23, L24, L25, L26, L27, L28, L29, L30, L31, L32, L33, L34, L35, L36, L37, L38, L39, L40, L41, L42, L43, L44, L45, L46, L47, L48, L49, L50, L51, L52, L53, L54, L55, L56, L57, L58, L59, L60, L61, L62, L63, L64, L65, L66, L67, L68, L69, L70, L71, L72, L73, L74, L75, L76, L77, L78, L79, L80, L81, L82, L83, L84, L85, L86, L87, L88, L89, L90, L91, L92, L93, L94, L95, L96, L97, L98, L99, L100, L101, L102, L103, L104, L105, L106, L107, L108, L109, L110, L111, L112, L113, L114, L115, L116, L117, L118, L119, L120, L121, L122, L123, L124, L125, L126, L127, L128, L129, L130, L131, L200, L240, L255, L260, L1000, L4096, L10140, L1000000, ng1, mI_lt, mI_le, lt_mI, le_mI, eq_mI, mI_eq, mI_mI, mI_mE, nI_add, pk_mul, pk_sub, pk_rem, sa_minN, sa_maxN, ne_eq, nI_leI, nI_ltI, nI_eq, dT_le, dF_le, dT_lt, dF_lt, dT_eq, dF_eq, true_imp_iff, false_imp_iff, not_true_eq_false, not_false_eq_true, false_or, or_false, true_or, or_true, false_and, and_false, Decidable.not_not, reduceIte, if_true, if_false, upI_self, upI_ne, upL_1, upL_21, upL_self, upL_ne, upR_1, upR_22, upR_self, upR_ne, va_up_self, va_up_ne, Nat.reduceAdd, Nat.reduceMul, Nat.reduceSub, Nat.reduceLT, Nat.reduceLeDiff, Nat.reduceEqDiff, Nat.reduceSubDiff, Nat.zero_add, cm3, cm5, cm7, cm8, cm25, Nat.not_lt_zero, Nat.zero_le, not_false_iff, and_self, imp_self, implies_true, forall_const, Nat.lt_irrefl, Nat.le_refl, and_imp]
    exact hQ
  by_cases h2 : cap i < o
  · have e := hfull o (by omega) (Or.inr h2)
    rw [e]
    clear hd hfull
    simp (disch := omega) only [wp_gd, wp_bnd, wp_let, wp_jn0, wp_jn1, wp_jn2, wp_if, wp_ret, wp_rdI, wp_rdL, v_rdR, v_ldI, v_ldL, v_ldR, v_stI, v_stB, v_stZ, v_stL, wp_wrI, wp_wrL, wp_wrR, wp_wrZ, wp_retZ, v_md, v_dv, v_tb, upI_2, true_and, and_true, Nat.add_sub_cancel, Nat.zero_lt_succ, Nat.succ_pos, okN, clN, L0, L1, L2, L3, L4, L5, L6, L7, L8, L9, L10, L11, L12, L13, L14, L15, L16, L17, L18, L19, L20, L21, L22, L23, L24, L25, L26, L27, L28, L29, L30, L31, L32, L33, L34, L35, L36, L37, L38, L39, L40, L41, L42, L43, L44, L45, L46, L47, L48, L49, L50, L51, L52, L53, L54, L55, L56, L57, L58, L59, L60, L61, L62, L63, L64, L65, L66, L67, L68, L69, L70, L71, L72, L73, L74, L75, L76, L77, L78, L79, L80, L81, L82, L83, L84, L85, L86, L87, L88, L89, L90, L91, L92, L93, L94, L95, L96, L97, L98, L99, L100, L101, L102, L103, L104, L105, L106, L107, L108, L109, L110, L111, L112, L113, L114, L115, L116, L117, L118, L119, L120, L121, L122, L123, L124, L125, L126, L127, L128, L129, L130, L131, L200, L240, L255, L260, L1000, L4096, L10140, L1000000, ng1, mI_lt, mI_le, lt_mI, le_mI, eq_mI, mI_eq, mI_mI, mI_mE, nI_add, pk_mul, pk_sub, pk_rem, sa_minN, sa_maxN, ne_eq, nI_leI, nI_ltI, nI_eq, dT_le, dF_le, dT_lt, dF_lt, dT_eq, dF_eq, true_imp_iff, false_imp_iff, not_true_eq_false, not_false_eq_true, false_or, or_false, true_or, or_true, false_and, and_false, Decidable.not_not, reduceIte, if_true, if_false, upI_self, upI_ne, upL_1, upL_21, upL_self, upL_ne, upR_1, upR_22, upR_self, upR_ne, va_up_self, va_up_ne, Nat.reduceAdd, Nat.reduceMul, Nat.reduceSub, Nat.reduceLT, Nat.reduceLeDiff, Nat.reduceEqDiff, Nat.reduceSubDiff, Nat.zero_add, cm3, cm5, cm7, cm8, cm25, Nat.not_lt_zero, Nat.zero_le, not_false_iff, and_self, imp_self, implies_true, forall_const, Nat.lt_irrefl, Nat.le_refl, and_imp, sh_156, sk_156_0 hk, al_157, hcap]
    exact hQ
  · have g := hd (ms - 1) (nI (zc_sm (o + 1) (fun o => if o ≤ cap i then zc_ch T o * zc_wr i cap (T - o) else 0))) (nI (o + 1)) τ (by omega) ⟨o + 1, rfl, by omega, rfl, rfl, Or.inr (by omega)⟩
    have es : zc_sm (o + 1) (fun o => if o ≤ cap i then zc_ch T o * zc_wr i cap (T - o) else 0) = zc_sm o (fun o => if o ≤ cap i then zc_ch T o * zc_wr i cap (T - o) else 0) + zc_ch T o * zc_wr i cap (T - o) := by
      show zc_sm o _ + (if o ≤ cap i then zc_ch T o * zc_wr i cap (T - o) else 0) = _
      rw [if_pos (by omega)]
    rw [es] at g
    have hch := ch_row T (by omega) o (by omega)
    rw [show T * 7 + o = 7 * T + o by omega] at hch
    have hch' : (sa_row 6).getD (7 * T + o) (nI 0) = nI (zc_ch T o) := hch
    have hv := hwt (T - o) (by omega)
    have hl := len_row6
    clear hd hfull hQ
    simp (disch := omega) only [wp_gd, wp_bnd, wp_let, wp_jn0, wp_jn1, wp_jn2, wp_if, wp_ret, wp_rdI, wp_rdL, v_rdR, v_ldI, v_ldL, v_ldR, v_stI, v_stB, v_stZ, v_stL, wp_wrI, wp_wrL, wp_wrR, wp_wrZ, wp_retZ, v_md, v_dv, v_tb, upI_2, true_and, and_true, Nat.add_sub_cancel, Nat.zero_lt_succ, Nat.succ_pos, okN, clN, L0, L1, L2, L3, L4, L5, L6, L7, L8, L9, L10, L11, L12, L13, L14, L15, L16, L17, L18, L19, L20, L21, L22, L23, L24, L25, L26, L27, L28, L29, L30, L31, L32, L33, L34, L35, L36, L37, L38, L39, L40, L41, L42, L43, L44, L45, L46, L47, L48, L49, L50, L51, L52, L53, L54, L55, L56, L57, L58, L59, L60, L61, L62, L63, L64, L65, L66, L67, L68, L69, L70, L71, L72, L73, L74, L75, L76, L77, L78, L79, L80, L81, L82, L83, L84, L85, L86, L87, L88, L89, L90, L91, L92, L93, L94, L95, L96, L97, L98, L99, L100, L101, L102, L103, L104, L105, L106, L107, L108, L109, L110, L111, L112, L113, L114, L115, L116, L117, L118, L119, L120, L121, L122, L123, L124, L125, L126, L127, L128, L129, L130, L131, L200, L240, L255, L260, L1000, L4096, L10140, L1000000, ng1, mI_lt, mI_le, lt_mI, le_mI, eq_mI, mI_eq, mI_mI, mI_mE, nI_add, pk_mul, pk_sub, pk_rem, sa_minN, sa_maxN, ne_eq, nI_leI, nI_ltI, nI_eq, dT_le, dF_le, dT_lt, dF_lt, dT_eq, dF_eq, true_imp_iff, false_imp_iff, not_true_eq_false, not_false_eq_true, false_or, or_false, true_or, or_true, false_and, and_false, Decidable.not_not, reduceIte, if_true, if_false, upI_self, upI_ne, upL_1, upL_21, upL_self, upL_ne, upR_1, upR_22, upR_self, upR_ne, va_up_self, va_up_ne, Nat.reduceAdd, Nat.reduceMul, Nat.reduceSub, Nat.reduceLT, Nat.reduceLeDiff, Nat.reduceEqDiff, Nat.reduceSubDiff, Nat.zero_add, cm3, cm5, cm7, cm8, cm25, Nat.not_lt_zero, Nat.zero_le, not_false_iff, and_self, imp_self, implies_true, forall_const, Nat.lt_irrefl, Nat.le_refl, and_imp, sh_156, sk_156_0 hk, sk_156_1 hk, al_157, al_158, hcap, v_tb, hl, hch', hw, hv]
    exact g
end PICK
