def fst0 (p : Nat → Bool) : Nat → Nat → Nat
  | b, 0 => b
  | b, f + 1 => if p b then b else fst0 p (b + 1) f
section LC27
theorem stock_main {k L P W F n : Nat} {f : Nat → LWt} {σ : sa_St} {N l : Nat} (hIv0 : Iv k L P W F n f σ) (hP0 : 0 < P) (hl : 1 ≤ l ∧ l ≤ 9) (hN : 1 ≤ N ∧ N ≤ 6) : wp (f_X11_stock 0 (nI N) (nI l)) σ (fun r τ => wp (f_X12_stock 159 (nI N) (nI l)) τ (fun r2 τ2 => r2 = r ∧ Inv (k + 1) τ2)) := by
  have hIv := hIv0
  obtain ⟨hk, hL, hT, hLd, hM, hW, hO, hC, hP, hG, hS, hZ⟩ := hIv
  obtain ⟨⟨a1, a2, a3, a4, a5, a6⟩, e1, e2, e3, e4, e5, e6⟩ := LD.of hk hL
  obtain ⟨⟨b1, b2, b3⟩, ⟨c0, c1, c3, r0, r1, r3⟩, lp, lw, lf⟩ := hLd
  obtain ⟨m, hkm⟩ := KM.of hC.1
  obtain ⟨wl, hw, hlg⟩ := hC.2
  have hE : f_X1_isEmpty L σ = some (nI 0, σ) := by
    refine run_of ?_
    clear hM hW hO hP hG hS hZ lp lw lf hkm hw hlg hIv0 hL
    simp (disch := omega) only [f_X1_isEmpty, wp_gd, wp_bnd, wp_let, wp_jn0, wp_jn1, wp_jn2, wp_if, wp_ret, wp_rdI, wp_rdL, v_rdR, v_ldI, v_ldL, v_ldR, v_stI, v_stB, v_stZ, v_stL, wp_wrI, wp_wrL, wp_wrR, wp_wrZ, wp_retZ, v_md, v_dv, v_tb, upI_2, true_and, and_true, Nat.add_sub_cancel, Nat.zero_lt_succ, Nat.succ_pos, okN, clN, L0, L1, L2, L3, L4, L5, L6, L7, L8, L9, L10, L11, L12, L13, L14, L15, L16, L17, L18, L19, L20, L21, L22, L23, L24, L25, L26, L27, L28, L29, L30, L31, L32, L33, L34, L35, L36, L37, L38, L39, L40, L41, L42, L43, L44, L45, L46, L47, L48, L49, L50, L51, L52, L53, L54, L55, L56, L57, L58, L59, L60, L61, L62, L63, L64, L65, L66, L67, L68, L69, L70, L71, L72, L73, L74, L75, L76, L77, L78, L79, L80, L81, L82, L83, L84, L85, L86, L87, L88, L89, L90, L91, L92, L93, L94, L95, L96, L97, L98, L99, L100, L101, L102, L103, L104, L105, L106, L107, L108, L109, L110, L111, L112, L113, L114, L115, L116, L117, L118, L119, L120, L121, L122, L123, L124, L125, L126, L127, L128, L129, L130, L131, L200, L240, L255, L260, L1000, L4096, L10140, L1000000, ng1, mI_lt, mI_le, lt_mI, le_mI, eq_mI, mI_eq, mI_mI, mI_mE, nI_add, pk_mul, pk_sub, pk_rem, sa_minN, sa_maxN, ne_eq, nI_leI, nI_ltI, nI_eq, dT_le, dF_le, dT_lt, dF_lt, dT_eq, dF_eq, true_imp_iff, false_imp_iff, not_true_eq_false, not_false_eq_true, false_or, or_false, true_or, or_true, false_and, and_false, Decidable.not_not, reduceIte, if_true, if_false, upI_self, upI_ne, upL_1, upL_21, upL_self, upL_ne, upR_1, upR_22, upR_self, upR_ne, va_up_self, va_up_ne, Nat.reduceAdd, Nat.reduceMul, Nat.reduceSub, Nat.reduceLT, Nat.reduceLeDiff, Nat.reduceEqDiff, Nat.reduceSubDiff, Nat.zero_add, cm3, cm5, cm7, cm8, cm25, Nat.not_lt_zero, Nat.zero_le, not_false_iff, and_self, imp_self, implies_true, forall_const, Nat.lt_irrefl, Nat.le_refl, and_imp, e1, a2, e2, c0]
  have hlen : ∀ b, (prow (σ.1 45) m N l b).length ≤ 262144 := fun b => by rw [prow_len hkm.1]; exact wr_bd hN.2 _
  have hr : wp (f_X11_stock 0 (nI N) (nI l)) σ (fun r τ => r = nI (fst0 (fun b => (prow (σ.1 45) m N l b).isEmpty) 0 100) ∧ ∃ r2 w2, τ = s2 σ r2 w2) := by
    unfold f_X11_stock
    rw [wp_gd]
    refine ⟨rfl, ?_⟩
    rw [wp_bnd, wp_rdR (v := L) rfl a1, wp_bnd, wp_of_eq hE, wp_jn0, wp_if]
    refine ⟨fun q => absurd (show nI 0 = 0 from rfl) q, fun _ => ?_⟩
    rw [wp_bnd, wp_of_eq (c_nights hl hN), wp_if]
    refine ⟨fun _ => ?_, fun q => absurd (show ¬ nI 1 = 0 by decide) q⟩
    rw [wp_let]
    refine wp_for1 100 0 (fun b τ => fst0 (fun b => (prow (σ.1 45) m N l b).isEmpty) 0 100 = fst0 (fun b => (prow (σ.1 45) m N l b).isEmpty) b (100 - b) ∧ ∃ r2 w2, τ = s2 σ r2 w2) ?_ ?_ ⟨rfl, _, _, s2_id.symm⟩ (by omega) (by unfold sa_F; omega)
    · rintro b τ hb ⟨he, r2, w2, rfl⟩ j hj
      rw [wp_if]
      refine ⟨fun q => absurd q (nI_ge (b := 100) hb (by omega)), fun _ => ?_⟩
      have hs : fst0 (fun b => (prow (σ.1 45) m N l b).isEmpty) b (100 - b) = if (prow (σ.1 45) m N l b).isEmpty then b else fst0 (fun b => (prow (σ.1 45) m N l b).isEmpty) (b + 1) (100 - (b + 1)) := by
        rw [show 100 - b = 100 - (b + 1) + 1 by omega]
        rfl
      have hlb := hlen b
      refine c_two (v6 := 0) (J := fun v9 => if ¬ v9 = 0 then sa_let ((nI b + 1) : Int32) fun x10 => j x10 else sa_ret (nI b : Int32)) hk hkm b1 hl (by omega) hN (fun r3 w3 _ => ?_)
      show wp (if _ then _ else _) _ _
      rw [wp_if]
      refine ⟨fun q => ?_, fun q => ?_⟩
      · rw [wp_let, nI_1]
        refine hj _ ⟨?_, r3, w3, rfl⟩
        rw [he, hs, if_neg]
        intro q2
        rw [List.isEmpty_iff] at q2
        rw [q2] at q
        exact q rfl
      · have q' : nI (prow (σ.1 45) m N l b).length = nI 0 := Decidable.not_not.mp q
        rw [nI_eq (by omega) (by omega)] at q'
        rw [wp_ret]
        refine ⟨?_, r3, w3, rfl⟩
        rw [he, hs, if_pos (by rw [List.isEmpty_iff]; exact List.eq_nil_of_length_eq_zero q')]
    · rintro τ ⟨he, hx⟩ j
      rw [wp_if]
      refine ⟨fun _ => ?_, fun q => absurd (show (100 : Int32) ≤ nI 100 by decide) q⟩
      rw [wp_ret]
      exact ⟨by rw [he]; rfl, hx⟩
  refine wp_mono hr ?_
  rintro r τ ⟨rfl, r2, w2, rfl⟩
  have r0' : (sa_upI (s2 σ r2 w2) 159 0 0).1 159 25 = nI P := by
    rw [upI_self, va_up_ne _ _ (by omega), s2_ne (by omega) (by omega)]
    exact r0
  unfold f_X12_stock
  rw [wp_gd]
  refine ⟨rfl, ?_⟩
  rw [wp_bnd, wp_wrI]
  refine ⟨rfl, ?_⟩
  rw [wp_bnd, wp_of_eq (m_nights hP0 b1 r0' hl hN), wp_if]
  refine ⟨fun _ => ?_, fun q => absurd (show ¬ nI 1 = 0 by decide) q⟩
  rw [wp_let]
  refine wp_for1 100 0 (fun b τ => fst0 (fun b => (prow (σ.1 45) m N l b).isEmpty) 0 100 = fst0 (fun b => (prow (σ.1 45) m N l b).isEmpty) b (100 - b) ∧ Dn [0] σ τ ∧ τ.2 = σ.2) ?_ ?_ ⟨rfl, Dn.up s2_dn rfl, rfl⟩ (by omega) (by unfold sa_F; omega)
  · rintro b τ hb ⟨he, hD, h2⟩ j hj
    rw [wp_if]
    refine ⟨fun q => absurd q (nI_nlt (b := b) (a := 99) (by omega) (by omega)), fun _ => ?_⟩
    have hs : fst0 (fun b => (prow (σ.1 45) m N l b).isEmpty) b (100 - b) = if (prow (σ.1 45) m N l b).isEmpty then b else fst0 (fun b => (prow (σ.1 45) m N l b).isEmpty) (b + 1) (100 - (b + 1)) := by
      rw [show 100 - b = 100 - (b + 1) + 1 by omega]
      rfl
    have hlb := hlen b
    have h173 : τ.1 173 = toW (σ.1 45) wl := by rw [hD.row 173 (fun _ => rfl)]; exact hw
    refine m_one (σ := τ) (by rw [h2]; exact hk) h173 hkm b1 (by omega) hl hN (fun r3 => ?_)
    have hD2 : ∀ c x, Dn [0] σ (ps (sa_upI τ 159 64 0) r3 c x) := fun c x => ps_dn (Dn.up hD rfl)
    rw [wp_bnd, wp_rdI, ps_65]
    refine ⟨rfl, ?_⟩
    cases hp : prow (σ.1 45) m N l b with
    | nil =>
      rw [wp_if]
      refine ⟨fun q => absurd rfl q, fun _ => ?_⟩
      rw [wp_ret]
      refine ⟨?_, hIv0.ask0 (hD2 _ _) (by rw [ps_2]; exact congrArg (fun q => q.2 175) h2)⟩
      rw [he, hs, if_pos (by rw [hp]; rfl)]
    | cons d rs =>
      have hd : (prow (σ.1 45) m N l b)[0]? = some d := by rw [hp]; rfl
      obtain ⟨c, hc⟩ := sc_at (n := 0) hd (by omega)
      have hc' : sc 0 (0, none) (d :: rs) = (c, some d) := by rw [← hp]; exact hc
      have hd6 := prow_bd (x := d) hkm.1 hN.2 (by rw [hp]; exact List.mem_cons_self)
      rw [hc', wp_if]
      refine ⟨fun _ => ?_, fun q => ?_⟩
      · rw [wp_let, nI_1]
        refine hj _ ⟨?_, hD2 _ _, h2⟩
        rw [he, hs, if_neg (by rw [hp]; exact Bool.false_ne_true)]
      · have q' : nI d = mI := Decidable.not_not.mp q
        rw [eq_mI (by omega)] at q'
        exact q'.elim
  · rintro τ ⟨he, hD, h2⟩ j
    rw [wp_if]
    refine ⟨fun _ => ?_, fun q => absurd (show (99 : Int32) < nI 100 by decide) q⟩
    rw [wp_ret]
    refine ⟨by rw [he]; rfl, hIv0.ask0 hD (congrArg (fun q => q.2 175) h2)⟩
theorem lc27 (k : Nat) : lc_27 (Inv k) (Inv (k + 1)) := by
  intro σ s1 s2 hI
  refine lco ?_
  obtain ⟨L, P, W, F, n, f, hIv⟩ := Iv.of hI
  have hIv0 := hIv
  obtain ⟨hk, hL, hT, hLd, hM, hW, hO, hC, hP, hG, hS, hZ⟩ := hIv
  obtain ⟨⟨a1, a2, a3, a4, a5, a6⟩, e1, e2, e3, e4, e5, e6⟩ := LD.of hk hL
  have hL39 := hL.n
  obtain ⟨⟨b1, b2, b3⟩, ⟨c0, c1, c3, r0, r1, r3⟩, lp, lw, lf⟩ := hLd
  clear hL39 hM hW hO hC hP hG hS hZ lp lw lf
  rcases Nat.eq_zero_or_pos P with rfl | hP0
  · simp (disch := omega) only [f_X11_stock, f_X12_stock, f_X1_isEmpty, f_X12_areNights, wp_gd, wp_bnd, wp_let, wp_jn0, wp_jn1, wp_jn2, wp_if, wp_ret, wp_rdI, wp_rdL, v_rdR, v_ldI, v_ldL, v_ldR, v_stI, v_stB, v_stZ, v_stL, wp_wrI, wp_wrL, wp_wrR, wp_wrZ, wp_retZ, v_md, v_dv, v_tb, upI_2, true_and, and_true, Nat.add_sub_cancel, Nat.zero_lt_succ, Nat.succ_pos, okN, clN, L0, L1, L2, L3, L4, L5, L6, L7, L8, L9, L10, L11, L12, L13, L14, L15, L16, L17, L18, L19, L20, L21, L22, L23, L24, L25, L26, L27, L28, L29, L30, L31, L32, L33, L34, L35, L36, L37, L38, L39, L40, L41, L42, L43, L44, L45, L46, L47, L48, L49, L50, L51, L52, L53, L54, L55, L56, L57, L58, L59, L60, L61, L62, L63, L64, L65, L66, L67, L68, L69, L70, L71, L72, L73, L74, L75, L76, L77, L78, L79, L80, L81, L82, L83, L84, L85, L86, L87, L88, L89, L90, L91, L92, L93, L94, L95, L96, L97, L98, L99, L100, L101, L102, L103, L104, L105, L106, L107, L108, L109, L110, L111, L112, L113, L114, L115, L116, L117, L118, L119, L120, L121, L122, L123, L124, L125, L126, L127, L128, L129, L130, L131, L200, L240, L255, L260, L1000, L4096, L10140, L1000000, ng1, mI_lt, mI_le, lt_mI, le_mI, eq_mI, mI_eq, mI_mI, mI_mE, nI_add, pk_mul, pk_sub, pk_rem, sa_minN, sa_maxN, ne_eq, nI_leI, nI_ltI, nI_eq, dT_le, dF_le, dT_lt, dF_lt, dT_eq, dF_eq, true_imp_iff, false_imp_iff, not_true_eq_false, not_false_eq_true, false_or, or_false, true_or, or_true, false_and, and_false, Decidable.not_not, reduceIte, if_true, if_false, upI_self, upI_ne, upL_1, upL_21, upL_self, upL_ne, upR_1, upR_22, upR_self, upR_ne, va_up_self, va_up_ne, Nat.reduceAdd, Nat.reduceMul, Nat.reduceSub, Nat.reduceLT, Nat.reduceLeDiff, Nat.reduceEqDiff, Nat.reduceSubDiff, Nat.zero_add, cm3, cm5, cm7, cm8, cm25, Nat.not_lt_zero, Nat.zero_le, not_false_iff, and_self, imp_self, implies_true, forall_const, Nat.lt_irrefl, Nat.le_refl, and_imp, sh_0, sh_159, sh_1, sh_15, sh_44, sh_46, sh_48, sh_134, sh_136, sh_151, sh_156, e1, e2, e3, e4, e5, e6, a1, a2, a3, a4, a5, a6, c0, c1, c3, r0, r1, r3]
    exact hIv0.ask0 (Dn.up (Dn.refl σ) rfl) rfl
  rcases nx s1 7 with ⟨g1, g2, g3, g4, g5, g6⟩ | ⟨g1, g2, g3, g4, g5, g6, -⟩ | ⟨N, hN, rfl⟩
  · simp (disch := omega) only [f_X11_stock, f_X12_stock, f_X1_isEmpty, f_X12_areNights, f_X11_areNights, w_isIn, le_sub1, i64le, l64_0, l64_1, l64_2, l64_3, l64_5, l64_6, l64_7, l64_9, l64_12, l64_24, l64_48, l64_99, wp_gd, wp_bnd, wp_let, wp_jn0, wp_jn1, wp_jn2, wp_if, wp_ret, wp_rdI, wp_rdL, v_rdR, v_ldI, v_ldL, v_ldR, v_stI, v_stB, v_stZ, v_stL, wp_wrI, wp_wrL, wp_wrR, wp_wrZ, wp_retZ, v_md, v_dv, v_tb, upI_2, true_and, and_true, Nat.add_sub_cancel, Nat.zero_lt_succ, Nat.succ_pos, okN, clN, L0, L1, L2, L3, L4, L5, L6, L7, L8, L9, L10, L11, L12, L13, L14, L15, L16, L17, L18, L19, L20, L21, L22, L23, L24, L25, L26, L27, L28, L29, L30, L31, L32, L33, L34, L35, L36, L37, L38, L39, L40, L41, L42, L43, L44, L45, L46, L47, L48, L49, L50, L51, L52, L53, L54, L55, L56, L57, L58, L59, L60, L61, L62, L63, L64, L65, L66, L67, L68, L69, L70, L71, L72, L73, L74, L75, L76, L77, L78, L79, L80, L81, L82, L83, L84, L85, L86, L87, L88, L89, L90, L91, L92, L93, L94, L95, L96, L97, L98, L99, L100, L101, L102, L103, L104, L105, L106, L107, L108, L109, L110, L111, L112, L113, L114, L115, L116, L117, L118, L119, L120, L121, L122, L123, L124, L125, L126, L127, L128, L129, L130, L131, L200, L240, L255, L260, L1000, L4096, L10140, L1000000, ng1, mI_lt, mI_le, lt_mI, le_mI, eq_mI, mI_eq, mI_mI, mI_mE, nI_add, pk_mul, pk_sub, pk_rem, sa_minN, sa_maxN, ne_eq, nI_leI, nI_ltI, nI_eq, dT_le, dF_le, dT_lt, dF_lt, dT_eq, dF_eq, true_imp_iff, false_imp_iff, not_true_eq_false, not_false_eq_true, false_or, or_false, true_or, or_true, false_and, and_false, Decidable.not_not, reduceIte, if_true, if_false, upI_self, upI_ne, upL_1, upL_21, upL_self, upL_ne, upR_1, upR_22, upR_self, upR_ne, va_up_self, va_up_ne, Nat.reduceAdd, Nat.reduceMul, Nat.reduceSub, Nat.reduceLT, Nat.reduceLeDiff, Nat.reduceEqDiff, Nat.reduceSubDiff, Nat.zero_add, cm3, cm5, cm7, cm8, cm25, Nat.not_lt_zero, Nat.zero_le, not_false_iff, and_self, imp_self, implies_true, forall_const, Nat.lt_irrefl, Nat.le_refl, and_imp, sh_0, sh_159, sh_1, sh_15, sh_44, sh_46, sh_48, sh_134, sh_136, sh_151, sh_156, e1, e2, e3, e4, e5, e6, a1, a2, a3, a4, a5, a6, c0, c1, c3, r0, r1, r3, g1, g2, g3, g4, g5, g6]
    exact hIv0.ask0 (Dn.up (Dn.refl σ) rfl) rfl
  · simp (disch := omega) only [f_X11_stock, f_X12_stock, f_X1_isEmpty, f_X12_areNights, f_X11_areNights, w_isIn, le_sub1, i64le, l64_0, l64_1, l64_2, l64_3, l64_5, l64_6, l64_7, l64_9, l64_12, l64_24, l64_48, l64_99, wp_gd, wp_bnd, wp_let, wp_jn0, wp_jn1, wp_jn2, wp_if, wp_ret, wp_rdI, wp_rdL, v_rdR, v_ldI, v_ldL, v_ldR, v_stI, v_stB, v_stZ, v_stL, wp_wrI, wp_wrL, wp_wrR, wp_wrZ, wp_retZ, v_md, v_dv, v_tb, upI_2, true_and, and_true, Nat.add_sub_cancel, Nat.zero_lt_succ, Nat.succ_pos, okN, clN, L0, L1, L2, L3, L4, L5, L6, L7, L8, L9, L10, L11, L12, L13, L14, L15, L16, L17, L18, L19, L20, L21, L22, L23, L24, L25, L26, L27, L28, L29, L30, L31, L32, L33, L34, L35, L36, L37, L38, L39, L40, L41, L42, L43, L44, L45, L46, L47, L48, L49, L50, L51, L52, L53, L54, L55, L56, L57, L58, L59, L60, L61, L62, L63, L64, L65, L66, L67, L68, L69, L70, L71, L72, L73, L74, L75, L76, L77, L78, L79, L80, L81, L82, L83, L84, L85, L86, L87, L88, L89, L90, L91, L92, L93, L94, L95, L96, L97, L98, L99, L100, L101, L102, L103, L104, L105, L106, L107, L108, L109, L110, L111, L112, L113, L114, L115, L116, L117, L118, L119, L120, L121, L122, L123, L124, L125, L126, L127, L128, L129, L130, L131, L200, L240, L255, L260, L1000, L4096, L10140, L1000000, ng1, mI_lt, mI_le, lt_mI, le_mI, eq_mI, mI_eq, mI_mI, mI_mE, nI_add, pk_mul, pk_sub, pk_rem, sa_minN, sa_maxN, ne_eq, nI_leI, nI_ltI, nI_eq, dT_le, dF_le, dT_lt, dF_lt, dT_eq, dF_eq, true_imp_iff, false_imp_iff, not_true_eq_false, not_false_eq_true, false_or, or_false, true_or, or_true, false_and, and_false, Decidable.not_not, reduceIte, if_true, if_false, upI_self, upI_ne, upL_1, upL_21, upL_self, upL_ne, upR_1, upR_22, upR_self, upR_ne, va_up_self, va_up_ne, Nat.reduceAdd, Nat.reduceMul, Nat.reduceSub, Nat.reduceLT, Nat.reduceLeDiff, Nat.reduceEqDiff, Nat.reduceSubDiff, Nat.zero_add, cm3, cm5, cm7, cm8, cm25, Nat.not_lt_zero, Nat.zero_le, not_false_iff, and_self, imp_self, implies_true, forall_const, Nat.lt_irrefl, Nat.le_refl, and_imp, sh_0, sh_159, sh_1, sh_15, sh_44, sh_46, sh_48, sh_134, sh_136, sh_151, sh_156, e1, e2, e3, e4, e5, e6, a1, a2, a3, a4, a5, a6, c0, c1, c3, r0, r1, r3, g1, g2, g3, g4, g5, g6]
    exact hIv0.ask0 (Dn.up (Dn.refl σ) rfl) rfl
  rcases Nat.eq_zero_or_pos N with rfl | hN0
  · simp (disch := omega) only [f_X11_stock, f_X12_stock, f_X1_isEmpty, f_X12_areNights, f_X11_areNights, w_isIn, le_sub1, i64le, l64_0, l64_1, l64_2, l64_3, l64_5, l64_6, l64_7, l64_9, l64_12, l64_24, l64_48, l64_99, wp_gd, wp_bnd, wp_let, wp_jn0, wp_jn1, wp_jn2, wp_if, wp_ret, wp_rdI, wp_rdL, v_rdR, v_ldI, v_ldL, v_ldR, v_stI, v_stB, v_stZ, v_stL, wp_wrI, wp_wrL, wp_wrR, wp_wrZ, wp_retZ, v_md, v_dv, v_tb, upI_2, true_and, and_true, Nat.add_sub_cancel, Nat.zero_lt_succ, Nat.succ_pos, okN, clN, L0, L1, L2, L3, L4, L5, L6, L7, L8, L9, L10, L11, L12, L13, L14, L15, L16, L17, L18, L19, L20, L21, L22, L23, L24, L25, L26, L27, L28, L29, L30, L31, L32, L33, L34, L35, L36, L37, L38, L39, L40, L41, L42, L43, L44, L45, L46, L47, L48, L49, L50, L51, L52, L53, L54, L55, L56, L57, L58, L59, L60, L61, L62, L63, L64, L65, L66, L67, L68, L69, L70, L71, L72, L73, L74, L75, L76, L77, L78, L79, L80, L81, L82, L83, L84, L85, L86, L87, L88, L89, L90, L91, L92, L93, L94, L95, L96, L97, L98, L99, L100, L101, L102, L103, L104, L105, L106, L107, L108, L109, L110, L111, L112, L113, L114, L115, L116, L117, L118, L119, L120, L121, L122, L123, L124, L125, L126, L127, L128, L129, L130, L131, L200, L240, L255, L260, L1000, L4096, L10140, L1000000, ng1, mI_lt, mI_le, lt_mI, le_mI, eq_mI, mI_eq, mI_mI, mI_mE, nI_add, pk_mul, pk_sub, pk_rem, sa_minN, sa_maxN, ne_eq, nI_leI, nI_ltI, nI_eq, dT_le, dF_le, dT_lt, dF_lt, dT_eq, dF_eq, true_imp_iff, false_imp_iff, not_true_eq_false, not_false_eq_true, false_or, or_false, true_or, or_true, false_and, and_false, Decidable.not_not, reduceIte, if_true, if_false, upI_self, upI_ne, upL_1, upL_21, upL_self, upL_ne, upR_1, upR_22, upR_self, upR_ne, va_up_self, va_up_ne, Nat.reduceAdd, Nat.reduceMul, Nat.reduceSub, Nat.reduceLT, Nat.reduceLeDiff, Nat.reduceEqDiff, Nat.reduceSubDiff, Nat.zero_add, cm3, cm5, cm7, cm8, cm25, Nat.not_lt_zero, Nat.zero_le, not_false_iff, and_self, imp_self, implies_true, forall_const, Nat.lt_irrefl, Nat.le_refl, and_imp, sh_0, sh_159, sh_1, sh_15, sh_44, sh_46, sh_48, sh_134, sh_136, sh_151, sh_156, e1, e2, e3, e4, e5, e6, a1, a2, a3, a4, a5, a6, c0, c1, c3, r0, r1, r3]
    exact hIv0.ask0 (Dn.up (Dn.refl σ) rfl) rfl
  rcases nx s2 10 with ⟨g1, g2, g3, g4, g5, g6⟩ | ⟨g1, g2, g3, g4, g5, g6, -⟩ | ⟨l, hl, rfl⟩
  · simp (disch := omega) only [f_X11_stock, f_X12_stock, f_X1_isEmpty, f_X12_areNights, f_X11_areNights, w_isIn, le_sub1, i64le, l64_0, l64_1, l64_2, l64_3, l64_5, l64_6, l64_7, l64_9, l64_12, l64_24, l64_48, l64_99, wp_gd, wp_bnd, wp_let, wp_jn0, wp_jn1, wp_jn2, wp_if, wp_ret, wp_rdI, wp_rdL, v_rdR, v_ldI, v_ldL, v_ldR, v_stI, v_stB, v_stZ, v_stL, wp_wrI, wp_wrL, wp_wrR, wp_wrZ, wp_retZ, v_md, v_dv, v_tb, upI_2, true_and, and_true, Nat.add_sub_cancel, Nat.zero_lt_succ, Nat.succ_pos, okN, clN, L0, L1, L2, L3, L4, L5, L6, L7, L8, L9, L10, L11, L12, L13, L14, L15, L16, L17, L18, L19, L20, L21, L22, L23, L24, L25, L26, L27, L28, L29, L30, L31, L32, L33, L34, L35, L36, L37, L38, L39, L40, L41, L42, L43, L44, L45, L46, L47, L48, L49, L50, L51, L52, L53, L54, L55, L56, L57, L58, L59, L60, L61, L62, L63, L64, L65, L66, L67, L68, L69, L70, L71, L72, L73, L74, L75, L76, L77, L78, L79, L80, L81, L82, L83, L84, L85, L86, L87, L88, L89, L90, L91, L92, L93, L94, L95, L96, L97, L98, L99, L100, L101, L102, L103, L104, L105, L106, L107, L108, L109, L110, L111, L112, L113, L114, L115, L116, L117, L118, L119, L120, L121, L122, L123, L124, L125, L126, L127, L128, L129, L130, L131, L200, L240, L255, L260, L1000, L4096, L10140, L1000000, ng1, mI_lt, mI_le, lt_mI, le_mI, eq_mI, mI_eq, mI_mI, mI_mE, nI_add, pk_mul, pk_sub, pk_rem, sa_minN, sa_maxN, ne_eq, nI_leI, nI_ltI, nI_eq, dT_le, dF_le, dT_lt, dF_lt, dT_eq, dF_eq, true_imp_iff, false_imp_iff, not_true_eq_false, not_false_eq_true, false_or, or_false, true_or, or_true, false_and, and_false, Decidable.not_not, reduceIte, if_true, if_false, upI_self, upI_ne, upL_1, upL_21, upL_self, upL_ne, upR_1, upR_22, upR_self, upR_ne, va_up_self, va_up_ne, Nat.reduceAdd, Nat.reduceMul, Nat.reduceSub, Nat.reduceLT, Nat.reduceLeDiff, Nat.reduceEqDiff, Nat.reduceSubDiff, Nat.zero_add, cm3, cm5, cm7, cm8, cm25, Nat.not_lt_zero, Nat.zero_le, not_false_iff, and_self, imp_self, implies_true, forall_const, Nat.lt_irrefl, Nat.le_refl, and_imp, sh_0, sh_159, sh_1, sh_15, sh_44, sh_46, sh_48, sh_134, sh_136, sh_151, sh_156, e1, e2, e3, e4, e5, e6, a1, a2, a3, a4, a5, a6, c0, c1, c3, r0, r1, r3, g1, g2, g3, g4, g5, g6]
    exact hIv0.ask0 (Dn.up (Dn.refl σ) rfl) rfl
  · simp (disch := omega) only [f_X11_stock, f_X12_stock, f_X1_isEmpty, f_X12_areNights, f_X11_areNights, w_isIn, le_sub1, i64le, l64_0, l64_1, l64_2, l64_3, l64_5, l64_6, l64_7, l64_9, l64_12, l64_24, l64_48, l64_99, wp_gd, wp_bnd, wp_let, wp_jn0, wp_jn1, wp_jn2, wp_if, wp_ret, wp_rdI, wp_rdL, v_rdR, v_ldI, v_ldL, v_ldR, v_stI, v_stB, v_stZ, v_stL, wp_wrI, wp_wrL, wp_wrR, wp_wrZ, wp_retZ, v_md, v_dv, v_tb, upI_2, true_and, and_true, Nat.add_sub_cancel, Nat.zero_lt_succ, Nat.succ_pos, okN, clN, L0, L1, L2, L3, L4, L5, L6, L7, L8, L9, L10, L11, L12, L13, L14, L15, L16, L17, L18, L19, L20, L21, L22, L23, L24, L25, L26, L27, L28, L29, L30, L31, L32, L33, L34, L35, L36, L37, L38, L39, L40, L41, L42, L43, L44, L45, L46, L47, L48, L49, L50, L51, L52, L53, L54, L55, L56, L57, L58, L59, L60, L61, L62, L63, L64, L65, L66, L67, L68, L69, L70, L71, L72, L73, L74, L75, L76, L77, L78, L79, L80, L81, L82, L83, L84, L85, L86, L87, L88, L89, L90, L91, L92, L93, L94, L95, L96, L97, L98, L99, L100, L101, L102, L103, L104, L105, L106, L107, L108, L109, L110, L111, L112, L113, L114, L115, L116, L117, L118, L119, L120, L121, L122, L123, L124, L125, L126, L127, L128, L129, L130, L131, L200, L240, L255, L260, L1000, L4096, L10140, L1000000, ng1, mI_lt, mI_le, lt_mI, le_mI, eq_mI, mI_eq, mI_mI, mI_mE, nI_add, pk_mul, pk_sub, pk_rem, sa_minN, sa_maxN, ne_eq, nI_leI, nI_ltI, nI_eq, dT_le, dF_le, dT_lt, dF_lt, dT_eq, dF_eq, true_imp_iff, false_imp_iff, not_true_eq_false, not_false_eq_true, false_or, or_false, true_or, or_true, false_and, and_false, Decidable.not_not, reduceIte, if_true, if_false, upI_self, upI_ne, upL_1, upL_21, upL_self, upL_ne, upR_1, upR_22, upR_self, upR_ne, va_up_self, va_up_ne, Nat.reduceAdd, Nat.reduceMul, Nat.reduceSub, Nat.reduceLT, Nat.reduceLeDiff, Nat.reduceEqDiff, Nat.reduceSubDiff, Nat.zero_add, cm3, cm5, cm7, cm8, cm25, Nat.not_lt_zero, Nat.zero_le, not_false_iff, and_self, imp_self, implies_true, forall_const, Nat.lt_irrefl, Nat.le_refl, and_imp, sh_0, sh_159, sh_1, sh_15, sh_44, sh_46, sh_48, sh_134, sh_136, sh_151, sh_156, e1, e2, e3, e4, e5, e6, a1, a2, a3, a4, a5, a6, c0, c1, c3, r0, r1, r3, g1, g2, g3, g4, g5, g6]
    exact hIv0.ask0 (Dn.up (Dn.refl σ) rfl) rfl
  rcases Nat.eq_zero_or_pos l with rfl | hl0
  · simp (disch := omega) only [f_X11_stock, f_X12_stock, f_X1_isEmpty, f_X12_areNights, f_X11_areNights, w_isIn, le_sub1, i64le, l64_0, l64_1, l64_2, l64_3, l64_5, l64_6, l64_7, l64_9, l64_12, l64_24, l64_48, l64_99, wp_gd, wp_bnd, wp_let, wp_jn0, wp_jn1, wp_jn2, wp_if, wp_ret, wp_rdI, wp_rdL, v_rdR, v_ldI, v_ldL, v_ldR, v_stI, v_stB, v_stZ, v_stL, wp_wrI, wp_wrL, wp_wrR, wp_wrZ, wp_retZ, v_md, v_dv, v_tb, upI_2, true_and, and_true, Nat.add_sub_cancel, Nat.zero_lt_succ, Nat.succ_pos, okN, clN, L0, L1, L2, L3, L4, L5, L6, L7, L8, L9, L10, L11, L12, L13, L14, L15, L16, L17, L18, L19, L20, L21, L22, L23, L24, L25, L26, L27, L28, L29, L30, L31, L32, L33, L34, L35, L36, L37, L38, L39, L40, L41, L42, L43, L44, L45, L46, L47, L48, L49, L50, L51, L52, L53, L54, L55, L56, L57, L58, L59, L60, L61, L62, L63, L64, L65, L66, L67, L68, L69, L70, L71, L72, L73, L74, L75, L76, L77, L78, L79, L80, L81, L82, L83, L84, L85, L86, L87, L88, L89, L90, L91, L92, L93, L94, L95, L96, L97, L98, L99, L100, L101, L102, L103, L104, L105, L106, L107, L108, L109, L110, L111, L112, L113, L114, L115, L116, L117, L118, L119, L120, L121, L122, L123, L124, L125, L126, L127, L128, L129, L130, L131, L200, L240, L255, L260, L1000, L4096, L10140, L1000000, ng1, mI_lt, mI_le, lt_mI, le_mI, eq_mI, mI_eq, mI_mI, mI_mE, nI_add, pk_mul, pk_sub, pk_rem, sa_minN, sa_maxN, ne_eq, nI_leI, nI_ltI, nI_eq, dT_le, dF_le, dT_lt, dF_lt, dT_eq, dF_eq, true_imp_iff, false_imp_iff, not_true_eq_false, not_false_eq_true, false_or, or_false, true_or, or_true, false_and, and_false, Decidable.not_not, reduceIte, if_true, if_false, upI_self, upI_ne, upL_1, upL_21, upL_self, upL_ne, upR_1, upR_22, upR_self, upR_ne, va_up_self, va_up_ne, Nat.reduceAdd, Nat.reduceMul, Nat.reduceSub, Nat.reduceLT, Nat.reduceLeDiff, Nat.reduceEqDiff, Nat.reduceSubDiff, Nat.zero_add, cm3, cm5, cm7, cm8, cm25, Nat.not_lt_zero, Nat.zero_le, not_false_iff, and_self, imp_self, implies_true, forall_const, Nat.lt_irrefl, Nat.le_refl, and_imp, sh_0, sh_159, sh_1, sh_15, sh_44, sh_46, sh_48, sh_134, sh_136, sh_151, sh_156, e1, e2, e3, e4, e5, e6, a1, a2, a3, a4, a5, a6, c0, c1, c3, r0, r1, r3]
    exact hIv0.ask0 (Dn.up (Dn.refl σ) rfl) rfl
  exact stock_main hIv0 hP0 ⟨hl0, by omega⟩ ⟨hN0, by omega⟩
end LC27
