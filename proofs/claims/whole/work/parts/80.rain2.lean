section CRAIN
variable {L P W F n H B m : Nat} {f : Nat → LWt} {z : Nat → Int32} {hold : Int32}
/-- a company in a camp of which other companies have lost -/
theorem c_rain {σ0 σ : sa_St} {id K ρ : Nat} {C : C3} {Q : Unit → sa_St → Prop} (hcx0 : Cx L P W F n f z hold σ0) (hca0 : CA σ0.2.1 id K) (hid : id = 44 ∧ K = 45 ∨ id = 46 ∧ K = 47) (hcs : CS (sS K id) σ0 id K C σ) (hkm : KM P W H B m C.1) (hH : H ≤ 100000) (hρ : ρ < 2 ^ 31) (hQ : ∀ τ, CS (sS K id) σ0 id K (zL (rD z C.1 ρ) (fun i => nI (rA f hold z C.1 i)) (xp C.1) C m) τ → Q () τ) : wp (f_X0_letRain id L 15 (nI ρ)) σ Q := by
  have hzr := hcx0.zr
  have m8 := hkm.1
  have P8 := hzr.1.1
  have hpi : ∀ i, i < m → xp C.1 i < 8 := fun i hi => Nat.lt_of_lt_of_le ((hkm.2.2.2.1 i hi).x P8).1.1 P8
  have q1 := hca0.1
  simp (disch := omega) only [f_X0_letRain, wp_gd, wp_bnd, wp_let, wp_jn0, wp_jn1, wp_jn2, wp_if, wp_ret, wp_rdI, wp_rdL, v_rdR, v_ldI, v_ldL, v_ldR, v_stI, v_stB, v_stZ, v_stL, wp_wrI, wp_wrL, wp_wrR, wp_wrZ, wp_retZ, v_md, v_dv, v_tb, upI_2, true_and, and_true, Nat.add_sub_cancel, Nat.zero_lt_succ, Nat.succ_pos, okN, clN, L0, L1, L2, L3, L4, L5, L6, L7, L8, L9, L10, L11, L12, L13, L14, L15, L16, L17, L18, L19, L20, L21, L22, L23, L24, L25, L26, L27, L28, L29, L30, L31, L32, L33, L34, L35, L36, L37, L38, L39, L40, L41, L42, L43, L44, L45, L46, L47, L48, L49, L50, L51, L52, L53, L54, L55, L56, L57, L58, L59, L60, L61, L62, L63, L64, L65, L66, L67, L68, L69, L70, L71, L72, L73, L74, L75, L76, L77, L78, L79, L80, L81, L82, L83, L84, L85, L86, L87, L88, L89, L90, L91, L92, L93, L94, L95, L96, L97, L98, L99, L100, L101, L102, L103, L104, L105, L106, L107, L108, L109, L110, L111, L112, L113, L114, L115, L116, L117, L118, L119, L120, L121, L122, L123, L124, L125, L126, L127, L128, L129, L130, L131, L200, L240, L255, L260, L1000, L4096, L10140, L1000000, ng1, mI_lt, mI_le, lt_mI, le_mI, eq_mI, mI_eq, mI_mI, mI_mE, nI_add, pk_mul, pk_sub, pk_rem, sa_minN, sa_maxN, ne_eq, nI_leI, nI_ltI, nI_eq, dT_le, dF_le, dT_lt, dF_lt, dT_eq, dF_eq, true_imp_iff, false_imp_iff, not_true_eq_false, not_false_eq_true, false_or, or_false, true_or, or_true, false_and, and_false, Decidable.not_not, reduceIte, if_true, if_false, upI_self, upI_ne, upL_1, upL_21, upL_self, upL_ne, upR_1, upR_22, upR_self, upR_ne, va_up_self, va_up_ne, Nat.reduceAdd, Nat.reduceMul, Nat.reduceSub, Nat.reduceLT, Nat.reduceLeDiff, Nat.reduceEqDiff, Nat.reduceSubDiff, Nat.zero_add, cm3, cm5, cm7, cm8, cm25, Nat.not_lt_zero, Nat.zero_le, not_false_iff, and_self, imp_self, implies_true, forall_const, Nat.lt_irrefl, Nat.le_refl, and_imp, q1]
  refine wp_for1 m 0 (fun i τ => CS (sS K id) σ0 id K (zL (rD z C.1 ρ) (fun i => nI (rA f hold z C.1 i)) (xp C.1) C i) τ) ?_ ?_ hcs (by omega) (by unfold sa_F; omega)
  · intro i τ hi hI c hc
    have hcx := (hI.fa hid).cx hcx0
    have hca := hI.ca hca0
    obtain ⟨⟨xp8, kp⟩, ⟨xl9, xv12, -, kl, kv⟩, ⟨xg99, kg⟩, ⟨xw9, kw⟩, ⟨xd3, kd⟩⟩ := (hkm.2.2.2.1 i hi).x P8
    have ow : ∀ x, x < 7 → (zL (rD z C.1 ρ) (fun i => nI (rA f hold z C.1 i)) (xp C.1) C i).1 (23 + 7 * i + x) = C.1 (23 + 7 * i + x) := fun x hx => zL_own hx (fun j hj => hpi j (by omega)) (Or.inr (Or.inl (Nat.le_refl i)))
    have o0 := (ow 0 (by omega)).trans kp
    have o1 := (ow 1 (by omega)).trans kl
    have o2 := (ow 2 (by omega)).trans kg
    have o3 := (ow 3 (by omega)).trans kw
    have o4 := (ow 4 (by omega)).trans kd
    have o22 := (zL_mid (D := rD z C.1 ρ) (v := fun i => nI (rA f hold z C.1 i)) (p := xp C.1) (C := C) (x := 22) (m := i) (fun j hj => hpi j (by omega)) (Or.inl (by omega))).trans hkm.2.1
    obtain ⟨t1, t2⟩ := hkm.h21 hH
    have o21 := (zL_mid (D := rD z C.1 ρ) (v := fun i => nI (rA f hold z C.1 i)) (p := xp C.1) (C := C) (x := 21) (m := i) (fun j hj => hpi j (by omega)) (Or.inl (by omega))).trans t2
    have step := zL_succ (rD z C.1 ρ) (fun i => nI (rA f hold z C.1 i)) (xp C.1) C i
    generalize zL (rD z C.1 ρ) (fun i => nI (rA f hold z C.1 i)) (xp C.1) C i = Ci at hI o0 o1 o2 o3 o4 o22 o21 step
    have c2 := hI.2.1
    obtain ⟨hh9, hhz⟩ := hN_eq hzr xp8
    obtain ⟨r, r1, hrf⟩ := (hzr.2.1 (xp C.1 i) xp8).2.1
    have hb := bitI hρ (hpi i hi)
    have i8 : i < 8 := by omega
    have skip : rD z C.1 ρ i = false → wp (c (nI (i + 1))) τ Q := fun hf => hc τ (by rw [step, hf]; exact hI)
    have go : rD z C.1 ρ i = true → wp (f_X0_lossByRain id L 15 (nI i)) τ (fun v9 τ1 => wp (f_X0_of id (nI i) (nI 0)) τ1 (fun v10 τ2 => wp (f_X0_lose id (nI i) v9 v10) τ2 (fun _ τ3 => wp (c (nI (i + 1))) τ3 Q))) := by
      intro hD
      refine e_loss hcx hca c2 i8 xp8 o0 o2 o3 o4 o21 hhz xg99 xw9 xd3 hh9 (by omega) (fun τ1 hF1 => ?_)
      have hI1 := hI.ws hid hF1
      have hca1 := hI1.ca hca0
      rw [wp_of_eq (e_of hca1 hI1.2.1 (j := 0) i8 (by omega)), o0]
      refine w_lose hca1 hI1 (by simp) (by simp) i8 (Or.inr ⟨xp C.1 i, hpi i hi, rfl, rfl⟩) (fun τ2 h2 => hc τ2 ?_)
      rw [step, hD, if_pos rfl]
      rw [c_lose_cL (hpi i hi), o2, sa_minN (by omega) (by omega)] at h2
      have e : min (min (WN f hold (xg C.1 i) (xw C.1 i) (hN z (xp C.1 i)) (xd C.1 i) (C.1 21).toNatClampNeg) (xg C.1 i)) (xg C.1 i) = rA f hold z C.1 i := by
        unfold rA
        omega
      rw [e] at h2
      exact h2
    have f1 := e_lives hca c2 o22 m8 hi o2 xg99
    have f2 := e_under hcx hca c2 i8 xp8 o0 o1 xl9 r1 hrf
    have f0 := e_of hca c2 (j := 0) i8 (by omega)
    rw [o0] at f0
    have q1 := hca.1
    have q2 := hca.2.1
    have q3 := hca.al
    have hrD : rD z C.1 ρ i = (decide (xg C.1 i ≠ 0) && (decide (ρ / 2 ^ xp C.1 i % 2 = 1) && !(decide (xl C.1 i = 0) && decide (z (5 * xp C.1 i + 1) = nI 1)))) := rfl
    rw [hrf] at hrD
    generalize rD z C.1 ρ i = dd at skip go hrD
    generalize xg C.1 i = g at f1 hrD o2 xg99
    generalize xl C.1 i = l at f2 hrD xl9
    have hbl : ρ / 2 ^ xp C.1 i % 2 < 2 := Nat.mod_lt _ (by omega)
    generalize ρ / 2 ^ xp C.1 i % 2 = bb at hb hrD hbl
    clear hid hQ hc hcs hpi ow hkm hzr hcx hcx0 hca hca0 o0 o1 o3 o4 o21 step hI t1 t2 hhz kp kl kg kw kd kv
    by_cases g0 : g = 0
    · have hs := skip (by rw [hrD]; simp [g0])
      simp (disch := omega) only [wp_gd, wp_bnd, wp_let, wp_jn0, wp_jn1, wp_jn2, wp_if, wp_ret, wp_rdI, wp_rdL, v_rdR, v_ldI, v_ldL, v_ldR, v_stI, v_stB, v_stZ, v_stL, wp_wrI, wp_wrL, wp_wrR, wp_wrZ, wp_retZ, v_md, v_dv, v_tb, upI_2, true_and, and_true, Nat.add_sub_cancel, Nat.zero_lt_succ, Nat.succ_pos, okN, clN, L0, L1, L2, L3, L4, L5, L6, L7, L8, L9, L10, L11, L12, L13, L14, L15, L16, L17, L18, L19, L20, L21, L22, L23, L24, L25, L26, L27, L28, L29, L30, L31, L32, L33, L34, L35, L36, L37, L38, L39, L40, L41, L42, L43, L44, L45, L46, L47, L48, L49, L50, L51, L52, L53, L54, L55, L56, L57, L58, L59, L60, L61, L62, L63, L64, L65, L66, L67, L68, L69, L70, L71, L72, L73, L74, L75, L76, L77, L78, L79, L80, L81, L82, L83, L84, L85, L86, L87, L88, L89, L90, L91, L92, L93, L94, L95, L96, L97, L98, L99, L100, L101, L102, L103, L104, L105, L106, L107, L108, L109, L110, L111, L112, L113, L114, L115, L116, L117, L118, L119, L120, L121, L122, L123, L124, L125, L126, L127, L128, L129, L130, L131, L200, L240, L255, L260, L1000, L4096, L10140, L1000000, ng1, mI_lt, mI_le, lt_mI, le_mI, eq_mI, mI_eq, mI_mI, mI_mE, nI_add, pk_mul, pk_sub, pk_rem, sa_minN, sa_maxN, ne_eq, nI_leI, nI_ltI, nI_eq, dT_le, dF_le, dT_lt, dF_lt, dT_eq, dF_eq, true_imp_iff, false_imp_iff, not_true_eq_false, not_false_eq_true, false_or, or_false, true_or, or_true, false_and, and_false, Decidable.not_not, reduceIte, if_true, if_false, upI_self, upI_ne, upL_1, upL_21, upL_self, upL_ne, upR_1, upR_22, upR_self, upR_ne, va_up_self, va_up_ne, Nat.reduceAdd, Nat.reduceMul, Nat.reduceSub, Nat.reduceLT, Nat.reduceLeDiff, Nat.reduceEqDiff, Nat.reduceSubDiff, Nat.zero_add, cm3, cm5, cm7, cm8, cm25, Nat.not_lt_zero, Nat.zero_le, not_false_iff, and_self, imp_self, implies_true, forall_const, Nat.lt_irrefl, Nat.le_refl, and_imp, q1, q2, q3, c2, o22, wp_of_eq f1]
      exact hs
    by_cases b0 : bb = 1
    case neg =>
      have hs := skip (by rw [hrD]; simp [b0])
      simp (disch := omega) only [wp_gd, wp_bnd, wp_let, wp_jn0, wp_jn1, wp_jn2, wp_if, wp_ret, wp_rdI, wp_rdL, v_rdR, v_ldI, v_ldL, v_ldR, v_stI, v_stB, v_stZ, v_stL, wp_wrI, wp_wrL, wp_wrR, wp_wrZ, wp_retZ, v_md, v_dv, v_tb, upI_2, true_and, and_true, Nat.add_sub_cancel, Nat.zero_lt_succ, Nat.succ_pos, okN, clN, L0, L1, L2, L3, L4, L5, L6, L7, L8, L9, L10, L11, L12, L13, L14, L15, L16, L17, L18, L19, L20, L21, L22, L23, L24, L25, L26, L27, L28, L29, L30, L31, L32, L33, L34, L35, L36, L37, L38, L39, L40, L41, L42, L43, L44, L45, L46, L47, L48, L49, L50, L51, L52, L53, L54, L55, L56, L57, L58, L59, L60, L61, L62, L63, L64, L65, L66, L67, L68, L69, L70, L71, L72, L73, L74, L75, L76, L77, L78, L79, L80, L81, L82, L83, L84, L85, L86, L87, L88, L89, L90, L91, L92, L93, L94, L95, L96, L97, L98, L99, L100, L101, L102, L103, L104, L105, L106, L107, L108, L109, L110, L111, L112, L113, L114, L115, L116, L117, L118, L119, L120, L121, L122, L123, L124, L125, L126, L127, L128, L129, L130, L131, L200, L240, L255, L260, L1000, L4096, L10140, L1000000, ng1, mI_lt, mI_le, lt_mI, le_mI, eq_mI, mI_eq, mI_mI, mI_mE, nI_add, pk_mul, pk_sub, pk_rem, sa_minN, sa_maxN, ne_eq, nI_leI, nI_ltI, nI_eq, dT_le, dF_le, dT_lt, dF_lt, dT_eq, dF_eq, true_imp_iff, false_imp_iff, not_true_eq_false, not_false_eq_true, false_or, or_false, true_or, or_true, false_and, and_false, Decidable.not_not, reduceIte, if_true, if_false, upI_self, upI_ne, upL_1, upL_21, upL_self, upL_ne, upR_1, upR_22, upR_self, upR_ne, va_up_self, va_up_ne, Nat.reduceAdd, Nat.reduceMul, Nat.reduceSub, Nat.reduceLT, Nat.reduceLeDiff, Nat.reduceEqDiff, Nat.reduceSubDiff, Nat.zero_add, cm3, cm5, cm7, cm8, cm25, Nat.not_lt_zero, Nat.zero_le, not_false_iff, and_self, imp_self, implies_true, forall_const, Nat.lt_irrefl, Nat.le_refl, and_imp, q1, q2, q3, c2, o22, wp_of_eq f1, wp_of_eq f0, hb]
      exact hs
    by_cases l0 : l = 0 ∧ r = 1
    · have hs := skip (by rw [hrD, l0.1, l0.2]; simp)
      obtain ⟨rfl, rfl⟩ := l0
      simp (disch := omega) only [wp_gd, wp_bnd, wp_let, wp_jn0, wp_jn1, wp_jn2, wp_if, wp_ret, wp_rdI, wp_rdL, v_rdR, v_ldI, v_ldL, v_ldR, v_stI, v_stB, v_stZ, v_stL, wp_wrI, wp_wrL, wp_wrR, wp_wrZ, wp_retZ, v_md, v_dv, v_tb, upI_2, true_and, and_true, Nat.add_sub_cancel, Nat.zero_lt_succ, Nat.succ_pos, okN, clN, L0, L1, L2, L3, L4, L5, L6, L7, L8, L9, L10, L11, L12, L13, L14, L15, L16, L17, L18, L19, L20, L21, L22, L23, L24, L25, L26, L27, L28, L29, L30, L31, L32, L33, L34, L35, L36, L37, L38, L39, L40, L41, L42, L43, L44, L45, L46, L47, L48, L49, L50, L51, L52, L53, L54, L55, L56, L57, L58, L59, L60, L61, L62, L63, L64, L65, L66, L67, L68, L69, L70, L71, L72, L73, L74, L75, L76, L77, L78, L79, L80, L81, L82, L83, L84, L85, L86, L87, L88, L89, L90, L91, L92, L93, L94, L95, L96, L97, L98, L99, L100, L101, L102, L103, L104, L105, L106, L107, L108, L109, L110, L111, L112, L113, L114, L115, L116, L117, L118, L119, L120, L121, L122, L123, L124, L125, L126, L127, L128, L129, L130, L131, L200, L240, L255, L260, L1000, L4096, L10140, L1000000, ng1, mI_lt, mI_le, lt_mI, le_mI, eq_mI, mI_eq, mI_mI, mI_mE, nI_add, pk_mul, pk_sub, pk_rem, sa_minN, sa_maxN, ne_eq, nI_leI, nI_ltI, nI_eq, dT_le, dF_le, dT_lt, dF_lt, dT_eq, dF_eq, true_imp_iff, false_imp_iff, not_true_eq_false, not_false_eq_true, false_or, or_false, true_or, or_true, false_and, and_false, Decidable.not_not, reduceIte, if_true, if_false, upI_self, upI_ne, upL_1, upL_21, upL_self, upL_ne, upR_1, upR_22, upR_self, upR_ne, va_up_self, va_up_ne, Nat.reduceAdd, Nat.reduceMul, Nat.reduceSub, Nat.reduceLT, Nat.reduceLeDiff, Nat.reduceEqDiff, Nat.reduceSubDiff, Nat.zero_add, cm3, cm5, cm7, cm8, cm25, Nat.not_lt_zero, Nat.zero_le, not_false_iff, and_self, imp_self, implies_true, forall_const, Nat.lt_irrefl, Nat.le_refl, and_imp, q1, q2, q3, c2, o22, wp_of_eq f1, wp_of_eq f0, hb, wp_of_eq f2]
      exact hs
    · have hg := go (by
        rw [hrD]
        have u : ¬ (l = 0 ∧ nI r = nI 1) := by rw [nI_eq (by omega) (by omega)]; exact l0
        by_cases u1 : l = 0
        · have u2 : ¬ nI r = nI 1 := fun h => u ⟨u1, h⟩
          simp [g0, b0, u2]
        · simp [g0, b0, u1])
      have hfl : (if l = 0 then r else 0) = 0 := by
        by_cases u1 : l = 0
        · rw [if_pos u1]; omega
        · rw [if_neg u1]
      rw [hfl] at f2
      simp (disch := omega) only [wp_gd, wp_bnd, wp_let, wp_jn0, wp_jn1, wp_jn2, wp_if, wp_ret, wp_rdI, wp_rdL, v_rdR, v_ldI, v_ldL, v_ldR, v_stI, v_stB, v_stZ, v_stL, wp_wrI, wp_wrL, wp_wrR, wp_wrZ, wp_retZ, v_md, v_dv, v_tb, upI_2, true_and, and_true, Nat.add_sub_cancel, Nat.zero_lt_succ, Nat.succ_pos, okN, clN, L0, L1, L2, L3, L4, L5, L6, L7, L8, L9, L10, L11, L12, L13, L14, L15, L16, L17, L18, L19, L20, L21, L22, L23, L24, L25, L26, L27, L28, L29, L30, L31, L32, L33, L34, L35, L36, L37, L38, L39, L40, L41, L42, L43, L44, L45, L46, L47, L48, L49, L50, L51, L52, L53, L54, L55, L56, L57, L58, L59, L60, L61, L62, L63, L64, L65, L66, L67, L68, L69, L70, L71, L72, L73, L74, L75, L76, L77, L78, L79, L80, L81, L82, L83, L84, L85, L86, L87, L88, L89, L90, L91, L92, L93, L94, L95, L96, L97, L98, L99, L100, L101, L102, L103, L104, L105, L106, L107, L108, L109, L110, L111, L112, L113, L114, L115, L116, L117, L118, L119, L120, L121, L122, L123, L124, L125, L126, L127, L128, L129, L130, L131, L200, L240, L255, L260, L1000, L4096, L10140, L1000000, ng1, mI_lt, mI_le, lt_mI, le_mI, eq_mI, mI_eq, mI_mI, mI_mE, nI_add, pk_mul, pk_sub, pk_rem, sa_minN, sa_maxN, ne_eq, nI_leI, nI_ltI, nI_eq, dT_le, dF_le, dT_lt, dF_lt, dT_eq, dF_eq, true_imp_iff, false_imp_iff, not_true_eq_false, not_false_eq_true, false_or, or_false, true_or, or_true, false_and, and_false, Decidable.not_not, reduceIte, if_true, if_false, upI_self, upI_ne, upL_1, upL_21, upL_self, upL_ne, upR_1, upR_22, upR_self, upR_ne, va_up_self, va_up_ne, Nat.reduceAdd, Nat.reduceMul, Nat.reduceSub, Nat.reduceLT, Nat.reduceLeDiff, Nat.reduceEqDiff, Nat.reduceSubDiff, Nat.zero_add, cm3, cm5, cm7, cm8, cm25, Nat.not_lt_zero, Nat.zero_le, not_false_iff, and_self, imp_self, implies_true, forall_const, Nat.lt_irrefl, Nat.le_refl, and_imp, q1, q2, q3, c2, o22, wp_of_eq f1, wp_of_eq f0, hb, wp_of_eq f2]
      exact hg
  · intro τ hI c
    have hca := hI.ca hca0
    have o22 := (zL_mid (D := rD z C.1 ρ) (v := fun i => nI (rA f hold z C.1 i)) (p := xp C.1) (C := C) (x := 22) (m := m) hpi (Or.inl (by omega))).trans hkm.2.1
    have c2 := hI.2.1
    have q1 := hca.1
    have q2 := hca.2.1
    have q3 := hca.al
    have hq := hQ τ hI
    clear hid
    simp (disch := omega) only [wp_gd, wp_bnd, wp_let, wp_jn0, wp_jn1, wp_jn2, wp_if, wp_ret, wp_rdI, wp_rdL, v_rdR, v_ldI, v_ldL, v_ldR, v_stI, v_stB, v_stZ, v_stL, wp_wrI, wp_wrL, wp_wrR, wp_wrZ, wp_retZ, v_md, v_dv, v_tb, upI_2, true_and, and_true, Nat.add_sub_cancel, Nat.zero_lt_succ, Nat.succ_pos, okN, clN, L0, L1, L2, L3, L4, L5, L6, L7, L8, L9, L10, L11, L12, L13, L14, L15, L16, L17, L18, L19, L20, L21, L22, L23, L24, L25, L26, L27, L28, L29, L30, L31, L32, L33, L34, L35, L36, L37, L38, L39, L40, L41, L42, L43, L44, L45, L46, L47, L48, L49, L50, L51, L52, L53, L54, L55, L56, L57, L58, L59, L60, L61, L62, L63, L64, L65, L66, L67, L68, L69, L70, L71, L72, L73, L74, L75, L76, L77, L78, L79, L80, L81, L82, L83, L84, L85, L86, L87, L88, L89, L90, L91, L92, L93, L94, L95, L96, L97, L98, L99, L100, L101, L102, L103, L104, L105, L106, L107, L108, L109, L110, L111, L112, L113, L114, L115, L116, L117, L118, L119, L120, L121, L122, L123, L124, L125, L126, L127, L128, L129, L130, L131, L200, L240, L255, L260, L1000, L4096, L10140, L1000000, ng1, mI_lt, mI_le, lt_mI, le_mI, eq_mI, mI_eq, mI_mI, mI_mE, nI_add, pk_mul, pk_sub, pk_rem, sa_minN, sa_maxN, ne_eq, nI_leI, nI_ltI, nI_eq, dT_le, dF_le, dT_lt, dF_lt, dT_eq, dF_eq, true_imp_iff, false_imp_iff, not_true_eq_false, not_false_eq_true, false_or, or_false, true_or, or_true, false_and, and_false, Decidable.not_not, reduceIte, if_true, if_false, upI_self, upI_ne, upL_1, upL_21, upL_self, upL_ne, upR_1, upR_22, upR_self, upR_ne, va_up_self, va_up_ne, Nat.reduceAdd, Nat.reduceMul, Nat.reduceSub, Nat.reduceLT, Nat.reduceLeDiff, Nat.reduceEqDiff, Nat.reduceSubDiff, Nat.zero_add, cm3, cm5, cm7, cm8, cm25, Nat.not_lt_zero, Nat.zero_le, not_false_iff, and_self, imp_self, implies_true, forall_const, Nat.lt_irrefl, Nat.le_refl, and_imp, q1, q2, q3, c2, o22]
    exact hq
end CRAIN
