/-! BUCKETS -/
def fp (z : Nat → Int32) (x : Nat) : Nat := (z (180 + 5 * x)).toNatClampNeg
def xb (k : Nat → Int32) (x : Nat) : Nat := (k (16 + x)).toNatClampNeg
/-- the lowest company that lives at a place -/
def lA (k : Nat → Int32) (p : Nat) : Nat → Option Nat
  | 0 => none
  | i + 1 => match lA k p i with
    | some x => some x
    | none => if xg k i ≠ 0 ∧ xl k i = 0 ∧ xp k i = p then some i else none
theorem lA_lt {k : Nat → Int32} {p : Nat} : ∀ {m x : Nat}, lA k p m = some x → x < m ∧ xg k x ≠ 0 ∧ xl k x = 0 ∧ xp k x = p := by
  intro m
  induction m with
  | zero => intro x h; cases h
  | succ m ih =>
    intro x h
    unfold lA at h
    cases hx : lA k p m with
    | some y =>
      rw [hx] at h
      cases h
      have := ih hx
      exact ⟨by omega, this.2⟩
    | none =>
      rw [hx] at h
      by_cases hc : xg k m ≠ 0 ∧ xl k m = 0 ∧ xp k m = p
      · simp only [if_pos hc] at h
        cases h
        exact ⟨by omega, hc⟩
      · simp only [if_neg hc] at h
        cases h
theorem lA_mono {k : Nat → Int32} {p x : Nat} {m : Nat} (h : lA k p m = some x) : ∀ {m2 : Nat}, m ≤ m2 → lA k p m2 = some x := by
  intro m2 h2
  induction h2 with
  | refl => exact h
  | step _ ih => unfold lA; rw [ih]
def bS1 (C : C3) (x : Nat) : C3 := (va_up C.1 (16 + x) (nI (xb C.1 x - 1)), C.2)
def bS (z : Nat → Int32) (m : Nat) (C : C3) (x : Nat) : C3 := if xb C.1 x = 0 then C else match lA C.1 (fp z x) m with | none => C | some i => cL (bS1 C x) i (nI (min 5 (xg C.1 i))) (fp z x)
section FOES
variable {L P W F n H B m R : Nat} {f : Nat → LWt} {z : Nat → Int32} {hold : Int32} {σ0 σ : sa_St} {C : C3} {wl : Nat → Int32} {Q : Unit → sa_St → Prop}
theorem fp_eq (hz : ZR P W F z) {x : Nat} (hx : x < F) : fp z x < P ∧ z (180 + 5 * x) = nI (fp z x) := by
  obtain ⟨p, hp, e⟩ := (hz.2.2.2 x hx).1
  have := hz.1.1
  unfold fp
  rw [e, nI_clamp (by omega)]
  exact ⟨hp, rfl⟩
theorem xb_eq {k : Nat → Int32} (h : KM P W H B m k) {x : Nat} (hx : x < 3) : xb k x ≤ 9 ∧ k (16 + x) = nI (xb k x) := by
  obtain ⟨b, hb, e⟩ := h.2.2.2.2.2.2 x hx
  unfold xb
  rw [e, nI_clamp (by omega)]
  exact ⟨hb, rfl⟩
theorem KM.foeS (h : KM P W H B m C.1) (hz : ZR P W F z) (hB : B + 5 < 2 ^ 30) {x : Nat} (hx : x < F) : KM P W H (B + 5) m (bS z m C x).1 := by
  have hF := hz.1.2.2
  have hP := hz.1.1
  unfold bS
  by_cases h1 : xb C.1 x = 0
  · rw [if_pos h1]; exact h.mono (Nat.le_refl H) (by omega)
  rw [if_neg h1]
  cases hl : lA C.1 (fp z x) m with
  | none => exact h.mono (Nat.le_refl H) (by omega)
  | some i =>
    obtain ⟨hi, -, -, hp⟩ := lA_lt hl
    obtain ⟨b9, -⟩ := xb_eq h (show x < 3 by omega)
    have h2 := h.bucket (f := x) (b := xb C.1 x - 1) (by omega) (by omega)
    obtain ⟨-, -, ⟨xg99, kg⟩, -⟩ := (h.2.2.2.1 i hi).x hP
    refine KM.lost (C := bS1 C x) h2 hi (g := xg C.1 i) ?_ xg99 (Nat.min_le_right _ _) (fp_eq hz hx).1 hP (by omega) hB
    show va_up C.1 _ _ _ = _
    rw [va_up_ne _ _ (by omega)]
    exact kg
theorem KM.foe (h : KM P W H B m C.1) (hz : ZR P W F z) (hB : B + 20 < 2 ^ 30) : ∀ x, x ≤ F → KM P W H (B + 5 * x) m (ac (bS z m) C x).1 := by
  have hF := hz.1.2.2
  intro x
  induction x with
  | zero => intro _; exact h
  | succ x ih =>
    intro hx
    rw [show B + 5 * (x + 1) = B + 5 * x + 5 by omega]
    exact (ih (by omega)).foeS hz (by omega) (by omega)
/-- the class's search -/
theorem e_low {id K : Nat} {k : Nat → Int32} (hca : CA σ.2.1 id K) (hK : σ.1 K = k) (hkm : KM P W H B m k) (hP : P ≤ 8) {p : Nat} (hp : p < 8) : f_X0_lowestAt id (nI p) σ = some (oI (lA k p m), σ) := by
  have m8 := hkm.1
  have k22 := hkm.2.1
  have q1 := hca.1
  have q2 := hca.2.1
  have q3 := hca.al
  refine run_of ?_
  simp (disch := omega) only [f_X0_lowestAt, wp_gd, wp_bnd, wp_let, wp_jn0, wp_jn1, wp_jn2, wp_if, wp_ret, wp_rdI, wp_rdL, v_rdR, v_ldI, v_ldL, v_ldR, v_stI, v_stB, v_stZ, v_stL, wp_wrI, wp_wrL, wp_wrR, wp_wrZ, wp_retZ, v_md, v_dv, v_tb, upI_2, true_and, and_true, Nat.add_sub_cancel, Nat.zero_lt_succ, Nat.succ_pos, okN, clN, L0, L1, L2, L3, L4, L5, L6, L7, L8, L9, L10, L11, L12, L13, L14, L15, L16, L17, L18, L19, L20, L21, L22, L23, L24, L25, L26, L27, L28, L29, L30, L31, L32, L33, L34, L35, L36, L37, L38, L39, L40, L41, L42, L43, L44, L45, L46, L47, L48, L49, L50, L51, L52, L53, L54, L55, L56, L57, L58, L59, L60, L61, L62, L63, L64, L65, L66, L67, L68, L69, L70, L71, L72, L73, L74, L75, L76, L77, L78, L79, L80, L81, L82, L83, L84, L85, L86, L87, L88, L89, L90, L91, L92, L93, L94, L95, L96, L97, L98, L99, L100, L101, L102, L103, L104, L105, L106, L107, L108, L109, L110, L111, L112, L113, L114, L115, L116, L117, L118, L119, L120, L121, L122, L123, L124, L125, L126, L127, L128, L129, L130, L131, L200, L240, L255, L260, L1000, L4096, L10140, L1000000, ng1, mI_lt, mI_le, lt_mI, le_mI, eq_mI, mI_eq, mI_mI, mI_mE, nI_add, pk_mul, pk_sub, pk_rem, sa_minN, sa_maxN, ne_eq, nI_leI, nI_ltI, nI_eq, dT_le, dF_le, dT_lt, dF_lt, dT_eq, dF_eq, true_imp_iff, false_imp_iff, not_true_eq_false, not_false_eq_true, false_or, or_false, true_or, or_true, false_and, and_false, Decidable.not_not, reduceIte, if_true, if_false, upI_self, upI_ne, upL_1, upL_21, upL_self, upL_ne, upR_1, upR_22, upR_self, upR_ne, va_up_self, va_up_ne, Nat.reduceAdd, Nat.reduceMul, Nat.reduceSub, Nat.reduceLT, Nat.reduceLeDiff, Nat.reduceEqDiff, Nat.reduceSubDiff, Nat.zero_add, cm3, cm5, cm7, cm8, cm25, Nat.not_lt_zero, Nat.zero_le, not_false_iff, and_self, imp_self, implies_true, forall_const, Nat.lt_irrefl, Nat.le_refl, and_imp, q1]
  refine wp_for1 m 0 (fun i τ => τ = σ ∧ lA k p i = none) ?_ ?_ ⟨rfl, rfl⟩ (by omega) (by unfold sa_F; omega)
  · rintro i τ hi ⟨rfl, hno⟩ c hc
    obtain ⟨⟨xp8, o0⟩, ⟨xl9, xv12, hxv, o1, o6⟩, ⟨xg99, o2⟩, -⟩ := (hkm.2.2.2.1 i hi).x hP
    have hs : lA k p (i + 1) = if xg k i ≠ 0 ∧ xl k i = 0 ∧ xp k i = p then some i else none := by
      conv => lhs; unfold lA
      rw [hno]
    have hx8 : xp k i < 8 := Nat.lt_of_lt_of_le xp8 hP
    have fin : lA k p (i + 1) = some i → lA k p m = some i := fun h => lA_mono h (by omega)
    have go : lA k p (i + 1) = none → _ := fun h => hc τ ⟨rfl, h⟩
    clear hkm hc
    by_cases g0 : xg k i = 0
    · have g := go (by rw [hs, if_neg (by simp [g0])])
      simp (disch := omega) only [f_X0_isAtPlace, f_X0_hasCompany, f_X0_of, wp_gd, wp_bnd, wp_let, wp_jn0, wp_jn1, wp_jn2, wp_if, wp_ret, wp_rdI, wp_rdL, v_rdR, v_ldI, v_ldL, v_ldR, v_stI, v_stB, v_stZ, v_stL, wp_wrI, wp_wrL, wp_wrR, wp_wrZ, wp_retZ, v_md, v_dv, v_tb, upI_2, true_and, and_true, Nat.add_sub_cancel, Nat.zero_lt_succ, Nat.succ_pos, okN, clN, L0, L1, L2, L3, L4, L5, L6, L7, L8, L9, L10, L11, L12, L13, L14, L15, L16, L17, L18, L19, L20, L21, L22, L23, L24, L25, L26, L27, L28, L29, L30, L31, L32, L33, L34, L35, L36, L37, L38, L39, L40, L41, L42, L43, L44, L45, L46, L47, L48, L49, L50, L51, L52, L53, L54, L55, L56, L57, L58, L59, L60, L61, L62, L63, L64, L65, L66, L67, L68, L69, L70, L71, L72, L73, L74, L75, L76, L77, L78, L79, L80, L81, L82, L83, L84, L85, L86, L87, L88, L89, L90, L91, L92, L93, L94, L95, L96, L97, L98, L99, L100, L101, L102, L103, L104, L105, L106, L107, L108, L109, L110, L111, L112, L113, L114, L115, L116, L117, L118, L119, L120, L121, L122, L123, L124, L125, L126, L127, L128, L129, L130, L131, L200, L240, L255, L260, L1000, L4096, L10140, L1000000, ng1, mI_lt, mI_le, lt_mI, le_mI, eq_mI, mI_eq, mI_mI, mI_mE, nI_add, pk_mul, pk_sub, pk_rem, sa_minN, sa_maxN, ne_eq, nI_leI, nI_ltI, nI_eq, dT_le, dF_le, dT_lt, dF_lt, dT_eq, dF_eq, true_imp_iff, false_imp_iff, not_true_eq_false, not_false_eq_true, false_or, or_false, true_or, or_true, false_and, and_false, Decidable.not_not, reduceIte, if_true, if_false, upI_self, upI_ne, upL_1, upL_21, upL_self, upL_ne, upR_1, upR_22, upR_self, upR_ne, va_up_self, va_up_ne, Nat.reduceAdd, Nat.reduceMul, Nat.reduceSub, Nat.reduceLT, Nat.reduceLeDiff, Nat.reduceEqDiff, Nat.reduceSubDiff, Nat.zero_add, cm3, cm5, cm7, cm8, cm25, Nat.not_lt_zero, Nat.zero_le, not_false_iff, and_self, imp_self, implies_true, forall_const, Nat.lt_irrefl, Nat.le_refl, and_imp, q1, q2, q3, hK, k22, o2]
      exact g
    by_cases l0 : xl k i = 0
    case neg =>
      have g := go (by rw [hs, if_neg (by simp [l0])])
      simp (disch := omega) only [f_X0_isAtPlace, f_X0_hasCompany, f_X0_of, wp_gd, wp_bnd, wp_let, wp_jn0, wp_jn1, wp_jn2, wp_if, wp_ret, wp_rdI, wp_rdL, v_rdR, v_ldI, v_ldL, v_ldR, v_stI, v_stB, v_stZ, v_stL, wp_wrI, wp_wrL, wp_wrR, wp_wrZ, wp_retZ, v_md, v_dv, v_tb, upI_2, true_and, and_true, Nat.add_sub_cancel, Nat.zero_lt_succ, Nat.succ_pos, okN, clN, L0, L1, L2, L3, L4, L5, L6, L7, L8, L9, L10, L11, L12, L13, L14, L15, L16, L17, L18, L19, L20, L21, L22, L23, L24, L25, L26, L27, L28, L29, L30, L31, L32, L33, L34, L35, L36, L37, L38, L39, L40, L41, L42, L43, L44, L45, L46, L47, L48, L49, L50, L51, L52, L53, L54, L55, L56, L57, L58, L59, L60, L61, L62, L63, L64, L65, L66, L67, L68, L69, L70, L71, L72, L73, L74, L75, L76, L77, L78, L79, L80, L81, L82, L83, L84, L85, L86, L87, L88, L89, L90, L91, L92, L93, L94, L95, L96, L97, L98, L99, L100, L101, L102, L103, L104, L105, L106, L107, L108, L109, L110, L111, L112, L113, L114, L115, L116, L117, L118, L119, L120, L121, L122, L123, L124, L125, L126, L127, L128, L129, L130, L131, L200, L240, L255, L260, L1000, L4096, L10140, L1000000, ng1, mI_lt, mI_le, lt_mI, le_mI, eq_mI, mI_eq, mI_mI, mI_mE, nI_add, pk_mul, pk_sub, pk_rem, sa_minN, sa_maxN, ne_eq, nI_leI, nI_ltI, nI_eq, dT_le, dF_le, dT_lt, dF_lt, dT_eq, dF_eq, true_imp_iff, false_imp_iff, not_true_eq_false, not_false_eq_true, false_or, or_false, true_or, or_true, false_and, and_false, Decidable.not_not, reduceIte, if_true, if_false, upI_self, upI_ne, upL_1, upL_21, upL_self, upL_ne, upR_1, upR_22, upR_self, upR_ne, va_up_self, va_up_ne, Nat.reduceAdd, Nat.reduceMul, Nat.reduceSub, Nat.reduceLT, Nat.reduceLeDiff, Nat.reduceEqDiff, Nat.reduceSubDiff, Nat.zero_add, cm3, cm5, cm7, cm8, cm25, Nat.not_lt_zero, Nat.zero_le, not_false_iff, and_self, imp_self, implies_true, forall_const, Nat.lt_irrefl, Nat.le_refl, and_imp, q1, q2, q3, hK, k22, o2, o1]
      exact g
    by_cases p0 : xp k i = p
    · have g := fin (by rw [hs, if_pos ⟨g0, l0, p0⟩])
      simp (disch := omega) only [f_X0_isAtPlace, f_X0_hasCompany, f_X0_of, wp_gd, wp_bnd, wp_let, wp_jn0, wp_jn1, wp_jn2, wp_if, wp_ret, wp_rdI, wp_rdL, v_rdR, v_ldI, v_ldL, v_ldR, v_stI, v_stB, v_stZ, v_stL, wp_wrI, wp_wrL, wp_wrR, wp_wrZ, wp_retZ, v_md, v_dv, v_tb, upI_2, true_and, and_true, Nat.add_sub_cancel, Nat.zero_lt_succ, Nat.succ_pos, okN, clN, L0, L1, L2, L3, L4, L5, L6, L7, L8, L9, L10, L11, L12, L13, L14, L15, L16, L17, L18, L19, L20, L21, L22, L23, L24, L25, L26, L27, L28, L29, L30, L31, L32, L33, L34, L35, L36, L37, L38, L39, L40, L41, L42, L43, L44, L45, L46, L47, L48, L49, L50, L51, L52, L53, L54, L55, L56, L57, L58, L59, L60, L61, L62, L63, L64, L65, L66, L67, L68, L69, L70, L71, L72, L73, L74, L75, L76, L77, L78, L79, L80, L81, L82, L83, L84, L85, L86, L87, L88, L89, L90, L91, L92, L93, L94, L95, L96, L97, L98, L99, L100, L101, L102, L103, L104, L105, L106, L107, L108, L109, L110, L111, L112, L113, L114, L115, L116, L117, L118, L119, L120, L121, L122, L123, L124, L125, L126, L127, L128, L129, L130, L131, L200, L240, L255, L260, L1000, L4096, L10140, L1000000, ng1, mI_lt, mI_le, lt_mI, le_mI, eq_mI, mI_eq, mI_mI, mI_mE, nI_add, pk_mul, pk_sub, pk_rem, sa_minN, sa_maxN, ne_eq, nI_leI, nI_ltI, nI_eq, dT_le, dF_le, dT_lt, dF_lt, dT_eq, dF_eq, true_imp_iff, false_imp_iff, not_true_eq_false, not_false_eq_true, false_or, or_false, true_or, or_true, false_and, and_false, Decidable.not_not, reduceIte, if_true, if_false, upI_self, upI_ne, upL_1, upL_21, upL_self, upL_ne, upR_1, upR_22, upR_self, upR_ne, va_up_self, va_up_ne, Nat.reduceAdd, Nat.reduceMul, Nat.reduceSub, Nat.reduceLT, Nat.reduceLeDiff, Nat.reduceEqDiff, Nat.reduceSubDiff, Nat.zero_add, cm3, cm5, cm7, cm8, cm25, Nat.not_lt_zero, Nat.zero_le, not_false_iff, and_self, imp_self, implies_true, forall_const, Nat.lt_irrefl, Nat.le_refl, and_imp, q1, q2, q3, hK, k22, o2, o1, o0]
      rw [g]
      rfl
    · have g := go (by rw [hs, if_neg (by simp [p0])])
      simp (disch := omega) only [f_X0_isAtPlace, f_X0_hasCompany, f_X0_of, wp_gd, wp_bnd, wp_let, wp_jn0, wp_jn1, wp_jn2, wp_if, wp_ret, wp_rdI, wp_rdL, v_rdR, v_ldI, v_ldL, v_ldR, v_stI, v_stB, v_stZ, v_stL, wp_wrI, wp_wrL, wp_wrR, wp_wrZ, wp_retZ, v_md, v_dv, v_tb, upI_2, true_and, and_true, Nat.add_sub_cancel, Nat.zero_lt_succ, Nat.succ_pos, okN, clN, L0, L1, L2, L3, L4, L5, L6, L7, L8, L9, L10, L11, L12, L13, L14, L15, L16, L17, L18, L19, L20, L21, L22, L23, L24, L25, L26, L27, L28, L29, L30, L31, L32, L33, L34, L35, L36, L37, L38, L39, L40, L41, L42, L43, L44, L45, L46, L47, L48, L49, L50, L51, L52, L53, L54, L55, L56, L57, L58, L59, L60, L61, L62, L63, L64, L65, L66, L67, L68, L69, L70, L71, L72, L73, L74, L75, L76, L77, L78, L79, L80, L81, L82, L83, L84, L85, L86, L87, L88, L89, L90, L91, L92, L93, L94, L95, L96, L97, L98, L99, L100, L101, L102, L103, L104, L105, L106, L107, L108, L109, L110, L111, L112, L113, L114, L115, L116, L117, L118, L119, L120, L121, L122, L123, L124, L125, L126, L127, L128, L129, L130, L131, L200, L240, L255, L260, L1000, L4096, L10140, L1000000, ng1, mI_lt, mI_le, lt_mI, le_mI, eq_mI, mI_eq, mI_mI, mI_mE, nI_add, pk_mul, pk_sub, pk_rem, sa_minN, sa_maxN, ne_eq, nI_leI, nI_ltI, nI_eq, dT_le, dF_le, dT_lt, dF_lt, dT_eq, dF_eq, true_imp_iff, false_imp_iff, not_true_eq_false, not_false_eq_true, false_or, or_false, true_or, or_true, false_and, and_false, Decidable.not_not, reduceIte, if_true, if_false, upI_self, upI_ne, upL_1, upL_21, upL_self, upL_ne, upR_1, upR_22, upR_self, upR_ne, va_up_self, va_up_ne, Nat.reduceAdd, Nat.reduceMul, Nat.reduceSub, Nat.reduceLT, Nat.reduceLeDiff, Nat.reduceEqDiff, Nat.reduceSubDiff, Nat.zero_add, cm3, cm5, cm7, cm8, cm25, Nat.not_lt_zero, Nat.zero_le, not_false_iff, and_self, imp_self, implies_true, forall_const, Nat.lt_irrefl, Nat.le_refl, and_imp, q1, q2, q3, hK, k22, o2, o1, o0]
      exact g
  · rintro τ ⟨rfl, hno⟩ c
    simp (disch := omega) only [wp_gd, wp_bnd, wp_let, wp_jn0, wp_jn1, wp_jn2, wp_if, wp_ret, wp_rdI, wp_rdL, v_rdR, v_ldI, v_ldL, v_ldR, v_stI, v_stB, v_stZ, v_stL, wp_wrI, wp_wrL, wp_wrR, wp_wrZ, wp_retZ, v_md, v_dv, v_tb, upI_2, true_and, and_true, Nat.add_sub_cancel, Nat.zero_lt_succ, Nat.succ_pos, okN, clN, L0, L1, L2, L3, L4, L5, L6, L7, L8, L9, L10, L11, L12, L13, L14, L15, L16, L17, L18, L19, L20, L21, L22, L23, L24, L25, L26, L27, L28, L29, L30, L31, L32, L33, L34, L35, L36, L37, L38, L39, L40, L41, L42, L43, L44, L45, L46, L47, L48, L49, L50, L51, L52, L53, L54, L55, L56, L57, L58, L59, L60, L61, L62, L63, L64, L65, L66, L67, L68, L69, L70, L71, L72, L73, L74, L75, L76, L77, L78, L79, L80, L81, L82, L83, L84, L85, L86, L87, L88, L89, L90, L91, L92, L93, L94, L95, L96, L97, L98, L99, L100, L101, L102, L103, L104, L105, L106, L107, L108, L109, L110, L111, L112, L113, L114, L115, L116, L117, L118, L119, L120, L121, L122, L123, L124, L125, L126, L127, L128, L129, L130, L131, L200, L240, L255, L260, L1000, L4096, L10140, L1000000, ng1, mI_lt, mI_le, lt_mI, le_mI, eq_mI, mI_eq, mI_mI, mI_mE, nI_add, pk_mul, pk_sub, pk_rem, sa_minN, sa_maxN, ne_eq, nI_leI, nI_ltI, nI_eq, dT_le, dF_le, dT_lt, dF_lt, dT_eq, dF_eq, true_imp_iff, false_imp_iff, not_true_eq_false, not_false_eq_true, false_or, or_false, true_or, or_true, false_and, and_false, Decidable.not_not, reduceIte, if_true, if_false, upI_self, upI_ne, upL_1, upL_21, upL_self, upL_ne, upR_1, upR_22, upR_self, upR_ne, va_up_self, va_up_ne, Nat.reduceAdd, Nat.reduceMul, Nat.reduceSub, Nat.reduceLT, Nat.reduceLeDiff, Nat.reduceEqDiff, Nat.reduceSubDiff, Nat.zero_add, cm3, cm5, cm7, cm8, cm25, Nat.not_lt_zero, Nat.zero_le, not_false_iff, and_self, imp_self, implies_true, forall_const, Nat.lt_irrefl, Nat.le_refl, and_imp, q1, q2, q3, hK, k22]
    rw [hno]
    rfl
theorem c_foes {id K : Nat} (hcx0 : Cx L P W F n f z hold σ0) (hca0 : CA σ0.2.1 id K) (hid : id = 44 ∧ K = 45 ∨ id = 46 ∧ K = 47) (hcs : CS (sS K id) σ0 id K C σ) (hkm : KM P W H B m C.1) (hB : B + 20 < 2 ^ 30) (hQ : ∀ τ, CS (sS K id) σ0 id K (ac (bS z m) C F) τ → Q () τ) : wp (f_X0_throwBuckets id L) σ Q := by
  have hzr := hcx0.zr
  have m8 := hkm.1
  have P8 := hzr.1.1
  have F3 := hzr.1.2.2
  have q1 := hca0.1
  have hkx := hkm.foe hzr hB
  simp (disch := omega) only [f_X0_throwBuckets, wp_gd, wp_bnd, wp_let, wp_jn0, wp_jn1, wp_jn2, wp_if, wp_ret, wp_rdI, wp_rdL, v_rdR, v_ldI, v_ldL, v_ldR, v_stI, v_stB, v_stZ, v_stL, wp_wrI, wp_wrL, wp_wrR, wp_wrZ, wp_retZ, v_md, v_dv, v_tb, upI_2, true_and, and_true, Nat.add_sub_cancel, Nat.zero_lt_succ, Nat.succ_pos, okN, clN, L0, L1, L2, L3, L4, L5, L6, L7, L8, L9, L10, L11, L12, L13, L14, L15, L16, L17, L18, L19, L20, L21, L22, L23, L24, L25, L26, L27, L28, L29, L30, L31, L32, L33, L34, L35, L36, L37, L38, L39, L40, L41, L42, L43, L44, L45, L46, L47, L48, L49, L50, L51, L52, L53, L54, L55, L56, L57, L58, L59, L60, L61, L62, L63, L64, L65, L66, L67, L68, L69, L70, L71, L72, L73, L74, L75, L76, L77, L78, L79, L80, L81, L82, L83, L84, L85, L86, L87, L88, L89, L90, L91, L92, L93, L94, L95, L96, L97, L98, L99, L100, L101, L102, L103, L104, L105, L106, L107, L108, L109, L110, L111, L112, L113, L114, L115, L116, L117, L118, L119, L120, L121, L122, L123, L124, L125, L126, L127, L128, L129, L130, L131, L200, L240, L255, L260, L1000, L4096, L10140, L1000000, ng1, mI_lt, mI_le, lt_mI, le_mI, eq_mI, mI_eq, mI_mI, mI_mE, nI_add, pk_mul, pk_sub, pk_rem, sa_minN, sa_maxN, ne_eq, nI_leI, nI_ltI, nI_eq, dT_le, dF_le, dT_lt, dF_lt, dT_eq, dF_eq, true_imp_iff, false_imp_iff, not_true_eq_false, not_false_eq_true, false_or, or_false, true_or, or_true, false_and, and_false, Decidable.not_not, reduceIte, if_true, if_false, upI_self, upI_ne, upL_1, upL_21, upL_self, upL_ne, upR_1, upR_22, upR_self, upR_ne, va_up_self, va_up_ne, Nat.reduceAdd, Nat.reduceMul, Nat.reduceSub, Nat.reduceLT, Nat.reduceLeDiff, Nat.reduceEqDiff, Nat.reduceSubDiff, Nat.zero_add, cm3, cm5, cm7, cm8, cm25, Nat.not_lt_zero, Nat.zero_le, not_false_iff, and_self, imp_self, implies_true, forall_const, Nat.lt_irrefl, Nat.le_refl, and_imp, q1]
  refine wp_for1 F 0 (fun i τ => CS (sS K id) σ0 id K (ac (bS z m) C i) τ) ?_ ?_ hcs (by omega) (by unfold sa_F; omega)
  · intro x τ hx hI c hc
    have hcx := (hI.fa hid).cx hcx0
    have hca := hI.ca hca0
    have hk1 := hkx x (by omega)
    have step : ac (bS z m) C (x + 1) = bS z m (ac (bS z m) C x) x := rfl
    rw [step] at hc
    generalize ac (bS z m) C x = Ci at hI hk1 hc
    obtain ⟨b9, ob⟩ := xb_eq hk1 (show x < 3 by omega)
    obtain ⟨hpF, hpz⟩ := fp_eq hzr hx
    have p8 := Nat.lt_of_lt_of_le hpF P8
    have c2 := hI.2.1
    have f1 := e_low hca c2 hk1 P8 p8
    have q1 := hca.1
    have q2 := hca.2.1
    have q3 := hca.al
    obtain ⟨hk, hL, hLd, hM, hW, hz0, hh0⟩ := hcx
    obtain ⟨⟨a1, a2, a3, a4, a5, a6⟩, e1, e2, e3, e4, e5, e6⟩ := LD.of hk hL
    have c3 := hLd.2.1.2.2.1
    have e180 : z (5 * (36 + x) + 0) = nI (fp z x) := by
      rw [show 5 * (36 + x) + 0 = 180 + 5 * x by omega]
      exact hpz
    have eS : bS z m Ci x = if xb Ci.1 x = 0 then Ci else match lA Ci.1 (fp z x) m with | none => Ci | some i => cL (bS1 Ci x) i (nI (min 5 (xg Ci.1 i))) (fp z x) := rfl
    by_cases b0 : xb Ci.1 x = 0
    · rw [if_pos b0] at eS
      have hs := hc τ (by rw [eS]; exact hI)
      clear hid hQ hc hcs hkm hzr hcx0 hkx hk1 hLd hM hW
      simp (disch := omega) only [f_X1_cell, wp_gd, wp_bnd, wp_let, wp_jn0, wp_jn1, wp_jn2, wp_if, wp_ret, wp_rdI, wp_rdL, v_rdR, v_ldI, v_ldL, v_ldR, v_stI, v_stB, v_stZ, v_stL, wp_wrI, wp_wrL, wp_wrR, wp_wrZ, wp_retZ, v_md, v_dv, v_tb, upI_2, true_and, and_true, Nat.add_sub_cancel, Nat.zero_lt_succ, Nat.succ_pos, okN, clN, L0, L1, L2, L3, L4, L5, L6, L7, L8, L9, L10, L11, L12, L13, L14, L15, L16, L17, L18, L19, L20, L21, L22, L23, L24, L25, L26, L27, L28, L29, L30, L31, L32, L33, L34, L35, L36, L37, L38, L39, L40, L41, L42, L43, L44, L45, L46, L47, L48, L49, L50, L51, L52, L53, L54, L55, L56, L57, L58, L59, L60, L61, L62, L63, L64, L65, L66, L67, L68, L69, L70, L71, L72, L73, L74, L75, L76, L77, L78, L79, L80, L81, L82, L83, L84, L85, L86, L87, L88, L89, L90, L91, L92, L93, L94, L95, L96, L97, L98, L99, L100, L101, L102, L103, L104, L105, L106, L107, L108, L109, L110, L111, L112, L113, L114, L115, L116, L117, L118, L119, L120, L121, L122, L123, L124, L125, L126, L127, L128, L129, L130, L131, L200, L240, L255, L260, L1000, L4096, L10140, L1000000, ng1, mI_lt, mI_le, lt_mI, le_mI, eq_mI, mI_eq, mI_mI, mI_mE, nI_add, pk_mul, pk_sub, pk_rem, sa_minN, sa_maxN, ne_eq, nI_leI, nI_ltI, nI_eq, dT_le, dF_le, dT_lt, dF_lt, dT_eq, dF_eq, true_imp_iff, false_imp_iff, not_true_eq_false, not_false_eq_true, false_or, or_false, true_or, or_true, false_and, and_false, Decidable.not_not, reduceIte, if_true, if_false, upI_self, upI_ne, upL_1, upL_21, upL_self, upL_ne, upR_1, upR_22, upR_self, upR_ne, va_up_self, va_up_ne, Nat.reduceAdd, Nat.reduceMul, Nat.reduceSub, Nat.reduceLT, Nat.reduceLeDiff, Nat.reduceEqDiff, Nat.reduceSubDiff, Nat.zero_add, cm3, cm5, cm7, cm8, cm25, Nat.not_lt_zero, Nat.zero_le, not_false_iff, and_self, imp_self, implies_true, forall_const, Nat.lt_irrefl, Nat.le_refl, and_imp, q1, q2, q3, c2, e1, e2, e3, a2, a3, c3, hz0, e180, ob]
      exact hs
    rw [if_neg b0] at eS
    cases hl : lA Ci.1 (fp z x) m with
    | none =>
      rw [hl] at eS f1
      have eS' : bS z m Ci x = Ci := eS
      have f1' : f_X0_lowestAt id (nI (fp z x)) τ = some (mI, τ) := f1
      have hs := hc τ (by rw [eS']; exact hI)
      clear hid hQ hc hcs hkm hzr hcx0 hkx hk1 hLd hM hW f1
      simp (disch := omega) only [f_X1_cell, wp_gd, wp_bnd, wp_let, wp_jn0, wp_jn1, wp_jn2, wp_if, wp_ret, wp_rdI, wp_rdL, v_rdR, v_ldI, v_ldL, v_ldR, v_stI, v_stB, v_stZ, v_stL, wp_wrI, wp_wrL, wp_wrR, wp_wrZ, wp_retZ, v_md, v_dv, v_tb, upI_2, true_and, and_true, Nat.add_sub_cancel, Nat.zero_lt_succ, Nat.succ_pos, okN, clN, L0, L1, L2, L3, L4, L5, L6, L7, L8, L9, L10, L11, L12, L13, L14, L15, L16, L17, L18, L19, L20, L21, L22, L23, L24, L25, L26, L27, L28, L29, L30, L31, L32, L33, L34, L35, L36, L37, L38, L39, L40, L41, L42, L43, L44, L45, L46, L47, L48, L49, L50, L51, L52, L53, L54, L55, L56, L57, L58, L59, L60, L61, L62, L63, L64, L65, L66, L67, L68, L69, L70, L71, L72, L73, L74, L75, L76, L77, L78, L79, L80, L81, L82, L83, L84, L85, L86, L87, L88, L89, L90, L91, L92, L93, L94, L95, L96, L97, L98, L99, L100, L101, L102, L103, L104, L105, L106, L107, L108, L109, L110, L111, L112, L113, L114, L115, L116, L117, L118, L119, L120, L121, L122, L123, L124, L125, L126, L127, L128, L129, L130, L131, L200, L240, L255, L260, L1000, L4096, L10140, L1000000, ng1, mI_lt, mI_le, lt_mI, le_mI, eq_mI, mI_eq, mI_mI, mI_mE, nI_add, pk_mul, pk_sub, pk_rem, sa_minN, sa_maxN, ne_eq, nI_leI, nI_ltI, nI_eq, dT_le, dF_le, dT_lt, dF_lt, dT_eq, dF_eq, true_imp_iff, false_imp_iff, not_true_eq_false, not_false_eq_true, false_or, or_false, true_or, or_true, false_and, and_false, Decidable.not_not, reduceIte, if_true, if_false, upI_self, upI_ne, upL_1, upL_21, upL_self, upL_ne, upR_1, upR_22, upR_self, upR_ne, va_up_self, va_up_ne, Nat.reduceAdd, Nat.reduceMul, Nat.reduceSub, Nat.reduceLT, Nat.reduceLeDiff, Nat.reduceEqDiff, Nat.reduceSubDiff, Nat.zero_add, cm3, cm5, cm7, cm8, cm25, Nat.not_lt_zero, Nat.zero_le, not_false_iff, and_self, imp_self, implies_true, forall_const, Nat.lt_irrefl, Nat.le_refl, and_imp, q1, q2, q3, c2, e1, e2, e3, a2, a3, c3, hz0, e180, ob, wp_of_eq f1']
      exact hs
    | some i =>
      rw [hl] at eS f1
      have eS' : bS z m Ci x = cL (bS1 Ci x) i (nI (min 5 (xg Ci.1 i))) (fp z x) := eS
      have f1' : f_X0_lowestAt id (nI (fp z x)) τ = some (nI i, τ) := f1
      obtain ⟨hi, -, -, hp⟩ := lA_lt hl
      obtain ⟨-, -, ⟨xg99, o2⟩, -⟩ := (hk1.2.2.2.1 i hi).x P8
      have hI2 : CS (sS K id) σ0 id K (bS1 Ci x) (sa_upI τ K (16 + x) (nI (xb Ci.1 x - 1))) := by
        refine ⟨Fr.up hI.1 (by simp), ?_, ?_, ?_⟩
        · rw [upI_self, c2]; rfl
        · rw [upI_ne (Ne.symm hca.ne)]; exact hI.2.2.1
        · rw [upI_ne (Ne.symm hca.ne)]; exact hI.2.2.2
      have go : wp (f_X0_lose id (nI i) (nI 5) (nI (fp z x))) (sa_upI τ K (16 + x) (nI (xb Ci.1 x - 1))) (fun _ τ3 => wp (c (nI (x + 1))) τ3 Q) := by
        refine w_lose (hI2.ca hca0) hI2 (by simp) (by simp) (by omega) (Or.inr ⟨fp z x, p8, rfl, rfl⟩) (fun τ2 h2 => hc τ2 ?_)
        rw [eS']
        have e : (bS1 Ci x).1 (23 + 7 * i + 2) = nI (xg Ci.1 i) := by
          show va_up Ci.1 _ _ _ = _
          rw [va_up_ne _ _ (by omega)]
          exact o2
        rw [c_lose_cL p8, e, sa_minN (by omega) (by omega)] at h2
        exact h2
      clear hid hQ hc hcs hkm hzr hcx0 hkx hk1 hLd hM hW f1 hI hI2
      simp (disch := omega) only [f_X1_cell, wp_gd, wp_bnd, wp_let, wp_jn0, wp_jn1, wp_jn2, wp_if, wp_ret, wp_rdI, wp_rdL, v_rdR, v_ldI, v_ldL, v_ldR, v_stI, v_stB, v_stZ, v_stL, wp_wrI, wp_wrL, wp_wrR, wp_wrZ, wp_retZ, v_md, v_dv, v_tb, upI_2, true_and, and_true, Nat.add_sub_cancel, Nat.zero_lt_succ, Nat.succ_pos, okN, clN, L0, L1, L2, L3, L4, L5, L6, L7, L8, L9, L10, L11, L12, L13, L14, L15, L16, L17, L18, L19, L20, L21, L22, L23, L24, L25, L26, L27, L28, L29, L30, L31, L32, L33, L34, L35, L36, L37, L38, L39, L40, L41, L42, L43, L44, L45, L46, L47, L48, L49, L50, L51, L52, L53, L54, L55, L56, L57, L58, L59, L60, L61, L62, L63, L64, L65, L66, L67, L68, L69, L70, L71, L72, L73, L74, L75, L76, L77, L78, L79, L80, L81, L82, L83, L84, L85, L86, L87, L88, L89, L90, L91, L92, L93, L94, L95, L96, L97, L98, L99, L100, L101, L102, L103, L104, L105, L106, L107, L108, L109, L110, L111, L112, L113, L114, L115, L116, L117, L118, L119, L120, L121, L122, L123, L124, L125, L126, L127, L128, L129, L130, L131, L200, L240, L255, L260, L1000, L4096, L10140, L1000000, ng1, mI_lt, mI_le, lt_mI, le_mI, eq_mI, mI_eq, mI_mI, mI_mE, nI_add, pk_mul, pk_sub, pk_rem, sa_minN, sa_maxN, ne_eq, nI_leI, nI_ltI, nI_eq, dT_le, dF_le, dT_lt, dF_lt, dT_eq, dF_eq, true_imp_iff, false_imp_iff, not_true_eq_false, not_false_eq_true, false_or, or_false, true_or, or_true, false_and, and_false, Decidable.not_not, reduceIte, if_true, if_false, upI_self, upI_ne, upL_1, upL_21, upL_self, upL_ne, upR_1, upR_22, upR_self, upR_ne, va_up_self, va_up_ne, Nat.reduceAdd, Nat.reduceMul, Nat.reduceSub, Nat.reduceLT, Nat.reduceLeDiff, Nat.reduceEqDiff, Nat.reduceSubDiff, Nat.zero_add, cm3, cm5, cm7, cm8, cm25, Nat.not_lt_zero, Nat.zero_le, not_false_iff, and_self, imp_self, implies_true, forall_const, Nat.lt_irrefl, Nat.le_refl, and_imp, q1, q2, q3, c2, e1, e2, e3, a2, a3, c3, hz0, e180, ob, wp_of_eq f1']
      exact go
  · intro τ hI c
    have hcx := (hI.fa hid).cx hcx0
    have hq := hQ τ hI
    obtain ⟨hk, hL, hLd, hM, hW, hz0, hh0⟩ := hcx
    obtain ⟨⟨a1, a2, a3, a4, a5, a6⟩, e1, e2, e3, e4, e5, e6⟩ := LD.of hk hL
    have c3 := hLd.2.1.2.2.1
    clear hid
    simp (disch := omega) only [wp_gd, wp_bnd, wp_let, wp_jn0, wp_jn1, wp_jn2, wp_if, wp_ret, wp_rdI, wp_rdL, v_rdR, v_ldI, v_ldL, v_ldR, v_stI, v_stB, v_stZ, v_stL, wp_wrI, wp_wrL, wp_wrR, wp_wrZ, wp_retZ, v_md, v_dv, v_tb, upI_2, true_and, and_true, Nat.add_sub_cancel, Nat.zero_lt_succ, Nat.succ_pos, okN, clN, L0, L1, L2, L3, L4, L5, L6, L7, L8, L9, L10, L11, L12, L13, L14, L15, L16, L17, L18, L19, L20, L21, L22, L23, L24, L25, L26, L27, L28, L29, L30, L31, L32, L33, L34, L35, L36, L37, L38, L39, L40, L41, L42, L43, L44, L45, L46, L47, L48, L49, L50, L51, L52, L53, L54, L55, L56, L57, L58, L59, L60, L61, L62, L63, L64, L65, L66, L67, L68, L69, L70, L71, L72, L73, L74, L75, L76, L77, L78, L79, L80, L81, L82, L83, L84, L85, L86, L87, L88, L89, L90, L91, L92, L93, L94, L95, L96, L97, L98, L99, L100, L101, L102, L103, L104, L105, L106, L107, L108, L109, L110, L111, L112, L113, L114, L115, L116, L117, L118, L119, L120, L121, L122, L123, L124, L125, L126, L127, L128, L129, L130, L131, L200, L240, L255, L260, L1000, L4096, L10140, L1000000, ng1, mI_lt, mI_le, lt_mI, le_mI, eq_mI, mI_eq, mI_mI, mI_mE, nI_add, pk_mul, pk_sub, pk_rem, sa_minN, sa_maxN, ne_eq, nI_leI, nI_ltI, nI_eq, dT_le, dF_le, dT_lt, dF_lt, dT_eq, dF_eq, true_imp_iff, false_imp_iff, not_true_eq_false, not_false_eq_true, false_or, or_false, true_or, or_true, false_and, and_false, Decidable.not_not, reduceIte, if_true, if_false, upI_self, upI_ne, upL_1, upL_21, upL_self, upL_ne, upR_1, upR_22, upR_self, upR_ne, va_up_self, va_up_ne, Nat.reduceAdd, Nat.reduceMul, Nat.reduceSub, Nat.reduceLT, Nat.reduceLeDiff, Nat.reduceEqDiff, Nat.reduceSubDiff, Nat.zero_add, cm3, cm5, cm7, cm8, cm25, Nat.not_lt_zero, Nat.zero_le, not_false_iff, and_self, imp_self, implies_true, forall_const, Nat.lt_irrefl, Nat.le_refl, and_imp, e1, e2, a2, c3]
    exact hq
end FOES
