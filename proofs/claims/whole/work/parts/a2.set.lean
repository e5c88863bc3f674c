/-! PICKETS: how often each can stand -/
def liv (k : Nat → Int32) (m i : Nat) : Bool := decide (i < m) && decide (xg k i ≠ 0)
def okS (k : Nat → Int32) (m b : Nat) : Nat → Bool
  | 0 => true
  | i + 1 => okS k m b i && (!liv k m i || decide (b ≤ xg k i))
def cap1 (k : Nat → Int32) (m l b i : Nat) : Nat := if liv k m i then (xg k i - b) / l else 0
def capS (k : Nat → Int32) (m l b i : Nat) : Nat := if okS k m b 8 then cap1 k m l b i else 0
theorem cap1_le (k : Nat → Int32) {P W H B m l b i : Nat} (h : KM P W H B m k) (hP : P ≤ 8) : cap1 k m l b i ≤ 99 := by
  unfold cap1 liv
  by_cases hi : i < m
  · have := ((h.2.2.2.1 i hi).x hP).2.2.1.1
    split
    · exact Nat.le_trans (Nat.div_le_self _ _) (by omega)
    · omega
  · simp [hi]
section SET
variable {σ : sa_St} {P W H B m l b : Nat} {Q : Unit → sa_St → Prop}
theorem e_lives8 {id K i : Nat} {k : Nat → Int32} (hca : CA σ.2.1 id K) (hK : σ.1 K = k) (hkm : KM P W H B m k) (hP : P ≤ 8) (hi : i < 8) : f_X0_lives id (nI i) σ = some (nI (if liv k m i then 1 else 0), σ) := by
  have m8 := hkm.1
  have k22 := hkm.2.1
  by_cases him : i < m
  · obtain ⟨-, -, ⟨xg99, o2⟩, -⟩ := (hkm.2.2.2.1 i him).x hP
    rw [e_lives hca hK k22 m8 him o2 xg99]
    unfold liv
    by_cases h0 : xg k i = 0
    · simp [h0]
    · simp [h0, him]
  · have q1 := hca.1
    have q2 := hca.2.1
    have q3 := hca.al
    have e : liv k m i = false := by unfold liv; simp [him]
    rw [e]
    refine run_of ?_
    clear hkm
    simp (disch := omega) only [f_X0_lives, f_X0_hasCompany, wp_gd, wp_bnd, wp_let, wp_jn0, wp_jn1, wp_jn2, wp_if, wp_ret, wp_rdI, wp_rdL, v_rdR, v_ldI, v_ldL, v_ldR, v_stI, v_stB, v_stZ, v_stL, wp_wrI, wp_wrL, wp_wrR, wp_wrZ, wp_retZ, v_md, v_dv, v_tb, upI_2, true_and, and_true, Nat.add_sub_cancel, Nat.zero_lt_succ, Nat.succ_pos, okN, clN, L0, L1, L2, L3, L4, L5, L6, L7, L8, L9, L10, L11, L12, L13, L14, L15, L16, L17, L18, L19, L20, L21, L22, L23, L24, L25, L26, L27, L28, L29, L30, L31, L32, L33, L34, L35, L36, L37, L38, L39, L40, L41, L42, L43, L44, L45, L46, L47, L48, L49, L50, L51, L52, L53, L54, L55, L56, L57, L58, L59, L60, L61, L62, L63, L64, L65, L66, L67, L68, L69, L70, L71, L72, L73, L74, L75, L76, L77, L78, L79, L80, L81, L82, L83, L84, L85, L86, L87, L88, L89, L90, L91, L92, L93, L94, L95, L96, L97, L98, L99, L100, L101, L102, L103, L104, L105, L106, L107, L108, L109, L110, L111, L112, L113, L114, L115, L116, L117, L118, L119, L120, L121, L122, L123, L124, L125, L126, L127, L128, L129, L130, L131, L200, L240, L255, L260, L1000, L4096, L10140, L1000000, ng1, mI_lt, mI_le, lt_mI, le_mI, eq_mI, mI_eq, mI_mI, mI_mE, nI_add, pk_mul, pk_sub, pk_rem, sa_minN, sa_maxN, ne_eq, nI_leI, nI_ltI, nI_eq, dT_le, dF_le, dT_lt, dF_lt, dT_eq, dF_eq, true_imp_iff, false_imp_iff, not_true_eq_false, not_false_eq_true, false_or, or_false, true_or, or_true, false_and, and_false, Decidable.not_not, reduceIte, if_true, if_false, upI_self, upI_ne, upL_1, upL_21, upL_self, upL_ne, upR_1, upR_22, upR_self, upR_ne, va_up_self, va_up_ne, Nat.reduceAdd, Nat.reduceMul, Nat.reduceSub, Nat.reduceLT, Nat.reduceLeDiff, Nat.reduceEqDiff, Nat.reduceSubDiff, Nat.zero_add, cm3, cm5, cm7, cm8, cm25, Nat.not_lt_zero, Nat.zero_le, not_false_iff, and_self, imp_self, implies_true, forall_const, Nat.lt_irrefl, Nat.le_refl, and_imp, q1, q2, q3, hK, k22]
    rfl
end SET
