/-! LOSSES by both -/
theorem bitI {ρ p : Nat} (hρ : ρ < 2 ^ 31) (hp : p < 8) : (nI ρ >>> (nI p &&& nI 31)) &&& nI 1 = nI (ρ / 2 ^ p % 2) := by
  have h1 : nI p &&& nI 31 = nI p := by
    rw [pk_andN (by omega) 5 (by decide)]
    exact congrArg nI (by omega)
  have h2 : ∀ p, p < 8 → ((nI p).toBitVec.smod 32).toNat = p := by decide
  rw [h1, pk_shrN hρ (nI p) p (h2 p hp), pk_andN (Nat.lt_of_le_of_lt (Nat.div_le_self _ _) (by omega)) 1 (by decide)]
section CLX
variable {C : C3} {i p : Nat} {v : Int32}
theorem cL_gone (hp : p < 8) (hv : C.1 (23 + 7 * i + 2) - v = nI 0) : cL C i v p = (va_up (va_up (va_up (va_up C.1 (23 + 7 * i + 2) (nI 0)) p (C.1 p + v)) (8 + p) (C.1 (8 + p) ||| C.1 (23 + 7 * i + 5))) (23 + 7 * i + 5) (nI 0), C.2.1 + v, C.2.2 + nI 1) := by
  unfold cL
  simp only [hv, if_true]
  refine Prod.ext (funext fun x => ?_) rfl
  show ite _ _ _ = va_up _ _ _ x
  by_cases e1 : x = 23 + 7 * i + 5
  · subst e1; simp (disch := omega) only [va_up_self, dF_eq, dT_eq, if_true, if_false]
  by_cases e2 : x = 8 + p
  · subst e2; simp (disch := omega) only [va_up_self, va_up_ne, dF_eq, dT_eq, if_true, if_false]
  by_cases e3 : x = p
  · subst e3; simp (disch := omega) only [va_up_self, va_up_ne, dF_eq, dT_eq, if_true, if_false]
  by_cases e4 : x = 23 + 7 * i + 2
  · subst e4; simp (disch := omega) only [va_up_self, va_up_ne, dF_eq, dT_eq, if_true, if_false]
  simp (disch := omega) only [va_up_ne, dF_eq, if_false]
theorem cL_live (hp : p < 8) (hv : ¬ C.1 (23 + 7 * i + 2) - v = nI 0) : cL C i v p = (va_up (va_up C.1 (23 + 7 * i + 2) (C.1 (23 + 7 * i + 2) - v)) p (C.1 p + v), C.2.1 + v, C.2.2) := by
  unfold cL
  simp only [hv, if_false]
  refine Prod.ext (funext fun x => ?_) rfl
  show ite _ _ _ = va_up _ _ _ x
  by_cases e3 : x = p
  · subst e3; simp (disch := omega) only [va_up_self, va_up_ne, dF_eq, dT_eq, if_true, if_false]
  by_cases e4 : x = 23 + 7 * i + 2
  · subst e4; simp (disch := omega) only [va_up_self, va_up_ne, dF_eq, dT_eq, if_true, if_false]
  simp (disch := omega) only [va_up_ne, dF_eq, if_false]
  by_cases e2 : x = 8 + p
  · subst e2; simp
  by_cases e1 : x = 23 + 7 * i + 5
  · subst e1; rw [if_neg e2, if_pos rfl]
  rw [if_neg e2, if_neg e1]
end CLX
/-- to the river -/
def cR (C : C3) (i : Nat) (v : Int32) : C3 := if C.1 (23 + 7 * i + 2) - v = nI 0 then (va_up (va_up (va_up C.1 (23 + 7 * i + 2) (C.1 (23 + 7 * i + 2) - v)) 19 (C.1 19 + v)) (23 + 7 * i + 5) (nI 0), C.2.1 + v, C.2.2 + nI 1) else (va_up (va_up C.1 (23 + 7 * i + 2) (C.1 (23 + 7 * i + 2) - v)) 19 (C.1 19 + v), C.2.1 + v, C.2.2)
theorem c_lose_cR {C : C3} {i : Nat} {n : Int32} : c_lose C i n none = cR C i (sa_min n (C.1 (23 + 7 * i + 2))) := rfl
theorem cR_0 {C : C3} {i g : Nat} (hg : C.1 (23 + 7 * i + 2) = nI g) (g0 : 0 < g) (g99 : g ≤ 99) : cR C i (nI 0) = C := by
  unfold cR
  have e : C.1 (23 + 7 * i + 2) - nI 0 = C.1 (23 + 7 * i + 2) := Int32.sub_zero _
  have e2 : ∀ x : Int32, x + nI 0 = x := fun x => Int32.add_zero x
  have hne : ¬ nI g = nI 0 := by rw [nI_eq (by omega) (by omega)]; omega
  rw [e, e2, e2, if_neg (by rw [hg]; exact hne), va_up_id rfl, va_up_id rfl]
theorem KM.lostR {P W H B m : Nat} {C : C3} {i g a : Nat} (h : KM P W H B m C.1) (hi : i < m) (hg : C.1 (23 + 7 * i + 2) = nI g) (hgg : g ≤ 99) (ha : a ≤ g) : KM P W H B m (cR C i (nI a)).1 := by
  have hv : C.1 (23 + 7 * i + 2) - nI a = nI (g - a) := by rw [hg, pk_sub ha]
  have s1 := (h.grains hi (show g - a ≤ 99 by omega)).free (n := 19) (v := C.1 19 + nI a) (by omega)
  unfold cR
  rw [hv]
  by_cases hz : nI (g - a) = nI 0
  · rw [if_pos hz]
    exact s1.known hi (by omega)
  · rw [if_neg hz]
    exact s1
/-- the reference's state in an hour: the row R as C says -/
def MS (n : Nat) (f : Nat → LWt) (R : Nat) (σ0 : sa_St) (C : C3) (wl : Nat → Int32) (σ : sa_St) : Prop := Mf n f R σ0 σ ∧ σ.1 R = toW C.1 wl ∧ σ.1 159 40 = C.2.1 ∧ σ.1 159 41 = C.2.2
theorem Mf.up9 {n : Nat} {f : Nat → LWt} {R x : Nat} {v : Int32} {σ τ : sa_St} (h : Mf n f R σ τ) (hx : x = 40 ∨ x = 41) : Mf n f R σ (sa_upI τ 159 x v) := by
  refine ⟨⟨h.1.1, fun j hj => ⟨?_, (h.1.2 j hj).2⟩⟩, fun k g1 g2 g3 => ?_, ?_⟩
  · rw [upI_ne (fun e => hj (by rw [e]; simp))]
    exact (h.1.2 j hj).1
  · rw [upI_self, va_up_ne _ _ (by omega)]
    exact h.2.1 k g1 g2 g3
  · rw [upI_ne (by omega)]
    exact h.2.2
section RLOSE
variable {n R : Nat} {f : Nat → LWt} {σ0 σ : sa_St} {C : C3} {wl : Nat → Int32} {i p g a : Nat} {Q : Unit → sa_St → Prop}
theorem r_loseP (hR : R = 173 ∨ R = 174) (hm : MS n f R σ0 C wl σ) (hi : i < 8) (hp : p < 8) (kp : C.1 (23 + 7 * i + 0) = nI p) (kg : C.1 (23 + 7 * i + 2) = nI g) (g99 : g ≤ 99) (a99 : a ≤ 99) (hQ : ∀ τ, MS n f R σ0 (cL C i (nI (min a g)) p) wl τ → Q () τ) : wp (f_X12_loses 159 R (nI i) (nI a) (nI 0)) σ Q := by
  obtain ⟨hM, hw, h40, h41⟩ := hm
  have hal : sa_al .int R = 260 := by rcases hR with rfl | rfl <;> rfl
  have hRn : R ≠ 159 := by omega
  have hv : C.1 (23 + 7 * i + 2) - nI (min a g) = nI (g - min a g) := by rw [kg, pk_sub (by omega)]
  by_cases hz : g ≤ a
  · have e0 : nI (g - min a g) = nI 0 := congrArg nI (by omega)
    simp (disch := omega) only [f_X12_loses, wp_gd, wp_bnd, wp_let, wp_jn0, wp_jn1, wp_jn2, wp_if, wp_ret, wp_rdI, wp_rdL, v_rdR, v_ldI, v_ldL, v_ldR, v_stI, v_stB, v_stZ, v_stL, wp_wrI, wp_wrL, wp_wrR, wp_wrZ, wp_retZ, v_md, v_dv, v_tb, upI_2, true_and, and_true, Nat.add_sub_cancel, Nat.zero_lt_succ, Nat.succ_pos, okN, clN, L0, L1, L2, L3, L4, L5, L6, L7, L8, L9, L10, L11, L12, L13, L14, L15, L16, L17, L18, L19, L20, L21, L22, L23, L24, L25, L26, L27, L28, L29, L30, L31, L32, L33, L34, L35, L36, L37, L38, L39, L40, L41, L42, L43, L44, L45, L46, L47, L48, L49, L50, L51, L52, L53, L54, L55, L56, L57, L58, L59, L60, L61, L62, L63, L64, L65, L66, L67, L68, L69, L70, L71, L72, L73, L74, L75, L76, L77, L78, L79, L80, L81, L82, L83, L84, L85, L86, L87, L88, L89, L90, L91, L92, L93, L94, L95, L96, L97, L98, L99, L100, L101, L102, L103, L104, L105, L106, L107, L108, L109, L110, L111, L112, L113, L114, L115, L116, L117, L118, L119, L120, L121, L122, L123, L124, L125, L126, L127, L128, L129, L130, L131, L200, L240, L255, L260, L1000, L4096, L10140, L1000000, ng1, mI_lt, mI_le, lt_mI, le_mI, eq_mI, mI_eq, mI_mI, mI_mE, nI_add, pk_mul, pk_sub, pk_rem, sa_minN, sa_maxN, ne_eq, nI_leI, nI_ltI, nI_eq, dT_le, dF_le, dT_lt, dF_lt, dT_eq, dF_eq, true_imp_iff, false_imp_iff, not_true_eq_false, not_false_eq_true, false_or, or_false, true_or, or_true, false_and, and_false, Decidable.not_not, reduceIte, if_true, if_false, upI_self, upI_ne, upL_1, upL_21, upL_self, upL_ne, upR_1, upR_22, upR_self, upR_ne, va_up_self, va_up_ne, Nat.reduceAdd, Nat.reduceMul, Nat.reduceSub, Nat.reduceLT, Nat.reduceLeDiff, Nat.reduceEqDiff, Nat.reduceSubDiff, Nat.zero_add, cm3, cm5, cm7, cm8, cm25, Nat.not_lt_zero, Nat.zero_le, not_false_iff, and_self, imp_self, implies_true, forall_const, Nat.lt_irrefl, Nat.le_refl, and_imp, sh_0, sh_159, sh_1, sh_15, sh_44, sh_46, sh_48, sh_134, sh_136, sh_151, sh_156, hal, hw, toW_own, toW_own0, toW_gr, toW_lo, toW_bk, toW_75, toW_76, toW_77, toW_78, kp, kg, h40, h41, e0]
    refine hQ _ ?_
    rw [cL_gone hp (hv.trans e0)]
    refine ⟨Mf.up (Mf.up (Mf.up9 (Mf.up (Mf.up9 (Mf.up hM hR) (Or.inl rfl)) hR) (Or.inr rfl)) hR) hR, ?_, ?_, ?_⟩
    · simp (disch := omega) only [upI_self, upI_ne, hw, toW_uo, toW_ug, toW_ul]
    · simp (disch := omega) only [upI_self, upI_ne, va_up_self, va_up_ne, h40]
    · simp (disch := omega) only [upI_self, upI_ne, va_up_self, va_up_ne, h41]
  · have e0 : ¬ nI (g - min a g) = nI 0 := by rw [nI_eq (by omega) (by omega)]; omega
    simp (disch := omega) only [f_X12_loses, wp_gd, wp_bnd, wp_let, wp_jn0, wp_jn1, wp_jn2, wp_if, wp_ret, wp_rdI, wp_rdL, v_rdR, v_ldI, v_ldL, v_ldR, v_stI, v_stB, v_stZ, v_stL, wp_wrI, wp_wrL, wp_wrR, wp_wrZ, wp_retZ, v_md, v_dv, v_tb, upI_2, true_and, and_true, Nat.add_sub_cancel, Nat.zero_lt_succ, Nat.succ_pos, okN, clN, L0, L1, L2, L3, L4, L5, L6, L7, L8, L9, L10, L11, L12, L13, L14, L15, L16, L17, L18, L19, L20, L21, L22, L23, L24, L25, L26, L27, L28, L29, L30, L31, L32, L33, L34, L35, L36, L37, L38, L39, L40, L41, L42, L43, L44, L45, L46, L47, L48, L49, L50, L51, L52, L53, L54, L55, L56, L57, L58, L59, L60, L61, L62, L63, L64, L65, L66, L67, L68, L69, L70, L71, L72, L73, L74, L75, L76, L77, L78, L79, L80, L81, L82, L83, L84, L85, L86, L87, L88, L89, L90, L91, L92, L93, L94, L95, L96, L97, L98, L99, L100, L101, L102, L103, L104, L105, L106, L107, L108, L109, L110, L111, L112, L113, L114, L115, L116, L117, L118, L119, L120, L121, L122, L123, L124, L125, L126, L127, L128, L129, L130, L131, L200, L240, L255, L260, L1000, L4096, L10140, L1000000, ng1, mI_lt, mI_le, lt_mI, le_mI, eq_mI, mI_eq, mI_mI, mI_mE, nI_add, pk_mul, pk_sub, pk_rem, sa_minN, sa_maxN, ne_eq, nI_leI, nI_ltI, nI_eq, dT_le, dF_le, dT_lt, dF_lt, dT_eq, dF_eq, true_imp_iff, false_imp_iff, not_true_eq_false, not_false_eq_true, false_or, or_false, true_or, or_true, false_and, and_false, Decidable.not_not, reduceIte, if_true, if_false, upI_self, upI_ne, upL_1, upL_21, upL_self, upL_ne, upR_1, upR_22, upR_self, upR_ne, va_up_self, va_up_ne, Nat.reduceAdd, Nat.reduceMul, Nat.reduceSub, Nat.reduceLT, Nat.reduceLeDiff, Nat.reduceEqDiff, Nat.reduceSubDiff, Nat.zero_add, cm3, cm5, cm7, cm8, cm25, Nat.not_lt_zero, Nat.zero_le, not_false_iff, and_self, imp_self, implies_true, forall_const, Nat.lt_irrefl, Nat.le_refl, and_imp, sh_0, sh_159, sh_1, sh_15, sh_44, sh_46, sh_48, sh_134, sh_136, sh_151, sh_156, hal, hw, toW_own, toW_own0, toW_gr, toW_lo, toW_bk, toW_75, toW_76, toW_77, toW_78, kp, kg, h40, h41]
    refine hQ _ ?_
    rw [cL_live hp (by rw [hv]; exact e0), hv]
    refine ⟨Mf.up (Mf.up9 (Mf.up hM hR) (Or.inl rfl)) hR, ?_, ?_, ?_⟩
    · simp (disch := omega) only [upI_self, upI_ne, hw, toW_uo, toW_ug, toW_ul]
    · simp (disch := omega) only [upI_self, upI_ne, va_up_self, va_up_ne, h40]
    · simp (disch := omega) only [upI_self, upI_ne, va_up_self, va_up_ne, h41]
theorem r_loseR (hR : R = 173 ∨ R = 174) (hm : MS n f R σ0 C wl σ) (hi : i < 8) (hp : p < 8) (kp : C.1 (23 + 7 * i + 0) = nI p) (kg : C.1 (23 + 7 * i + 2) = nI g) (g99 : g ≤ 99) (a99 : a ≤ 99) (hQ : ∀ τ, MS n f R σ0 (cR C i (nI (min a g))) wl τ → Q () τ) : wp (f_X12_loses 159 R (nI i) (nI a) (nI 1)) σ Q := by
  obtain ⟨hM, hw, h40, h41⟩ := hm
  have hal : sa_al .int R = 260 := by rcases hR with rfl | rfl <;> rfl
  have hRn : R ≠ 159 := by omega
  have hv : C.1 (23 + 7 * i + 2) - nI (min a g) = nI (g - min a g) := by rw [kg, pk_sub (by omega)]
  by_cases hz : g ≤ a
  · have e0 : nI (g - min a g) = nI 0 := congrArg nI (by omega)
    simp (disch := omega) only [f_X12_loses, wp_gd, wp_bnd, wp_let, wp_jn0, wp_jn1, wp_jn2, wp_if, wp_ret, wp_rdI, wp_rdL, v_rdR, v_ldI, v_ldL, v_ldR, v_stI, v_stB, v_stZ, v_stL, wp_wrI, wp_wrL, wp_wrR, wp_wrZ, wp_retZ, v_md, v_dv, v_tb, upI_2, true_and, and_true, Nat.add_sub_cancel, Nat.zero_lt_succ, Nat.succ_pos, okN, clN, L0, L1, L2, L3, L4, L5, L6, L7, L8, L9, L10, L11, L12, L13, L14, L15, L16, L17, L18, L19, L20, L21, L22, L23, L24, L25, L26, L27, L28, L29, L30, L31, L32, L33, L34, L35, L36, L37, L38, L39, L40, L41, L42, L43, L44, L45, L46, L47, L48, L49, L50, L51, L52, L53, L54, L55, L56, L57, L58, L59, L60, L61, L62, L63, L64, L65, L66, L67, L68, L69, L70, L71, L72, L73, L74, L75, L76, L77, L78, L79, L80, L81, L82, L83, L84, L85, L86, L87, L88, L89, L90, L91, L92, L93, L94, L95, L96, L97, L98, L99, L100, L101, L102, L103, L104, L105, L106, L107, L108, L109, L110, L111, L112, L113, L114, L115, L116, L117, L118, L119, L120, L121, L122, L123, L124, L125, L126, L127, L128, L129, L130, L131, L200, L240, L255, L260, L1000, L4096, L10140, L1000000, ng1, mI_lt, mI_le, lt_mI, le_mI, eq_mI, mI_eq, mI_mI, mI_mE, nI_add, pk_mul, pk_sub, pk_rem, sa_minN, sa_maxN, ne_eq, nI_leI, nI_ltI, nI_eq, dT_le, dF_le, dT_lt, dF_lt, dT_eq, dF_eq, true_imp_iff, false_imp_iff, not_true_eq_false, not_false_eq_true, false_or, or_false, true_or, or_true, false_and, and_false, Decidable.not_not, reduceIte, if_true, if_false, upI_self, upI_ne, upL_1, upL_21, upL_self, upL_ne, upR_1, upR_22, upR_self, upR_ne, va_up_self, va_up_ne, Nat.reduceAdd, Nat.reduceMul, Nat.reduceSub, Nat.reduceLT, Nat.reduceLeDiff, Nat.reduceEqDiff, Nat.reduceSubDiff, Nat.zero_add, cm3, cm5, cm7, cm8, cm25, Nat.not_lt_zero, Nat.zero_le, not_false_iff, and_self, imp_self, implies_true, forall_const, Nat.lt_irrefl, Nat.le_refl, and_imp, sh_0, sh_159, sh_1, sh_15, sh_44, sh_46, sh_48, sh_134, sh_136, sh_151, sh_156, hal, hw, toW_own, toW_own0, toW_gr, toW_lo, toW_bk, toW_75, toW_76, toW_77, toW_78, kp, kg, h40, h41, e0]
    refine hQ _ ?_
    unfold cR
    rw [if_pos (hv.trans e0), hv, e0]
    refine ⟨Mf.up (Mf.up9 (Mf.up (Mf.up9 (Mf.up hM hR) (Or.inl rfl)) hR) (Or.inr rfl)) hR, ?_, ?_, ?_⟩
    · simp (disch := omega) only [upI_self, upI_ne, hw, toW_uo, toW_u77]
    · simp (disch := omega) only [upI_self, upI_ne, va_up_self, va_up_ne, h40]
    · simp (disch := omega) only [upI_self, upI_ne, va_up_self, va_up_ne, h41]
  · have e0 : ¬ nI (g - min a g) = nI 0 := by rw [nI_eq (by omega) (by omega)]; omega
    simp (disch := omega) only [f_X12_loses, wp_gd, wp_bnd, wp_let, wp_jn0, wp_jn1, wp_jn2, wp_if, wp_ret, wp_rdI, wp_rdL, v_rdR, v_ldI, v_ldL, v_ldR, v_stI, v_stB, v_stZ, v_stL, wp_wrI, wp_wrL, wp_wrR, wp_wrZ, wp_retZ, v_md, v_dv, v_tb, upI_2, true_and, and_true, Nat.add_sub_cancel, Nat.zero_lt_succ, Nat.succ_pos, okN, clN, L0, L1, L2, L3, L4, L5, L6, L7, L8, L9, L10, L11, L12, L13, L14, L15, L16, L17, L18, L19, L20, L21, L22, L23, L24, L25, L26, L27, L28, L29, L30, L31, L32, L33, L34, L35, L36, L37, L38, L39, L40, L41, L42, L43, L44, L45, L46, L47, L48, L49, L50, L51, L52, L53, L54, L55, L56, L57, L58, L59, L60, L61, L62, L63, L64, L65, L66, L67, L68, L69, L70, L71, L72, L73, L74, L75, L76, L77, L78, L79, L80, L81, L82, L83, L84, L85, L86, L87, L88, L89, L90, L91, L92, L93, L94, L95, L96, L97, L98, L99, L100, L101, L102, L103, L104, L105, L106, L107, L108, L109, L110, L111, L112, L113, L114, L115, L116, L117, L118, L119, L120, L121, L122, L123, L124, L125, L126, L127, L128, L129, L130, L131, L200, L240, L255, L260, L1000, L4096, L10140, L1000000, ng1, mI_lt, mI_le, lt_mI, le_mI, eq_mI, mI_eq, mI_mI, mI_mE, nI_add, pk_mul, pk_sub, pk_rem, sa_minN, sa_maxN, ne_eq, nI_leI, nI_ltI, nI_eq, dT_le, dF_le, dT_lt, dF_lt, dT_eq, dF_eq, true_imp_iff, false_imp_iff, not_true_eq_false, not_false_eq_true, false_or, or_false, true_or, or_true, false_and, and_false, Decidable.not_not, reduceIte, if_true, if_false, upI_self, upI_ne, upL_1, upL_21, upL_self, upL_ne, upR_1, upR_22, upR_self, upR_ne, va_up_self, va_up_ne, Nat.reduceAdd, Nat.reduceMul, Nat.reduceSub, Nat.reduceLT, Nat.reduceLeDiff, Nat.reduceEqDiff, Nat.reduceSubDiff, Nat.zero_add, cm3, cm5, cm7, cm8, cm25, Nat.not_lt_zero, Nat.zero_le, not_false_iff, and_self, imp_self, implies_true, forall_const, Nat.lt_irrefl, Nat.le_refl, and_imp, sh_0, sh_159, sh_1, sh_15, sh_44, sh_46, sh_48, sh_134, sh_136, sh_151, sh_156, hal, hw, toW_own, toW_own0, toW_gr, toW_lo, toW_bk, toW_75, toW_76, toW_77, toW_78, kp, kg, h40, h41]
    refine hQ _ ?_
    unfold cR
    rw [if_neg (by rw [hv]; exact e0), hv]
    refine ⟨Mf.up (Mf.up9 (Mf.up hM hR) (Or.inl rfl)) hR, ?_, ?_, ?_⟩
    · simp (disch := omega) only [upI_self, upI_ne, hw, toW_uo, toW_u77]
    · simp (disch := omega) only [upI_self, upI_ne, va_up_self, va_up_ne, h40]
    · simp (disch := omega) only [upI_self, upI_ne, va_up_self, va_up_ne, h41]
end RLOSE
theorem CS.step {S : List Nat} {σ0 σ τ : sa_St} {id K : Nat} {C : C3} (h : CS S σ0 id K C σ) (hF : Fr [17, 20, 23, 26, 29, 32] σ τ) (hS : ∀ j ∈ [17, 20, 23, 26, 29, 32], j ∈ S) (h1 : K ∉ [17, 20, 23, 26, 29, 32]) (h2 : id ∉ [17, 20, 23, 26, 29, 32]) : CS S σ0 id K C τ := by
  obtain ⟨c1, c2, c3, c4⟩ := h
  refine ⟨c1.trans (hF.mono hS), ?_, ?_, ?_⟩
  · rw [(hF.2 K h1).1]; exact c2
  · rw [(hF.2 id h2).1]; exact c3
  · rw [(hF.2 id h2).1]; exact c4
section OWNX
variable {P W : Nat} {k : Nat → Int32} {i : Nat}
def xp (k : Nat → Int32) (i : Nat) : Nat := (k (23 + 7 * i + 0)).toNatClampNeg
def xl (k : Nat → Int32) (i : Nat) : Nat := (k (23 + 7 * i + 1)).toNatClampNeg
def xg (k : Nat → Int32) (i : Nat) : Nat := (k (23 + 7 * i + 2)).toNatClampNeg
def xw (k : Nat → Int32) (i : Nat) : Nat := (k (23 + 7 * i + 3)).toNatClampNeg
def xd (k : Nat → Int32) (i : Nat) : Nat := (k (23 + 7 * i + 4)).toNatClampNeg
def xv (k : Nat → Int32) (i : Nat) : Nat := (k (23 + 7 * i + 6)).toNatClampNeg
theorem Own.x (h : Own P W k i) (hP : P ≤ 8) : (xp k i < P ∧ k (23 + 7 * i + 0) = nI (xp k i)) ∧ (xl k i ≤ 9 ∧ xv k i < 12 ∧ (0 < xl k i → xv k i < W) ∧ k (23 + 7 * i + 1) = nI (xl k i) ∧ k (23 + 7 * i + 6) = nI (xv k i)) ∧ (xg k i ≤ 99 ∧ k (23 + 7 * i + 2) = nI (xg k i)) ∧ (xw k i ≤ 9 ∧ k (23 + 7 * i + 3) = nI (xw k i)) ∧ (xd k i ≤ 3 ∧ k (23 + 7 * i + 4) = nI (xd k i)) := by
  unfold xp xl xg xw xd xv
  obtain ⟨⟨p, hp, e1⟩, ⟨l, v, hl, hv, hlv, e2, e3⟩, ⟨g, hg, e4⟩, ⟨w, hw, e5⟩, ⟨d, hd, e6⟩, -⟩ := h
  rw [e1, e2, e3, e4, e5, e6, nI_clamp (by omega), nI_clamp (by omega), nI_clamp (by omega), nI_clamp (by omega), nI_clamp (by omega), nI_clamp (by omega)]
  exact ⟨⟨hp, rfl⟩, ⟨hl, hv, hlv, rfl, rfl⟩, ⟨hg, rfl⟩, ⟨hw, rfl⟩, ⟨hd, rfl⟩⟩
end OWNX
