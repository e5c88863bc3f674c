/-! HOW FAR APART, by the reference: -1 where the class's map has 1000 -/
def en (x : Nat) : Int32 := if x < 1000 then nI x else mI
theorem en_lt {x : Nat} (h : x < 1000) : en x = nI x := if_pos h
theorem en_ge {x : Nat} (h : 1000 ≤ x) : en x = mI := if_neg (by omega)
theorem mp0_succ (W : Nat) (c : Nat → Nat) (e : Nat → Nat → Nat → Bool) (a b : Nat) : mp0 (W + 1) c e a b = if a = b then 0 else if e a b W then min (mp0 W c e a b) (c W) else mp0 W c e a b := by
  unfold mp0
  by_cases h : a = b
  · rw [if_pos h, if_pos h]
  · simp only [if_neg h, List.range_succ, List.filter_append, List.foldl_append]
    by_cases h2 : e a b W = true
    · simp [h2]
    · simp [h2]
theorem mp0_le {c : Nat → Nat} {e : Nat → Nat → Nat → Bool} : ∀ W a b, mp0 W c e a b ≤ 1000 := by
  intro W
  induction W with
  | zero =>
    intro a b
    unfold mp0
    by_cases h : a = b
    · rw [if_pos h]; omega
    · rw [if_neg h]; simp
  | succ W ih =>
    intro a b
    rw [mp0_succ]
    have := ih a b
    split
    · omega
    · split <;> omega
theorem mp0_diag {W : Nat} {c : Nat → Nat} {e : Nat → Nat → Nat → Bool} (a : Nat) : mp0 W c e a a = 0 := if_pos rfl
theorem mp0_9 {c : Nat → Nat} {e : Nat → Nat → Nat → Bool} : ∀ W, (∀ k, k < W → c k ≤ 9) → ∀ a b, mp0 W c e a b < 1000 → mp0 W c e a b ≤ 9 := by
  intro W
  induction W with
  | zero =>
    intro _ a b
    unfold mp0
    by_cases h : a = b
    · rw [if_pos h]; omega
    · rw [if_neg h]; simp
  | succ W ih =>
    intro hc a b
    rw [mp0_succ]
    have h1 := ih (fun k hk => hc k (by omega)) a b
    have h2 := hc W (by omega)
    split
    · omega
    · split <;> omega
theorem mp0_far {P : Nat} {z : Nat → Int32} {c : Nat → Nat} : ∀ W, (∀ k, k < W → ∃ a b : Nat, a < P ∧ b < P ∧ z (60 + 5 * k) = nI a ∧ z (60 + 5 * k + 1) = nI b) → P ≤ 8 → ∀ a b, a < 2 ^ 31 → b < 2 ^ 31 → a ≠ b → (P ≤ a ∨ P ≤ b) → mp0 W c (wayB z) a b = 1000 := by
  intro W
  induction W with
  | zero => intro _ _ a b _ _ h _; unfold mp0; rw [if_neg h]; rfl
  | succ W ih =>
    intro hz hP a b ha hb hab h
    rw [mp0_succ, if_neg hab, ih (fun k hk => hz k (by omega)) hP a b ha hb hab h]
    obtain ⟨x, y, hx, hy, e1, e2⟩ := hz W (by omega)
    have : wayB z a b W = false := by
      unfold wayB
      apply decide_eq_false
      rw [e1, e2, nI_eq (by omega) ha, nI_eq (by omega) hb, nI_eq (by omega) hb, nI_eq (by omega) ha]
      omega
    rw [this]
    rfl
theorem mpN_congr8 {m m2 : Nat → Nat → Nat} (h : ∀ a b, a < 8 → b < 8 → m a b = m2 a b) : ∀ n, n ≤ 8 → ∀ a b, a < 8 → b < 8 → mpN m n a b = mpN m2 n a b := by
  intro n
  induction n with
  | zero => exact fun _ a b ha hb => h a b ha hb
  | succ n ih =>
    intro hn a b ha hb
    rw [mpN_succ, mpN_succ, ih (by omega) a b ha hb, ih (by omega) a n ha (by omega), ih (by omega) n b (by omega) hb]
/-- the map of so many ways, and far beyond the eight places -/
def mpE (W : Nat) (c : Nat → Nat) (z : Nat → Int32) (a b : Nat) : Nat := if a = b then 0 else if a < 8 ∧ b < 8 then mp0 W c (wayB z) a b else 1000
theorem mpE_eq {W : Nat} {c : Nat → Nat} {z : Nat → Int32} {a b : Nat} (ha : a < 8) (hb : b < 8) : mpE W c z a b = mp0 W c (wayB z) a b := by
  unfold mpE
  by_cases h : a = b
  · subst h; rw [if_pos rfl, mp0_diag]
  · rw [if_neg h, if_pos ⟨ha, hb⟩]
theorem mpE_diag {W : Nat} {c : Nat → Nat} {z : Nat → Int32} (a : Nat) : mpE W c z a a = 0 := if_pos rfl
theorem mpE_le {W : Nat} {c : Nat → Nat} {z : Nat → Int32} (a b : Nat) : mpE W c z a b ≤ 1000 := by
  unfold mpE
  split
  · omega
  · split
    · exact mp0_le _ _ _
    · omega
theorem mpE_9 {W : Nat} {c : Nat → Nat} {z : Nat → Int32} (hc : ∀ k, k < W → c k ≤ 9) (a b : Nat) (h : mpE W c z a b < 1000) : mpE W c z a b ≤ 9 := by
  unfold mpE at h ⊢
  split at h
  · rename_i h1; rw [if_pos h1]; omega
  · rename_i h1
    rw [if_neg h1]
    split at h
    · rename_i h2; rw [if_pos h2]; exact mp0_9 W hc a b h
    · omega
theorem mpE_far {P W : Nat} {c : Nat → Nat} {z : Nat → Int32} (hz : ∀ k, k < W → ∃ a b : Nat, a < P ∧ b < P ∧ z (60 + 5 * k) = nI a ∧ z (60 + 5 * k + 1) = nI b) (hP : P ≤ 8) (a b : Nat) (hab : a ≠ b) (h : P ≤ a ∨ P ≤ b) : 1000 ≤ mpE W c z a b := by
  unfold mpE
  rw [if_neg hab]
  split
  · rename_i h2
    rw [mp0_far W hz hP a b (by omega) (by omega) hab h]
    exact Nat.le_refl _
  · exact Nat.le_refl _
/-- the class's map over eight places is the reference's over those that there are -/
theorem mp_same {P W : Nat} {c : Nat → Nat} {z : Nat → Int32} (hz : ∀ k, k < W → ∃ a b : Nat, a < P ∧ b < P ∧ z (60 + 5 * k) = nI a ∧ z (60 + 5 * k + 1) = nI b) (hP : P ≤ 8) {a b : Nat} (ha : a < 8) (hb : b < 8) : mpN (mp0 W c (wayB z)) 8 a b = mpN (mpE W c z) P a b := by
  rw [mpN_congr8 (m2 := mpE W c z) (fun a b ha hb => (mpE_eq ha hb).symm) 8 (Nat.le_refl 8) a b ha hb]
  exact mpN_same (m := mpE W c z) (P := P) mpE_diag mpE_le (mpE_far hz hP) 8 hP a b
section APART
variable {L P W F n : Nat} {f : Nat → LWt} {z : Nat → Int32} {hold : Int32} {σ : sa_St} {r : Nat → Int32}
theorem m_short {Q : Unit → sa_St → Prop} (hk : SK σ.2.1) {a b v x : Nat} (ha : a < 8) (hb : b < 8) (hv : v < 1000) (hx : σ.1 189 (8 * a + b) = en x) (hQ : Q () (sa_upI σ 189 (8 * a + b) (en (min x v)))) : wp (f_X12_shortens 159 (nI a) (nI b) (nI v)) σ Q := by
  by_cases h : x < 1000
  · rw [en_lt h] at hx
    by_cases h2 : x ≤ v
    · have e : sa_upI σ 189 (8 * a + b) (en (min x v)) = σ := by
        rw [show min x v = x by omega, en_lt h]
        refine Prod.ext ?_ rfl
        show va_up σ.1 189 (va_up (σ.1 189) (8 * a + b) (nI x)) = σ.1
        rw [va_up_id hx, va_up_id rfl]
      rw [e] at hQ
      simp (disch := omega) only [f_X12_shortens, wp_gd, wp_bnd, wp_let, wp_jn0, wp_jn1, wp_jn2, wp_if, wp_ret, wp_rdI, wp_rdL, v_rdR, v_ldI, v_ldL, v_ldR, v_stI, v_stB, v_stZ, v_stL, wp_wrI, wp_wrL, wp_wrR, wp_wrZ, wp_retZ, v_md, v_dv, v_tb, upI_2, true_and, and_true, Nat.add_sub_cancel, Nat.zero_lt_succ, Nat.succ_pos, okN, clN, L0, L1, L2, L3, L4, L5, L6, L7, L8, L9, L10, L11, L12, L13, L14, L15, L16, L17, L18, L19, L20, L21, L22, L23, L24, L25, L26, L27, L28, L29, L30, L31, L32, L33, L34, L35, L36, L37, L38, L39, L40, L41, L42, L43, L44, L45, L46, L47, L48, L49, L50, L51, L52, L53, L54, L55, L56, L57, L58, L59, L60, L61, L62, L63, L64, L65, L66, L67, L68, L69, L70, L71, L72, L73, L74, L75, L76, L77, L78, L79, L80, L81, L82, L83, L84, L85, L86, L87, L88, L89, L90, L91, L92, L93, L94, L95, L96, L97, L98, L99, L100, L101, L102, L103, L104, L105, L106, L107, L108, L109, L110, L111, L112, L113, L114, L115, L116, L117, L118, L119, L120, L121, L122, L123, L124, L125, L126, L127, L128, L129, L130, L131, L200, L240, L255, L260, L1000, L4096, L10140, L1000000, ng1, mI_lt, mI_le, lt_mI, le_mI, eq_mI, mI_eq, mI_mI, mI_mE, nI_add, pk_mul, pk_sub, pk_rem, sa_minN, sa_maxN, ne_eq, nI_leI, nI_ltI, nI_eq, dT_le, dF_le, dT_lt, dF_lt, dT_eq, dF_eq, true_imp_iff, false_imp_iff, not_true_eq_false, not_false_eq_true, false_or, or_false, true_or, or_true, false_and, and_false, Decidable.not_not, reduceIte, if_true, if_false, upI_self, upI_ne, upL_1, upL_21, upL_self, upL_ne, upR_1, upR_22, upR_self, upR_ne, va_up_self, va_up_ne, Nat.reduceAdd, Nat.reduceMul, Nat.reduceSub, Nat.reduceLT, Nat.reduceLeDiff, Nat.reduceEqDiff, Nat.reduceSubDiff, Nat.zero_add, cm3, cm5, cm7, cm8, cm25, Nat.not_lt_zero, Nat.zero_le, not_false_iff, and_self, imp_self, implies_true, forall_const, Nat.lt_irrefl, Nat.le_refl, and_imp, sh_0, sh_159, sh_1, sh_15, sh_44, sh_46, sh_48, sh_134, sh_136, sh_151, sh_156, sk_159_70 hk, al_189, hx]
      exact hQ
    · rw [show min x v = v by omega, en_lt hv] at hQ
      simp (disch := omega) only [f_X12_shortens, wp_gd, wp_bnd, wp_let, wp_jn0, wp_jn1, wp_jn2, wp_if, wp_ret, wp_rdI, wp_rdL, v_rdR, v_ldI, v_ldL, v_ldR, v_stI, v_stB, v_stZ, v_stL, wp_wrI, wp_wrL, wp_wrR, wp_wrZ, wp_retZ, v_md, v_dv, v_tb, upI_2, true_and, and_true, Nat.add_sub_cancel, Nat.zero_lt_succ, Nat.succ_pos, okN, clN, L0, L1, L2, L3, L4, L5, L6, L7, L8, L9, L10, L11, L12, L13, L14, L15, L16, L17, L18, L19, L20, L21, L22, L23, L24, L25, L26, L27, L28, L29, L30, L31, L32, L33, L34, L35, L36, L37, L38, L39, L40, L41, L42, L43, L44, L45, L46, L47, L48, L49, L50, L51, L52, L53, L54, L55, L56, L57, L58, L59, L60, L61, L62, L63, L64, L65, L66, L67, L68, L69, L70, L71, L72, L73, L74, L75, L76, L77, L78, L79, L80, L81, L82, L83, L84, L85, L86, L87, L88, L89, L90, L91, L92, L93, L94, L95, L96, L97, L98, L99, L100, L101, L102, L103, L104, L105, L106, L107, L108, L109, L110, L111, L112, L113, L114, L115, L116, L117, L118, L119, L120, L121, L122, L123, L124, L125, L126, L127, L128, L129, L130, L131, L200, L240, L255, L260, L1000, L4096, L10140, L1000000, ng1, mI_lt, mI_le, lt_mI, le_mI, eq_mI, mI_eq, mI_mI, mI_mE, nI_add, pk_mul, pk_sub, pk_rem, sa_minN, sa_maxN, ne_eq, nI_leI, nI_ltI, nI_eq, dT_le, dF_le, dT_lt, dF_lt, dT_eq, dF_eq, true_imp_iff, false_imp_iff, not_true_eq_false, not_false_eq_true, false_or, or_false, true_or, or_true, false_and, and_false, Decidable.not_not, reduceIte, if_true, if_false, upI_self, upI_ne, upL_1, upL_21, upL_self, upL_ne, upR_1, upR_22, upR_self, upR_ne, va_up_self, va_up_ne, Nat.reduceAdd, Nat.reduceMul, Nat.reduceSub, Nat.reduceLT, Nat.reduceLeDiff, Nat.reduceEqDiff, Nat.reduceSubDiff, Nat.zero_add, cm3, cm5, cm7, cm8, cm25, Nat.not_lt_zero, Nat.zero_le, not_false_iff, and_self, imp_self, implies_true, forall_const, Nat.lt_irrefl, Nat.le_refl, and_imp, sh_0, sh_159, sh_1, sh_15, sh_44, sh_46, sh_48, sh_134, sh_136, sh_151, sh_156, sk_159_70 hk, al_189, hx]
      exact hQ
  · rw [en_ge (by omega)] at hx
    rw [show min x v = v by omega, en_lt hv] at hQ
    simp (disch := omega) only [f_X12_shortens, wp_gd, wp_bnd, wp_let, wp_jn0, wp_jn1, wp_jn2, wp_if, wp_ret, wp_rdI, wp_rdL, v_rdR, v_ldI, v_ldL, v_ldR, v_stI, v_stB, v_stZ, v_stL, wp_wrI, wp_wrL, wp_wrR, wp_wrZ, wp_retZ, v_md, v_dv, v_tb, upI_2, true_and, and_true, Nat.add_sub_cancel, Nat.zero_lt_succ, Nat.succ_pos, okN, clN, L0, L1, L2, L3, L4, L5, L6, L7, L8, L9, L10, L11, L12, L13, L14, L15, L16, L17, L18, L19, L20, L21, L22, L23, L24, L25, L26, L27, L28, L29, L30, L31, L32, L33, L34, L35, L36, L37, L38, L39, L40, L41, L42, L43, L44, L45, L46, L47, L48, L49, L50, L51, L52, L53, L54, L55, L56, L57, L58, L59, L60, L61, L62, L63, L64, L65, L66, L67, L68, L69, L70, L71, L72, L73, L74, L75, L76, L77, L78, L79, L80, L81, L82, L83, L84, L85, L86, L87, L88, L89, L90, L91, L92, L93, L94, L95, L96, L97, L98, L99, L100, L101, L102, L103, L104, L105, L106, L107, L108, L109, L110, L111, L112, L113, L114, L115, L116, L117, L118, L119, L120, L121, L122, L123, L124, L125, L126, L127, L128, L129, L130, L131, L200, L240, L255, L260, L1000, L4096, L10140, L1000000, ng1, mI_lt, mI_le, lt_mI, le_mI, eq_mI, mI_eq, mI_mI, mI_mE, nI_add, pk_mul, pk_sub, pk_rem, sa_minN, sa_maxN, ne_eq, nI_leI, nI_ltI, nI_eq, dT_le, dF_le, dT_lt, dF_lt, dT_eq, dF_eq, true_imp_iff, false_imp_iff, not_true_eq_false, not_false_eq_true, false_or, or_false, true_or, or_true, false_and, and_false, Decidable.not_not, reduceIte, if_true, if_false, upI_self, upI_ne, upL_1, upL_21, upL_self, upL_ne, upR_1, upR_22, upR_self, upR_ne, va_up_self, va_up_ne, Nat.reduceAdd, Nat.reduceMul, Nat.reduceSub, Nat.reduceLT, Nat.reduceLeDiff, Nat.reduceEqDiff, Nat.reduceSubDiff, Nat.zero_add, cm3, cm5, cm7, cm8, cm25, Nat.not_lt_zero, Nat.zero_le, not_false_iff, and_self, imp_self, implies_true, forall_const, Nat.lt_irrefl, Nat.le_refl, and_imp, sh_0, sh_159, sh_1, sh_15, sh_44, sh_46, sh_48, sh_134, sh_136, sh_151, sh_156, sk_159_70 hk, al_189, hx]
    exact hQ
end APART
