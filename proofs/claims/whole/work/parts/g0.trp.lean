/-! STREAKS: sets of hours in which it rained -/
def rrS (ls : LSf) (b e S g : Nat) : Nat → Nat × Nat
  | 0 => (g, 0)
  | t + 1 => if S.testBit (e + t) then ((rrS ls b e S g t).1 - ls b (e + t) (rrS ls b e S g t).1, (rrS ls b e S g t).2 + ls b (e + t) (rrS ls b e S g t).1) else rrS ls b e S g t
def sRn (W : Nat) (z : Nat → Int32) (ls : LSf) (q : List Nat) (S g : Nat) : Nat → Nat
  | 0 => g
  | i + 1 => (rrS ls (q.getD (i + 1) 0) (phr W z q i) S (sRn W z ls q S g i) (hrs W z (q.getD i 0) (q.getD (i + 1) 0))).1 - frd W z (q.getD i 0) (q.getD (i + 1) 0)
def lRn (W : Nat) (z : Nat → Int32) (ls : LSf) (q : List Nat) (S g i : Nat) : Nat := (rrS ls (q.getD (i + 1) 0) (phr W z q i) S (sRn W z ls q S g i) (hrs W z (q.getD i 0) (q.getD (i + 1) 0))).2
def fitB (W : Nat) (z : Nat → Int32) (ls : LSf) (q : List Nat) (g nz : Nat) (pl fo : Nat → Nat) (S i : Nat) : Bool := (List.range nz).all (fun x => !(pl x == q.getD (i + 1) 0) || fo x == lRn W z ls q S g i)
def clrB (q : List Nat) (nz : Nat) (pl fo : Nat → Nat) : Bool := (List.range nz).all (fun x => (List.range (q.length - 1)).any (fun i => pl x == q.getD (i + 1) 0) || fo x == 0)
def okB (W : Nat) (z : Nat → Int32) (ls : LSf) (q : List Nat) (g nz : Nat) (pl fo : Nat → Nat) (S : Nat) : Nat → Bool
  | 0 => clrB q nz pl fo
  | i + 1 => okB W z ls q g nz pl fo S i && fitB W z ls q g nz pl fo S i
section TRP
variable {W : Nat} {z : Nat → Int32} {ls : LSf} {q : List Nat} {g nz : Nat} {pl fo : Nat → Nat} {S S2 : Nat}
theorem rrS_cg {b e g : Nat} : ∀ t, (∀ j, j < e + t → S.testBit j = S2.testBit j) → rrS ls b e S g t = rrS ls b e S2 g t := by
  intro t
  induction t with
  | zero => intro _; rfl
  | succ t ih =>
    intro h
    have e1 : rrS ls b e S g (t + 1) = if S.testBit (e + t) then ((rrS ls b e S g t).1 - ls b (e + t) (rrS ls b e S g t).1, (rrS ls b e S g t).2 + ls b (e + t) (rrS ls b e S g t).1) else rrS ls b e S g t := rfl
    have e2 : rrS ls b e S2 g (t + 1) = if S2.testBit (e + t) then ((rrS ls b e S2 g t).1 - ls b (e + t) (rrS ls b e S2 g t).1, (rrS ls b e S2 g t).2 + ls b (e + t) (rrS ls b e S2 g t).1) else rrS ls b e S2 g t := rfl
    rw [e1, e2, ih (fun j hj => h j (by omega)), h (e + t) (by omega)]
theorem sRn_cg : ∀ i, (∀ j, j < phr W z q i → S.testBit j = S2.testBit j) → sRn W z ls q S g i = sRn W z ls q S2 g i := by
  intro i
  induction i with
  | zero => intro _; rfl
  | succ i ih =>
    intro h
    have hp : phr W z q (i + 1) = phr W z q i + hrs W z (q.getD i 0) (q.getD (i + 1) 0) := rfl
    rw [hp] at h
    show (rrS ls _ _ S _ _).1 - _ = (rrS ls _ _ S2 _ _).1 - _
    rw [ih (fun j hj => h j (by omega)), rrS_cg _ h]
theorem lRn_cg {i : Nat} (h : ∀ j, j < phr W z q (i + 1) → S.testBit j = S2.testBit j) : lRn W z ls q S g i = lRn W z ls q S2 g i := by
  have hp : phr W z q (i + 1) = phr W z q i + hrs W z (q.getD i 0) (q.getD (i + 1) 0) := rfl
  rw [hp] at h
  unfold lRn
  rw [sRn_cg i (fun j hj => h j (by omega)), rrS_cg _ h]
theorem okB_cg : ∀ i, (∀ j, j < phr W z q i → S.testBit j = S2.testBit j) → okB W z ls q g nz pl fo S i = okB W z ls q g nz pl fo S2 i := by
  intro i
  induction i with
  | zero => intro _; rfl
  | succ i ih =>
    intro h
    have hp : phr W z q (i + 1) = phr W z q i + hrs W z (q.getD i 0) (q.getD (i + 1) 0) := rfl
    have h0 : ∀ j, j < phr W z q i → S.testBit j = S2.testBit j := fun j hj => h j (by omega)
    show (okB W z ls q g nz pl fo S i && fitB W z ls q g nz pl fo S i) = (okB W z ls q g nz pl fo S2 i && fitB W z ls q g nz pl fo S2 i)
    rw [ih h0]
    unfold fitB
    rw [lRn_cg h]
theorem rrS_le {b e : Nat} (hl : ∀ p e g, ls p e g ≤ g) : ∀ t, (rrS ls b e S g t).1 ≤ g ∧ (rrS ls b e S g t).1 + (rrS ls b e S g t).2 = g := by
  intro t
  induction t with
  | zero => exact ⟨Nat.le_refl _, rfl⟩
  | succ t ih =>
    have h := hl b (e + t) (rrS ls b e S g t).1
    show (if S.testBit (e + t) = true then ((rrS ls b e S g t).1 - ls b (e + t) (rrS ls b e S g t).1, (rrS ls b e S g t).2 + ls b (e + t) (rrS ls b e S g t).1) else rrS ls b e S g t).1 ≤ g ∧ (if S.testBit (e + t) = true then ((rrS ls b e S g t).1 - ls b (e + t) (rrS ls b e S g t).1, (rrS ls b e S g t).2 + ls b (e + t) (rrS ls b e S g t).1) else rrS ls b e S g t).1 + (if S.testBit (e + t) = true then ((rrS ls b e S g t).1 - ls b (e + t) (rrS ls b e S g t).1, (rrS ls b e S g t).2 + ls b (e + t) (rrS ls b e S g t).1) else rrS ls b e S g t).2 = g
    split
    · show (rrS ls b e S g t).1 - ls b (e + t) (rrS ls b e S g t).1 ≤ g ∧ (rrS ls b e S g t).1 - ls b (e + t) (rrS ls b e S g t).1 + ((rrS ls b e S g t).2 + ls b (e + t) (rrS ls b e S g t).1) = g
      omega
    · exact ih
theorem sRn_le (hl : ∀ p e g, ls p e g ≤ g) : ∀ i, sRn W z ls q S g i ≤ g := by
  intro i
  induction i with
  | zero => exact Nat.le_refl _
  | succ i ih =>
    have := (rrS_le (S := S) (g := sRn W z ls q S g i) (b := q.getD (i + 1) 0) (e := phr W z q i) hl (hrs W z (q.getD i 0) (q.getD (i + 1) 0))).1
    show (rrS _ _ _ _ _ _).1 - _ ≤ g
    omega
theorem lRn_le (hl : ∀ p e g, ls p e g ≤ g) (i : Nat) : lRn W z ls q S g i ≤ g := by
  have h1 := (rrS_le (S := S) (g := sRn W z ls q S g i) (b := q.getD (i + 1) 0) (e := phr W z q i) hl (hrs W z (q.getD i 0) (q.getD (i + 1) 0))).2
  have h2 := sRn_le (W := W) (z := z) (q := q) (S := S) (g := g) hl i
  unfold lRn
  omega
/-- bits of a set with one hour more -/
theorem tb_add {n j : Nat} (hS : S < 2 ^ n) (hj : j < n) : (2 ^ n + S).testBit j = S.testBit j := by
  rw [Nat.testBit_two_pow_add_gt hj]
theorem tb_top {n : Nat} (hS : S < 2 ^ n) : (2 ^ n + S).testBit n = true := by
  rw [Nat.testBit_two_pow_add_eq, Nat.testBit_lt_two_pow hS]
  rfl
theorem tb_lt {n : Nat} (hS : S < 2 ^ n) : S.testBit n = false := Nat.testBit_lt_two_pow hS
/-- what lies where, by the reference -/
def layF (W : Nat) (z : Nat → Int32) (ls : LSf) (q : List Nat) (S g : Nat) : Nat → Nat → Nat
  | 0 => fun _ => 0
  | i + 1 => va_up (layF W z ls q S g i) (q.getD (i + 1) 0) (lRn W z ls q S g i)
theorem layF_no {p : Nat} : ∀ i, (∀ j, j < i → q.getD (j + 1) 0 ≠ p) → layF W z ls q S g i p = 0 := by
  intro i
  induction i with
  | zero => intro _; rfl
  | succ i ih =>
    intro h
    show va_up _ _ _ p = 0
    rw [va_up_ne _ _ (Ne.symm (h i (by omega)))]
    exact ih (fun j hj => h j (by omega))
theorem layF_at {j : Nat} (hnd : ∀ x y, x < y → y < q.length → q.getD x 0 ≠ q.getD y 0) : ∀ i, j < i → i < q.length → layF W z ls q S g i (q.getD (j + 1) 0) = lRn W z ls q S g j := by
  intro i
  induction i with
  | zero => intro h; omega
  | succ i ih =>
    intro hj hi
    show va_up _ _ _ _ = _
    by_cases e : j = i
    · subst e; rw [va_up_self]
    · rw [va_up_ne _ _ (hnd (j + 1) (i + 1) (by omega) hi)]
      exact ih (by omega) (by omega)
theorem okB_all : ∀ i, okB W z ls q g nz pl fo S i = true ↔ clrB q nz pl fo = true ∧ ∀ j, j < i → fitB W z ls q g nz pl fo S j = true := by
  intro i
  induction i with
  | zero => exact ⟨fun h => ⟨h, fun j hj => by omega⟩, fun h => h.1⟩
  | succ i ih =>
    show (okB W z ls q g nz pl fo S i && fitB W z ls q g nz pl fo S i) = true ↔ _
    rw [Bool.and_eq_true, ih]
    constructor
    · rintro ⟨⟨h1, h2⟩, h3⟩
      refine ⟨h1, fun j hj => ?_⟩
      by_cases e : j = i
      · subst e; exact h3
      · exact h2 j (by omega)
    · rintro ⟨h1, h2⟩
      exact ⟨⟨h1, fun j hj => h2 j (by omega)⟩, h2 i (by omega)⟩
theorem okB_lay (hq : 0 < q.length) (hnd : ∀ x y, x < y → y < q.length → q.getD x 0 ≠ q.getD y 0) : okB W z ls q g nz pl fo S (q.length - 1) = true ↔ ∀ x, x < nz → layF W z ls q S g (q.length - 1) (pl x) = fo x := by
  rw [okB_all]
  unfold clrB fitB
  simp only [List.all_eq_true, List.mem_range, Bool.or_eq_true, List.any_eq_true, beq_iff_eq, Bool.not_eq_true', beq_eq_false_iff_ne]
  constructor
  · rintro ⟨h1, h2⟩ x hx
    by_cases hv : ∃ i, i < q.length - 1 ∧ pl x = q.getD (i + 1) 0
    · obtain ⟨i, hi, e⟩ := hv
      rw [e, layF_at hnd _ hi (by omega)]
      rcases h2 i hi x hx with h | h
      · exact absurd e h
      · exact h.symm
    · rw [layF_no _ (fun j hj e => hv ⟨j, hj, e.symm⟩)]
      rcases h1 x hx with ⟨i, hi, e⟩ | h
      · exact absurd ⟨i, hi, e⟩ hv
      · exact h.symm
  · intro h
    refine ⟨fun x hx => ?_, fun i hi x hx => ?_⟩
    · by_cases hv : ∃ i, i < q.length - 1 ∧ pl x = q.getD (i + 1) 0
      · exact Or.inl hv
      · right
        rw [← h x hx, layF_no _ (fun j hj e => hv ⟨j, hj, e.symm⟩)]
    · by_cases e : pl x = q.getD (i + 1) 0
      · right
        rw [← h x hx, e, layF_at hnd _ hi (by omega)]
      · exact Or.inl e
end TRP
/-- the sets that fit -/
def fitL (ok : Nat → Bool) (N : Nat) : List Nat := (List.range N).filter ok
theorem fitL_succ (ok : Nat → Bool) (N : Nat) : fitL ok (N + 1) = if ok N then fitL ok N ++ [N] else fitL ok N := by
  unfold fitL
  rw [List.range_succ, List.filter_append]
  cases h : ok N with
  | true => simp [h]
  | false => simp [h]
theorem fitL_len (ok : Nat → Bool) : ∀ N, (fitL ok N).length ≤ N := by
  intro N
  have := List.length_filter_le ok (List.range N)
  rw [List.length_range] at this
  exact this
theorem fitL_pre (ok : Nat → Bool) {N i x : Nat} (h : (fitL ok N)[i]? = some x) : ∀ d, (fitL ok (N + d))[i]? = some x := by
  intro d
  induction d with
  | zero => exact h
  | succ d ih =>
    rw [← Nat.add_assoc, fitL_succ]
    split
    · rw [List.getElem?_append_left (lt_of_some ih)]
      exact ih
    · exact ih
theorem bit12 : ∀ p, p < 16 → ((nI p).toBitVec.smod 32).toNat = p := by decide
theorem bitI2 {ρ p : Nat} (hρ : ρ < 2 ^ 31) (hp : p < 16) : (nI ρ >>> (nI p &&& nI 31)) &&& nI 1 = nI (ρ / 2 ^ p % 2) := by
  have h1 : nI p &&& nI 31 = nI p := by
    rw [pk_andN (by omega) 5 (by decide)]
    exact congrArg nI (by omega)
  rw [h1, pk_shrN hρ (nI p) p (bit12 p hp), pk_andN (Nat.lt_of_le_of_lt (Nat.div_le_self _ _) (by omega)) 1 (by decide)]
theorem shl12 : ∀ p, p ≤ 12 → (nI 1 <<< (nI p &&& nI 31)) = nI (2 ^ p) := by decide
theorem m_has2 {σ : sa_St} {ρ p : Nat} (hρ : ρ < 2 ^ 31) (hp : p < 16) : f_X12_has (nI ρ) (nI p) σ = some (nI (if ρ.testBit p then 1 else 0), σ) := by
  have hb := bitI2 hρ hp
  have e : (if ρ.testBit p = true then 1 else 0) = ρ / 2 ^ p % 2 := by
    rw [Nat.testBit_eq_decide_div_mod_eq]
    by_cases h : ρ / 2 ^ p % 2 = 1
    · rw [decide_eq_true h, h]; rfl
    · rw [decide_eq_false h]
      show 0 = _
      omega
  rw [e]
  refine run_of ?_
  rcases (show ρ / 2 ^ p % 2 = 0 ∨ ρ / 2 ^ p % 2 = 1 by omega) with h | h
  · rw [h] at hb ⊢
    simp (disch := omega) only [f_X12_has, wp_gd, wp_bnd, wp_let, wp_jn0, wp_jn1, wp_jn2, wp_if, wp_ret, wp_rdI, wp_rdL, v_rdR, v_ldI, v_ldL, v_ldR, v_stI, v_stB, v_stZ, v_stL, wp_wrI, wp_wrL, wp_wrR, wp_wrZ, wp_retZ, v_md, v_dv, v_tb, upI_2, true_and, and_true, Nat.add_sub_cancel, Nat.zero_lt_succ, Nat.succ_pos, okN, clN, L0, L1, L2, L3, L4, L5, L6, L7, L8, L9, L10, L11, L12, L13, L14, L15, L16, L17, L18, L19, L20, L21, L22, L23, L24, L25, L26, L27, L28, L29, L30, L31, L32, L33, L34, L35, L36, L37, L38, L39, L40, L41, L42, L43, L44, L45, L46, L47, L48, L49, L50, L51, L52, L53, L54, L55, L56, L57, L58, L59, L60, L61, L62, L63, L64, L65, L66, L67, L68, L69, L70, L71, L72, L73, L74, L75, L76, L77, L78, L79, L80, L81, L82, L83, L84, L85, L86, L87, L88, L89, L90, L91, L92, L93, L94, L95, L96, L97, L98, L99, L100, L101, L102, L103, L104, L105, L106, L107, L108, L109, L110, L111, L112, L113, L114, L115, L116, L117, L118, L119, L120, L121, L122, L123, L124, L125, L126, L127, L128, L129, L130, L131, L200, L240, L255, L260, L1000, L4096, L10140, L1000000, ng1, mI_lt, mI_le, lt_mI, le_mI, eq_mI, mI_eq, mI_mI, mI_mE, nI_add, pk_mul, pk_sub, pk_rem, sa_minN, sa_maxN, ne_eq, nI_leI, nI_ltI, nI_eq, dT_le, dF_le, dT_lt, dF_lt, dT_eq, dF_eq, true_imp_iff, false_imp_iff, not_true_eq_false, not_false_eq_true, false_or, or_false, true_or, or_true, false_and, and_false, Decidable.not_not, reduceIte, if_true, if_false, upI_self, upI_ne, upL_1, upL_21, upL_self, upL_ne, upR_1, upR_22, upR_self, upR_ne, va_up_self, va_up_ne, Nat.reduceAdd, Nat.reduceMul, Nat.reduceSub, Nat.reduceLT, Nat.reduceLeDiff, Nat.reduceEqDiff, Nat.reduceSubDiff, Nat.zero_add, cm3, cm5, cm7, cm8, cm25, Nat.not_lt_zero, Nat.zero_le, not_false_iff, and_self, imp_self, implies_true, forall_const, Nat.lt_irrefl, Nat.le_refl, and_imp, hb]
  · rw [h] at hb ⊢
    simp (disch := omega) only [f_X12_has, wp_gd, wp_bnd, wp_let, wp_jn0, wp_jn1, wp_jn2, wp_if, wp_ret, wp_rdI, wp_rdL, v_rdR, v_ldI, v_ldL, v_ldR, v_stI, v_stB, v_stZ, v_stL, wp_wrI, wp_wrL, wp_wrR, wp_wrZ, wp_retZ, v_md, v_dv, v_tb, upI_2, true_and, and_true, Nat.add_sub_cancel, Nat.zero_lt_succ, Nat.succ_pos, okN, clN, L0, L1, L2, L3, L4, L5, L6, L7, L8, L9, L10, L11, L12, L13, L14, L15, L16, L17, L18, L19, L20, L21, L22, L23, L24, L25, L26, L27, L28, L29, L30, L31, L32, L33, L34, L35, L36, L37, L38, L39, L40, L41, L42, L43, L44, L45, L46, L47, L48, L49, L50, L51, L52, L53, L54, L55, L56, L57, L58, L59, L60, L61, L62, L63, L64, L65, L66, L67, L68, L69, L70, L71, L72, L73, L74, L75, L76, L77, L78, L79, L80, L81, L82, L83, L84, L85, L86, L87, L88, L89, L90, L91, L92, L93, L94, L95, L96, L97, L98, L99, L100, L101, L102, L103, L104, L105, L106, L107, L108, L109, L110, L111, L112, L113, L114, L115, L116, L117, L118, L119, L120, L121, L122, L123, L124, L125, L126, L127, L128, L129, L130, L131, L200, L240, L255, L260, L1000, L4096, L10140, L1000000, ng1, mI_lt, mI_le, lt_mI, le_mI, eq_mI, mI_eq, mI_mI, mI_mE, nI_add, pk_mul, pk_sub, pk_rem, sa_minN, sa_maxN, ne_eq, nI_leI, nI_ltI, nI_eq, dT_le, dF_le, dT_lt, dF_lt, dT_eq, dF_eq, true_imp_iff, false_imp_iff, not_true_eq_false, not_false_eq_true, false_or, or_false, true_or, or_true, false_and, and_false, Decidable.not_not, reduceIte, if_true, if_false, upI_self, upI_ne, upL_1, upL_21, upL_self, upL_ne, upR_1, upR_22, upR_self, upR_ne, va_up_self, va_up_ne, Nat.reduceAdd, Nat.reduceMul, Nat.reduceSub, Nat.reduceLT, Nat.reduceLeDiff, Nat.reduceEqDiff, Nat.reduceSubDiff, Nat.zero_add, cm3, cm5, cm7, cm8, cm25, Nat.not_lt_zero, Nat.zero_le, not_false_iff, and_self, imp_self, implies_true, forall_const, Nat.lt_irrefl, Nat.le_refl, and_imp, hb]
