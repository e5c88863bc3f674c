section LAY
variable {L P W F n bh : Nat} {f : Nat → LWt} {z : Nat → Int32} {hold : Int32} {σ : sa_St} {Q : Unit → sa_St → Prop}
def cW (z : Nat → Int32) (bh k : Nat) : Nat := if bh = 0 then 1 else (z (60 + 5 * k + 2)).toNatClampNeg
theorem cW_eq (hz : ZR P W F z) {k : Nat} (hk : k < W) : 1 ≤ cW z bh k ∧ cW z bh k ≤ 9 ∧ (bh ≠ 0 → z (60 + 5 * k + 2) = nI (cW z bh k)) := by
  obtain ⟨t, h1, h9, e⟩ := (hz.2.2.1 k hk).2.1
  unfold cW
  by_cases h : bh = 0
  · rw [if_pos h]; exact ⟨by omega, by omega, fun h2 => absurd h h2⟩
  · rw [if_neg h, e, nI_clamp (by omega)]
    exact ⟨h1, h9, fun _ => rfl⟩
/-- by the place m: rows ahead of a, and of row a what lies ahead of b, are shortened -/
theorem lay_by (hcx : Cx L P W F n f z hold σ) (hbh : bh ≤ 1) {m : Nat} (hm : m < P) {ex : sa_M Unit} {r : Nat → Int32} (hr : ∀ a b, a < P → b < P → r (8 * a + b) = en (mpN (mpE W (cW z bh) z) m a b)) (hQ : ∀ r2 : Nat → Int32, (∀ a b, a < P → b < P → r2 (8 * a + b) = en (mpN (mpE W (cW z bh) z) (m + 1) a b)) → wp ex (va_up σ.1 189 r2, σ.2) Q) :
    wp (sa_wh1 (fun j129 (x10 : Int32) =>
sa_bnd (sa_rdI 12 159 25) fun v11 =>
if v11 ≤ x10 then
ex
else
sa_let (0 : Int32) fun x13 =>
sa_wh1 (fun j140 (x14 : Int32) =>
sa_bnd (sa_rdI 12 159 25) fun v15 =>
if v15 ≤ x14 then
sa_let ((x10 + 1) : Int32) fun x16 =>
j129 x16
else
sa_bnd (sa_rdR 12 159 70) fun v17 =>
sa_bnd (sa_ldI .int v17 ((8 * x10) + nI m)) fun v18 =>
sa_jn0 (sa_let ((x14 + 1) : Int32) fun x19 =>
j140 x19) fun j211 =>
if v18 = (-1) then
j211
else
sa_bnd (sa_rdR 12 159 70) fun v20 =>
sa_bnd (sa_ldI .int v20 ((8 * nI m) + x14)) fun v21 =>
if v21 = (-1) then
j211
else
sa_bnd (sa_rdR 12 159 70) fun v22 =>
sa_bnd (sa_ldI .int v22 ((8 * x10) + nI m)) fun v23 =>
sa_bnd (sa_rdR 12 159 70) fun v24 =>
sa_bnd (sa_ldI .int v24 ((8 * nI m) + x14)) fun v25 =>
sa_bnd (f_X12_shortens 159 x10 x14 (v23 + v25)) fun _ =>
j211) sa_F x13) sa_F 0) (va_up σ.1 189 r, σ.2) Q := by
  have hzr := hcx.zr
  have P8 := hzr.1.1
  have r0 : σ.1 159 25 = nI P := hcx.2.2.1.2.1.2.2.2.1
  have hk := hcx.1
  have hd : ∀ a, mpE W (cW z bh) z a a = 0 := mpE_diag
  have h9 : ∀ a b, mpE W (cW z bh) z a b < 1000 → mpE W (cW z bh) z a b ≤ 9 := mpE_9 (fun k hk => (cW_eq hzr hk).2.1)
  have hle := mpN_le (m := mpE W (cW z bh) z) mpE_le m
  have h81 : ∀ a b, mpN (mpE W (cW z bh) z) m a b < 1000 → mpN (mpE W (cW z bh) z) m a b ≤ 81 := fun a b h => mpN_81 hd h9 (by omega) h
  have hmm := mpN_diag hd m m
  have hs : ∀ a b, mpN (mpE W (cW z bh) z) (m + 1) a b = min (mpN (mpE W (cW z bh) z) m a b) (mpN (mpE W (cW z bh) z) m a m + mpN (mpE W (cW z bh) z) m m b) := mpN_succ m
  have hcol : ∀ a, mpN (mpE W (cW z bh) z) (m + 1) a m = mpN (mpE W (cW z bh) z) m a m := fun a => by rw [hs, hmm]; omega
  have hrow : ∀ b, mpN (mpE W (cW z bh) z) (m + 1) m b = mpN (mpE W (cW z bh) z) m m b := fun b => by rw [hs, hmm]; omega
  generalize mpN (mpE W (cW z bh) z) (m + 1) = M2 at *
  generalize mpN (mpE W (cW z bh) z) m = M1 at *
  clear hd h9 hzr
  refine wp_for1 P 0 (fun a τ => ∃ r1 : Nat → Int32, τ = (va_up σ.1 189 r1, σ.2) ∧ ∀ x y, x < P → y < P → r1 (8 * x + y) = en (if x < a then M2 x y else M1 x y)) ?_ ?_ ⟨r, rfl, fun x y hx hy => by rw [if_neg (by omega)]; exact hr x y hx hy⟩ (by omega) (by unfold sa_F; omega)
  · rintro a τ ha ⟨r1, rfl, h1⟩ c hc
    have r0' : (va_up σ.1 189 r1, σ.2).1 159 25 = nI P := by
      show va_up σ.1 189 r1 159 25 = _
      rw [va_up_ne _ _ (by omega)]
      exact r0
    rw [wp_bnd, wp_rdI]
    refine ⟨rfl, ?_⟩
    rw [r0', wp_if]
    refine ⟨fun q => absurd q (nI_ge ha (by omega)), fun _ => ?_⟩
    rw [wp_let]
    refine wp_for1 P 0 (fun b τ => ∃ r2 : Nat → Int32, τ = (va_up σ.1 189 r2, σ.2) ∧ ∀ x y, x < P → y < P → r2 (8 * x + y) = en (if x < a ∨ (x = a ∧ y < b) then M2 x y else M1 x y)) ?_ ?_ ⟨r1, rfl, fun x y hx hy => by
      rw [h1 x y hx hy]
      by_cases e : x < a
      · rw [if_pos e, if_pos (Or.inl e)]
      · rw [if_neg e, if_neg (by omega)]⟩ (by omega) (by unfold sa_F; omega)
    · rintro b τ hb ⟨r2, rfl, h2⟩ d hd
      have u1 : r2 (8 * a + m) = en (M1 a m) := by
        rw [h2 a m ha hm]
        split
        · rw [hcol]
        · rfl
      have u2 : r2 (8 * m + b) = en (M1 m b) := by
        rw [h2 m b hm hb]
        split
        · rw [hrow]
        · rfl
      have u3 : r2 (8 * a + b) = en (M1 a b) := by
        rw [h2 a b ha hb, if_neg (by omega)]
      have l1 := h81 a m
      have l2 := h81 m b
      have l3 := hle a b
      have hs1 := hs a b
      have keep : M2 a b = M1 a b → wp (d (nI (b + 1))) (va_up σ.1 189 r2, σ.2) Q := fun e => hd _ ⟨r2, rfl, fun x y hx hy => by
        rw [h2 x y hx hy]
        by_cases e2 : x = a ∧ y = b
        · obtain ⟨rfl, rfl⟩ := e2
          rw [if_neg (by omega), if_pos (by omega), e]
        · by_cases e3 : x < a ∨ (x = a ∧ y < b)
          · rw [if_pos e3, if_pos (by omega)]
          · rw [if_neg e3, if_neg (by omega)]⟩
      by_cases c1 : M1 a m < 1000
      case neg =>
        rw [en_ge (by omega)] at u1
        have g := keep (by omega)
        clear hd hc keep
        simp (disch := omega) only [wp_gd, wp_bnd, wp_let, wp_jn0, wp_jn1, wp_jn2, wp_if, wp_ret, wp_rdI, wp_rdL, v_rdR, v_ldI, v_ldL, v_ldR, v_stI, v_stB, v_stZ, v_stL, wp_wrI, wp_wrL, wp_wrR, wp_wrZ, wp_retZ, v_md, v_dv, v_tb, upI_2, true_and, and_true, Nat.add_sub_cancel, Nat.zero_lt_succ, Nat.succ_pos, okN, clN, L0, L1, L2, L3, L4, L5, L6, L7, L8, L9, L10, L11, L12, L13, L14, L15, L16, L17, L18, L19, L20, L21, L22, L23, L24, L25, L26, L27, L28, L29, L30, L31, L32, L33, L34, L35, L36, L37, L38, L39, L40, L41, L42, L43, L44, L45, L46, L47, L48, L49, L50, L51, L52, L53, L54, L55, L56, L57, L58, L59, L60, L61, L62, L63, L64, L65, L66, L67, L68, L69, L70, L71, L72, L73, L74, L75, L76, L77, L78, L79, L80, L81, L82, L83, L84, L85, L86, L87, L88, L89, L90, L91, L92, L93, L94, L95, L96, L97, L98, L99, L100, L101, L102, L103, L104, L105, L106, L107, L108, L109, L110, L111, L112, L113, L114, L115, L116, L117, L118, L119, L120, L121, L122, L123, L124, L125, L126, L127, L128, L129, L130, L131, L200, L240, L255, L260, L1000, L4096, L10140, L1000000, ng1, mI_lt, mI_le, lt_mI, le_mI, eq_mI, mI_eq, mI_mI, mI_mE, nI_add, pk_mul, pk_sub, pk_rem, sa_minN, sa_maxN, ne_eq, nI_leI, nI_ltI, nI_eq, dT_le, dF_le, dT_lt, dF_lt, dT_eq, dF_eq, true_imp_iff, false_imp_iff, not_true_eq_false, not_false_eq_true, false_or, or_false, true_or, or_true, false_and, and_false, Decidable.not_not, reduceIte, if_true, if_false, upI_self, upI_ne, upL_1, upL_21, upL_self, upL_ne, upR_1, upR_22, upR_self, upR_ne, va_up_self, va_up_ne, Nat.reduceAdd, Nat.reduceMul, Nat.reduceSub, Nat.reduceLT, Nat.reduceLeDiff, Nat.reduceEqDiff, Nat.reduceSubDiff, Nat.zero_add, cm3, cm5, cm7, cm8, cm25, Nat.not_lt_zero, Nat.zero_le, not_false_iff, and_self, imp_self, implies_true, forall_const, Nat.lt_irrefl, Nat.le_refl, and_imp, sh_0, sh_159, sh_1, sh_15, sh_44, sh_46, sh_48, sh_134, sh_136, sh_151, sh_156, r0, sk_159_70 hk, al_189, u1]
        exact g
      rw [en_lt c1] at u1
      by_cases c2 : M1 m b < 1000
      case neg =>
        rw [en_ge (by omega)] at u2
        have g := keep (by omega)
        clear hd hc keep
        simp (disch := omega) only [wp_gd, wp_bnd, wp_let, wp_jn0, wp_jn1, wp_jn2, wp_if, wp_ret, wp_rdI, wp_rdL, v_rdR, v_ldI, v_ldL, v_ldR, v_stI, v_stB, v_stZ, v_stL, wp_wrI, wp_wrL, wp_wrR, wp_wrZ, wp_retZ, v_md, v_dv, v_tb, upI_2, true_and, and_true, Nat.add_sub_cancel, Nat.zero_lt_succ, Nat.succ_pos, okN, clN, L0, L1, L2, L3, L4, L5, L6, L7, L8, L9, L10, L11, L12, L13, L14, L15, L16, L17, L18, L19, L20, L21, L22, L23, L24, L25, L26, L27, L28, L29, L30, L31, L32, L33, L34, L35, L36, L37, L38, L39, L40, L41, L42, L43, L44, L45, L46, L47, L48, L49, L50, L51, L52, L53, L54, L55, L56, L57, L58, L59, L60, L61, L62, L63, L64, L65, L66, L67, L68, L69, L70, L71, L72, L73, L74, L75, L76, L77, L78, L79, L80, L81, L82, L83, L84, L85, L86, L87, L88, L89, L90, L91, L92, L93, L94, L95, L96, L97, L98, L99, L100, L101, L102, L103, L104, L105, L106, L107, L108, L109, L110, L111, L112, L113, L114, L115, L116, L117, L118, L119, L120, L121, L122, L123, L124, L125, L126, L127, L128, L129, L130, L131, L200, L240, L255, L260, L1000, L4096, L10140, L1000000, ng1, mI_lt, mI_le, lt_mI, le_mI, eq_mI, mI_eq, mI_mI, mI_mE, nI_add, pk_mul, pk_sub, pk_rem, sa_minN, sa_maxN, ne_eq, nI_leI, nI_ltI, nI_eq, dT_le, dF_le, dT_lt, dF_lt, dT_eq, dF_eq, true_imp_iff, false_imp_iff, not_true_eq_false, not_false_eq_true, false_or, or_false, true_or, or_true, false_and, and_false, Decidable.not_not, reduceIte, if_true, if_false, upI_self, upI_ne, upL_1, upL_21, upL_self, upL_ne, upR_1, upR_22, upR_self, upR_ne, va_up_self, va_up_ne, Nat.reduceAdd, Nat.reduceMul, Nat.reduceSub, Nat.reduceLT, Nat.reduceLeDiff, Nat.reduceEqDiff, Nat.reduceSubDiff, Nat.zero_add, cm3, cm5, cm7, cm8, cm25, Nat.not_lt_zero, Nat.zero_le, not_false_iff, and_self, imp_self, implies_true, forall_const, Nat.lt_irrefl, Nat.le_refl, and_imp, sh_0, sh_159, sh_1, sh_15, sh_44, sh_46, sh_48, sh_134, sh_136, sh_151, sh_156, r0, sk_159_70 hk, al_189, u1, u2]
        exact g
      rw [en_lt c2] at u2
      have go : wp (f_X12_shortens 159 (nI a) (nI b) (nI (M1 a m + M1 m b))) (va_up σ.1 189 r2, σ.2) (fun _ τ3 => wp (d (nI (b + 1))) τ3 Q) := by
        refine m_short (σ := (va_up σ.1 189 r2, σ.2)) (a := a) (b := b) (v := M1 a m + M1 m b) (x := M1 a b) hk (by omega) (by omega) (by omega) (by show va_up σ.1 189 r2 189 _ = _; rw [va_up_self]; exact u3) ?_
        rw [up_set]
        refine hd _ ⟨_, rfl, fun x y hx hy => ?_⟩
        by_cases e2 : x = a ∧ y = b
        · obtain ⟨rfl, rfl⟩ := e2
          rw [va_up_self, if_pos (by omega), hs1]
        · rw [va_up_ne _ _ (by omega), h2 x y hx hy]
          by_cases e3 : x < a ∨ (x = a ∧ y < b)
          · rw [if_pos e3, if_pos (by omega)]
          · rw [if_neg e3, if_neg (by omega)]
      clear hd hc keep
      simp (disch := omega) only [wp_gd, wp_bnd, wp_let, wp_jn0, wp_jn1, wp_jn2, wp_if, wp_ret, wp_rdI, wp_rdL, v_rdR, v_ldI, v_ldL, v_ldR, v_stI, v_stB, v_stZ, v_stL, wp_wrI, wp_wrL, wp_wrR, wp_wrZ, wp_retZ, v_md, v_dv, v_tb, upI_2, true_and, and_true, Nat.add_sub_cancel, Nat.zero_lt_succ, Nat.succ_pos, okN, clN, L0, L1, L2, L3, L4, L5, L6, L7, L8, L9, L10, L11, L12, L13, L14, L15, L16, L17, L18, L19, L20, L21, L22, L23, L24, L25, L26, L27, L28, L29, L30, L31, L32, L33, L34, L35, L36, L37, L38, L39, L40, L41, L42, L43, L44, L45, L46, L47, L48, L49, L50, L51, L52, L53, L54, L55, L56, L57, L58, L59, L60, L61, L62, L63, L64, L65, L66, L67, L68, L69, L70, L71, L72, L73, L74, L75, L76, L77, L78, L79, L80, L81, L82, L83, L84, L85, L86, L87, L88, L89, L90, L91, L92, L93, L94, L95, L96, L97, L98, L99, L100, L101, L102, L103, L104, L105, L106, L107, L108, L109, L110, L111, L112, L113, L114, L115, L116, L117, L118, L119, L120, L121, L122, L123, L124, L125, L126, L127, L128, L129, L130, L131, L200, L240, L255, L260, L1000, L4096, L10140, L1000000, ng1, mI_lt, mI_le, lt_mI, le_mI, eq_mI, mI_eq, mI_mI, mI_mE, nI_add, pk_mul, pk_sub, pk_rem, sa_minN, sa_maxN, ne_eq, nI_leI, nI_ltI, nI_eq, dT_le, dF_le, dT_lt, dF_lt, dT_eq, dF_eq, true_imp_iff, false_imp_iff, not_true_eq_false, not_false_eq_true, false_or, or_false, true_or, or_true, false_and, and_false, Decidable.not_not, reduceIte, if_true, if_false, upI_self, upI_ne, upL_1, upL_21, upL_self, upL_ne, upR_1, upR_22, upR_self, upR_ne, va_up_self, va_up_ne, Nat.reduceAdd, Nat.reduceMul, Nat.reduceSub, Nat.reduceLT, Nat.reduceLeDiff, Nat.reduceEqDiff, Nat.reduceSubDiff, Nat.zero_add, cm3, cm5, cm7, cm8, cm25, Nat.not_lt_zero, Nat.zero_le, not_false_iff, and_self, imp_self, implies_true, forall_const, Nat.lt_irrefl, Nat.le_refl, and_imp, sh_0, sh_159, sh_1, sh_15, sh_44, sh_46, sh_48, sh_134, sh_136, sh_151, sh_156, r0, sk_159_70 hk, al_189, u1, u2]
      exact go
    · rintro τ ⟨r2, rfl, h2⟩ d
      have g := hc _ ⟨r2, rfl, fun x y hx hy => by
        rw [h2 x y hx hy]
        by_cases e : x < a + 1
        · rw [if_pos e, if_pos (by omega)]
        · rw [if_neg e, if_neg (by omega)]⟩
      clear hc
      simp (disch := omega) only [wp_gd, wp_bnd, wp_let, wp_jn0, wp_jn1, wp_jn2, wp_if, wp_ret, wp_rdI, wp_rdL, v_rdR, v_ldI, v_ldL, v_ldR, v_stI, v_stB, v_stZ, v_stL, wp_wrI, wp_wrL, wp_wrR, wp_wrZ, wp_retZ, v_md, v_dv, v_tb, upI_2, true_and, and_true, Nat.add_sub_cancel, Nat.zero_lt_succ, Nat.succ_pos, okN, clN, L0, L1, L2, L3, L4, L5, L6, L7, L8, L9, L10, L11, L12, L13, L14, L15, L16, L17, L18, L19, L20, L21, L22, L23, L24, L25, L26, L27, L28, L29, L30, L31, L32, L33, L34, L35, L36, L37, L38, L39, L40, L41, L42, L43, L44, L45, L46, L47, L48, L49, L50, L51, L52, L53, L54, L55, L56, L57, L58, L59, L60, L61, L62, L63, L64, L65, L66, L67, L68, L69, L70, L71, L72, L73, L74, L75, L76, L77, L78, L79, L80, L81, L82, L83, L84, L85, L86, L87, L88, L89, L90, L91, L92, L93, L94, L95, L96, L97, L98, L99, L100, L101, L102, L103, L104, L105, L106, L107, L108, L109, L110, L111, L112, L113, L114, L115, L116, L117, L118, L119, L120, L121, L122, L123, L124, L125, L126, L127, L128, L129, L130, L131, L200, L240, L255, L260, L1000, L4096, L10140, L1000000, ng1, mI_lt, mI_le, lt_mI, le_mI, eq_mI, mI_eq, mI_mI, mI_mE, nI_add, pk_mul, pk_sub, pk_rem, sa_minN, sa_maxN, ne_eq, nI_leI, nI_ltI, nI_eq, dT_le, dF_le, dT_lt, dF_lt, dT_eq, dF_eq, true_imp_iff, false_imp_iff, not_true_eq_false, not_false_eq_true, false_or, or_false, true_or, or_true, false_and, and_false, Decidable.not_not, reduceIte, if_true, if_false, upI_self, upI_ne, upL_1, upL_21, upL_self, upL_ne, upR_1, upR_22, upR_self, upR_ne, va_up_self, va_up_ne, Nat.reduceAdd, Nat.reduceMul, Nat.reduceSub, Nat.reduceLT, Nat.reduceLeDiff, Nat.reduceEqDiff, Nat.reduceSubDiff, Nat.zero_add, cm3, cm5, cm7, cm8, cm25, Nat.not_lt_zero, Nat.zero_le, not_false_iff, and_self, imp_self, implies_true, forall_const, Nat.lt_irrefl, Nat.le_refl, and_imp, sh_0, sh_159, sh_1, sh_15, sh_44, sh_46, sh_48, sh_134, sh_136, sh_151, sh_156, r0]
      exact g
  · rintro τ ⟨r1, rfl, h1⟩ c
    have g := hQ r1 (fun x y hx hy => by rw [h1 x y hx hy, if_pos hx])
    simp (disch := omega) only [wp_gd, wp_bnd, wp_let, wp_jn0, wp_jn1, wp_jn2, wp_if, wp_ret, wp_rdI, wp_rdL, v_rdR, v_ldI, v_ldL, v_ldR, v_stI, v_stB, v_stZ, v_stL, wp_wrI, wp_wrL, wp_wrR, wp_wrZ, wp_retZ, v_md, v_dv, v_tb, upI_2, true_and, and_true, Nat.add_sub_cancel, Nat.zero_lt_succ, Nat.succ_pos, okN, clN, L0, L1, L2, L3, L4, L5, L6, L7, L8, L9, L10, L11, L12, L13, L14, L15, L16, L17, L18, L19, L20, L21, L22, L23, L24, L25, L26, L27, L28, L29, L30, L31, L32, L33, L34, L35, L36, L37, L38, L39, L40, L41, L42, L43, L44, L45, L46, L47, L48, L49, L50, L51, L52, L53, L54, L55, L56, L57, L58, L59, L60, L61, L62, L63, L64, L65, L66, L67, L68, L69, L70, L71, L72, L73, L74, L75, L76, L77, L78, L79, L80, L81, L82, L83, L84, L85, L86, L87, L88, L89, L90, L91, L92, L93, L94, L95, L96, L97, L98, L99, L100, L101, L102, L103, L104, L105, L106, L107, L108, L109, L110, L111, L112, L113, L114, L115, L116, L117, L118, L119, L120, L121, L122, L123, L124, L125, L126, L127, L128, L129, L130, L131, L200, L240, L255, L260, L1000, L4096, L10140, L1000000, ng1, mI_lt, mI_le, lt_mI, le_mI, eq_mI, mI_eq, mI_mI, mI_mE, nI_add, pk_mul, pk_sub, pk_rem, sa_minN, sa_maxN, ne_eq, nI_leI, nI_ltI, nI_eq, dT_le, dF_le, dT_lt, dF_lt, dT_eq, dF_eq, true_imp_iff, false_imp_iff, not_true_eq_false, not_false_eq_true, false_or, or_false, true_or, or_true, false_and, and_false, Decidable.not_not, reduceIte, if_true, if_false, upI_self, upI_ne, upL_1, upL_21, upL_self, upL_ne, upR_1, upR_22, upR_self, upR_ne, va_up_self, va_up_ne, Nat.reduceAdd, Nat.reduceMul, Nat.reduceSub, Nat.reduceLT, Nat.reduceLeDiff, Nat.reduceEqDiff, Nat.reduceSubDiff, Nat.zero_add, cm3, cm5, cm7, cm8, cm25, Nat.not_lt_zero, Nat.zero_le, not_false_iff, and_self, imp_self, implies_true, forall_const, Nat.lt_irrefl, Nat.le_refl, and_imp, sh_0, sh_159, sh_1, sh_15, sh_44, sh_46, sh_48, sh_134, sh_136, sh_151, sh_156, r0]
    exact g
end LAY
