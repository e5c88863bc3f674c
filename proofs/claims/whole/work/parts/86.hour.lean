/-! THE LOG; an hour -/
theorem toW_uh {k wl : Nat → Int32} {n : Nat} {v : Int32} (h : 79 ≤ n) : va_up (toW k wl) n v = toW k (va_up wl n v) := by
  funext j
  by_cases e : j = n
  · subst e
    rw [va_up_self, toW_hi h, va_up_self]
  · rw [va_up_ne _ _ e]
    by_cases hj : j < 79
    · rw [toW_src hj, toW_src hj]
    · rw [toW_hi (by omega), toW_hi (by omega), va_up_ne _ _ e]
theorem toW_cong {k k2 wl : Nat → Int32} (h : ∀ j, j < 79 → k j = k2 j) : toW k wl = toW k2 wl := by
  funext n
  by_cases hn : n < 79
  · exact toW_lt hn h
  · rw [toW_hi (by omega), toW_hi (by omega)]
theorem L177 : (177 : Int32) = nI 177 := rfl
section WRITES
variable {L P W F n R h ρ : Nat} {f : Nat → LWt} {z : Nat → Int32} {hold : Int32} {σ0 σ : sa_St} {C : C3} {wl : Nat → Int32} {Q : Unit → sa_St → Prop}
theorem m_writes (hR : R = 173 ∨ R = 174) (hms : MS n f R σ0 C wl σ) (h79 : wl 79 = nI (min h 60)) (hh : h < 2 ^ 30) (hQ : ∀ τ wl', Mf n f R σ0 τ → τ.1 R = toW C.1 wl' → wl' 79 = nI (min (h + 1) 60) → (∀ i x, i < min h 59 → x < 3 → wl' (80 + 3 * i + x) = wl (80 + 3 * (i + (if h < 60 then 0 else 1)) + x)) → wl' (80 + 3 * min h 59) = nI ρ → wl' (80 + 3 * min h 59 + 1) = C.2.1 → wl' (80 + 3 * min h 59 + 2) = C.2.2 → Q () τ) : wp (f_X12_writes 159 R (nI ρ)) σ Q := by
  have hal : sa_al .int R = 260 := by rcases hR with rfl | rfl <;> rfl
  have hRn : R ≠ 159 := by omega
  have tail : ∀ (τ : sa_St) (wl2 : Nat → Int32), MS n f R σ0 C wl2 τ → wl2 79 = nI (min h 59) → (∀ i x, i < min h 59 → x < 3 → wl2 (80 + 3 * i + x) = wl (80 + 3 * (i + (if h < 60 then 0 else 1)) + x)) → wp (sa_bnd (sa_ldI .int R 79) fun v2 =>
sa_let ((80 + (3 * v2)) : Int32) fun x3 =>
sa_bnd (sa_stI R x3 (nI ρ)) fun _ =>
sa_bnd (sa_rdI 12 159 40) fun v4 =>
sa_bnd (sa_stI R (x3 + 1) v4) fun _ =>
sa_bnd (sa_rdI 12 159 41) fun v5 =>
sa_bnd (sa_stI R (x3 + 2) v5) fun _ =>
sa_bnd (sa_ldI .int R 79) fun v6 =>
sa_bnd (sa_stI R 79 (v6 + 1)) fun _ =>
sa_ret ()) τ Q := by
    intro τ wl2 hm2 h2 h3
    obtain ⟨hM, hw, h40, h41⟩ := hm2
    have hRc := hR
    clear hR hms
    simp (disch := omega) only [wp_gd, wp_bnd, wp_let, wp_jn0, wp_jn1, wp_jn2, wp_if, wp_ret, wp_rdI, wp_rdL, v_rdR, v_ldI, v_ldL, v_ldR, v_stI, v_stB, v_stZ, v_stL, wp_wrI, wp_wrL, wp_wrR, wp_wrZ, wp_retZ, v_md, v_dv, v_tb, upI_2, true_and, and_true, Nat.add_sub_cancel, Nat.zero_lt_succ, Nat.succ_pos, okN, clN, L0, L1, L2, L3, L4, L5, L6, L7, L8, L9, L10, L11, L12, L13, L14, L15, L16, L17, L18, L19, L20, L21, L22, L23, L24, L25, L26, L27, L28, L29, L30, L31, L32, L33, L34, L35, L36, L37, L38, L39, L40, L41, L42, L43, L44, L45, L46, L47, L48, L49, L50, L51, L52, L53, L54, L55, L56, L57, L58, L59, L60, L61, L62, L63, L64, L65, L66, L67, L68, L69, L70, L71, L72, L73, L74, L75, L76, L77, L78, L79, L80, L81, L82, L83, L84, L85, L86, L87, L88, L89, L90, L91, L92, L93, L94, L95, L96, L97, L98, L99, L100, L101, L102, L103, L104, L105, L106, L107, L108, L109, L110, L111, L112, L113, L114, L115, L116, L117, L118, L119, L120, L121, L122, L123, L124, L125, L126, L127, L128, L129, L130, L131, L200, L240, L255, L260, L1000, L4096, L10140, L1000000, ng1, mI_lt, mI_le, lt_mI, le_mI, eq_mI, mI_eq, mI_mI, mI_mE, nI_add, pk_mul, pk_sub, pk_rem, sa_minN, sa_maxN, ne_eq, nI_leI, nI_ltI, nI_eq, dT_le, dF_le, dT_lt, dF_lt, dT_eq, dF_eq, true_imp_iff, false_imp_iff, not_true_eq_false, not_false_eq_true, false_or, or_false, true_or, or_true, false_and, and_false, Decidable.not_not, reduceIte, if_true, if_false, upI_self, upI_ne, upL_1, upL_21, upL_self, upL_ne, upR_1, upR_22, upR_self, upR_ne, va_up_self, va_up_ne, Nat.reduceAdd, Nat.reduceMul, Nat.reduceSub, Nat.reduceLT, Nat.reduceLeDiff, Nat.reduceEqDiff, Nat.reduceSubDiff, Nat.zero_add, cm3, cm5, cm7, cm8, cm25, Nat.not_lt_zero, Nat.zero_le, not_false_iff, and_self, imp_self, implies_true, forall_const, Nat.lt_irrefl, Nat.le_refl, and_imp, sh_0, sh_159, sh_1, sh_15, sh_44, sh_46, sh_48, sh_134, sh_136, sh_151, sh_156, hal, hw, toW_hi, h2, h40, h41]
    refine hQ _ (va_up (va_up (va_up (va_up wl2 (80 + 3 * min h 59) (nI ρ)) (80 + 3 * min h 59 + 1) C.2.1) (80 + 3 * min h 59 + 2) C.2.2) 79 (nI (min h 59 + 1))) (Mf.up (Mf.up (Mf.up (Mf.up hM hRc) hRc) hRc) hRc) ?_ ?_ (fun i x hi hx => ?_) ?_ ?_ ?_
    · simp (disch := omega) only [upI_self, hw, toW_uh]
    · rw [va_up_self]
      exact congrArg nI (by omega)
    · simp (disch := omega) only [va_up_ne]
      exact h3 i x hi hx
    · simp (disch := omega) only [va_up_ne, va_up_self]
    · simp (disch := omega) only [va_up_ne, va_up_self]
    · simp (disch := omega) only [va_up_ne, va_up_self]
  obtain ⟨hM, hw, h40, h41⟩ := hms
  unfold f_X12_writes
  rw [wp_gd]
  refine ⟨rfl, ?_⟩
  rw [wp_bnd, v_ldI, hal]
  refine ⟨nI_in (c := 79) (by omega) (by omega), ?_⟩
  rw [show (79 : Int32).toNatClampNeg = 79 from nI_clamp (n := 79) (by omega), hw, toW_hi (by omega), h79, wp_jn0, wp_if]
  refine ⟨fun q => ?_, fun q => ?_⟩
  · have hl : h < 60 := by
      rcases Nat.lt_or_ge h 60 with hl | hl
      · exact hl
      · exact absurd (by rw [show min h 60 = 60 by omega]; rfl) q
    refine tail σ wl ⟨hM, hw, h40, h41⟩ (by rw [h79]; exact congrArg nI (by omega)) (fun i x hi hx => ?_)
    rw [if_pos hl, Nat.add_zero]
  · have hl : 60 ≤ h := by
      rcases Nat.lt_or_ge h 60 with hl | hl
      · have q2 : nI (min h 60) = nI 60 := Decidable.not_not.mp q
        rw [nI_eq (by omega) (by omega)] at q2
        omega
      · exact hl
    rw [wp_let]
    refine wp_for1 178 1 (fun i τ => ∃ w2 : Nat → Int32, 1 ≤ i ∧ τ = (va_up σ.1 R (toW C.1 w2), σ.2) ∧ w2 79 = nI 60 ∧ ∀ t, 80 ≤ t → w2 t = if t < 79 + i then wl (t + 3) else wl t) ?_ ?_ ⟨wl, Nat.le_refl 1, ?_, ?_, fun t ht => by rw [if_neg (by omega)]⟩ (by omega) (by unfold sa_F; omega)
    · rintro i τ hi ⟨w2, hi0, rfl, u1, u2⟩ c hc
      clear tail hQ hR q
      simp (disch := omega) only [wp_gd, wp_bnd, wp_let, wp_jn0, wp_jn1, wp_jn2, wp_if, wp_ret, wp_rdI, wp_rdL, v_rdR, v_ldI, v_ldL, v_ldR, v_stI, v_stB, v_stZ, v_stL, wp_wrI, wp_wrL, wp_wrR, wp_wrZ, wp_retZ, v_md, v_dv, v_tb, upI_2, true_and, and_true, Nat.add_sub_cancel, Nat.zero_lt_succ, Nat.succ_pos, okN, clN, L0, L1, L2, L3, L4, L5, L6, L7, L8, L9, L10, L11, L12, L13, L14, L15, L16, L17, L18, L19, L20, L21, L22, L23, L24, L25, L26, L27, L28, L29, L30, L31, L32, L33, L34, L35, L36, L37, L38, L39, L40, L41, L42, L43, L44, L45, L46, L47, L48, L49, L50, L51, L52, L53, L54, L55, L56, L57, L58, L59, L60, L61, L62, L63, L64, L65, L66, L67, L68, L69, L70, L71, L72, L73, L74, L75, L76, L77, L78, L79, L80, L81, L82, L83, L84, L85, L86, L87, L88, L89, L90, L91, L92, L93, L94, L95, L96, L97, L98, L99, L100, L101, L102, L103, L104, L105, L106, L107, L108, L109, L110, L111, L112, L113, L114, L115, L116, L117, L118, L119, L120, L121, L122, L123, L124, L125, L126, L127, L128, L129, L130, L131, L200, L240, L255, L260, L1000, L4096, L10140, L1000000, ng1, mI_lt, mI_le, lt_mI, le_mI, eq_mI, mI_eq, mI_mI, mI_mE, nI_add, pk_mul, pk_sub, pk_rem, sa_minN, sa_maxN, ne_eq, nI_leI, nI_ltI, nI_eq, dT_le, dF_le, dT_lt, dF_lt, dT_eq, dF_eq, true_imp_iff, false_imp_iff, not_true_eq_false, not_false_eq_true, false_or, or_false, true_or, or_true, false_and, and_false, Decidable.not_not, reduceIte, if_true, if_false, upI_self, upI_ne, upL_1, upL_21, upL_self, upL_ne, upR_1, upR_22, upR_self, upR_ne, va_up_self, va_up_ne, Nat.reduceAdd, Nat.reduceMul, Nat.reduceSub, Nat.reduceLT, Nat.reduceLeDiff, Nat.reduceEqDiff, Nat.reduceSubDiff, Nat.zero_add, cm3, cm5, cm7, cm8, cm25, Nat.not_lt_zero, Nat.zero_le, not_false_iff, and_self, imp_self, implies_true, forall_const, Nat.lt_irrefl, Nat.le_refl, and_imp, hal, toW_hi, L177]
      refine hc _ ⟨va_up w2 (79 + i) (w2 (79 + i + 3)), by omega, ?_, ?_, fun t ht => ?_⟩
      · rw [up_set, toW_uh (by omega)]
      · rw [va_up_ne _ _ (by omega)]; exact u1
      · by_cases e : t = 79 + i
        · subst e
          rw [va_up_self, if_pos (by omega), u2 _ (by omega), if_neg (by omega)]
        · rw [va_up_ne _ _ e, u2 t ht]
          by_cases e2 : t < 79 + i
          · rw [if_pos e2, if_pos (by omega)]
          · rw [if_neg e2, if_neg (by omega)]
    · rintro τ ⟨w2, -, rfl, u1, u2⟩ c
      rw [wp_if]
      refine ⟨fun _ => ?_, fun q => absurd (show (177 : Int32) < nI 178 by decide) q⟩
      rw [wp_bnd, v_ldI, hal]
      refine ⟨nI_in (c := 79) (by omega) (by omega), ?_⟩
      rw [show (79 : Int32).toNatClampNeg = 79 from nI_clamp (n := 79) (by omega)]
      have e79 : (va_up σ.1 R (toW C.1 w2), σ.2).1 R 79 = nI 60 := by
        show va_up σ.1 R (toW C.1 w2) R 79 = _
        rw [va_up_self, toW_hi (by omega)]
        exact u1
      rw [e79, wp_bnd, v_stI, hal]
      refine ⟨nI_in (c := 79) (by omega) (by omega), ?_⟩
      rw [show (79 : Int32).toNatClampNeg = 79 from nI_clamp (n := 79) (by omega), up_set, toW_uh (by omega)]
      refine tail _ (va_up w2 79 (nI 60 - 1)) ⟨?_, ?_, ?_, ?_⟩ ?_ (fun i x hi hx => ?_)
      · have hu := Mf.up (x := 0) (v := toW C.1 (va_up w2 79 (nI 60 - 1)) 0) hM hR
        refine ⟨⟨hu.1.1, fun j hj => ?_⟩, fun k g1 g2 g3 => ?_, ?_⟩
        · have h1 := hM.1.2 j hj
          refine ⟨?_, h1.2⟩
          show va_up σ.1 R _ j = _
          rw [va_up_ne _ _ (fun e => hj (by rw [e]; simp))]
          exact h1.1
        · show va_up σ.1 R _ 159 k = _
          rw [va_up_ne _ _ (by omega)]
          exact hM.2.1 k g1 g2 g3
        · show MemoR n f (σ.2.2 175) (va_up σ.1 R _ 176)
          rw [va_up_ne _ _ (by omega)]
          exact hM.2.2
      · show va_up σ.1 R _ R = _
        rw [va_up_self]
      · show va_up σ.1 R _ 159 40 = _
        rw [va_up_ne _ _ (by omega)]
        exact h40
      · show va_up σ.1 R _ 159 41 = _
        rw [va_up_ne _ _ (by omega)]
        exact h41
      · rw [va_up_self, show min h 59 = 59 by omega]
        decide
      · rw [va_up_ne _ _ (by omega), u2 _ (by omega), if_pos (by omega), if_neg (by omega)]
        exact congrArg wl (by omega)
    · refine Prod.ext (va_up_id ?_).symm rfl
      exact hw
    · rw [h79, show min h 60 = 60 by omega]
end WRITES
