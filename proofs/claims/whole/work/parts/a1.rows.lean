section ROWS
variable {σ : sa_St} {cap : Nat → Nat} {N : Nat} {Q : Int32 → sa_St → Prop}
theorem c_rows (hk : SK σ.2.1) (hN : N ≤ 6) (hcap : ∀ i, i < 8 → σ.1 157 i = nI (cap i)) (hc99 : ∀ i, i < 8 → cap i ≤ 99) (hQ : ∀ w : Nat → Int32, Q (nI (zc_wr 8 cap N)) (va_up σ.1 158 w, σ.2)) : wp (f_X10_rows 156 (nI N)) σ Q := by
  have e1 := sk_156_1 hk
  unfold f_X10_rows
  rw [wp_gd]
  refine ⟨rfl, ?_⟩
  rw [wp_bnd, wp_rdR (v := 158) rfl e1, wp_bnd]
  refine wp_fillI al_158 (by omega) (by omega) (fun f0 h0 _ => ?_)
  rw [wp_bnd, wp_rdR (σ := (va_up σ.1 158 f0, σ.2)) (v := 158) rfl e1, wp_bnd, wp_stI (j := 0) (n := 0) al_158 rfl (by omega) (by omega), up_set, wp_let]
  refine wp_for1 8 0 (fun i τ => ∃ w : Nat → Int32, τ = (va_up σ.1 158 w, σ.2) ∧ ∀ t, t ≤ N → w t = nI (zc_wr i cap t)) ?_ ?_ ⟨_, rfl, fun t ht => ?_⟩ (by omega) (by unfold sa_F; omega)
  · rintro i τ hi ⟨w, rfl, hw⟩ c hc
    rw [wp_if]
    refine ⟨fun q => absurd q (nI_ge (b := 8) hi (by decide)), fun _ => ?_⟩
    rw [wp_let, show sa_min (nI N) 6 = nI N from by rw [L6, sa_minN (by omega) (by omega), Nat.min_eq_left hN]]
    refine wp_wh1 (fun ms a τ => ∃ w2 : Nat → Int32, τ = (va_up σ.1 158 w2, σ.2) ∧ ((∃ T, a = nI T ∧ ms = T + 1 ∧ T ≤ N ∧ ∀ t, t ≤ N → w2 t = nI (if T < t then zc_wr (i + 1) cap t else zc_wr i cap t)) ∨ (a = mI ∧ ms = 0 ∧ ∀ t, t ≤ N → w2 t = nI (zc_wr (i + 1) cap t)))) ?_ sa_F (N + 1) (nI N) _ (by unfold sa_F; omega) ⟨w, rfl, Or.inl ⟨N, rfl, rfl, Nat.le_refl N, fun t ht => by rw [if_neg (by omega)]; exact hw t ht⟩⟩
    rintro ms a τ ⟨w2, rfl, h⟩ d hd
    rcases h with ⟨T, rfl, rfl, hT, h2⟩ | ⟨rfl, rfl, h2⟩
    · rw [wp_if]
      refine ⟨fun q => absurd q (nI_pos (by omega)), fun _ => ?_⟩
      rw [wp_let, wp_let]
      refine c_own (ex := fun x13 => sa_bnd (sa_rdR 10 156 1) fun v15 => sa_bnd (sa_stI v15 (nI T) x13) fun _ => sa_let ((nI T + (-1)) : Int32) fun x16 => d x16) (cap := cap) (σ := (va_up σ.1 158 w2, σ.2)) hk hi (by omega) ?_ (hc99 i hi) (va_up_self σ.1 158 w2) (fun t ht => by rw [h2 t (by omega), if_neg (by omega)]) ?_
      · show va_up σ.1 158 w2 157 i = _
        rw [va_up_ne _ _ (by omega)]
        exact hcap i hi
      · rw [wp_bnd, wp_rdR (σ := (va_up σ.1 158 w2, σ.2)) (v := 158) rfl e1, wp_bnd, wp_stI (n := T) al_158 rfl (by omega) (by omega), up_set, wp_let]
        cases T with
        | zero =>
          refine hd 0 mI _ (by omega) ⟨_, rfl, Or.inr ⟨rfl, rfl, fun t ht => ?_⟩⟩
          by_cases e : t = 0
          · subst e; rw [va_up_self]
          · rw [va_up_ne _ _ e, h2 t ht, if_pos (by omega)]
        | succ T =>
          rw [pk_m1]
          refine hd (T + 1) (nI T) _ (by omega) ⟨_, rfl, Or.inl ⟨T, rfl, rfl, by omega, fun t ht => ?_⟩⟩
          by_cases e : t = T + 1
          · subst e; rw [va_up_self, if_pos (by omega)]
          · rw [va_up_ne _ _ e, h2 t ht]
            by_cases e2 : T + 1 < t
            · rw [if_pos e2, if_pos (by omega)]
            · rw [if_neg e2, if_neg (by omega)]
    · rw [wp_if]
      refine ⟨fun _ => ?_, fun q => absurd (by decide) q⟩
      rw [wp_let, nI_1]
      exact hc _ ⟨w2, rfl, h2⟩
  · rintro τ ⟨w, rfl, hw⟩ c
    have hq := hQ w
    have hwN := hw N (Nat.le_refl N)
    clear hQ hcap hc99 hw
    simp (disch := omega) only [wp_gd, wp_bnd, wp_let, wp_jn0, wp_jn1, wp_jn2, wp_if, wp_ret, wp_rdI, wp_rdL, v_rdR, v_ldI, v_ldL, v_ldR, v_stI, v_stB, v_stZ, v_stL, wp_wrI, wp_wrL, wp_wrR, wp_wrZ, wp_retZ, v_md, v_dv, v_tb, upI_2, true_and, and_true, Nat.add_sub_cancel, Nat.zero_lt_succ, Nat.succ_pos, okN, clN, L0, L1, L2, L3, L4, L5, L6, L7, L8, L9, L10, L11, L12, L13, L14, L15, L16, L17, L18, L19, L20, L21, L22, L23, L24, L25, L26, L27, L28, L29, L30, L31, L32, L33, L34, L35, L36, L37, L38, L39, L40, L41, L42, L43, L44, L45, L46, L47, L48, L49, L50, L51, L52, L53, L54, L55, L56, L57, L58, L59, L60, L61, L62, L63, L64, L65, L66, L67, L68, L69, L70, L71, L72, L73, L74, L75, L76, L77, L78, L79, L80, L81, L82, L83, L84, L85, L86, L87, L88, L89, L90, L91, L92, L93, L94, L95, L96, L97, L98, L99, L100, L101, L102, L103, L104, L105, L106, L107, L108, L109, L110, L111, L112, L113, L114, L115, L116, L117, L118, L119, L120, L121, L122, L123, L124, L125, L126, L127, L128, L129, L130, L131, L200, L240, L255, L260, L1000, L4096, L10140, L1000000, ng1, mI_lt, mI_le, lt_mI, le_mI, eq_mI, mI_eq, mI_mI, mI_mE, nI_add, pk_mul, pk_sub, pk_rem, sa_minN, sa_maxN, ne_eq, nI_leI, nI_ltI, nI_eq, dT_le, dF_le, dT_lt, dF_lt, dT_eq, dF_eq, true_imp_iff, false_imp_iff, not_true_eq_false, not_false_eq_true, false_or, or_false, true_or, or_true, false_and, and_false, Decidable.not_not, reduceIte, if_true, if_false, upI_self, upI_ne, upL_1, upL_21, upL_self, upL_ne, upR_1, upR_22, upR_self, upR_ne, va_up_self, va_up_ne, Nat.reduceAdd, Nat.reduceMul, Nat.reduceSub, Nat.reduceLT, Nat.reduceLeDiff, Nat.reduceEqDiff, Nat.reduceSubDiff, Nat.zero_add, cm3, cm5, cm7, cm8, cm25, Nat.not_lt_zero, Nat.zero_le, not_false_iff, and_self, imp_self, implies_true, forall_const, Nat.lt_irrefl, Nat.le_refl, and_imp, sh_156, e1, al_158, hwN]
    exact hq
  · by_cases e : t = 0
    · subst e; rw [va_up_self]; rfl
    · rw [va_up_ne _ _ e, h0 t (by omega)]
      show (0 : Int32) = nI (if t = 0 then 1 else 0)
      rw [if_neg e]
      rfl
end ROWS
