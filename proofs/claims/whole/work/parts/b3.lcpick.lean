section PK
variable {σ : sa_St} {P W H B m l b N : Nat} {Q : Int32 → sa_St → Prop}
theorem s2_id : s2 σ (σ.1 157) (σ.1 158) = σ := by
  refine Prod.ext (funext fun j => ?_) rfl
  show va_up (va_up σ.1 157 (σ.1 157)) 158 (σ.1 158) j = σ.1 j
  by_cases h : j = 158
  · subst h; exact va_up_self _ _ _
  · rw [va_up_ne _ _ h]
    by_cases h2 : j = 157
    · subst h2; exact va_up_self _ _ _
    · exact va_up_ne _ _ h2
theorem s2_set7 {r w r2 : Nat → Int32} : (va_up (s2 σ r w).1 157 r2, (s2 σ r w).2) = s2 σ r2 w := by
  refine Prod.ext (funext fun j => ?_) rfl
  show va_up (s2 σ r w).1 157 r2 j = va_up (va_up σ.1 157 r2) 158 w j
  by_cases h : j = 157
  · subst h
    rw [va_up_self, va_up_ne _ _ (by omega), va_up_self]
  · rw [va_up_ne _ _ h]
    by_cases h2 : j = 158
    · subst h2
      rw [s2_8, va_up_self]
    · rw [s2_ne h h2, va_up_ne _ _ h2, va_up_ne _ _ h]
theorem s2_dn {r w : Nat → Int32} : Dn [0] σ (s2 σ r w) := Dn.set (τ := (va_up σ.1 157 r, σ.2)) (Dn.set (Dn.refl σ) (fun _ => rfl)) (fun _ => rfl)
/-- the class: who can stand how often, and how many rows -/
theorem c_two {r w : Nat → Int32} {Q : Int32 → sa_St → Prop} (hk : SK σ.2.1) (hkm : KM P W H B m (σ.1 45)) (hP : P ≤ 8) (hl : 1 ≤ l ∧ l ≤ 9) (hb : b ≤ 99) (hN : 1 ≤ N ∧ N ≤ 6) {v6 : Nat} {J : Int32 → sa_M Int32} (hQ : ∀ r2 w2 : Nat → Int32, (∀ i, i < 8 → r2 i = nI (capS (σ.1 45) m l b i)) → wp (J (nI (prow (σ.1 45) m N l b).length)) (s2 σ r2 w2) Q) :
    wp (sa_bnd (sa_rdR 11 0 12) fun v4 => sa_bnd (sa_rdR 11 0 6) fun v5 => sa_bnd (f_X10_set v4 v5 (nI l) (nI b)) fun _ => sa_bnd (sa_rdR 11 0 12) fun v6 => sa_bnd (f_X10_rows v6 (nI N)) fun v7 => J v7) (s2 σ r w) Q := by
  have e12 := sk_0_12 hk
  have e6 := sk_0_6 hk
  have h45 : (s2 σ r w).1 45 = σ.1 45 := s2_ne (by omega) (by omega)
  rw [wp_bnd, wp_rdR (σ := s2 σ r w) (v := 156) rfl e12, wp_bnd, wp_rdR (σ := s2 σ r w) (v := 44) rfl e6, wp_bnd]
  refine c_set (σ := s2 σ r w) hk (by rw [h45]; exact hkm) hP hl hb (fun r2 h2 => ?_)
  rw [h45] at h2
  rw [s2_set7, wp_bnd, wp_rdR (σ := s2 σ r2 w) (v := 156) rfl e12, wp_bnd]
  refine c_rows (σ := s2 σ r2 w) (cap := capS (σ.1 45) m l b) hk hN.2 (by rw [s2_7]; exact h2) (fun i _ => capS_le hkm hP i) (fun w2 => ?_)
  rw [s2_set, ← prow_len hkm.1]
  exact hQ r2 w2 h2
theorem c_pick {i : Int32} (hk : SK σ.2.1) (hkm : KM P W H B m (σ.1 45)) (hP : P ≤ 8) (hl : 1 ≤ l ∧ l ≤ 9) (hb : b ≤ 99) (hN : 1 ≤ N ∧ N ≤ 6) (hi : mI ≤ i) (hQ : ∀ r w : Nat → Int32, Q (pans (prow (σ.1 45) m N l b) i) (s2 σ r w)) :
    wp (sa_bnd (sa_rdR 11 0 12) fun v4 =>
sa_bnd (sa_rdR 11 0 6) fun v5 =>
sa_bnd (f_X10_set v4 v5 (nI l) (nI b)) fun _ =>
sa_bnd (sa_rdR 11 0 12) fun v6 =>
sa_bnd (f_X10_rows v6 (nI N)) fun v7 =>
if ¬ i = (-1) then
sa_jn1 (fun (y8 : Int32) =>
sa_ret (y8 : Int32)) fun j89 =>
if v7 ≤ i then
j89 (-1)
else
sa_bnd (sa_rdR 11 0 12) fun v9 =>
sa_bnd (f_X10_row v9 (nI N) i) fun v10 =>
j89 v10
else
sa_ret (v7 : Int32)) σ Q := by
  have e12 := sk_0_12 hk
  have m8 := hkm.1
  have hlen : (prow (σ.1 45) m N l b).length ≤ 262144 := by rw [prow_len m8]; exact wr_bd hN.2 _
  have key := c_two (Q := Q) (r := σ.1 157) (w := σ.1 158) (v6 := 0) (J := fun v7 => if ¬ i = (-1) then sa_jn1 (fun (y8 : Int32) => sa_ret (y8 : Int32)) fun j89 => if v7 ≤ i then j89 (-1) else sa_bnd (sa_rdR 11 0 12) fun v9 => sa_bnd (f_X10_row v9 (nI N) i) fun v10 => j89 v10 else sa_ret (v7 : Int32)) hk hkm hP hl hb hN (fun r2 w2 h2 => ?_)
  · rw [s2_id] at key
    exact key
  · have hq := hQ
    unfold pans at hq
    show wp (if ¬ i = (-1) then _ else _) _ Q
    rw [wp_if]
    refine ⟨fun q => ?_, fun q => ?_⟩
    · have e : ¬ i = mI := q
      rw [if_neg e] at hq
      have h0 : ¬ i < 0 := by
        intro q2
        rw [Int32.lt_iff_toInt_lt] at q2
        rw [Int32.le_iff_toInt_le, mI_t] at hi
        have : i.toInt = mI.toInt := by rw [mI_t]; rw [show (0 : Int32).toInt = 0 from rfl] at q2; omega
        exact e (Int32.toInt_inj.mp this)
      obtain ⟨j, hj, rfl⟩ := nI_of h0
      rw [nI_clamp hj] at hq
      rw [wp_jn1, wp_if]
      refine ⟨fun q2 => ?_, fun q2 => ?_⟩
      · rw [nI_leI (by omega) hj] at q2
        rw [wp_ret]
        rw [List.getElem?_eq_none (by omega)] at hq
        exact hq r2 w2
      · rw [nI_leI (by omega) hj] at q2
        obtain ⟨d, hd⟩ : ∃ d, (prow (σ.1 45) m N l b)[j]? = some d := ⟨_, List.getElem?_eq_getElem (by omega)⟩
        rw [hd] at hq
        rw [wp_bnd, wp_rdR (σ := s2 σ r2 w2) (v := 156) rfl e12, wp_bnd]
        refine c_row (cap := capS (σ.1 45) m l b) hk hN.2 h2 (fun i _ => capS_le hkm hP i) (i := j) (dd := d) ?_ hN.1 (fun r3 w3 => ?_)
        · rw [rows_trim m8 N _ 0 (fun c h => capS_hi h)]
          exact hd
        · rw [wp_ret]
          exact hq r3 w3
    · have e : i = mI := Decidable.not_not.mp q
      rw [if_pos e] at hq
      rw [wp_ret]
      exact hq r2 w2
theorem c_nights (hl : 1 ≤ l ∧ l ≤ 9) (hN : 1 ≤ N ∧ N ≤ 6) : f_X11_areNights (nI N) (nI l) σ = some (nI 1, σ) := by
  refine run_of ?_
  simp (disch := omega) only [f_X11_areNights, wp_gd, wp_bnd, wp_let, wp_jn0, wp_jn1, wp_jn2, wp_if, wp_ret, wp_rdI, wp_rdL, v_rdR, v_ldI, v_ldL, v_ldR, v_stI, v_stB, v_stZ, v_stL, wp_wrI, wp_wrL, wp_wrR, wp_wrZ, wp_retZ, v_md, v_dv, v_tb, upI_2, true_and, and_true, Nat.add_sub_cancel, Nat.zero_lt_succ, Nat.succ_pos, okN, clN, L0, L1, L2, L3, L4, L5, L6, L7, L8, L9, L10, L11, L12, L13, L14, L15, L16, L17, L18, L19, L20, L21, L22, L23, L24, L25, L26, L27, L28, L29, L30, L31, L32, L33, L34, L35, L36, L37, L38, L39, L40, L41, L42, L43, L44, L45, L46, L47, L48, L49, L50, L51, L52, L53, L54, L55, L56, L57, L58, L59, L60, L61, L62, L63, L64, L65, L66, L67, L68, L69, L70, L71, L72, L73, L74, L75, L76, L77, L78, L79, L80, L81, L82, L83, L84, L85, L86, L87, L88, L89, L90, L91, L92, L93, L94, L95, L96, L97, L98, L99, L100, L101, L102, L103, L104, L105, L106, L107, L108, L109, L110, L111, L112, L113, L114, L115, L116, L117, L118, L119, L120, L121, L122, L123, L124, L125, L126, L127, L128, L129, L130, L131, L200, L240, L255, L260, L1000, L4096, L10140, L1000000, ng1, mI_lt, mI_le, lt_mI, le_mI, eq_mI, mI_eq, mI_mI, mI_mE, nI_add, pk_mul, pk_sub, pk_rem, sa_minN, sa_maxN, ne_eq, nI_leI, nI_ltI, nI_eq, dT_le, dF_le, dT_lt, dF_lt, dT_eq, dF_eq, true_imp_iff, false_imp_iff, not_true_eq_false, not_false_eq_true, false_or, or_false, true_or, or_true, false_and, and_false, Decidable.not_not, reduceIte, if_true, if_false, upI_self, upI_ne, upL_1, upL_21, upL_self, upL_ne, upR_1, upR_22, upR_self, upR_ne, va_up_self, va_up_ne, Nat.reduceAdd, Nat.reduceMul, Nat.reduceSub, Nat.reduceLT, Nat.reduceLeDiff, Nat.reduceEqDiff, Nat.reduceSubDiff, Nat.zero_add, cm3, cm5, cm7, cm8, cm25, Nat.not_lt_zero, Nat.zero_le, not_false_iff, and_self, imp_self, implies_true, forall_const, Nat.lt_irrefl, Nat.le_refl, and_imp]
theorem m_nights (hP0 : 0 < P) (hP : P ≤ 8) (r0 : σ.1 159 25 = nI P) (hl : 1 ≤ l ∧ l ≤ 9) (hN : 1 ≤ N ∧ N ≤ 6) : f_X12_areNights 159 (nI N) (nI l) σ = some (nI 1, σ) := by
  refine run_of ?_
  simp (disch := omega) only [f_X12_areNights, w_isIn, le_sub1, i64le, l64_0, l64_1, l64_2, l64_3, l64_5, l64_6, l64_7, l64_9, l64_12, l64_24, l64_48, l64_99, wp_gd, wp_bnd, wp_let, wp_jn0, wp_jn1, wp_jn2, wp_if, wp_ret, wp_rdI, wp_rdL, v_rdR, v_ldI, v_ldL, v_ldR, v_stI, v_stB, v_stZ, v_stL, wp_wrI, wp_wrL, wp_wrR, wp_wrZ, wp_retZ, v_md, v_dv, v_tb, upI_2, true_and, and_true, Nat.add_sub_cancel, Nat.zero_lt_succ, Nat.succ_pos, okN, clN, L0, L1, L2, L3, L4, L5, L6, L7, L8, L9, L10, L11, L12, L13, L14, L15, L16, L17, L18, L19, L20, L21, L22, L23, L24, L25, L26, L27, L28, L29, L30, L31, L32, L33, L34, L35, L36, L37, L38, L39, L40, L41, L42, L43, L44, L45, L46, L47, L48, L49, L50, L51, L52, L53, L54, L55, L56, L57, L58, L59, L60, L61, L62, L63, L64, L65, L66, L67, L68, L69, L70, L71, L72, L73, L74, L75, L76, L77, L78, L79, L80, L81, L82, L83, L84, L85, L86, L87, L88, L89, L90, L91, L92, L93, L94, L95, L96, L97, L98, L99, L100, L101, L102, L103, L104, L105, L106, L107, L108, L109, L110, L111, L112, L113, L114, L115, L116, L117, L118, L119, L120, L121, L122, L123, L124, L125, L126, L127, L128, L129, L130, L131, L200, L240, L255, L260, L1000, L4096, L10140, L1000000, ng1, mI_lt, mI_le, lt_mI, le_mI, eq_mI, mI_eq, mI_mI, mI_mE, nI_add, pk_mul, pk_sub, pk_rem, sa_minN, sa_maxN, ne_eq, nI_leI, nI_ltI, nI_eq, dT_le, dF_le, dT_lt, dF_lt, dT_eq, dF_eq, true_imp_iff, false_imp_iff, not_true_eq_false, not_false_eq_true, false_or, or_false, true_or, or_true, false_and, and_false, Decidable.not_not, reduceIte, if_true, if_false, upI_self, upI_ne, upL_1, upL_21, upL_self, upL_ne, upR_1, upR_22, upR_self, upR_ne, va_up_self, va_up_ne, Nat.reduceAdd, Nat.reduceMul, Nat.reduceSub, Nat.reduceLT, Nat.reduceLeDiff, Nat.reduceEqDiff, Nat.reduceSubDiff, Nat.zero_add, cm3, cm5, cm7, cm8, cm25, Nat.not_lt_zero, Nat.zero_le, not_false_iff, and_self, imp_self, implies_true, forall_const, Nat.lt_irrefl, Nat.le_refl, and_imp, sh_159, r0]
end PK
section LC26
theorem pick_main {k L P W F n : Nat} {f : Nat → LWt} {σ : sa_St} {N l b : Nat} {i : Int32} (hIv0 : Iv k L P W F n f σ) (hP0 : 0 < P) (hl : 1 ≤ l ∧ l ≤ 9) (hb : b ≤ 99) (hN : 1 ≤ N ∧ N ≤ 6) (hi : mI ≤ i) : wp (f_X11_pickets 0 (nI N) (nI l) (nI b) i) σ (fun r τ => wp (f_X12_pickets 159 (nI N) (nI l) (nI b) i) τ (fun r2 τ2 => r2 = r ∧ Inv (k + 1) τ2)) := by
  have hIv := hIv0
  obtain ⟨hk, hL, hT, hLd, hM, hW, hO, hC, hP, hG, hS, hZ⟩ := hIv
  obtain ⟨⟨a1, a2, a3, a4, a5, a6⟩, e1, e2, e3, e4, e5, e6⟩ := LD.of hk hL
  obtain ⟨⟨b1, b2, b3⟩, ⟨c0, c1, c3, r0, r1, r3⟩, lp, lw, lf⟩ := hLd
  obtain ⟨m, hkm⟩ := KM.of hC.1
  obtain ⟨wl, hw, hlg⟩ := hC.2
  have hE : f_X1_isEmpty L σ = some (nI 0, σ) := by
    refine run_of ?_
    clear hM hW hO hP hG hS hZ lp lw lf hkm hw hlg hIv0 hL
    simp (disch := omega) only [f_X1_isEmpty, wp_gd, wp_bnd, wp_let, wp_jn0, wp_jn1, wp_jn2, wp_if, wp_ret, wp_rdI, wp_rdL, v_rdR, v_ldI, v_ldL, v_ldR, v_stI, v_stB, v_stZ, v_stL, wp_wrI, wp_wrL, wp_wrR, wp_wrZ, wp_retZ, v_md, v_dv, v_tb, upI_2, true_and, and_true, Nat.add_sub_cancel, Nat.zero_lt_succ, Nat.succ_pos, okN, clN, L0, L1, L2, L3, L4, L5, L6, L7, L8, L9, L10, L11, L12, L13, L14, L15, L16, L17, L18, L19, L20, L21, L22, L23, L24, L25, L26, L27, L28, L29, L30, L31, L32, L33, L34, L35, L36, L37, L38, L39, L40, L41, L42, L43, L44, L45, L46, L47, L48, L49, L50, L51, L52, L53, L54, L55, L56, L57, L58, L59, L60, L61, L62, L63, L64, L65, L66, L67, L68, L69, L70, L71, L72, L73, L74, L75, L76, L77, L78, L79, L80, L81, L82, L83, L84, L85, L86, L87, L88, L89, L90, L91, L92, L93, L94, L95, L96, L97, L98, L99, L100, L101, L102, L103, L104, L105, L106, L107, L108, L109, L110, L111, L112, L113, L114, L115, L116, L117, L118, L119, L120, L121, L122, L123, L124, L125, L126, L127, L128, L129, L130, L131, L200, L240, L255, L260, L1000, L4096, L10140, L1000000, ng1, mI_lt, mI_le, lt_mI, le_mI, eq_mI, mI_eq, mI_mI, mI_mE, nI_add, pk_mul, pk_sub, pk_rem, sa_minN, sa_maxN, ne_eq, nI_leI, nI_ltI, nI_eq, dT_le, dF_le, dT_lt, dF_lt, dT_eq, dF_eq, true_imp_iff, false_imp_iff, not_true_eq_false, not_false_eq_true, false_or, or_false, true_or, or_true, false_and, and_false, Decidable.not_not, reduceIte, if_true, if_false, upI_self, upI_ne, upL_1, upL_21, upL_self, upL_ne, upR_1, upR_22, upR_self, upR_ne, va_up_self, va_up_ne, Nat.reduceAdd, Nat.reduceMul, Nat.reduceSub, Nat.reduceLT, Nat.reduceLeDiff, Nat.reduceEqDiff, Nat.reduceSubDiff, Nat.zero_add, cm3, cm5, cm7, cm8, cm25, Nat.not_lt_zero, Nat.zero_le, not_false_iff, and_self, imp_self, implies_true, forall_const, Nat.lt_irrefl, Nat.le_refl, and_imp, e1, a2, e2, c0]
  have hlen : (prow (σ.1 45) m N l b).length ≤ 262144 := by rw [prow_len hkm.1]; exact wr_bd hN.2 _
  unfold f_X11_pickets
  rw [wp_gd]
  refine ⟨rfl, ?_⟩
  rw [wp_bnd, wp_rdR (v := L) rfl a1, wp_bnd, wp_of_eq hE, wp_jn0, wp_if]
  refine ⟨fun q => absurd (show nI 0 = 0 from rfl) q, fun _ => ?_⟩
  rw [wp_bnd, wp_of_eq (c_nights hl hN), wp_if]
  refine ⟨fun q => absurd q (by decide), fun _ => ?_⟩
  rw [wp_if]
  refine ⟨fun q => absurd q (nI_pos (by omega)), fun _ => ?_⟩
  rw [wp_if]
  refine ⟨fun q => absurd q (nI_nlt (b := b) (a := 99) hb (by omega)), fun _ => ?_⟩
  rw [wp_if]
  refine ⟨fun _ => ?_, fun q => absurd hi q⟩
  refine c_pick hk hkm b1 hl hb hN hi (fun r w => ?_)
  have h173 : (sa_upI (s2 σ r w) 159 0 0).1 173 = toW (σ.1 45) wl := by
    rw [upI_ne (by omega), s2_ne (by omega) (by omega)]
    exact hw
  have r0' : (sa_upI (s2 σ r w) 159 0 0).1 159 25 = nI P := by
    rw [upI_self, va_up_ne _ _ (by omega), s2_ne (by omega) (by omega)]
    exact r0
  unfold f_X12_pickets
  rw [wp_gd]
  refine ⟨rfl, ?_⟩
  rw [wp_bnd, wp_wrI]
  refine ⟨rfl, ?_⟩
  rw [wp_bnd, wp_of_eq (m_nights hP0 b1 r0' hl hN), wp_jn0, wp_if]
  refine ⟨fun q => absurd q (by decide), fun _ => ?_⟩
  rw [wp_bnd, w_isIn]
  refine ⟨fun _ => ?_, fun q => absurd ?_ q⟩
  · rw [wp_if]
    refine ⟨fun q => absurd q (by decide), fun _ => ?_⟩
    rw [wp_if]
    refine ⟨fun _ => ?_, fun q => absurd hi q⟩
    refine m_one (σ := sa_upI (s2 σ r w) 159 0 0) hk h173 hkm b1 hb hl hN (fun r2 => ?_)
    have hs := sc_ans (rs := prow (σ.1 45) m N l b) (i := i) (by omega) hi
    have fin : ∀ c x, Inv (k + 1) (ps (sa_upI (sa_upI (s2 σ r w) 159 0 0) 159 64 i) r2 c x) := fun c x => hIv0.ask0 (ps_dn (Dn.up (Dn.up s2_dn rfl) rfl)) rfl
    rw [wp_jn1, wp_if]
    refine ⟨fun q => ?_, fun q => ?_⟩
    · have e : ¬ i = mI := q
      rw [if_neg e] at hs
      rw [wp_bnd, wp_rdI, ps_65]
      refine ⟨rfl, ?_⟩
      rw [wp_ret]
      exact ⟨hs, fin _ _⟩
    · have e : i = mI := Decidable.not_not.mp q
      rw [if_pos e] at hs
      rw [wp_bnd, wp_rdI, ps_63]
      refine ⟨rfl, ?_⟩
      rw [wp_ret]
      exact ⟨hs, fin _ _⟩
  · rw [l64_0, l64_99, i64le, i64le, nI_leI (by omega) (by omega), nI_leI (by omega) (by omega)]
    omega
theorem lc26 (k : Nat) : lc_26 (Inv k) (Inv (k + 1)) := by
  intro σ s1 s2 s3 s4 hI
  refine lco ?_
  obtain ⟨L, P, W, F, n, f, hIv⟩ := Iv.of hI
  have hIv0 := hIv
  obtain ⟨hk, hL, hT, hLd, hM, hW, hO, hC, hP, hG, hS, hZ⟩ := hIv
  obtain ⟨⟨a1, a2, a3, a4, a5, a6⟩, e1, e2, e3, e4, e5, e6⟩ := LD.of hk hL
  have hL39 := hL.n
  obtain ⟨⟨b1, b2, b3⟩, ⟨c0, c1, c3, r0, r1, r3⟩, lp, lw, lf⟩ := hLd
  clear hL39 hM hW hO hC hP hG hS hZ lp lw lf
  rcases Nat.eq_zero_or_pos P with rfl | hP0
  · simp (disch := omega) only [f_X11_pickets, f_X12_pickets, f_X1_isEmpty, f_X12_areNights, wp_gd, wp_bnd, wp_let, wp_jn0, wp_jn1, wp_jn2, wp_if, wp_ret, wp_rdI, wp_rdL, v_rdR, v_ldI, v_ldL, v_ldR, v_stI, v_stB, v_stZ, v_stL, wp_wrI, wp_wrL, wp_wrR, wp_wrZ, wp_retZ, v_md, v_dv, v_tb, upI_2, true_and, and_true, Nat.add_sub_cancel, Nat.zero_lt_succ, Nat.succ_pos, okN, clN, L0, L1, L2, L3, L4, L5, L6, L7, L8, L9, L10, L11, L12, L13, L14, L15, L16, L17, L18, L19, L20, L21, L22, L23, L24, L25, L26, L27, L28, L29, L30, L31, L32, L33, L34, L35, L36, L37, L38, L39, L40, L41, L42, L43, L44, L45, L46, L47, L48, L49, L50, L51, L52, L53, L54, L55, L56, L57, L58, L59, L60, L61, L62, L63, L64, L65, L66, L67, L68, L69, L70, L71, L72, L73, L74, L75, L76, L77, L78, L79, L80, L81, L82, L83, L84, L85, L86, L87, L88, L89, L90, L91, L92, L93, L94, L95, L96, L97, L98, L99, L100, L101, L102, L103, L104, L105, L106, L107, L108, L109, L110, L111, L112, L113, L114, L115, L116, L117, L118, L119, L120, L121, L122, L123, L124, L125, L126, L127, L128, L129, L130, L131, L200, L240, L255, L260, L1000, L4096, L10140, L1000000, ng1, mI_lt, mI_le, lt_mI, le_mI, eq_mI, mI_eq, mI_mI, mI_mE, nI_add, pk_mul, pk_sub, pk_rem, sa_minN, sa_maxN, ne_eq, nI_leI, nI_ltI, nI_eq, dT_le, dF_le, dT_lt, dF_lt, dT_eq, dF_eq, true_imp_iff, false_imp_iff, not_true_eq_false, not_false_eq_true, false_or, or_false, true_or, or_true, false_and, and_false, Decidable.not_not, reduceIte, if_true, if_false, upI_self, upI_ne, upL_1, upL_21, upL_self, upL_ne, upR_1, upR_22, upR_self, upR_ne, va_up_self, va_up_ne, Nat.reduceAdd, Nat.reduceMul, Nat.reduceSub, Nat.reduceLT, Nat.reduceLeDiff, Nat.reduceEqDiff, Nat.reduceSubDiff, Nat.zero_add, cm3, cm5, cm7, cm8, cm25, Nat.not_lt_zero, Nat.zero_le, not_false_iff, and_self, imp_self, implies_true, forall_const, Nat.lt_irrefl, Nat.le_refl, and_imp, sh_0, sh_159, sh_1, sh_15, sh_44, sh_46, sh_48, sh_134, sh_136, sh_151, sh_156, e1, e2, e3, e4, e5, e6, a1, a2, a3, a4, a5, a6, c0, c1, c3, r0, r1, r3]
    exact hIv0.ask0 (Dn.up (Dn.refl σ) rfl) rfl
  rcases nx s1 7 with ⟨g1, g2, g3, g4, g5, g6⟩ | ⟨g1, g2, g3, g4, g5, g6, -⟩ | ⟨N, hN, rfl⟩
  · simp (disch := omega) only [f_X11_pickets, f_X12_pickets, f_X1_isEmpty, f_X12_areNights, f_X11_areNights, w_isIn, le_sub1, i64le, l64_0, l64_1, l64_2, l64_3, l64_5, l64_6, l64_7, l64_9, l64_12, l64_24, l64_48, l64_99, wp_gd, wp_bnd, wp_let, wp_jn0, wp_jn1, wp_jn2, wp_if, wp_ret, wp_rdI, wp_rdL, v_rdR, v_ldI, v_ldL, v_ldR, v_stI, v_stB, v_stZ, v_stL, wp_wrI, wp_wrL, wp_wrR, wp_wrZ, wp_retZ, v_md, v_dv, v_tb, upI_2, true_and, and_true, Nat.add_sub_cancel, Nat.zero_lt_succ, Nat.succ_pos, okN, clN, L0, L1, L2, L3, L4, L5, L6, L7, L8, L9, L10, L11, L12, L13, L14, L15, L16, L17, L18, L19, L20, L21, L22, L23, L24, L25, L26, L27, L28, L29, L30, L31, L32, L33, L34, L35, L36, L37, L38, L39, L40, L41, L42, L43, L44, L45, L46, L47, L48, L49, L50, L51, L52, L53, L54, L55, L56, L57, L58, L59, L60, L61, L62, L63, L64, L65, L66, L67, L68, L69, L70, L71, L72, L73, L74, L75, L76, L77, L78, L79, L80, L81, L82, L83, L84, L85, L86, L87, L88, L89, L90, L91, L92, L93, L94, L95, L96, L97, L98, L99, L100, L101, L102, L103, L104, L105, L106, L107, L108, L109, L110, L111, L112, L113, L114, L115, L116, L117, L118, L119, L120, L121, L122, L123, L124, L125, L126, L127, L128, L129, L130, L131, L200, L240, L255, L260, L1000, L4096, L10140, L1000000, ng1, mI_lt, mI_le, lt_mI, le_mI, eq_mI, mI_eq, mI_mI, mI_mE, nI_add, pk_mul, pk_sub, pk_rem, sa_minN, sa_maxN, ne_eq, nI_leI, nI_ltI, nI_eq, dT_le, dF_le, dT_lt, dF_lt, dT_eq, dF_eq, true_imp_iff, false_imp_iff, not_true_eq_false, not_false_eq_true, false_or, or_false, true_or, or_true, false_and, and_false, Decidable.not_not, reduceIte, if_true, if_false, upI_self, upI_ne, upL_1, upL_21, upL_self, upL_ne, upR_1, upR_22, upR_self, upR_ne, va_up_self, va_up_ne, Nat.reduceAdd, Nat.reduceMul, Nat.reduceSub, Nat.reduceLT, Nat.reduceLeDiff, Nat.reduceEqDiff, Nat.reduceSubDiff, Nat.zero_add, cm3, cm5, cm7, cm8, cm25, Nat.not_lt_zero, Nat.zero_le, not_false_iff, and_self, imp_self, implies_true, forall_const, Nat.lt_irrefl, Nat.le_refl, and_imp, sh_0, sh_159, sh_1, sh_15, sh_44, sh_46, sh_48, sh_134, sh_136, sh_151, sh_156, e1, e2, e3, e4, e5, e6, a1, a2, a3, a4, a5, a6, c0, c1, c3, r0, r1, r3, g1, g2, g3, g4, g5, g6]
    exact hIv0.ask0 (Dn.up (Dn.refl σ) rfl) rfl
  · simp (disch := omega) only [f_X11_pickets, f_X12_pickets, f_X1_isEmpty, f_X12_areNights, f_X11_areNights, w_isIn, le_sub1, i64le, l64_0, l64_1, l64_2, l64_3, l64_5, l64_6, l64_7, l64_9, l64_12, l64_24, l64_48, l64_99, wp_gd, wp_bnd, wp_let, wp_jn0, wp_jn1, wp_jn2, wp_if, wp_ret, wp_rdI, wp_rdL, v_rdR, v_ldI, v_ldL, v_ldR, v_stI, v_stB, v_stZ, v_stL, wp_wrI, wp_wrL, wp_wrR, wp_wrZ, wp_retZ, v_md, v_dv, v_tb, upI_2, true_and, and_true, Nat.add_sub_cancel, Nat.zero_lt_succ, Nat.succ_pos, okN, clN, L0, L1, L2, L3, L4, L5, L6, L7, L8, L9, L10, L11, L12, L13, L14, L15, L16, L17, L18, L19, L20, L21, L22, L23, L24, L25, L26, L27, L28, L29, L30, L31, L32, L33, L34, L35, L36, L37, L38, L39, L40, L41, L42, L43, L44, L45, L46, L47, L48, L49, L50, L51, L52, L53, L54, L55, L56, L57, L58, L59, L60, L61, L62, L63, L64, L65, L66, L67, L68, L69, L70, L71, L72, L73, L74, L75, L76, L77, L78, L79, L80, L81, L82, L83, L84, L85, L86, L87, L88, L89, L90, L91, L92, L93, L94, L95, L96, L97, L98, L99, L100, L101, L102, L103, L104, L105, L106, L107, L108, L109, L110, L111, L112, L113, L114, L115, L116, L117, L118, L119, L120, L121, L122, L123, L124, L125, L126, L127, L128, L129, L130, L131, L200, L240, L255, L260, L1000, L4096, L10140, L1000000, ng1, mI_lt, mI_le, lt_mI, le_mI, eq_mI, mI_eq, mI_mI, mI_mE, nI_add, pk_mul, pk_sub, pk_rem, sa_minN, sa_maxN, ne_eq, nI_leI, nI_ltI, nI_eq, dT_le, dF_le, dT_lt, dF_lt, dT_eq, dF_eq, true_imp_iff, false_imp_iff, not_true_eq_false, not_false_eq_true, false_or, or_false, true_or, or_true, false_and, and_false, Decidable.not_not, reduceIte, if_true, if_false, upI_self, upI_ne, upL_1, upL_21, upL_self, upL_ne, upR_1, upR_22, upR_self, upR_ne, va_up_self, va_up_ne, Nat.reduceAdd, Nat.reduceMul, Nat.reduceSub, Nat.reduceLT, Nat.reduceLeDiff, Nat.reduceEqDiff, Nat.reduceSubDiff, Nat.zero_add, cm3, cm5, cm7, cm8, cm25, Nat.not_lt_zero, Nat.zero_le, not_false_iff, and_self, imp_self, implies_true, forall_const, Nat.lt_irrefl, Nat.le_refl, and_imp, sh_0, sh_159, sh_1, sh_15, sh_44, sh_46, sh_48, sh_134, sh_136, sh_151, sh_156, e1, e2, e3, e4, e5, e6, a1, a2, a3, a4, a5, a6, c0, c1, c3, r0, r1, r3, g1, g2, g3, g4, g5, g6]
    exact hIv0.ask0 (Dn.up (Dn.refl σ) rfl) rfl
  rcases Nat.eq_zero_or_pos N with rfl | hN0
  · simp (disch := omega) only [f_X11_pickets, f_X12_pickets, f_X1_isEmpty, f_X12_areNights, f_X11_areNights, w_isIn, le_sub1, i64le, l64_0, l64_1, l64_2, l64_3, l64_5, l64_6, l64_7, l64_9, l64_12, l64_24, l64_48, l64_99, wp_gd, wp_bnd, wp_let, wp_jn0, wp_jn1, wp_jn2, wp_if, wp_ret, wp_rdI, wp_rdL, v_rdR, v_ldI, v_ldL, v_ldR, v_stI, v_stB, v_stZ, v_stL, wp_wrI, wp_wrL, wp_wrR, wp_wrZ, wp_retZ, v_md, v_dv, v_tb, upI_2, true_and, and_true, Nat.add_sub_cancel, Nat.zero_lt_succ, Nat.succ_pos, okN, clN, L0, L1, L2, L3, L4, L5, L6, L7, L8, L9, L10, L11, L12, L13, L14, L15, L16, L17, L18, L19, L20, L21, L22, L23, L24, L25, L26, L27, L28, L29, L30, L31, L32, L33, L34, L35, L36, L37, L38, L39, L40, L41, L42, L43, L44, L45, L46, L47, L48, L49, L50, L51, L52, L53, L54, L55, L56, L57, L58, L59, L60, L61, L62, L63, L64, L65, L66, L67, L68, L69, L70, L71, L72, L73, L74, L75, L76, L77, L78, L79, L80, L81, L82, L83, L84, L85, L86, L87, L88, L89, L90, L91, L92, L93, L94, L95, L96, L97, L98, L99, L100, L101, L102, L103, L104, L105, L106, L107, L108, L109, L110, L111, L112, L113, L114, L115, L116, L117, L118, L119, L120, L121, L122, L123, L124, L125, L126, L127, L128, L129, L130, L131, L200, L240, L255, L260, L1000, L4096, L10140, L1000000, ng1, mI_lt, mI_le, lt_mI, le_mI, eq_mI, mI_eq, mI_mI, mI_mE, nI_add, pk_mul, pk_sub, pk_rem, sa_minN, sa_maxN, ne_eq, nI_leI, nI_ltI, nI_eq, dT_le, dF_le, dT_lt, dF_lt, dT_eq, dF_eq, true_imp_iff, false_imp_iff, not_true_eq_false, not_false_eq_true, false_or, or_false, true_or, or_true, false_and, and_false, Decidable.not_not, reduceIte, if_true, if_false, upI_self, upI_ne, upL_1, upL_21, upL_self, upL_ne, upR_1, upR_22, upR_self, upR_ne, va_up_self, va_up_ne, Nat.reduceAdd, Nat.reduceMul, Nat.reduceSub, Nat.reduceLT, Nat.reduceLeDiff, Nat.reduceEqDiff, Nat.reduceSubDiff, Nat.zero_add, cm3, cm5, cm7, cm8, cm25, Nat.not_lt_zero, Nat.zero_le, not_false_iff, and_self, imp_self, implies_true, forall_const, Nat.lt_irrefl, Nat.le_refl, and_imp, sh_0, sh_159, sh_1, sh_15, sh_44, sh_46, sh_48, sh_134, sh_136, sh_151, sh_156, e1, e2, e3, e4, e5, e6, a1, a2, a3, a4, a5, a6, c0, c1, c3, r0, r1, r3]
    exact hIv0.ask0 (Dn.up (Dn.refl σ) rfl) rfl
  rcases nx s2 10 with ⟨g1, g2, g3, g4, g5, g6⟩ | ⟨g1, g2, g3, g4, g5, g6, -⟩ | ⟨l, hl, rfl⟩
  · simp (disch := omega) only [f_X11_pickets, f_X12_pickets, f_X1_isEmpty, f_X12_areNights, f_X11_areNights, w_isIn, le_sub1, i64le, l64_0, l64_1, l64_2, l64_3, l64_5, l64_6, l64_7, l64_9, l64_12, l64_24, l64_48, l64_99, wp_gd, wp_bnd, wp_let, wp_jn0, wp_jn1, wp_jn2, wp_if, wp_ret, wp_rdI, wp_rdL, v_rdR, v_ldI, v_ldL, v_ldR, v_stI, v_stB, v_stZ, v_stL, wp_wrI, wp_wrL, wp_wrR, wp_wrZ, wp_retZ, v_md, v_dv, v_tb, upI_2, true_and, and_true, Nat.add_sub_cancel, Nat.zero_lt_succ, Nat.succ_pos, okN, clN, L0, L1, L2, L3, L4, L5, L6, L7, L8, L9, L10, L11, L12, L13, L14, L15, L16, L17, L18, L19, L20, L21, L22, L23, L24, L25, L26, L27, L28, L29, L30, L31, L32, L33, L34, L35, L36, L37, L38, L39, L40, L41, L42, L43, L44, L45, L46, L47, L48, L49, L50, L51, L52, L53, L54, L55, L56, L57, L58, L59, L60, L61, L62, L63, L64, L65, L66, L67, L68, L69, L70, L71, L72, L73, L74, L75, L76, L77, L78, L79, L80, L81, L82, L83, L84, L85, L86, L87, L88, L89, L90, L91, L92, L93, L94, L95, L96, L97, L98, L99, L100, L101, L102, L103, L104, L105, L106, L107, L108, L109, L110, L111, L112, L113, L114, L115, L116, L117, L118, L119, L120, L121, L122, L123, L124, L125, L126, L127, L128, L129, L130, L131, L200, L240, L255, L260, L1000, L4096, L10140, L1000000, ng1, mI_lt, mI_le, lt_mI, le_mI, eq_mI, mI_eq, mI_mI, mI_mE, nI_add, pk_mul, pk_sub, pk_rem, sa_minN, sa_maxN, ne_eq, nI_leI, nI_ltI, nI_eq, dT_le, dF_le, dT_lt, dF_lt, dT_eq, dF_eq, true_imp_iff, false_imp_iff, not_true_eq_false, not_false_eq_true, false_or, or_false, true_or, or_true, false_and, and_false, Decidable.not_not, reduceIte, if_true, if_false, upI_self, upI_ne, upL_1, upL_21, upL_self, upL_ne, upR_1, upR_22, upR_self, upR_ne, va_up_self, va_up_ne, Nat.reduceAdd, Nat.reduceMul, Nat.reduceSub, Nat.reduceLT, Nat.reduceLeDiff, Nat.reduceEqDiff, Nat.reduceSubDiff, Nat.zero_add, cm3, cm5, cm7, cm8, cm25, Nat.not_lt_zero, Nat.zero_le, not_false_iff, and_self, imp_self, implies_true, forall_const, Nat.lt_irrefl, Nat.le_refl, and_imp, sh_0, sh_159, sh_1, sh_15, sh_44, sh_46, sh_48, sh_134, sh_136, sh_151, sh_156, e1, e2, e3, e4, e5, e6, a1, a2, a3, a4, a5, a6, c0, c1, c3, r0, r1, r3, g1, g2, g3, g4, g5, g6]
    exact hIv0.ask0 (Dn.up (Dn.refl σ) rfl) rfl
  · simp (disch := omega) only [f_X11_pickets, f_X12_pickets, f_X1_isEmpty, f_X12_areNights, f_X11_areNights, w_isIn, le_sub1, i64le, l64_0, l64_1, l64_2, l64_3, l64_5, l64_6, l64_7, l64_9, l64_12, l64_24, l64_48, l64_99, wp_gd, wp_bnd, wp_let, wp_jn0, wp_jn1, wp_jn2, wp_if, wp_ret, wp_rdI, wp_rdL, v_rdR, v_ldI, v_ldL, v_ldR, v_stI, v_stB, v_stZ, v_stL, wp_wrI, wp_wrL, wp_wrR, wp_wrZ, wp_retZ, v_md, v_dv, v_tb, upI_2, true_and, and_true, Nat.add_sub_cancel, Nat.zero_lt_succ, Nat.succ_pos, okN, clN, L0, L1, L2, L3, L4, L5, L6, L7, L8, L9, L10, L11, L12, L13, L14, L15, L16, L17, L18, L19, L20, L21, L22, L23, L24, L25, L26, L27, L28, L29, L30, L31, L32, L33, L34, L35, L36, L37, L38, L39, L40, L41, L42, L43, L44, L45, L46, L47, L48, L49, L50, L51, L52, L53, L54, L55, L56, L57, L58, L59, L60, L61, L62, L63, L64, L65, L66, L67, L68, L69, L70, L71, L72, L73, L74, L75, L76, L77, L78, L79, L80, L81, L82, L83, L84, L85, L86, L87, L88, L89, L90, L91, L92, L93, L94, L95, L96, L97, L98, L99, L100, L101, L102, L103, L104, L105, L106, L107, L108, L109, L110, L111, L112, L113, L114, L115, L116, L117, L118, L119, L120, L121, L122, L123, L124, L125, L126, L127, L128, L129, L130, L131, L200, L240, L255, L260, L1000, L4096, L10140, L1000000, ng1, mI_lt, mI_le, lt_mI, le_mI, eq_mI, mI_eq, mI_mI, mI_mE, nI_add, pk_mul, pk_sub, pk_rem, sa_minN, sa_maxN, ne_eq, nI_leI, nI_ltI, nI_eq, dT_le, dF_le, dT_lt, dF_lt, dT_eq, dF_eq, true_imp_iff, false_imp_iff, not_true_eq_false, not_false_eq_true, false_or, or_false, true_or, or_true, false_and, and_false, Decidable.not_not, reduceIte, if_true, if_false, upI_self, upI_ne, upL_1, upL_21, upL_self, upL_ne, upR_1, upR_22, upR_self, upR_ne, va_up_self, va_up_ne, Nat.reduceAdd, Nat.reduceMul, Nat.reduceSub, Nat.reduceLT, Nat.reduceLeDiff, Nat.reduceEqDiff, Nat.reduceSubDiff, Nat.zero_add, cm3, cm5, cm7, cm8, cm25, Nat.not_lt_zero, Nat.zero_le, not_false_iff, and_self, imp_self, implies_true, forall_const, Nat.lt_irrefl, Nat.le_refl, and_imp, sh_0, sh_159, sh_1, sh_15, sh_44, sh_46, sh_48, sh_134, sh_136, sh_151, sh_156, e1, e2, e3, e4, e5, e6, a1, a2, a3, a4, a5, a6, c0, c1, c3, r0, r1, r3, g1, g2, g3, g4, g5, g6]
    exact hIv0.ask0 (Dn.up (Dn.refl σ) rfl) rfl
  rcases Nat.eq_zero_or_pos l with rfl | hl0
  · simp (disch := omega) only [f_X11_pickets, f_X12_pickets, f_X1_isEmpty, f_X12_areNights, f_X11_areNights, w_isIn, le_sub1, i64le, l64_0, l64_1, l64_2, l64_3, l64_5, l64_6, l64_7, l64_9, l64_12, l64_24, l64_48, l64_99, wp_gd, wp_bnd, wp_let, wp_jn0, wp_jn1, wp_jn2, wp_if, wp_ret, wp_rdI, wp_rdL, v_rdR, v_ldI, v_ldL, v_ldR, v_stI, v_stB, v_stZ, v_stL, wp_wrI, wp_wrL, wp_wrR, wp_wrZ, wp_retZ, v_md, v_dv, v_tb, upI_2, true_and, and_true, Nat.add_sub_cancel, Nat.zero_lt_succ, Nat.succ_pos, okN, clN, L0, L1, L2, L3, L4, L5, L6, L7, L8, L9, L10, L11, L12, L13, L14, L15, L16, L17, L18, L19, L20, L21, L22, L23, L24, L25, L26, L27, L28, L29, L30, L31, L32, L33, L34, L35, L36, L37, L38, L39, L40, L41, L42, L43, L44, L45, L46, L47, L48, L49, L50, L51, L52, L53, L54, L55, L56, L57, L58, L59, L60, L61, L62, L63, L64, L65, L66, L67, L68, L69, L70, L71, L72, L73, L74, L75, L76, L77, L78, L79, L80, L81, L82, L83, L84, L85, L86, L87, L88, L89, L90, L91, L92, L93, L94, L95, L96, L97, L98, L99, L100, L101, L102, L103, L104, L105, L106, L107, L108, L109, L110, L111, L112, L113, L114, L115, L116, L117, L118, L119, L120, L121, L122, L123, L124, L125, L126, L127, L128, L129, L130, L131, L200, L240, L255, L260, L1000, L4096, L10140, L1000000, ng1, mI_lt, mI_le, lt_mI, le_mI, eq_mI, mI_eq, mI_mI, mI_mE, nI_add, pk_mul, pk_sub, pk_rem, sa_minN, sa_maxN, ne_eq, nI_leI, nI_ltI, nI_eq, dT_le, dF_le, dT_lt, dF_lt, dT_eq, dF_eq, true_imp_iff, false_imp_iff, not_true_eq_false, not_false_eq_true, false_or, or_false, true_or, or_true, false_and, and_false, Decidable.not_not, reduceIte, if_true, if_false, upI_self, upI_ne, upL_1, upL_21, upL_self, upL_ne, upR_1, upR_22, upR_self, upR_ne, va_up_self, va_up_ne, Nat.reduceAdd, Nat.reduceMul, Nat.reduceSub, Nat.reduceLT, Nat.reduceLeDiff, Nat.reduceEqDiff, Nat.reduceSubDiff, Nat.zero_add, cm3, cm5, cm7, cm8, cm25, Nat.not_lt_zero, Nat.zero_le, not_false_iff, and_self, imp_self, implies_true, forall_const, Nat.lt_irrefl, Nat.le_refl, and_imp, sh_0, sh_159, sh_1, sh_15, sh_44, sh_46, sh_48, sh_134, sh_136, sh_151, sh_156, e1, e2, e3, e4, e5, e6, a1, a2, a3, a4, a5, a6, c0, c1, c3, r0, r1, r3]
    exact hIv0.ask0 (Dn.up (Dn.refl σ) rfl) rfl
  rcases nx s3 100 with ⟨g1, g2, g3, g4, g5, g6⟩ | ⟨g1, g2, g3, g4, g5, g6, -⟩ | ⟨b, hb, rfl⟩
  · simp (disch := omega) only [f_X11_pickets, f_X12_pickets, f_X1_isEmpty, f_X12_areNights, f_X11_areNights, w_isIn, le_sub1, i64le, l64_0, l64_1, l64_2, l64_3, l64_5, l64_6, l64_7, l64_9, l64_12, l64_24, l64_48, l64_99, wp_gd, wp_bnd, wp_let, wp_jn0, wp_jn1, wp_jn2, wp_if, wp_ret, wp_rdI, wp_rdL, v_rdR, v_ldI, v_ldL, v_ldR, v_stI, v_stB, v_stZ, v_stL, wp_wrI, wp_wrL, wp_wrR, wp_wrZ, wp_retZ, v_md, v_dv, v_tb, upI_2, true_and, and_true, Nat.add_sub_cancel, Nat.zero_lt_succ, Nat.succ_pos, okN, clN, L0, L1, L2, L3, L4, L5, L6, L7, L8, L9, L10, L11, L12, L13, L14, L15, L16, L17, L18, L19, L20, L21, L22, L23, L24, L25, L26, L27, L28, L29, L30, L31, L32, L33, L34, L35, L36, L37, L38, L39, L40, L41, L42, L43, L44, L45, L46, L47, L48, L49, L50, L51, L52, L53, L54, L55, L56, L57, L58, L59, L60, L61, L62, L63, L64, L65, L66, L67, L68, L69, L70, L71, L72, L73, L74, L75, L76, L77, L78, L79, L80, L81, L82, L83, L84, L85, L86, L87, L88, L89, L90, L91, L92, L93, L94, L95, L96, L97, L98, L99, L100, L101, L102, L103, L104, L105, L106, L107, L108, L109, L110, L111, L112, L113, L114, L115, L116, L117, L118, L119, L120, L121, L122, L123, L124, L125, L126, L127, L128, L129, L130, L131, L200, L240, L255, L260, L1000, L4096, L10140, L1000000, ng1, mI_lt, mI_le, lt_mI, le_mI, eq_mI, mI_eq, mI_mI, mI_mE, nI_add, pk_mul, pk_sub, pk_rem, sa_minN, sa_maxN, ne_eq, nI_leI, nI_ltI, nI_eq, dT_le, dF_le, dT_lt, dF_lt, dT_eq, dF_eq, true_imp_iff, false_imp_iff, not_true_eq_false, not_false_eq_true, false_or, or_false, true_or, or_true, false_and, and_false, Decidable.not_not, reduceIte, if_true, if_false, upI_self, upI_ne, upL_1, upL_21, upL_self, upL_ne, upR_1, upR_22, upR_self, upR_ne, va_up_self, va_up_ne, Nat.reduceAdd, Nat.reduceMul, Nat.reduceSub, Nat.reduceLT, Nat.reduceLeDiff, Nat.reduceEqDiff, Nat.reduceSubDiff, Nat.zero_add, cm3, cm5, cm7, cm8, cm25, Nat.not_lt_zero, Nat.zero_le, not_false_iff, and_self, imp_self, implies_true, forall_const, Nat.lt_irrefl, Nat.le_refl, and_imp, sh_0, sh_159, sh_1, sh_15, sh_44, sh_46, sh_48, sh_134, sh_136, sh_151, sh_156, e1, e2, e3, e4, e5, e6, a1, a2, a3, a4, a5, a6, c0, c1, c3, r0, r1, r3, g1, g2, g3, g4, g5, g6]
    exact hIv0.ask0 (Dn.up (Dn.refl σ) rfl) rfl
  · simp (disch := omega) only [f_X11_pickets, f_X12_pickets, f_X1_isEmpty, f_X12_areNights, f_X11_areNights, w_isIn, le_sub1, i64le, l64_0, l64_1, l64_2, l64_3, l64_5, l64_6, l64_7, l64_9, l64_12, l64_24, l64_48, l64_99, wp_gd, wp_bnd, wp_let, wp_jn0, wp_jn1, wp_jn2, wp_if, wp_ret, wp_rdI, wp_rdL, v_rdR, v_ldI, v_ldL, v_ldR, v_stI, v_stB, v_stZ, v_stL, wp_wrI, wp_wrL, wp_wrR, wp_wrZ, wp_retZ, v_md, v_dv, v_tb, upI_2, true_and, and_true, Nat.add_sub_cancel, Nat.zero_lt_succ, Nat.succ_pos, okN, clN, L0, L1, L2, L3, L4, L5, L6, L7, L8, L9, L10, L11, L12, L13, L14, L15, L16, L17, L18, L19, L20, L21, L22, L23, L24, L25, L26, L27, L28, L29, L30, L31, L32, L33, L34, L35, L36, L37, L38, L39, L40, L41, L42, L43, L44, L45, L46, L47, L48, L49, L50, L51, L52, L53, L54, L55, L56, L57, L58, L59, L60, L61, L62, L63, L64, L65, L66, L67, L68, L69, L70, L71, L72, L73, L74, L75, L76, L77, L78, L79, L80, L81, L82, L83, L84, L85, L86, L87, L88, L89, L90, L91, L92, L93, L94, L95, L96, L97, L98, L99, L100, L101, L102, L103, L104, L105, L106, L107, L108, L109, L110, L111, L112, L113, L114, L115, L116, L117, L118, L119, L120, L121, L122, L123, L124, L125, L126, L127, L128, L129, L130, L131, L200, L240, L255, L260, L1000, L4096, L10140, L1000000, ng1, mI_lt, mI_le, lt_mI, le_mI, eq_mI, mI_eq, mI_mI, mI_mE, nI_add, pk_mul, pk_sub, pk_rem, sa_minN, sa_maxN, ne_eq, nI_leI, nI_ltI, nI_eq, dT_le, dF_le, dT_lt, dF_lt, dT_eq, dF_eq, true_imp_iff, false_imp_iff, not_true_eq_false, not_false_eq_true, false_or, or_false, true_or, or_true, false_and, and_false, Decidable.not_not, reduceIte, if_true, if_false, upI_self, upI_ne, upL_1, upL_21, upL_self, upL_ne, upR_1, upR_22, upR_self, upR_ne, va_up_self, va_up_ne, Nat.reduceAdd, Nat.reduceMul, Nat.reduceSub, Nat.reduceLT, Nat.reduceLeDiff, Nat.reduceEqDiff, Nat.reduceSubDiff, Nat.zero_add, cm3, cm5, cm7, cm8, cm25, Nat.not_lt_zero, Nat.zero_le, not_false_iff, and_self, imp_self, implies_true, forall_const, Nat.lt_irrefl, Nat.le_refl, and_imp, sh_0, sh_159, sh_1, sh_15, sh_44, sh_46, sh_48, sh_134, sh_136, sh_151, sh_156, e1, e2, e3, e4, e5, e6, a1, a2, a3, a4, a5, a6, c0, c1, c3, r0, r1, r3, g1, g2, g3, g4, g5, g6]
    exact hIv0.ask0 (Dn.up (Dn.refl σ) rfl) rfl
  by_cases hi : mI ≤ s4
  · exact pick_main hIv0 hP0 ⟨hl0, by omega⟩ (by omega) ⟨hN0, by omega⟩ hi
  · simp (disch := omega) only [f_X11_pickets, f_X12_pickets, f_X1_isEmpty, f_X12_areNights, f_X11_areNights, w_isIn, le_sub1, i64le, l64_0, l64_1, l64_2, l64_3, l64_5, l64_6, l64_7, l64_9, l64_12, l64_24, l64_48, l64_99, wp_gd, wp_bnd, wp_let, wp_jn0, wp_jn1, wp_jn2, wp_if, wp_ret, wp_rdI, wp_rdL, v_rdR, v_ldI, v_ldL, v_ldR, v_stI, v_stB, v_stZ, v_stL, wp_wrI, wp_wrL, wp_wrR, wp_wrZ, wp_retZ, v_md, v_dv, v_tb, upI_2, true_and, and_true, Nat.add_sub_cancel, Nat.zero_lt_succ, Nat.succ_pos, okN, clN, L0, L1, L2, L3, L4, L5, L6, L7, L8, L9, L10, L11, L12, L13, L14, L15, L16, L17, L18, L19, L20, L21, L22, L23, L24, L25, L26, L27, L28, L29, L30, L31, L32, L33, L34, L35, L36, L37, L38, L39, L40, L41, L42, L43, L44, L45, L46, L47, L48, L49, L50, L51, L52, L53, L54, L55, L56, L57, L58, L59, L60, L61, L62, L63, L64, L65, L66, L67, L68, L69, L70, L71, L72, L73, L74, L75, L76, L77, L78, L79, L80, L81, L82, L83, L84, L85, L86, L87, L88, L89, L90, L91, L92, L93, L94, L95, L96, L97, L98, L99, L100, L101, L102, L103, L104, L105, L106, L107, L108, L109, L110, L111, L112, L113, L114, L115, L116, L117, L118, L119, L120, L121, L122, L123, L124, L125, L126, L127, L128, L129, L130, L131, L200, L240, L255, L260, L1000, L4096, L10140, L1000000, ng1, mI_lt, mI_le, lt_mI, le_mI, eq_mI, mI_eq, mI_mI, mI_mE, nI_add, pk_mul, pk_sub, pk_rem, sa_minN, sa_maxN, ne_eq, nI_leI, nI_ltI, nI_eq, dT_le, dF_le, dT_lt, dF_lt, dT_eq, dF_eq, true_imp_iff, false_imp_iff, not_true_eq_false, not_false_eq_true, false_or, or_false, true_or, or_true, false_and, and_false, Decidable.not_not, reduceIte, if_true, if_false, upI_self, upI_ne, upL_1, upL_21, upL_self, upL_ne, upR_1, upR_22, upR_self, upR_ne, va_up_self, va_up_ne, Nat.reduceAdd, Nat.reduceMul, Nat.reduceSub, Nat.reduceLT, Nat.reduceLeDiff, Nat.reduceEqDiff, Nat.reduceSubDiff, Nat.zero_add, cm3, cm5, cm7, cm8, cm25, Nat.not_lt_zero, Nat.zero_le, not_false_iff, and_self, imp_self, implies_true, forall_const, Nat.lt_irrefl, Nat.le_refl, and_imp, sh_0, sh_159, sh_1, sh_15, sh_44, sh_46, sh_48, sh_134, sh_136, sh_151, sh_156, e1, e2, e3, e4, e5, e6, a1, a2, a3, a4, a5, a6, c0, c1, c3, r0, r1, r3, hi]
    exact hIv0.ask0 (Dn.up (Dn.refl σ) rfl) rfl
end LC26
