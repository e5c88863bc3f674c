/-! JOURNEYS: the best of a sort -/
theorem bst_some {bt : List Nat → List Nat → Bool} : ∀ (rs : List (List Nat)) (o : List Nat), ∃ q, rs.foldl (bst bt) (some o) = some q := by
  intro rs
  induction rs with
  | nil => intro o; exact ⟨o, rfl⟩
  | cons x rs ih =>
    intro o
    rw [List.foldl_cons]
    have : bst bt (some o) x = if bt x o then some x else some o := rfl
    rw [this]
    split
    · exact ih x
    · exact ih o
theorem bstL_iff {bt : List Nat → List Nat → Bool} (rs : List (List Nat)) : (0 < rs.length ∧ ∃ q, bstL bt rs = some q) ∨ (rs.length = 0 ∧ bstL bt rs = none) := by
  cases rs with
  | nil => exact Or.inr ⟨rfl, rfl⟩
  | cons x rs => exact Or.inl ⟨by simp, bst_some rs x⟩
section BESTJ
variable {k L P W F n : Nat} {f : Nat → LWt} {σ : sa_St} {ns c a0 to g wr md h0 : Nat} {wl : Nat → Int32}
theorem c_fjN {s1 s2 : Int32} {Q : Int32 → sa_St → Prop} (hk : SK σ.2.1) (hL : LandI σ.2.1 L) (hN : JN L P σ wl s1 s2) (hQ : Q 0 (sa_upI σ 136 3 0)) : wp (f_X11_findsJourney 0 s1 s2) σ Q := by
  have hLD := LD.of hk hL
  unfold f_X11_findsJourney
  rw [wp_gd]
  refine ⟨rfl, ?_⟩
  rw [wp_bnd, wp_rdR (v := 136) rfl (sk_0_10 hk), wp_bnd, wp_rdR (v := L) rfl hLD.1.1, wp_bnd, wp_rdR (v := 44) rfl (sk_0_6 hk), wp_bnd]
  refine hN.1 _ ?_
  rw [wp_jn1, wp_jn0, wp_if]
  refine ⟨fun _ => ?_, fun q => absurd rfl q⟩
  rw [wp_retZ]
  exact ⟨Or.inl rfl, hQ⟩
theorem c_fjY {Q : Int32 → sa_St → Prop} (hJ : JY k L P W F n f σ ns c a0 to g wr md h0 wl) (hQ : ∀ τ, Dn [0] σ τ → τ.2.2 175 = σ.2.2 175 → TV L P W F n f (σ.1 (L + 2)) (σ.1 15 3) (skF σ ns) wr md h0 τ → TR (jrs P W (σ.1 (L + 2)) a0 to) τ → WKC W (σ.1 (L + 2)) (cnS (σ.1 (L + 2)) (skF σ ns)) (lsS f (σ.1 15 3) (σ.1 (L + 2)) wr md h0) (jrs P W (σ.1 (L + 2)) a0 to) (st0 g, 0) τ → τ.1 139 0 = nI a0 → τ.1 136 5 = nI g → Q (nI (if 0 < (jrs P W (σ.1 (L + 2)) a0 to).length then 1 else 0)) τ) : wp (f_X11_findsJourney 0 (nI c) (nI to)) σ Q := by
  have hk := hJ.1.1.1
  have hLD := LD.of hk hJ.1.1.2.1
  unfold f_X11_findsJourney
  rw [wp_gd]
  refine ⟨rfl, ?_⟩
  rw [wp_bnd, wp_rdR (v := 136) rfl (sk_0_10 hk), wp_bnd, wp_rdR (v := L) rfl hLD.1.1, wp_bnd, wp_rdR (v := 44) rfl (sk_0_6 hk), wp_bnd]
  refine c_findJ hJ (fun τ K hm hT hTR hWK h139 h5 => ?_)
  have hq := hQ τ K hm hT hTR hWK h139 h5
  have h200 := hTR.2.1
  rw [wp_jn1, wp_jn0, wp_if]
  refine ⟨fun q => absurd q (by decide), fun _ => ?_⟩
  rw [wp_bnd, wp_rdR (v := 136) rfl (by rw [K.1 0 10 (by omega) (by omega)]; exact sk_0_10 hk), wp_bnd, wp_rdI, hTR.1]
  refine ⟨rfl, ?_⟩
  rw [wp_if]
  refine ⟨fun q => ?_, fun q => ?_⟩
  · have q' : ¬ 0 < (jrs P W (σ.1 (L + 2)) a0 to).length := by
      rw [L0, nI_leI (by omega) (by omega)] at q
      omega
    rw [if_neg q'] at hq
    rw [wp_retZ]
    exact ⟨Or.inl rfl, hq⟩
  · have q' : 0 < (jrs P W (σ.1 (L + 2)) a0 to).length := by
      rw [L0, nI_leI (by omega) (by omega)] at q
      omega
    rw [if_pos q'] at hq
    rw [wp_retZ]
    exact ⟨Or.inr rfl, hq⟩
theorem e_hid {rs : List (List Nat)} {row i : Nat} {q : List Nat} (hk : SK σ.2.1) (hr : TR rs σ) (hq : rs[row]? = some q) (h8 : q.length ≤ 8) (hi : i < 2 ^ 31) : f_X9_placeOrHidden 136 (nI row) (nI i) σ = some (if i < q.length then nI (q.getD i 0) else -1000000, σ) := by
  have hl := lt_of_some hq
  have hr2 := hr.2.1
  have key : ∀ Q : Int32 → sa_St → Prop, Q (if i < q.length then nI (q.getD i 0) else -1000000) σ → wp (f_X9_placeOrHidden 136 (nI row) (nI i)) σ Q := by
    intro Q hQ
    unfold f_X9_placeOrHidden
    rw [wp_gd]
    refine ⟨rfl, ?_⟩
    rw [wp_jn1, wp_jn0, wp_if]
    refine ⟨fun q => absurd q (nI_pos hi), fun _ => ?_⟩
    rw [wp_bnd, wp_rdR (v := 138) rfl (sk_136_11 hk), wp_bnd, wp_ldI (n := row) (len := 200) al_138 rfl (by omega) (by omega), (hr.2.2 row q hq).1, wp_if, nI_leI (by omega) hi]
    refine ⟨fun h => ?_, fun h => ?_⟩
    · rw [wp_ret]
      rw [if_neg (by omega)] at hQ
      exact hQ
    · rw [wp_bnd, wp_of_eq (e_pOf hk hr hq (by omega) h8), wp_ret]
      rw [if_pos (by omega)] at hQ
      exact hQ
  exact run_of (key _ ⟨rfl, rfl⟩)
theorem FW.k10 {τ υ : sa_St} (K : Dn [0] σ τ) (hf : FW τ υ) (hk : SK σ.2.1) : υ.2.1 0 10 = 137 := by rw [hf.1, K.1 0 10 (by omega) (by omega)]; exact sk_0_10 hk
end BESTJ
theorem lc22 (k : Nat) (hk512 : k ≤ 512) : lc_22 (Inv k) (Inv (k + 1)) := by
  intro σ s1 s2 s3 s4 hI
  refine lco ?_
  obtain ⟨L, P, W, F, n, f, hIv0⟩ := Iv.of hI
  have hk := hIv0.1
  have P8 := hIv0.cx.zr.1.1
  have hz := hIv0.cx.zr
  rcases nx s3 3 with ⟨g1, g2, g3, g4, g5, g6⟩ | ⟨g1, g2, g3, g4, g5, g6, -⟩ | ⟨s, hs, rfl⟩
  · simp (disch := omega) only [f_X11_best, f_X12_best, w_isIn, le_sub1, i64le, l64_0, l64_1, l64_2, l64_3, l64_5, l64_6, l64_7, l64_9, l64_12, l64_24, l64_48, l64_99, wp_gd, wp_bnd, wp_let, wp_jn0, wp_jn1, wp_jn2, wp_if, wp_ret, wp_rdI, wp_rdL, v_rdR, v_ldI, v_ldL, v_ldR, v_stI, v_stB, v_stZ, v_stL, wp_wrI, wp_wrL, wp_wrR, wp_wrZ, wp_retZ, v_md, v_dv, v_tb, upI_2, true_and, and_true, Nat.add_sub_cancel, Nat.zero_lt_succ, Nat.succ_pos, okN, clN, L0, L1, L2, L3, L4, L5, L6, L7, L8, L9, L10, L11, L12, L13, L14, L15, L16, L17, L18, L19, L20, L21, L22, L23, L24, L25, L26, L27, L28, L29, L30, L31, L32, L33, L34, L35, L36, L37, L38, L39, L40, L41, L42, L43, L44, L45, L46, L47, L48, L49, L50, L51, L52, L53, L54, L55, L56, L57, L58, L59, L60, L61, L62, L63, L64, L65, L66, L67, L68, L69, L70, L71, L72, L73, L74, L75, L76, L77, L78, L79, L80, L81, L82, L83, L84, L85, L86, L87, L88, L89, L90, L91, L92, L93, L94, L95, L96, L97, L98, L99, L100, L101, L102, L103, L104, L105, L106, L107, L108, L109, L110, L111, L112, L113, L114, L115, L116, L117, L118, L119, L120, L121, L122, L123, L124, L125, L126, L127, L128, L129, L130, L131, L200, L240, L255, L260, L1000, L4096, L10140, L1000000, ng1, mI_lt, mI_le, lt_mI, le_mI, eq_mI, mI_eq, mI_mI, mI_mE, nI_add, pk_mul, pk_sub, pk_rem, sa_minN, sa_maxN, ne_eq, nI_leI, nI_ltI, nI_eq, dT_le, dF_le, dT_lt, dF_lt, dT_eq, dF_eq, true_imp_iff, false_imp_iff, not_true_eq_false, not_false_eq_true, false_or, or_false, true_or, or_true, false_and, and_false, Decidable.not_not, reduceIte, if_true, if_false, upI_self, upI_ne, upL_1, upL_21, upL_self, upL_ne, upR_1, upR_22, upR_self, upR_ne, va_up_self, va_up_ne, Nat.reduceAdd, Nat.reduceMul, Nat.reduceSub, Nat.reduceLT, Nat.reduceLeDiff, Nat.reduceEqDiff, Nat.reduceSubDiff, Nat.zero_add, cm3, cm5, cm7, cm8, cm25, Nat.not_lt_zero, Nat.zero_le, not_false_iff, and_self, imp_self, implies_true, forall_const, Nat.lt_irrefl, Nat.le_refl, and_imp, sh_0, sh_159, sh_1, sh_15, sh_44, sh_46, sh_48, sh_134, sh_136, sh_151, sh_156, g1, g2, g3, g4, g5, g6]
    exact hIv0.ask0 (Dn.up (Dn.refl σ) rfl) rfl
  · simp (disch := omega) only [f_X11_best, f_X12_best, w_isIn, le_sub1, i64le, l64_0, l64_1, l64_2, l64_3, l64_5, l64_6, l64_7, l64_9, l64_12, l64_24, l64_48, l64_99, wp_gd, wp_bnd, wp_let, wp_jn0, wp_jn1, wp_jn2, wp_if, wp_ret, wp_rdI, wp_rdL, v_rdR, v_ldI, v_ldL, v_ldR, v_stI, v_stB, v_stZ, v_stL, wp_wrI, wp_wrL, wp_wrR, wp_wrZ, wp_retZ, v_md, v_dv, v_tb, upI_2, true_and, and_true, Nat.add_sub_cancel, Nat.zero_lt_succ, Nat.succ_pos, okN, clN, L0, L1, L2, L3, L4, L5, L6, L7, L8, L9, L10, L11, L12, L13, L14, L15, L16, L17, L18, L19, L20, L21, L22, L23, L24, L25, L26, L27, L28, L29, L30, L31, L32, L33, L34, L35, L36, L37, L38, L39, L40, L41, L42, L43, L44, L45, L46, L47, L48, L49, L50, L51, L52, L53, L54, L55, L56, L57, L58, L59, L60, L61, L62, L63, L64, L65, L66, L67, L68, L69, L70, L71, L72, L73, L74, L75, L76, L77, L78, L79, L80, L81, L82, L83, L84, L85, L86, L87, L88, L89, L90, L91, L92, L93, L94, L95, L96, L97, L98, L99, L100, L101, L102, L103, L104, L105, L106, L107, L108, L109, L110, L111, L112, L113, L114, L115, L116, L117, L118, L119, L120, L121, L122, L123, L124, L125, L126, L127, L128, L129, L130, L131, L200, L240, L255, L260, L1000, L4096, L10140, L1000000, ng1, mI_lt, mI_le, lt_mI, le_mI, eq_mI, mI_eq, mI_mI, mI_mE, nI_add, pk_mul, pk_sub, pk_rem, sa_minN, sa_maxN, ne_eq, nI_leI, nI_ltI, nI_eq, dT_le, dF_le, dT_lt, dF_lt, dT_eq, dF_eq, true_imp_iff, false_imp_iff, not_true_eq_false, not_false_eq_true, false_or, or_false, true_or, or_true, false_and, and_false, Decidable.not_not, reduceIte, if_true, if_false, upI_self, upI_ne, upL_1, upL_21, upL_self, upL_ne, upR_1, upR_22, upR_self, upR_ne, va_up_self, va_up_ne, Nat.reduceAdd, Nat.reduceMul, Nat.reduceSub, Nat.reduceLT, Nat.reduceLeDiff, Nat.reduceEqDiff, Nat.reduceSubDiff, Nat.zero_add, cm3, cm5, cm7, cm8, cm25, Nat.not_lt_zero, Nat.zero_le, not_false_iff, and_self, imp_self, implies_true, forall_const, Nat.lt_irrefl, Nat.le_refl, and_imp, sh_0, sh_159, sh_1, sh_15, sh_44, sh_46, sh_48, sh_134, sh_136, sh_151, sh_156, g1, g2, g3, g4, g5, g6]
    exact hIv0.ask0 (Dn.up (Dn.refl σ) rfl) rfl
  by_cases h4 : s4 < 0
  · have h4' : (s4 < nI 0) = True := eq_true h4
    simp (disch := omega) only [f_X11_best, f_X12_best, w_isIn, le_sub1, i64le, l64_0, l64_1, l64_2, l64_3, l64_5, l64_6, l64_7, l64_9, l64_12, l64_24, l64_48, l64_99, wp_gd, wp_bnd, wp_let, wp_jn0, wp_jn1, wp_jn2, wp_if, wp_ret, wp_rdI, wp_rdL, v_rdR, v_ldI, v_ldL, v_ldR, v_stI, v_stB, v_stZ, v_stL, wp_wrI, wp_wrL, wp_wrR, wp_wrZ, wp_retZ, v_md, v_dv, v_tb, upI_2, true_and, and_true, Nat.add_sub_cancel, Nat.zero_lt_succ, Nat.succ_pos, okN, clN, L0, L1, L2, L3, L4, L5, L6, L7, L8, L9, L10, L11, L12, L13, L14, L15, L16, L17, L18, L19, L20, L21, L22, L23, L24, L25, L26, L27, L28, L29, L30, L31, L32, L33, L34, L35, L36, L37, L38, L39, L40, L41, L42, L43, L44, L45, L46, L47, L48, L49, L50, L51, L52, L53, L54, L55, L56, L57, L58, L59, L60, L61, L62, L63, L64, L65, L66, L67, L68, L69, L70, L71, L72, L73, L74, L75, L76, L77, L78, L79, L80, L81, L82, L83, L84, L85, L86, L87, L88, L89, L90, L91, L92, L93, L94, L95, L96, L97, L98, L99, L100, L101, L102, L103, L104, L105, L106, L107, L108, L109, L110, L111, L112, L113, L114, L115, L116, L117, L118, L119, L120, L121, L122, L123, L124, L125, L126, L127, L128, L129, L130, L131, L200, L240, L255, L260, L1000, L4096, L10140, L1000000, ng1, mI_lt, mI_le, lt_mI, le_mI, eq_mI, mI_eq, mI_mI, mI_mE, nI_add, pk_mul, pk_sub, pk_rem, sa_minN, sa_maxN, ne_eq, nI_leI, nI_ltI, nI_eq, dT_le, dF_le, dT_lt, dF_lt, dT_eq, dF_eq, true_imp_iff, false_imp_iff, not_true_eq_false, not_false_eq_true, false_or, or_false, true_or, or_true, false_and, and_false, Decidable.not_not, reduceIte, if_true, if_false, upI_self, upI_ne, upL_1, upL_21, upL_self, upL_ne, upR_1, upR_22, upR_self, upR_ne, va_up_self, va_up_ne, Nat.reduceAdd, Nat.reduceMul, Nat.reduceSub, Nat.reduceLT, Nat.reduceLeDiff, Nat.reduceEqDiff, Nat.reduceSubDiff, Nat.zero_add, cm3, cm5, cm7, cm8, cm25, Nat.not_lt_zero, Nat.zero_le, not_false_iff, and_self, imp_self, implies_true, forall_const, Nat.lt_irrefl, Nat.le_refl, and_imp, sh_0, sh_159, sh_1, sh_15, sh_44, sh_46, sh_48, sh_134, sh_136, sh_151, sh_156, h4']
    exact hIv0.ask0 (Dn.up (Dn.refl σ) rfl) rfl
  obtain ⟨w, hw31, rfl⟩ := nI_of h4
  obtain ⟨wl, hw, r0, hJ⟩ := j_cases hIv0 hk512 s1 s2
  have refTail : ∀ (τ : sa_St) (Q : Int32 → sa_St → Prop), wp (sa_bnd (f_X12_layBest 159 s1 s2 (nI s)) fun v2 =>
if ¬ v2 = 0 then
if ¬ nI w = 0 then
if ¬ nI w = 1 then
if ¬ nI w = 2 then
sa_bnd (sa_rdI 12 159 55) fun v3 =>
sa_jn1 (fun (y4 : Int32) =>
sa_ret (y4 : Int32)) fun j94 =>
if v3 ≤ (nI w - 3) then
j94 (-1000000)
else
sa_bnd (sa_rdR 12 159 52) fun v5 =>
sa_bnd (sa_ldI .int v5 (nI w - 3)) fun v6 =>
j94 v6
else
sa_bnd (sa_rdI 12 159 56) fun v7 =>
sa_ret (v7 : Int32)
else
sa_bnd (sa_rdI 12 159 58) fun v8 =>
sa_ret (v8 : Int32)
else
sa_bnd (sa_rdI 12 159 57) fun v9 =>
sa_ret (v9 : Int32)
else
sa_ret ((-1000000) : Int32)) (sa_upI τ 159 0 0) Q → wp (f_X12_best 159 s1 s2 (nI s) (nI w)) τ Q := by
    intro τ Q h
    unfold f_X12_best
    rw [wp_gd]
    refine ⟨rfl, ?_⟩
    rw [wp_bnd, wp_wrI]
    refine ⟨rfl, ?_⟩
    rw [wp_bnd, w_isIn]
    refine ⟨fun _ => ?_, fun q => absurd ?_ q⟩
    · rw [wp_jn0, wp_if]
      refine ⟨fun q => absurd q (by decide), fun _ => ?_⟩
      rw [wp_if]
      refine ⟨fun q => absurd q h4, fun _ => ?_⟩
      exact h
    · rw [l64_0, l64_2, i64le, i64le, nI_leI (by omega) (by omega), nI_leI (by omega) (by omega)]
      omega
  unfold f_X11_best
  rw [wp_gd]
  refine ⟨rfl, ?_⟩
  rw [wp_jn0, wp_if]
  refine ⟨fun q => absurd q (nI_pos (by omega)), fun _ => ?_⟩
  rw [wp_if]
  refine ⟨fun q => absurd q (nI_nlt (a := 2) (b := s) (by omega) (by omega)), fun _ => ?_⟩
  rw [wp_if]
  refine ⟨fun q => absurd q h4, fun _ => ?_⟩
  rw [wp_bnd]
  rcases hJ with hN | ⟨ns, c, a0, to, g, wr, md, h0, rfl, rfl, hY⟩
  · refine c_fjN hk hIv0.2.1 hN ?_
    rw [wp_if]
    refine ⟨fun q => absurd rfl q, fun _ => ?_⟩
    rw [wp_ret]
    refine refTail _ _ ?_
    rw [wp_bnd, wp_of_eq (hN.2.1 (sa_upI (sa_upI σ 136 3 0) 159 0 0) (nI s) hk (by rw [upI_ne (by omega), upI_ne (by omega)]; exact hw) (by rw [upI_self, va_up_ne _ _ (by omega), upI_ne (by omega)]; exact r0)), wp_if]
    refine ⟨fun q => absurd rfl q, fun _ => ?_⟩
    rw [wp_ret]
    exact ⟨rfl, hIv0.ask0 (Dn.up (Dn.up (Dn.refl σ) rfl) rfl) rfl⟩
  · refine c_fjY hY (fun τ K hm hT hTR hWK h139 h5 => ?_)
    obtain ⟨hV, hsk, hch, hgo, ⟨kg, g0, g99⟩, hat, ka, ha0, hto, hne⟩ := hY
    have hpt := jrs_pa (P := P) (W := W) (to := to) P8 (z := σ.1 (L + 2)) ha0
    have hs0 := st0_sum (g := g) (by omega)
    have lay : ∀ (υ : sa_St) (Q : Int32 → sa_St → Prop), Dn [0] σ υ → υ.2.2 175 = σ.2.2 175 → (∀ υ2, NF n f (sa_upI υ 159 0 0) υ2 → RB P W (σ.1 (L + 2)) (cnS (σ.1 (L + 2)) (skF σ ns)) (lsS f (σ.1 15 3) (σ.1 (L + 2)) wr md h0) (st0 g, 0) a0 to s ((pth P W (σ.1 (L + 2)) to 60 [a0] a0 (2 ^ a0)).length, bstL (btS W (σ.1 (L + 2)) (cnS (σ.1 (L + 2)) (skF σ ns)) (lsS f (σ.1 15 3) (σ.1 (L + 2)) wr md h0) (st0 g, 0) s) (jrs P W (σ.1 (L + 2)) a0 to)) υ2 → Inv (k + 1) υ2 → Q (nI (if (bstL (btS W (σ.1 (L + 2)) (cnS (σ.1 (L + 2)) (skF σ ns)) (lsS f (σ.1 15 3) (σ.1 (L + 2)) wr md h0) (st0 g, 0) s) (jrs P W (σ.1 (L + 2)) a0 to)).isSome then 1 else 0)) υ2) → wp (f_X12_layBest 159 (nI c) (nI to) (nI s)) (sa_upI υ 159 0 0) Q := fun υ Q K1 hm1 h => m_layB (hV.dn (K1.up rfl) hm1) hsk hgo kg (by omega) hat (by omega) hto ka ha0 hne (fun υ2 nf rb => h υ2 nf rb (j_fin hIv0 (K1.up rfl) nf))
    rcases bstL_iff (bt := btS W (σ.1 (L + 2)) (cnS (σ.1 (L + 2)) (skF σ ns)) (lsS f (σ.1 15 3) (σ.1 (L + 2)) wr md h0) (st0 g, 0) s) (jrs P W (σ.1 (L + 2)) a0 to) with ⟨hpos, qb, hqb⟩ | ⟨h0l, hnone⟩
    · rw [if_pos hpos, wp_if]
      refine ⟨fun _ => ?_, fun q => absurd (show ¬ nI 1 = 0 by decide) q⟩
      rw [hqb] at lay
      have k10 : τ.2.1 0 10 = 137 := by rw [K.1 0 10 (by omega) (by omega)]; exact sk_0_10 hk
      rw [wp_bnd, wp_rdR (v := 136) rfl k10, wp_bnd]
      refine c_best (s := s) (s0 := (st0 g, 0)) hT hTR hpt hs0 (by show 0 ≤ 12; omega) hWK (by omega) hpos (fun b qb' τ1 hb hbe fw1 hWK1 => ?_)
      rw [hqb] at hbe
      cases hbe
      have hT1 := hT.fw fw1
      have hTR1 := hTR.fw fw1
      have hpb := hpt b qb hb
      have q8 := hpb.2.1
      have q1 := hpb.1
      have K1 := K.trans fw1.dn
      have m1 : τ1.2.2 175 = σ.2.2 175 := (fw1.2.2.2 175 (by omega) (by omega)).trans hm
      have k10' := FW.k10 K fw1 hk
      have fin : ∀ (υ : sa_St) (v : Int32), FW τ1 υ → (∀ υ2, RB P W (σ.1 (L + 2)) (cnS (σ.1 (L + 2)) (skF σ ns)) (lsS f (σ.1 15 3) (σ.1 (L + 2)) wr md h0) (st0 g, 0) a0 to s ((pth P W (σ.1 (L + 2)) to 60 [a0] a0 (2 ^ a0)).length, some qb) υ2 → SK υ2.2.1 → wp (if ¬ nI w = 0 then if ¬ nI w = 1 then if ¬ nI w = 2 then sa_bnd (sa_rdI 12 159 55) fun v3 => sa_jn1 (fun (y4 : Int32) => sa_ret (y4 : Int32)) fun j94 => if v3 ≤ (nI w - 3) then j94 (-1000000) else sa_bnd (sa_rdR 12 159 52) fun v5 => sa_bnd (sa_ldI .int v5 (nI w - 3)) fun v6 => j94 v6 else sa_bnd (sa_rdI 12 159 56) fun v7 => sa_ret (v7 : Int32) else sa_bnd (sa_rdI 12 159 58) fun v8 => sa_ret (v8 : Int32) else sa_bnd (sa_rdI 12 159 57) fun v9 => sa_ret (v9 : Int32)) υ2 (fun r2 υ3 => r2 = v ∧ υ3 = υ2)) → wp (f_X12_best 159 (nI c) (nI to) (nI s) (nI w)) υ (fun r2 τ2 => r2 = v ∧ Inv (k + 1) τ2) := by
        intro υ v fw2 h
        refine refTail _ _ ?_
        rw [wp_bnd]
        refine lay υ _ (K1.trans fw2.dn) ((fw2.2.2.2 175 (by omega) (by omega)).trans m1) (fun υ2 nf rb hinv => ?_)
        rw [wp_if]
        refine ⟨fun _ => ?_, fun q => absurd (show ¬ nI 1 = 0 by decide) q⟩
        refine wp_mono (h υ2 rb (((hV.dn ((K1.trans fw2.dn).up rfl) ((fw2.2.2.2 175 (by omega) (by omega)).trans m1)).nf nf).1.1)) ?_
        rintro r2 υ3 ⟨rfl, rfl⟩
        exact ⟨rfl, hinv⟩
      rw [wp_if]
      refine ⟨fun e => ?_, fun e => ?_⟩
      · have w0 : w = 0 := by rw [L0, nI_eq hw31 (by omega)] at e; exact e
        subst w0
        rw [wp_bnd, wp_rdR (v := 136) rfl k10', wp_bnd]
        refine c_meanOf (s0 := (st0 g, 0)) hT1 hTR1 hpt hb hs0 (by show 0 ≤ 12; omega) hWK1 (fun υ x _ _ => ?_)
        rw [wp_ret]
        refine fin υ _ x.1 (fun υ2 rb hk2 => ?_)
        obtain ⟨-, -, -, -, -, h57, -⟩ := rb
        rw [wp_if]
        refine ⟨fun q => absurd (show nI 0 = 0 from rfl) q, fun _ => ?_⟩
        rw [wp_bnd, wp_rdI, h57, if_neg (by omega)]
        refine ⟨rfl, ?_⟩
        rw [wp_ret]
        exact ⟨rfl, rfl⟩
      · have w0 : w ≠ 0 := fun h => e (by rw [h]; rfl)
        rw [wp_if]
        refine ⟨fun e1 => ?_, fun e1 => ?_⟩
        · have w1 : w = 1 := by rw [L1, nI_eq hw31 (by omega)] at e1; exact e1
          subst w1
          rw [wp_bnd, wp_rdR (v := 136) rfl k10', wp_bnd]
          refine c_sureOf (s0 := (st0 g, 0)) hT1 hTR1 hpt hb hs0 (by show 0 ≤ 12; omega) hWK1 (fun υ x _ _ => ?_)
          rw [wp_ret]
          refine fin υ _ x (fun υ2 rb hk2 => ?_)
          obtain ⟨-, -, -, -, -, -, h58⟩ := rb
          rw [wp_if]
          refine ⟨fun _ => ?_, fun q => absurd (show ¬ nI 1 = 0 by decide) q⟩
          rw [wp_if]
          refine ⟨fun q => absurd (show nI 1 = 1 from rfl) q, fun _ => ?_⟩
          rw [wp_bnd, wp_rdI, h58 (by omega)]
          refine ⟨rfl, ?_⟩
          rw [wp_ret]
          exact ⟨rfl, rfl⟩
        · have w1 : w ≠ 1 := fun h => e1 (by rw [h]; rfl)
          rw [wp_if]
          refine ⟨fun e2 => ?_, fun e2 => ?_⟩
          · have w2 : w = 2 := by rw [L2, nI_eq hw31 (by omega)] at e2; exact e2
            subst w2
            rw [wp_bnd, wp_rdR (v := 136) rfl k10', wp_bnd, wp_of_eq (c_hoursOf hT1 hTR1 hpt hb), wp_ret]
            refine fin τ1 _ FW.rfl' (fun υ2 rb hk2 => ?_)
            obtain ⟨-, -, -, -, h56, -, -⟩ := rb
            rw [wp_if]
            refine ⟨fun _ => ?_, fun q => absurd (show ¬ nI 2 = 0 by decide) q⟩
            rw [wp_if]
            refine ⟨fun _ => ?_, fun q => absurd (show ¬ nI 2 = 1 by decide) q⟩
            rw [wp_if]
            refine ⟨fun q => absurd (show nI 2 = 2 from rfl) q, fun _ => ?_⟩
            rw [wp_bnd, wp_rdI, h56]
            refine ⟨rfl, ?_⟩
            rw [wp_ret]
            exact ⟨rfl, rfl⟩
          · have w2 : w ≠ 2 := fun h => e2 (by rw [h]; rfl)
            have ew : nI w - 3 = nI (w - 3) := pk_sub (a := w) (b := 3) (by omega)
            rw [ew, wp_bnd, wp_rdR (v := 136) rfl k10', wp_bnd, wp_of_eq (e_hid hT1.1.1 hTR1 hb q8 (by omega)), wp_ret]
            refine fin τ1 _ FW.rfl' (fun υ2 rb hk2 => ?_)
            obtain ⟨-, -, h55, h184, -, -, -⟩ := rb
            rw [wp_if]
            refine ⟨fun _ => ?_, fun q => absurd e q⟩
            rw [wp_if]
            refine ⟨fun _ => ?_, fun q => absurd e1 q⟩
            rw [wp_if]
            refine ⟨fun _ => ?_, fun q => absurd e2 q⟩
            rw [wp_bnd, wp_rdI, h55]
            refine ⟨rfl, ?_⟩
            rw [wp_jn1, ew, wp_if, nI_leI (by omega) (by omega)]
            refine ⟨fun h => ?_, fun h => ?_⟩
            · rw [wp_ret, if_neg (by omega)]
              exact ⟨rfl, rfl⟩
            · rw [wp_bnd, wp_rdR (v := 184) rfl (sk_159_52 hk2), wp_bnd, wp_ldI (n := w - 3) (len := 9) al_184 rfl (by omega) (by omega), h184 _ (by omega), wp_ret, if_pos (by omega)]
              exact ⟨rfl, rfl⟩
    · rw [if_neg (show ¬ 0 < (jrs P W (σ.1 (L + 2)) a0 to).length by omega), wp_if]
      refine ⟨fun q => absurd (show nI 0 = 0 from rfl) q, fun _ => ?_⟩
      rw [wp_ret]
      refine refTail _ _ ?_
      rw [wp_bnd]
      refine lay τ _ K hm (fun υ2 nf rb hinv => ?_)
      rw [hnone, wp_if]
      refine ⟨fun q => absurd (show nI 0 = 0 from rfl) q, fun _ => ?_⟩
      rw [wp_ret]
      exact ⟨rfl, hinv⟩
