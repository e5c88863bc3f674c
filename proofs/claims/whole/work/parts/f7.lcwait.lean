/-! JOURNEYS: when to set out -/
section MWAIT
variable {L P W F n : Nat} {f : Nat → LWt} {z : Nat → Int32} {hold : Int32} {sk : Nat → Nat → Int32} {k wl : Nat → Int32} {σ : sa_St} {wr md h0 c a0 to g : Nat} {q : List Nat}
theorem m_wait {Q : Int32 → sa_St → Prop} {ex : Int32 → Int32 → sa_M Int32} {rf : Bool} (hV : MV L P W F n f z hold sk k wl σ) (hsk : SkS sk) (hgo : Go k c wr md h0) (hg : k (23 + 7 * c + 2) = nI g) (hg9 : g < 100) (hpa : Pa P W z a0 to q) (h55 : σ.1 159 55 = nI q.length) (h184 : ∀ j, j < q.length → σ.1 184 j = nI (q.getD j 0)) (ha : k (23 + 7 * c + 0) = nI a0) (ha0 : a0 < P) (hrf : z (5 * a0 + 1) = nI (if rf then 1 else 0)) (hQ : ∀ τ, MF n f σ τ → wp (ex (nI (bwt (fun k => vMn W z (cnS z sk) (lsS f hold z wr md h0) (wDs (cnS z sk) (lsS f hold z wr md h0) rf a0 g k, k) none q) 12).1) (nI (bwt (fun k => vMn W z (cnS z sk) (lsS f hold z wr md h0) (wDs (cnS z sk) (lsS f hold z wr md h0) rf a0 g k, k) none q) 12).2)) τ Q) :
    wp (sa_wh3 (fun j38 (x6 : Int32) (x7 : Int32) (x8 : Int32) =>
if 12 < x8 then
ex x6 x7
else
sa_bnd (f_X12_beginsParts 159 (nI c)) fun _ =>
sa_let (0 : Int32) fun x10 =>
sa_wh1 (fun j53 (x11 : Int32) =>
if x8 ≤ x11 then
sa_bnd (sa_rdR 12 159 52) fun v12 =>
sa_bnd (sa_rdI 12 159 55) fun v13 =>
sa_bnd (f_X12_goPath 159 v12 v13 (-1)) fun _ =>
sa_jn2 (fun (x14 : Int32) (x15 : Int32) =>
sa_let ((x8 + 1) : Int32) fun x16 =>
j38 x14 x15 x16) fun j149 =>
sa_jn0 (sa_bnd (f_X12_meanNow 159) fun v17 =>
j149 x8 v17) fun j139 =>
if x6 = (-1) then
j139
else
sa_bnd (f_X12_meanNow 159) fun v18 =>
if x7 < v18 then
j139
else
j149 x6 x7
else
sa_bnd (sa_rdR 12 159 35) fun v19 =>
sa_bnd (sa_ldI .int v19 (7 * nI c)) fun v20 =>
sa_bnd (f_X12_isRoofed 159 v20) fun v21 =>
sa_jn0 (sa_let ((x11 + 1) : Int32) fun x22 =>
j53 x22) fun j102 =>
if v21 = 0 then
sa_bnd (sa_rdR 12 159 35) fun v23 =>
sa_bnd (sa_ldI .int v23 (7 * nI c)) fun v24 =>
sa_bnd (f_X12_rainsOn 159 v24) fun _ =>
j102
else
sa_bnd (sa_rdI 12 159 61) fun v25 =>
sa_bnd (sa_wrI 12 159 61 (v25 + 1)) fun _ =>
j102) sa_F x10) sa_F (-1) 0 0) σ Q := by
  have c8 := hgo.1
  have p1 := hpa.1
  have p8 := hpa.2.1
  have hsum := wDs_sum (cn := cnS z sk) (ls := lsS f hold z wr md h0) (rf := rf) (a0 := a0) (g := g) (fun p e => cnS_le p e) hg9
  have hvb : ∀ k, (fun k => vMn W z (cnS z sk) (lsS f hold z wr md h0) (wDs (cnS z sk) (lsS f hold z wr md h0) rf a0 g k, k) none q) k ≤ 99000 := fun k => vMn_bd (hsum k)
  have hbb := bwt_le hvb
  have hv0 : ∀ k, (fun k => vMn W z (cnS z sk) (lsS f hold z wr md h0) (wDs (cnS z sk) (lsS f hold z wr md h0) rf a0 g k, k) none q) k = mnD (pv W z (cnS z sk) (lsS f hold z wr md h0) none q (wDs (cnS z sk) (lsS f hold z wr md h0) rf a0 g k, k) (q.length - 1)).1 := fun k => rfl
  generalize (fun k => vMn W z (cnS z sk) (lsS f hold z wr md h0) (wDs (cnS z sk) (lsS f hold z wr md h0) rf a0 g k, k) none q) = v at hQ hvb hbb hv0
  refine wp_for3 13 0 (fun t a b τ => MF n f σ τ ∧ ((t = 0 ∧ a = mI) ∨ (0 < t ∧ a = nI (bwt v (t - 1)).1 ∧ b = nI (bwt v (t - 1)).2))) ?_ ?_ ⟨MF.refl hV.1.memo, Or.inl ⟨rfl, rfl⟩⟩ (by omega) (by unfold sa_F; omega)
  · rintro t a b τ ht ⟨mf, hab⟩ j hj
    have hV1 := hV.mf mf
    rw [wp_if]
    refine ⟨fun q => absurd q (nI_nlt (a := 12) (b := t) (by omega) (by omega)), fun _ => ?_⟩
    rw [wp_bnd]
    refine m_begin hV1 c8 hg hg9 (fun τ1 mf1 g60 g61 hrow => ?_)
    have mf01 := mf.trans mf1
    rw [wp_let]
    refine wp_for1 t 0 (fun h υ => MF n f σ υ ∧ υ.1 159 60 = nI c ∧ υ.1 159 61 = nI h ∧ ∀ x, x < 100 → υ.2.2 181 x = lN (wDs (cnS z sk) (lsS f hold z wr md h0) rf a0 g h x)) ?_ ?_ ⟨mf01, g60, g61, hrow⟩ (by omega) (by unfold sa_F; omega)
    · rintro h υ hh ⟨mf2, t60, t61, hrow2⟩ j2 hj2
      have hV2 := hV.mf mf2
      have hk2 := hV2.1.1
      have w0 : υ.1 173 (7 * c) = nI a0 := by rw [hV2.2.1, toW_own0 (by omega)]; exact ha
      have frf := m_roof hV2.1 ha0 (r := if rf then 1 else 0) (by split <;> omega) hrf
      rw [wp_if]
      refine ⟨fun q => absurd q (nI_ge hh (by omega)), fun _ => ?_⟩
      rw [wp_bnd, wp_rdR (v := 173) rfl (sk_159_35 hk2), wp_bnd, wp_ldI (n := 7 * c) (len := 260) al_173 (i7 c) (by omega) (by omega), w0, wp_bnd, wp_of_eq frf, wp_jn0, wp_if]
      cases rf with
      | true =>
        refine ⟨fun q => absurd q (show ¬ nI 1 = 0 by decide), fun _ => ?_⟩
        rw [wp_bnd, wp_rdI, t61]
        refine ⟨rfl, ?_⟩
        rw [wp_bnd, wp_wrI, nI_1]
        refine ⟨rfl, ?_⟩
        rw [wp_let]
        exact hj2 _ ⟨mf2.up (Or.inr rfl), by rw [upI_self, va_up_ne _ _ (by omega)]; exact t60, by rw [upI_self, va_up_self], hrow2⟩
      | false =>
        refine ⟨fun _ => ?_, fun q => absurd (show nI 0 = 0 from rfl) q⟩
        rw [wp_bnd, wp_rdR (v := 173) rfl (sk_159_35 hk2), wp_bnd, wp_ldI (n := 7 * c) (len := 260) al_173 (i7 c) (by omega) (by omega), w0, wp_bnd]
        refine m_rain1 hV2 hsk hgo t60 t61 hrow2 (hsum h) ha0 (by omega) (fun υ3 mf3 s60 s61 hrow3 => ?_)
        rw [wp_let, nI_1]
        exact hj2 _ ⟨mf2.trans mf3, s60, s61, hrow3⟩
    · rintro υ ⟨mf2, t60, t61, hrow2⟩ j2
      have hV2 := hV.mf mf2
      have hk2 := hV2.1.1
      have x55 : υ.1 159 55 = nI q.length := by rw [mf2.2.2.1 55 (pf_no (by omega)) (by omega) (by omega)]; exact h55
      rw [wp_if]
      refine ⟨fun _ => ?_, fun q => absurd (nI_le (Nat.le_refl _) (by omega)) q⟩
      rw [wp_bnd, wp_rdR (v := 184) rfl (sk_159_52 hk2), wp_bnd, wp_rdI, x55]
      refine ⟨rfl, ?_⟩
      rw [wp_bnd]
      refine m_path (am := none) hV2 hsk hgo hpa (Or.inr rfl) (fun x hx => by rw [mf2.2.1 184 (nm_M 184 (by omega))]; exact h184 x hx) (fun x hx => by cases hx) t60 t61 hrow2 (hsum t) (by omega) (fun υ3 mf3 hrow3 => ?_)
      have mf23 := mf2.trans mf3
      have hk3 := (hV.mf mf23).1.1
      have hsm := (pv_sum (W := W) (z := z) (cn := cnS z sk) (ls := lsS f hold z wr md h0) (am := none) (q := q) (s := (wDs (cnS z sk) (lsS f hold z wr md h0) rf a0 g t, t)) (fun p e => cnS_le p e) (q.length - 1)).trans (hsum t)
      have fm := m_mean hk3 hrow3 hsm
      rw [← hv0 t] at fm
      have hvt := hvb t
      rw [wp_jn2, wp_jn0, wp_if]
      rcases hab with ⟨rfl, rfl⟩ | ⟨tp, rfl, rfl⟩
      · refine ⟨fun _ => ?_, fun q => absurd rfl q⟩
        rw [wp_bnd, wp_of_eq fm, wp_let, nI_1]
        exact hj _ _ _ ⟨mf23, Or.inr ⟨by omega, rfl, rfl⟩⟩
      · obtain ⟨y, rfl⟩ : ∃ y, t = y + 1 := ⟨t - 1, by omega⟩
        rw [show y + 1 - 1 = y by omega]
        have hby := hbb y
        have hst : bwt v (y + 1) = if v (y + 1) ≤ (bwt v y).2 then bwt v y else (y + 1, v (y + 1)) := rfl
        refine ⟨fun q => ?_, fun _ => ?_⟩
        · have q' : nI (bwt v y).1 = mI := q
          rw [eq_mI (by omega)] at q'
          exact q'.elim
        · rw [wp_bnd, wp_of_eq fm, wp_if, nI_ltI (by omega) (by omega)]
          refine ⟨fun h => ?_, fun h => ?_⟩
          · rw [if_neg (by omega)] at hst
            rw [wp_bnd, wp_of_eq fm, wp_let, nI_1]
            exact hj _ _ _ ⟨mf23, Or.inr ⟨by omega, by rw [show y + 1 + 1 - 1 = y + 1 by omega, hst], by rw [show y + 1 + 1 - 1 = y + 1 by omega, hst]⟩⟩
          · rw [if_pos (by omega)] at hst
            rw [wp_let, nI_1]
            exact hj _ _ _ ⟨mf23, Or.inr ⟨by omega, by rw [show y + 1 + 1 - 1 = y + 1 by omega, hst], by rw [show y + 1 + 1 - 1 = y + 1 by omega, hst]⟩⟩
  · rintro a b τ ⟨mf, hab⟩ j
    rw [wp_if]
    refine ⟨fun _ => ?_, fun q => absurd (show (12 : Int32) < nI 13 by decide) q⟩
    rcases hab with ⟨h, -⟩ | ⟨-, rfl, rfl⟩
    · omega
    · exact hQ τ mf
end MWAIT
theorem lc24 (k : Nat) (hk512 : k ≤ 512) : lc_24 (Inv k) (Inv (k + 1)) := by
  intro σ s1 s2 s3 hI
  refine lco ?_
  obtain ⟨L, P, W, F, n, f, hIv0⟩ := Iv.of hI
  have hk := hIv0.1
  have P8 := hIv0.cx.zr.1.1
  have hz := hIv0.cx.zr
  rcases nx s3 2 with ⟨g1, g2, g3, g4, g5, g6⟩ | ⟨g1, g2, g3, g4, g5, g6, -⟩ | ⟨w, hw2, rfl⟩
  · simp (disch := omega) only [f_X11_waits, f_X12_waits, w_isIn, le_sub1, i64le, l64_0, l64_1, l64_2, l64_3, l64_5, l64_6, l64_7, l64_9, l64_12, l64_24, l64_48, l64_99, wp_gd, wp_bnd, wp_let, wp_jn0, wp_jn1, wp_jn2, wp_if, wp_ret, wp_rdI, wp_rdL, v_rdR, v_ldI, v_ldL, v_ldR, v_stI, v_stB, v_stZ, v_stL, wp_wrI, wp_wrL, wp_wrR, wp_wrZ, wp_retZ, v_md, v_dv, v_tb, upI_2, true_and, and_true, Nat.add_sub_cancel, Nat.zero_lt_succ, Nat.succ_pos, okN, clN, L0, L1, L2, L3, L4, L5, L6, L7, L8, L9, L10, L11, L12, L13, L14, L15, L16, L17, L18, L19, L20, L21, L22, L23, L24, L25, L26, L27, L28, L29, L30, L31, L32, L33, L34, L35, L36, L37, L38, L39, L40, L41, L42, L43, L44, L45, L46, L47, L48, L49, L50, L51, L52, L53, L54, L55, L56, L57, L58, L59, L60, L61, L62, L63, L64, L65, L66, L67, L68, L69, L70, L71, L72, L73, L74, L75, L76, L77, L78, L79, L80, L81, L82, L83, L84, L85, L86, L87, L88, L89, L90, L91, L92, L93, L94, L95, L96, L97, L98, L99, L100, L101, L102, L103, L104, L105, L106, L107, L108, L109, L110, L111, L112, L113, L114, L115, L116, L117, L118, L119, L120, L121, L122, L123, L124, L125, L126, L127, L128, L129, L130, L131, L200, L240, L255, L260, L1000, L4096, L10140, L1000000, ng1, mI_lt, mI_le, lt_mI, le_mI, eq_mI, mI_eq, mI_mI, mI_mE, nI_add, pk_mul, pk_sub, pk_rem, sa_minN, sa_maxN, ne_eq, nI_leI, nI_ltI, nI_eq, dT_le, dF_le, dT_lt, dF_lt, dT_eq, dF_eq, true_imp_iff, false_imp_iff, not_true_eq_false, not_false_eq_true, false_or, or_false, true_or, or_true, false_and, and_false, Decidable.not_not, reduceIte, if_true, if_false, upI_self, upI_ne, upL_1, upL_21, upL_self, upL_ne, upR_1, upR_22, upR_self, upR_ne, va_up_self, va_up_ne, Nat.reduceAdd, Nat.reduceMul, Nat.reduceSub, Nat.reduceLT, Nat.reduceLeDiff, Nat.reduceEqDiff, Nat.reduceSubDiff, Nat.zero_add, cm3, cm5, cm7, cm8, cm25, Nat.not_lt_zero, Nat.zero_le, not_false_iff, and_self, imp_self, implies_true, forall_const, Nat.lt_irrefl, Nat.le_refl, and_imp, sh_0, sh_159, sh_1, sh_15, sh_44, sh_46, sh_48, sh_134, sh_136, sh_151, sh_156, g1, g2, g3, g4, g5, g6]
    exact hIv0.ask0 (Dn.up (Dn.refl σ) rfl) rfl
  · simp (disch := omega) only [f_X11_waits, f_X12_waits, w_isIn, le_sub1, i64le, l64_0, l64_1, l64_2, l64_3, l64_5, l64_6, l64_7, l64_9, l64_12, l64_24, l64_48, l64_99, wp_gd, wp_bnd, wp_let, wp_jn0, wp_jn1, wp_jn2, wp_if, wp_ret, wp_rdI, wp_rdL, v_rdR, v_ldI, v_ldL, v_ldR, v_stI, v_stB, v_stZ, v_stL, wp_wrI, wp_wrL, wp_wrR, wp_wrZ, wp_retZ, v_md, v_dv, v_tb, upI_2, true_and, and_true, Nat.add_sub_cancel, Nat.zero_lt_succ, Nat.succ_pos, okN, clN, L0, L1, L2, L3, L4, L5, L6, L7, L8, L9, L10, L11, L12, L13, L14, L15, L16, L17, L18, L19, L20, L21, L22, L23, L24, L25, L26, L27, L28, L29, L30, L31, L32, L33, L34, L35, L36, L37, L38, L39, L40, L41, L42, L43, L44, L45, L46, L47, L48, L49, L50, L51, L52, L53, L54, L55, L56, L57, L58, L59, L60, L61, L62, L63, L64, L65, L66, L67, L68, L69, L70, L71, L72, L73, L74, L75, L76, L77, L78, L79, L80, L81, L82, L83, L84, L85, L86, L87, L88, L89, L90, L91, L92, L93, L94, L95, L96, L97, L98, L99, L100, L101, L102, L103, L104, L105, L106, L107, L108, L109, L110, L111, L112, L113, L114, L115, L116, L117, L118, L119, L120, L121, L122, L123, L124, L125, L126, L127, L128, L129, L130, L131, L200, L240, L255, L260, L1000, L4096, L10140, L1000000, ng1, mI_lt, mI_le, lt_mI, le_mI, eq_mI, mI_eq, mI_mI, mI_mE, nI_add, pk_mul, pk_sub, pk_rem, sa_minN, sa_maxN, ne_eq, nI_leI, nI_ltI, nI_eq, dT_le, dF_le, dT_lt, dF_lt, dT_eq, dF_eq, true_imp_iff, false_imp_iff, not_true_eq_false, not_false_eq_true, false_or, or_false, true_or, or_true, false_and, and_false, Decidable.not_not, reduceIte, if_true, if_false, upI_self, upI_ne, upL_1, upL_21, upL_self, upL_ne, upR_1, upR_22, upR_self, upR_ne, va_up_self, va_up_ne, Nat.reduceAdd, Nat.reduceMul, Nat.reduceSub, Nat.reduceLT, Nat.reduceLeDiff, Nat.reduceEqDiff, Nat.reduceSubDiff, Nat.zero_add, cm3, cm5, cm7, cm8, cm25, Nat.not_lt_zero, Nat.zero_le, not_false_iff, and_self, imp_self, implies_true, forall_const, Nat.lt_irrefl, Nat.le_refl, and_imp, sh_0, sh_159, sh_1, sh_15, sh_44, sh_46, sh_48, sh_134, sh_136, sh_151, sh_156, g1, g2, g3, g4, g5, g6]
    exact hIv0.ask0 (Dn.up (Dn.refl σ) rfl) rfl
  obtain ⟨wl, hw, r0, hJ⟩ := j_cases hIv0 hk512 s1 s2
  unfold f_X11_waits
  rw [wp_gd]
  refine ⟨rfl, ?_⟩
  rw [wp_jn0, wp_if]
  refine ⟨fun q => absurd q (nI_pos (by omega)), fun _ => ?_⟩
  rw [wp_if]
  refine ⟨fun q => absurd q (nI_nlt (a := 1) (b := w) (by omega) (by omega)), fun _ => ?_⟩
  rw [wp_bnd]
  have hin : ∀ {τ : sa_St} {Q : Int32 → sa_St → Prop}, Q (nI 1) τ → wp (f_X12_isIn (nI w).toInt64 0 1) τ Q := fun {τ Q} h => by
    rw [w_isIn]
    refine ⟨fun _ => h, fun q => absurd ?_ q⟩
    rw [l64_0, l64_1, i64le, i64le, nI_leI (by omega) (by omega), nI_leI (by omega) (by omega)]
    omega
  rcases hJ with hN | ⟨ns, c, a0, to, g, wr, md, h0, rfl, rfl, hY⟩
  · refine c_fjN hk hIv0.2.1 hN ?_
    rw [wp_if]
    refine ⟨fun q => absurd rfl q, fun _ => ?_⟩
    rw [wp_ret]
    unfold f_X12_waits
    rw [wp_gd]
    refine ⟨rfl, ?_⟩
    rw [wp_bnd, wp_wrI]
    refine ⟨rfl, ?_⟩
    rw [wp_bnd]
    refine hin ?_
    rw [wp_jn0, wp_if]
    refine ⟨fun q => absurd q (by decide), fun _ => ?_⟩
    rw [wp_bnd, wp_of_eq (hN.2.1 (sa_upI (sa_upI σ 136 3 0) 159 0 0) 2 hk (by rw [upI_ne (by omega), upI_ne (by omega)]; exact hw) (by rw [upI_self, va_up_ne _ _ (by omega), upI_ne (by omega)]; exact r0)), wp_if]
    refine ⟨fun q => absurd rfl q, fun _ => ?_⟩
    rw [wp_ret]
    exact ⟨rfl, hIv0.ask0 (Dn.up (Dn.up (Dn.refl σ) rfl) rfl) rfl⟩
  · refine c_fjY hY (fun τ K hm hT hTR hWK h139 h5 => ?_)
    obtain ⟨hV, hsk, hch, hgo, ⟨kg, g0, g99⟩, hat, ka, ha0, hto, hne⟩ := hY
    have hpt := jrs_pa (P := P) (W := W) (to := to) P8 (z := σ.1 (L + 2)) ha0
    have hs0 := st0_sum (g := g) (by omega)
    obtain ⟨r, r1, hrf⟩ := (hz.2.1 a0 ha0).2.1
    obtain ⟨rf, hrf'⟩ : ∃ rf : Bool, σ.1 (L + 2) (5 * a0 + 1) = nI (if rf then 1 else 0) := by
      rcases (show r = 0 ∨ r = 1 by omega) with rfl | rfl
      · exact ⟨false, hrf⟩
      · exact ⟨true, hrf⟩
    rcases bstL_iff (bt := btS W (σ.1 (L + 2)) (cnS (σ.1 (L + 2)) (skF σ ns)) (lsS f (σ.1 15 3) (σ.1 (L + 2)) wr md h0) (st0 g, 0) 2) (jrs P W (σ.1 (L + 2)) a0 to) with ⟨hpos, qb, hqb⟩ | ⟨h0l, hnone⟩
    · rw [if_pos hpos, wp_if]
      refine ⟨fun _ => ?_, fun q => absurd (show ¬ nI 1 = 0 by decide) q⟩
      have k10 : τ.2.1 0 10 = 137 := by rw [K.1 0 10 (by omega) (by omega)]; exact sk_0_10 hk
      rw [wp_bnd, wp_rdR (v := 136) rfl k10, wp_bnd, wp_rdR (v := 136) rfl k10, wp_bnd]
      refine c_best (s := 2) (s0 := (st0 g, 0)) hT hTR hpt hs0 (by show 0 ≤ 12; omega) hWK (by omega) hpos (fun b qb' τ1 hb hbe fw1 hWK1 => ?_)
      rw [hqb] at hbe
      cases hbe
      rw [wp_bnd]
      refine c_wait (rf := rf) (hT.fw fw1) (hTR.fw fw1) hpt hb ha0 (by rw [fw1.2.1 139 (nm_33 139 (by omega)) (by omega) (by omega)]; exact h139) (by rw [fw1.2.2.1 5 (by omega) (by omega)]; exact h5) (by omega) hrf' (fun τ2 fw2 h4 => ?_)
      have fw12 := fw1.trans fw2
      have K2 := K.trans fw12.dn
      have m2 : τ2.2.2 175 = σ.2.2 175 := (fw12.2.2.2 175 (by omega) (by omega)).trans hm
      have k10' := FW.k10 K fw12 hk
      have fin : ∀ v : Int32, v = (if w = 0 then nI (bwt (fun k => vMn W (σ.1 (L + 2)) (cnS (σ.1 (L + 2)) (skF σ ns)) (lsS f (σ.1 15 3) (σ.1 (L + 2)) wr md h0) (wDs (cnS (σ.1 (L + 2)) (skF σ ns)) (lsS f (σ.1 15 3) (σ.1 (L + 2)) wr md h0) rf a0 g k, k) none qb) 12).1 else nI (bwt (fun k => vMn W (σ.1 (L + 2)) (cnS (σ.1 (L + 2)) (skF σ ns)) (lsS f (σ.1 15 3) (σ.1 (L + 2)) wr md h0) (wDs (cnS (σ.1 (L + 2)) (skF σ ns)) (lsS f (σ.1 15 3) (σ.1 (L + 2)) wr md h0) rf a0 g k, k) none qb) 12).2) → wp (f_X12_waits 159 (nI c) (nI to) (nI w)) τ2 (fun r2 τ3 => r2 = v ∧ Inv (k + 1) τ3) := by
        intro v hv
        unfold f_X12_waits
        rw [wp_gd]
        refine ⟨rfl, ?_⟩
        rw [wp_bnd, wp_wrI]
        refine ⟨rfl, ?_⟩
        rw [wp_bnd]
        refine hin ?_
        rw [wp_jn0, wp_if]
        refine ⟨fun q => absurd q (by decide), fun _ => ?_⟩
        rw [wp_bnd]
        refine m_layB (s := 2) (hV.dn (K2.up rfl) m2) hsk hgo kg (by omega) hat (by omega) hto ka ha0 hne (fun υ2 nf rb => ?_)
        have hbe : bstL (btS W (σ.1 (L + 2)) (cnS (σ.1 (L + 2)) (skF σ ns)) (lsS f (σ.1 15 3) (σ.1 (L + 2)) wr md h0) (st0 g, 0) 2) ((pth P W (σ.1 (L + 2)) to 60 [a0] a0 (2 ^ a0)).take 200) = some qb := hqb
        rw [hbe] at rb ⊢
        obtain ⟨-, hpo, x55, x184, -, -, -⟩ := rb
        rw [wp_if]
        refine ⟨fun _ => ?_, fun q => absurd (show ¬ nI 1 = 0 by decide) q⟩
        rw [wp_let, wp_let, wp_let]
        refine m_wait (rf := rf) (ex := fun x6 x7 => sa_jn1 (fun (y9 : Int32) => sa_ret (y9 : Int32)) fun j166 => if ¬ nI w = 0 then j166 x7 else j166 x6) ((hV.dn (K2.up rfl) m2).nf nf) hsk hgo kg (by omega) hpo x55 x184 ka ha0 hrf' (fun υ3 mf => ?_)
        show wp (sa_jn1 _ _) _ _
        rw [wp_jn1, wp_if]
        refine ⟨fun q => ?_, fun q => ?_⟩
        · rw [if_neg (fun h => q (by rw [h]; rfl))] at hv
          rw [wp_ret]
          exact ⟨hv.symm, j_fin hIv0 (K2.up rfl) (nf.trans mf.nf)⟩
        · have q' : w = 0 := by
            have q2 := Decidable.not_not.mp q
            rw [L0, nI_eq (by omega) (by omega)] at q2
            exact q2
          rw [if_pos q'] at hv
          rw [wp_ret]
          exact ⟨hv.symm, j_fin hIv0 (K2.up rfl) (nf.trans mf.nf)⟩
      rw [wp_jn1, wp_if]
      refine ⟨fun q => ?_, fun q => ?_⟩
      · rw [wp_bnd, wp_rdR (v := 136) rfl k10', wp_bnd, wp_rdI, h4]
        refine ⟨rfl, ?_⟩
        rw [wp_ret]
        exact fin _ (by rw [if_neg (fun h => q (by rw [h]; rfl))])
      · have q' : w = 0 := by
          have q2 := Decidable.not_not.mp q
          rw [L0, nI_eq (by omega) (by omega)] at q2
          exact q2
        rw [wp_ret]
        exact fin _ (by rw [if_pos q'])
    · rw [if_neg (show ¬ 0 < (jrs P W (σ.1 (L + 2)) a0 to).length by omega), wp_if]
      refine ⟨fun q => absurd (show nI 0 = 0 from rfl) q, fun _ => ?_⟩
      rw [wp_ret]
      unfold f_X12_waits
      rw [wp_gd]
      refine ⟨rfl, ?_⟩
      rw [wp_bnd, wp_wrI]
      refine ⟨rfl, ?_⟩
      rw [wp_bnd]
      refine hin ?_
      rw [wp_jn0, wp_if]
      refine ⟨fun q => absurd q (by decide), fun _ => ?_⟩
      rw [wp_bnd]
      refine m_layB (s := 2) (hV.dn (K.up rfl) hm) hsk hgo kg (by omega) hat (by omega) hto ka ha0 hne (fun υ2 nf rb => ?_)
      have hbe : bstL (btS W (σ.1 (L + 2)) (cnS (σ.1 (L + 2)) (skF σ ns)) (lsS f (σ.1 15 3) (σ.1 (L + 2)) wr md h0) (st0 g, 0) 2) ((pth P W (σ.1 (L + 2)) to 60 [a0] a0 (2 ^ a0)).take 200) = none := hnone
      rw [hbe, wp_if]
      refine ⟨fun q => absurd (show nI 0 = 0 from rfl) q, fun _ => ?_⟩
      rw [wp_ret]
      exact ⟨rfl, j_fin hIv0 (K.up rfl) nf⟩
