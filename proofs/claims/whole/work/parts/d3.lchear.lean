section LC31
theorem m_hears {k L P W F n : Nat} {f : Nat → LWt} {σ τ : sa_St} {r m : Nat} {wl : Nat → Int32} (hIv0 : Iv k L P W F n f σ) (hP0 : 0 < P) (hr : r ≤ 7) (hkm : KM P W (48 * k) (40000 * k) m (σ.1 45)) (hw : σ.1 173 = toW (σ.1 45) wl) (hcx : Cx L P W F n f (σ.1 (L + 2)) (σ.1 15 3) σ) {Q : Int32 → sa_St → Prop} (hQ : ∀ τ2, Inv (k + 1) τ2 → Q (nI (hcn (liv (σ.1 45) m) (fun i => decide (hrN (nrR (liv (σ.1 45) m) (hDr (hMp P W (σ.1 (L + 2))) (σ.1 45) r)) m (hh0 (σ.1 45) m) 8 i = hal (σ.1 45) m m)) m)) τ2) : wp (f_X12_hears 159 (nI r)) σ Q := by
  have hk := hcx.1
  have P8 := hcx.zr.1.1
  have m8 := hkm.1
  have r0 : σ.1 159 25 = nI P := hcx.2.2.1.2.1.2.2.2.1
  unfold f_X12_hears
  rw [wp_gd]
  refine ⟨rfl, ?_⟩
  rw [wp_bnd, wp_wrI]
  refine ⟨rfl, ?_⟩
  rw [wp_bnd, wp_rdI, upI_self, va_up_ne _ _ (by omega), r0]
  refine ⟨rfl, ?_⟩
  rw [wp_jn0, wp_if]
  refine ⟨fun q => absurd q (nI_ne0 hP0 (by omega)), fun _ => ?_⟩
  rw [wp_bnd, w_isIn]
  refine ⟨fun _ => ?_, fun q => absurd ?_ q⟩
  · rw [wp_if]
    refine ⟨fun _ => ?_, fun q => absurd (show ¬ nI 1 = 0 by decide) q⟩
    rw [wp_bnd]
    refine m_lay (bh := 0) (th0 hcx) (by omega) (fun rr hr0 => ?_)
    have hD0 : ∀ h : Nat → Int32, Dn [0] σ (va_up (va_up (sa_upI σ 159 0 0).1 189 rr, (sa_upI σ 159 0 0).2).1 190 h, (va_up (sa_upI σ 159 0 0).1 189 rr, (sa_upI σ 159 0 0).2).2) := fun h => Dn.set (Dn.set (Dn.up (Dn.refl σ) rfl) (fun _ => rfl)) (fun _ => rfl)
    have hIn : ∀ h : Nat → Int32, Inv (k + 1) (va_up (va_up (sa_upI σ 159 0 0).1 189 rr, (sa_upI σ 159 0 0).2).1 190 h, (va_up (sa_upI σ 159 0 0).1 189 rr, (sa_upI σ 159 0 0).2).2) := fun h => hIv0.ask0 (hD0 h) rfl
    have hs : HS P m r (σ.1 45) wl (hMp P W (σ.1 (L + 2))) (va_up (sa_upI σ 159 0 0).1 189 rr, (sa_upI σ 159 0 0).2) := by
      refine ⟨hk, ?_, fun a b ha hb => ?_⟩
      · show va_up (sa_upI σ 159 0 0).1 189 rr 173 = _
        rw [va_up_ne _ _ (by omega), upI_ne (by omega)]
        exact hw
      · show va_up (sa_upI σ 159 0 0).1 189 rr 189 _ = _
        rw [va_up_self]
        exact hr0 a b ha hb
    generalize (va_up (sa_upI σ 159 0 0).1 189 rr, (sa_upI σ 159 0 0).2) = τ0 at hs hIn ⊢
    have e35 := sk_159_35 hs.1
    have e71 := sk_159_71 hs.1
    rw [wp_let, wp_let]
    refine m_first (ex := fun x5 => sa_let (0 : Int32) fun x9 => sa_wh1 (fun j95 (x10 : Int32) => if 8 ≤ x10 then sa_let (0 : Int32) fun x11 => sa_let (0 : Int32) fun x12 => sa_wh2 (fun j187 (x13 : Int32) (x14 : Int32) => sa_bnd (sa_rdR 12 159 35) fun v15 => sa_bnd (sa_ldI .int v15 75) fun v16 => if v16 ≤ x14 then sa_ret (x13 : Int32) else sa_bnd (sa_rdR 12 159 35) fun v17 => sa_bnd (f_X12_lives v17 x14) fun v18 => sa_jn1 (fun (y19 : Int32) => sa_let ((x13 + y19) : Int32) fun x20 => sa_let ((x14 + 1) : Int32) fun x21 => j187 x20 x21) fun j228 => sa_jn0 (j228 0) fun j227 => if v18 = 0 then j227 else sa_bnd (sa_rdR 12 159 71) fun v22 => sa_bnd (sa_ldI .int v22 x14) fun v23 => if ¬ v23 = x5 then j227 else j228 1) sa_F x11 x12 else sa_let (0 : Int32) fun x24 => sa_wh1 (fun j104 (x25 : Int32) => sa_bnd (sa_rdR 12 159 35) fun v26 => sa_bnd (sa_ldI .int v26 75) fun v27 => if v27 ≤ x25 then sa_let ((x10 + 1) : Int32) fun x28 => j95 x28 else sa_let (0 : Int32) fun x29 => sa_wh1 (fun j119 (x30 : Int32) => sa_bnd (sa_rdR 12 159 35) fun v31 => sa_bnd (sa_ldI .int v31 75) fun v32 => if v32 ≤ x30 then sa_let ((x25 + 1) : Int32) fun x33 => j104 x33 else sa_bnd (sa_rdR 12 159 71) fun v34 => sa_bnd (sa_ldI .int v34 x25) fun v35 => sa_bnd (f_X12_isNear 159 x25 x30 (nI r)) fun v36 => sa_jn1 (fun (y37 : Int32) => sa_bnd (sa_stI v34 x25 (v35 ||| y37)) fun _ => sa_let ((x30 + 1) : Int32) fun x38 => j119 x38) fun j162 => if v36 = 0 then j162 0 else sa_bnd (sa_rdR 12 159 71) fun v39 => sa_bnd (sa_ldI .int v39 x30) fun v40 => j162 v40) sa_F x29) sa_F x24) sa_F x9) hs hkm P8 (fun h1 hh1 => ?_)
    have hlt := hrN_lt (R := nrR (liv (σ.1 45) m) (hDr (hMp P W (σ.1 (L + 2))) (σ.1 45) r)) (m := m) (hh0_lt hkm)
    have hal16 := hal_lt hkm m
    show wp (sa_let (0 : Int32) fun x9 => _) _ Q
    rw [wp_let]
    refine wp_for1 8 0 (fun t τ => ∃ h : Nat → Int32, τ = (va_up τ0.1 190 h, τ0.2) ∧ ∀ i, i < m → h i = nI (hrN (nrR (liv (σ.1 45) m) (hDr (hMp P W (σ.1 (L + 2))) (σ.1 45) r)) m (hh0 (σ.1 45) m) t i)) ?_ ?_ ⟨h1, rfl, hh1⟩ (by omega) (by unfold sa_F; omega)
    · rintro t τ ht ⟨h, rfl, hh⟩ j hj
      have hlt1 := hlt t
      have hst : hrN (nrR (liv (σ.1 45) m) (hDr (hMp P W (σ.1 (L + 2))) (σ.1 45) r)) m (hh0 (σ.1 45) m) (t + 1) = ac (hrA (nrR (liv (σ.1 45) m) (hDr (hMp P W (σ.1 (L + 2))) (σ.1 45) r)) m) (hrN (nrR (liv (σ.1 45) m) (hDr (hMp P W (σ.1 (L + 2))) (σ.1 45) r)) m (hh0 (σ.1 45) m) t) m := rfl
      rw [hst] at hj
      generalize hrN (nrR (liv (σ.1 45) m) (hDr (hMp P W (σ.1 (L + 2))) (σ.1 45) r)) m (hh0 (σ.1 45) m) t = G at hlt1 hh hj
      rw [wp_if]
      refine ⟨fun q => absurd q (nI_ge (b := 8) ht (by omega)), fun _ => ?_⟩
      rw [wp_let]
      refine wp_for1 m 0 (fun a τ => ∃ h : Nat → Int32, τ = (va_up τ0.1 190 h, τ0.2) ∧ ∀ i, i < m → h i = nI (ac (hrA (nrR (liv (σ.1 45) m) (hDr (hMp P W (σ.1 (L + 2))) (σ.1 45) r)) m) G a i)) ?_ ?_ ⟨h, rfl, hh⟩ (by omega) (by unfold sa_F; omega)
      · rintro a τ ha ⟨h2, rfl, hh2⟩ j2 hj2
        have hlt2 := hrR_lt (R := nrR (liv (σ.1 45) m) (hDr (hMp P W (σ.1 (L + 2))) (σ.1 45) r)) (m := m) hlt1 a
        have hst2 : ac (hrA (nrR (liv (σ.1 45) m) (hDr (hMp P W (σ.1 (L + 2))) (σ.1 45) r)) m) G (a + 1) = hrA (nrR (liv (σ.1 45) m) (hDr (hMp P W (σ.1 (L + 2))) (σ.1 45) r)) m (ac (hrA (nrR (liv (σ.1 45) m) (hDr (hMp P W (σ.1 (L + 2))) (σ.1 45) r)) m) G a) a := rfl
        rw [hst2] at hj2
        rw [wp_bnd, wp_rdR (σ := (va_up τ0.1 190 h2, τ0.2)) (v := 173) rfl e35, wp_bnd, wp_ldI (j := 75) (n := 75) (len := 260) al_173 rfl (by omega) (by omega), (hs.set (h := h2)).2.1, toW_75, hkm.2.1, wp_if]
        refine ⟨fun q => absurd q (nI_ge ha (by omega)), fun _ => ?_⟩
        rw [wp_let]
        refine m_hear1 (ex := sa_let ((nI a + 1) : Int32) fun x33 => j2 x33) hs hkm P8 hr ha hlt2 hh2 (fun h3 hh3 => ?_)
        rw [wp_let, nI_1]
        exact hj2 _ ⟨h3, rfl, hh3⟩
      · rintro τ ⟨h2, rfl, hh2⟩ j2
        rw [wp_bnd, wp_rdR (σ := (va_up τ0.1 190 h2, τ0.2)) (v := 173) rfl e35, wp_bnd, wp_ldI (j := 75) (n := 75) (len := 260) al_173 rfl (by omega) (by omega), (hs.set (h := h2)).2.1, toW_75, hkm.2.1, wp_if]
        refine ⟨fun _ => ?_, fun q => absurd (nI_le (Nat.le_refl m) (by omega)) q⟩
        rw [wp_let, nI_1]
        exact hj _ ⟨h2, rfl, hh2⟩
    · rintro τ ⟨h, rfl, hh⟩ j
      have hlt8 := hlt 8
      have hs1 := hs.set (h := h)
      have row : (va_up τ0.1 190 h, τ0.2).1 190 = h := va_up_self τ0.1 190 h
      have hIh := hIn h
      generalize hrN (nrR (liv (σ.1 45) m) (hDr (hMp P W (σ.1 (L + 2))) (σ.1 45) r)) m (hh0 (σ.1 45) m) 8 = G at hlt8 hh hQ
      rw [wp_if]
      refine ⟨fun _ => ?_, fun q => absurd (show (8 : Int32) ≤ nI 8 by decide) q⟩
      rw [wp_let, wp_let]
      generalize (va_up τ0.1 190 h, τ0.2) = τ1 at hs1 row hIh
      have e35' := sk_159_35 hs1.1
      have e71' := sk_159_71 hs1.1
      refine wp_for2 m 0 (fun i a τ => τ = τ1 ∧ a = nI (hcn (liv (σ.1 45) m) (fun i => decide (G i = hal (σ.1 45) m m)) i)) ?_ ?_ ⟨rfl, rfl⟩ (by omega) (by unfold sa_F; omega)
      · rintro i a τ hi ⟨rfl, rfl⟩ j2 hj2
        have gi := hlt8 i
        have fl := m_lives8 hs1 hkm P8 hi
        have hst : hcn (liv (σ.1 45) m) (fun i => decide (G i = hal (σ.1 45) m m)) (i + 1) = if liv (σ.1 45) m i && decide (G i = hal (σ.1 45) m m) then hcn (liv (σ.1 45) m) (fun i => decide (G i = hal (σ.1 45) m m)) i + 1 else hcn (liv (σ.1 45) m) (fun i => decide (G i = hal (σ.1 45) m m)) i := rfl
        generalize hcn (liv (σ.1 45) m) (fun i => decide (G i = hal (σ.1 45) m m)) i = N at hst ⊢
        have go0 : (liv (σ.1 45) m i && decide (G i = hal (σ.1 45) m m)) = false → wp (sa_let ((nI N + 0) : Int32) fun x20 => sa_let ((nI i + 1) : Int32) fun x21 => j2 x20 x21) τ Q := fun h9 => by
          rw [wp_let, wp_let, nI_1]
          refine hj2 _ τ ⟨rfl, ?_⟩
          rw [hst, h9]
          exact nI_add N 0
        have go1 : (liv (σ.1 45) m i && decide (G i = hal (σ.1 45) m m)) = true → wp (sa_let ((nI N + 1) : Int32) fun x20 => sa_let ((nI i + 1) : Int32) fun x21 => j2 x20 x21) τ Q := fun h9 => by
          rw [wp_let, wp_let, nI_1, nI_1]
          refine hj2 _ τ ⟨rfl, ?_⟩
          rw [hst, h9]
          rfl
        rw [wp_bnd, wp_rdR (v := 173) rfl e35', wp_bnd, wp_ldI (j := 75) (n := 75) (len := 260) al_173 rfl (by omega) (by omega), hs1.2.1, toW_75, hkm.2.1, wp_if]
        refine ⟨fun q => absurd q (nI_ge hi (by omega)), fun _ => ?_⟩
        rw [wp_bnd, wp_rdR (v := 173) rfl e35', wp_bnd, wp_of_eq fl, wp_jn1, wp_jn0, wp_if]
        cases hv : liv (σ.1 45) m i with
        | false =>
          refine ⟨fun _ => ?_, fun q => absurd rfl q⟩
          exact go0 (by rw [hv]; rfl)
        | true =>
          refine ⟨fun q => absurd q (by decide), fun _ => ?_⟩
          rw [wp_bnd, wp_rdR (v := 190) rfl e71', wp_bnd, wp_ldI (n := i) (len := 8) al_190 rfl (by omega) (by omega), row, hh i hi, wp_if, nI_eq (by omega) (by omega)]
          refine ⟨fun q => ?_, fun q => ?_⟩
          · exact go0 (by rw [hv, decide_eq_false q]; rfl)
          · exact go1 (by rw [hv, decide_eq_true (Decidable.not_not.mp q)]; rfl)
      · rintro a τ ⟨rfl, rfl⟩ j2
        rw [wp_bnd, wp_rdR (v := 173) rfl e35', wp_bnd, wp_ldI (j := 75) (n := 75) (len := 260) al_173 rfl (by omega) (by omega), hs1.2.1, toW_75, hkm.2.1, wp_if]
        refine ⟨fun _ => ?_, fun q => absurd (nI_le (Nat.le_refl m) (by omega)) q⟩
        rw [wp_ret]
        exact hQ _ hIh
  · rw [l64_0, l64_7, i64le, i64le, nI_leI (by omega) (by omega), nI_leI (by omega) (by omega)]
    omega
theorem lc31 (k : Nat) : lc_31 (Inv k) (Inv (k + 1)) := by
  intro σ s1 hI
  refine lco ?_
  obtain ⟨L, P, W, F, n, f, hIv⟩ := Iv.of hI
  have hIv0 := hIv
  obtain ⟨hk, hL, hT, hLd, hM, hW, hO, hC, hP, hG, hS, hZ⟩ := hIv
  obtain ⟨⟨a1, a2, a3, a4, a5, a6⟩, e1, e2, e3, e4, e5, e6⟩ := LD.of hk hL
  have hL39 := hL.n
  obtain ⟨⟨b1, b2, b3⟩, ⟨c0, c1, c3, r0, r1, r3⟩, lp, lw, lf⟩ := hLd
  have hcx := hIv0.cx
  obtain ⟨m, hkm⟩ := KM.of hC.1
  obtain ⟨wl, hw, hlg⟩ := hC.2
  clear hL39 hM hW hO hC hP hG hS hZ lp lw lf
  rcases Nat.eq_zero_or_pos P with rfl | hP0
  · clear hkm hw hlg
    simp (disch := omega) only [f_X11_hears, f_X12_hears, f_X1_isEmpty, wp_gd, wp_bnd, wp_let, wp_jn0, wp_jn1, wp_jn2, wp_if, wp_ret, wp_rdI, wp_rdL, v_rdR, v_ldI, v_ldL, v_ldR, v_stI, v_stB, v_stZ, v_stL, wp_wrI, wp_wrL, wp_wrR, wp_wrZ, wp_retZ, v_md, v_dv, v_tb, upI_2, true_and, and_true, Nat.add_sub_cancel, Nat.zero_lt_succ, Nat.succ_pos, okN, clN, L0, L1, L2, L3, L4, L5, L6, L7, L8, L9, L10, L11, L12, L13, L14, L15, L16, L17, L18, L19, L20, L21, L22, L23, L24, L25, L26, L27, L28, L29, L30, L31, L32, L33, L34, L35, L36, L37, L38, L39, L40, L41, L42, L43, L44, L45, L46, L47, L48, L49, L50, L51, L52, L53, L54, L55, L56, L57, L58, L59, L60, L61, L62, L63, L64, L65, L66, L67, L68, L69, L70, L71, L72, L73, L74, L75, L76, L77, L78, L79, L80, L81, L82, L83, L84, L85, L86, L87, L88, L89, L90, L91, L92, L93, L94, L95, L96, L97, L98, L99, L100, L101, L102, L103, L104, L105, L106, L107, L108, L109, L110, L111, L112, L113, L114, L115, L116, L117, L118, L119, L120, L121, L122, L123, L124, L125, L126, L127, L128, L129, L130, L131, L200, L240, L255, L260, L1000, L4096, L10140, L1000000, ng1, mI_lt, mI_le, lt_mI, le_mI, eq_mI, mI_eq, mI_mI, mI_mE, nI_add, pk_mul, pk_sub, pk_rem, sa_minN, sa_maxN, ne_eq, nI_leI, nI_ltI, nI_eq, dT_le, dF_le, dT_lt, dF_lt, dT_eq, dF_eq, true_imp_iff, false_imp_iff, not_true_eq_false, not_false_eq_true, false_or, or_false, true_or, or_true, false_and, and_false, Decidable.not_not, reduceIte, if_true, if_false, upI_self, upI_ne, upL_1, upL_21, upL_self, upL_ne, upR_1, upR_22, upR_self, upR_ne, va_up_self, va_up_ne, Nat.reduceAdd, Nat.reduceMul, Nat.reduceSub, Nat.reduceLT, Nat.reduceLeDiff, Nat.reduceEqDiff, Nat.reduceSubDiff, Nat.zero_add, cm3, cm5, cm7, cm8, cm25, Nat.not_lt_zero, Nat.zero_le, not_false_iff, and_self, imp_self, implies_true, forall_const, Nat.lt_irrefl, Nat.le_refl, and_imp, sh_0, sh_159, sh_1, sh_15, sh_44, sh_46, sh_48, sh_134, sh_136, sh_151, sh_156, e1, e2, e3, e4, e5, e6, a1, a2, a3, a4, a5, a6, c0, c1, c3, r0, r1, r3]
    exact hIv0.ask0 (Dn.up (Dn.refl σ) rfl) rfl
  rcases nx s1 8 with ⟨g1, g2, g3, g4, g5, g6⟩ | ⟨g1, g2, g3, g4, g5, g6, -⟩ | ⟨r, hr, rfl⟩
  · clear hkm hw hlg
    simp (disch := omega) only [f_X11_hears, f_X12_hears, f_X1_isEmpty, w_isIn, le_sub1, i64le, l64_0, l64_1, l64_2, l64_3, l64_5, l64_6, l64_7, l64_9, l64_12, l64_24, l64_48, l64_99, wp_gd, wp_bnd, wp_let, wp_jn0, wp_jn1, wp_jn2, wp_if, wp_ret, wp_rdI, wp_rdL, v_rdR, v_ldI, v_ldL, v_ldR, v_stI, v_stB, v_stZ, v_stL, wp_wrI, wp_wrL, wp_wrR, wp_wrZ, wp_retZ, v_md, v_dv, v_tb, upI_2, true_and, and_true, Nat.add_sub_cancel, Nat.zero_lt_succ, Nat.succ_pos, okN, clN, L0, L1, L2, L3, L4, L5, L6, L7, L8, L9, L10, L11, L12, L13, L14, L15, L16, L17, L18, L19, L20, L21, L22, L23, L24, L25, L26, L27, L28, L29, L30, L31, L32, L33, L34, L35, L36, L37, L38, L39, L40, L41, L42, L43, L44, L45, L46, L47, L48, L49, L50, L51, L52, L53, L54, L55, L56, L57, L58, L59, L60, L61, L62, L63, L64, L65, L66, L67, L68, L69, L70, L71, L72, L73, L74, L75, L76, L77, L78, L79, L80, L81, L82, L83, L84, L85, L86, L87, L88, L89, L90, L91, L92, L93, L94, L95, L96, L97, L98, L99, L100, L101, L102, L103, L104, L105, L106, L107, L108, L109, L110, L111, L112, L113, L114, L115, L116, L117, L118, L119, L120, L121, L122, L123, L124, L125, L126, L127, L128, L129, L130, L131, L200, L240, L255, L260, L1000, L4096, L10140, L1000000, ng1, mI_lt, mI_le, lt_mI, le_mI, eq_mI, mI_eq, mI_mI, mI_mE, nI_add, pk_mul, pk_sub, pk_rem, sa_minN, sa_maxN, ne_eq, nI_leI, nI_ltI, nI_eq, dT_le, dF_le, dT_lt, dF_lt, dT_eq, dF_eq, true_imp_iff, false_imp_iff, not_true_eq_false, not_false_eq_true, false_or, or_false, true_or, or_true, false_and, and_false, Decidable.not_not, reduceIte, if_true, if_false, upI_self, upI_ne, upL_1, upL_21, upL_self, upL_ne, upR_1, upR_22, upR_self, upR_ne, va_up_self, va_up_ne, Nat.reduceAdd, Nat.reduceMul, Nat.reduceSub, Nat.reduceLT, Nat.reduceLeDiff, Nat.reduceEqDiff, Nat.reduceSubDiff, Nat.zero_add, cm3, cm5, cm7, cm8, cm25, Nat.not_lt_zero, Nat.zero_le, not_false_iff, and_self, imp_self, implies_true, forall_const, Nat.lt_irrefl, Nat.le_refl, and_imp, sh_0, sh_159, sh_1, sh_15, sh_44, sh_46, sh_48, sh_134, sh_136, sh_151, sh_156, e1, e2, e3, e4, e5, e6, a1, a2, a3, a4, a5, a6, c0, c1, c3, r0, r1, r3, g1, g2, g3, g4, g5, g6]
    exact hIv0.ask0 (Dn.up (Dn.refl σ) rfl) rfl
  · clear hkm hw hlg
    simp (disch := omega) only [f_X11_hears, f_X12_hears, f_X1_isEmpty, w_isIn, le_sub1, i64le, l64_0, l64_1, l64_2, l64_3, l64_5, l64_6, l64_7, l64_9, l64_12, l64_24, l64_48, l64_99, wp_gd, wp_bnd, wp_let, wp_jn0, wp_jn1, wp_jn2, wp_if, wp_ret, wp_rdI, wp_rdL, v_rdR, v_ldI, v_ldL, v_ldR, v_stI, v_stB, v_stZ, v_stL, wp_wrI, wp_wrL, wp_wrR, wp_wrZ, wp_retZ, v_md, v_dv, v_tb, upI_2, true_and, and_true, Nat.add_sub_cancel, Nat.zero_lt_succ, Nat.succ_pos, okN, clN, L0, L1, L2, L3, L4, L5, L6, L7, L8, L9, L10, L11, L12, L13, L14, L15, L16, L17, L18, L19, L20, L21, L22, L23, L24, L25, L26, L27, L28, L29, L30, L31, L32, L33, L34, L35, L36, L37, L38, L39, L40, L41, L42, L43, L44, L45, L46, L47, L48, L49, L50, L51, L52, L53, L54, L55, L56, L57, L58, L59, L60, L61, L62, L63, L64, L65, L66, L67, L68, L69, L70, L71, L72, L73, L74, L75, L76, L77, L78, L79, L80, L81, L82, L83, L84, L85, L86, L87, L88, L89, L90, L91, L92, L93, L94, L95, L96, L97, L98, L99, L100, L101, L102, L103, L104, L105, L106, L107, L108, L109, L110, L111, L112, L113, L114, L115, L116, L117, L118, L119, L120, L121, L122, L123, L124, L125, L126, L127, L128, L129, L130, L131, L200, L240, L255, L260, L1000, L4096, L10140, L1000000, ng1, mI_lt, mI_le, lt_mI, le_mI, eq_mI, mI_eq, mI_mI, mI_mE, nI_add, pk_mul, pk_sub, pk_rem, sa_minN, sa_maxN, ne_eq, nI_leI, nI_ltI, nI_eq, dT_le, dF_le, dT_lt, dF_lt, dT_eq, dF_eq, true_imp_iff, false_imp_iff, not_true_eq_false, not_false_eq_true, false_or, or_false, true_or, or_true, false_and, and_false, Decidable.not_not, reduceIte, if_true, if_false, upI_self, upI_ne, upL_1, upL_21, upL_self, upL_ne, upR_1, upR_22, upR_self, upR_ne, va_up_self, va_up_ne, Nat.reduceAdd, Nat.reduceMul, Nat.reduceSub, Nat.reduceLT, Nat.reduceLeDiff, Nat.reduceEqDiff, Nat.reduceSubDiff, Nat.zero_add, cm3, cm5, cm7, cm8, cm25, Nat.not_lt_zero, Nat.zero_le, not_false_iff, and_self, imp_self, implies_true, forall_const, Nat.lt_irrefl, Nat.le_refl, and_imp, sh_0, sh_159, sh_1, sh_15, sh_44, sh_46, sh_48, sh_134, sh_136, sh_151, sh_156, e1, e2, e3, e4, e5, e6, a1, a2, a3, a4, a5, a6, c0, c1, c3, r0, r1, r3, g1, g2, g3, g4, g5, g6]
    exact hIv0.ask0 (Dn.up (Dn.refl σ) rfl) rfl
  have hE : f_X1_isEmpty L σ = some (nI 0, σ) := by
    refine run_of ?_
    clear hkm hw hlg hIv0 hL
    simp (disch := omega) only [f_X1_isEmpty, wp_gd, wp_bnd, wp_let, wp_jn0, wp_jn1, wp_jn2, wp_if, wp_ret, wp_rdI, wp_rdL, v_rdR, v_ldI, v_ldL, v_ldR, v_stI, v_stB, v_stZ, v_stL, wp_wrI, wp_wrL, wp_wrR, wp_wrZ, wp_retZ, v_md, v_dv, v_tb, upI_2, true_and, and_true, Nat.add_sub_cancel, Nat.zero_lt_succ, Nat.succ_pos, okN, clN, L0, L1, L2, L3, L4, L5, L6, L7, L8, L9, L10, L11, L12, L13, L14, L15, L16, L17, L18, L19, L20, L21, L22, L23, L24, L25, L26, L27, L28, L29, L30, L31, L32, L33, L34, L35, L36, L37, L38, L39, L40, L41, L42, L43, L44, L45, L46, L47, L48, L49, L50, L51, L52, L53, L54, L55, L56, L57, L58, L59, L60, L61, L62, L63, L64, L65, L66, L67, L68, L69, L70, L71, L72, L73, L74, L75, L76, L77, L78, L79, L80, L81, L82, L83, L84, L85, L86, L87, L88, L89, L90, L91, L92, L93, L94, L95, L96, L97, L98, L99, L100, L101, L102, L103, L104, L105, L106, L107, L108, L109, L110, L111, L112, L113, L114, L115, L116, L117, L118, L119, L120, L121, L122, L123, L124, L125, L126, L127, L128, L129, L130, L131, L200, L240, L255, L260, L1000, L4096, L10140, L1000000, ng1, mI_lt, mI_le, lt_mI, le_mI, eq_mI, mI_eq, mI_mI, mI_mE, nI_add, pk_mul, pk_sub, pk_rem, sa_minN, sa_maxN, ne_eq, nI_leI, nI_ltI, nI_eq, dT_le, dF_le, dT_lt, dF_lt, dT_eq, dF_eq, true_imp_iff, false_imp_iff, not_true_eq_false, not_false_eq_true, false_or, or_false, true_or, or_true, false_and, and_false, Decidable.not_not, reduceIte, if_true, if_false, upI_self, upI_ne, upL_1, upL_21, upL_self, upL_ne, upR_1, upR_22, upR_self, upR_ne, va_up_self, va_up_ne, Nat.reduceAdd, Nat.reduceMul, Nat.reduceSub, Nat.reduceLT, Nat.reduceLeDiff, Nat.reduceEqDiff, Nat.reduceSubDiff, Nat.zero_add, cm3, cm5, cm7, cm8, cm25, Nat.not_lt_zero, Nat.zero_le, not_false_iff, and_self, imp_self, implies_true, forall_const, Nat.lt_irrefl, Nat.le_refl, and_imp, e1, a2, e2, c0]
  unfold f_X11_hears
  rw [wp_gd]
  refine ⟨rfl, ?_⟩
  rw [wp_bnd, wp_rdR (v := L) rfl a1, wp_bnd, wp_of_eq hE, wp_jn0, wp_if]
  refine ⟨fun q => absurd (show nI 0 = 0 from rfl) q, fun _ => ?_⟩
  rw [wp_if]
  refine ⟨fun q => absurd q (nI_pos (by omega)), fun _ => ?_⟩
  rw [wp_if]
  refine ⟨fun _ => ?_, fun q => absurd (nI_le (a := r) (b := 7) (by omega) (by omega)) q⟩
  rw [wp_bnd, wp_rdR (v := 44) rfl (sk_0_6 hk), wp_bnd, wp_rdR (v := L) rfl a1, wp_bnd, wp_of_eq (c_hear hcx hP0 rfl hkm b1 (show r ≤ 7 by omega)), wp_ret]
  refine m_hears (τ := σ) hIv0 hP0 (show r ≤ 7 by omega) hkm hw hcx (fun τ2 h2 => ⟨congrArg nI ?_, h2⟩)
  refine (hcn_congr (fun i hi => ?_) m).symm
  have e1 := hear_same (D := hDr (hMp P W (σ.1 (L + 2))) (σ.1 45) r) (m := m) (q := xqm (σ.1 45) m) hkm.1 hD_symm (fun i hi => liv_lt hi) hi
  have e2 := hal_eq (k := σ.1 45) (m := m) m (Nat.le_refl m)
  show decide (_ = _) = decide (_ = _)
  rw [e1, e2]
  rfl
end LC31
