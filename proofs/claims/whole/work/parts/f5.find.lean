/-! JOURNEYS: found by the class -/
section FIND
variable {k L P W F n : Nat} {f : Nat → LWt} {σ : sa_St} {ns c a0 to g wr md h0 : Nat} {wl : Nat → Int32}
/-- the journeys that are looked at -/
def jrs (P W : Nat) (z : Nat → Int32) (a0 to : Nat) : List (List Nat) := (pth P W z to 60 [a0] a0 (2 ^ a0)).take 200
theorem jrs_pa (hP : P ≤ 8) {z : Nat → Int32} (ha : a0 < P) : ∀ (i : Nat) (q : List Nat), (jrs P W z a0 to)[i]? = some q → Pa P W z a0 to q := fun i q hq => pth_pa hP 60 [a0] a0 (2 ^ a0) (Tr.one ha hP) q (List.mem_of_mem_take (List.mem_of_getElem? hq))
theorem c_findJ {Q : Int32 → sa_St → Prop} (hJ : JY k L P W F n f σ ns c a0 to g wr md h0 wl) (hQ : ∀ τ, Dn [0] σ τ → τ.2.2 175 = σ.2.2 175 → TV L P W F n f (σ.1 (L + 2)) (σ.1 15 3) (skF σ ns) wr md h0 τ → TR (jrs P W (σ.1 (L + 2)) a0 to) τ → WKC W (σ.1 (L + 2)) (cnS (σ.1 (L + 2)) (skF σ ns)) (lsS f (σ.1 15 3) (σ.1 (L + 2)) wr md h0) (jrs P W (σ.1 (L + 2)) a0 to) (st0 g, 0) τ → τ.1 139 0 = nI a0 → τ.1 136 5 = nI g → Q 1 τ) : wp (f_X9_find 136 L 44 (nI c) (nI to)) σ Q := by
  obtain ⟨hV, hsk, hch, hgo, ⟨kg, g0, g99⟩, hat, ka, ha0, hto, hne⟩ := hJ
  obtain ⟨c8, kw, kd, kt, w9, d3, h99⟩ := hgo
  have hcx := hV.1
  have hz := hcx.zr
  have P8 := hz.1.1
  have hk := hcx.1
  have hLn := hcx.2.1.n
  obtain ⟨⟨a1, a2, a3, a4, a5, a6⟩, e1, e2, e3, e4, e5, e6⟩ := LD.of hk hcx.2.1
  have cP : σ.1 (L + 1) 0 = nI P := hcx.2.2.1.2.1.1
  unfold f_X9_find
  rw [wp_gd]
  refine ⟨rfl, ?_⟩
  rw [wp_bnd, wp_wrI]
  refine ⟨rfl, ?_⟩
  have x45 : (sa_upI σ 136 3 0).1 45 = σ.1 45 := upI_ne (by omega)
  have ca1 : CA (sa_upI σ 136 3 0).2.1 44 45 := ca_44 hk
  have hasP : f_X1_hasPlace L (nI to) (sa_upI σ 136 3 0) = some (nI 1, sa_upI σ 136 3 0) := by
    refine run_of ?_
    have cc : (sa_upI σ 136 3 0).1 (L + 1) 0 = nI P := by rw [upI_ne (by omega)]; exact cP
    have aa : (sa_upI σ 136 3 0).2.1 L 0 = L + 1 + 1 := a2
    clear hV hcx hz hLn hQ hsk hch hat
    generalize sa_upI σ 136 3 0 = σ1 at *
    simp (disch := omega) only [f_X1_hasPlace, wp_gd, wp_bnd, wp_let, wp_jn0, wp_jn1, wp_jn2, wp_if, wp_ret, wp_rdI, wp_rdL, v_rdR, v_ldI, v_ldL, v_ldR, v_stI, v_stB, v_stZ, v_stL, wp_wrI, wp_wrL, wp_wrR, wp_wrZ, wp_retZ, v_md, v_dv, v_tb, upI_2, true_and, and_true, Nat.add_sub_cancel, Nat.zero_lt_succ, Nat.succ_pos, okN, clN, L0, L1, L2, L3, L4, L5, L6, L7, L8, L9, L10, L11, L12, L13, L14, L15, L16, L17, L18, L19, L20, L21, L22, L23, L24, L25, L26, L27, L28, L29, L30, L31, L32, L33, L34, L35, L36, L37, L38, L39, L40, L41, L42, L43, L44, L45, L46, L47, L48, L49, L50, L51, L52, L53, L54, L55, L56, L57, L58, L59, L60, L61, L62, L63, L64, L65, L66, L67, L68, L69, L70, L71, L72, L73, L74, L75, L76, L77, L78, L79, L80, L81, L82, L83, L84, L85, L86, L87, L88, L89, L90, L91, L92, L93, L94, L95, L96, L97, L98, L99, L100, L101, L102, L103, L104, L105, L106, L107, L108, L109, L110, L111, L112, L113, L114, L115, L116, L117, L118, L119, L120, L121, L122, L123, L124, L125, L126, L127, L128, L129, L130, L131, L200, L240, L255, L260, L1000, L4096, L10140, L1000000, ng1, mI_lt, mI_le, lt_mI, le_mI, eq_mI, mI_eq, mI_mI, mI_mE, nI_add, pk_mul, pk_sub, pk_rem, sa_minN, sa_maxN, ne_eq, nI_leI, nI_ltI, nI_eq, dT_le, dF_le, dT_lt, dF_lt, dT_eq, dF_eq, true_imp_iff, false_imp_iff, not_true_eq_false, not_false_eq_true, false_or, or_false, true_or, or_true, false_and, and_false, Decidable.not_not, reduceIte, if_true, if_false, upI_self, upI_ne, upL_1, upL_21, upL_self, upL_ne, upR_1, upR_22, upR_self, upR_ne, va_up_self, va_up_ne, Nat.reduceAdd, Nat.reduceMul, Nat.reduceSub, Nat.reduceLT, Nat.reduceLeDiff, Nat.reduceEqDiff, Nat.reduceSubDiff, Nat.zero_add, cm3, cm5, cm7, cm8, cm25, Nat.not_lt_zero, Nat.zero_le, not_false_iff, and_self, imp_self, implies_true, forall_const, Nat.lt_irrefl, Nat.le_refl, and_imp, e1, aa, e2, cc]
  rw [wp_bnd, wp_of_eq (hat.1 _ 44 45 ca1 x45), wp_jn0, wp_if]
  refine ⟨fun q => absurd q (by decide), fun _ => ?_⟩
  rw [wp_bnd, wp_of_eq hasP, wp_if]
  refine ⟨fun q => absurd q (by decide), fun _ => ?_⟩
  rw [wp_bnd, wp_of_eq (show f_X0_of 44 (nI c) 0 (sa_upI σ 136 3 0) = _ from e_of (j := 0) ca1 x45 c8 (by omega)), ka, wp_if, nI_eq (by omega) (by omega)]
  refine ⟨fun _ => ?_, fun q => absurd hne q⟩
  rw [wp_bnd, wp_wrR]
  refine ⟨rfl, ?_⟩
  -- the numbers of the journey
  have of : ∀ (τ : sa_St) (j : Nat), τ.2.1 44 0 = σ.2.1 44 0 → τ.1 45 = σ.1 45 → j < 7 → f_X0_of 44 (nI c) (nI j) τ = some (σ.1 45 (23 + 7 * c + j), τ) := fun τ j h1 h2 hj => e_of ⟨rfl, by rw [h1]; exact sk_44_0 hk, rfl⟩ h2 c8 hj
  have u0 : (sa_upR (sa_upI σ 136 3 0) 136 2 (L + 1)).2.1 44 0 = σ.2.1 44 0 := by
    show va_up σ.2.1 136 (va_up (σ.2.1 136) 2 (L + 1)) 44 0 = _
    rw [va_up_ne _ _ (by omega)]
  have u1 : (sa_upR (sa_upI σ 136 3 0) 136 2 (L + 1)).1 45 = σ.1 45 := x45
  have base : Dn [0] σ (sa_upR (sa_upI σ 136 3 0) 136 2 (L + 1)) := by
    refine ⟨fun a b h5 h2 => ?_, (Dn.up (Dn.refl σ) rfl).2⟩
    show va_up σ.2.1 136 (va_up (σ.2.1 136) 2 (L + 1)) a b = _
    by_cases e : a = 136
    · subst e
      rw [va_up_self, va_up_ne _ _ (by omega)]
    · rw [va_up_ne _ _ e]
  have b2 : (sa_upR (sa_upI σ 136 3 0) 136 2 (L + 1)).2.1 136 2 = L + 1 := by
    show va_up σ.2.1 136 (va_up (σ.2.1 136) 2 (L + 1)) 136 2 = _
    rw [va_up_self, va_up_self]
  have b3 : (sa_upR (sa_upI σ 136 3 0) 136 2 (L + 1)).1 136 3 = nI 0 := by
    show (sa_upI σ 136 3 0).1 136 3 = _
    rw [upI_self, va_up_self]
    rfl
  have b175 : (sa_upR (sa_upI σ 136 3 0) 136 2 (L + 1)).2.2 = σ.2.2 := rfl
  generalize sa_upR (sa_upI σ 136 3 0) 136 2 (L + 1) = σ1 at u0 u1 base b2 b3 b175 ⊢
  have f1 := of σ1 2 u0 u1 (by omega)
  rw [kg] at f1
  rw [wp_bnd, wp_of_eq (show f_X0_of 44 (nI c) 2 σ1 = _ from f1), wp_bnd, wp_wrI]
  refine ⟨rfl, ?_⟩
  have f2 := of (sa_upI σ1 136 5 (nI g)) 3 u0 (by rw [upI_ne (by omega)]; exact u1) (by omega)
  rw [kw] at f2
  rw [wp_bnd, wp_of_eq (show f_X0_of 44 (nI c) 3 (sa_upI σ1 136 5 (nI g)) = _ from f2), wp_bnd, wp_wrI]
  refine ⟨rfl, ?_⟩
  have f3 := of (sa_upI (sa_upI σ1 136 5 (nI g)) 136 6 (nI wr)) 4 u0 (by rw [upI_ne (by omega), upI_ne (by omega)]; exact u1) (by omega)
  rw [kd] at f3
  rw [wp_bnd, wp_of_eq (show f_X0_of 44 (nI c) 4 (sa_upI (sa_upI σ1 136 5 (nI g)) 136 6 (nI wr)) = _ from f3), wp_bnd, wp_wrI]
  refine ⟨rfl, ?_⟩
  have e44 : (sa_upI (sa_upI (sa_upI σ1 136 5 (nI g)) 136 6 (nI wr)) 136 7 (nI md)).2.1 44 0 = 46 := u0.trans (sk_44_0 hk)
  have c21 : (sa_upI (sa_upI (sa_upI σ1 136 5 (nI g)) 136 6 (nI wr)) 136 7 (nI md)).1 45 21 = nI h0 := by
    rw [upI_ne (by omega), upI_ne (by omega), upI_ne (by omega), u1]
    exact kt
  rw [wp_bnd, wp_rdR (v := 45) rfl e44, wp_bnd, wp_ldI (j := 21) (n := 21) (len := 259) al_45 rfl (by omega) (by omega), c21, wp_bnd, wp_wrI]
  refine ⟨rfl, ?_⟩
  rw [wp_bnd, wp_wrI]
  refine ⟨rfl, ?_⟩
  have K2 : Dn [0] σ (sa_upI (sa_upI (sa_upI (sa_upI (sa_upI σ1 136 5 (nI g)) 136 6 (nI wr)) 136 7 (nI md)) 136 8 (nI h0)) 136 9 (nI to)) := Dn.up (Dn.up (Dn.up (Dn.up (Dn.up base rfl) rfl) rfl) rfl) rfl
  have y3 : (sa_upI (sa_upI (sa_upI (sa_upI (sa_upI σ1 136 5 (nI g)) 136 6 (nI wr)) 136 7 (nI md)) 136 8 (nI h0)) 136 9 (nI to)).1 136 3 = nI 0 := by
    simp (disch := omega) only [upI_self, va_up_ne]
    exact b3
  have y5 : (sa_upI (sa_upI (sa_upI (sa_upI (sa_upI σ1 136 5 (nI g)) 136 6 (nI wr)) 136 7 (nI md)) 136 8 (nI h0)) 136 9 (nI to)).1 136 5 = nI g := by simp (disch := omega) only [upI_self, va_up_ne, va_up_self]
  have y6 : (sa_upI (sa_upI (sa_upI (sa_upI (sa_upI σ1 136 5 (nI g)) 136 6 (nI wr)) 136 7 (nI md)) 136 8 (nI h0)) 136 9 (nI to)).1 136 6 = nI wr := by simp (disch := omega) only [upI_self, va_up_ne, va_up_self]
  have y7 : (sa_upI (sa_upI (sa_upI (sa_upI (sa_upI σ1 136 5 (nI g)) 136 6 (nI wr)) 136 7 (nI md)) 136 8 (nI h0)) 136 9 (nI to)).1 136 7 = nI md := by simp (disch := omega) only [upI_self, va_up_ne, va_up_self]
  have y8 : (sa_upI (sa_upI (sa_upI (sa_upI (sa_upI σ1 136 5 (nI g)) 136 6 (nI wr)) 136 7 (nI md)) 136 8 (nI h0)) 136 9 (nI to)).1 136 8 = nI h0 := by simp (disch := omega) only [upI_self, va_up_ne, va_up_self]
  have y9 : (sa_upI (sa_upI (sa_upI (sa_upI (sa_upI σ1 136 5 (nI g)) 136 6 (nI wr)) 136 7 (nI md)) 136 8 (nI h0)) 136 9 (nI to)).1 136 9 = nI to := by simp (disch := omega) only [upI_self, va_up_self]
  have y2 : (sa_upI (sa_upI (sa_upI (sa_upI (sa_upI σ1 136 5 (nI g)) 136 6 (nI wr)) 136 7 (nI md)) 136 8 (nI h0)) 136 9 (nI to)).2.1 136 2 = L + 1 := b2
  have yL : (sa_upI (sa_upI (sa_upI (sa_upI (sa_upI σ1 136 5 (nI g)) 136 6 (nI wr)) 136 7 (nI md)) 136 8 (nI h0)) 136 9 (nI to)).2.2 = σ.2.2 := b175
  have y44 : (sa_upI (sa_upI (sa_upI (sa_upI (sa_upI σ1 136 5 (nI g)) 136 6 (nI wr)) 136 7 (nI md)) 136 8 (nI h0)) 136 9 (nI to)).2.1 44 0 = σ.2.1 44 0 := u0
  have y45 : (sa_upI (sa_upI (sa_upI (sa_upI (sa_upI σ1 136 5 (nI g)) 136 6 (nI wr)) 136 7 (nI md)) 136 8 (nI h0)) 136 9 (nI to)).1 45 = σ.1 45 := by
    simp (disch := omega) only [upI_ne]
    exact u1
  generalize sa_upI (sa_upI (sa_upI (sa_upI (sa_upI σ1 136 5 (nI g)) 136 6 (nI wr)) 136 7 (nI md)) 136 8 (nI h0)) 136 9 (nI to) = σ2 at K2 y3 y5 y6 y7 y8 y9 y2 yL y44 y45 ⊢
  have hk2 : SK σ2.2.1 := K2.sk hk
  have f4 := of σ2 0 y44 y45 (by omega)
  rw [ka] at f4
  rw [wp_bnd, wp_rdR (v := 139) rfl (sk_136_12 hk2), wp_bnd, wp_of_eq (show f_X0_of 44 (nI c) 0 σ2 = _ from f4), wp_bnd, wp_stI (j := 0) (n := 0) (len := 8) al_139 rfl (by omega) (by omega)]
  have K3 : Dn [0] σ (sa_upI σ2 139 0 (nI a0)) := K2.up rfl
  have hk3 : SK (sa_upI σ2 139 0 (nI a0)).2.1 := hk2
  have q139 : (sa_upI σ2 139 0 (nI a0)).1 139 0 = nI a0 := by rw [upI_self, va_up_self]
  have hsh : (1 : Int32) <<< (nI a0 &&& 31) = nI (2 ^ a0) := shl1 a0 (by omega)
  have hcx3 : Cx L P W F n f (σ.1 (L + 2)) (σ.1 15 3) (sa_upI σ2 139 0 (nI a0)) := hcx.dn K3 rfl rfl (by
    show MemoR n f (σ2.2.2 175) ((sa_upI σ2 139 0 (nI a0)).1 176)
    rw [yL, K3.row 176 (fun _ => rfl)]
    exact hcx.memo)
  rw [wp_bnd, wp_rdR (v := 139) rfl (sk_136_12 hk3), wp_bnd, wp_ldI (j := 0) (n := 0) (len := 8) al_139 rfl (by omega) (by omega), q139, hsh, wp_bnd]
  have hTR0 : TR [] (sa_upI σ2 139 0 (nI a0)) := ⟨by rw [upI_ne (by omega)]; exact y3, by decide, fun i q hq => by cases hq⟩
  refine c_from P8 (by omega) hto 60 [a0] a0 (2 ^ a0) (sa_upI σ2 139 0 (nI a0)) [] _ (Tr.one ha0 P8) rfl hTR0 (by decide) (fun q hq => by cases hq) (fun j hj => ?_) hcx3 y2 (by rw [upI_ne (by omega)]; exact y9) (fun τ fn hTR htr => ?_)
  · have : j = 0 := by simpa using hj
    subst this
    exact q139
  · rw [List.nil_append] at hTR
    have K4 : Dn [0] σ τ := K3.trans fn.dn
    have hk4 : SK τ.2.1 := K4.sk hk
    have z5 : ∀ k, k ≠ 3 → τ.1 136 k = σ2.1 136 k := fun k hk => by rw [fn.2.2 k hk, upI_ne (by omega)]
    have z2 : τ.2.1 136 2 = L + 1 := by rw [fn.1]; exact y2
    have z175 : τ.2.2 175 = σ.2.2 175 := by rw [fn.1]; exact congrFun yL 175
    have z139 : τ.1 139 0 = nI a0 := (htr 0 (by show 0 < 1; omega)).trans q139
    unfold f_X9_setOutWith
    rw [wp_bnd, wp_gd]
    refine ⟨rfl, ?_⟩
    rw [wp_bnd, wp_rdR (v := 149) rfl (sk_136_14 hk4), wp_bnd, wp_stI (j := 0) (n := 0) (len := 8) al_149 rfl (by omega) (by omega), wp_bnd, wp_wrI]
    refine ⟨rfl, ?_⟩
    rw [wp_ret]
    have x1 : XW τ (sa_upI (sa_upI τ 149 0 0) 136 15 (-1)) := (XW.up (Or.inl rfl)).trans (XW.up (Or.inr ⟨rfl, rfl⟩))
    have v1 : (sa_upI (sa_upI τ 149 0 0) 136 15 (-1)).1 149 0 = nI 0 := by rw [upI_ne (by omega), upI_self, va_up_self]; rfl
    have v2 : (sa_upI (sa_upI τ 149 0 0) 136 15 (-1)).1 136 15 = mI := by rw [upI_self, va_up_self]; rfl
    have v3 : (sa_upI (sa_upI τ 149 0 0) 136 15 (-1)).2 = τ.2 := rfl
    generalize sa_upI (sa_upI τ 149 0 0) 136 15 (-1) = υ1 at x1 v1 v2 v3 ⊢
    have hk5 : SK υ1.2.1 := by rw [v3]; exact hk4
    have h5 : υ1.1 136 5 = nI g := by rw [x1.1.2.2.1 5 (by omega) (by omega), z5 5 (by omega)]; exact y5
    rw [wp_bnd, wp_rdR (v := 140) rfl (sk_136_13 hk5), wp_bnd, wp_ldR (j := 0) (n := 0) (len := 8) al_140 rfl (by omega) (by omega) (sk_140 hk5 (by omega)), wp_bnd]
    refine c_putAll (al_141j (j := 0) (by omega)) h5 (by omega) (fun υ hcf hrow => ?_)
    rw [wp_retZ]
    refine ⟨Or.inr rfl, ?_⟩
    have xw := x1.trans (hcf.xw (by omega))
    have K5 : Dn [0] σ υ := K4.trans xw.1.dn
    have hm : υ.2.2 175 = σ.2.2 175 := (xw.1.2.2.2 175 (by omega) (by omega)).trans z175
    have s136 : ∀ k, k ≠ 3 → k ≠ 15 → k ≠ 4 → υ.1 136 k = σ2.1 136 k := fun k h1 h2 h3 => (xw.1.2.2.1 k h2 h3).trans (z5 k h1)
    refine hQ υ K5 hm ⟨hcx.dn K5 rfl rfl (by rw [hm, K5.row 176 (fun _ => rfl)]; exact hcx.memo), by rw [xw.1.1]; exact z2, ⟨(s136 6 (by omega) (by omega) (by omega)).trans y6, (s136 7 (by omega) (by omega) (by omega)).trans y7, (s136 8 (by omega) (by omega) (by omega)).trans y8⟩, fun p h hp a b => ?_, ⟨by omega, w9, d3, h99⟩, hsk⟩ (hTR.fw xw.1) (Or.inl ⟨?_, fun i hi => ?_⟩) ?_ ((s136 5 (by omega) (by omega) (by omega)).trans y5)
    · rw [K5.row 135 (fun _ => rfl)]
      exact hch p h hp a b
    · rw [hcf.2.1 136 (nm_33 136 (by omega))]
      exact v2
    · have : i = 0 := by omega
      subst this
      refine ⟨hrow, ?_⟩
      rw [hcf.2.1 149 (nm_33 149 (by omega))]
      exact v1
    · rw [xw.1.2.1 139 (nm_33 139 (by omega)) (by omega) (by omega)]
      exact z139
end FIND
theorem lc23 (k : Nat) (hk512 : k ≤ 512) : lc_23 (Inv k) (Inv (k + 1)) := by
  intro σ s1 s2 hI
  refine lco ?_
  obtain ⟨L, P, W, F, n, f, hIv0⟩ := Iv.of hI
  have hk := hIv0.1
  have hLD := LD.of hk hIv0.2.1
  have P8 := hIv0.cx.zr.1.1
  obtain ⟨wl, hw, r0, hJ⟩ := j_cases hIv0 hk512 s1 s2
  unfold f_X11_journeys
  rw [wp_gd]
  refine ⟨rfl, ?_⟩
  rw [wp_bnd, wp_rdR (v := 136) rfl (sk_0_10 hk), wp_bnd, wp_rdR (v := L) rfl hLD.1.1, wp_bnd, wp_rdR (v := 44) rfl (sk_0_6 hk), wp_bnd]
  rcases hJ with hN | ⟨ns, c, a0, to, g, wr, md, h0, rfl, rfl, hY⟩
  · refine hN.1 _ ?_
    rw [wp_jn1, wp_if]
    refine ⟨fun _ => ?_, fun q => absurd rfl q⟩
    rw [wp_ret, wp_of_eq (hN.2.2 (sa_upI σ 136 3 0) hk (by rw [upI_ne (by omega)]; exact hw) (by rw [upI_ne (by omega)]; exact r0))]
    exact ⟨rfl, hIv0.ask0 (Dn.up (Dn.up (Dn.refl σ) rfl) rfl) rfl⟩
  · refine c_findJ hY (fun τ K hm hT hTR hWK h139 h5 => ?_)
    obtain ⟨hV, hsk, hch, hgo, ⟨kg, g0, g99⟩, hat, ka, ha0, hto, hne⟩ := hY
    have hVt := hV.dn K hm
    have hkt := hVt.1.1
    have K1 : Dn [0] σ (sa_upI τ 159 0 0) := K.up rfl
    have hVt1 := hV.dn K1 hm
    have w0 : (sa_upI τ 159 0 0).1 173 (7 * c) = nI a0 := by rw [hVt1.2.1, toW_own0 (by have := hgo.1; omega)]; exact ka
    have fp : f_X12_isPlace 159 (nI to) (sa_upI τ 159 0 0) = some (nI 1, sa_upI τ 159 0 0) := by
      have r0' : (sa_upI τ 159 0 0).1 159 25 = nI P := hVt1.1.2.2.1.2.1.2.2.2.1
      refine run_of ?_
      generalize sa_upI τ 159 0 0 = τ0 at *
      clear hV hVt hVt1 hat hT hTR hWK hch hsk hIv0 hI hLD
      simp (disch := omega) only [f_X12_isPlace, wp_gd, wp_bnd, wp_let, wp_jn0, wp_jn1, wp_jn2, wp_if, wp_ret, wp_rdI, wp_rdL, v_rdR, v_ldI, v_ldL, v_ldR, v_stI, v_stB, v_stZ, v_stL, wp_wrI, wp_wrL, wp_wrR, wp_wrZ, wp_retZ, v_md, v_dv, v_tb, upI_2, true_and, and_true, Nat.add_sub_cancel, Nat.zero_lt_succ, Nat.succ_pos, okN, clN, L0, L1, L2, L3, L4, L5, L6, L7, L8, L9, L10, L11, L12, L13, L14, L15, L16, L17, L18, L19, L20, L21, L22, L23, L24, L25, L26, L27, L28, L29, L30, L31, L32, L33, L34, L35, L36, L37, L38, L39, L40, L41, L42, L43, L44, L45, L46, L47, L48, L49, L50, L51, L52, L53, L54, L55, L56, L57, L58, L59, L60, L61, L62, L63, L64, L65, L66, L67, L68, L69, L70, L71, L72, L73, L74, L75, L76, L77, L78, L79, L80, L81, L82, L83, L84, L85, L86, L87, L88, L89, L90, L91, L92, L93, L94, L95, L96, L97, L98, L99, L100, L101, L102, L103, L104, L105, L106, L107, L108, L109, L110, L111, L112, L113, L114, L115, L116, L117, L118, L119, L120, L121, L122, L123, L124, L125, L126, L127, L128, L129, L130, L131, L200, L240, L255, L260, L1000, L4096, L10140, L1000000, ng1, mI_lt, mI_le, lt_mI, le_mI, eq_mI, mI_eq, mI_mI, mI_mE, nI_add, pk_mul, pk_sub, pk_rem, sa_minN, sa_maxN, ne_eq, nI_leI, nI_ltI, nI_eq, dT_le, dF_le, dT_lt, dF_lt, dT_eq, dF_eq, true_imp_iff, false_imp_iff, not_true_eq_false, not_false_eq_true, false_or, or_false, true_or, or_true, false_and, and_false, Decidable.not_not, reduceIte, if_true, if_false, upI_self, upI_ne, upL_1, upL_21, upL_self, upL_ne, upR_1, upR_22, upR_self, upR_ne, va_up_self, va_up_ne, Nat.reduceAdd, Nat.reduceMul, Nat.reduceSub, Nat.reduceLT, Nat.reduceLeDiff, Nat.reduceEqDiff, Nat.reduceSubDiff, Nat.zero_add, cm3, cm5, cm7, cm8, cm25, Nat.not_lt_zero, Nat.zero_le, not_false_iff, and_self, imp_self, implies_true, forall_const, Nat.lt_irrefl, Nat.le_refl, and_imp, sh_159, r0']
    rw [wp_jn1, wp_if]
    refine ⟨fun q => absurd q (by decide), fun _ => ?_⟩
    rw [wp_bnd, wp_rdR (v := 136) rfl (by rw [K.1 0 10 (by omega) (by omega)]; exact sk_0_10 hk), wp_bnd, wp_rdI, hTR.1]
    refine ⟨rfl, ?_⟩
    rw [wp_ret]
    unfold f_X12_journeys
    rw [wp_gd]
    refine ⟨rfl, ?_⟩
    rw [wp_bnd, wp_wrI]
    refine ⟨rfl, ?_⟩
    have c8 := hgo.1
    rw [wp_bnd, wp_rdR (v := 173) rfl (sk_159_35 hVt1.1.1), wp_bnd, wp_of_eq (hat.2 _ 173 wl al_173 hVt1.2.1), wp_jn0, wp_if]
    refine ⟨fun q => absurd q (by decide), fun _ => ?_⟩
    rw [wp_bnd, wp_of_eq fp, wp_if]
    refine ⟨fun q => absurd q (by decide), fun _ => ?_⟩
    rw [wp_bnd, wp_rdR (v := 173) rfl (sk_159_35 hVt1.1.1), wp_bnd, wp_ldI (n := 7 * c) (len := 260) al_173 (i7 c) (by omega) (by omega), w0, wp_if, nI_eq (by omega) (by omega)]
    refine ⟨fun _ => ?_, fun q => absurd hne q⟩
    rw [wp_bnd]
    refine m_layB (s := 2) hVt1 hsk hgo kg (by omega) hat (by omega) hto ka ha0 hne (fun υ nf rb => ?_)
    have hln := pth_len (P := P) (W := W) (z := σ.1 (L + 2)) (to := to) P8 60 [a0] a0 (2 ^ a0) (Tr.one ha0 P8)
    have hb8 : 8 ^ (8 - [a0].length) = 2097152 := rfl
    rw [wp_bnd, wp_rdI, rb.1]
    refine ⟨rfl, ?_⟩
    rw [wp_ret]
    refine ⟨?_, j_fin hIv0 K1 nf⟩
    have e200 : sa_min 200 (nI (pth P W (σ.1 (L + 2)) to 60 [a0] a0 (2 ^ a0)).length) = nI (min 200 (pth P W (σ.1 (L + 2)) to 60 [a0] a0 (2 ^ a0)).length) := sa_minN (a := 200) (by omega) (by omega)
    rw [e200]
    unfold jrs
    rw [List.length_take]
