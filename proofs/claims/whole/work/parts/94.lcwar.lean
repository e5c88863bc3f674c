section LCWAR
variable {L P W F n H B N : Nat} {f : Nat → LWt} {z : Nat → Int32} {hold : Int32} {x : Int64}
/-- the hour j of a war -/
def AW (L P W F n H B : Nat) (f : Nat → LWt) (z : Nat → Int32) (hold : Int32) (x : Int64) (j : Nat) (k : Nat → Int32) (res : Option (Int32 × (Nat → Int32))) : Prop :=
  AR L P W F n f z hold 4 (nI (rb z (xI P x j) P)) (nI 0) k res ∧ res.isSome = true ∧ ∀ r k', res = some (r, k') → r ≠ mI ∧ ∃ m', KM P W (H + j + 1) (B + 815 * j + 815) m' k'
theorem Ch.kmW {k0 : Nat → Int32} {h0 : List (Nat → Int32)} (h : ∃ m, KM P W H B m k0) : ∀ {j : Nat} {k : Nat → Int32} {hs : List (Nat → Int32)}, Ch (AW L P W F n H B f z hold x) k0 h0 j k hs → ∃ m, KM P W (H + j) (B + 815 * j) m k := by
  intro j
  cases j with
  | zero => rintro k hs ⟨rfl, rfl⟩; exact h
  | succ j =>
    rintro k' hs' ⟨k, hs, r, h1, h2, rfl⟩
    obtain ⟨m', hm⟩ := (h2.2.2 r k' rfl).2
    exact ⟨m', hm.mono (by omega) (by omega)⟩
theorem Ch.kvW {k0 : Nat → Int32} {h0 : List (Nat → Int32)} {H2 B2 : Nat} (h : ∃ m, KM P W H B m k0) (hh : ∀ c ∈ h0, KV P W H2 B2 c) : ∀ {j : Nat} {k : Nat → Int32} {hs : List (Nat → Int32)}, Ch (AW L P W F n H B f z hold x) k0 h0 j k hs → H + j ≤ H2 → B + 815 * j ≤ B2 → ∀ c ∈ hs, KV P W H2 B2 c := by
  intro j
  induction j with
  | zero => rintro k hs ⟨rfl, rfl⟩ _ _; exact hh
  | succ j ih =>
    rintro k' hs' ⟨k, hs, r, h1, h2, rfl⟩ g1 g2 c hc
    rcases List.mem_cons.mp (List.mem_of_mem_take hc) with rfl | hc2
    · obtain ⟨m, hm⟩ := Ch.kmW h h1
      exact (hm.mono (by omega) (by omega)).to
    · exact ih h1 (by omega) (by omega) c hc2
theorem AW.ex (hz : ZR P W F z) {k : Nat → Int32} {m j : Nat} (hkm : KM P W (H + j) (B + 815 * j) m k) (hH : H + j ≤ 100000) (hB : B + 815 * j + 2000 < 2 ^ 30) : ∃ res, AW L P W F n H B f z hold x j k res := by
  have hr : rb z (xI P x j) P < 2 ^ 31 := Nat.lt_of_lt_of_le (rb_lt z _ P) (Nat.pow_le_pow_right (by omega) (by have := hz.1.1; omega))
  obtain ⟨k', h1, h2, h3⟩ := AR_hour (L := L) (n := n) (f := f) (hold := hold) hz hkm hH hB hr (nI 0)
  exact ⟨_, h1, rfl, fun r k2 h => by cases h; exact ⟨h3, m, h2⟩⟩
theorem c_war {σ : sa_St} {hist : List (Nat → Int32)} {Q : Int32 → sa_St → Prop} (hcx : Cx L P W F n f z hold σ) (hP : 0 < P) (hN : N ≤ 48) (hkm : ∃ m, KM P W H B m (σ.1 45)) (hH : H + 48 ≤ 100000) (hB : B + 50000 < 2 ^ 30) (hpc : PC hist (σ.1 48 3) (σ.1 48 4) (fun i => σ.1 (53 + 2 * i)))
    (hQ : ∀ k hs τ, Ch (AW L P W F n H B f z hold x) (σ.1 45) hist N k hs → FA σ τ → τ.1 45 = k → PC hs (τ.1 48 3) (τ.1 48 4) (fun i => τ.1 (53 + 2 * i)) → Q (k 21) τ) :
    wp (sa_wh2 (fun j29 (x4 : Int64) (x5 : Int32) =>
if nI N ≤ x5 then
sa_bnd (sa_rdR 11 0 6) fun v6 =>
sa_bnd (sa_rdR 0 v6 0) fun v7 =>
sa_bnd (sa_ldI .int v7 21) fun v8 =>
sa_ret (v8 : Int32)
else
sa_let (0 : Int32) fun x9 =>
sa_let (0 : Int32) fun x10 =>
sa_wh3 (fun j41 (x11 : Int64) (x12 : Int32) (x13 : Int32) =>
sa_bnd (sa_rdR 11 0 1) fun v14 =>
sa_bnd (sa_rdR 1 v14 0) fun v15 =>
sa_bnd (sa_ldI .int v15 0) fun v16 =>
if v16 ≤ x13 then
sa_bnd (f_X11_act 0 4 x12 0) fun v17 =>
sa_let ((x5 + 1) : Int32) fun x18 =>
j29 x11 x18
else
sa_let (((x11 * 6364136223846793005) + 1442695040888963407) : Int64) fun x19 =>
sa_bnd (sa_mdL ((x19.toUInt64 >>> ((33 : Int32).toInt64.toUInt64 &&& Int64.toUInt64 63)).toInt64) 100) fun v20 =>
sa_bnd (sa_rdR 11 0 1) fun v21 =>
sa_bnd (f_X1_cell v21 0 x13 2) fun v22 =>
sa_jn1 (fun (x23 : Int32) =>
sa_let ((x13 + 1) : Int32) fun x24 =>
j41 x19 x23 x24) fun j101 =>
if 0 ≤ (lg_cmp v20 (v22.toInt64)) then
j101 x12
else
sa_let ((x12 ||| (1 <<< (x13 &&& 31))) : Int32) fun x25 =>
j101 x25) sa_F x4 x9 x10) sa_F x 0) σ Q := by
  refine wp_for2 N 0 (fun i u τ => ∃ k hs, u = xI P x i ∧ Ch (AW L P W F n H B f z hold x) (σ.1 45) hist i k hs ∧ FA σ τ ∧ τ.1 45 = k ∧ PC hs (τ.1 48 3) (τ.1 48 4) (fun i => τ.1 (53 + 2 * i))) ?_ ?_ ⟨σ.1 45, hist, rfl, ⟨rfl, rfl⟩, FA.refl σ, rfl, hpc⟩ (by omega) (by unfold sa_F; omega)
  · rintro i u τ hi ⟨k, hs, rfl, hch, hFA, h45, hpc2⟩ c hc
    have hcx2 := hFA.cx hcx
    obtain ⟨m, hm⟩ := Ch.kmW hkm hch
    obtain ⟨res, hax⟩ := AW.ex (L := L) (n := n) (f := f) (hold := hold) (x := x) hcx.zr hm (by omega) (by omega)
    rw [wp_if]
    refine ⟨fun q => absurd q (nI_ge hi (by omega)), fun _ => ?_⟩
    rw [wp_let, wp_let]
    refine c_draws (x := xI P x i) (ex := fun x11 x12 => sa_bnd (f_X11_act 0 4 x12 0) fun v17 => sa_let ((nI i + 1) : Int32) fun x18 => c x11 x18) hcx2 ?_
    rw [wp_bnd]
    show wp (f_X11_act 0 (nI 4) (nI (rb z (xI P x i) P)) (nI 0)) τ _
    refine c_act hcx2 hP hpc2 h45 hax.1 (fun r k' h => (hax.2.2 r k' h).1) (fun hn => by have h9 := hax.2.1; rw [hn] at h9; cases h9) (fun r k' hs2 τ2 hF2 h452 hpc3 => ?_)
    rw [wp_let, nI_1]
    refine hc _ τ2 ⟨k', (k :: hs).take 40, rfl, ⟨k, hs, r, hch, ?_, rfl⟩, hFA.trans hF2, h452, hpc3⟩
    rw [← hs2]
    exact hax
  · rintro u τ ⟨k, hs, rfl, hch, hFA, h45, hpc2⟩ c
    have hcx2 := hFA.cx hcx
    have hk := hcx2.1
    rw [wp_if]
    refine ⟨fun _ => ?_, fun q => absurd (nI_le (Nat.le_refl N) (by omega)) q⟩
    have hq := hQ k hs τ hch hFA h45 hpc2
    rw [← h45] at hq
    clear hcx hcx2 hkm hch hQ
    simp (disch := omega) only [wp_gd, wp_bnd, wp_let, wp_jn0, wp_jn1, wp_jn2, wp_if, wp_ret, wp_rdI, wp_rdL, v_rdR, v_ldI, v_ldL, v_ldR, v_stI, v_stB, v_stZ, v_stL, wp_wrI, wp_wrL, wp_wrR, wp_wrZ, wp_retZ, v_md, v_dv, v_tb, upI_2, true_and, and_true, Nat.add_sub_cancel, Nat.zero_lt_succ, Nat.succ_pos, okN, clN, L0, L1, L2, L3, L4, L5, L6, L7, L8, L9, L10, L11, L12, L13, L14, L15, L16, L17, L18, L19, L20, L21, L22, L23, L24, L25, L26, L27, L28, L29, L30, L31, L32, L33, L34, L35, L36, L37, L38, L39, L40, L41, L42, L43, L44, L45, L46, L47, L48, L49, L50, L51, L52, L53, L54, L55, L56, L57, L58, L59, L60, L61, L62, L63, L64, L65, L66, L67, L68, L69, L70, L71, L72, L73, L74, L75, L76, L77, L78, L79, L80, L81, L82, L83, L84, L85, L86, L87, L88, L89, L90, L91, L92, L93, L94, L95, L96, L97, L98, L99, L100, L101, L102, L103, L104, L105, L106, L107, L108, L109, L110, L111, L112, L113, L114, L115, L116, L117, L118, L119, L120, L121, L122, L123, L124, L125, L126, L127, L128, L129, L130, L131, L200, L240, L255, L260, L1000, L4096, L10140, L1000000, ng1, mI_lt, mI_le, lt_mI, le_mI, eq_mI, mI_eq, mI_mI, mI_mE, nI_add, pk_mul, pk_sub, pk_rem, sa_minN, sa_maxN, ne_eq, nI_leI, nI_ltI, nI_eq, dT_le, dF_le, dT_lt, dF_lt, dT_eq, dF_eq, true_imp_iff, false_imp_iff, not_true_eq_false, not_false_eq_true, false_or, or_false, true_or, or_true, false_and, and_false, Decidable.not_not, reduceIte, if_true, if_false, upI_self, upI_ne, upL_1, upL_21, upL_self, upL_ne, upR_1, upR_22, upR_self, upR_ne, va_up_self, va_up_ne, Nat.reduceAdd, Nat.reduceMul, Nat.reduceSub, Nat.reduceLT, Nat.reduceLeDiff, Nat.reduceEqDiff, Nat.reduceSubDiff, Nat.zero_add, cm3, cm5, cm7, cm8, cm25, Nat.not_lt_zero, Nat.zero_le, not_false_iff, and_self, imp_self, implies_true, forall_const, Nat.lt_irrefl, Nat.le_refl, and_imp, sh_0, sh_159, sh_1, sh_15, sh_44, sh_46, sh_48, sh_134, sh_136, sh_151, sh_156, sk_0_6 hk, sk_44_0 hk, al_45]
    exact hq
theorem m_war {σ : sa_St} {ks : Nat → Nat → Int32} {hss : Nat → List (Nat → Int32)} {wl0 : Nat → Int32} {Q : Int32 → sa_St → Prop} (hcx : Cx L P W F n f z hold σ) (hP : 0 < P) (hN : N ≤ 48) (hx : σ.2.2 159 44 = x) (hse : ∀ y, y < N → ∃ r, AW L P W F n H B f z hold x y (ks y) (some (r, ks (y + 1))) ∧ hss (y + 1) = (ks y :: hss y).take 40) (hw : σ.1 173 = toW (ks 0) wl0) (hl : LogR (ks 0) wl0) (hpm : PM (hss 0) (σ.1 159 43) (σ.1 177))
    (hQ : ∀ τ wl, FM n f σ τ → τ.1 173 = toW (ks N) wl → LogR (ks N) wl → PM (hss N) (τ.1 159 43) (τ.1 177) → Q (ks N 21) τ) :
    wp (sa_wh1 (fun j34 (x4 : Int32) =>
if nI N ≤ x4 then
sa_bnd (sa_rdR 12 159 35) fun v5 =>
sa_bnd (sa_ldI .int v5 76) fun v6 =>
sa_ret (v6 : Int32)
else
sa_let (0 : Int32) fun x7 =>
sa_let (0 : Int32) fun x8 =>
sa_wh2 (fun j46 (x9 : Int32) (x10 : Int32) =>
sa_bnd (sa_rdI 12 159 25) fun v11 =>
if v11 ≤ x10 then
sa_bnd (f_X12_remember 159) fun _ =>
sa_bnd (sa_rdR 12 159 35) fun v12 =>
sa_bnd (f_X12_goHour 159 v12 x9) fun _ =>
sa_let ((x4 + 1) : Int32) fun x13 =>
j34 x13
else
sa_bnd (f_X12_draw 159 100) fun v14 =>
sa_bnd (sa_rdR 12 159 18) fun v15 =>
sa_bnd (sa_ldI .int v15 ((4 * x10) + 2)) fun v16 =>
sa_jn1 (fun (y17 : Int32) =>
sa_let ((x9 ||| y17) : Int32) fun x18 =>
sa_let ((x10 + 1) : Int32) fun x19 =>
j46 x18 x19) fun j85 =>
if v16 ≤ v14 then
j85 0
else
j85 (1 <<< (x10 &&& 31))) sa_F x7 x8) sa_F 0) σ Q := by
  refine wp_for1 N 0 (fun i τ => ∃ wl, FM n f σ τ ∧ τ.2.2 159 44 = xI P x i ∧ τ.1 173 = toW (ks i) wl ∧ LogR (ks i) wl ∧ PM (hss i) (τ.1 159 43) (τ.1 177)) ?_ ?_ ⟨wl0, ⟨fun _ _ => rfl, Dn.refl σ, hcx.memo⟩, hx, hw, hl, hpm⟩ (by omega) (by unfold sa_F; omega)
  · rintro i τ hi ⟨wl, hFM, hxi, hwi, hli, hpmi⟩ c hc
    have hcx2 := hFM.cx hcx
    obtain ⟨r, hax, hhs⟩ := hse i hi
    rw [wp_if]
    refine ⟨fun q => absurd q (nI_ge hi (by omega)), fun _ => ?_⟩
    rw [wp_let, wp_let]
    refine m_draws (x := xI P x i) (ex := fun x9 => sa_bnd (f_X12_remember 159) fun _ => sa_bnd (sa_rdR 12 159 35) fun v12 => sa_bnd (f_X12_goHour 159 v12 x9) fun _ => sa_let ((nI i + 1) : Int32) fun x13 => c x13) hcx2 hxi ?_
    have hup : FM n f τ (sa_upL τ 159 44 (sdN (xI P x i) P)) := ⟨fun _ _ => rfl, Dn.upL (Dn.refl τ), by
      show MemoR n f ((sa_upL τ 159 44 _).2.2 175) (τ.1 176)
      rw [upL_ne (by omega)]
      exact hcx2.memo⟩
    have hcx3 := hup.cx hcx2
    rw [wp_bnd]
    refine wp_mono (r_do2 hax.1 rfl hcx3 (wl := wl) hwi hli hpmi) (fun _ τ1 h1 => ?_)
    obtain ⟨⟨hcx4, -⟩, h1⟩ := h1
    rw [wp_bnd, wp_rdR (v := 173) rfl (sk_159_35 hcx4.1), wp_bnd]
    show wp (rDo 4 173 (nI (rb z (xI P x i) P)) (nI 0)) τ1 _
    refine wp_mono h1 (fun _ τ2 h2 => ?_)
    obtain ⟨⟨hk2, hlo⟩, wl', hB2, hw4, hl4, hpm4⟩ := h2
    rw [wp_let, nI_1]
    refine hc τ2 ⟨wl', (hFM.trans hup).trans hB2, ?_, hw4, hl4, by rw [hhs]; exact hpm4⟩
    rw [hlo, upL_self, va_up_self]
    rfl
  · rintro τ ⟨wl, hFM, hxi, hwi, hli, hpmi⟩ c
    have hcx2 := hFM.cx hcx
    have hk := hcx2.1
    rw [wp_if]
    refine ⟨fun _ => ?_, fun q => absurd (nI_le (Nat.le_refl N) (by omega)) q⟩
    have hq := hQ τ wl hFM hwi hli hpmi
    clear hcx hcx2 hQ hse
    simp (disch := omega) only [wp_gd, wp_bnd, wp_let, wp_jn0, wp_jn1, wp_jn2, wp_if, wp_ret, wp_rdI, wp_rdL, v_rdR, v_ldI, v_ldL, v_ldR, v_stI, v_stB, v_stZ, v_stL, wp_wrI, wp_wrL, wp_wrR, wp_wrZ, wp_retZ, v_md, v_dv, v_tb, upI_2, true_and, and_true, Nat.add_sub_cancel, Nat.zero_lt_succ, Nat.succ_pos, okN, clN, L0, L1, L2, L3, L4, L5, L6, L7, L8, L9, L10, L11, L12, L13, L14, L15, L16, L17, L18, L19, L20, L21, L22, L23, L24, L25, L26, L27, L28, L29, L30, L31, L32, L33, L34, L35, L36, L37, L38, L39, L40, L41, L42, L43, L44, L45, L46, L47, L48, L49, L50, L51, L52, L53, L54, L55, L56, L57, L58, L59, L60, L61, L62, L63, L64, L65, L66, L67, L68, L69, L70, L71, L72, L73, L74, L75, L76, L77, L78, L79, L80, L81, L82, L83, L84, L85, L86, L87, L88, L89, L90, L91, L92, L93, L94, L95, L96, L97, L98, L99, L100, L101, L102, L103, L104, L105, L106, L107, L108, L109, L110, L111, L112, L113, L114, L115, L116, L117, L118, L119, L120, L121, L122, L123, L124, L125, L126, L127, L128, L129, L130, L131, L200, L240, L255, L260, L1000, L4096, L10140, L1000000, ng1, mI_lt, mI_le, lt_mI, le_mI, eq_mI, mI_eq, mI_mI, mI_mE, nI_add, pk_mul, pk_sub, pk_rem, sa_minN, sa_maxN, ne_eq, nI_leI, nI_ltI, nI_eq, dT_le, dF_le, dT_lt, dF_lt, dT_eq, dF_eq, true_imp_iff, false_imp_iff, not_true_eq_false, not_false_eq_true, false_or, or_false, true_or, or_true, false_and, and_false, Decidable.not_not, reduceIte, if_true, if_false, upI_self, upI_ne, upL_1, upL_21, upL_self, upL_ne, upR_1, upR_22, upR_self, upR_ne, va_up_self, va_up_ne, Nat.reduceAdd, Nat.reduceMul, Nat.reduceSub, Nat.reduceLT, Nat.reduceLeDiff, Nat.reduceEqDiff, Nat.reduceSubDiff, Nat.zero_add, cm3, cm5, cm7, cm8, cm25, Nat.not_lt_zero, Nat.zero_le, not_false_iff, and_self, imp_self, implies_true, forall_const, Nat.lt_irrefl, Nat.le_refl, and_imp, sh_0, sh_159, sh_1, sh_15, sh_44, sh_46, sh_48, sh_134, sh_136, sh_151, sh_156, sk_159_35 hk, al_173, hwi, toW_76]
    exact hq
end LCWAR
theorem lc15 (k : Nat) (hk512 : k ≤ 512) : lc_15 (Inv k) (Inv (k + 1)) := by
  intro σ s1 s2 s3 hI
  refine lco ?_
  generalize ((s2.toInt64 <<< ((32 : Int32).toInt64 &&& 63)) ||| (s3.toInt64 &&& 4294967295)) = x
  obtain ⟨L, P, W, F, n, f, hIv⟩ := Iv.of hI
  have hIv0 := hIv
  obtain ⟨hk, hL, hT, hLd, hM, hW, hO, hC, hP, hG, hS, hZ⟩ := hIv
  obtain ⟨⟨a1, a2, a3, a4, a5, a6⟩, e1, e2, e3, e4, e5, e6⟩ := LD.of hk hL
  have hL39 := hL.n
  clear hL39
  obtain ⟨kv, wl, hw, hlg⟩ := hC
  obtain ⟨m, hkm⟩ := KM.of kv
  have hcx := hIv0.cx
  have hLd2 := hLd
  obtain ⟨⟨b1, b2, b3⟩, ⟨c0, c1, c3, r0, r1, r3⟩, lp, lw, lf⟩ := hLd2
  by_cases hP0 : P = 0
  · simp (disch := omega) only [f_X11_war, f_X12_war, f_X1_isEmpty, wp_gd, wp_bnd, wp_let, wp_jn0, wp_jn1, wp_jn2, wp_if, wp_ret, wp_rdI, wp_rdL, v_rdR, v_ldI, v_ldL, v_ldR, v_stI, v_stB, v_stZ, v_stL, wp_wrI, wp_wrL, wp_wrR, wp_wrZ, wp_retZ, v_md, v_dv, v_tb, upI_2, true_and, and_true, Nat.add_sub_cancel, Nat.zero_lt_succ, Nat.succ_pos, okN, clN, L0, L1, L2, L3, L4, L5, L6, L7, L8, L9, L10, L11, L12, L13, L14, L15, L16, L17, L18, L19, L20, L21, L22, L23, L24, L25, L26, L27, L28, L29, L30, L31, L32, L33, L34, L35, L36, L37, L38, L39, L40, L41, L42, L43, L44, L45, L46, L47, L48, L49, L50, L51, L52, L53, L54, L55, L56, L57, L58, L59, L60, L61, L62, L63, L64, L65, L66, L67, L68, L69, L70, L71, L72, L73, L74, L75, L76, L77, L78, L79, L80, L81, L82, L83, L84, L85, L86, L87, L88, L89, L90, L91, L92, L93, L94, L95, L96, L97, L98, L99, L100, L101, L102, L103, L104, L105, L106, L107, L108, L109, L110, L111, L112, L113, L114, L115, L116, L117, L118, L119, L120, L121, L122, L123, L124, L125, L126, L127, L128, L129, L130, L131, L200, L240, L255, L260, L1000, L4096, L10140, L1000000, ng1, mI_lt, mI_le, lt_mI, le_mI, eq_mI, mI_eq, mI_mI, mI_mE, nI_add, pk_mul, pk_sub, pk_rem, sa_minN, sa_maxN, ne_eq, nI_leI, nI_ltI, nI_eq, dT_le, dF_le, dT_lt, dF_lt, dT_eq, dF_eq, true_imp_iff, false_imp_iff, not_true_eq_false, not_false_eq_true, false_or, or_false, true_or, or_true, false_and, and_false, Decidable.not_not, reduceIte, if_true, if_false, upI_self, upI_ne, upL_1, upL_21, upL_self, upL_ne, upR_1, upR_22, upR_self, upR_ne, va_up_self, va_up_ne, Nat.reduceAdd, Nat.reduceMul, Nat.reduceSub, Nat.reduceLT, Nat.reduceLeDiff, Nat.reduceEqDiff, Nat.reduceSubDiff, Nat.zero_add, cm3, cm5, cm7, cm8, cm25, Nat.not_lt_zero, Nat.zero_le, not_false_iff, and_self, imp_self, implies_true, forall_const, Nat.lt_irrefl, Nat.le_refl, and_imp, sh_0, sh_159, sh_1, sh_15, sh_44, sh_46, sh_48, sh_134, sh_136, sh_151, sh_156, e1, e2, e3, e4, e5, e6, a1, a2, a3, a4, a5, a6, c0, c1, c3, r0, r1, r3]
    exact hIv0.ask0 (Dn.up (Dn.refl σ) rfl) rfl
  rcases nx s1 49 with ⟨g1, g2, g3, g4, g5, g6⟩ | ⟨g1, g2, g3, g4, g5, g6, -⟩ | ⟨N, hN, rfl⟩
  · simp (disch := omega) only [f_X11_war, f_X12_war, f_X1_isEmpty, w_isIn, le_sub1, i64le, l64_0, l64_1, l64_2, l64_3, l64_5, l64_6, l64_7, l64_9, l64_12, l64_24, l64_48, l64_99, wp_gd, wp_bnd, wp_let, wp_jn0, wp_jn1, wp_jn2, wp_if, wp_ret, wp_rdI, wp_rdL, v_rdR, v_ldI, v_ldL, v_ldR, v_stI, v_stB, v_stZ, v_stL, wp_wrI, wp_wrL, wp_wrR, wp_wrZ, wp_retZ, v_md, v_dv, v_tb, upI_2, true_and, and_true, Nat.add_sub_cancel, Nat.zero_lt_succ, Nat.succ_pos, okN, clN, L0, L1, L2, L3, L4, L5, L6, L7, L8, L9, L10, L11, L12, L13, L14, L15, L16, L17, L18, L19, L20, L21, L22, L23, L24, L25, L26, L27, L28, L29, L30, L31, L32, L33, L34, L35, L36, L37, L38, L39, L40, L41, L42, L43, L44, L45, L46, L47, L48, L49, L50, L51, L52, L53, L54, L55, L56, L57, L58, L59, L60, L61, L62, L63, L64, L65, L66, L67, L68, L69, L70, L71, L72, L73, L74, L75, L76, L77, L78, L79, L80, L81, L82, L83, L84, L85, L86, L87, L88, L89, L90, L91, L92, L93, L94, L95, L96, L97, L98, L99, L100, L101, L102, L103, L104, L105, L106, L107, L108, L109, L110, L111, L112, L113, L114, L115, L116, L117, L118, L119, L120, L121, L122, L123, L124, L125, L126, L127, L128, L129, L130, L131, L200, L240, L255, L260, L1000, L4096, L10140, L1000000, ng1, mI_lt, mI_le, lt_mI, le_mI, eq_mI, mI_eq, mI_mI, mI_mE, nI_add, pk_mul, pk_sub, pk_rem, sa_minN, sa_maxN, ne_eq, nI_leI, nI_ltI, nI_eq, dT_le, dF_le, dT_lt, dF_lt, dT_eq, dF_eq, true_imp_iff, false_imp_iff, not_true_eq_false, not_false_eq_true, false_or, or_false, true_or, or_true, false_and, and_false, Decidable.not_not, reduceIte, if_true, if_false, upI_self, upI_ne, upL_1, upL_21, upL_self, upL_ne, upR_1, upR_22, upR_self, upR_ne, va_up_self, va_up_ne, Nat.reduceAdd, Nat.reduceMul, Nat.reduceSub, Nat.reduceLT, Nat.reduceLeDiff, Nat.reduceEqDiff, Nat.reduceSubDiff, Nat.zero_add, cm3, cm5, cm7, cm8, cm25, Nat.not_lt_zero, Nat.zero_le, not_false_iff, and_self, imp_self, implies_true, forall_const, Nat.lt_irrefl, Nat.le_refl, and_imp, sh_0, sh_159, sh_1, sh_15, sh_44, sh_46, sh_48, sh_134, sh_136, sh_151, sh_156, e1, e2, e3, e4, e5, e6, a1, a2, a3, a4, a5, a6, c0, c1, c3, r0, r1, r3, g1, g2, g3, g4, g5, g6]
    exact hIv0.ask0 (Dn.up (Dn.refl σ) rfl) rfl
  · simp (disch := omega) only [f_X11_war, f_X12_war, f_X1_isEmpty, w_isIn, le_sub1, i64le, l64_0, l64_1, l64_2, l64_3, l64_5, l64_6, l64_7, l64_9, l64_12, l64_24, l64_48, l64_99, wp_gd, wp_bnd, wp_let, wp_jn0, wp_jn1, wp_jn2, wp_if, wp_ret, wp_rdI, wp_rdL, v_rdR, v_ldI, v_ldL, v_ldR, v_stI, v_stB, v_stZ, v_stL, wp_wrI, wp_wrL, wp_wrR, wp_wrZ, wp_retZ, v_md, v_dv, v_tb, upI_2, true_and, and_true, Nat.add_sub_cancel, Nat.zero_lt_succ, Nat.succ_pos, okN, clN, L0, L1, L2, L3, L4, L5, L6, L7, L8, L9, L10, L11, L12, L13, L14, L15, L16, L17, L18, L19, L20, L21, L22, L23, L24, L25, L26, L27, L28, L29, L30, L31, L32, L33, L34, L35, L36, L37, L38, L39, L40, L41, L42, L43, L44, L45, L46, L47, L48, L49, L50, L51, L52, L53, L54, L55, L56, L57, L58, L59, L60, L61, L62, L63, L64, L65, L66, L67, L68, L69, L70, L71, L72, L73, L74, L75, L76, L77, L78, L79, L80, L81, L82, L83, L84, L85, L86, L87, L88, L89, L90, L91, L92, L93, L94, L95, L96, L97, L98, L99, L100, L101, L102, L103, L104, L105, L106, L107, L108, L109, L110, L111, L112, L113, L114, L115, L116, L117, L118, L119, L120, L121, L122, L123, L124, L125, L126, L127, L128, L129, L130, L131, L200, L240, L255, L260, L1000, L4096, L10140, L1000000, ng1, mI_lt, mI_le, lt_mI, le_mI, eq_mI, mI_eq, mI_mI, mI_mE, nI_add, pk_mul, pk_sub, pk_rem, sa_minN, sa_maxN, ne_eq, nI_leI, nI_ltI, nI_eq, dT_le, dF_le, dT_lt, dF_lt, dT_eq, dF_eq, true_imp_iff, false_imp_iff, not_true_eq_false, not_false_eq_true, false_or, or_false, true_or, or_true, false_and, and_false, Decidable.not_not, reduceIte, if_true, if_false, upI_self, upI_ne, upL_1, upL_21, upL_self, upL_ne, upR_1, upR_22, upR_self, upR_ne, va_up_self, va_up_ne, Nat.reduceAdd, Nat.reduceMul, Nat.reduceSub, Nat.reduceLT, Nat.reduceLeDiff, Nat.reduceEqDiff, Nat.reduceSubDiff, Nat.zero_add, cm3, cm5, cm7, cm8, cm25, Nat.not_lt_zero, Nat.zero_le, not_false_iff, and_self, imp_self, implies_true, forall_const, Nat.lt_irrefl, Nat.le_refl, and_imp, sh_0, sh_159, sh_1, sh_15, sh_44, sh_46, sh_48, sh_134, sh_136, sh_151, sh_156, e1, e2, e3, e4, e5, e6, a1, a2, a3, a4, a5, a6, c0, c1, c3, r0, r1, r3, g1, g2, g3, g4, g5, g6]
    exact hIv0.ask0 (Dn.up (Dn.refl σ) rfl) rfl
  by_cases hN0 : N = 0
  · simp (disch := omega) only [f_X11_war, f_X12_war, f_X1_isEmpty, w_isIn, le_sub1, i64le, l64_0, l64_1, l64_2, l64_3, l64_5, l64_6, l64_7, l64_9, l64_12, l64_24, l64_48, l64_99, wp_gd, wp_bnd, wp_let, wp_jn0, wp_jn1, wp_jn2, wp_if, wp_ret, wp_rdI, wp_rdL, v_rdR, v_ldI, v_ldL, v_ldR, v_stI, v_stB, v_stZ, v_stL, wp_wrI, wp_wrL, wp_wrR, wp_wrZ, wp_retZ, v_md, v_dv, v_tb, upI_2, true_and, and_true, Nat.add_sub_cancel, Nat.zero_lt_succ, Nat.succ_pos, okN, clN, L0, L1, L2, L3, L4, L5, L6, L7, L8, L9, L10, L11, L12, L13, L14, L15, L16, L17, L18, L19, L20, L21, L22, L23, L24, L25, L26, L27, L28, L29, L30, L31, L32, L33, L34, L35, L36, L37, L38, L39, L40, L41, L42, L43, L44, L45, L46, L47, L48, L49, L50, L51, L52, L53, L54, L55, L56, L57, L58, L59, L60, L61, L62, L63, L64, L65, L66, L67, L68, L69, L70, L71, L72, L73, L74, L75, L76, L77, L78, L79, L80, L81, L82, L83, L84, L85, L86, L87, L88, L89, L90, L91, L92, L93, L94, L95, L96, L97, L98, L99, L100, L101, L102, L103, L104, L105, L106, L107, L108, L109, L110, L111, L112, L113, L114, L115, L116, L117, L118, L119, L120, L121, L122, L123, L124, L125, L126, L127, L128, L129, L130, L131, L200, L240, L255, L260, L1000, L4096, L10140, L1000000, ng1, mI_lt, mI_le, lt_mI, le_mI, eq_mI, mI_eq, mI_mI, mI_mE, nI_add, pk_mul, pk_sub, pk_rem, sa_minN, sa_maxN, ne_eq, nI_leI, nI_ltI, nI_eq, dT_le, dF_le, dT_lt, dF_lt, dT_eq, dF_eq, true_imp_iff, false_imp_iff, not_true_eq_false, not_false_eq_true, false_or, or_false, true_or, or_true, false_and, and_false, Decidable.not_not, reduceIte, if_true, if_false, upI_self, upI_ne, upL_1, upL_21, upL_self, upL_ne, upR_1, upR_22, upR_self, upR_ne, va_up_self, va_up_ne, Nat.reduceAdd, Nat.reduceMul, Nat.reduceSub, Nat.reduceLT, Nat.reduceLeDiff, Nat.reduceEqDiff, Nat.reduceSubDiff, Nat.zero_add, cm3, cm5, cm7, cm8, cm25, Nat.not_lt_zero, Nat.zero_le, not_false_iff, and_self, imp_self, implies_true, forall_const, Nat.lt_irrefl, Nat.le_refl, and_imp, sh_0, sh_159, sh_1, sh_15, sh_44, sh_46, sh_48, sh_134, sh_136, sh_151, sh_156, e1, e2, e3, e4, e5, e6, a1, a2, a3, a4, a5, a6, c0, c1, c3, r0, r1, r3]
    exact hIv0.ask0 (Dn.up (Dn.refl σ) rfl) rfl
  obtain ⟨hist, hpc, hpm, hkv⟩ := PastR.un hP
  have key := c_war (x := x) (Q := fun r τ => wp (f_X12_war 159 (nI N) x) τ (fun r2 τ2 => r2 = r ∧ Inv (k + 1) τ2)) hcx (by omega) (show N ≤ 48 by omega) ⟨m, hkm⟩ (by omega) (by omega) hpc (fun kE hs τ hch hFA h45 hpc2 => by
    obtain ⟨ks, hss, e0, e1', e2', e3', e4'⟩ := hch.seq
    have hcx2 := hFA.cx hcx
    have m1 := hFA.2.1
    have r0' := hcx2.2.2.1.2.1.2.2.2.1
    have h25 : (sa_upI τ 159 0 0).1 159 25 = nI P := by rw [upI_self, va_up_ne _ _ (by omega)]; exact r0'
    have hup : FM n f τ (sa_upL (sa_upI τ 159 0 0) 159 44 x) := ⟨fun j hj => upI_ne (by omega), Dn.upL (Dn.up (Dn.refl τ) rfl), by
      show MemoR n f ((sa_upL (sa_upI τ 159 0 0) 159 44 x).2.2 175) ((sa_upI τ 159 0 0).1 176)
      rw [upL_ne (by omega), upI_ne (by omega)]
      exact hcx2.memo⟩
    have t173 : (sa_upL (sa_upI τ 159 0 0) 159 44 x).1 173 = toW (ks 0) wl := by
      show (sa_upI τ 159 0 0).1 173 = _
      rw [upI_ne (by omega), (m1 173 (by omega)).1, e0]
      exact hw
    have tpm : PM (hss 0) ((sa_upL (sa_upI τ 159 0 0) 159 44 x).1 159 43) ((sa_upL (sa_upI τ 159 0 0) 159 44 x).1 177) := by
      show PM (hss 0) ((sa_upI τ 159 0 0).1 159 43) ((sa_upI τ 159 0 0).1 177)
      simp (disch := omega) only [upI_self, upI_ne, va_up_ne]
      rw [(m1 159 (by omega)).1, (m1 177 (by omega)).1, e1']
      exact hpm
    have hgo := m_war (Q := fun r2 τ2 => r2 = kE 21 ∧ Inv (k + 1) τ2) (hup.cx hcx2) (by omega) (show N ≤ 48 by omega) (by rw [upL_self, va_up_self]) e4' t173 (by rw [e0]; exact hlg) tpm (fun τ2 wl2 hB2 hw2 hl2 hpm2 => by
      obtain ⟨mE, hmE⟩ := Ch.kmW ⟨m, hkm⟩ hch
      rw [e2'] at hw2 hl2 ⊢
      rw [e3'] at hpm2
      exact ⟨rfl, act_fin hIv0 hFA h45 hpc2 (hup.trans hB2) hw2 hl2 hpm2 (hmE.mono (by omega) (by omega)).to (Ch.kvW ⟨m, hkm⟩ (fun c hc => (hkv c hc).mono (by omega) (by omega)) hch (by omega) (by omega))⟩)
    unfold f_X12_war
    rw [wp_gd]
    refine ⟨rfl, ?_⟩
    rw [wp_bnd, wp_wrI]
    refine ⟨rfl, ?_⟩
    rw [wp_bnd, wp_rdI]
    refine ⟨rfl, ?_⟩
    rw [h25, wp_jn0, wp_if]
    refine ⟨fun q => absurd q (by rw [L0, nI_eq (by omega) (by omega)]; exact hP0), fun _ => ?_⟩
    rw [wp_bnd, w_isIn]
    refine ⟨fun _ => ?_, fun q => absurd ?_ q⟩
    · rw [wp_if]
      refine ⟨fun _ => ?_, fun q => absurd (show ¬ nI 1 = 0 by decide) q⟩
      rw [wp_bnd, wp_wrL]
      refine ⟨rfl, ?_⟩
      rw [wp_let]
      exact hgo
    · rw [l64_1, l64_48, i64le, i64le, nI_leI (by omega) (by omega), nI_leI (by omega) (by omega)]
      omega)
  unfold f_X11_war
  have f2 : f_X1_isEmpty L σ = some (nI 0, σ) := by
    refine run_of ?_
    simp (disch := omega) only [f_X1_isEmpty, wp_gd, wp_bnd, wp_let, wp_jn0, wp_jn1, wp_jn2, wp_if, wp_ret, wp_rdI, wp_rdL, v_rdR, v_ldI, v_ldL, v_ldR, v_stI, v_stB, v_stZ, v_stL, wp_wrI, wp_wrL, wp_wrR, wp_wrZ, wp_retZ, v_md, v_dv, v_tb, upI_2, true_and, and_true, Nat.add_sub_cancel, Nat.zero_lt_succ, Nat.succ_pos, okN, clN, L0, L1, L2, L3, L4, L5, L6, L7, L8, L9, L10, L11, L12, L13, L14, L15, L16, L17, L18, L19, L20, L21, L22, L23, L24, L25, L26, L27, L28, L29, L30, L31, L32, L33, L34, L35, L36, L37, L38, L39, L40, L41, L42, L43, L44, L45, L46, L47, L48, L49, L50, L51, L52, L53, L54, L55, L56, L57, L58, L59, L60, L61, L62, L63, L64, L65, L66, L67, L68, L69, L70, L71, L72, L73, L74, L75, L76, L77, L78, L79, L80, L81, L82, L83, L84, L85, L86, L87, L88, L89, L90, L91, L92, L93, L94, L95, L96, L97, L98, L99, L100, L101, L102, L103, L104, L105, L106, L107, L108, L109, L110, L111, L112, L113, L114, L115, L116, L117, L118, L119, L120, L121, L122, L123, L124, L125, L126, L127, L128, L129, L130, L131, L200, L240, L255, L260, L1000, L4096, L10140, L1000000, ng1, mI_lt, mI_le, lt_mI, le_mI, eq_mI, mI_eq, mI_mI, mI_mE, nI_add, pk_mul, pk_sub, pk_rem, sa_minN, sa_maxN, ne_eq, nI_leI, nI_ltI, nI_eq, dT_le, dF_le, dT_lt, dF_lt, dT_eq, dF_eq, true_imp_iff, false_imp_iff, not_true_eq_false, not_false_eq_true, false_or, or_false, true_or, or_true, false_and, and_false, Decidable.not_not, reduceIte, if_true, if_false, upI_self, upI_ne, upL_1, upL_21, upL_self, upL_ne, upR_1, upR_22, upR_self, upR_ne, va_up_self, va_up_ne, Nat.reduceAdd, Nat.reduceMul, Nat.reduceSub, Nat.reduceLT, Nat.reduceLeDiff, Nat.reduceEqDiff, Nat.reduceSubDiff, Nat.zero_add, cm3, cm5, cm7, cm8, cm25, Nat.not_lt_zero, Nat.zero_le, not_false_iff, and_self, imp_self, implies_true, forall_const, Nat.lt_irrefl, Nat.le_refl, and_imp, e1, e2, e3, e4, e5, e6, a1, a2, a3, a4, a5, a6, c0, c1, c3, r0, r1, r3]
  rw [wp_gd]
  refine ⟨rfl, ?_⟩
  rw [wp_bnd, wp_rdR (v := L) rfl a1, wp_bnd, wp_of_eq f2, wp_jn0, wp_if]
  refine ⟨fun q => absurd (show nI 0 = 0 from rfl) q, fun _ => ?_⟩
  rw [wp_if]
  refine ⟨fun q => absurd q (by rw [L1, nI_ltI (by omega) (by omega)]; omega), fun _ => ?_⟩
  rw [wp_if]
  refine ⟨fun _ => ?_, fun q => absurd (nI_le (show N ≤ 48 by omega) (by omega)) q⟩
  rw [wp_let]
  exact key
