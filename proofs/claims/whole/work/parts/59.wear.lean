/-! WHAT RAIN TAKES: the class's loss, the reference's wearBy -/
def zq (x : Int32) : Nat := if x ≤ 0 then 0 else min 99 x.toNatClampNeg
theorem zq_le (x : Int32) : zq x ≤ 99 := by
  unfold zq
  by_cases h : x ≤ 0
  · rw [if_pos h]; omega
  · rw [if_neg h]; omega
theorem zq_neg {x : Int32} (h : x < 0) : zq x = 0 := by
  unfold zq
  rw [if_pos]
  rw [Int32.lt_iff_toInt_lt] at h
  rw [Int32.le_iff_toInt_le]
  omega
theorem zq_nI {j : Nat} (h : j < 2 ^ 31) : zq (nI j) = min 99 j := by
  unfold zq
  rw [L0, nI_clamp h]
  by_cases h0 : j = 0
  · subst h0; rw [if_pos (by decide)]; rfl
  · rw [if_neg]
    rw [nI_leI h (by omega)]
    omega
theorem zq_cls (x : Int32) {g : Nat} (hg : g ≤ 99) : sa_max (nI 0) (sa_min (sa_min x (nI 99)) (nI g)) = nI (min (zq x) g) := by
  by_cases h : x < 0
  · rw [zq_neg h]
    have h1 : ¬ nI 99 < x := by
      rw [Int32.lt_iff_toInt_lt] at h ⊢
      rw [nI_toInt (by omega)]
      rw [show (0 : Int32).toInt = 0 from rfl] at h
      omega
    have h2 : ¬ nI g < x := by
      rw [Int32.lt_iff_toInt_lt] at h ⊢
      rw [nI_toInt (by omega)]
      rw [show (0 : Int32).toInt = 0 from rfl] at h
      omega
    have h3 : ¬ nI 0 < x := by
      rw [Int32.lt_iff_toInt_lt] at h ⊢
      rw [nI_toInt (by omega)]
      rw [show (0 : Int32).toInt = 0 from rfl] at h
      omega
    show (if nI 0 < (if nI g < (if nI 99 < x then nI 99 else x) then nI g else (if nI 99 < x then nI 99 else x)) then _ else nI 0) = _
    rw [if_neg h1, if_neg h2, if_neg h3, Nat.zero_min]
  · obtain ⟨j, hj, rfl⟩ := nI_of h
    rw [zq_nI hj]
    have e1 : sa_min (nI j) (nI 99) = nI (min 99 j) := by
      show (if nI 99 < nI j then nI 99 else nI j) = _
      by_cases h1 : 99 < j
      · rw [if_pos ((nI_ltI (by omega) hj).mpr h1), Nat.min_eq_left (by omega)]
      · rw [if_neg (fun h9 => h1 ((nI_ltI (by omega) hj).mp h9)), Nat.min_eq_right (by omega)]
    have e2 : sa_min (nI (min 99 j)) (nI g) = nI (min (min 99 j) g) := by
      show (if nI g < nI (min 99 j) then nI g else nI (min 99 j)) = _
      by_cases h1 : g < min 99 j
      · rw [if_pos ((nI_ltI (by omega) (by omega)).mpr h1), Nat.min_eq_right (by omega)]
      · rw [if_neg (fun h9 => h1 ((nI_ltI (by omega) (by omega)).mp h9))]
        exact congrArg nI (by omega)
    rw [e1, e2]
    show (if nI 0 < nI (min (min 99 j) g) then nI (min (min 99 j) g) else nI 0) = _
    by_cases h1 : 0 < min (min 99 j) g
    · rw [if_pos ((nI_ltI (by omega) (by omega)).mpr h1)]
    · rw [if_neg (fun h9 => h1 ((nI_ltI (by omega) (by omega)).mp h9)), show min (min 99 j) g = 0 by omega]
theorem zq_ref (x : Int32) : sa_max (nI 0) (sa_min (nI 99) x) = nI (zq x) := by
  have h99 := zq_cls x (g := 99) (Nat.le_refl _)
  rw [Nat.min_eq_left (zq_le x)] at h99
  rw [← h99]
  congr 1
  show (if x < nI 99 then x else nI 99) = (if nI 99 < (if nI 99 < x then nI 99 else x) then nI 99 else (if nI 99 < x then nI 99 else x))
  rcases (show x < nI 99 ∨ x = nI 99 ∨ nI 99 < x from by rw [Int32.lt_iff_toInt_lt, Int32.lt_iff_toInt_lt, ← Int32.toInt_inj]; omega) with h | h | h
  · have h2 : ¬ nI 99 < x := by rw [Int32.lt_iff_toInt_lt] at h ⊢; omega
    rw [if_pos h, if_neg h2, if_neg h2]
  · subst h
    simp
  · have h2 : ¬ x < nI 99 := by rw [Int32.lt_iff_toInt_lt] at h ⊢; omega
    rw [if_neg h2, if_pos h]
    simp
/-- what rain takes by the law that holds, however many there are -/
def WN (f : Nat → LWt) (hold : Int32) (g w h m t : Nat) : Nat := zq (if hold = mI then nI w - nI (h / 3) else f hold.toNatClampNeg g w h m t)
theorem WN_le (f : Nat → LWt) (hold : Int32) (g w h m t : Nat) : WN f hold g w h m t ≤ 99 := zq_le _
theorem sk_16 {ρ : Nat → Nat → Nat} (h : SK ρ) {l : Nat} (hl : l < 5) : ρ 16 l = 18 + 3 * l + 1 := by
  match l, hl with
  | 0, _ => exact sk_16_0 h
  | 1, _ => exact sk_16_1 h
  | 2, _ => exact sk_16_2 h
  | 3, _ => exact sk_16_3 h
  | 4, _ => exact sk_16_4 h
  | n + 5, hl => omega
theorem h3d {h : Nat} (hh : h ≤ 9) : nI h / nI 3 = nI (h / 3) := pk_div (by omega) (by omega) (by omega)
theorem w_loss {n : Nat} {f : Nat → LWt} {σ : sa_St} {g w h m t : Nat} {Q : Int32 → sa_St → Prop} (hk : SK σ.2.1) (hW : I_W n f σ) (hg : g ≤ 99) (hw : w ≤ 9) (hh : h ≤ 9) (hm : m ≤ 3) (ht : t ≤ 100000) (hQ : ∀ τ, Fr [17, 20, 23, 26, 29, 32] σ τ → Q (nI (min (WN f (σ.1 15 3) g w h m t) g)) τ) : wp (f_X3_loss 15 (nI g) (nI w) (nI h) (nI m) (nI t)) σ Q := by
  obtain ⟨w1, w2, w3, w4, w5, w6⟩ := hW
  rcases w4 with ⟨e1, e2⟩ | ⟨l, hl, e1, e2⟩
  · have e1' : σ.1 15 3 = mI := e1
    have hf := hQ σ Fr.rfl'
    rw [e1'] at hf
    simp (disch := omega) only [f_X3_loss, wp_gd, wp_bnd, wp_let, wp_jn0, wp_jn1, wp_jn2, wp_if, wp_ret, wp_rdI, wp_rdL, v_rdR, v_ldI, v_ldL, v_ldR, v_stI, v_stB, v_stZ, v_stL, wp_wrI, wp_wrL, wp_wrR, wp_wrZ, wp_retZ, v_md, v_dv, v_tb, upI_2, true_and, and_true, Nat.add_sub_cancel, Nat.zero_lt_succ, Nat.succ_pos, okN, clN, L0, L1, L2, L3, L4, L5, L6, L7, L8, L9, L10, L11, L12, L13, L14, L15, L16, L17, L18, L19, L20, L21, L22, L23, L24, L25, L26, L27, L28, L29, L30, L31, L32, L33, L34, L35, L36, L37, L38, L39, L40, L41, L42, L43, L44, L45, L46, L47, L48, L49, L50, L51, L52, L53, L54, L55, L56, L57, L58, L59, L60, L61, L62, L63, L64, L65, L66, L67, L68, L69, L70, L71, L72, L73, L74, L75, L76, L77, L78, L79, L80, L81, L82, L83, L84, L85, L86, L87, L88, L89, L90, L91, L92, L93, L94, L95, L96, L97, L98, L99, L100, L101, L102, L103, L104, L105, L106, L107, L108, L109, L110, L111, L112, L113, L114, L115, L116, L117, L118, L119, L120, L121, L122, L123, L124, L125, L126, L127, L128, L129, L130, L131, L200, L240, L255, L260, L1000, L4096, L10140, L1000000, ng1, mI_lt, mI_le, lt_mI, le_mI, eq_mI, mI_eq, mI_mI, mI_mE, nI_add, pk_mul, pk_sub, pk_rem, sa_minN, sa_maxN, ne_eq, nI_leI, nI_ltI, nI_eq, dT_le, dF_le, dT_lt, dF_lt, dT_eq, dF_eq, true_imp_iff, false_imp_iff, not_true_eq_false, not_false_eq_true, false_or, or_false, true_or, or_true, false_and, and_false, Decidable.not_not, reduceIte, if_true, if_false, upI_self, upI_ne, upL_1, upL_21, upL_self, upL_ne, upR_1, upR_22, upR_self, upR_ne, va_up_self, va_up_ne, Nat.reduceAdd, Nat.reduceMul, Nat.reduceSub, Nat.reduceLT, Nat.reduceLeDiff, Nat.reduceEqDiff, Nat.reduceSubDiff, Nat.zero_add, cm3, cm5, cm7, cm8, cm25, Nat.not_lt_zero, Nat.zero_le, not_false_iff, and_self, imp_self, implies_true, forall_const, Nat.lt_irrefl, Nat.le_refl, and_imp, sh_15, h3d hh, e1', zq_cls, ne_eq]
    unfold WN at hf
    rw [if_pos rfl] at hf
    exact hf
  · obtain ⟨hC, -⟩ := w5 l hl
    have hl5 : l < 5 := by omega
    have hne : ¬ nI l = mI := by rw [eq_mI (by omega)]; exact not_false
    simp (disch := omega) only [f_X3_loss, wp_gd, wp_bnd, wp_let, wp_jn0, wp_jn1, wp_jn2, wp_if, wp_ret, wp_rdI, wp_rdL, v_rdR, v_ldI, v_ldL, v_ldR, v_stI, v_stB, v_stZ, v_stL, wp_wrI, wp_wrL, wp_wrR, wp_wrZ, wp_retZ, v_md, v_dv, v_tb, upI_2, true_and, and_true, Nat.add_sub_cancel, Nat.zero_lt_succ, Nat.succ_pos, okN, clN, L0, L1, L2, L3, L4, L5, L6, L7, L8, L9, L10, L11, L12, L13, L14, L15, L16, L17, L18, L19, L20, L21, L22, L23, L24, L25, L26, L27, L28, L29, L30, L31, L32, L33, L34, L35, L36, L37, L38, L39, L40, L41, L42, L43, L44, L45, L46, L47, L48, L49, L50, L51, L52, L53, L54, L55, L56, L57, L58, L59, L60, L61, L62, L63, L64, L65, L66, L67, L68, L69, L70, L71, L72, L73, L74, L75, L76, L77, L78, L79, L80, L81, L82, L83, L84, L85, L86, L87, L88, L89, L90, L91, L92, L93, L94, L95, L96, L97, L98, L99, L100, L101, L102, L103, L104, L105, L106, L107, L108, L109, L110, L111, L112, L113, L114, L115, L116, L117, L118, L119, L120, L121, L122, L123, L124, L125, L126, L127, L128, L129, L130, L131, L200, L240, L255, L260, L1000, L4096, L10140, L1000000, ng1, mI_lt, mI_le, lt_mI, le_mI, eq_mI, mI_eq, mI_mI, mI_mE, nI_add, pk_mul, pk_sub, pk_rem, sa_minN, sa_maxN, ne_eq, nI_leI, nI_ltI, nI_eq, dT_le, dF_le, dT_lt, dF_lt, dT_eq, dF_eq, true_imp_iff, false_imp_iff, not_true_eq_false, not_false_eq_true, false_or, or_false, true_or, or_true, false_and, and_false, Decidable.not_not, reduceIte, if_true, if_false, upI_self, upI_ne, upL_1, upL_21, upL_self, upL_ne, upR_1, upR_22, upR_self, upR_ne, va_up_self, va_up_ne, Nat.reduceAdd, Nat.reduceMul, Nat.reduceSub, Nat.reduceLT, Nat.reduceLeDiff, Nat.reduceEqDiff, Nat.reduceSubDiff, Nat.zero_add, cm3, cm5, cm7, cm8, cm25, Nat.not_lt_zero, Nat.zero_le, not_false_iff, and_self, imp_self, implies_true, forall_const, Nat.lt_irrefl, Nat.le_refl, and_imp, sh_15, h3d hh, e1, w2, zq_cls, ne_eq, sk_15_0 hk, sk_15_1 hk, al_17, al_16, sk_16 hk hl5]
    refine wp_mono (hC l _ hl5 ?_ ?_ ?_ g w h m t hg hw hh hm ht ?_ ?_ ?_ ?_ ?_) ?_
    · exact hk
    · simp (disch := omega) only [upI_ne]
    · simp (disch := omega) only [upI_ne]
    · simp (disch := omega) only [upI_self, va_up_self, va_up_ne]
    · simp (disch := omega) only [upI_self, va_up_self, va_up_ne]
    · simp (disch := omega) only [upI_self, va_up_self, va_up_ne]
    · simp (disch := omega) only [upI_self, va_up_self, va_up_ne]
    · simp (disch := omega) only [upI_self, va_up_self, va_up_ne]
    · rintro r τ ⟨rfl, hF⟩
      have h17 : (17 : Nat) ∈ [17, 20, 23, 26, 29, 32] := by decide
      have hq := hQ τ ((Fr.up (Fr.up (Fr.up (Fr.up (Fr.up Fr.rfl' h17) h17) h17) h17) h17).trans (hF.mono (by
        intro j hj
        simp only [List.mem_cons, List.not_mem_nil, or_false] at hj ⊢
        omega)))
      unfold WN at hq
      rw [e1, if_neg hne, nI_clamp (by omega)] at hq
      exact hq
/-- what wearBy may change -/
def Wf (n : Nat) (f : Nat → LWt) (σ τ : sa_St) : Prop := FrR [159, 163, 175, 176] σ τ ∧ (∀ k, ¬ isPF k → τ.1 159 k = σ.1 159 k) ∧ MemoR n f (τ.2.2 175) (τ.1 176)
theorem memo_lt {l g w h m t : Nat} (hl : l < 4) (hg : g ≤ 99) (hw : w ≤ 9) (hh : h ≤ 9) (hm : m ≤ 3) (ht : t ≤ 100000) : memoKey l g w h m t < 2 ^ 60 := by
  unfold memoKey
  omega
theorem memo_inj {l g w h m t l2 g2 w2 h2 m2 t2 : Nat} (hl : l < 4) (hg : g ≤ 99) (hw : w ≤ 9) (hh : h ≤ 9) (hm : m ≤ 3) (ht : t ≤ 100000) (hl2 : l2 < 4) (hg2 : g2 ≤ 99) (hw2 : w2 ≤ 9) (hh2 : h2 ≤ 9) (hm2 : m2 ≤ 3) (ht2 : t2 ≤ 100000) (e : memoKey l g w h m t = memoKey l2 g2 w2 h2 m2 t2) : l = l2 ∧ g = g2 ∧ w = w2 ∧ h = h2 ∧ m = m2 ∧ t = t2 := by
  unfold memoKey at e
  omega
theorem lgc_eq (x y : Int64) : (lg_cmp x y = nI 0) ↔ x = y := lg_cmp_eq x y
theorem lgc_lt (x y : Int64) : (lg_cmp x y < nI 0) ↔ x < y := lg_cmp_lt x y
theorem lgc_gt (x y : Int64) : (nI 0 < lg_cmp x y) ↔ y < x := lg_cmp_gt x y
theorem lgc_le (x y : Int64) : (lg_cmp x y ≤ nI 0) ↔ x ≤ y := lg_cmp_le x y
theorem lgc_ge (x y : Int64) : (nI 0 ≤ lg_cmp x y) ↔ y ≤ x := lg_cmp_ge x y
theorem l8191 : (8191 : Int64) = lN 8191 := rfl
theorem l100000 : (100000 : Int64) = lN 100000 := rfl
theorem l1000000 : (1000000 : Int64) = lN 1000000 := rfl
theorem l10 : (10 : Int64) = lN 10 := rfl
theorem l4 : (4 : Int64) = lN 4 := rfl
theorem l1 : (1 : Int64) = lN 1 := rfl
theorem v_mdL {a b : Int64} {σ : sa_St} {Q : Int64 → sa_St → Prop} : wp (sa_mdL a b) σ Q ↔ b ≠ 0 ∧ Q (a - a / b * b) σ := by
  unfold sa_mdL wp
  by_cases h : b = 0
  · simp only [if_pos h]
    constructor
    · rintro ⟨r, τ, w, -⟩; cases w
    · exact fun w => absurd h w.1
  · simp only [if_neg h]
    constructor
    · rintro ⟨r, τ, w, hq⟩; cases w; exact ⟨h, hq⟩
    · exact fun w => ⟨_, _, rfl, w.2⟩
theorem v_dvL {a b : Int64} {σ : sa_St} {Q : Int64 → sa_St → Prop} : wp (sa_dvL a b) σ Q ↔ b ≠ 0 ∧ Q (a / b) σ := by
  unfold sa_dvL wp
  by_cases h : b = 0
  · simp only [if_pos h]
    constructor
    · rintro ⟨r, τ, w, -⟩; cases w
    · exact fun w => absurd h w.1
  · simp only [if_neg h]
    constructor
    · rintro ⟨r, τ, w, hq⟩; cases w; exact ⟨h, hq⟩
    · exact fun w => ⟨_, _, rfl, w.2⟩
theorem lN_ne0 {n : Nat} (h0 : 0 < n) (h : n < 2 ^ 63) : lN n ≠ 0 := by
  intro e
  rw [show (0 : Int64) = lN 0 from rfl, pk_lEQ h (by omega)] at e
  omega
set_option maxRecDepth 4000 in
theorem w_wearBy {n : Nat} {f : Nat → LWt} {σ : sa_St} {g w h m t : Nat} {Q : Int32 → sa_St → Prop} (hk : SK σ.2.1) (hW : I_W n f σ) (hg : g ≤ 99) (hw : w ≤ 9) (hh : h ≤ 9) (hm : m ≤ 3) (ht : t ≤ 100000) (hQ : ∀ τ, Wf n f σ τ → Q (nI (WN f (σ.1 15 3) g w h m t)) τ) : wp (f_X12_wearBy 159 (nI g) (nI w) (nI h) (nI m) (nI t)) σ Q := by
  obtain ⟨w1, w2, w3, w4, w5, w6⟩ := hW
  rcases w4 with ⟨e1, e2⟩ | ⟨l, hl, e1, e2⟩
  · have e1' : σ.1 15 3 = mI := e1
    have e2' : σ.1 159 37 = mI := e2
    have hf := hQ σ ⟨⟨⟨fun _ _ _ => rfl, fun _ _ => rfl⟩, fun _ _ => ⟨rfl, rfl⟩⟩, fun _ _ => rfl, w6⟩
    rw [e1'] at hf
    simp (disch := omega) only [f_X12_wearBy, wp_gd, wp_bnd, wp_let, wp_jn0, wp_jn1, wp_jn2, wp_if, wp_ret, wp_rdI, wp_rdL, v_rdR, v_ldI, v_ldL, v_ldR, v_stI, v_stB, v_stZ, v_stL, wp_wrI, wp_wrL, wp_wrR, wp_wrZ, wp_retZ, v_md, v_dv, v_tb, upI_2, true_and, and_true, Nat.add_sub_cancel, Nat.zero_lt_succ, Nat.succ_pos, okN, clN, L0, L1, L2, L3, L4, L5, L6, L7, L8, L9, L10, L11, L12, L13, L14, L15, L16, L17, L18, L19, L20, L21, L22, L23, L24, L25, L26, L27, L28, L29, L30, L31, L32, L33, L34, L35, L36, L37, L38, L39, L40, L41, L42, L43, L44, L45, L46, L47, L48, L49, L50, L51, L52, L53, L54, L55, L56, L57, L58, L59, L60, L61, L62, L63, L64, L65, L66, L67, L68, L69, L70, L71, L72, L73, L74, L75, L76, L77, L78, L79, L80, L81, L82, L83, L84, L85, L86, L87, L88, L89, L90, L91, L92, L93, L94, L95, L96, L97, L98, L99, L100, L101, L102, L103, L104, L105, L106, L107, L108, L109, L110, L111, L112, L113, L114, L115, L116, L117, L118, L119, L120, L121, L122, L123, L124, L125, L126, L127, L128, L129, L130, L131, L200, L240, L255, L260, L1000, L4096, L10140, L1000000, ng1, mI_lt, mI_le, lt_mI, le_mI, eq_mI, mI_eq, mI_mI, mI_mE, nI_add, pk_mul, pk_sub, pk_rem, sa_minN, sa_maxN, ne_eq, nI_leI, nI_ltI, nI_eq, dT_le, dF_le, dT_lt, dF_lt, dT_eq, dF_eq, true_imp_iff, false_imp_iff, not_true_eq_false, not_false_eq_true, false_or, or_false, true_or, or_true, false_and, and_false, Decidable.not_not, reduceIte, if_true, if_false, upI_self, upI_ne, upL_1, upL_21, upL_self, upL_ne, upR_1, upR_22, upR_self, upR_ne, va_up_self, va_up_ne, Nat.reduceAdd, Nat.reduceMul, Nat.reduceSub, Nat.reduceLT, Nat.reduceLeDiff, Nat.reduceEqDiff, Nat.reduceSubDiff, Nat.zero_add, cm3, cm5, cm7, cm8, cm25, Nat.not_lt_zero, Nat.zero_le, not_false_iff, and_self, imp_self, implies_true, forall_const, Nat.lt_irrefl, Nat.le_refl, and_imp, sh_159, h3d hh, e2', zq_ref, ne_eq]
    unfold WN at hf
    rw [if_pos rfl] at hf
    exact hf
  · obtain ⟨-, hT⟩ := w5 l hl
    have hl4 : l < 4 := by omega
    have hne : ¬ nI l = mI := by rw [eq_mI (by omega)]; exact not_false
    have hke : lN 4 * (lN 4 * (lN 10 * (lN 10 * (lN 1000000 * (lN g + lN 100000) + lN t) + lN w) + lN h) + lN m) + lN l + lN 1 = lN (memoKey l g w h m t) := by
      simp only [lN_add, lN_mul]
      rfl
    have hkl := memo_lt hl4 hg hw hh hm ht
    have hsp : memoKey l g w h m t % 8191 < 8191 := Nat.mod_lt _ (by omega)
    have hrem := pk_lRem (a := memoKey l g w h m t) (b := 8191) (by omega) (by omega) (by omega)
    have key : ∀ x : Int32, x = f l g w h m t → nI (zq x) = nI (WN f (σ.1 15 3) g w h m t) := by
      rintro x rfl
      unfold WN
      rw [e1, if_neg hne, nI_clamp (by omega)]
    simp (disch := omega) only [f_X12_wearBy, wp_gd, wp_bnd, wp_let, wp_jn0, wp_jn1, wp_jn2, wp_if, wp_ret, wp_rdI, wp_rdL, v_rdR, v_ldI, v_ldL, v_ldR, v_stI, v_stB, v_stZ, v_stL, wp_wrI, wp_wrL, wp_wrR, wp_wrZ, wp_retZ, v_md, v_dv, v_tb, upI_2, true_and, and_true, Nat.add_sub_cancel, Nat.zero_lt_succ, Nat.succ_pos, okN, clN, L0, L1, L2, L3, L4, L5, L6, L7, L8, L9, L10, L11, L12, L13, L14, L15, L16, L17, L18, L19, L20, L21, L22, L23, L24, L25, L26, L27, L28, L29, L30, L31, L32, L33, L34, L35, L36, L37, L38, L39, L40, L41, L42, L43, L44, L45, L46, L47, L48, L49, L50, L51, L52, L53, L54, L55, L56, L57, L58, L59, L60, L61, L62, L63, L64, L65, L66, L67, L68, L69, L70, L71, L72, L73, L74, L75, L76, L77, L78, L79, L80, L81, L82, L83, L84, L85, L86, L87, L88, L89, L90, L91, L92, L93, L94, L95, L96, L97, L98, L99, L100, L101, L102, L103, L104, L105, L106, L107, L108, L109, L110, L111, L112, L113, L114, L115, L116, L117, L118, L119, L120, L121, L122, L123, L124, L125, L126, L127, L128, L129, L130, L131, L200, L240, L255, L260, L1000, L4096, L10140, L1000000, ng1, mI_lt, mI_le, lt_mI, le_mI, eq_mI, mI_eq, mI_mI, mI_mE, nI_add, pk_mul, pk_sub, pk_rem, sa_minN, sa_maxN, ne_eq, nI_leI, nI_ltI, nI_eq, dT_le, dF_le, dT_lt, dF_lt, dT_eq, dF_eq, true_imp_iff, false_imp_iff, not_true_eq_false, not_false_eq_true, false_or, or_false, true_or, or_true, false_and, and_false, Decidable.not_not, reduceIte, if_true, if_false, upI_self, upI_ne, upL_1, upL_21, upL_self, upL_ne, upR_1, upR_22, upR_self, upR_ne, va_up_self, va_up_ne, Nat.reduceAdd, Nat.reduceMul, Nat.reduceSub, Nat.reduceLT, Nat.reduceLeDiff, Nat.reduceEqDiff, Nat.reduceSubDiff, Nat.zero_add, cm3, cm5, cm7, cm8, cm25, Nat.not_lt_zero, Nat.zero_le, not_false_iff, and_self, imp_self, implies_true, forall_const, Nat.lt_irrefl, Nat.le_refl, and_imp, sh_159, e2, zq_ref, ne_eq, sk_159_38 hk, sk_159_39 hk, sk_159_4 hk, sk_159_2 hk, sk_159_3 hk, al_175, al_176, al_163, al_162, nI_l, l8191, l100000, l1000000, l10, l4, l1, hke, v_mdL, hrem, lN_i, lN_ne0, lgc_eq]
    refine ⟨fun he => ?_, fun he => ?_⟩
    · rw [key _ (w6 _ l g w h m t hsp hl4 hg hw hh hm ht he).2]
      exact hQ σ ⟨⟨⟨fun _ _ _ => rfl, fun _ _ => rfl⟩, fun _ _ => ⟨rfl, rfl⟩⟩, fun _ _ => rfl, w6⟩
    · refine wp_mono (hT l _ hl4 ?_ ?_ g w h m t hg hw hh hm ht ?_ ?_ ?_ ?_ ?_) ?_
      · exact hk
      · intro j hj
        simp (disch := omega) only [upI_ne]
      · simp (disch := omega) only [upI_self, va_up_self, va_up_ne]
      · simp (disch := omega) only [upI_self, va_up_self, va_up_ne]
      · simp (disch := omega) only [upI_self, va_up_self, va_up_ne]
      · simp (disch := omega) only [upI_self, va_up_self, va_up_ne]
      · simp (disch := omega) only [upI_self, va_up_self, va_up_ne]
      · rintro _ τ ⟨hv, hF, hp⟩
        have hkt : ∀ a b : Nat, ¬ (a = 159 ∧ b = 5) → τ.2.1 a b = σ.2.1 a b := hF.1.1
        have q38 : τ.2.1 159 38 = 176 := (hkt 159 38 (by omega)).trans (sk_159_38 hk)
        have q39 : τ.2.1 159 39 = 177 := (hkt 159 39 (by omega)).trans (sk_159_39 hk)
        simp (disch := omega) only [wp_gd, wp_bnd, wp_let, wp_jn0, wp_jn1, wp_jn2, wp_if, wp_ret, wp_rdI, wp_rdL, v_rdR, v_ldI, v_ldL, v_ldR, v_stI, v_stB, v_stZ, v_stL, wp_wrI, wp_wrL, wp_wrR, wp_wrZ, wp_retZ, v_md, v_dv, v_tb, upI_2, true_and, and_true, Nat.add_sub_cancel, Nat.zero_lt_succ, Nat.succ_pos, okN, clN, L0, L1, L2, L3, L4, L5, L6, L7, L8, L9, L10, L11, L12, L13, L14, L15, L16, L17, L18, L19, L20, L21, L22, L23, L24, L25, L26, L27, L28, L29, L30, L31, L32, L33, L34, L35, L36, L37, L38, L39, L40, L41, L42, L43, L44, L45, L46, L47, L48, L49, L50, L51, L52, L53, L54, L55, L56, L57, L58, L59, L60, L61, L62, L63, L64, L65, L66, L67, L68, L69, L70, L71, L72, L73, L74, L75, L76, L77, L78, L79, L80, L81, L82, L83, L84, L85, L86, L87, L88, L89, L90, L91, L92, L93, L94, L95, L96, L97, L98, L99, L100, L101, L102, L103, L104, L105, L106, L107, L108, L109, L110, L111, L112, L113, L114, L115, L116, L117, L118, L119, L120, L121, L122, L123, L124, L125, L126, L127, L128, L129, L130, L131, L200, L240, L255, L260, L1000, L4096, L10140, L1000000, ng1, mI_lt, mI_le, lt_mI, le_mI, eq_mI, mI_eq, mI_mI, mI_mE, nI_add, pk_mul, pk_sub, pk_rem, sa_minN, sa_maxN, ne_eq, nI_leI, nI_ltI, nI_eq, dT_le, dF_le, dT_lt, dF_lt, dT_eq, dF_eq, true_imp_iff, false_imp_iff, not_true_eq_false, not_false_eq_true, false_or, or_false, true_or, or_true, false_and, and_false, Decidable.not_not, reduceIte, if_true, if_false, upI_self, upI_ne, upL_1, upL_21, upL_self, upL_ne, upR_1, upR_22, upR_self, upR_ne, va_up_self, va_up_ne, Nat.reduceAdd, Nat.reduceMul, Nat.reduceSub, Nat.reduceLT, Nat.reduceLeDiff, Nat.reduceEqDiff, Nat.reduceSubDiff, Nat.zero_add, cm3, cm5, cm7, cm8, cm25, Nat.not_lt_zero, Nat.zero_le, not_false_iff, and_self, imp_self, implies_true, forall_const, Nat.lt_irrefl, Nat.le_refl, and_imp, sh_159, zq_ref, q38, q39, al_175, al_176, hv, key _ rfl]
        refine hQ _ ⟨⟨⟨fun a b g => hF.1.1 a b g, fun j hj => ?_⟩, fun j hj => ?_⟩, fun k g => ?_, ?_⟩
        · show va_up τ.2.2 175 _ j = _
          rw [va_up_ne _ _ hj]
          exact hF.1.2 j hj
        · simp only [List.mem_cons, List.not_mem_nil, or_false, not_or] at hj
          obtain ⟨g1, g2, g3, g4⟩ := hj
          have h9 := hF.2 j (by simpa using g1)
          refine ⟨?_, ?_⟩
          · rw [upI_ne g4]
            show τ.1 j = _
            rw [h9.1]
            simp (disch := omega) only [upI_ne]
          · show va_up τ.2.2 175 _ j = _
            rw [va_up_ne _ _ g3, h9.2]
            rfl
        · rw [upI_ne (by omega)]
          show τ.1 159 k = _
          rw [hp k g]
          simp (disch := omega) only [upI_ne]
        · intro s l2 g2 w2 h2 m2 t2 hs hl2 hg2 hw2 hh2 hm2 ht2 he2
          have f1 := hF.2 175 (by decide)
          have f2 := hF.2 176 (by decide)
          have o1 : τ.2.2 175 = σ.2.2 175 := f1.2
          have o2 : τ.1 176 = σ.1 176 := by
            rw [f2.1]
            simp (disch := omega) only [upI_ne]
          rw [upI_self]
          have he3 : va_up (τ.2.2 175) (memoKey l g w h m t % 8191) (lN (memoKey l g w h m t)) s = lN (memoKey l2 g2 w2 h2 m2 t2) := by
            have : (sa_upL τ 175 (memoKey l g w h m t % 8191) (lN (memoKey l g w h m t))).2.2 175 = va_up (τ.2.2 175) (memoKey l g w h m t % 8191) (lN (memoKey l g w h m t)) := upL_self
            rw [← this]
            exact he2
          by_cases es : s = memoKey l g w h m t % 8191
          · rw [es, va_up_self] at he3 ⊢
            rw [pk_lEQ (by omega) (by have := memo_lt hl2 hg2 hw2 hh2 hm2 ht2; omega)] at he3
            obtain ⟨rfl, rfl, rfl, rfl, rfl, rfl⟩ := memo_inj hl4 hg hw hh hm ht hl2 hg2 hw2 hh2 hm2 ht2 he3
            exact ⟨hl, rfl⟩
          · rw [va_up_ne _ _ es, o1] at he3
            rw [va_up_ne _ _ es]
            show l2 < n ∧ τ.1 176 s = _
            rw [o2]
            exact w6 s l2 g2 w2 h2 m2 t2 hs hl2 hg2 hw2 hh2 hm2 ht2 he3
