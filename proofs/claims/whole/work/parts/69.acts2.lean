theorem sk_49m : ∀ i, i < 41 → (49, i, 52 + 2 * i + 1) ∈ skL ∧ (52 + 2 * i, 0, 53 + 2 * i + 1) ∈ skL := by decide +kernel
theorem sh_kept {i : Nat} (hi : i < 41) : sa_sh (52 + 2 * i) = some (.inl 0) ∧ sa_sh (53 + 2 * i) = some (.inr (.int, 259)) := by
  match i, hi with
  | 0, _ => exact ⟨rfl, rfl⟩
  | 1, _ => exact ⟨rfl, rfl⟩
  | 2, _ => exact ⟨rfl, rfl⟩
  | 3, _ => exact ⟨rfl, rfl⟩
  | 4, _ => exact ⟨rfl, rfl⟩
  | 5, _ => exact ⟨rfl, rfl⟩
  | 6, _ => exact ⟨rfl, rfl⟩
  | 7, _ => exact ⟨rfl, rfl⟩
  | 8, _ => exact ⟨rfl, rfl⟩
  | 9, _ => exact ⟨rfl, rfl⟩
  | 10, _ => exact ⟨rfl, rfl⟩
  | 11, _ => exact ⟨rfl, rfl⟩
  | 12, _ => exact ⟨rfl, rfl⟩
  | 13, _ => exact ⟨rfl, rfl⟩
  | 14, _ => exact ⟨rfl, rfl⟩
  | 15, _ => exact ⟨rfl, rfl⟩
  | 16, _ => exact ⟨rfl, rfl⟩
  | 17, _ => exact ⟨rfl, rfl⟩
  | 18, _ => exact ⟨rfl, rfl⟩
  | 19, _ => exact ⟨rfl, rfl⟩
  | 20, _ => exact ⟨rfl, rfl⟩
  | 21, _ => exact ⟨rfl, rfl⟩
  | 22, _ => exact ⟨rfl, rfl⟩
  | 23, _ => exact ⟨rfl, rfl⟩
  | 24, _ => exact ⟨rfl, rfl⟩
  | 25, _ => exact ⟨rfl, rfl⟩
  | 26, _ => exact ⟨rfl, rfl⟩
  | 27, _ => exact ⟨rfl, rfl⟩
  | 28, _ => exact ⟨rfl, rfl⟩
  | 29, _ => exact ⟨rfl, rfl⟩
  | 30, _ => exact ⟨rfl, rfl⟩
  | 31, _ => exact ⟨rfl, rfl⟩
  | 32, _ => exact ⟨rfl, rfl⟩
  | 33, _ => exact ⟨rfl, rfl⟩
  | 34, _ => exact ⟨rfl, rfl⟩
  | 35, _ => exact ⟨rfl, rfl⟩
  | 36, _ => exact ⟨rfl, rfl⟩
  | 37, _ => exact ⟨rfl, rfl⟩
  | 38, _ => exact ⟨rfl, rfl⟩
  | 39, _ => exact ⟨rfl, rfl⟩
  | 40, _ => exact ⟨rfl, rfl⟩
  | n + 41, hi => omega
theorem ca_kept {ρ : Nat → Nat → Nat} (h : SK ρ) {i : Nat} (hi : i < 41) : ρ 49 i = 52 + 2 * i + 1 ∧ CA ρ (52 + 2 * i) (53 + 2 * i) := by
  obtain ⟨h1, h2⟩ := sk_49m i hi
  obtain ⟨h3, h4⟩ := sh_kept hi
  exact ⟨h _ h1, h3, h _ h2, h4⟩
/-- what an act of the class may change -/
def FA (σ τ : sa_St) : Prop := τ.2.1 = σ.2.1 ∧ (∀ j, 134 ≤ j → τ.1 j = σ.1 j ∧ τ.2.2 j = σ.2.2 j) ∧ Dn [0, 5] σ τ
theorem FA.refl (σ : sa_St) : FA σ σ := ⟨rfl, fun _ _ => ⟨rfl, rfl⟩, Dn.refl σ⟩
theorem FA.trans {a b c : sa_St} (h1 : FA a b) (h2 : FA b c) : FA a c := ⟨h2.1.trans h1.1, fun j hj => ⟨(h2.2.1 j hj).1.trans (h1.2.1 j hj).1, (h2.2.1 j hj).2.trans (h1.2.1 j hj).2⟩, h1.2.2.trans h2.2.2⟩
theorem FA.ofFr {S : List Nat} {σ τ : sa_St} (h : Fr S σ τ) (hS : ∀ j ∈ S, j < 134 ∧ ∀ k, [0, 5].contains (grp j k) = true) : FA σ τ := ⟨h.1, fun j hj => h.2 j (fun q => by have := (hS j q).1; omega), Dn.ofFr h (fun j hj => (hS j hj).2)⟩
theorem FA.up {σ τ : sa_St} {a k : Nat} {v : Int32} (h : FA σ τ) (ha : a < 134) (hg : [0, 5].contains (grp a k) = true) : FA σ (sa_upI τ a k v) := h.trans ⟨rfl, fun j hj => ⟨upI_ne (by omega), rfl⟩, Dn.up (Dn.refl τ) hg⟩
theorem FA.set {σ τ : sa_St} {a : Nat} {r : Nat → Int32} (h : FA σ τ) (ha : a < 134) (hg : ∀ k, [0, 5].contains (grp a k) = true) : FA σ (va_up τ.1 a r, τ.2) := h.trans ⟨rfl, fun j hj => ⟨va_up_ne _ _ (by omega), rfl⟩, Dn.set (Dn.refl τ) hg⟩
theorem FA.cx {L P W F n : Nat} {f : Nat → LWt} {z : Nat → Int32} {hold : Int32} {σ τ : sa_St} (h : FA σ τ) (hc : Cx L P W F n f z hold σ) : Cx L P W F n f z hold τ := hc.dn h.2.2 rfl rfl (by
  rw [(h.2.1 175 (by omega)).2, (h.2.1 176 (by omega)).1]
  exact hc.2.2.2.2.1.2.2.2.2.2)
/-- what the reference may change by acts -/
def FM (n : Nat) (f : Nat → LWt) (σ τ : sa_St) : Prop := (∀ j, j < 159 → τ.1 j = σ.1 j) ∧ Dn [0, 5, 9] σ τ ∧ MemoR n f (τ.2.2 175) (τ.1 176)
theorem FM.trans {n : Nat} {f : Nat → LWt} {a b c : sa_St} (h1 : FM n f a b) (h2 : FM n f b c) : FM n f a c := ⟨fun j hj => (h2.1 j hj).trans (h1.1 j hj), h1.2.1.trans h2.2.1, h2.2.2⟩
theorem FM.cx {L P W F n : Nat} {f : Nat → LWt} {z : Nat → Int32} {hold : Int32} {σ τ : sa_St} (h : FM n f σ τ) (hc : Cx L P W F n f z hold σ) : Cx L P W F n f z hold τ := hc.dn h.2.1 rfl rfl h.2.2
theorem Mf.fm {n : Nat} {f : Nat → LWt} {R : Nat} {σ τ : sa_St} (h : Mf n f R σ τ) (hR : R = 173 ∨ R = 174) : FM n f σ τ := by
  refine ⟨fun j hj => (h.1.2 j ?_).1, h.dn rfl rfl (fun k => ?_), h.2.2⟩
  · simp only [List.mem_cons, List.not_mem_nil, or_false]
    omega
  · rcases hR with rfl | rfl <;> rfl
/-- whether an act can be, and the act, by the reference on its row R -/
def rCan (s R : Nat) (a b : Int32) : sa_M Int32 := match s with
  | 0 => f_X12_canMarch 159 R a b
  | 1 => f_X12_canJoin 159 R a b
  | 2 => f_X12_canDig 159 R a
  | 3 => if nI 0 ≤ b ∧ b ≤ nI 3 then f_X12_canCast 159 R a else sa_ret (nI 0)
  | _ => sa_ret 1
def rDo (s R : Nat) (a b : Int32) : sa_M Unit := match s with
  | 0 => f_X12_marches 159 R a b
  | 1 => f_X12_joins 159 R a b
  | 2 => f_X12_digs 159 R a
  | 3 => f_X12_casts 159 R a b
  | _ => f_X12_goHour 159 R a
/-- an act's answer and what becomes of a camp k, by the class and by the reference alike -/
def AR (L P W F n : Nat) (f : Nat → LWt) (z : Nat → Int32) (hold : Int32) (s : Nat) (a b : Int32) (k : Nat → Int32) (res : Option (Int32 × (Nat → Int32))) : Prop :=
  (∀ (σ : sa_St) (id K : Nat), Cx L P W F n f z hold σ → CA σ.2.1 id K → (id = 44 ∧ K = 45 ∨ id = 46 ∧ K = 47) → σ.1 K = k → ∀ Q : Int32 → sa_St → Prop, (res = none → Q mI σ) → (∀ r k', res = some (r, k') → ∀ τ, Fr [K, id, 17, 20, 23, 26, 29, 32] σ τ → τ.1 K = k' → Q r τ) → wp (f_X11_obey 0 id (nI s) a b) σ Q) ∧
  (∀ (σ : sa_St) (R : Nat) (wl : Nat → Int32), Cx L P W F n f z hold σ → (R = 173 ∨ R = 174) → σ.1 R = toW k wl → LogR k wl →
    (∀ Q : Int32 → sa_St → Prop, Q (nI (if res.isSome then 1 else 0)) σ → wp (rCan s R a b) σ Q) ∧
    (∀ r k', res = some (r, k') → ∀ Q : Unit → sa_St → Prop, (∀ τ wl', Mf n f R σ τ → τ.1 R = toW k' wl' → LogR k' wl' → Q () τ) → wp (rDo s R a b) σ Q))
theorem PC.cong {hist : List (Nat → Int32)} {nx sz nx2 sz2 : Int32} {kept kept2 : Nat → Nat → Int32} (h : PC hist nx sz kept) (e1 : nx2 = nx) (e2 : sz2 = sz) (e3 : ∀ i, i < 41 → nx ≠ nI i → ∀ j, j < 259 → kept2 i j = kept i j) : PC hist nx2 sz2 kept2 := by
  obtain ⟨n, n41, l40, g1, g2, hc⟩ := h
  refine ⟨n, n41, l40, e1.trans g1, e2.trans g2, fun x c hx j hj => ?_⟩
  have hxl := lt_of_some hx
  rw [e3 _ (Nat.mod_lt _ (by omega)) ?_ j hj]
  · exact hc x c hx j hj
  · rw [g1]
    intro q
    rw [nI_eq (by omega) (by omega)] at q
    omega
theorem c_act {L P W F n : Nat} {f : Nat → LWt} {z : Nat → Int32} {hold : Int32} {s : Nat} {a b : Int32} {k : Nat → Int32} {res : Option (Int32 × (Nat → Int32))} {σ : sa_St} {hist : List (Nat → Int32)} {Q : Int32 → sa_St → Prop} (hcx : Cx L P W F n f z hold σ) (hP : 0 < P) (hpc : PC hist (σ.1 48 3) (σ.1 48 4) (fun i => σ.1 (53 + 2 * i))) (hk0 : σ.1 45 = k) (har : AR L P W F n f z hold s a b k res) (hr : ∀ r k', res = some (r, k') → r ≠ mI)
    (h0 : res = none → ∀ τ, FA σ τ → τ.1 45 = k → PC hist (τ.1 48 3) (τ.1 48 4) (fun i => τ.1 (53 + 2 * i)) → Q mI τ)
    (h1 : ∀ r k', res = some (r, k') → ∀ τ, FA σ τ → τ.1 45 = k' → PC ((k :: hist).take 40) (τ.1 48 3) (τ.1 48 4) (fun i => τ.1 (53 + 2 * i)) → Q r τ) : wp (f_X11_act 0 (nI s) a b) σ Q := by
  have hcx0 := hcx
  obtain ⟨hk, hL, hLd, hM, hW, -, -⟩ := hcx
  obtain ⟨⟨a1, a2, a3, a4, a5, a6⟩, e1, e2, e3, e4, e5, e6⟩ := LD.of hk hL
  obtain ⟨⟨b1, b2, b3⟩, ⟨c0, c1, c3, r0, r1, r3⟩, lp, lw, lf⟩ := hLd
  have hpc0 := hpc
  obtain ⟨x, x41, l40, p1, p2, hc⟩ := hpc
  obtain ⟨q1, hca⟩ := ca_kept hk x41
  simp (disch := omega) only [f_X11_act, f_X5_note, f_X1_isEmpty, wp_gd, wp_bnd, wp_let, wp_jn0, wp_jn1, wp_jn2, wp_if, wp_ret, wp_rdI, wp_rdL, v_rdR, v_ldI, v_ldL, v_ldR, v_stI, v_stB, v_stZ, v_stL, wp_wrI, wp_wrL, wp_wrR, wp_wrZ, wp_retZ, v_md, v_dv, v_tb, upI_2, true_and, and_true, Nat.add_sub_cancel, Nat.zero_lt_succ, Nat.succ_pos, okN, clN, L0, L1, L2, L3, L4, L5, L6, L7, L8, L9, L10, L11, L12, L13, L14, L15, L16, L17, L18, L19, L20, L21, L22, L23, L24, L25, L26, L27, L28, L29, L30, L31, L32, L33, L34, L35, L36, L37, L38, L39, L40, L41, L42, L43, L44, L45, L46, L47, L48, L49, L50, L51, L52, L53, L54, L55, L56, L57, L58, L59, L60, L61, L62, L63, L64, L65, L66, L67, L68, L69, L70, L71, L72, L73, L74, L75, L76, L77, L78, L79, L80, L81, L82, L83, L84, L85, L86, L87, L88, L89, L90, L91, L92, L93, L94, L95, L96, L97, L98, L99, L100, L101, L102, L103, L104, L105, L106, L107, L108, L109, L110, L111, L112, L113, L114, L115, L116, L117, L118, L119, L120, L121, L122, L123, L124, L125, L126, L127, L128, L129, L130, L131, L200, L240, L255, L260, L1000, L4096, L10140, L1000000, ng1, mI_lt, mI_le, lt_mI, le_mI, eq_mI, mI_eq, mI_mI, mI_mE, nI_add, pk_mul, pk_sub, pk_rem, sa_minN, sa_maxN, ne_eq, nI_leI, nI_ltI, nI_eq, dT_le, dF_le, dT_lt, dF_lt, dT_eq, dF_eq, true_imp_iff, false_imp_iff, not_true_eq_false, not_false_eq_true, false_or, or_false, true_or, or_true, false_and, and_false, Decidable.not_not, reduceIte, if_true, if_false, upI_self, upI_ne, upL_1, upL_21, upL_self, upL_ne, upR_1, upR_22, upR_self, upR_ne, va_up_self, va_up_ne, Nat.reduceAdd, Nat.reduceMul, Nat.reduceSub, Nat.reduceLT, Nat.reduceLeDiff, Nat.reduceEqDiff, Nat.reduceSubDiff, Nat.zero_add, cm3, cm5, cm7, cm8, cm25, Nat.not_lt_zero, Nat.zero_le, not_false_iff, and_self, imp_self, implies_true, forall_const, Nat.lt_irrefl, Nat.le_refl, and_imp, sh_0, sh_159, sh_1, sh_15, sh_44, sh_46, sh_48, sh_134, sh_136, sh_151, sh_156, e1, e2, e3, e4, e5, e6, a1, a2, a3, a4, a5, a6, c0, c1, c3, r0, r1, r3, sk_0_8 hk, sk_0_6 hk, sk_48_0 hk, al_49, p1, q1]
  refine w_copy hca (ca_44 hk) (fun r hcr => ?_)
  simp (disch := omega) only [wp_gd, wp_bnd, wp_let, wp_jn0, wp_jn1, wp_jn2, wp_if, wp_ret, wp_rdI, wp_rdL, v_rdR, v_ldI, v_ldL, v_ldR, v_stI, v_stB, v_stZ, v_stL, wp_wrI, wp_wrL, wp_wrR, wp_wrZ, wp_retZ, v_md, v_dv, v_tb, upI_2, true_and, and_true, Nat.add_sub_cancel, Nat.zero_lt_succ, Nat.succ_pos, okN, clN, L0, L1, L2, L3, L4, L5, L6, L7, L8, L9, L10, L11, L12, L13, L14, L15, L16, L17, L18, L19, L20, L21, L22, L23, L24, L25, L26, L27, L28, L29, L30, L31, L32, L33, L34, L35, L36, L37, L38, L39, L40, L41, L42, L43, L44, L45, L46, L47, L48, L49, L50, L51, L52, L53, L54, L55, L56, L57, L58, L59, L60, L61, L62, L63, L64, L65, L66, L67, L68, L69, L70, L71, L72, L73, L74, L75, L76, L77, L78, L79, L80, L81, L82, L83, L84, L85, L86, L87, L88, L89, L90, L91, L92, L93, L94, L95, L96, L97, L98, L99, L100, L101, L102, L103, L104, L105, L106, L107, L108, L109, L110, L111, L112, L113, L114, L115, L116, L117, L118, L119, L120, L121, L122, L123, L124, L125, L126, L127, L128, L129, L130, L131, L200, L240, L255, L260, L1000, L4096, L10140, L1000000, ng1, mI_lt, mI_le, lt_mI, le_mI, eq_mI, mI_eq, mI_mI, mI_mE, nI_add, pk_mul, pk_sub, pk_rem, sa_minN, sa_maxN, ne_eq, nI_leI, nI_ltI, nI_eq, dT_le, dF_le, dT_lt, dF_lt, dT_eq, dF_eq, true_imp_iff, false_imp_iff, not_true_eq_false, not_false_eq_true, false_or, or_false, true_or, or_true, false_and, and_false, Decidable.not_not, reduceIte, if_true, if_false, upI_self, upI_ne, upL_1, upL_21, upL_self, upL_ne, upR_1, upR_22, upR_self, upR_ne, va_up_self, va_up_ne, Nat.reduceAdd, Nat.reduceMul, Nat.reduceSub, Nat.reduceLT, Nat.reduceLeDiff, Nat.reduceEqDiff, Nat.reduceSubDiff, Nat.zero_add, cm3, cm5, cm7, cm8, cm25, Nat.not_lt_zero, Nat.zero_le, not_false_iff, and_self, imp_self, implies_true, forall_const, Nat.lt_irrefl, Nat.le_refl, and_imp, sh_0, sh_159, sh_1, sh_15, sh_44, sh_46, sh_48, sh_134, sh_136, sh_151, sh_156, sk_0_6 hk]
  have hFA : FA σ (va_up σ.1 (53 + 2 * x) r, σ.2) := (FA.refl σ).set (by omega) (fun _ => by rw [grp_A (by omega)]; rfl)
  have k45 : (va_up σ.1 (53 + 2 * x) r, σ.2).1 45 = k := by
    show va_up σ.1 (53 + 2 * x) r 45 = k
    rw [va_up_ne _ _ (by omega)]
    exact hk0
  have hpc1 : PC hist ((va_up σ.1 (53 + 2 * x) r, σ.2).1 48 3) ((va_up σ.1 (53 + 2 * x) r, σ.2).1 48 4) (fun i => (va_up σ.1 (53 + 2 * x) r, σ.2).1 (53 + 2 * i)) := by
    refine hpc0.cong ?_ ?_ (fun i hi hne j hj => ?_)
    · show va_up σ.1 (53 + 2 * x) r 48 3 = _
      rw [va_up_ne _ _ (by omega)]
    · show va_up σ.1 (53 + 2 * x) r 48 4 = _
      rw [va_up_ne _ _ (by omega)]
    · show va_up σ.1 (53 + 2 * x) r (53 + 2 * i) j = _
      rw [p1] at hne
      have : x ≠ i := fun e => hne (by rw [e])
      rw [va_up_ne _ _ (by omega)]
  refine har.1 _ 44 45 (hFA.cx hcx0) (ca_44 hk) (Or.inl ⟨rfl, rfl⟩) k45 _ (fun hn => ?_) (fun rr k' hs τ hF hk' => ?_)
  · simp (disch := omega) only [wp_gd, wp_bnd, wp_let, wp_jn0, wp_jn1, wp_jn2, wp_if, wp_ret, wp_rdI, wp_rdL, v_rdR, v_ldI, v_ldL, v_ldR, v_stI, v_stB, v_stZ, v_stL, wp_wrI, wp_wrL, wp_wrR, wp_wrZ, wp_retZ, v_md, v_dv, v_tb, upI_2, true_and, and_true, Nat.add_sub_cancel, Nat.zero_lt_succ, Nat.succ_pos, okN, clN, L0, L1, L2, L3, L4, L5, L6, L7, L8, L9, L10, L11, L12, L13, L14, L15, L16, L17, L18, L19, L20, L21, L22, L23, L24, L25, L26, L27, L28, L29, L30, L31, L32, L33, L34, L35, L36, L37, L38, L39, L40, L41, L42, L43, L44, L45, L46, L47, L48, L49, L50, L51, L52, L53, L54, L55, L56, L57, L58, L59, L60, L61, L62, L63, L64, L65, L66, L67, L68, L69, L70, L71, L72, L73, L74, L75, L76, L77, L78, L79, L80, L81, L82, L83, L84, L85, L86, L87, L88, L89, L90, L91, L92, L93, L94, L95, L96, L97, L98, L99, L100, L101, L102, L103, L104, L105, L106, L107, L108, L109, L110, L111, L112, L113, L114, L115, L116, L117, L118, L119, L120, L121, L122, L123, L124, L125, L126, L127, L128, L129, L130, L131, L200, L240, L255, L260, L1000, L4096, L10140, L1000000, ng1, mI_lt, mI_le, lt_mI, le_mI, eq_mI, mI_eq, mI_mI, mI_mE, nI_add, pk_mul, pk_sub, pk_rem, sa_minN, sa_maxN, ne_eq, nI_leI, nI_ltI, nI_eq, dT_le, dF_le, dT_lt, dF_lt, dT_eq, dF_eq, true_imp_iff, false_imp_iff, not_true_eq_false, not_false_eq_true, false_or, or_false, true_or, or_true, false_and, and_false, Decidable.not_not, reduceIte, if_true, if_false, upI_self, upI_ne, upL_1, upL_21, upL_self, upL_ne, upR_1, upR_22, upR_self, upR_ne, va_up_self, va_up_ne, Nat.reduceAdd, Nat.reduceMul, Nat.reduceSub, Nat.reduceLT, Nat.reduceLeDiff, Nat.reduceEqDiff, Nat.reduceSubDiff, Nat.zero_add, cm3, cm5, cm7, cm8, cm25, Nat.not_lt_zero, Nat.zero_le, not_false_iff, and_self, imp_self, implies_true, forall_const, Nat.lt_irrefl, Nat.le_refl, and_imp]
    exact h0 hn _ hFA k45 hpc1
  · have hne := hr rr k' hs
    have hSF : ∀ j ∈ [45, 44, 17, 20, 23, 26, 29, 32], j < 134 ∧ ∀ k, [0, 5].contains (grp j k) = true := by
      intro j hj
      simp only [List.mem_cons, List.not_mem_nil, or_false] at hj
      rcases hj with rfl | rfl | rfl | rfl | rfl | rfl | rfl | rfl <;> exact ⟨by omega, fun _ => rfl⟩
    have hFA2 := hFA.trans (FA.ofFr hF hSF)
    have t48 : τ.1 48 = σ.1 48 := by
      rw [(hF.2 48 (by decide)).1]
      exact va_up_ne _ _ (by omega)
    have t8 : τ.2.1 0 8 = 49 := by rw [hF.1]; exact sk_0_8 hk
    have tk : ∀ i, i < 41 → τ.1 (53 + 2 * i) = va_up σ.1 (53 + 2 * x) r (53 + 2 * i) := fun i hi => (hF.2 (53 + 2 * i) (by simp only [List.mem_cons, List.not_mem_nil, or_false]; omega)).1
    have e48 : τ.1 48 3 = nI x := by rw [t48]; exact p1
    have e48b : τ.1 48 4 = nI hist.length := by rw [t48]; exact p2
    simp (disch := omega) only [f_X5_confirm, wp_gd, wp_bnd, wp_let, wp_jn0, wp_jn1, wp_jn2, wp_if, wp_ret, wp_rdI, wp_rdL, v_rdR, v_ldI, v_ldL, v_ldR, v_stI, v_stB, v_stZ, v_stL, wp_wrI, wp_wrL, wp_wrR, wp_wrZ, wp_retZ, v_md, v_dv, v_tb, upI_2, true_and, and_true, Nat.add_sub_cancel, Nat.zero_lt_succ, Nat.succ_pos, okN, clN, L0, L1, L2, L3, L4, L5, L6, L7, L8, L9, L10, L11, L12, L13, L14, L15, L16, L17, L18, L19, L20, L21, L22, L23, L24, L25, L26, L27, L28, L29, L30, L31, L32, L33, L34, L35, L36, L37, L38, L39, L40, L41, L42, L43, L44, L45, L46, L47, L48, L49, L50, L51, L52, L53, L54, L55, L56, L57, L58, L59, L60, L61, L62, L63, L64, L65, L66, L67, L68, L69, L70, L71, L72, L73, L74, L75, L76, L77, L78, L79, L80, L81, L82, L83, L84, L85, L86, L87, L88, L89, L90, L91, L92, L93, L94, L95, L96, L97, L98, L99, L100, L101, L102, L103, L104, L105, L106, L107, L108, L109, L110, L111, L112, L113, L114, L115, L116, L117, L118, L119, L120, L121, L122, L123, L124, L125, L126, L127, L128, L129, L130, L131, L200, L240, L255, L260, L1000, L4096, L10140, L1000000, ng1, mI_lt, mI_le, lt_mI, le_mI, eq_mI, mI_eq, mI_mI, mI_mE, nI_add, pk_mul, pk_sub, pk_rem, sa_minN, sa_maxN, ne_eq, nI_leI, nI_ltI, nI_eq, dT_le, dF_le, dT_lt, dF_lt, dT_eq, dF_eq, true_imp_iff, false_imp_iff, not_true_eq_false, not_false_eq_true, false_or, or_false, true_or, or_true, false_and, and_false, Decidable.not_not, reduceIte, if_true, if_false, upI_self, upI_ne, upL_1, upL_21, upL_self, upL_ne, upR_1, upR_22, upR_self, upR_ne, va_up_self, va_up_ne, Nat.reduceAdd, Nat.reduceMul, Nat.reduceSub, Nat.reduceLT, Nat.reduceLeDiff, Nat.reduceEqDiff, Nat.reduceSubDiff, Nat.zero_add, cm3, cm5, cm7, cm8, cm25, Nat.not_lt_zero, Nat.zero_le, not_false_iff, and_self, imp_self, implies_true, forall_const, Nat.lt_irrefl, Nat.le_refl, and_imp, sh_0, sh_159, sh_1, sh_15, sh_44, sh_46, sh_48, sh_134, sh_136, sh_151, sh_156, hne, t8, e48, e48b]
    refine h1 rr k' hs _ (FA.up (FA.up hFA2 (by omega) rfl) (by omega) rfl) ?_ ⟨(x + 1) % 41, Nat.mod_lt _ (by omega), ?_, ?_, ?_, fun y c hy j hj => ?_⟩
    · simp (disch := omega) only [upI_ne]
      exact hk'
    · rw [take_len l40]; omega
    · simp (disch := omega) only [upI_self, va_up_self, va_up_ne]
    · simp (disch := omega) only [upI_self, va_up_self, va_up_ne]
      rw [take_len l40]
    · obtain ⟨y40, hy2⟩ := take_at hy
      have hm : ((x + 1) % 41 + 40 - y) % 41 < 41 := Nat.mod_lt _ (by omega)
      show (sa_upI (sa_upI τ 48 3 _) 48 4 _).1 (53 + 2 * (((x + 1) % 41 + 40 - y) % 41)) j = c j
      simp (disch := omega) only [upI_ne]
      rw [tk _ hm]
      rcases hy2 with ⟨rfl, rfl⟩ | ⟨v, rfl, hv⟩
      · rw [show ((x + 1) % 41 + 40 - 0) % 41 = x by omega, va_up_self, hcr j hj, hk0]
      · have hvl := lt_of_some hv
        rw [va_up_ne _ _ (by omega), show ((x + 1) % 41 + 40 - (v + 1)) % 41 = (x + 40 - v) % 41 by omega]
        exact hc v c hv j hj
