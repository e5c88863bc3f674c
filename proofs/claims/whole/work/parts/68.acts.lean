/-! ACTS: what they rest on, and the past -/
def Cx (L P W F n : Nat) (f : Nat → LWt) (z : Nat → Int32) (hold : Int32) (σ : sa_St) : Prop := SK σ.2.1 ∧ LandI σ.2.1 L ∧ I_L L P W F σ ∧ (0 < P → I_M L P W σ) ∧ I_W n f σ ∧ σ.1 (L + 2) = z ∧ σ.1 15 3 = hold
theorem Cx.dn {L P W F n : Nat} {f : Nat → LWt} {z : Nat → Int32} {hold : Int32} {gs : List Nat} {σ τ : sa_St} (h : Cx L P W F n f z hold σ) (K : Dn gs σ τ) (g2 : gs.contains 2 = false) (g3 : gs.contains 3 = false) (hM : MemoR n f (τ.2.2 175) (τ.1 176)) : Cx L P W F n f z hold τ := by
  obtain ⟨h0, h1, h2, h3, h4, h5, h6⟩ := h
  exact ⟨K.sk h0, K.li h1, K.Ld g2 h1 h2, fun hP => K.Mp g2 h1 (h3 hP), K.Wl g3 h4 hM, by rw [K.row (L + 2) (fun _ => by rw [grp_L h1.n (by omega)]; exact g2)]; exact h5, by rw [K.2 15 3 g3]; exact h6⟩
theorem Iv.cx {k L P W F n : Nat} {f : Nat → LWt} {σ : sa_St} (h : Iv k L P W F n f σ) : Cx L P W F n f (σ.1 (L + 2)) (σ.1 15 3) σ := by
  obtain ⟨h0, h1, h2, h3, h4, h5, h6, h7, h8, h9, h10, h11⟩ := h
  exact ⟨h0, h1, h3, h4, h5, rfl, rfl⟩
/-- what an act of the reference may change: the row R -/
def Mf (n : Nat) (f : Nat → LWt) (R : Nat) (σ τ : sa_St) : Prop := FrR [159, 163, 175, 176, R] σ τ ∧ (∀ k, ¬ isPF k → k ≠ 40 → k ≠ 41 → τ.1 159 k = σ.1 159 k) ∧ MemoR n f (τ.2.2 175) (τ.1 176)
theorem Mf.dn {n : Nat} {f : Nat → LWt} {R : Nat} {gs : List Nat} {σ τ : sa_St} (h : Mf n f R σ τ) (h0 : gs.contains 0 = true) (h9 : gs.contains 9 = true) (hR : ∀ k, gs.contains (grp R k) = true) : Dn gs σ τ := by
  refine ⟨fun a b g _ => h.1.1.1 a b g, fun a k g => ?_⟩
  by_cases e : a = 159
  · subst e
    by_cases e1 : k = 40
    · subst e1; rw [show grp 159 40 = 0 from rfl, h0] at g; cases g
    · by_cases e2 : k = 41
      · subst e2; rw [show grp 159 41 = 0 from rfl, h0] at g; cases g
      · refine h.2.1 k (fun q => ?_) e1 e2
        rw [isPF_0 q, h0] at g
        cases g
  · by_cases e2 : a = 163
    · subst e2
      rw [show grp 163 k = 0 from rfl, h0] at g
      cases g
    · by_cases e3 : a = 175
      · subst e3
        rw [show grp 175 k = 0 from rfl, h0] at g
        cases g
      · by_cases e4 : a = 176
        · subst e4
          rw [show grp 176 k = 9 from rfl, h9] at g
          cases g
        · by_cases e5 : a = R
          · subst e5
            rw [hR] at g
            cases g
          · rw [(h.1.2 a (by simp only [List.mem_cons, List.not_mem_nil, or_false]; omega)).1]
/-- what the class's past holds: the camps ahead of the latest acts, the latest first -/
def PC (hist : List (Nat → Int32)) (nx sz : Int32) (kept : Nat → Nat → Int32) : Prop := ∃ n : Nat, n < 41 ∧ hist.length ≤ 40 ∧ nx = nI n ∧ sz = nI hist.length ∧ ∀ (x : Nat) (c : Nat → Int32), hist[x]? = some c → ∀ j, j < 259 → kept ((n + 40 - x) % 41) j = c j
def PM (hist : List (Nat → Int32)) (acts : Int32) (u : Nat → Int32) : Prop := hist.length ≤ 40 ∧ acts = nI hist.length ∧ ∀ (x : Nat) (c : Nat → Int32), hist[x]? = some c → ∃ wl : Nat → Int32, LogR c wl ∧ ∀ j, j < 260 → u (260 * (hist.length - 1 - x) + j) = toW c wl j
theorem lt_of_some {α : Type} {l : List α} {x : Nat} {c : α} (h : l[x]? = some c) : x < l.length := (List.getElem?_eq_some_iff.mp h).1
theorem PastR.un {P W H B : Nat} {nx sz acts : Int32} {kept : Nat → Nat → Int32} {u : Nat → Int32} (h : PastR P W H B nx sz acts kept u) : ∃ hist, PC hist nx sz kept ∧ PM hist acts u ∧ ∀ c ∈ hist, KV P W H B c := by
  obtain ⟨n, s, n41, s40, e1, e2, e3, hc⟩ := h
  have hl : ((List.range s).map (fun x => kept ((n + 40 - x) % 41))).length = s := by simp
  have hat : ∀ (x : Nat) (c : Nat → Int32), ((List.range s).map (fun x => kept ((n + 40 - x) % 41)))[x]? = some c → x < s ∧ c = kept ((n + 40 - x) % 41) := by
    intro x c hx
    have hx1 := lt_of_some hx
    rw [hl] at hx1
    rw [List.getElem?_map, List.getElem?_range hx1] at hx
    exact ⟨hx1, (Option.some.inj hx).symm⟩
  refine ⟨(List.range s).map (fun x => kept ((n + 40 - x) % 41)), ⟨n, n41, by rw [hl]; exact s40, e1, by rw [hl]; exact e2, fun x c hx j hj => ?_⟩, ⟨by rw [hl]; exact s40, by rw [hl]; exact e3, fun x c hx => ?_⟩, fun c hc2 => ?_⟩
  · rw [(hat x c hx).2]
  · obtain ⟨hx1, rfl⟩ := hat x c hx
    obtain ⟨-, wl, hw, hl2⟩ := hc (s - 1 - x) (by omega)
    rw [show (n + 41 - s + (s - 1 - x)) % 41 = (n + 40 - x) % 41 by congr 1; omega] at hw hl2
    refine ⟨wl, hl2, fun j hj => ?_⟩
    rw [hl]
    exact congrFun hw j
  · obtain ⟨x, hx, rfl⟩ := List.mem_map.mp hc2
    have hx1 := List.mem_range.mp hx
    have := (hc (s - 1 - x) (by omega)).1
    rw [show (n + 41 - s + (s - 1 - x)) % 41 = (n + 40 - x) % 41 by congr 1; omega] at this
    exact this
theorem PastR.re {P W H B : Nat} {nx sz acts : Int32} {kept : Nat → Nat → Int32} {u : Nat → Int32} {hist : List (Nat → Int32)} (h1 : PC hist nx sz kept) (h2 : PM hist acts u) (h3 : ∀ c ∈ hist, KV P W H B c) : PastR P W H B nx sz acts kept u := by
  obtain ⟨n, n41, l40, e1, e2, hc⟩ := h1
  obtain ⟨-, e3, hm⟩ := h2
  refine ⟨n, hist.length, n41, l40, e1, e2, e3, fun i hi => ?_⟩
  have hx : hist[hist.length - 1 - i]? = some hist[hist.length - 1 - i] := List.getElem?_eq_getElem (by omega)
  have hkv := h3 _ (List.mem_of_getElem? hx)
  obtain ⟨wl, hl, hw⟩ := hm _ _ hx
  rw [show hist.length - 1 - (hist.length - 1 - i) = i by omega] at hw
  have hk := hc _ _ hx
  rw [show (n + 40 - (hist.length - 1 - i)) % 41 = (n + 41 - hist.length + i) % 41 by congr 1; omega] at hk
  exact CampR.cong ⟨hkv, wl, rfl, hl⟩ hk hw
theorem take_len {k : Nat → Int32} {hist : List (Nat → Int32)} (h : hist.length ≤ 40) : ((k :: hist).take 40).length = min 40 (hist.length + 1) := by
  rw [List.length_take, List.length_cons]
theorem take_at {k : Nat → Int32} {hist : List (Nat → Int32)} {x : Nat} {c : Nat → Int32} (h : ((k :: hist).take 40)[x]? = some c) : x < 40 ∧ ((x = 0 ∧ c = k) ∨ ∃ y, x = y + 1 ∧ hist[y]? = some c) := by
  have hx := lt_of_some h
  rw [List.length_take] at hx
  rw [List.getElem?_take_of_lt (by omega)] at h
  refine ⟨by omega, ?_⟩
  cases x with
  | zero => exact Or.inl ⟨rfl, (Option.some.inj h).symm⟩
  | succ y => exact Or.inr ⟨y, rfl, h⟩
theorem PM.push {σ : sa_St} {hist : List (Nat → Int32)} {k wl : Nat → Int32} {Q : Unit → sa_St → Prop} (hk : SK σ.2.1) (h : PM hist (σ.1 159 43) (σ.1 177)) (hw : σ.1 173 = toW k wl) (hl : LogR k wl) (hQ : ∀ τ, Fr [159, 177] σ τ → (∀ j, j ≠ 43 → τ.1 159 j = σ.1 159 j) → PM ((k :: hist).take 40) (τ.1 159 43) (τ.1 177) → τ.2 = σ.2 → Q () τ) : wp (f_X12_remember 159) σ Q := by
  obtain ⟨l40, e3, hm⟩ := h
  have tail : ∀ (s : Nat) (τ : sa_St), s < 40 → s + 1 = min 40 (hist.length + 1) → Fr [159, 177] σ τ → (∀ j, j ≠ 43 → τ.1 159 j = σ.1 159 j) → τ.1 159 43 = nI s → τ.2 = σ.2 → (∀ x c, hist[x]? = some c → x < s → ∃ wl, LogR c wl ∧ ∀ j, j < 260 → τ.1 177 (260 * (s - 1 - x) + j) = toW c wl j) →
      wp (sa_wh1 (fun j52 (x3 : Int32) => if 260 ≤ x3 then sa_bnd (sa_rdI 12 159 43) fun v4 => sa_bnd (sa_wrI 12 159 43 (v4 + 1)) fun _ => sa_ret () else sa_bnd (sa_rdR 12 159 42) fun v5 => sa_bnd (sa_rdI 12 159 43) fun v6 => sa_bnd (sa_rdR 12 159 35) fun v7 => sa_bnd (sa_ldI .int v7 x3) fun v8 => sa_bnd (sa_stI v5 ((260 * v6) + x3) v8) fun _ => sa_let ((x3 + 1) : Int32) fun x9 => j52 x9) sa_F 0) τ Q := by
    intro s τ hs hsl hF h9 h43 hlo hold
    have q42 : τ.2.1 159 42 = 178 := by rw [hF.1]; exact sk_159_42 hk
    have q35 : τ.2.1 159 35 = 174 := by rw [hF.1]; exact sk_159_35 hk
    have h173 : τ.1 173 = toW k wl := by rw [(hF.2 173 (by decide)).1]; exact hw
    refine wp_for1 260 0 (fun i υ => ∃ r : Nat → Int32, υ = (va_up τ.1 177 r, τ.2) ∧ (∀ j, j < i → r (260 * s + j) = toW k wl j) ∧ ∀ t, t < 260 * s → r t = τ.1 177 t) ?_ ?_ ⟨τ.1 177, ?_, fun j hj => by omega, fun _ _ => rfl⟩ (by omega) (by unfold sa_F; omega)
    · rintro i υ hi ⟨r, rfl, r1, r2⟩ c hc
      simp (disch := omega) only [wp_gd, wp_bnd, wp_let, wp_jn0, wp_jn1, wp_jn2, wp_if, wp_ret, wp_rdI, wp_rdL, v_rdR, v_ldI, v_ldL, v_ldR, v_stI, v_stB, v_stZ, v_stL, wp_wrI, wp_wrL, wp_wrR, wp_wrZ, wp_retZ, v_md, v_dv, v_tb, upI_2, true_and, and_true, Nat.add_sub_cancel, Nat.zero_lt_succ, Nat.succ_pos, okN, clN, L0, L1, L2, L3, L4, L5, L6, L7, L8, L9, L10, L11, L12, L13, L14, L15, L16, L17, L18, L19, L20, L21, L22, L23, L24, L25, L26, L27, L28, L29, L30, L31, L32, L33, L34, L35, L36, L37, L38, L39, L40, L41, L42, L43, L44, L45, L46, L47, L48, L49, L50, L51, L52, L53, L54, L55, L56, L57, L58, L59, L60, L61, L62, L63, L64, L65, L66, L67, L68, L69, L70, L71, L72, L73, L74, L75, L76, L77, L78, L79, L80, L81, L82, L83, L84, L85, L86, L87, L88, L89, L90, L91, L92, L93, L94, L95, L96, L97, L98, L99, L100, L101, L102, L103, L104, L105, L106, L107, L108, L109, L110, L111, L112, L113, L114, L115, L116, L117, L118, L119, L120, L121, L122, L123, L124, L125, L126, L127, L128, L129, L130, L131, L200, L240, L255, L260, L1000, L4096, L10140, L1000000, ng1, mI_lt, mI_le, lt_mI, le_mI, eq_mI, mI_eq, mI_mI, mI_mE, nI_add, pk_mul, pk_sub, pk_rem, sa_minN, sa_maxN, ne_eq, nI_leI, nI_ltI, nI_eq, dT_le, dF_le, dT_lt, dF_lt, dT_eq, dF_eq, true_imp_iff, false_imp_iff, not_true_eq_false, not_false_eq_true, false_or, or_false, true_or, or_true, false_and, and_false, Decidable.not_not, reduceIte, if_true, if_false, upI_self, upI_ne, upL_1, upL_21, upL_self, upL_ne, upR_1, upR_22, upR_self, upR_ne, va_up_self, va_up_ne, Nat.reduceAdd, Nat.reduceMul, Nat.reduceSub, Nat.reduceLT, Nat.reduceLeDiff, Nat.reduceEqDiff, Nat.reduceSubDiff, Nat.zero_add, cm3, cm5, cm7, cm8, cm25, Nat.not_lt_zero, Nat.zero_le, not_false_iff, and_self, imp_self, implies_true, forall_const, Nat.lt_irrefl, Nat.le_refl, and_imp, sh_0, sh_159, sh_1, sh_15, sh_44, sh_46, sh_48, sh_134, sh_136, sh_151, sh_156, q42, q35, al_173, al_177, h43, h173]
      refine hc _ ⟨va_up r (260 * s + i) (toW k wl i), ?_, fun j hj => ?_, fun t ht => ?_⟩
      · unfold sa_upI
        simp only [va_up_self]
        congr 1
        funext j
        by_cases e : j = 177
        · subst e; rw [va_up_self, va_up_self]
        · rw [va_up_ne _ _ e, va_up_ne _ _ e, va_up_ne _ _ e]
      · by_cases e : j = i
        · subst e; rw [va_up_self]
        · rw [va_up_ne _ _ (by omega)]; exact r1 j (by omega)
      · rw [va_up_ne _ _ (by omega)]; exact r2 t ht
    · rintro υ ⟨r, rfl, r1, r2⟩ c
      simp (disch := omega) only [wp_gd, wp_bnd, wp_let, wp_jn0, wp_jn1, wp_jn2, wp_if, wp_ret, wp_rdI, wp_rdL, v_rdR, v_ldI, v_ldL, v_ldR, v_stI, v_stB, v_stZ, v_stL, wp_wrI, wp_wrL, wp_wrR, wp_wrZ, wp_retZ, v_md, v_dv, v_tb, upI_2, true_and, and_true, Nat.add_sub_cancel, Nat.zero_lt_succ, Nat.succ_pos, okN, clN, L0, L1, L2, L3, L4, L5, L6, L7, L8, L9, L10, L11, L12, L13, L14, L15, L16, L17, L18, L19, L20, L21, L22, L23, L24, L25, L26, L27, L28, L29, L30, L31, L32, L33, L34, L35, L36, L37, L38, L39, L40, L41, L42, L43, L44, L45, L46, L47, L48, L49, L50, L51, L52, L53, L54, L55, L56, L57, L58, L59, L60, L61, L62, L63, L64, L65, L66, L67, L68, L69, L70, L71, L72, L73, L74, L75, L76, L77, L78, L79, L80, L81, L82, L83, L84, L85, L86, L87, L88, L89, L90, L91, L92, L93, L94, L95, L96, L97, L98, L99, L100, L101, L102, L103, L104, L105, L106, L107, L108, L109, L110, L111, L112, L113, L114, L115, L116, L117, L118, L119, L120, L121, L122, L123, L124, L125, L126, L127, L128, L129, L130, L131, L200, L240, L255, L260, L1000, L4096, L10140, L1000000, ng1, mI_lt, mI_le, lt_mI, le_mI, eq_mI, mI_eq, mI_mI, mI_mE, nI_add, pk_mul, pk_sub, pk_rem, sa_minN, sa_maxN, ne_eq, nI_leI, nI_ltI, nI_eq, dT_le, dF_le, dT_lt, dF_lt, dT_eq, dF_eq, true_imp_iff, false_imp_iff, not_true_eq_false, not_false_eq_true, false_or, or_false, true_or, or_true, false_and, and_false, Decidable.not_not, reduceIte, if_true, if_false, upI_self, upI_ne, upL_1, upL_21, upL_self, upL_ne, upR_1, upR_22, upR_self, upR_ne, va_up_self, va_up_ne, Nat.reduceAdd, Nat.reduceMul, Nat.reduceSub, Nat.reduceLT, Nat.reduceLeDiff, Nat.reduceEqDiff, Nat.reduceSubDiff, Nat.zero_add, cm3, cm5, cm7, cm8, cm25, Nat.not_lt_zero, Nat.zero_le, not_false_iff, and_self, imp_self, implies_true, forall_const, Nat.lt_irrefl, Nat.le_refl, and_imp, sh_0, sh_159, sh_1, sh_15, sh_44, sh_46, sh_48, sh_134, sh_136, sh_151, sh_156, h43]
      refine hQ _ (Fr.up (hF.trans (Fr.setI (by decide))) (by decide)) (fun j hj => ?_) ⟨?_, ?_, fun x c hx => ?_⟩ hlo
      · simp (disch := omega) only [upI_self, va_up_ne]
        exact h9 j hj
      · rw [take_len l40]; omega
      · simp (disch := omega) only [upI_self, va_up_self]
        rw [take_len l40, hsl]
      · rw [take_len l40, ← hsl]
        obtain ⟨hx40, hx2⟩ := take_at hx
        have hxl := lt_of_some hx
        rw [take_len l40, ← hsl] at hxl
        simp (disch := omega) only [upI_ne, va_up_self]
        rcases hx2 with ⟨rfl, rfl⟩ | ⟨y, rfl, hy⟩
        · refine ⟨wl, hl, fun j hj => ?_⟩
          rw [show s + 1 - 1 - 0 = s by omega]
          exact r1 j hj
        · obtain ⟨wl2, g1, g2⟩ := hold y c hy (by omega)
          refine ⟨wl2, g1, fun j hj => ?_⟩
          rw [show s + 1 - 1 - (y + 1) = s - 1 - y by omega, r2 _ (by omega)]
          exact g2 j hj
    · have : va_up τ.1 177 (τ.1 177) = τ.1 := by
        funext j
        by_cases e : j = 177
        · subst e; rw [va_up_self]
        · rw [va_up_ne _ _ e]
      rw [this]
  by_cases h40 : hist.length = 40
  · unfold f_X12_remember
    simp only [wp_gd, wp_bnd, wp_rdI, wp_jn0, sh_159, true_and, wp_let]
    rw [wp_if]
    refine ⟨fun q => absurd (e3.trans (by rw [h40]; rfl)) q, fun _ => ?_⟩
    rw [wp_let]
    refine wp_for1 10140 0 (fun i υ => ∃ r : Nat → Int32, υ = (va_up σ.1 177 r, σ.2) ∧ ∀ t, r t = if t < i then σ.1 177 (t + 260) else σ.1 177 t) ?_ ?_ ⟨σ.1 177, ?_, fun t => by rw [if_neg (by omega)]⟩ (by omega) (by unfold sa_F; omega)
    · rintro i υ hi ⟨r, rfl, r1⟩ c hc
      simp (disch := omega) only [wp_gd, wp_bnd, wp_let, wp_jn0, wp_jn1, wp_jn2, wp_if, wp_ret, wp_rdI, wp_rdL, v_rdR, v_ldI, v_ldL, v_ldR, v_stI, v_stB, v_stZ, v_stL, wp_wrI, wp_wrL, wp_wrR, wp_wrZ, wp_retZ, v_md, v_dv, v_tb, upI_2, true_and, and_true, Nat.add_sub_cancel, Nat.zero_lt_succ, Nat.succ_pos, okN, clN, L0, L1, L2, L3, L4, L5, L6, L7, L8, L9, L10, L11, L12, L13, L14, L15, L16, L17, L18, L19, L20, L21, L22, L23, L24, L25, L26, L27, L28, L29, L30, L31, L32, L33, L34, L35, L36, L37, L38, L39, L40, L41, L42, L43, L44, L45, L46, L47, L48, L49, L50, L51, L52, L53, L54, L55, L56, L57, L58, L59, L60, L61, L62, L63, L64, L65, L66, L67, L68, L69, L70, L71, L72, L73, L74, L75, L76, L77, L78, L79, L80, L81, L82, L83, L84, L85, L86, L87, L88, L89, L90, L91, L92, L93, L94, L95, L96, L97, L98, L99, L100, L101, L102, L103, L104, L105, L106, L107, L108, L109, L110, L111, L112, L113, L114, L115, L116, L117, L118, L119, L120, L121, L122, L123, L124, L125, L126, L127, L128, L129, L130, L131, L200, L240, L255, L260, L1000, L4096, L10140, L1000000, ng1, mI_lt, mI_le, lt_mI, le_mI, eq_mI, mI_eq, mI_mI, mI_mE, nI_add, pk_mul, pk_sub, pk_rem, sa_minN, sa_maxN, ne_eq, nI_leI, nI_ltI, nI_eq, dT_le, dF_le, dT_lt, dF_lt, dT_eq, dF_eq, true_imp_iff, false_imp_iff, not_true_eq_false, not_false_eq_true, false_or, or_false, true_or, or_true, false_and, and_false, Decidable.not_not, reduceIte, if_true, if_false, upI_self, upI_ne, upL_1, upL_21, upL_self, upL_ne, upR_1, upR_22, upR_self, upR_ne, va_up_self, va_up_ne, Nat.reduceAdd, Nat.reduceMul, Nat.reduceSub, Nat.reduceLT, Nat.reduceLeDiff, Nat.reduceEqDiff, Nat.reduceSubDiff, Nat.zero_add, cm3, cm5, cm7, cm8, cm25, Nat.not_lt_zero, Nat.zero_le, not_false_iff, and_self, imp_self, implies_true, forall_const, Nat.lt_irrefl, Nat.le_refl, and_imp, sh_0, sh_159, sh_1, sh_15, sh_44, sh_46, sh_48, sh_134, sh_136, sh_151, sh_156, sk_159_42 hk, al_177]
      refine hc _ ⟨va_up r i (r (i + 260)), ?_, fun t => ?_⟩
      · unfold sa_upI
        simp only [va_up_self]
        congr 1
        funext j
        by_cases e : j = 177
        · subst e; rw [va_up_self, va_up_self]
        · rw [va_up_ne _ _ e, va_up_ne _ _ e, va_up_ne _ _ e]
      · by_cases e : t = i
        · subst e; rw [va_up_self, if_pos (by omega), r1, if_neg (by omega)]
        · rw [va_up_ne _ _ e, r1]
          by_cases e2 : t < i
          · rw [if_pos e2, if_pos (by omega)]
          · rw [if_neg e2, if_neg (by omega)]
    · rintro υ ⟨r, rfl, r1⟩ c
      rw [wp_if]
      refine ⟨fun _ => ?_, fun q => absurd (nI_le (Nat.le_refl 10140) (by omega)) q⟩
      simp only [wp_bnd, wp_rdI, wp_wrI, sh_159, true_and]
      refine tail 39 _ (by omega) (by omega) (Fr.up (Fr.setI (by decide)) (by decide)) (fun j hj => ?_) ?_ rfl (fun x c hx hx2 => ?_)
      · rw [upI_self, va_up_ne _ _ hj]
        rfl
      · rw [upI_self, va_up_self]
        show σ.1 159 43 - 1 = _
        rw [e3, h40]
        decide
      · obtain ⟨wl2, g1, g2⟩ := hm x c hx
        refine ⟨wl2, g1, fun j hj => ?_⟩
        rw [upI_ne (by omega)]
        show va_up σ.1 177 r 177 _ = _
        rw [va_up_self, r1, if_pos (by omega)]
        have := g2 j hj
        rw [h40] at this
        rw [show 260 * (39 - 1 - x) + j + 260 = 260 * (40 - 1 - x) + j by omega]
        exact this
    · have : va_up σ.1 177 (σ.1 177) = σ.1 := by
        funext j
        by_cases e : j = 177
        · subst e; rw [va_up_self]
        · rw [va_up_ne _ _ e]
      rw [this]
  · unfold f_X12_remember
    simp only [wp_gd, wp_bnd, wp_rdI, wp_jn0, sh_159, true_and, wp_let]
    rw [wp_if]
    refine ⟨fun _ => tail hist.length σ (by omega) (by omega) Fr.rfl' (fun _ _ => rfl) e3 rfl (fun x c hx _ => hm x c hx), fun q => absurd ?_ q⟩
    rw [e3, L40, nI_eq (by omega) (by omega)]
    exact h40
