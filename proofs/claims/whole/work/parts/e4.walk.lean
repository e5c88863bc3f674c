/-! JOURNEYS, by the class: a row walked, what it had in common with the one ahead standing already -/
theorem sk_140 {ρ : Nat → Nat → Nat} (h : SK ρ) {j : Nat} (hj : j < 8) : ρ 140 j = 141 + j + 1 := by
  match j, hj with
  | 0, _ => exact sk_140_0 h
  | 1, _ => exact sk_140_1 h
  | 2, _ => exact sk_140_2 h
  | 3, _ => exact sk_140_3 h
  | 4, _ => exact sk_140_4 h
  | 5, _ => exact sk_140_5 h
  | 6, _ => exact sk_140_6 h
  | 7, _ => exact sk_140_7 h
  | n + 8, hj => omega
theorem al_141j {j : Nat} (hj : j < 8) : sa_al .long (141 + j) = 100 := by
  match j, hj with
  | 0, _ => rfl
  | 1, _ => rfl
  | 2, _ => rfl
  | 3, _ => rfl
  | 4, _ => rfl
  | 5, _ => rfl
  | 6, _ => rfl
  | 7, _ => rfl
  | n + 8, hj => omega
def FW (σ τ : sa_St) : Prop := τ.2.1 = σ.2.1 ∧ (∀ j, j ∉ [17, 20, 23, 26, 29, 32] → j ≠ 136 → j ≠ 149 → τ.1 j = σ.1 j) ∧ (∀ k, k ≠ 15 → k ≠ 4 → τ.1 136 k = σ.1 136 k) ∧ ∀ j, 33 ≤ j → (j < 141 ∨ 150 < j) → τ.2.2 j = σ.2.2 j
theorem FW.rfl' {σ : sa_St} : FW σ σ := ⟨rfl, fun _ _ _ _ => rfl, fun _ _ _ => rfl, fun _ _ _ => rfl⟩
theorem FW.trans {σ τ υ : sa_St} (h : FW σ τ) (h2 : FW τ υ) : FW σ υ := ⟨h2.1.trans h.1, fun j a b c => (h2.2.1 j a b c).trans (h.2.1 j a b c), fun k a b => (h2.2.2.1 k a b).trans (h.2.2.1 k a b), fun j a b => (h2.2.2.2 j a b).trans (h.2.2.2 j a b)⟩
theorem CF.fw {R : Nat} {σ τ : sa_St} (h : CF R σ τ) (hR : 141 ≤ R ∧ R ≤ 150) : FW σ τ := ⟨h.1, fun j a _ _ => h.2.1 j a, fun k _ _ => by rw [h.2.1 136 (nm_33 136 (by omega))], fun j a b => h.2.2 j (by omega) a⟩
theorem FW.cpy {σ : sa_St} {R : Nat} {r : Nat → Int64} (hR : 141 ≤ R ∧ R ≤ 150) : FW σ (σ.1, σ.2.1, va_up σ.2.2 R r) := ⟨rfl, fun _ _ _ _ => rfl, fun _ _ _ => rfl, fun j _ b => va_up_ne _ _ (by omega)⟩
theorem FW.up {σ : sa_St} {id k : Nat} {v : Int32} (h : id = 149 ∨ (id = 136 ∧ (k = 15 ∨ k = 4))) : FW σ (sa_upI σ id k v) := by
  refine ⟨rfl, fun j _ b c => ?_, fun k2 a b => ?_, fun _ _ _ => rfl⟩
  · rw [upI_ne (by omega)]
  · rcases h with rfl | ⟨rfl, h⟩
    · rw [upI_ne (by omega)]
    · rw [upI_self, va_up_ne _ _ (by omega)]
theorem FW.dn {σ τ : sa_St} (h : FW σ τ) : Dn [0] σ τ := by
  refine ⟨fun a b _ _ => by rw [h.1], fun a k g => ?_⟩
  by_cases e : a ∈ [17, 20, 23, 26, 29, 32]
  · simp only [List.mem_cons, List.not_mem_nil, or_false] at e
    rcases e with rfl | rfl | rfl | rfl | rfl | rfl <;> cases g
  · by_cases e1 : a = 136
    · subst e1; cases g
    · by_cases e2 : a = 149
      · subst e2; cases g
      · rw [h.2.1 a e e1 e2]
/-- walking a row: nor what is aside, nor the mean of a wait -/
def XW (σ τ : sa_St) : Prop := FW σ τ ∧ τ.2.2 150 = σ.2.2 150 ∧ τ.1 136 4 = σ.1 136 4
theorem XW.rfl' {σ : sa_St} : XW σ σ := ⟨FW.rfl', rfl, rfl⟩
theorem XW.trans {σ τ υ : sa_St} (h : XW σ τ) (h2 : XW τ υ) : XW σ υ := ⟨h.1.trans h2.1, h2.2.1.trans h.2.1, h2.2.2.trans h.2.2⟩
theorem CF.xw {R : Nat} {σ τ : sa_St} (h : CF R σ τ) (hR : 141 ≤ R ∧ R ≤ 148) : XW σ τ := ⟨h.fw (by omega), h.2.2 150 (by omega) (by omega), by rw [h.2.1 136 (nm_33 136 (by omega))]⟩
theorem XW.cpy {σ : sa_St} {R : Nat} {r : Nat → Int64} (hR : 141 ≤ R ∧ R ≤ 148) : XW σ (σ.1, σ.2.1, va_up σ.2.2 R r) := ⟨FW.cpy (by omega), va_up_ne _ _ (by omega), rfl⟩
theorem XW.up {σ : sa_St} {id k : Nat} {v : Int32} (h : id = 149 ∨ (id = 136 ∧ k = 15)) : XW σ (sa_upI σ id k v) := by
  refine ⟨FW.up (by omega), rfl, ?_⟩
  rcases h with rfl | ⟨rfl, rfl⟩
  · rw [upI_ne (by omega)]
  · rw [upI_self, va_up_ne _ _ (by omega)]
section WALK
variable {L P W F n : Nat} {f : Nat → LWt} {z : Nat → Int32} {hold : Int32} {sk : Nat → Nat → Int32} {wr md h0 : Nat} {σ τ : sa_St} {rs : List (List Nat)} {row a0 to : Nat} {q : List Nat} {s0 : (Nat → Nat) × Nat}
theorem TV.fw (h : TV L P W F n f z hold sk wr md h0 σ) (hf : FW σ τ) : TV L P W F n f z hold sk wr md h0 τ := h.dn hf.dn (hf.2.2.2 175 (by omega) (by omega)) (by rw [hf.1]) (fun k a b => hf.2.2.1 k (by omega) (by omega))
theorem TR.fw (h : TR rs σ) (hf : FW σ τ) : TR rs τ := h.of (hf.2.2.1 3 (by omega) (by omega)) (hf.2.1 137 (nm_33 137 (by omega)) (by omega) (by omega)) (hf.2.1 138 (nm_33 138 (by omega)) (by omega) (by omega))
/-- the first k rows of parts are those of a path -/
def WKd (W : Nat) (z : Nat → Int32) (cn : CNf) (ls : LSf) (q : List Nat) (s0 : (Nat → Nat) × Nat) (k : Nat) (σ : sa_St) : Prop := ∀ i, i < k → (∀ x, x < 100 → σ.2.2 (141 + i) x = lN ((pv W z cn ls none q s0 i).1 x)) ∧ σ.1 149 i = nI (pv W z cn ls none q s0 i).2
def WKC (W : Nat) (z : Nat → Int32) (cn : CNf) (ls : LSf) (rs : List (List Nat)) (s0 : (Nat → Nat) × Nat) (σ : sa_St) : Prop := (σ.1 136 15 = mI ∧ WKd W z cn ls [] s0 1 σ) ∨ ∃ (w : Nat) (q : List Nat), rs[w]? = some q ∧ σ.1 136 15 = nI w ∧ WKd W z cn ls q s0 q.length σ
theorem e_common {w row : Nat} {qw : List Nat} (hk : SK σ.2.1) (hr : TR rs σ) (hq : rs[row]? = some q) (hqw : rs[w]? = some qw) (hpa : Pa P W z a0 to q) (hpw : Pa P W z a0 to qw) (hP : P ≤ 8) {Q : Int32 → sa_St → Prop} (hQ : ∀ c, 1 ≤ c → c ≤ q.length → c ≤ qw.length → (∀ j, j < c → qw.getD j 0 = q.getD j 0) → Q (nI c) σ) : wp (f_X9_commonPlaces 136 (nI w) (nI row)) σ Q := by
  have hr2 := hr.2.1
  have l1 := lt_of_some hq
  have l2 := lt_of_some hqw
  obtain ⟨p1, p8, pa, -, pP, -, -⟩ := hpa
  obtain ⟨w1, w8, wa, -, wP, -, -⟩ := hpw
  unfold f_X9_commonPlaces
  rw [wp_gd]
  refine ⟨rfl, ?_⟩
  rw [wp_bnd, wp_rdR (v := 138) rfl (sk_136_11 hk), wp_bnd, wp_ldI (n := w) (len := 200) al_138 rfl (by omega) (by omega), (hr.2.2 w qw hqw).1, wp_bnd, wp_rdR (v := 138) rfl (sk_136_11 hk), wp_bnd, wp_ldI (n := row) (len := 200) al_138 rfl (by omega) (by omega), (hr.2.2 row q hq).1, wp_let, wp_let, sa_minN (by omega) (by omega)]
  refine wp_for1 (min qw.length q.length) 1 (fun c τ => τ = σ ∧ 1 ≤ c ∧ ∀ j, j < c → qw.getD j 0 = q.getD j 0) ?_ ?_ ⟨rfl, Nat.le_refl 1, fun j hj => ?_⟩ (by omega) (by unfold sa_F; omega)
  · rintro c τ hc ⟨rfl, c1, hcc⟩ j hj
    have g1 := wP c (by omega)
    have g2 := pP c (by omega)
    rw [wp_jn0, wp_if]
    refine ⟨fun q => absurd q (nI_ge hc (by omega)), fun _ => ?_⟩
    rw [wp_bnd, wp_of_eq (e_pOf hk hr hqw (by omega) w8), wp_bnd, wp_of_eq (e_pOf hk hr hq (by omega) p8), wp_if, nI_eq (by omega) (by omega)]
    refine ⟨fun q => ?_, fun q => ?_⟩
    · rw [wp_ret]
      exact hQ c c1 (by omega) (by omega) hcc
    · rw [wp_let, nI_1]
      refine hj _ ⟨rfl, by omega, fun x hx => ?_⟩
      by_cases e : x = c
      · subst e; exact Decidable.not_not.mp q
      · exact hcc x (by omega)
  · rintro τ ⟨rfl, c1, hcc⟩ j
    rw [wp_jn0, wp_if]
    refine ⟨fun _ => ?_, fun q => absurd (nI_le (Nat.le_refl _) (by omega)) q⟩
    rw [wp_ret]
    exact hQ _ c1 (by omega) (by omega) hcc
  · have : j = 0 := by omega
    subst this
    rw [wa, pa]
theorem c_walkR {Q : Unit → sa_St → Prop} (hT : TV L P W F n f z hold sk wr md h0 σ) (hr : TR rs σ) (hpt : ∀ (i : Nat) (q : List Nat), rs[i]? = some q → Pa P W z a0 to q) (hq : rs[row]? = some q) (hs : zc_sm 100 s0.1 = AL) (he : s0.2 ≤ 12) (hw : WKC W z (cnS z sk) (lsS f hold z wr md h0) rs s0 σ) (hQ : ∀ τ, XW σ τ → τ.1 136 15 = nI row → WKd W z (cnS z sk) (lsS f hold z wr md h0) q s0 q.length τ → Q () τ) : wp (f_X9_walk 136 (nI row)) σ Q := by
  have hk := hT.1.1
  have hz := hT.1.zr
  have P8 := hz.1.1
  have hpa := hpt row q hq
  have hr2 := hr.2.1
  have l1 := lt_of_some hq
  have p8 := hpa.2.1
  have p1 := hpa.1
  have main : ∀ c, 1 ≤ c → c ≤ q.length → WKd W z (cnS z sk) (lsS f hold z wr md h0) q s0 c σ → wp (sa_wh1 (fun j23 (x3 : Int32) =>
sa_bnd (sa_rdR 9 136 11) fun v4 =>
sa_bnd (sa_ldI .int v4 (nI row)) fun v5 =>
if v5 ≤ x3 then
sa_bnd (sa_wrI 9 136 15 (nI row)) fun _ =>
sa_ret ()
else
sa_bnd (sa_rdR 9 136 13) fun v6 =>
sa_bnd (sa_ldR (.array .long) v6 (x3 - 1)) fun v7 =>
sa_bnd (sa_rdR 9 136 13) fun v8 =>
sa_bnd (sa_ldR (.array .long) v8 x3) fun v9 =>
sa_bnd (sa_cpL v7 0 v9 0 100) fun _ =>
sa_bnd (sa_rdR 9 136 14) fun v10 =>
sa_bnd (sa_rdR 9 136 13) fun v11 =>
sa_bnd (sa_ldR (.array .long) v11 x3) fun v12 =>
sa_bnd (sa_rdR 9 136 14) fun v13 =>
sa_bnd (sa_ldI .int v13 (x3 - 1)) fun v14 =>
sa_bnd (f_X9_walkWay 136 v12 (nI row) x3 v14) fun v15 =>
sa_bnd (sa_stI v10 x3 v15) fun _ =>
sa_let ((x3 + 1) : Int32) fun x16 =>
j23 x16) sa_F (nI c)) σ Q := by
    intro c c1 cq hc
    refine wp_for1 q.length c (fun i τ => 1 ≤ i ∧ XW σ τ ∧ WKd W z (cnS z sk) (lsS f hold z wr md h0) q s0 i τ) ?_ ?_ ⟨c1, XW.rfl', hc⟩ cq (by unfold sa_F; omega)
    · rintro i τ hi ⟨i1, hfw, hwk⟩ j hj
      obtain ⟨y, rfl⟩ : ∃ y, i = y + 1 := ⟨i - 1, by omega⟩
      have hT1 := hT.fw hfw.1
      have hr1 := hr.fw hfw.1
      have hk1 := hT1.1.1
      have ey : nI (y + 1) - 1 = nI y := nI_pred y
      obtain ⟨hrow, hhr⟩ := hwk y (by omega)
      have hsum : zc_sm 100 (pv W z (cnS z sk) (lsS f hold z wr md h0) none q s0 y).1 = AL := (pv_sum (fun p e => cnS_le p e) y).trans hs
      have hpe := pv_e (W := W) (z := z) (cn := cnS z sk) (ls := lsS f hold z wr md h0) (am := none) (q := q) (s := s0) y
      have hph := phr_le (q := q) hz y
      have epv := pv_none (W := W) (z := z) (cn := cnS z sk) (ls := lsS f hold z wr md h0) (q := q) (s := s0) (j := y)
      rw [wp_bnd, wp_rdR (v := 138) rfl (sk_136_11 hk1), wp_bnd, wp_ldI (n := row) (len := 200) al_138 rfl (by omega) (by omega), (hr1.2.2 row q hq).1, wp_if]
      refine ⟨fun q => absurd q (nI_ge hi (by omega)), fun _ => ?_⟩
      rw [ey, wp_bnd, wp_rdR (v := 140) rfl (sk_136_13 hk1), wp_bnd, wp_ldR (n := y) (len := 8) al_140 rfl (by omega) (by omega) (sk_140 hk1 (by omega)), wp_bnd, wp_rdR (v := 140) rfl (sk_136_13 hk1), wp_bnd, wp_ldR (n := y + 1) (len := 8) al_140 rfl (by omega) (by omega) (sk_140 hk1 (by omega)), wp_bnd, wp_cpL (sp := 0) (dp := 0) (n := 100) (sn := 0) (dn := 0) (nn := 100) (al_141j (by omega)) (al_141j (by omega)) rfl rfl rfl (by omega) (by omega) (by omega) (by omega)]
      have hfw2 : XW τ (τ.1, τ.2.1, va_up τ.2.2 (141 + (y + 1)) (va_cpy (τ.2.2 (141 + y)) (τ.2.2 (141 + (y + 1))) 0 0 100)) := XW.cpy (by omega)
      have hrow2 : ∀ x, x < 100 → (τ.1, τ.2.1, va_up τ.2.2 (141 + (y + 1)) (va_cpy (τ.2.2 (141 + y)) (τ.2.2 (141 + (y + 1))) 0 0 100)).2.2 (141 + (y + 1)) x = lN ((pv W z (cnS z sk) (lsS f hold z wr md h0) none q s0 y).1 x) := fun x hx => by
        show va_up τ.2.2 (141 + (y + 1)) _ (141 + (y + 1)) x = _
        rw [va_up_self, pk_cpy_in (by omega) (by omega), Nat.zero_add, Nat.sub_zero]
        exact hrow x hx
      have hoth : ∀ i, i < y + 1 → (τ.1, τ.2.1, va_up τ.2.2 (141 + (y + 1)) (va_cpy (τ.2.2 (141 + y)) (τ.2.2 (141 + (y + 1))) 0 0 100)).2.2 (141 + i) = τ.2.2 (141 + i) := fun i hi => va_up_ne _ _ (by omega)
      have h149 : (τ.1, τ.2.1, va_up τ.2.2 (141 + (y + 1)) (va_cpy (τ.2.2 (141 + y)) (τ.2.2 (141 + (y + 1))) 0 0 100)).1 149 = τ.1 149 := rfl
      generalize (τ.1, τ.2.1, va_up τ.2.2 (141 + (y + 1)) (va_cpy (τ.2.2 (141 + y)) (τ.2.2 (141 + (y + 1))) 0 0 100)) = τ2 at hfw2 hrow2 hoth h149 ⊢
      have hT2 := hT1.fw hfw2.1
      have hk2 := hT2.1.1
      rw [wp_bnd, wp_rdR (v := 149) rfl (sk_136_14 hk2), wp_bnd, wp_rdR (v := 140) rfl (sk_136_13 hk2), wp_bnd, wp_ldR (n := y + 1) (len := 8) al_140 rfl (by omega) (by omega) (sk_140 hk2 (by omega)), wp_bnd, wp_rdR (v := 149) rfl (sk_136_14 hk2), wp_bnd, wp_ldI (n := y) (len := 8) al_149 rfl (by omega) (by omega), h149, hhr, wp_bnd]
      refine c_way hT2 (hr1.fw hfw2.1) hq hpa hi (al_141j (by omega)) (by omega) hrow2 hsum (by omega) (fun τ3 hcf hrow3 => ?_)
      rw [wp_bnd, wp_stI (n := y + 1) (len := 8) al_149 rfl (by omega) (by omega), wp_let, nI_1]
      refine hj _ ⟨by omega, ((hfw.trans hfw2).trans (hcf.xw (by omega))).trans (XW.up (Or.inl rfl)), fun i hi2 => ?_⟩
      by_cases e : i = y + 1
      · subst e
        refine ⟨fun x hx => ?_, ?_⟩
        · rw [epv]
          exact hrow3 x hx
        · rw [upI_self, va_up_self, epv]
          rfl
      · obtain ⟨g1, g2⟩ := hwk i (by omega)
        refine ⟨fun x hx => ?_, ?_⟩
        · show τ3.2.2 (141 + i) x = _
          rw [hcf.2.2 (141 + i) (by omega) (by omega), hoth i (by omega)]
          exact g1 x hx
        · rw [upI_self, va_up_ne _ _ e, hcf.2.1 149 (nm_33 149 (by omega)), h149]
          exact g2
    · rintro τ ⟨-, hfw, hwk⟩ j
      have hk1 := (hT.fw hfw.1).1.1
      rw [wp_bnd, wp_rdR (v := 138) rfl (sk_136_11 hk1), wp_bnd, wp_ldI (n := row) (len := 200) al_138 rfl (by omega) (by omega), ((hr.fw hfw.1).2.2 row q hq).1, wp_if]
      refine ⟨fun _ => ?_, fun q => absurd (nI_le (Nat.le_refl _) (by omega)) q⟩
      rw [wp_bnd, wp_wrI]
      refine ⟨rfl, ?_⟩
      rw [wp_ret]
      refine hQ _ (hfw.trans (XW.up (Or.inr ⟨rfl, rfl⟩))) (by rw [upI_self, va_up_self]) (fun i hi => ?_)
      obtain ⟨g1, g2⟩ := hwk i hi
      exact ⟨g1, by rw [upI_ne (by omega)]; exact g2⟩
  unfold f_X9_walk
  rw [wp_gd]
  refine ⟨rfl, ?_⟩
  rw [wp_bnd, wp_rdI]
  refine ⟨rfl, ?_⟩
  rcases hw with ⟨h15, hwk⟩ | ⟨w, qw, hqw, h15, hwk⟩
  · rw [h15, wp_jn1, wp_if]
    refine ⟨fun q => absurd q (by decide), fun _ => ?_⟩
    refine main 1 (Nat.le_refl 1) p1 (fun i hi => ?_)
    have : i = 0 := by omega
    subst this
    exact hwk 0 (by omega)
  · have l2 := lt_of_some hqw
    rw [h15, wp_jn1, wp_if]
    refine ⟨fun _ => ?_, fun q => absurd (nI_pos' (by omega)) q⟩
    rw [wp_bnd, wp_rdI, h15]
    refine ⟨rfl, ?_⟩
    rw [wp_bnd]
    refine e_common hk hr hq hqw hpa (hpt w qw hqw) P8 (fun c c1 cq cw hcc => ?_)
    refine main c c1 cq (fun i hi => ?_)
    obtain ⟨g1, g2⟩ := hwk i (by omega)
    rw [pv_same hcc i hi] at g1 g2
    exact ⟨g1, g2⟩
end WALK
