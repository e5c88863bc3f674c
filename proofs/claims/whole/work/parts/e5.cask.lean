/-! JOURNEYS, by the class: what is asked of a row -/
def vMn (W : Nat) (z : Nat → Int32) (cn : CNf) (ls : LSf) (s0 : (Nat → Nat) × Nat) (am : Option Nat) (q : List Nat) : Nat := mnD (pv W z cn ls am q s0 (q.length - 1)).1
def vSu (W : Nat) (z : Nat → Int32) (cn : CNf) (ls : LSf) (s0 : (Nat → Nat) × Nat) (q : List Nat) : Nat := suD (pv W z cn ls none q s0 (q.length - 1)).1
def vHr (W : Nat) (z : Nat → Int32) (q : List Nat) : Nat := phr W z q (q.length - 1)
def vLs (W : Nat) (z : Nat → Int32) (cn : CNf) (ls : LSf) (s0 : (Nat → Nat) × Nat) (q : List Nat) : Nat → Nat
  | 0 => vMn W z cn ls s0 none q
  | i + 1 => min (vLs W z cn ls s0 q i) (vMn W z cn ls s0 (some (q.getD (i + 1) 0)) q)
section CASK
variable {L P W F n : Nat} {f : Nat → LWt} {z : Nat → Int32} {hold : Int32} {sk : Nat → Nat → Int32} {wr md h0 : Nat} {σ τ : sa_St} {rs : List (List Nat)} {row a0 to : Nat} {q : List Nat} {s0 : (Nat → Nat) × Nat} {Q : Int32 → sa_St → Prop}
theorem vMn_bd {am : Option Nat} (hs : zc_sm 100 s0.1 = AL) : vMn W z (cnS z sk) (lsS f hold z wr md h0) s0 am q ≤ 99000 := mnD_bd ((pv_sum (fun p e => cnS_le p e) _).trans hs)
theorem vSu_bd : vSu W z (cnS z sk) (lsS f hold z wr md h0) s0 q ≤ AL := Nat.sub_le _ _
theorem vLs_bd (hs : zc_sm 100 s0.1 = AL) : ∀ i, vLs W z (cnS z sk) (lsS f hold z wr md h0) s0 q i ≤ 99000 := by
  intro i
  induction i with
  | zero => exact vMn_bd hs
  | succ i ih => exact Nat.le_trans (Nat.min_le_left _ _) ih
theorem c_meanOf (hT : TV L P W F n f z hold sk wr md h0 σ) (hr : TR rs σ) (hpt : ∀ (i : Nat) (q : List Nat), rs[i]? = some q → Pa P W z a0 to q) (hq : rs[row]? = some q) (hs : zc_sm 100 s0.1 = AL) (he : s0.2 ≤ 12) (hw : WKC W z (cnS z sk) (lsS f hold z wr md h0) rs s0 σ) (hQ : ∀ τ, XW σ τ → τ.1 136 15 = nI row → WKd W z (cnS z sk) (lsS f hold z wr md h0) q s0 q.length τ → Q (nI (vMn W z (cnS z sk) (lsS f hold z wr md h0) s0 none q)) τ) : wp (f_X9_meanOf 136 (nI row)) σ Q := by
  have hr2 := hr.2.1
  have l1 := lt_of_some hq
  have p1 := (hpt row q hq).1
  have p8 := (hpt row q hq).2.1
  unfold f_X9_meanOf
  rw [wp_gd]
  refine ⟨rfl, ?_⟩
  rw [wp_bnd]
  refine c_walkR hT hr hpt hq hs he hw (fun τ fw0 h15 wk => ?_)
  have fw := fw0.1
  have hk1 := (hT.fw fw).1.1
  obtain ⟨y, hy⟩ : ∃ y, q.length = y + 1 := ⟨q.length - 1, by omega⟩
  have e1 : nI q.length - 1 = nI y := by rw [hy]; exact nI_pred y
  obtain ⟨g1, -⟩ := wk y (by omega)
  have hm := c_mean (σ := τ) (al_141j (j := y) (by omega)) g1 ((pv_sum (fun p e => cnS_le p e) y).trans hs)
  have hv : vMn W z (cnS z sk) (lsS f hold z wr md h0) s0 none q = mnD (pv W z (cnS z sk) (lsS f hold z wr md h0) none q s0 y).1 := by unfold vMn; rw [hy]; rfl
  rw [wp_bnd, wp_rdR (v := 140) rfl (sk_136_13 hk1), wp_bnd, wp_rdR (v := 138) rfl (sk_136_11 hk1), wp_bnd, wp_ldI (n := row) (len := 200) al_138 rfl (by omega) (by omega), ((hr.fw fw).2.2 row q hq).1, e1, wp_bnd, wp_ldR (n := y) (len := 8) al_140 rfl (by omega) (by omega) (sk_140 hk1 (by omega)), wp_bnd, wp_of_eq hm, wp_ret, ← hv]
  exact hQ τ fw0 h15 wk
theorem c_sureOf (hT : TV L P W F n f z hold sk wr md h0 σ) (hr : TR rs σ) (hpt : ∀ (i : Nat) (q : List Nat), rs[i]? = some q → Pa P W z a0 to q) (hq : rs[row]? = some q) (hs : zc_sm 100 s0.1 = AL) (he : s0.2 ≤ 12) (hw : WKC W z (cnS z sk) (lsS f hold z wr md h0) rs s0 σ) (hQ : ∀ τ, FW σ τ → τ.1 136 15 = nI row → WKd W z (cnS z sk) (lsS f hold z wr md h0) q s0 q.length τ → Q (nI (vSu W z (cnS z sk) (lsS f hold z wr md h0) s0 q)) τ) : wp (f_X9_sureOf 136 (nI row)) σ Q := by
  have hr2 := hr.2.1
  have l1 := lt_of_some hq
  have p1 := (hpt row q hq).1
  have p8 := (hpt row q hq).2.1
  unfold f_X9_sureOf
  rw [wp_gd]
  refine ⟨rfl, ?_⟩
  rw [wp_bnd]
  refine c_walkR hT hr hpt hq hs he hw (fun τ fw0 h15 wk => ?_)
  have fw := fw0.1
  have hk1 := (hT.fw fw).1.1
  obtain ⟨y, hy⟩ : ∃ y, q.length = y + 1 := ⟨q.length - 1, by omega⟩
  have e1 : nI q.length - 1 = nI y := by rw [hy]; exact nI_pred y
  obtain ⟨g1, -⟩ := wk y (by omega)
  have hd0 := d_bd ((pv_sum (W := W) (z := z) (cn := cnS z sk) (ls := lsS f hold z wr md h0) (am := none) (q := q) (s := s0) (fun p e => cnS_le p e) y).trans hs) (x := 0) (by omega)
  have hv : vSu W z (cnS z sk) (lsS f hold z wr md h0) s0 q = AL - (pv W z (cnS z sk) (lsS f hold z wr md h0) none q s0 y).1 0 := by unfold vSu suD; rw [hy]; rfl
  have e2 : (1000000000 - lN ((pv W z (cnS z sk) (lsS f hold z wr md h0) none q s0 y).1 0)).toInt32 = nI (AL - (pv W z (cnS z sk) (lsS f hold z wr md h0) none q s0 y).1 0) := by
    have e3 : (1000000000 : Int64) = lN AL := rfl
    rw [e3, lN_sub hd0, lN_i]
  rw [wp_bnd, wp_rdR (v := 140) rfl (sk_136_13 hk1), wp_bnd, wp_rdR (v := 138) rfl (sk_136_11 hk1), wp_bnd, wp_ldI (n := row) (len := 200) al_138 rfl (by omega) (by omega), ((hr.fw fw).2.2 row q hq).1, e1, wp_bnd, wp_ldR (n := y) (len := 8) al_140 rfl (by omega) (by omega) (sk_140 hk1 (by omega)), wp_bnd, wp_ldL (j := 0) (n := 0) (len := 100) (al_141j (by omega)) rfl (by omega) (by omega), g1 0 (by omega), wp_ret, e2, ← hv]
  exact hQ τ fw h15 wk
theorem c_hoursOf (hT : TV L P W F n f z hold sk wr md h0 σ) (hr : TR rs σ) (hpt : ∀ (i : Nat) (q : List Nat), rs[i]? = some q → Pa P W z a0 to q) (hq : rs[row]? = some q) : f_X9_hoursOf 136 (nI row) σ = some (nI (vHr W z q), σ) := by
  have hr2 := hr.2.1
  have l1 := lt_of_some hq
  have hpa := hpt row q hq
  have p1 := hpa.1
  have p8 := hpa.2.1
  have hk := hT.1.1
  have hz := hT.1.zr
  have W12 := hz.1.2.1
  refine run_of ?_
  unfold f_X9_hoursOf
  rw [wp_gd]
  refine ⟨rfl, ?_⟩
  rw [wp_let, wp_let]
  refine wp_for2 q.length 1 (fun i a τ => 1 ≤ i ∧ τ = σ ∧ a = nI (phr W z q (i - 1))) ?_ ?_ ⟨Nat.le_refl 1, rfl, rfl⟩ p1 (by unfold sa_F; omega)
  · rintro i a τ hi ⟨i1, rfl, rfl⟩ j hj
    obtain ⟨y, rfl⟩ : ∃ y, i = y + 1 := ⟨i - 1, by omega⟩
    obtain ⟨k, hkk⟩ := Option.isSome_iff_exists.mp (hpa.2.2.2.2.2.2 y hi)
    have hkW := lwy_lt hkk
    obtain ⟨⟨t1, t9, et⟩, -⟩ := wt_eq hz hkW
    have fw := e_wayTo hT hr hq hpa hi
    rw [hkk] at fw
    have fw' : f_X9_wayTo 136 (nI row) (nI (y + 1)) τ = some (nI k, τ) := fw
    have fc2 := e_cell hT.1 (a := 1) (b := k) (c := 2) (by omega)
    rw [show (1 * 12 + k) * 5 + 2 = 60 + 5 * k + 2 by omega, et] at fc2
    rw [wp_bnd, wp_rdR (v := 138) rfl (sk_136_11 hk), wp_bnd, wp_ldI (n := row) (len := 200) al_138 rfl (by omega) (by omega), (hr.2.2 row q hq).1, wp_if]
    refine ⟨fun q => absurd q (nI_ge hi (by omega)), fun _ => ?_⟩
    rw [wp_bnd, wp_rdR (v := L) rfl hT.2.1, wp_bnd, wp_of_eq fw', wp_bnd, wp_of_eq (show f_X1_cell L 1 (nI k) 2 τ = _ from fc2), wp_let, wp_let, nI_1]
    refine hj _ τ ⟨by omega, rfl, ?_⟩
    rw [nI_add]
    have eh : hrs W z (q.getD y 0) (q.getD (y + 1) 0) = wtN z k := by unfold hrs; rw [hkk]
    show _ = nI (phr W z q y + hrs W z (q.getD y 0) (q.getD (y + 1) 0))
    rw [eh]
    rfl
  · rintro a τ ⟨-, rfl, rfl⟩ j
    rw [wp_bnd, wp_rdR (v := 138) rfl (sk_136_11 hk), wp_bnd, wp_ldI (n := row) (len := 200) al_138 rfl (by omega) (by omega), (hr.2.2 row q hq).1, wp_if]
    refine ⟨fun _ => ?_, fun q => absurd (nI_le (Nat.le_refl _) (by omega)) q⟩
    rw [wp_ret]
    exact ⟨rfl, rfl⟩
/-- somebody lies in wait at the i-th place -/
theorem c_ambAt {i : Nat} (hT : TV L P W F n f z hold sk wr md h0 σ) (hr : TR rs σ) (hpt : ∀ (i : Nat) (q : List Nat), rs[i]? = some q → Pa P W z a0 to q) (hq : rs[row]? = some q) (hs : zc_sm 100 s0.1 = AL) (he : s0.2 ≤ 12) (wk : WKd W z (cnS z sk) (lsS f hold z wr md h0) q s0 q.length σ) (hi : i + 1 < q.length) (hQ : ∀ τ, CF 150 σ τ → Q (nI (vMn W z (cnS z sk) (lsS f hold z wr md h0) s0 (some (q.getD (i + 1) 0)) q)) τ) : wp (f_X9_meanAmbushedAt 136 (nI row) (nI (i + 1))) σ Q := by
  have hr2 := hr.2.1
  have l1 := lt_of_some hq
  have hpa := hpt row q hq
  have p1 := hpa.1
  have p8 := hpa.2.1
  have hk := hT.1.1
  have hz := hT.1.zr
  have hnd := hpa.2.2.2.2.2.1
  obtain ⟨g1, g2⟩ := wk (i + 1) hi
  unfold f_X9_meanAmbushedAt
  rw [wp_gd]
  refine ⟨rfl, ?_⟩
  rw [wp_bnd, wp_rdR (v := 140) rfl (sk_136_13 hk), wp_bnd, wp_ldR (n := i + 1) (len := 8) al_140 rfl (by omega) (by omega) (sk_140 hk (by omega)), wp_bnd, wp_rdR (v := 150) rfl (sk_136_16 hk), wp_bnd, wp_cpL (sp := 0) (dp := 0) (n := 100) (sn := 0) (dn := 0) (nn := 100) (al_141j (by omega)) al_150 rfl rfl rfl (by omega) (by omega) (by omega) (by omega)]
  have hcf1 : CF 150 σ (σ.1, σ.2.1, va_up σ.2.2 150 (va_cpy (σ.2.2 (141 + (i + 1))) (σ.2.2 150) 0 0 100)) := ⟨rfl, fun _ _ => rfl, fun j hj _ => va_up_ne _ _ hj⟩
  have hrow1 : ∀ x, x < 100 → (σ.1, σ.2.1, va_up σ.2.2 150 (va_cpy (σ.2.2 (141 + (i + 1))) (σ.2.2 150) 0 0 100)).2.2 150 x = lN ((pv W z (cnS z sk) (lsS f hold z wr md h0) none q s0 (i + 1)).1 x) := fun x hx => by
    show va_up σ.2.2 150 (va_cpy (σ.2.2 (141 + (i + 1))) (σ.2.2 150) 0 0 100) 150 x = _
    rw [va_up_self, pk_cpy_in (by omega) (by omega), Nat.zero_add, Nat.sub_zero]
    exact g1 x hx
  generalize (σ.1, σ.2.1, va_up σ.2.2 150 (va_cpy (σ.2.2 (141 + (i + 1))) (σ.2.2 150) 0 0 100)) = τ1 at hcf1 hrow1 ⊢
  rw [wp_bnd, wp_rdR (v := 150) rfl (sk_136_16 (hT.cf hcf1 (by omega)).1.1), wp_bnd]
  refine c_pour (n := 10) al_150 hrow1 (by omega) (fun τ2 hcf2 hrow2 => ?_)
  have hcf := hcf1.trans hcf2
  have hk2 := (hT.cf hcf (by omega)).1.1
  have ea := pv_amb1 (W := W) (z := z) (cn := cnS z sk) (ls := lsS f hold z wr md h0) (q := q) (s := s0) (i := i) (fun j hj hne => hnd j (i + 1) (by omega) hi)
  have ea1 : prD 10 (pv W z (cnS z sk) (lsS f hold z wr md h0) none q s0 (i + 1)).1 99 = (pv W z (cnS z sk) (lsS f hold z wr md h0) (some (q.getD (i + 1) 0)) q s0 (i + 1)).1 := by rw [ea]
  have ea2 : (pv W z (cnS z sk) (lsS f hold z wr md h0) none q s0 (i + 1)).2 = (pv W z (cnS z sk) (lsS f hold z wr md h0) (some (q.getD (i + 1) 0)) q s0 (i + 1)).2 := by rw [ea]
  rw [ea1] at hrow2
  rw [ea2] at g2
  rw [wp_bnd, wp_rdR (v := 149) rfl (sk_136_14 hk2), wp_bnd, wp_ldI (n := i + 1) (len := 8) al_149 rfl (by omega) (by omega), hcf.2.1 149 (nm_33 149 (by omega)), g2, wp_let, nI_1]
  refine wp_for2 q.length (i + 2) (fun j a τ => i + 2 ≤ j ∧ CF 150 σ τ ∧ (∀ x, x < 100 → τ.2.2 150 x = lN ((pv W z (cnS z sk) (lsS f hold z wr md h0) (some (q.getD (i + 1) 0)) q s0 (j - 1)).1 x)) ∧ a = nI (pv W z (cnS z sk) (lsS f hold z wr md h0) (some (q.getD (i + 1) 0)) q s0 (j - 1)).2) ?_ ?_ ⟨Nat.le_refl _, hcf, hrow2, rfl⟩ (by omega) (by unfold sa_F; omega)
  · rintro j a τ hj ⟨j1, hc, hrow, rfl⟩ k hkk
    obtain ⟨y, rfl⟩ : ∃ y, j = y + 1 := ⟨j - 1, by omega⟩
    have hT1 := hT.cf hc (by omega)
    have hk1 := hT1.1.1
    have hr1 := hr.cf hc
    have ey : y + 1 - 1 = y := by omega
    rw [ey] at hrow ⊢
    have hsum := (pv_sum (W := W) (z := z) (cn := cnS z sk) (ls := lsS f hold z wr md h0) (am := some (q.getD (i + 1) 0)) (q := q) (s := s0) (fun p e => cnS_le p e) y).trans hs
    have hpe := pv_e (W := W) (z := z) (cn := cnS z sk) (ls := lsS f hold z wr md h0) (am := some (q.getD (i + 1) 0)) (q := q) (s := s0) y
    have hph := phr_le (q := q) hz y
    have epv := pv_amb2 (W := W) (z := z) (cn := cnS z sk) (ls := lsS f hold z wr md h0) (q := q) (s := s0) (i := i + 1) (j := y) (Ne.symm (hnd (i + 1) (y + 1) (by omega) hj))
    rw [wp_bnd, wp_rdR (v := 138) rfl (sk_136_11 hk1), wp_bnd, wp_ldI (n := row) (len := 200) al_138 rfl (by omega) (by omega), (hr1.2.2 row q hq).1, wp_if]
    refine ⟨fun q => absurd q (nI_ge hj (by omega)), fun _ => ?_⟩
    rw [wp_bnd, wp_rdR (v := 150) rfl (sk_136_16 hk1), wp_bnd]
    refine c_way hT1 hr1 hq hpa hj al_150 (by omega) hrow hsum (by omega) (fun τ3 hcf3 hrow3 => ?_)
    rw [wp_let, nI_1]
    refine hkk _ _ ⟨by omega, hc.trans hcf3, ?_, ?_⟩
    · show ∀ x, x < 100 → τ3.2.2 150 x = lN ((pv W z (cnS z sk) (lsS f hold z wr md h0) (some (q.getD (i + 1) 0)) q s0 (y + 1)).1 x)
      rw [epv]
      exact hrow3
    · show _ = nI (pv W z (cnS z sk) (lsS f hold z wr md h0) (some (q.getD (i + 1) 0)) q s0 (y + 1)).2
      rw [epv]
      rfl
  · rintro a τ ⟨-, hc, hrow, rfl⟩ k
    have hk1 := (hT.cf hc (by omega)).1.1
    have hsum := (pv_sum (W := W) (z := z) (cn := cnS z sk) (ls := lsS f hold z wr md h0) (am := some (q.getD (i + 1) 0)) (q := q) (s := s0) (fun p e => cnS_le p e) (q.length - 1)).trans hs
    rw [wp_bnd, wp_rdR (v := 138) rfl (sk_136_11 hk1), wp_bnd, wp_ldI (n := row) (len := 200) al_138 rfl (by omega) (by omega), ((hr.cf hc).2.2 row q hq).1, wp_if]
    refine ⟨fun _ => ?_, fun q => absurd (nI_le (Nat.le_refl _) (by omega)) q⟩
    rw [wp_bnd, wp_rdR (v := 150) rfl (sk_136_16 hk1), wp_bnd, wp_of_eq (c_mean al_150 hrow hsum), wp_ret]
    exact hQ τ hc
theorem WKd.cf {k : Nat} (h : WKd W z (cnS z sk) (lsS f hold z wr md h0) q s0 k σ) (hf : CF 150 σ τ) (hk : k ≤ 8) : WKd W z (cnS z sk) (lsS f hold z wr md h0) q s0 k τ := by
  intro i hi
  rw [hf.2.2 (141 + i) (by omega) (by omega), hf.2.1 149 (nm_33 149 (by omega))]
  exact h i hi
theorem c_leastOf (hT : TV L P W F n f z hold sk wr md h0 σ) (hr : TR rs σ) (hpt : ∀ (i : Nat) (q : List Nat), rs[i]? = some q → Pa P W z a0 to q) (hq : rs[row]? = some q) (hs : zc_sm 100 s0.1 = AL) (he : s0.2 ≤ 12) (hw : WKC W z (cnS z sk) (lsS f hold z wr md h0) rs s0 σ) (hQ : ∀ τ, FW σ τ → τ.1 136 15 = nI row → WKd W z (cnS z sk) (lsS f hold z wr md h0) q s0 q.length τ → Q (nI (vLs W z (cnS z sk) (lsS f hold z wr md h0) s0 q (q.length - 1))) τ) : wp (f_X9_leastMeanOf 136 (nI row)) σ Q := by
  have hr2 := hr.2.1
  have l1 := lt_of_some hq
  have p1 := (hpt row q hq).1
  have p8 := (hpt row q hq).2.1
  unfold f_X9_leastMeanOf
  rw [wp_gd]
  refine ⟨rfl, ?_⟩
  rw [wp_bnd]
  refine c_walkR hT hr hpt hq hs he hw (fun τ fw0 h15 wk => ?_)
  have fw := fw0.1
  have hT1 := hT.fw fw
  have hr1 := hr.fw fw
  have hk1 := hT1.1.1
  obtain ⟨y, hy⟩ : ∃ y, q.length = y + 1 := ⟨q.length - 1, by omega⟩
  have e1 : nI q.length - 1 = nI y := by rw [hy]; exact nI_pred y
  obtain ⟨g1, -⟩ := wk y (by omega)
  have hm := c_mean (σ := τ) (al_141j (j := y) (by omega)) g1 ((pv_sum (fun p e => cnS_le p e) y).trans hs)
  have hv : vLs W z (cnS z sk) (lsS f hold z wr md h0) s0 q 0 = mnD (pv W z (cnS z sk) (lsS f hold z wr md h0) none q s0 y).1 := by
    show vMn W z (cnS z sk) (lsS f hold z wr md h0) s0 none q = _
    unfold vMn
    rw [hy]
    rfl
  rw [wp_bnd, wp_rdR (v := 140) rfl (sk_136_13 hk1), wp_bnd, wp_rdR (v := 138) rfl (sk_136_11 hk1), wp_bnd, wp_ldI (n := row) (len := 200) al_138 rfl (by omega) (by omega), (hr1.2.2 row q hq).1, e1, wp_bnd, wp_ldR (n := y) (len := 8) al_140 rfl (by omega) (by omega) (sk_140 hk1 (by omega)), wp_bnd, wp_of_eq hm, wp_let, ← hv]
  refine wp_for2 q.length 1 (fun i a υ => 1 ≤ i ∧ CF 150 τ υ ∧ a = nI (vLs W z (cnS z sk) (lsS f hold z wr md h0) s0 q (i - 1))) ?_ ?_ ⟨Nat.le_refl 1, CF.rfl', rfl⟩ p1 (by unfold sa_F; omega)
  · rintro i a υ hi ⟨i1, hc, rfl⟩ j hj
    obtain ⟨x, rfl⟩ : ∃ x, i = x + 1 := ⟨i - 1, by omega⟩
    have hT2 := hT1.cf hc (by omega)
    have hr3 := hr1.cf hc
    have b1 := vLs_bd (W := W) (z := z) (sk := sk) (f := f) (hold := hold) (wr := wr) (md := md) (h0 := h0) (q := q) hs x
    have b2 := vMn_bd (W := W) (z := z) (sk := sk) (f := f) (hold := hold) (wr := wr) (md := md) (h0 := h0) (q := q) (am := some (q.getD (x + 1) 0)) hs
    rw [wp_bnd, wp_rdR (v := 138) rfl (sk_136_11 hT2.1.1), wp_bnd, wp_ldI (n := row) (len := 200) al_138 rfl (by omega) (by omega), (hr3.2.2 row q hq).1, wp_if]
    refine ⟨fun q => absurd q (nI_ge hi (by omega)), fun _ => ?_⟩
    rw [wp_bnd]
    refine c_ambAt hT2 hr3 hpt hq hs he (wk.cf hc p8) hi (fun υ2 hc2 => ?_)
    rw [wp_let, wp_let, nI_1]
    refine hj _ _ ⟨by omega, hc.trans hc2, ?_⟩
    rw [show x + 1 - 1 = x by omega, sa_minN (by omega) (by omega)]
    rfl
  · rintro a υ ⟨-, hc, rfl⟩ j
    rw [wp_bnd, wp_rdR (v := 138) rfl (sk_136_11 (hT1.cf hc (by omega)).1.1), wp_bnd, wp_ldI (n := row) (len := 200) al_138 rfl (by omega) (by omega), ((hr1.cf hc).2.2 row q hq).1, wp_if]
    refine ⟨fun _ => ?_, fun q => absurd (nI_le (Nat.le_refl _) (by omega)) q⟩
    rw [wp_ret]
    exact hQ υ (fw.trans (hc.fw (by omega))) (by rw [hc.2.1 136 (nm_33 136 (by omega))]; exact h15) (wk.cf hc p8)
end CASK
