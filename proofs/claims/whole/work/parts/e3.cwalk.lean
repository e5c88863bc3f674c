/-! JOURNEYS, by the class: pouring off, the mean, a way -/
section CPOUR
variable {σ : sa_St} {R n : Nat} {d : Nat → Nat}
theorem c_pour {Q : Unit → sa_St → Prop} (hal : sa_al .long R = 100) (hd : ∀ x, x < 100 → σ.2.2 R x = lN (d x)) (hn : n ≤ 99) (hQ : ∀ τ, CF R σ τ → (∀ x, x < 100 → τ.2.2 R x = lN (prD n d 99 x)) → Q () τ) : wp (f_X9_pour R (nI n)) σ Q := by
  unfold f_X9_pour
  rw [wp_let]
  by_cases h0 : n = 0
  · subst h0
    have hq := hQ σ CF.rfl' (by rw [prD_0]; exact hd)
    refine wp_for1 100 1 (fun g τ => τ = σ) ?_ ?_ rfl (by omega) (by unfold sa_F; omega)
    · rintro g τ hg rfl j hj
      rw [wp_jn0, wp_if]
      refine ⟨fun q => absurd q (nI_ge (b := 100) hg (by omega)), fun _ => ?_⟩
      rw [wp_if]
      refine ⟨fun _ => ?_, fun q => absurd (show nI 0 ≤ 0 by decide) q⟩
      rw [wp_ret]
      exact hq
    · rintro τ rfl j
      rw [wp_jn0, wp_if]
      refine ⟨fun _ => ?_, fun q => absurd (show (100 : Int32) ≤ nI 100 by decide) q⟩
      rw [wp_ret]
      exact hq
  · refine wp_for1 100 1 (fun g τ => 1 ≤ g ∧ CF R σ τ ∧ ∀ x, x < 100 → τ.2.2 R x = lN (prD n d (g - 1) x)) ?_ ?_ ⟨Nat.le_refl 1, CF.rfl', hd⟩ (by omega) (by unfold sa_F; omega)
    · rintro g τ hg ⟨g1, hcf, hrow⟩ j hj
      have hnx : prD n d (g + 1 - 1) = pr1 n (prD n d (g - 1)) g := by
        obtain ⟨y, rfl⟩ : ∃ y, g = y + 1 := ⟨g - 1, by omega⟩
        rfl
      rw [hnx] at hj
      generalize prD n d (g - 1) = D at hj hrow
      rw [wp_jn0, wp_if]
      refine ⟨fun q => absurd q (nI_ge (b := 100) hg (by omega)), fun _ => ?_⟩
      rw [wp_if]
      refine ⟨fun q => absurd q (nI_nle (by omega) (by omega)), fun _ => ?_⟩
      have hmx : sa_max 0 (nI g - nI n) = nI (g - n) := mx_sub (by omega) (by omega)
      have hr3 := rowU (i := g) (v := 0) (y := 0) hrow rfl
      rw [wp_bnd, wp_ldL (n := g) hal rfl hg (by omega), hrow g hg, wp_bnd, wp_stL (n := g) hal rfl hg (by omega), hmx, wp_bnd, wp_ldL (n := g - n) hal rfl (by omega) (by omega), wp_bnd, wp_stL (n := g - n) hal rfl (by omega) (by omega), wp_let, nI_1]
      refine hj _ ⟨by omega, CF.upL (CF.upL hcf), ?_⟩
      rw [upL_self, upL_self]
      unfold pr1
      refine rowU hr3 ?_
      rw [hr3 _ (by omega), lN_add]
    · rintro τ ⟨-, hcf, hrow⟩ j
      rw [wp_jn0, wp_if]
      refine ⟨fun _ => ?_, fun q => absurd (show (100 : Int32) ≤ nI 100 by decide) q⟩
      rw [wp_ret]
      exact hQ τ hcf hrow
theorem c_mean (hal : sa_al .long R = 100) (hd : ∀ x, x < 100 → σ.2.2 R x = lN (d x)) (hs : zc_sm 100 d = AL) : f_X9_mean R σ = some (nI (mnD d), σ) := by
  refine run_of ?_
  unfold f_X9_mean
  rw [wp_let, wp_let]
  refine wp_for2 100 1 (fun g a τ => 1 ≤ g ∧ τ = σ ∧ a = lN (mnS d (g - 1))) ?_ ?_ ⟨Nat.le_refl 1, rfl, rfl⟩ (by omega) (by unfold sa_F; omega)
  · rintro g a τ hg ⟨g1, rfl, rfl⟩ j hj
    have hnx : mnS d (g + 1 - 1) = mnS d (g - 1) + d g * g := by
      obtain ⟨y, rfl⟩ : ∃ y, g = y + 1 := ⟨g - 1, by omega⟩
      rfl
    rw [wp_if]
    refine ⟨fun q => absurd q (nI_ge (b := 100) hg (by omega)), fun _ => ?_⟩
    rw [wp_bnd, wp_ldL (n := g) hal rfl hg (by omega), hd g hg, wp_let, wp_let, nI_1]
    refine hj _ τ ⟨by omega, rfl, ?_⟩
    rw [nI_l (by omega), lN_mul, lN_add, hnx]
  · rintro a τ ⟨-, rfl, rfl⟩ j
    have hb := mnS_bd hs 99 (Nat.le_refl _)
    unfold AL at hb
    have hdiv : lN (mnS d (100 - 1)) / 1000000 = lN (mnD d) := pk_lDiv (a := mnS d 99) (b := 1000000) (by omega) (by omega) (by omega)
    rw [wp_if]
    refine ⟨fun _ => ?_, fun q => absurd (show (100 : Int32) ≤ nI 100 by decide) q⟩
    rw [wp_bnd, wp_dvL (by decide), hdiv, wp_ret, lN_i]
    exact ⟨rfl, rfl⟩
end CPOUR
/-- the rows of journeys, as the class holds them -/
def TR (rs : List (List Nat)) (σ : sa_St) : Prop := σ.1 136 3 = nI rs.length ∧ rs.length ≤ 200 ∧ ∀ (i : Nat) (q : List Nat), rs[i]? = some q → σ.1 138 i = nI q.length ∧ ∀ j, j < q.length → σ.1 137 (8 * i + j) = nI (q.getD j 0)
theorem TR.of {rs : List (List Nat)} {σ τ : sa_St} (h : TR rs σ) (h1 : τ.1 136 3 = σ.1 136 3) (h2 : τ.1 137 = σ.1 137) (h3 : τ.1 138 = σ.1 138) : TR rs τ := by
  obtain ⟨a, b, c⟩ := h
  refine ⟨h1.trans a, b, fun i q hq => ?_⟩
  rw [h2, h3]
  exact c i q hq
theorem TR.cf {rs : List (List Nat)} {σ τ : sa_St} {R : Nat} (h : TR rs σ) (hf : CF R σ τ) : TR rs τ := h.of (by rw [hf.2.1 136 (nm_33 136 (by omega))]) (hf.2.1 137 (nm_33 137 (by omega))) (hf.2.1 138 (nm_33 138 (by omega)))
section CWALK
variable {L P W F n : Nat} {f : Nat → LWt} {z : Nat → Int32} {hold : Int32} {sk : Nat → Nat → Int32} {wr md h0 : Nat} {σ : sa_St} {R e : Nat} {d : Nat → Nat} {rs : List (List Nat)} {row a0 to : Nat} {q : List Nat}
theorem e_pOf (hk : SK σ.2.1) (hr : TR rs σ) (hq : rs[row]? = some q) {i : Nat} (hi : i < q.length) (h8 : q.length ≤ 8) : f_X9_placeOf 136 (nI row) (nI i) σ = some (nI (q.getD i 0), σ) := by
  have hl := lt_of_some hq
  have hr2 := hr.2.1
  refine run_of ?_
  unfold f_X9_placeOf
  rw [wp_gd]
  refine ⟨rfl, ?_⟩
  rw [wp_bnd, wp_rdR (v := 137) rfl (sk_136_10 hk), wp_bnd, wp_ldI (n := 8 * row + i) (len := 1600) al_137 (i8R row i) (by omega) (by omega), wp_ret, (hr.2.2 row q hq).2 i hi]
  exact ⟨rfl, rfl⟩
theorem e_size (hk : SK σ.2.1) (hr : TR rs σ) (hq : rs[row]? = some q) : wp (sa_bnd (sa_rdR 9 136 11) fun v5 => sa_ldI .int v5 (nI row)) σ (fun r τ => r = nI q.length ∧ τ = σ) := by
  have hl := lt_of_some hq
  have hr2 := hr.2.1
  rw [wp_bnd, wp_rdR (v := 138) rfl (sk_136_11 hk), wp_ldI (n := row) (len := 200) al_138 rfl (by omega) (by omega)]
  exact ⟨(hr.2.2 row q hq).1, rfl⟩
theorem e_wayTo (hT : TV L P W F n f z hold sk wr md h0 σ) (hr : TR rs σ) (hq : rs[row]? = some q) (hpa : Pa P W z a0 to q) {i : Nat} (hi : i + 1 < q.length) : f_X9_wayTo 136 (nI row) (nI (i + 1)) σ = some (oI (lwy W z (q.getD i 0) (q.getD (i + 1) 0)), σ) := by
  have hk := hT.1.1
  obtain ⟨p1, p8, -, -, pP, -, -⟩ := hpa
  refine run_of ?_
  unfold f_X9_wayTo
  rw [wp_gd]
  refine ⟨rfl, ?_⟩
  have e1 : nI (i + 1) - 1 = nI i := nI_pred i
  rw [wp_bnd, wp_rdR (v := L) rfl hT.2.1, wp_bnd, e1, wp_of_eq (e_pOf hk hr hq (by omega) p8), wp_bnd, wp_of_eq (e_pOf hk hr hq hi p8), wp_bnd, wp_of_eq (e_lwy hT.1 hT.2.2.2.2.1.1 (pP i (by omega)) (pP (i + 1) hi)), wp_ret]
  exact ⟨rfl, rfl⟩
theorem c_way {Q : Int32 → sa_St → Prop} (hT : TV L P W F n f z hold sk wr md h0 σ) (hr : TR rs σ) (hq : rs[row]? = some q) (hpa : Pa P W z a0 to q) {i : Nat} (hi : i + 1 < q.length) (hal : sa_al .long R = 100) (hR : 141 ≤ R ∧ R ≤ 150) (hd : ∀ x, x < 100 → σ.2.2 R x = lN (d x)) (hs : zc_sm 100 d = AL) (he : e ≤ 200) (hQ : ∀ τ, CF R σ τ → (∀ x, x < 100 → τ.2.2 R x = lN ((leg W z (cnS z sk) (lsS f hold z wr md h0) (q.getD i 0) (q.getD (i + 1) 0) (d, e)).1 x)) → Q (nI (e + hrs W z (q.getD i 0) (q.getD (i + 1) 0))) τ) : wp (f_X9_walkWay 136 R (nI row) (nI (i + 1)) (nI e)) σ Q := by
  have hk := hT.1.1
  have hz := hT.1.zr
  have hpa0 := hpa
  obtain ⟨p1, p8, -, -, pP, -, pw⟩ := hpa
  have hp := pP (i + 1) hi
  obtain ⟨k, hkk⟩ := Option.isSome_iff_exists.mp (pw i hi)
  have hkW := lwy_lt hkk
  have W12 := hz.1.2.1
  obtain ⟨⟨t1, t9, et⟩, f9, ef⟩ := wt_eq hz hkW
  have eh : hrs W z (q.getD i 0) (q.getD (i + 1) 0) = wtN z k := by unfold hrs; rw [hkk]
  have efd : frd W z (q.getD i 0) (q.getD (i + 1) 0) = wfN z k := by unfold frd; rw [hkk]
  have fw := e_wayTo hT hr hq hpa0 hi
  rw [hkk] at fw
  have fw' : f_X9_wayTo 136 (nI row) (nI (i + 1)) σ = some (nI k, σ) := fw
  have fc2 := e_cell hT.1 (a := 1) (b := k) (c := 2) (by omega)
  rw [show (1 * 12 + k) * 5 + 2 = 60 + 5 * k + 2 by omega, et] at fc2
  unfold leg at hQ
  rw [eh, efd] at hQ
  unfold f_X9_walkWay
  rw [wp_gd]
  refine ⟨rfl, ?_⟩
  rw [wp_bnd, wp_of_eq fw', wp_bnd, wp_rdR (v := L) rfl hT.2.1, wp_bnd, wp_of_eq (show f_X1_cell L 1 (nI k) 2 σ = _ from fc2), wp_let, nI_add]
  generalize hb : q.getD (i + 1) 0 = b at *
  refine wp_for1 (e + wtN z k) e (fun h τ => e ≤ h ∧ CF R σ τ ∧ ∀ x, x < 100 → τ.2.2 R x = lN (rnT (cnS z sk) (lsS f hold z wr md h0) b e d (h - e) x)) ?_ ?_ ⟨Nat.le_refl e, CF.rfl', by rw [Nat.sub_self]; exact hd⟩ (by omega) (by unfold sa_F; omega)
  · rintro h τ hh ⟨he1, hcf, hrow⟩ j hj
    have hT1 := hT.cf hcf (by omega)
    have hsum := rnT_sum (cn := cnS z sk) (ls := lsS f hold z wr md h0) (b := b) (e := e) (d := d) (fun e => cnS_le b e) (h - e)
    have fp := e_pOf (σ := τ) hT1.1.1 (hr.cf hcf) hq hi p8
    rw [hb] at fp
    rw [wp_if]
    refine ⟨fun q => absurd q (nI_ge hh (by omega)), fun _ => ?_⟩
    rw [wp_bnd, wp_of_eq fp, wp_bnd]
    refine c_rain1 hT1 hal hR hrow (by rw [hsum]; exact hs) hp (by omega) (fun τ2 hcf2 hrow2 => ?_)
    rw [wp_let, nI_1]
    refine hj _ ⟨by omega, hcf.trans hcf2, ?_⟩
    have : rnT (cnS z sk) (lsS f hold z wr md h0) b e d (h + 1 - e) = rnD (cnS z sk b h) (lsS f hold z wr md h0 b h) (rnT (cnS z sk) (lsS f hold z wr md h0) b e d (h - e)) 99 := by
      rw [show h + 1 - e = (h - e) + 1 by omega]
      show rnD (cnS z sk b (e + (h - e))) (lsS f hold z wr md h0 b (e + (h - e))) _ 99 = _
      rw [show e + (h - e) = h by omega]
      rfl
    rw [this]
    exact hrow2
  · rintro τ ⟨-, hcf, hrow⟩ j
    have hT1 := hT.cf hcf (by omega)
    rw [show e + wtN z k - e = wtN z k by omega] at hrow
    have fc3 := e_cell hT1.1 (a := 1) (b := k) (c := 3) (by omega)
    rw [show (1 * 12 + k) * 5 + 3 = 60 + 5 * k + 3 by omega, ef] at fc3
    rw [wp_if]
    refine ⟨fun _ => ?_, fun q => absurd (nI_le (Nat.le_refl _) (by omega)) q⟩
    rw [wp_bnd, wp_rdR (v := L) rfl hT1.2.1, wp_bnd, wp_of_eq (show f_X1_cell L 1 (nI k) 3 τ = _ from fc3), wp_bnd]
    refine c_pour hal hrow (by omega) (fun τ2 hcf2 hrow2 => ?_)
    rw [wp_ret]
    exact hQ τ2 (hcf.trans hcf2) hrow2
end CWALK
