/-! STREAKS: in which hours it rained -/
section RND
variable {L P W F n : Nat} {f : Nat → LWt} {z : Nat → Int32} {hold : Int32} {sk : Nat → Nat → Int32} {k wl : Nat → Int32} {σ : sa_St} {wr md h0 c a0 to g nz : Nat} {q : List Nat} {pl fo : Nat → Nat}
theorem m_rainedL {a3 r : Int32} {Q : Int32 → sa_St → Prop} (hV : MV L P W F n f z hold sk k wl σ) (hgo : Go k c wr md h0) (hg : k (23 + 7 * c + 2) = nI g) (hg9 : g ≤ 99) (hpa : Pa P W z a0 to q) (hH : vHr W z q ≤ 12) (h55 : σ.1 159 55 = nI q.length) (h56 : σ.1 159 56 = nI (vHr W z q)) (h184 : ∀ j, j < q.length → σ.1 184 j = nI (q.getD j 0)) (hs : SY P nz pl fo σ) (ha : (a3 = -1 ∧ r = nI (fitL (fun S => okB W z (lsS f hold z wr md h0) q g nz pl fo S (q.length - 1)) (2 ^ vHr W z q)).length) ∨ ∃ i : Nat, i < 2 ^ 31 ∧ a3 = nI i ∧ r = oI (fitL (fun S => okB W z (lsS f hold z wr md h0) q g nz pl fo S (q.length - 1)) (2 ^ vHr W z q))[i]?) (hQ : ∀ τ, YF n f σ τ → Q r τ) :
    wp (sa_wh2 (fun j37 (x5 : Int32) (x6 : Int32) =>
sa_bnd (sa_rdI 12 159 56) fun v7 =>
if (1 <<< (v7 &&& 31)) ≤ x6 then
sa_jn1 (fun (y8 : Int32) =>
sa_ret (y8 : Int32)) fun j90 =>
if ¬ a3 = (-1) then
j90 (-1)
else
j90 x5
else
sa_bnd (f_X12_isSo 159 (nI c) x6) fun v9 =>
sa_jn1 (fun (x10 : Int32) =>
sa_let ((x6 + 1) : Int32) fun x11 =>
j37 x10 x11) fun j73 =>
if ¬ v9 = 0 then
if ¬ x5 = a3 then
sa_let ((x5 + 1) : Int32) fun x12 =>
j73 x12
else
sa_ret (x6 : Int32)
else
j73 x5) sa_F 0 0) σ Q := by
  have hp12 := pow_12 hH
  have hsh : ((1 : Int32) <<< (nI (vHr W z q) &&& 31)) = nI (2 ^ vHr W z q) := shl12 _ hH
  have hm : ∀ i : Nat, i < 2 ^ 31 → ¬ nI i = (-1 : Int32) := fun i hi e => by
    have e' : nI i = mI := e
    rw [eq_mI hi] at e'
    exact e'
  have hso : ∀ (S : Nat) (τ : sa_St), S < 2 ^ 31 → YF n f σ τ → ∀ Q : Int32 → sa_St → Prop, (∀ υ, YF n f σ υ → Q (nI (if (fun S => okB W z (lsS f hold z wr md h0) q g nz pl fo S (q.length - 1)) S then 1 else 0)) υ) → wp (f_X12_isSo 159 (nI c) (nI S)) τ Q := fun S τ hS yf Q h => m_isSo (hV.yf yf) hgo hg hg9 hpa hH (by rw [yf.2.2.1 55 (pf_no (by omega))]; exact h55) (fun j hj => by rw [yf.2.1 184 (nm_M 184 (by omega)) (by omega)]; exact h184 j hj) (hs.yf yf) hS (fun υ yf2 => h υ (yf.trans yf2))
  have hV0 := hV.1.memo
  have x56 : ∀ τ, YF n f σ τ → τ.1 159 56 = nI (vHr W z q) := fun τ yf => by rw [yf.2.2.1 56 (pf_no (by omega))]; exact h56
  generalize (fun S => okB W z (lsS f hold z wr md h0) q g nz pl fo S (q.length - 1)) = ok at ha hso
  generalize vHr W z q = H at *
  generalize hN : 2 ^ H = N at *
  have hlen := fitL_len ok
  refine wp_for2 N 0 (fun x a τ => YF n f σ τ ∧ a = nI (fitL ok x).length ∧ (a3 = -1 ∨ ∃ i : Nat, i < 2 ^ 31 ∧ a3 = nI i ∧ (fitL ok x).length ≤ i)) ?_ ?_ ⟨YF.refl hV0, rfl, ?_⟩ (Nat.zero_le _) (by unfold sa_F; omega)
  · rintro x a τ hx ⟨yf, rfl, h3⟩ j hj
    have hlx := hlen x
    have hst := fitL_succ ok x
    rw [wp_bnd, wp_rdI, x56 τ yf]
    refine ⟨rfl, ?_⟩
    rw [hsh, wp_if]
    refine ⟨fun q => absurd q (nI_ge hx (by omega)), fun _ => ?_⟩
    rw [wp_bnd]
    refine hso x τ (by omega) yf _ (fun υ yf2 => ?_)
    rw [wp_jn1, wp_if]
    cases ho : ok x with
    | false =>
      rw [ho] at hst
      have hst' : fitL ok (x + 1) = fitL ok x := hst
      refine ⟨fun q => absurd rfl q, fun _ => ?_⟩
      rw [wp_let, nI_1]
      exact hj _ _ ⟨yf2, by rw [hst'], by rw [hst']; exact h3⟩
    | true =>
      rw [ho, if_pos rfl] at hst
      have hl1 : (fitL ok (x + 1)).length = (fitL ok x).length + 1 := by rw [hst, List.length_append]; rfl
      refine ⟨fun _ => ?_, fun q => absurd (show ¬ nI 1 = 0 by decide) q⟩
      rw [wp_if]
      rcases h3 with h3 | ⟨i, hi, rfl, hle⟩
      · refine ⟨fun _ => ?_, fun q => absurd (h3 ▸ Decidable.not_not.mp q) (hm _ (by omega))⟩
        rw [wp_let, wp_let, nI_1, nI_1]
        exact hj _ _ ⟨yf2, by rw [hl1], Or.inl h3⟩
      · rw [nI_eq (by omega) (by omega)]
        refine ⟨fun q => ?_, fun q => ?_⟩
        · rw [wp_let, wp_let, nI_1, nI_1]
          exact hj _ _ ⟨yf2, by rw [hl1], Or.inr ⟨i, hi, rfl, by omega⟩⟩
        · rw [wp_ret]
          have hr : r = nI x := by
            rcases ha with ⟨h, -⟩ | ⟨i2, hi2, h, hr⟩
            · exact absurd h (hm i hi)
            · rw [nI_eq hi hi2] at h
              subst h
              rw [fitL_hit (Decidable.not_not.mp q) hx ho] at hr
              exact hr
          rw [← hr]
          exact hQ υ yf2
  · rintro a τ ⟨yf, rfl, h3⟩ j
    rw [wp_bnd, wp_rdI, x56 τ yf]
    refine ⟨rfl, ?_⟩
    rw [hsh, wp_if]
    refine ⟨fun _ => ?_, fun q => absurd (nI_le (Nat.le_refl _) (by omega)) q⟩
    rw [wp_jn1, wp_if]
    refine ⟨fun q => ?_, fun q => ?_⟩
    · rw [wp_ret]
      have hr : r = -1 := by
        rcases ha with ⟨h, -⟩ | ⟨i2, hi2, h, hr⟩
        · exact absurd h q
        · rcases h3 with h4 | ⟨i, hi, h5, hle⟩
          · exact absurd h4 q
          · rw [h, nI_eq hi2 hi] at h5
            subst h5
            rw [List.getElem?_eq_none hle] at hr
            exact hr
      rw [← hr]
      exact hQ τ yf
    · rw [wp_ret]
      have hr : r = nI (fitL ok N).length := by
        rcases ha with ⟨-, h⟩ | ⟨i2, hi2, h, -⟩
        · exact h
        · exact absurd (h ▸ Decidable.not_not.mp q) (hm i2 hi2)
      rw [← hr]
      exact hQ τ yf
  · rcases ha with ⟨h, -⟩ | ⟨i, hi, h, -⟩
    · exact Or.inl h
    · exact Or.inr ⟨i, hi, h, Nat.zero_le _⟩
end RND
theorem lc29 (k : Nat) (hk512 : k ≤ 512) : lc_29 (Inv k) (Inv (k + 1)) := by
  intro σ s1 s2 s3 hI
  refine lco ?_
  obtain ⟨L, P, W, F, n, f, hIv0⟩ := Iv.of hI
  have hk := hIv0.1
  have P8 := hIv0.cx.zr.1.1
  have hz := hIv0.cx.zr
  have hIv := hIv0
  obtain ⟨-, -, -, -, -, -, -, -, -, -, -, nz, nz8, z151, z159, zz⟩ := hIv
  have hcl : ∀ x, x < nz → (σ.1 152 x).toNatClampNeg < P ∧ (σ.1 153 x).toNatClampNeg ≤ 99 ∧ σ.1 152 x = nI (σ.1 152 x).toNatClampNeg ∧ σ.1 186 x = nI (σ.1 152 x).toNatClampNeg ∧ σ.1 153 x = nI (σ.1 153 x).toNatClampNeg ∧ σ.1 187 x = nI (σ.1 153 x).toNatClampNeg := fun x hx => by
    obtain ⟨⟨p, hp, e1, e2⟩, y, hy, e3, e4⟩ := zz x hx
    rw [e1, e2, e3, e4, nI_clamp (by omega), nI_clamp (by omega)]
    exact ⟨hp, hy, rfl, rfl, rfl, rfl⟩
  generalize hpl : (fun x => (σ.1 152 x).toNatClampNeg) = pl
  generalize hfo : (fun x => (σ.1 153 x).toNatClampNeg) = fo
  have hcl2 : ∀ x, x < nz → pl x < P ∧ fo x ≤ 99 ∧ σ.1 152 x = nI (pl x) ∧ σ.1 186 x = nI (pl x) ∧ σ.1 153 x = nI (fo x) ∧ σ.1 187 x = nI (fo x) := fun x hx => by
    rw [← hpl, ← hfo]
    exact hcl x hx
  clear hcl hpl hfo zz
  have sz : ∀ τ, Dn [0] σ τ → SZ P nz pl fo τ := fun τ K => ⟨nz8, by rw [K.2 151 2 rfl]; exact z151, fun x hx => by
    obtain ⟨x1, x2, x3, x4, x5, x6⟩ := hcl2 x hx
    rw [K.row 152 (fun _ => rfl), K.row 153 (fun _ => rfl)]
    exact ⟨x1, x2, x3, x5⟩⟩
  have sy : ∀ τ, Dn [0, 9] σ τ → SY P nz pl fo τ := fun τ K => ⟨nz8, by rw [K.2 159 69 rfl]; exact z159, fun x hx => by
    obtain ⟨x1, x2, x3, x4, x5, x6⟩ := hcl2 x hx
    rw [K.row 186 (fun _ => rfl), K.row 187 (fun _ => rfl)]
    exact ⟨x1, x2, x4, x6⟩⟩
  unfold f_X11_rained
  rw [wp_gd]
  refine ⟨rfl, ?_⟩
  rw [wp_jn0, wp_if]
  refine ⟨fun hneg => ?_, fun hneg => ?_⟩
  · rw [wp_ret]
    unfold f_X12_rained
    rw [wp_gd]
    refine ⟨rfl, ?_⟩
    rw [wp_bnd, wp_wrI]
    refine ⟨rfl, ?_⟩
    rw [wp_jn0, wp_if]
    refine ⟨fun _ => ?_, fun q => absurd hneg q⟩
    rw [wp_ret]
    exact ⟨rfl, hIv0.ask0 (Dn.up (Dn.refl σ) rfl) rfl⟩
  have h3 : s3 = -1 ∨ ∃ i : Nat, i < 2 ^ 31 ∧ s3 = nI i := by
    rcases i32_c s3 with h | h | h
    · exact absurd h hneg
    · exact Or.inl h
    · exact Or.inr h
  obtain ⟨wl, hw, r0, hJ⟩ := j_cases hIv0 hk512 s1 s2
  rw [wp_bnd]
  rcases hJ with hN | ⟨ns, c, a0, to, g, wr, md, h0, rfl, rfl, hY⟩
  · refine c_fjN hk hIv0.2.1 hN ?_
    rw [wp_if]
    refine ⟨fun q => absurd rfl q, fun _ => ?_⟩
    rw [wp_ret]
    unfold f_X12_rained
    rw [wp_gd]
    refine ⟨rfl, ?_⟩
    rw [wp_bnd, wp_wrI]
    refine ⟨rfl, ?_⟩
    rw [wp_jn0, wp_if]
    refine ⟨fun q => absurd q hneg, fun _ => ?_⟩
    rw [wp_bnd, wp_of_eq (hN.2.1 (sa_upI (sa_upI σ 136 3 0) 159 0 0) 2 hk (by rw [upI_ne (by omega), upI_ne (by omega)]; exact hw) (by rw [upI_self, va_up_ne _ _ (by omega), upI_ne (by omega)]; exact r0)), wp_if]
    refine ⟨fun _ => ?_, fun q => absurd rfl q⟩
    rw [wp_ret]
    exact ⟨rfl, hIv0.ask0 (Dn.up (Dn.up (Dn.refl σ) rfl) rfl) rfl⟩
  · refine c_fjY hY (fun τ K hm hT hTR hWK h139 h5 => ?_)
    obtain ⟨hV, hsk, hch, hgo, ⟨kg, g0, g99⟩, hat, ka, ha0, hto, hne⟩ := hY
    have hpt := jrs_pa (P := P) (W := W) (to := to) P8 (z := σ.1 (L + 2)) ha0
    have hs0 := st0_sum (g := g) (by omega)
    rcases bstL_iff (bt := btS W (σ.1 (L + 2)) (cnS (σ.1 (L + 2)) (skF σ ns)) (lsS f (σ.1 15 3) (σ.1 (L + 2)) wr md h0) (st0 g, 0) 2) (jrs P W (σ.1 (L + 2)) a0 to) with ⟨hpos, qb, hqb⟩ | ⟨h0l, hnone⟩
    · rw [if_pos hpos, wp_if]
      refine ⟨fun _ => ?_, fun q => absurd (show ¬ nI 1 = 0 by decide) q⟩
      have k10 : τ.2.1 0 10 = 137 := by rw [K.1 0 10 (by omega) (by omega)]; exact sk_0_10 hk
      have k11 : τ.2.1 0 11 = 152 := by rw [K.1 0 11 (by omega) (by omega)]; exact sk_0_11 hk
      rw [wp_bnd, wp_rdR (v := 136) rfl k10, wp_bnd]
      refine c_best (s := 2) (s0 := (st0 g, 0)) hT hTR hpt hs0 (by show 0 ≤ 12; omega) hWK (by omega) hpos (fun b qb' τ1 hb hbe fw1 hWK1 => ?_)
      rw [hqb] at hbe
      cases hbe
      have hpq := hpt b qb hb
      have hH9 : vHr W (σ.1 (L + 2)) qb ≤ 100 := by
        have := phr_le (W := W) (q := qb) hz (qb.length - 1)
        have := hpq.2.1
        unfold vHr
        omega
      have K1 := K.trans fw1.dn
      have m1 : τ1.2.2 175 = σ.2.2 175 := (fw1.2.2.2 175 (by omega) (by omega)).trans hm
      have k10' := FW.k10 K fw1 hk
      have k11' : τ1.2.1 0 11 = 152 := by rw [fw1.1]; exact k11
      have ref : ∀ (v : Int32) (τ2 : sa_St), Dn [0] σ τ2 → τ2.2.2 175 = σ.2.2 175 → (¬ vHr W (σ.1 (L + 2)) qb ≤ 12 → v = -1) → (vHr W (σ.1 (L + 2)) qb ≤ 12 → (s3 = -1 ∧ v = nI (fitL (fun S => okB W (σ.1 (L + 2)) (lsS f (σ.1 15 3) (σ.1 (L + 2)) wr md h0) qb g nz pl fo S (qb.length - 1)) (2 ^ vHr W (σ.1 (L + 2)) qb)).length) ∨ ∃ i : Nat, i < 2 ^ 31 ∧ s3 = nI i ∧ v = oI (fitL (fun S => okB W (σ.1 (L + 2)) (lsS f (σ.1 15 3) (σ.1 (L + 2)) wr md h0) qb g nz pl fo S (qb.length - 1)) (2 ^ vHr W (σ.1 (L + 2)) qb))[i]?) → wp (f_X12_rained 159 (nI c) (nI to) s3) τ2 (fun r2 τ3 => r2 = v ∧ Inv (k + 1) τ3) := by
        intro v τ2 K2 m2 hv1 hv2
        unfold f_X12_rained
        rw [wp_gd]
        refine ⟨rfl, ?_⟩
        rw [wp_bnd, wp_wrI]
        refine ⟨rfl, ?_⟩
        rw [wp_jn0, wp_if]
        refine ⟨fun q => absurd q hneg, fun _ => ?_⟩
        rw [wp_bnd]
        refine m_layB (s := 2) (hV.dn (K2.up rfl) m2) hsk hgo kg (by omega) hat (by omega) hto ka ha0 hne (fun υ2 nf rb => ?_)
        have hbe : bstL (btS W (σ.1 (L + 2)) (cnS (σ.1 (L + 2)) (skF σ ns)) (lsS f (σ.1 15 3) (σ.1 (L + 2)) wr md h0) (st0 g, 0) 2) ((pth P W (σ.1 (L + 2)) to 60 [a0] a0 (2 ^ a0)).take 200) = some qb := hqb
        rw [hbe] at rb ⊢
        obtain ⟨-, hpo, x55, x184, x56, -, -⟩ := rb
        have Kn : Dn [0, 9] σ υ2 := ((K2.up (id := 159) (k := 0) (v := 0) rfl).mono (fun x g => by simp at g ⊢; exact g.1)).trans nf.dn
        rw [wp_if]
        refine ⟨fun q => absurd q (show ¬ nI 1 = 0 by decide), fun _ => ?_⟩
        rw [wp_bnd, wp_rdI, x56]
        refine ⟨rfl, ?_⟩
        rw [wp_if]
        refine ⟨fun q => ?_, fun q => ?_⟩
        · have q' : vHr W (σ.1 (L + 2)) qb ≤ 12 := (nI_leI (b := 12) (by omega) (by omega)).mp q
          rw [wp_let, wp_let]
          refine m_rainedL ((hV.dn (K2.up rfl) m2).nf nf) hgo kg g99 hpo q' x55 x56 x184 (sy υ2 Kn) (hv2 q') (fun υ3 yf => ?_)
          exact ⟨rfl, (hIv0.ask (Kn.trans yf.dn) yf.2.2.2).up⟩
        · have q' : ¬ vHr W (σ.1 (L + 2)) qb ≤ 12 := fun h => q ((nI_leI (b := 12) (by omega) (by omega)).mpr h)
          rw [wp_ret]
          exact ⟨(hv1 q').symm, j_fin hIv0 (K2.up rfl) nf⟩
      rw [wp_bnd, wp_rdR (v := 136) rfl k10', wp_bnd, wp_of_eq (c_hoursOf (hT.fw fw1) (hTR.fw fw1) hpt hb), wp_if]
      refine ⟨fun q => ?_, fun q => ?_⟩
      · have q' : vHr W (σ.1 (L + 2)) qb ≤ 12 := (nI_leI (b := 12) (by omega) (by omega)).mp q
        rw [wp_bnd, wp_rdR (v := 151) rfl k11', wp_bnd, wp_rdR (v := 136) rfl k10', wp_bnd]
        refine c_weigh (hT.fw fw1) (hTR.fw fw1) hb hpq q' (sz τ1 K1) (by rw [fw1.2.2.1 5 (by omega) (by omega)]; exact h5) g99 (fun τ2 zg g5 hfit => ?_)
        have K2 := K1.trans zg.dn
        have m2 : τ2.2.2 175 = σ.2.2 175 := (zg.2.2.2 175 (by omega)).trans m1
        have hk2 : SK τ2.2.1 := ((hT.fw fw1).zg zg).1.1
        have k11'' : τ2.2.1 0 11 = 152 := by rw [zg.1]; exact k11'
        have hp12 := pow_12 q'
        rw [wp_jn1, wp_if]
        refine ⟨fun hs => ?_, fun hs => ?_⟩
        · rcases h3 with h | ⟨i, hi, h⟩
          · exact absurd h hs
          · rw [wp_bnd, wp_rdR (v := 151) rfl k11'', h, wp_bnd, wp_of_eq (c_whichS (ok := fun S => okB W (σ.1 (L + 2)) (lsS f (σ.1 15 3) (σ.1 (L + 2)) wr md h0) qb g nz pl fo S (qb.length - 1)) hi hk2 hp12 g5 hfit), wp_ret, ← h]
            exact ref _ τ2 K2 m2 (fun h => absurd q' h) (fun _ => Or.inr ⟨i, hi, h, rfl⟩)
        · rw [wp_bnd, wp_rdR (v := 151) rfl k11'', wp_bnd, wp_of_eq (c_manyS (ok := fun S => okB W (σ.1 (L + 2)) (lsS f (σ.1 15 3) (σ.1 (L + 2)) wr md h0) qb g nz pl fo S (qb.length - 1)) hk2 hp12 g5 hfit), wp_ret]
          exact ref _ τ2 K2 m2 (fun h => absurd q' h) (fun _ => Or.inl ⟨Decidable.not_not.mp hs, rfl⟩)
      · have q' : ¬ vHr W (σ.1 (L + 2)) qb ≤ 12 := fun h => q ((nI_leI (b := 12) (by omega) (by omega)).mpr h)
        rw [wp_ret]
        exact ref _ τ1 K1 m1 (fun _ => rfl) (fun h => absurd h q')
    · rw [if_neg (show ¬ 0 < (jrs P W (σ.1 (L + 2)) a0 to).length by omega), wp_if]
      refine ⟨fun q => absurd (show nI 0 = 0 from rfl) q, fun _ => ?_⟩
      rw [wp_ret]
      unfold f_X12_rained
      rw [wp_gd]
      refine ⟨rfl, ?_⟩
      rw [wp_bnd, wp_wrI]
      refine ⟨rfl, ?_⟩
      rw [wp_jn0, wp_if]
      refine ⟨fun q => absurd q hneg, fun _ => ?_⟩
      rw [wp_bnd]
      refine m_layB (s := 2) (hV.dn (K.up rfl) hm) hsk hgo kg (by omega) hat (by omega) hto ka ha0 hne (fun υ2 nf rb => ?_)
      have hbe : bstL (btS W (σ.1 (L + 2)) (cnS (σ.1 (L + 2)) (skF σ ns)) (lsS f (σ.1 15 3) (σ.1 (L + 2)) wr md h0) (st0 g, 0) 2) ((pth P W (σ.1 (L + 2)) to 60 [a0] a0 (2 ^ a0)).take 200) = none := hnone
      rw [hbe, wp_if]
      refine ⟨fun _ => ?_, fun q => absurd (show nI 0 = 0 from rfl) q⟩
      rw [wp_ret]
      exact ⟨rfl, j_fin hIv0 (K.up rfl) nf⟩
