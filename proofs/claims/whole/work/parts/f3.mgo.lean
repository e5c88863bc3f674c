/-! JOURNEYS, by the reference: all paths, one by one -/
section MGO
variable {L P W F n : Nat} {f : Nat → LWt} {z : Nat → Int32} {hold : Int32} {sk : Nat → Nat → Int32} {k wl : Nat → Int32} {wr md h0 c a0 to g s : Nat}
theorem m_arrives {σ : sa_St} {q : List Nat} {B : Nat × Option (List Nat)} {Q : Unit → sa_St → Prop} (hV : MV L P W F n f z hold sk k wl σ) (hsk : SkS sk) (hgo : Go k c wr md h0) (hg : k (23 + 7 * c + 2) = nI g) (hg9 : g < 100) (hpa : Pa P W z a0 to q) (hpr : PR W z q σ) (hs3 : s ≤ 3) (hB : B.1 < 2 ^ 30) (hrb : RB P W z (cnS z sk) (lsS f hold z wr md h0) (st0 g, 0) a0 to s B σ) (hQ : ∀ τ, AF n f σ τ → RB P W z (cnS z sk) (lsS f hold z wr md h0) (st0 g, 0) a0 to s (bsc (btS W z (cnS z sk) (lsS f hold z wr md h0) (st0 g, 0) s) B q) τ → Q () τ) : wp (f_X12_arrives 159 (nI c) (nI s)) σ Q := by
  have hs0 := st0_sum hg9
  have p1 := hpa.1
  have p8 := hpa.2.1
  have hz := hV.1.zr
  unfold f_X12_arrives
  rw [wp_gd]
  refine ⟨rfl, ?_⟩
  rw [wp_bnd, wp_rdI, hrb.1]
  refine ⟨rfl, ?_⟩
  rw [wp_bnd, wp_wrI, nI_1]
  refine ⟨rfl, ?_⟩
  have af0 : AF n f σ (sa_upI σ 159 59 (nI (B.1 + 1))) := (AF.refl hV.1.memo).up (by omega)
  have h59 : (sa_upI σ 159 59 (nI (B.1 + 1))).1 159 59 = nI (B.1 + 1) := by rw [upI_self, va_up_self]
  have hrb0 : RB P W z (cnS z sk) (lsS f hold z wr md h0) (st0 g, 0) a0 to s (B.1 + 1, B.2) (sa_upI σ 159 59 (nI (B.1 + 1))) := by
    obtain ⟨g1, g2⟩ := hrb
    refine ⟨h59, ?_⟩
    have hx : ∀ k, 55 ≤ k → k ≤ 58 → (sa_upI σ 159 59 (nI (B.1 + 1))).1 159 k = σ.1 159 k := fun k a b => by rw [upI_self, va_up_ne _ _ (by omega)]
    show match B.2 with | none => _ | some o => _
    cases hb : B.2 with
    | none =>
      rw [hb] at g2
      exact (hx 55 (by omega) (by omega)).trans g2
    | some o =>
      rw [hb] at g2
      obtain ⟨a, b, c, d, e, f⟩ := g2
      exact ⟨a, (hx 55 (by omega) (by omega)).trans b, fun j hj => by rw [upI_ne (by omega)]; exact c j hj, (hx 56 (by omega) (by omega)).trans d, (hx 57 (by omega) (by omega)).trans e, fun hs => (hx 58 (by omega) (by omega)).trans (f hs)⟩
  generalize sa_upI σ 159 59 (nI (B.1 + 1)) = σ1 at af0 h59 hrb0 ⊢
  have hV1 := hV.nf af0.1
  have hpr1 := hpr.af af0
  have hk1 := hV1.1.1
  have hbsc : bsc (btS W z (cnS z sk) (lsS f hold z wr md h0) (st0 g, 0) s) B q = (B.1 + 1, if B.1 + 1 ≤ 200 then bst (btS W z (cnS z sk) (lsS f hold z wr md h0) (st0 g, 0) s) B.2 q else B.2) := rfl
  rw [hbsc] at hQ
  rw [wp_bnd, wp_rdI, h59]
  refine ⟨rfl, ?_⟩
  rw [wp_if]
  refine ⟨fun h200 => ?_, fun h200 => ?_⟩
  · have h200' : B.1 + 1 ≤ 200 := (nI_leI (b := 200) (by omega) (by omega)).mp h200
    rw [if_pos h200'] at hQ
    rw [wp_if]
    refine ⟨fun hne => ?_, fun heq => ?_⟩
    · have hs2 : s ≠ 3 := fun h => hne (by rw [h]; rfl)
      rw [wp_bnd]
      refine m_begin hV1 hgo.1 hg hg9 (fun τ mf g60 g61 hrow => ?_)
      have hV2 := hV1.mf mf
      have hpr2 := hpr1.af mf.af
      have hk2 := hV2.1.1
      rw [wp_bnd, wp_rdR (v := 183) rfl (sk_159_51 hk2), wp_bnd, wp_rdI, hpr2.1]
      refine ⟨rfl, ?_⟩
      rw [wp_bnd]
      refine m_path (am := none) hV2 hsk hgo hpa (Or.inl rfl) hpr2.2.2 (fun x hx => by cases hx) g60 g61 hrow hs0 (by omega) (fun τ2 mf2 hrow2 => ?_)
      have mf12 := mf.trans mf2
      have hV3 := hV1.mf mf12
      have hpr3 := hpr1.af mf12.af
      have hrb3 := hrb0.mf mf12
      have hk3 := hV3.1.1
      have hsum := (pv_sum (W := W) (z := z) (cn := cnS z sk) (ls := lsS f hold z wr md h0) (am := none) (q := q) (s := (st0 g, 0)) (fun p e => cnS_le p e) (q.length - 1)).trans hs0
      have hmn : mnD (pv W z (cnS z sk) (lsS f hold z wr md h0) none q (st0 g, 0) (q.length - 1)).1 = vMn W z (cnS z sk) (lsS f hold z wr md h0) (st0 g, 0) none q := rfl
      have hsu : suD (pv W z (cnS z sk) (lsS f hold z wr md h0) none q (st0 g, 0) (q.length - 1)).1 = vSu W z (cnS z sk) (lsS f hold z wr md h0) (st0 g, 0) q := rfl
      have bm : ∀ o : List Nat, vMn W z (cnS z sk) (lsS f hold z wr md h0) (st0 g, 0) none o ≤ 99000 := fun o => vMn_bd hs0
      have bs : ∀ o : List Nat, vSu W z (cnS z sk) (lsS f hold z wr md h0) (st0 g, 0) o ≤ AL := fun o => vSu_bd
      unfold AL at bs
      have take : bst (btS W z (cnS z sk) (lsS f hold z wr md h0) (st0 g, 0) s) B.2 q = some q → wp (sa_jn0 (sa_ret ()) fun j119 => if (1 : Int32) = 0 then j119 else sa_bnd (f_X12_takesPath 159) fun _ => j119) τ2 Q := fun e => by
        rw [wp_jn0, wp_if]
        refine ⟨fun q => absurd q (by decide), fun _ => ?_⟩
        rw [wp_bnd]
        refine m_takes hV3 hpr3 hpa hrow2 hsum (fun τ3 af3 h59 h55 h184 h56 h57 h58 => ?_)
        rw [wp_ret]
        refine hQ _ ((af0.trans mf12.af).trans af3) ?_
        rw [e]
        refine ⟨h59.trans hrb3.1, hpa, h55, h184, h56, ?_, fun _ => by rw [h58, hsu]⟩
        rw [h57, hmn, if_neg hs2]
      have stay : bst (btS W z (cnS z sk) (lsS f hold z wr md h0) (st0 g, 0) s) B.2 q = B.2 → wp (sa_jn0 (sa_ret ()) fun j119 => if (0 : Int32) = 0 then j119 else sa_bnd (f_X12_takesPath 159) fun _ => j119) τ2 Q := fun e => by
        rw [wp_jn0, wp_if]
        refine ⟨fun _ => ?_, fun q => absurd rfl q⟩
        rw [wp_ret]
        refine hQ _ (af0.trans mf12.af) ?_
        rw [e]
        exact hrb3
      obtain ⟨cn0, b⟩ := B
      cases b with
      | none =>
        have h55 : τ2.1 159 55 = nI 0 := hrb3.2
        rw [wp_bnd, wp_rdI, h55]
        refine ⟨rfl, ?_⟩
        rw [wp_jn1, wp_jn0, wp_if]
        refine ⟨fun _ => take rfl, fun q => absurd (show nI 0 = 0 from rfl) q⟩
      | some o =>
        obtain ⟨hpo, h55, -, h56, h57, h58⟩ := hrb3.2
        have o1 := hpo.1
        have o8 := hpo.2.1
        rw [if_neg hs2] at h57
        have h58' := h58 hs2
        have bh := vHr_bd (W := W) (q := q) hz p8
        have bo := vHr_bd (W := W) (q := o) hz o8
        have yes : btS W z (cnS z sk) (lsS f hold z wr md h0) (st0 g, 0) s q o = true → bst (btS W z (cnS z sk) (lsS f hold z wr md h0) (st0 g, 0) s) (some o) q = some q := fun h => by
          rw [bst_s, if_pos h]
        have no : btS W z (cnS z sk) (lsS f hold z wr md h0) (st0 g, 0) s q o = false → bst (btS W z (cnS z sk) (lsS f hold z wr md h0) (st0 g, 0) s) (some o) q = some o := fun h => by
          rw [bst_s, h]
          rfl
        rw [wp_bnd, wp_rdI, h55]
        refine ⟨rfl, ?_⟩
        rw [wp_jn1, wp_jn0, wp_if]
        refine ⟨fun q => absurd q (nI_ne0 (by omega) (by omega)), fun _ => ?_⟩
        rw [wp_jn0]
        rcases (show s = 0 ∨ s = 1 ∨ s = 2 by omega) with rfl | rfl | rfl
        · have hbt : btS W z (cnS z sk) (lsS f hold z wr md h0) (st0 g, 0) 0 q o = decide (vMn W z (cnS z sk) (lsS f hold z wr md h0) (st0 g, 0) none o < vMn W z (cnS z sk) (lsS f hold z wr md h0) (st0 g, 0) none q) := btS_0
          have b1 := bm q
          have b2 := bm o
          rw [wp_if]
          refine ⟨fun q => absurd (show nI 0 = 0 from rfl) q, fun _ => ?_⟩
          rw [wp_bnd, wp_of_eq (m_mean hk3 hrow2 hsum), hmn, wp_bnd, wp_rdI, h57]
          refine ⟨rfl, ?_⟩
          rw [wp_if, nI_leI (by omega) (by omega)]
          refine ⟨fun h => stay (no (by rw [hbt, decide_eq_false_iff_not]; omega)), fun h => take (yes (by rw [hbt, decide_eq_true_iff]; omega))⟩
        · have hbt : btS W z (cnS z sk) (lsS f hold z wr md h0) (st0 g, 0) 1 q o = decide (vSu W z (cnS z sk) (lsS f hold z wr md h0) (st0 g, 0) o < vSu W z (cnS z sk) (lsS f hold z wr md h0) (st0 g, 0) q) := btS_1
          have b1 := bs q
          have b2 := bs o
          rw [wp_if]
          refine ⟨fun _ => ?_, fun q => absurd (show ¬ nI 1 = 0 by decide) q⟩
          rw [wp_if]
          refine ⟨fun q => absurd (show nI 1 = 1 from rfl) q, fun _ => ?_⟩
          rw [wp_bnd, wp_of_eq (m_sure hk3 hrow2 hsum), hsu, wp_bnd, wp_rdI, h58']
          refine ⟨rfl, ?_⟩
          rw [wp_if, nI_leI (by omega) (by omega)]
          refine ⟨fun h => stay (no (by rw [hbt, decide_eq_false_iff_not]; omega)), fun h => take (yes (by rw [hbt, decide_eq_true_iff]; omega))⟩
        · have hbt : btS W z (cnS z sk) (lsS f hold z wr md h0) (st0 g, 0) 2 q o = decide (vHr W z q < vHr W z o) := btS_2
          have h54 : τ2.1 159 54 = nI (vHr W z q) := hpr3.2.1
          rw [wp_if]
          refine ⟨fun _ => ?_, fun q => absurd (show ¬ nI 2 = 0 by decide) q⟩
          rw [wp_if]
          refine ⟨fun _ => ?_, fun q => absurd (show ¬ nI 2 = 1 by decide) q⟩
          rw [wp_bnd, wp_rdI, h54]
          refine ⟨rfl, ?_⟩
          rw [wp_bnd, wp_rdI, h56]
          refine ⟨rfl, ?_⟩
          rw [wp_if, nI_leI (by omega) (by omega)]
          refine ⟨fun h => stay (no (by rw [hbt, decide_eq_false_iff_not]; omega)), fun h => take (yes (by rw [hbt, decide_eq_true_iff]; omega))⟩
    · have hs2 : s = 3 := by
        have h := Decidable.not_not.mp heq
        have h' : nI s = nI 3 := h
        rw [nI_eq (by omega) (by omega)] at h'
        exact h'
      subst hs2
      rw [wp_bnd]
      refine m_looks hV1 hsk hgo hg hg9 hpa hpr1 hrb0 (fun τ af hrb2 => ?_)
      rw [wp_ret]
      exact hQ τ (af0.trans af) hrb2
  · have h200' : ¬ B.1 + 1 ≤ 200 := fun h => h200 ((nI_leI (b := 200) (by omega) (by omega)).mpr h)
    rw [if_neg h200'] at hQ
    rw [wp_ret]
    exact hQ _ af0 hrb0
/-- what a search leaves of the path that is gone so far -/
def GF (n : Nat) (f : Nat → LWt) (l : Nat) (σ τ : sa_St) : Prop := NF n f σ τ ∧ τ.1 159 53 = σ.1 159 53 ∧ τ.1 159 54 = σ.1 159 54 ∧ ∀ j, j < l → τ.1 183 j = σ.1 183 j
theorem m_from (hsk : SkS sk) (hgo : Go k c wr md h0) (hg : k (23 + 7 * c + 2) = nI g) (hg9 : g < 100) (hs3 : s ≤ 3) (ht : to < P) : ∀ (fu : Nat) (tr : List Nat) (here seen : Nat) (σ : sa_St) (B : Nat × Option (List Nat)) (Q : Unit → sa_St → Prop), Tr P W z a0 tr here seen → fu + tr.length = 61 → MV L P W F n f z hold sk k wl σ → PR W z tr σ → B.1 + (pth P W z to fu tr here seen).length ≤ 2 ^ 29 → RB P W z (cnS z sk) (lsS f hold z wr md h0) (st0 g, 0) a0 to s B σ → (∀ τ, GF n f tr.length σ τ → RB P W z (cnS z sk) (lsS f hold z wr md h0) (st0 g, 0) a0 to s ((pth P W z to fu tr here seen).foldl (bsc (btS W z (cnS z sk) (lsS f hold z wr md h0) (st0 g, 0) s)) B) τ → Q () τ) → wp (gr_X12_goJourneys fu 159 (nI c) (nI to) (nI s) (nI seen)) σ Q := by
  intro fu
  induction fu with
  | zero =>
    intro tr here seen σ B Q hTr hfu hV
    have := hTr.len
    have := hV.1.zr.1.1
    omega
  | succ fu ih =>
    intro tr here seen σ B Q hTr hfu hV hpr hcnt hrb hQ
    have hz := hV.1.zr
    have hP := hz.1.1
    have hlen := hTr.len
    have hpos := hTr.1
    have hhP := hTr.hP
    have hk := hV.1.1
    have hseen := hTr.2.2.2.2.2.2.2
    have e1 : nI tr.length - 1 = nI (tr.length - 1) := pk_sub (a := tr.length) (b := 1) hpos
    have hhere : σ.1 183 (tr.length - 1) = nI here := by rw [hpr.2.2 _ (by omega), hTr.2.2.1]
    show wp (fb_X12_goJourneys (gr_X12_goJourneys fu) 159 (nI c) (nI to) (nI s) (nI seen)) σ Q
    have hpth : pth P W z to (fu + 1) tr here seen = if here = to then [tr] else (List.range P).flatMap (fun p => if seen.testBit p = false ∧ (lwy W z here p).isSome = true then pth P W z to fu (tr ++ [p]) p (seen ||| 2 ^ p) else []) := rfl
    unfold fb_X12_goJourneys
    rw [wp_gd]
    refine ⟨rfl, ?_⟩
    rw [wp_bnd, wp_rdR (v := 183) rfl (sk_159_51 hk), wp_bnd, wp_rdI, hpr.1]
    refine ⟨rfl, ?_⟩
    rw [wp_bnd, e1, wp_ldI (n := tr.length - 1) (len := 9) al_183 rfl (by omega) (by omega), hhere, wp_if, nI_eq (by omega) (by omega)]
    refine ⟨fun hne => ?_, fun hne => ?_⟩
    · rw [if_neg hne] at hpth
      rw [hpth] at hQ hcnt
      rw [wp_let]
      generalize hgd : (fun p => if seen.testBit p = false ∧ (lwy W z here p).isSome = true then pth P W z to fu (tr ++ [p]) p (seen ||| 2 ^ p) else []) = g2 at hQ hcnt
      have hgp : ∀ p, g2 p = if seen.testBit p = false ∧ (lwy W z here p).isSome = true then pth P W z to fu (tr ++ [p]) p (seen ||| 2 ^ p) else [] := fun p => by rw [← hgd]
      refine wp_for1 P 0 (fun p τ => GF n f tr.length σ τ ∧ RB P W z (cnS z sk) (lsS f hold z wr md h0) (st0 g, 0) a0 to s (((List.range p).flatMap g2).foldl (bsc (btS W z (cnS z sk) (lsS f hold z wr md h0) (st0 g, 0) s)) B) τ) ?_ ?_ ⟨⟨NF.refl hV.1.memo, rfl, rfl, fun _ _ => rfl⟩, hrb⟩ (Nat.zero_le _) (by unfold sa_F; omega)
      · rintro p τ hp ⟨gf, hrb1⟩ j hj
        have hV1 := hV.nf gf.1
        have hk1 := hV1.1.1
        have r0 : τ.1 159 25 = nI P := hV1.1.2.2.1.2.1.2.2.2.1
        have hfs := flat_succ (g := g2) (p := p)
        have hpr1 : PR W z tr τ := ⟨gf.2.1.trans hpr.1, gf.2.2.1.trans hpr.2.1, fun j hj => (gf.2.2.2 j hj).trans (hpr.2.2 j hj)⟩
        have hcnt1 : ((List.range p).flatMap g2).length + (g2 p).length ≤ ((List.range P).flatMap g2).length := by
          obtain ⟨X, hX⟩ := flat_pre (g := g2) (p := p + 1) (P - (p + 1))
          rw [show p + 1 + (P - (p + 1)) = P by omega] at hX
          rw [hX, hfs, List.length_append, List.length_append]
          omega
        have hB1 : (((List.range p).flatMap g2).foldl (bsc (btS W z (cnS z sk) (lsS f hold z wr md h0) (st0 g, 0) s)) B).1 = B.1 + ((List.range p).flatMap g2).length := by rw [bsc_all]
        have next : g2 p = [] → wp (sa_let ((nI p + 1) : Int32) fun x9 => j x9) τ Q := fun e => by
          rw [wp_let, nI_1]
          refine hj _ ⟨gf, ?_⟩
          rw [hfs, e, List.append_nil]
          exact hrb1
        rw [wp_bnd, wp_rdI, r0]
        refine ⟨rfl, ?_⟩
        rw [wp_if]
        refine ⟨fun q => absurd q (nI_ge hp (by omega)), fun _ => ?_⟩
        rw [wp_bnd, wp_of_eq (m_has (by omega) (by omega)), wp_jn1, wp_if]
        have tl : ∀ y : Int32, (y = mI → g2 p = []) → (∀ w, w < W → y = nI w → lwy W z here p = some w ∧ seen.testBit p = false) → (y = mI ∨ ∃ w, w < W ∧ y = nI w) → wp (sa_jn0 (sa_let ((nI p + 1) : Int32) fun x9 => j x9) fun j156 =>
if ¬ y = (-1) then
sa_bnd (sa_rdR 12 159 51) fun v10 =>
sa_bnd (sa_rdI 12 159 53) fun v11 =>
sa_bnd (sa_stI v10 v11 (nI p)) fun _ =>
sa_bnd (sa_rdI 12 159 53) fun v12 =>
sa_bnd (sa_wrI 12 159 53 (v12 + 1)) fun _ =>
sa_bnd (sa_rdI 12 159 54) fun v13 =>
sa_bnd (sa_rdR 12 159 20) fun v14 =>
sa_bnd (sa_ldI .int v14 ((4 * y) + 2)) fun v15 =>
sa_bnd (sa_wrI 12 159 54 (v13 + v15)) fun _ =>
sa_bnd (gr_X12_goJourneys fu 159 (nI c) (nI to) (nI s) (nI seen ||| (1 <<< (nI p &&& 31)))) fun _ =>
sa_bnd (sa_rdI 12 159 53) fun v16 =>
sa_bnd (sa_wrI 12 159 53 (v16 - 1)) fun _ =>
sa_bnd (sa_rdI 12 159 54) fun v17 =>
sa_bnd (sa_rdR 12 159 20) fun v18 =>
sa_bnd (sa_ldI .int v18 ((4 * y) + 2)) fun v19 =>
sa_bnd (sa_wrI 12 159 54 (v17 - v19)) fun _ =>
j156
else
                    j156) τ Q := by
          intro y hy0 hy1 hy
          rw [wp_jn0, wp_if]
          rcases hy with rfl | ⟨w, hwW, rfl⟩
          · refine ⟨fun q => absurd rfl q, fun _ => next (hy0 rfl)⟩
          · have W12 := hz.1.2.1
            obtain ⟨hw, hsb⟩ := hy1 w hwW rfl
            have hnm : ¬ nI w = -1 := fun q => by
              have q' : nI w = mI := q
              rw [eq_mI (by omega)] at q'
              exact q'.elim
            refine ⟨fun _ => ?_, fun q => absurd hnm q⟩
            have hso : (lwy W z here p).isSome = true := by rw [hw]; rfl
            have hstep := hTr.step hP hp hsb hso
            have hsl : (tr ++ [p]).length = tr.length + 1 := by simp
            have hsl8 := hstep.len
            have hor : nI seen ||| ((1 : Int32) <<< (nI p &&& 31)) = nI (seen ||| 2 ^ p) := or_2p hseen (by omega)
            obtain ⟨⟨t1, t9, et⟩, -⟩ := wt_eq hz hwW
            have hwy := hV1.wy (j := 2) hwW (by omega)
            rw [et] at hwy
            have hph := phr_le (q := tr) hz (tr.length - 1)
            have eph : phr W z (tr ++ [p]) ((tr ++ [p]).length - 1) = phr W z tr (tr.length - 1) + wtN z w := by
              have hcg : ∀ i, i < tr.length → phr W z (tr ++ [p]) i = phr W z tr i := by
                intro i
                induction i with
                | zero => intro _; rfl
                | succ i ihh =>
                  intro hi
                  show phr W z (tr ++ [p]) i + hrs W z ((tr ++ [p]).getD i 0) ((tr ++ [p]).getD (i + 1) 0) = phr W z tr i + hrs W z (tr.getD i 0) (tr.getD (i + 1) 0)
                  rw [ihh (by omega), getD_app, getD_app, if_pos (by omega), if_pos (by omega)]
              rw [hsl, show tr.length + 1 - 1 = (tr.length - 1) + 1 by omega]
              show phr W z (tr ++ [p]) (tr.length - 1) + hrs W z ((tr ++ [p]).getD (tr.length - 1) 0) ((tr ++ [p]).getD (tr.length - 1 + 1) 0) = _
              rw [hcg _ (by omega), getD_app, getD_app, if_pos (by omega), if_neg (by omega), if_pos (by omega), hTr.2.2.1]
              congr 1
              unfold hrs
              rw [hw]
            rw [wp_bnd, wp_rdR (v := 183) rfl (sk_159_51 hk1), wp_bnd, wp_rdI, hpr1.1]
            refine ⟨rfl, ?_⟩
            rw [wp_bnd, wp_stI (n := tr.length) (len := 9) al_183 rfl (by omega) (by omega), wp_bnd, wp_rdI, upI_ne (by omega), hpr1.1]
            refine ⟨rfl, ?_⟩
            rw [wp_bnd, wp_wrI]
            refine ⟨rfl, ?_⟩
            rw [wp_bnd, wp_rdI, upI_self, va_up_ne _ _ (by omega), upI_ne (by omega), hpr1.2.1]
            refine ⟨rfl, ?_⟩
            have x166 : (sa_upI (sa_upI τ 183 tr.length (nI p)) 159 53 (nI tr.length + 1)).1 166 (4 * w + 2) = nI (wtN z w) := by rw [upI_ne (by omega), upI_ne (by omega)]; exact hwy
            rw [wp_bnd, wp_rdR (v := 166) rfl (sk_159_20 (show SK (sa_upI (sa_upI τ 183 tr.length (nI p)) 159 53 (nI tr.length + 1)).2.1 from hk1)), wp_bnd, wp_ldI (n := 4 * w + 2) (len := 48) al_166 (i42 w) (by omega) (by omega), x166, wp_bnd, wp_wrI]
            refine ⟨rfl, ?_⟩
            have nf2 : NF n f τ (sa_upI (sa_upI (sa_upI τ 183 tr.length (nI p)) 159 53 (nI tr.length + 1)) 159 54 (nI (phr W z tr (tr.length - 1)) + nI (wtN z w))) := (((NF.refl hV1.1.memo).upP (Or.inl rfl)).up (by omega)).up (by omega)
            have pr2 : PR W z (tr ++ [p]) (sa_upI (sa_upI (sa_upI τ 183 tr.length (nI p)) 159 53 (nI tr.length + 1)) 159 54 (nI (phr W z tr (tr.length - 1)) + nI (wtN z w))) := by
              refine ⟨?_, ?_, fun x hx => ?_⟩
              · rw [upI_self, va_up_ne _ _ (by omega), upI_self, va_up_self, nI_1, hsl]
              · rw [upI_self, va_up_self, nI_add, eph]
              · rw [upI_ne (by omega), upI_ne (by omega), upI_self, getD_app]
                by_cases ex : x < tr.length
                · rw [if_pos ex, va_up_ne _ _ (by omega)]
                  exact hpr1.2.2 x ex
                · rw [if_neg ex, if_pos (by omega), show x = tr.length by omega, va_up_self]
            have rb2 := hrb1.of (τ := sa_upI (sa_upI (sa_upI τ 183 tr.length (nI p)) 159 53 (nI tr.length + 1)) 159 54 (nI (phr W z tr (tr.length - 1)) + nI (wtN z w))) (by rw [upI_self, va_up_ne _ _ (by omega), upI_self, va_up_ne _ _ (by omega), upI_ne (by omega)]) (fun k a b => by rw [upI_self, va_up_ne _ _ (by omega), upI_self, va_up_ne _ _ (by omega), upI_ne (by omega)]) (by rw [upI_ne (by omega), upI_ne (by omega), upI_ne (by omega)])
            have x183 : ∀ x, x < tr.length → (sa_upI (sa_upI (sa_upI τ 183 tr.length (nI p)) 159 53 (nI tr.length + 1)) 159 54 (nI (phr W z tr (tr.length - 1)) + nI (wtN z w))).1 183 x = τ.1 183 x := fun x hx => by rw [upI_ne (by omega), upI_ne (by omega), upI_self, va_up_ne _ _ (by omega)]
            generalize sa_upI (sa_upI (sa_upI τ 183 tr.length (nI p)) 159 53 (nI tr.length + 1)) 159 54 (nI (phr W z tr (tr.length - 1)) + nI (wtN z w)) = τ2 at nf2 pr2 rb2 x183 ⊢
            rw [hor, wp_bnd]
            have hgl : g2 p = pth P W z to fu (tr ++ [p]) p (seen ||| 2 ^ p) := by rw [hgp, if_pos ⟨hsb, hso⟩]
            refine ih (tr ++ [p]) p (seen ||| 2 ^ p) τ2 _ _ hstep (by omega) (hV1.nf nf2) pr2 (by rw [hB1, ← hgl]; omega) rb2 (fun τ3 gf3 rb3 => ?_)
            have hV3 := (hV1.nf nf2).nf gf3.1
            have hk3 := hV3.1.1
            have hwy3 := hV3.wy (j := 2) hwW (by omega)
            rw [et] at hwy3
            have h53 : τ3.1 159 53 = nI (tr.length + 1) := gf3.2.1.trans (pr2.1.trans (by rw [hsl]))
            have h54 : τ3.1 159 54 = nI (phr W z tr (tr.length - 1) + wtN z w) := gf3.2.2.1.trans (pr2.2.1.trans (by rw [eph]))
            have ed : nI (tr.length + 1) - 1 = nI tr.length := nI_pred _
            have ed2 : nI (phr W z tr (tr.length - 1) + wtN z w) - nI (wtN z w) = nI (phr W z tr (tr.length - 1)) := by rw [pk_sub (by omega), Nat.add_sub_cancel]
            rw [wp_bnd, wp_rdI, h53]
            refine ⟨rfl, ?_⟩
            rw [wp_bnd, wp_wrI, ed]
            refine ⟨rfl, ?_⟩
            rw [wp_bnd, wp_rdI, upI_self, va_up_ne _ _ (by omega), h54]
            refine ⟨rfl, ?_⟩
            have y166 : (sa_upI τ3 159 53 (nI tr.length)).1 166 (4 * w + 2) = nI (wtN z w) := by rw [upI_ne (by omega)]; exact hwy3
            rw [wp_bnd, wp_rdR (v := 166) rfl (sk_159_20 (show SK (sa_upI τ3 159 53 (nI tr.length)).2.1 from hk3)), wp_bnd, wp_ldI (n := 4 * w + 2) (len := 48) al_166 (i42 w) (by omega) (by omega), y166, wp_bnd, wp_wrI, ed2]
            refine ⟨rfl, ?_⟩
            rw [wp_let, nI_1]
            refine hj _ ⟨⟨(((gf.1.trans nf2).trans gf3.1).up (by omega)).up (by omega), ?_, ?_, fun x hx => ?_⟩, ?_⟩
            · rw [upI_self, va_up_ne _ _ (by omega), upI_self, va_up_self]
              exact hpr.1.symm
            · rw [upI_self, va_up_self]
              exact hpr.2.1.symm
            · rw [upI_ne (by omega), upI_ne (by omega), gf3.2.2.2 x (by omega), x183 x hx]
              exact gf.2.2.2 x hx
            · rw [hfs, List.foldl_append, hgl]
              exact rb3.of (by rw [upI_self, va_up_ne _ _ (by omega), upI_self, va_up_ne _ _ (by omega)]) (fun k a b => by rw [upI_self, va_up_ne _ _ (by omega), upI_self, va_up_ne _ _ (by omega)]) (by rw [upI_ne (by omega), upI_ne (by omega)])
        refine ⟨fun hs => ?_, fun hs => ?_⟩
        · have hsb : seen.testBit p = false := by
            rw [L0, nI_eq (by omega) (by omega)] at hs
            rw [Nat.testBit_eq_decide_div_mod_eq, decide_eq_false_iff_not]
            omega
          have fw := r_wayOf hV1.1 hhP hp (lwy_low (W := W) (z := z) (a := here) (b := p))
          rw [wp_bnd, wp_of_eq fw]
          refine tl _ (fun e => ?_) (fun w hw e => ?_) ?_
          · rw [hgp, if_neg]
            rintro ⟨-, h⟩
            cases hl : lwy W z here p with
            | none => rw [hl] at h; cases h
            | some w =>
              have hw := lwy_lt hl
              have W12 := hz.1.2.1
              rw [hl] at e
              have e' : nI w = mI := e
              rw [eq_mI (by omega)] at e'
              exact e'.elim
          · have W12 := hz.1.2.1
            cases hl : lwy W z here p with
            | none =>
              rw [hl] at e
              have e' : mI = nI w := e
              rw [mI_eq (by omega)] at e'
              exact e'.elim
            | some w2 =>
              have hw2 := lwy_lt hl
              rw [hl] at e
              have e' : nI w2 = nI w := e
              rw [nI_eq (by omega) (by omega)] at e'
              rw [e']
              exact ⟨rfl, hsb⟩
          · cases hl : lwy W z here p with
            | none => exact Or.inl rfl
            | some w => exact Or.inr ⟨w, lwy_lt hl, rfl⟩
        · have hsb : seen.testBit p = true := by
            rw [L0, nI_eq (by omega) (by omega)] at hs
            rw [Nat.testBit_eq_decide_div_mod_eq, decide_eq_true_iff]
            omega
          have W12 := hz.1.2.1
          refine tl (-1) (fun _ => ?_) (fun w hw e => ?_) (Or.inl rfl)
          · rw [hgp, if_neg (fun h => by rw [hsb] at h; exact absurd h.1 (by decide))]
          · have e' : mI = nI w := e
            rw [mI_eq (by omega)] at e'
            exact e'.elim
      · rintro τ ⟨gf, hrb1⟩ j
        have r0 : τ.1 159 25 = nI P := (hV.nf gf.1).1.2.2.1.2.1.2.2.2.1
        rw [wp_bnd, wp_rdI, r0]
        refine ⟨rfl, ?_⟩
        rw [wp_if]
        refine ⟨fun _ => ?_, fun q => absurd (nI_le (Nat.le_refl _) (by omega)) q⟩
        rw [wp_ret]
        exact hQ τ gf hrb1
    · have hh : here = to := Decidable.not_not.mp hne
      rw [if_pos hh] at hpth
      rw [hpth] at hQ hcnt
      have hpa : Pa P W z a0 to tr := ⟨hpos, by omega, hTr.2.1, hTr.2.2.1.trans hh, fun j hj => (hTr.2.2.2.1 j hj).1, hTr.2.2.2.2.1, hTr.2.2.2.2.2.1⟩
      rw [wp_bnd]
      refine m_arrives hV hsk hgo hg hg9 hpa hpr hs3 (by rw [List.length_singleton] at hcnt; omega) hrb (fun τ af rb => ?_)
      rw [wp_ret]
      exact hQ τ ⟨af.1, af.2.1, af.2.2.1, fun j _ => by rw [af.2.2.2]⟩ rb
/-- the best journey of a sort is laid ready -/
theorem m_layB {σ : sa_St} {Q : Int32 → sa_St → Prop} (hV : MV L P W F n f z hold sk k wl σ) (hsk : SkS sk) (hgo : Go k c wr md h0) (hg : k (23 + 7 * c + 2) = nI g) (hg9 : g < 100) (hat : AtP k (nI c) 1) (hs3 : s ≤ 3) (ht : to < P) (ha : k (23 + 7 * c + 0) = nI a0) (ha0 : a0 < P) (hne : a0 ≠ to) (hQ : ∀ τ, NF n f σ τ → RB P W z (cnS z sk) (lsS f hold z wr md h0) (st0 g, 0) a0 to s ((pth P W z to 60 [a0] a0 (2 ^ a0)).length, bstL (btS W z (cnS z sk) (lsS f hold z wr md h0) (st0 g, 0) s) ((pth P W z to 60 [a0] a0 (2 ^ a0)).take 200)) τ → Q (nI (if (bstL (btS W z (cnS z sk) (lsS f hold z wr md h0) (st0 g, 0) s) ((pth P W z to 60 [a0] a0 (2 ^ a0)).take 200)).isSome then 1 else 0)) τ) : wp (f_X12_layBest 159 (nI c) (nI to) (nI s)) σ Q := by
  have hz := hV.1.zr
  have hP := hz.1.1
  have hk := hV.1.1
  have c8 := hgo.1
  have r0 : σ.1 159 25 = nI P := hV.1.2.2.1.2.1.2.2.2.1
  have w0 : σ.1 173 (7 * c) = nI a0 := by rw [hV.2.1, toW_own0 (by omega)]; exact ha
  have fp : f_X12_isPlace 159 (nI to) σ = some (nI 1, σ) := by
    refine run_of ?_
    unfold f_X12_isPlace
    simp (disch := omega) only [wp_gd, wp_bnd, wp_let, wp_jn0, wp_jn1, wp_jn2, wp_if, wp_ret, wp_rdI, wp_rdL, v_rdR, v_ldI, v_ldL, v_ldR, v_stI, v_stB, v_stZ, v_stL, wp_wrI, wp_wrL, wp_wrR, wp_wrZ, wp_retZ, v_md, v_dv, v_tb, upI_2, true_and, and_true, Nat.add_sub_cancel, Nat.zero_lt_succ, Nat.succ_pos, okN, clN, L0, L1, L2, L3, L4, L5, L6, L7, L8, L9, L10, L11, L12, L13, L14, L15, L16, L17, L18, L19, L20, L21, L22, L23, L24, L25, L26, L27, L28, L29, L30, L31, L32, L33, L34, L35, L36, L37, L38, L39, L40, L41, L42, L43, L44, L45, L46, L47, L48, L49, L50, L51, L52, L53, L54, L55, L56, L57, L58, L59, L60, L61, L62, L63, L64, L65, L66, L67, L68, L69, L70, L71, L72, L73, L74, L75, L76, L77, L78, L79, L80, L81, L82, L83, L84, L85, L86, L87, L88, L89, L90, L91, L92, L93, L94, L95, L96, L97, L98, L99, L100, L101, L102, L103, L104, L105, L106, L107, L108, L109, L110, L111, L112, L113, L114, L115, L116, L117, L118, L119, L120, L121, L122, L123, L124, L125, L126, L127, L128, L129, L130, L131, L200, L240, L255, L260, L1000, L4096, L10140, L1000000, ng1, mI_lt, mI_le, lt_mI, le_mI, eq_mI, mI_eq, mI_mI, mI_mE, nI_add, pk_mul, pk_sub, pk_rem, sa_minN, sa_maxN, ne_eq, nI_leI, nI_ltI, nI_eq, dT_le, dF_le, dT_lt, dF_lt, dT_eq, dF_eq, true_imp_iff, false_imp_iff, not_true_eq_false, not_false_eq_true, false_or, or_false, true_or, or_true, false_and, and_false, Decidable.not_not, reduceIte, if_true, if_false, upI_self, upI_ne, upL_1, upL_21, upL_self, upL_ne, upR_1, upR_22, upR_self, upR_ne, va_up_self, va_up_ne, Nat.reduceAdd, Nat.reduceMul, Nat.reduceSub, Nat.reduceLT, Nat.reduceLeDiff, Nat.reduceEqDiff, Nat.reduceSubDiff, Nat.zero_add, cm3, cm5, cm7, cm8, cm25, Nat.not_lt_zero, Nat.zero_le, not_false_iff, and_self, imp_self, implies_true, forall_const, Nat.lt_irrefl, Nat.le_refl, and_imp, sh_159, r0]
  have hTr : Tr P W z a0 [a0] a0 (2 ^ a0) := Tr.one ha0 hP
  have hln := pth_len (P := P) (W := W) (z := z) (to := to) hP 60 [a0] a0 (2 ^ a0) hTr
  have hb8 : 8 ^ (8 - [a0].length) = 2097152 := rfl
  unfold f_X12_layBest
  rw [wp_gd]
  refine ⟨rfl, ?_⟩
  rw [wp_bnd, wp_rdR (v := 173) rfl (sk_159_35 hk), wp_bnd, wp_of_eq (hat.2 σ 173 wl al_173 hV.2.1), wp_jn0, wp_if]
  refine ⟨fun q => absurd q (by decide), fun _ => ?_⟩
  rw [wp_bnd, wp_of_eq fp, wp_if]
  refine ⟨fun q => absurd q (by decide), fun _ => ?_⟩
  rw [wp_bnd, wp_rdR (v := 173) rfl (sk_159_35 hk), wp_bnd, wp_ldI (n := 7 * c) (len := 260) al_173 (i7 c) (by omega) (by omega), w0, wp_if, nI_eq (by omega) (by omega)]
  refine ⟨fun _ => ?_, fun q => absurd hne q⟩
  rw [wp_bnd, wp_wrI]
  refine ⟨rfl, ?_⟩
  rw [wp_bnd, wp_wrI]
  refine ⟨rfl, ?_⟩
  have nf1 : NF n f σ (sa_upI (sa_upI σ 159 55 0) 159 59 0) := ((NF.refl hV.1.memo).up (by omega)).up (by omega)
  have y1 : (sa_upI (sa_upI σ 159 55 0) 159 59 0).1 159 55 = nI 0 := by rw [upI_self, va_up_ne _ _ (by omega), upI_self, va_up_self]; rfl
  have y2 : (sa_upI (sa_upI σ 159 55 0) 159 59 0).1 159 59 = nI 0 := by rw [upI_self, va_up_self]; rfl
  generalize sa_upI (sa_upI σ 159 55 0) 159 59 0 = σ1 at nf1 y1 y2 ⊢
  have hV1 := hV.nf nf1
  have hk1 := hV1.1.1
  have w1 : σ1.1 173 (7 * c) = nI a0 := by rw [hV1.2.1, toW_own0 (by omega)]; exact ha
  rw [wp_bnd, wp_rdR (v := 183) rfl (sk_159_51 hk1), wp_bnd, wp_rdR (v := 173) rfl (sk_159_35 hk1), wp_bnd, wp_ldI (n := 7 * c) (len := 260) al_173 (i7 c) (by omega) (by omega), w1, wp_bnd, wp_stI (j := 0) (n := 0) (len := 9) al_183 rfl (by omega) (by omega), wp_bnd, wp_wrI]
  refine ⟨rfl, ?_⟩
  rw [wp_bnd, wp_wrI]
  refine ⟨rfl, ?_⟩
  have nf2 : NF n f σ1 (sa_upI (sa_upI (sa_upI σ1 183 0 (nI a0)) 159 53 1) 159 54 0) := (((NF.refl hV1.1.memo).upP (Or.inl rfl)).up (by omega)).up (by omega)
  have pr2 : PR W z [a0] (sa_upI (sa_upI (sa_upI σ1 183 0 (nI a0)) 159 53 1) 159 54 0) := by
    refine ⟨?_, ?_, fun x hx => ?_⟩
    · rw [upI_self, va_up_ne _ _ (by omega), upI_self, va_up_self]; rfl
    · rw [upI_self, va_up_self]; rfl
    · have : x = 0 := by simpa using hx
      subst this
      rw [upI_ne (by omega), upI_ne (by omega), upI_self, va_up_self]
      rfl
  have rb2 : RB P W z (cnS z sk) (lsS f hold z wr md h0) (st0 g, 0) a0 to s (0, none) (sa_upI (sa_upI (sa_upI σ1 183 0 (nI a0)) 159 53 1) 159 54 0) := by
    refine ⟨?_, ?_⟩
    · rw [upI_self, va_up_ne _ _ (by omega), upI_self, va_up_ne _ _ (by omega), upI_ne (by omega)]; exact y2
    · show _ = nI 0
      rw [upI_self, va_up_ne _ _ (by omega), upI_self, va_up_ne _ _ (by omega), upI_ne (by omega)]; exact y1
  have y3 : (sa_upI (sa_upI (sa_upI σ1 183 0 (nI a0)) 159 53 1) 159 54 0).1 183 0 = nI a0 := by rw [upI_ne (by omega), upI_ne (by omega), upI_self, va_up_self]
  generalize sa_upI (sa_upI (sa_upI σ1 183 0 (nI a0)) 159 53 1) 159 54 0 = σ2 at nf2 pr2 rb2 y3 ⊢
  have hV2 := hV1.nf nf2
  have hk2 := hV2.1.1
  have hsh : (1 : Int32) <<< (nI a0 &&& 31) = nI (2 ^ a0) := shl1 a0 (by omega)
  rw [wp_bnd, wp_rdR (v := 183) rfl (sk_159_51 hk2), wp_bnd, wp_ldI (j := 0) (n := 0) (len := 9) al_183 rfl (by omega) (by omega), y3, hsh, wp_bnd]
  refine m_from hsk hgo hg hg9 hs3 ht 60 [a0] a0 (2 ^ a0) σ2 (0, none) _ hTr rfl hV2 pr2 (by show 0 + _ ≤ _; omega) rb2 (fun τ gf rb => ?_)
  rw [bsc_all] at rb
  have rb' : RB P W z (cnS z sk) (lsS f hold z wr md h0) (st0 g, 0) a0 to s ((pth P W z to 60 [a0] a0 (2 ^ a0)).length, bstL (btS W z (cnS z sk) (lsS f hold z wr md h0) (st0 g, 0) s) ((pth P W z to 60 [a0] a0 (2 ^ a0)).take 200)) τ := by
    have e : (0 : Nat) + (pth P W z to 60 [a0] a0 (2 ^ a0)).length = (pth P W z to 60 [a0] a0 (2 ^ a0)).length := Nat.zero_add _
    rw [← e]
    exact rb
  have hq := hQ τ ((nf1.trans nf2).trans gf.1) rb'
  rw [wp_bnd, wp_rdI, wp_jn1]
  refine ⟨rfl, ?_⟩
  obtain ⟨-, hb⟩ := rb'
  cases ho : bstL (btS W z (cnS z sk) (lsS f hold z wr md h0) (st0 g, 0) s) ((pth P W z to 60 [a0] a0 (2 ^ a0)).take 200) with
  | none =>
    rw [ho] at hb hq
    have h55 : τ.1 159 55 = nI 0 := hb
    rw [h55, wp_if]
    refine ⟨fun _ => ?_, fun q => absurd (show nI 0 ≤ 0 by decide) q⟩
    rw [wp_retZ]
    exact ⟨Or.inl rfl, hq⟩
  | some o =>
    rw [ho] at hb hq
    obtain ⟨hpo, h55, -⟩ := hb
    have o1 := hpo.1
    have o8 := hpo.2.1
    rw [h55, wp_if]
    refine ⟨fun q => absurd q (nI_nle (by omega) (by omega)), fun _ => ?_⟩
    rw [wp_retZ]
    exact ⟨Or.inr rfl, hq⟩
end MGO
