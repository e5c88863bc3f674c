/-! JOURNEYS, by the class: the best row, the worst place, the best wait -/
def vlS (W : Nat) (z : Nat → Int32) (cn : CNf) (ls : LSf) (s0 : (Nat → Nat) × Nat) (s : Nat) (q : List Nat) : Nat := if s = 0 then vMn W z cn ls s0 none q else if s = 1 then vSu W z cn ls s0 q else if s = 2 then vHr W z q else vLs W z cn ls s0 q (q.length - 1)
def btS (W : Nat) (z : Nat → Int32) (cn : CNf) (ls : LSf) (s0 : (Nat → Nat) × Nat) (s : Nat) (q o : List Nat) : Bool := if s = 2 then decide (vlS W z cn ls s0 s q < vlS W z cn ls s0 s o) else decide (vlS W z cn ls s0 s o < vlS W z cn ls s0 s q)
def vIS (W : Nat) (z : Nat → Int32) (cn : CNf) (ls : LSf) (s0 : (Nat → Nat) × Nat) (s : Nat) (q : List Nat) : Int32 := if s = 2 then -(nI (vlS W z cn ls s0 s q)) else nI (vlS W z cn ls s0 s q)
theorem neg_leI {a b : Nat} (ha : a < 2 ^ 31) (hb : b < 2 ^ 31) : -(nI a) ≤ -(nI b) ↔ b ≤ a := by
  have h : ∀ a : Nat, a < 2 ^ 31 → (-(nI a)).toInt = -(a : Int) := fun a ha => by
    rw [Int32.toInt_neg, nI_toInt ha, Int.bmod_eq_of_le (by omega) (by omega)]
  rw [Int32.le_iff_toInt_le, h a ha, h b hb]
  omega
section CBEST
variable {L P W F n : Nat} {f : Nat → LWt} {z : Nat → Int32} {hold : Int32} {sk : Nat → Nat → Int32} {wr md h0 : Nat} {σ τ : sa_St} {rs : List (List Nat)} {row a0 to s : Nat} {q : List Nat} {s0 : (Nat → Nat) × Nat} {Q : Int32 → sa_St → Prop}
theorem vHr_bd (hz : ZR P W F z) (h8 : q.length ≤ 8) : vHr W z q ≤ 63 := by
  have := phr_le (q := q) hz (q.length - 1)
  unfold vHr
  omega
theorem vlS_bd (hz : ZR P W F z) (h8 : q.length ≤ 8) (hs : zc_sm 100 s0.1 = AL) : vlS W z (cnS z sk) (lsS f hold z wr md h0) s0 s q ≤ AL := by
  have h1 := vMn_bd (W := W) (z := z) (sk := sk) (f := f) (hold := hold) (wr := wr) (md := md) (h0 := h0) (q := q) (am := none) hs
  have h2 := vSu_bd (W := W) (z := z) (sk := sk) (f := f) (hold := hold) (wr := wr) (md := md) (h0 := h0) (q := q) (s0 := s0)
  have h3 := vHr_bd (W := W) (q := q) hz h8
  have h4 := vLs_bd (W := W) (z := z) (sk := sk) (f := f) (hold := hold) (wr := wr) (md := md) (h0 := h0) (q := q) hs (q.length - 1)
  unfold vlS
  unfold AL at *
  split
  · omega
  · split
    · omega
    · split <;> omega
theorem vIS_le {o : List Nat} (hz : ZR P W F z) (h8 : q.length ≤ 8) (h8o : o.length ≤ 8) (hs : zc_sm 100 s0.1 = AL) : vIS W z (cnS z sk) (lsS f hold z wr md h0) s0 s q ≤ vIS W z (cnS z sk) (lsS f hold z wr md h0) s0 s o ↔ btS W z (cnS z sk) (lsS f hold z wr md h0) s0 s q o = false := by
  have b1 := vlS_bd (W := W) (z := z) (sk := sk) (f := f) (hold := hold) (wr := wr) (md := md) (h0 := h0) (q := q) (s := s) hz h8 hs
  have b2 := vlS_bd (W := W) (z := z) (sk := sk) (f := f) (hold := hold) (wr := wr) (md := md) (h0 := h0) (q := o) (s := s) hz h8o hs
  unfold AL at b1 b2
  unfold vIS btS
  by_cases h : s = 2
  · rw [if_pos h, if_pos h, if_pos h, neg_leI (by omega) (by omega), decide_eq_false_iff_not]
    omega
  · rw [if_neg h, if_neg h, if_neg h, nI_leI (by omega) (by omega), decide_eq_false_iff_not]
    omega
theorem c_val {j64 : Int32 → sa_M Int32} (hT : TV L P W F n f z hold sk wr md h0 σ) (hr : TR rs σ) (hpt : ∀ (i : Nat) (q : List Nat), rs[i]? = some q → Pa P W z a0 to q) (hq : rs[row]? = some q) (hs : zc_sm 100 s0.1 = AL) (he : s0.2 ≤ 12) (hw : WKC W z (cnS z sk) (lsS f hold z wr md h0) rs s0 σ) (hs3 : s ≤ 3) (hQ : ∀ τ, FW σ τ → WKC W z (cnS z sk) (lsS f hold z wr md h0) rs s0 τ → wp (j64 (vIS W z (cnS z sk) (lsS f hold z wr md h0) s0 s q)) τ Q) :
    wp (if ¬ nI s = 2 then
if ¬ nI s = 1 then
if ¬ nI s = 0 then
sa_bnd (f_X9_leastMeanOf 136 (nI row)) fun v12 =>
j64 v12
else
sa_bnd (f_X9_meanOf 136 (nI row)) fun v13 =>
j64 v13
else
sa_bnd (f_X9_sureOf 136 (nI row)) fun v14 =>
j64 v14
else
sa_bnd (f_X9_hoursOf 136 (nI row)) fun v15 =>
j64 (-v15)) σ Q := by
  have hk : ∀ τ, FW σ τ → τ.1 136 15 = nI row → WKd W z (cnS z sk) (lsS f hold z wr md h0) q s0 q.length τ → wp (j64 (vIS W z (cnS z sk) (lsS f hold z wr md h0) s0 s q)) τ Q := fun τ fw h15 wk => hQ τ fw (Or.inr ⟨row, q, hq, h15, wk⟩)
  rcases (show s = 0 ∨ s = 1 ∨ s = 2 ∨ s = 3 by omega) with rfl | rfl | rfl | rfl
  · rw [wp_if]
    refine ⟨fun _ => ?_, fun q => absurd (show ¬ nI 0 = 2 by decide) q⟩
    rw [wp_if]
    refine ⟨fun _ => ?_, fun q => absurd (show ¬ nI 0 = 1 by decide) q⟩
    rw [wp_if]
    refine ⟨fun q => absurd (show nI 0 = 0 by decide) q, fun _ => ?_⟩
    rw [wp_bnd]
    exact c_meanOf hT hr hpt hq hs he hw (fun τ x => hk τ x.1)
  · rw [wp_if]
    refine ⟨fun _ => ?_, fun q => absurd (show ¬ nI 1 = 2 by decide) q⟩
    rw [wp_if]
    refine ⟨fun q => absurd (show nI 1 = 1 by decide) q, fun _ => ?_⟩
    rw [wp_bnd]
    exact c_sureOf hT hr hpt hq hs he hw hk
  · rw [wp_if]
    refine ⟨fun q => absurd (show nI 2 = 2 by decide) q, fun _ => ?_⟩
    rw [wp_bnd, wp_of_eq (c_hoursOf hT hr hpt hq)]
    exact hQ σ FW.rfl' hw
  · rw [wp_if]
    refine ⟨fun _ => ?_, fun q => absurd (show ¬ nI 3 = 2 by decide) q⟩
    rw [wp_if]
    refine ⟨fun _ => ?_, fun q => absurd (show ¬ nI 3 = 1 by decide) q⟩
    rw [wp_if]
    refine ⟨fun _ => ?_, fun q => absurd (show ¬ nI 3 = 0 by decide) q⟩
    rw [wp_bnd]
    exact c_leastOf hT hr hpt hq hs he hw hk
theorem take_fold {bt : List Nat → List Nat → Bool} {r : Nat} (hq : rs[r]? = some q) : (rs.take (r + 1)).foldl (bst bt) none = bst bt ((rs.take r).foldl (bst bt) none) q := by
  rw [List.take_add_one, hq, List.foldl_append]
  rfl
theorem c_best (hT : TV L P W F n f z hold sk wr md h0 σ) (hr : TR rs σ) (hpt : ∀ (i : Nat) (q : List Nat), rs[i]? = some q → Pa P W z a0 to q) (hs : zc_sm 100 s0.1 = AL) (he : s0.2 ≤ 12) (hw : WKC W z (cnS z sk) (lsS f hold z wr md h0) rs s0 σ) (hs3 : s ≤ 3) (h1 : 0 < rs.length) (hQ : ∀ (b : Nat) (qb : List Nat) (τ : sa_St), rs[b]? = some qb → bstL (btS W z (cnS z sk) (lsS f hold z wr md h0) s0 s) rs = some qb → FW σ τ → WKC W z (cnS z sk) (lsS f hold z wr md h0) rs s0 τ → Q (nI b) τ) : wp (f_X9_bestRow 136 (nI s)) σ Q := by
  have hr2 := hr.2.1
  have hz := hT.1.zr
  unfold f_X9_bestRow
  rw [wp_gd]
  refine ⟨rfl, ?_⟩
  rw [wp_let, wp_let, wp_let]
  refine wp_for3 rs.length 0 (fun r a c τ => FW σ τ ∧ WKC W z (cnS z sk) (lsS f hold z wr md h0) rs s0 τ ∧ (r = 0 ∨ ∃ (b : Nat) (qb : List Nat), rs[b]? = some qb ∧ a = nI b ∧ c = vIS W z (cnS z sk) (lsS f hold z wr md h0) s0 s qb ∧ (rs.take r).foldl (bst (btS W z (cnS z sk) (lsS f hold z wr md h0) s0 s)) none = some qb)) ?_ ?_ ⟨FW.rfl', hw, Or.inl rfl⟩ (Nat.zero_le _) (by unfold sa_F; omega)
  · rintro r a c τ hrl ⟨fw, hwk, hb⟩ j hj
    obtain ⟨q, hq⟩ : ∃ q, rs[r]? = some q := ⟨rs[r], List.getElem?_eq_getElem hrl⟩
    have hT1 := hT.fw fw
    have hr1 := hr.fw fw
    have htk := take_fold (bt := btS W z (cnS z sk) (lsS f hold z wr md h0) s0 s) hq
    rw [wp_bnd, wp_rdI, hr1.1]
    refine ⟨rfl, ?_⟩
    rw [wp_if]
    refine ⟨fun q => absurd q (nI_ge hrl (by omega)), fun _ => ?_⟩
    rw [wp_jn1]
    refine c_val hT1 hr1 hpt hq hs he hwk hs3 (fun τ2 fw2 hwk2 => ?_)
    have take : bst (btS W z (cnS z sk) (lsS f hold z wr md h0) s0 s) ((rs.take r).foldl (bst (btS W z (cnS z sk) (lsS f hold z wr md h0) s0 s)) none) q = some q → wp (sa_let ((nI r + 1) : Int32) fun x11 => j (nI r) (vIS W z (cnS z sk) (lsS f hold z wr md h0) s0 s q) x11) τ2 Q := fun e => by
      rw [wp_let, nI_1]
      exact hj _ _ _ ⟨fw.trans fw2, hwk2, Or.inr ⟨r, q, hq, rfl, rfl, by rw [htk]; exact e⟩⟩
    rw [wp_jn2, wp_jn0, wp_if]
    refine ⟨fun e => ?_, fun e => ?_⟩
    · have e0 : r = 0 := by
        rw [L0, nI_eq (by omega) (by omega)] at e
        exact e
      refine take ?_
      subst e0
      rfl
    · rcases hb with hb | ⟨b, qb, hqb, rfl, rfl, hf⟩
      · exact absurd (show nI r = 0 by rw [hb]; rfl) e
      · have h8 := (hpt r q hq).2.1
        have h8b := (hpt b qb hqb).2.1
        rw [hf] at take htk
        rw [wp_if, vIS_le hz h8 h8b hs]
        refine ⟨fun e2 => ?_, fun e2 => ?_⟩
        · rw [wp_let, nI_1]
          refine hj _ _ _ ⟨fw.trans fw2, hwk2, Or.inr ⟨b, qb, hqb, rfl, rfl, ?_⟩⟩
          rw [htk]
          show (if btS W z (cnS z sk) (lsS f hold z wr md h0) s0 s q qb = true then some q else some qb) = _
          rw [e2]
          rfl
        · refine take ?_
          show (if btS W z (cnS z sk) (lsS f hold z wr md h0) s0 s q qb = true then some q else some qb) = _
          rw [if_pos (by simpa using e2)]
  · rintro a c τ ⟨fw, hwk, hb⟩ j
    rw [wp_bnd, wp_rdI, (hr.fw fw).1]
    refine ⟨rfl, ?_⟩
    rw [wp_if]
    refine ⟨fun _ => ?_, fun q => absurd (nI_le (Nat.le_refl _) (by omega)) q⟩
    rw [wp_ret]
    rcases hb with hb | ⟨b, qb, hqb, rfl, rfl, hf⟩
    · omega
    · rw [List.take_length] at hf
      exact hQ b qb τ hqb hf fw hwk
/-- the worst place of a row, and its mean -/
def Wrs (m0 : Nat) (m : Nat → Nat) (q : List Nat) (k l : Nat) (w : Option Nat) : Prop := (w = none ∧ l = m0 ∧ ∀ j, 1 ≤ j → j < k → m0 ≤ m j) ∨ ∃ i, 1 ≤ i ∧ i < k ∧ w = some (q.getD i 0) ∧ l = m i ∧ m i < m0 ∧ ∀ j, 1 ≤ j → j < k → m i ≤ m j ∧ (m j = m i → q.getD i 0 ≤ q.getD j 0)
theorem Wrs.uniq {m0 l l2 k : Nat} {m : Nat → Nat} {w w2 : Option Nat} (h : Wrs m0 m q k l w) (h2 : Wrs m0 m q k l2 w2) : w = w2 := by
  rcases h with ⟨rfl, rfl, h⟩ | ⟨i, i1, ik, rfl, rfl, hl, h⟩
  · rcases h2 with ⟨rfl, -, -⟩ | ⟨j, j1, jk, rfl, rfl, hl, -⟩
    · rfl
    · have := h j j1 jk
      omega
  · rcases h2 with ⟨rfl, rfl, h2⟩ | ⟨j, j1, jk, rfl, rfl, hl2, h2⟩
    · have := h2 i i1 ik
      omega
    · have a1 := h j j1 jk
      have a2 := h2 i i1 ik
      have e : m i = m j := by omega
      have b1 := a1.2 e.symm
      have b2 := a2.2 e
      rw [show q.getD i 0 = q.getD j 0 by omega]
theorem c_worst (hT : TV L P W F n f z hold sk wr md h0 σ) (hr : TR rs σ) (hpt : ∀ (i : Nat) (q : List Nat), rs[i]? = some q → Pa P W z a0 to q) (hq : rs[row]? = some q) (hs : zc_sm 100 s0.1 = AL) (he : s0.2 ≤ 12) (hw : WKC W z (cnS z sk) (lsS f hold z wr md h0) rs s0 σ) (hQ : ∀ τ l w, FW σ τ → Wrs (vMn W z (cnS z sk) (lsS f hold z wr md h0) s0 none q) (fun i => vMn W z (cnS z sk) (lsS f hold z wr md h0) s0 (some (q.getD i 0)) q) q q.length l w → Q (oI w) τ) : wp (f_X9_worstPlace 136 (nI row)) σ Q := by
  have hr2 := hr.2.1
  have l1 := lt_of_some hq
  have hpa := hpt row q hq
  have p1 := hpa.1
  have p8 := hpa.2.1
  have P8 := hT.1.zr.1.1
  unfold f_X9_worstPlace
  rw [wp_gd]
  refine ⟨rfl, ?_⟩
  rw [wp_bnd]
  refine c_meanOf hT hr hpt hq hs he hw (fun τ fw0 h15 wk => ?_)
  have fw := fw0.1
  have hT1 := hT.fw fw
  have hr1 := hr.fw fw
  have bm : ∀ am, vMn W z (cnS z sk) (lsS f hold z wr md h0) s0 am q ≤ 99000 := fun am => vMn_bd hs
  rw [wp_let, wp_let]
  refine wp_for3 q.length 1 (fun i a c υ => 1 ≤ i ∧ CF 150 τ υ ∧ ∃ l w, l ≤ 99000 ∧ (∀ x, w = some x → x < 8) ∧ a = nI l ∧ c = oI w ∧ Wrs (vMn W z (cnS z sk) (lsS f hold z wr md h0) s0 none q) (fun i => vMn W z (cnS z sk) (lsS f hold z wr md h0) s0 (some (q.getD i 0)) q) q i l w) ?_ ?_ ⟨Nat.le_refl 1, CF.rfl', _, none, bm none, (fun x hx => by cases hx), rfl, rfl, Or.inl ⟨rfl, rfl, fun j h1 h2 => by omega⟩⟩ p1 (by unfold sa_F; omega)
  · rintro i a c υ hi ⟨i1, hc, l, w, hl, hw8, rfl, rfl, hwr⟩ j hj
    obtain ⟨x, rfl⟩ : ∃ x, i = x + 1 := ⟨i - 1, by omega⟩
    have hT2 := hT1.cf hc (by omega)
    have hr3 := hr1.cf hc
    have b2 := bm (some (q.getD (x + 1) 0))
    have hpx := hpa.2.2.2.2.1 (x + 1) hi
    rw [wp_bnd, wp_rdR (v := 138) rfl (sk_136_11 hT2.1.1), wp_bnd, wp_ldI (n := row) (len := 200) al_138 rfl (by omega) (by omega), (hr3.2.2 row q hq).1, wp_if]
    refine ⟨fun q => absurd q (nI_ge hi (by omega)), fun _ => ?_⟩
    rw [wp_bnd]
    refine c_ambAt hT2 hr3 hpt hq hs he (wk.cf hc p8) hi (fun υ2 hc2 => ?_)
    rw [wp_bnd, wp_of_eq (e_pOf (hT2.cf hc2 (by omega)).1.1 (hr3.cf hc2) hq hi p8)]
    have keep : Wrs (vMn W z (cnS z sk) (lsS f hold z wr md h0) s0 none q) (fun i => vMn W z (cnS z sk) (lsS f hold z wr md h0) s0 (some (q.getD i 0)) q) q (x + 1 + 1) l w → wp (sa_let ((nI (x + 1) + 1) : Int32) fun x13 => j (nI l) (oI w) x13) υ2 Q := fun e => by
      rw [wp_let, nI_1]
      exact hj _ _ _ ⟨by omega, hc.trans hc2, l, w, hl, hw8, rfl, rfl, e⟩
    have take : Wrs (vMn W z (cnS z sk) (lsS f hold z wr md h0) s0 none q) (fun i => vMn W z (cnS z sk) (lsS f hold z wr md h0) s0 (some (q.getD i 0)) q) q (x + 1 + 1) (vMn W z (cnS z sk) (lsS f hold z wr md h0) s0 (some (q.getD (x + 1) 0)) q) (some (q.getD (x + 1) 0)) → wp (sa_let ((nI (x + 1) + 1) : Int32) fun x13 => j (nI (vMn W z (cnS z sk) (lsS f hold z wr md h0) s0 (some (q.getD (x + 1) 0)) q)) (nI (q.getD (x + 1) 0)) x13) υ2 Q := fun e => by
      rw [wp_let, nI_1]
      exact hj _ _ _ ⟨by omega, hc.trans hc2, _, _, b2, (fun y hy => by cases hy; omega), rfl, rfl, e⟩
    have hm : (fun i => vMn W z (cnS z sk) (lsS f hold z wr md h0) s0 (some (q.getD i 0)) q) (x + 1) = vMn W z (cnS z sk) (lsS f hold z wr md h0) s0 (some (q.getD (x + 1) 0)) q := rfl
    generalize hm0 : vMn W z (cnS z sk) (lsS f hold z wr md h0) s0 none q = m0 at *
    generalize hmm : (fun i => vMn W z (cnS z sk) (lsS f hold z wr md h0) s0 (some (q.getD i 0)) q) = m at *
    rw [← hm] at b2 take ⊢
    rw [wp_jn2, wp_jn0, wp_if, nI_ltI (by omega) (by omega)]
    refine ⟨fun h => ?_, fun h => ?_⟩
    · refine take (Or.inr ⟨x + 1, by omega, by omega, rfl, rfl, ?_, fun y y1 yk => ?_⟩)
      · rcases hwr with ⟨-, rfl, -⟩ | ⟨i, -, -, -, rfl, hlt, -⟩ <;> omega
      · by_cases ey : y = x + 1
        · subst ey; exact ⟨Nat.le_refl _, fun _ => Nat.le_refl _⟩
        · rcases hwr with ⟨-, rfl, g⟩ | ⟨i, -, -, -, rfl, hlt, g⟩
          · have := g y y1 (by omega); exact ⟨by omega, fun _ => by omega⟩
          · have := (g y y1 (by omega)).1; exact ⟨by omega, fun _ => by omega⟩
    · rw [wp_if, nI_eq (by omega) (by omega)]
      refine ⟨fun h2 => ?_, fun h2 => ?_⟩
      · refine keep ?_
        rcases hwr with ⟨rfl, rfl, g⟩ | ⟨i, i1, ik, rfl, rfl, hlt, g⟩
        · refine Or.inl ⟨rfl, rfl, fun y y1 yk => ?_⟩
          by_cases ey : y = x + 1
          · subst ey; omega
          · exact g y y1 (by omega)
        · refine Or.inr ⟨i, i1, by omega, rfl, rfl, hlt, fun y y1 yk => ?_⟩
          by_cases ey : y = x + 1
          · subst ey; exact ⟨by omega, fun e => by omega⟩
          · exact g y y1 (by omega)
      · have h3 : m (x + 1) = l := Decidable.not_not.mp h2
        rw [wp_if]
        refine ⟨fun h4 => ?_, fun h4 => ?_⟩
        · refine keep ?_
          rcases hwr with ⟨rfl, rfl, g⟩ | ⟨i, i1, ik, rfl, rfl, hlt, g⟩
          · refine Or.inl ⟨rfl, rfl, fun y y1 yk => ?_⟩
            by_cases ey : y = x + 1
            · subst ey; omega
            · exact g y y1 (by omega)
          · have h5 : q.getD i 0 ≤ q.getD (x + 1) 0 := by
              have g8 := hw8 _ rfl
              have h4' : nI (q.getD i 0) ≤ nI (q.getD (x + 1) 0) := h4
              rw [nI_leI (by omega) (by omega)] at h4'
              exact h4'
            refine Or.inr ⟨i, i1, by omega, rfl, rfl, hlt, fun y y1 yk => ?_⟩
            by_cases ey : y = x + 1
            · subst ey; exact ⟨by omega, fun _ => h5⟩
            · exact g y y1 (by omega)
        · refine take ?_
          rcases hwr with ⟨rfl, rfl, g⟩ | ⟨i, i1, ik, rfl, rfl, hlt, g⟩
          · exact absurd (show oI none ≤ nI (q.getD (x + 1) 0) by show mI ≤ _; rw [mI_le (by omega)]; trivial) h4
          · have h5 : ¬ q.getD i 0 ≤ q.getD (x + 1) 0 := fun h6 => h4 (by
              have g8 := hw8 _ rfl
              show nI (q.getD i 0) ≤ nI (q.getD (x + 1) 0)
              rw [nI_leI (by omega) (by omega)]
              exact h6)
            refine Or.inr ⟨x + 1, by omega, by omega, rfl, rfl, by omega, fun y y1 yk => ?_⟩
            by_cases ey : y = x + 1
            · subst ey; exact ⟨Nat.le_refl _, fun _ => Nat.le_refl _⟩
            · have g9 := g y y1 (by omega)
              exact ⟨by omega, fun e => by have := g9.2 (by omega); omega⟩
  · rintro a c υ ⟨-, hc, l, w, hl, hw8, rfl, rfl, hwr⟩ j
    rw [wp_bnd, wp_rdR (v := 138) rfl (sk_136_11 (hT1.cf hc (by omega)).1.1), wp_bnd, wp_ldI (n := row) (len := 200) al_138 rfl (by omega) (by omega), ((hr1.cf hc).2.2 row q hq).1, wp_if]
    refine ⟨fun _ => ?_, fun q => absurd (nI_le (Nat.le_refl _) (by omega)) q⟩
    rw [wp_ret]
    exact hQ υ l w (fw.trans (hc.fw (by omega))) hwr
end CBEST
