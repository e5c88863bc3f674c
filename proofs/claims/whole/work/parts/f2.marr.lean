/-! JOURNEYS, by the reference: a path that has come to its end -/
def NF (n : Nat) (f : Nat → LWt) (σ τ : sa_St) : Prop := (∀ a b, ¬ (a = 159 ∧ b = 5) → τ.2.1 a b = σ.2.1 a b) ∧ (∀ j, j ∉ [159, 163, 175, 176, 183, 184] → τ.1 j = σ.1 j) ∧ (∀ k, ¬ isPF k → (k < 53 ∨ 61 < k) → τ.1 159 k = σ.1 159 k) ∧ MemoR n f (τ.2.2 175) (τ.1 176)
theorem nm_N (j : Nat) (h : j ≠ 159 ∧ j ≠ 163 ∧ j ≠ 175 ∧ j ≠ 176 ∧ j ≠ 183 ∧ j ≠ 184) : j ∉ [159, 163, 175, 176, 183, 184] := by
  simp only [List.mem_cons, List.not_mem_nil, or_false]
  omega
def AF (n : Nat) (f : Nat → LWt) (σ τ : sa_St) : Prop := NF n f σ τ ∧ τ.1 159 53 = σ.1 159 53 ∧ τ.1 159 54 = σ.1 159 54 ∧ τ.1 183 = σ.1 183
section NFS
variable {L P W F n : Nat} {f : Nat → LWt} {z : Nat → Int32} {hold : Int32} {sk : Nat → Nat → Int32} {k wl : Nat → Int32} {σ τ υ : sa_St}
theorem NF.trans (h : NF n f σ τ) (h2 : NF n f τ υ) : NF n f σ υ := ⟨fun a b c => (h2.1 a b c).trans (h.1 a b c), fun j a => (h2.2.1 j a).trans (h.2.1 j a), fun k a b => (h2.2.2.1 k a b).trans (h.2.2.1 k a b), h2.2.2.2⟩
theorem NF.refl (hM : MemoR n f (σ.2.2 175) (σ.1 176)) : NF n f σ σ := ⟨fun _ _ _ => rfl, fun _ _ => rfl, fun _ _ _ => rfl, hM⟩
theorem MF.nf (h : MF n f σ τ) : NF n f σ τ := ⟨h.1, fun j hj => h.2.1 j (nm_M j (by simp only [List.mem_cons, List.not_mem_nil, or_false] at hj; omega)), fun k a b => h.2.2.1 k a (by omega) (by omega), h.2.2.2⟩
theorem NF.up {k : Nat} {v : Int32} (h : NF n f σ τ) (hk : 53 ≤ k ∧ k ≤ 61) : NF n f σ (sa_upI τ 159 k v) := by
  refine ⟨h.1, fun j hj => ?_, fun k2 a b => ?_, ?_⟩
  · rw [upI_ne (fun e => hj (by rw [e]; decide))]
    exact h.2.1 j hj
  · rw [upI_self, va_up_ne _ _ (by omega)]
    exact h.2.2.1 k2 a b
  · rw [upI_ne (by omega)]
    exact h.2.2.2
theorem NF.upP {R k : Nat} {v : Int32} (h : NF n f σ τ) (hR : R = 183 ∨ R = 184) : NF n f σ (sa_upI τ R k v) := by
  refine ⟨h.1, fun j hj => ?_, fun k2 a b => ?_, ?_⟩
  · rw [upI_ne (fun e => hj (by rcases hR with h | h <;> rw [e, h] <;> decide))]
    exact h.2.1 j hj
  · rw [upI_ne (by omega)]
    exact h.2.2.1 k2 a b
  · rw [upI_ne (by omega)]
    exact h.2.2.2
theorem NF.dn (h : NF n f σ τ) : Dn [0, 9] σ τ := by
  refine ⟨fun a b g _ => h.1 a b g, fun a k g => ?_⟩
  by_cases e : a = 159
  · subst e
    by_cases e2 : isPF k
    · rw [isPF_0 e2] at g; cases g
    · by_cases e3 : k < 53 ∨ 61 < k
      · exact h.2.2.1 k e2 e3
      · have e4 : k = 53 ∨ k = 54 ∨ k = 55 ∨ k = 56 ∨ k = 57 ∨ k = 58 ∨ k = 59 ∨ k = 60 ∨ k = 61 := by omega
        rcases e4 with rfl | rfl | rfl | rfl | rfl | rfl | rfl | rfl | rfl <;> cases g
  · by_cases e1 : a ∈ [159, 163, 175, 176, 183, 184]
    · simp only [List.mem_cons, List.not_mem_nil, or_false] at e1
      rcases e1 with rfl | rfl | rfl | rfl | rfl | rfl
      · exact absurd rfl e
      all_goals cases g
    · rw [h.2.1 a e1]
theorem MV.nf (h : MV L P W F n f z hold sk k wl σ) (hf : NF n f σ τ) : MV L P W F n f z hold sk k wl τ := by
  obtain ⟨g1, g2, ns, g3, g4, g5⟩ := h
  refine ⟨g1.dn hf.dn rfl rfl hf.2.2.2, by rw [hf.2.1 173 (nm_N 173 (by omega))]; exact g2, ns, g3, by rw [hf.2.2.1 48 (pf_no (by omega)) (by omega)]; exact g4, fun p h => ?_⟩
  rw [hf.2.1 178 (nm_N 178 (by omega)), hf.2.1 179 (nm_N 179 (by omega)), hf.2.1 180 (nm_N 180 (by omega))]
  exact g5 p h
theorem AF.trans (h : AF n f σ τ) (h2 : AF n f τ υ) : AF n f σ υ := ⟨h.1.trans h2.1, h2.2.1.trans h.2.1, h2.2.2.1.trans h.2.2.1, h2.2.2.2.trans h.2.2.2⟩
theorem MF.af (h : MF n f σ τ) : AF n f σ τ := ⟨h.nf, h.2.2.1 53 (pf_no (by omega)) (by omega) (by omega), h.2.2.1 54 (pf_no (by omega)) (by omega) (by omega), h.2.1 183 (nm_M 183 (by omega))⟩
theorem AF.up {k : Nat} {v : Int32} (h : AF n f σ τ) (hk : 55 ≤ k ∧ k ≤ 61) : AF n f σ (sa_upI τ 159 k v) := ⟨h.1.up (by omega), by rw [upI_self, va_up_ne _ _ (by omega)]; exact h.2.1, by rw [upI_self, va_up_ne _ _ (by omega)]; exact h.2.2.1, by rw [upI_ne (by omega)]; exact h.2.2.2⟩
theorem AF.upP {k : Nat} {v : Int32} (h : AF n f σ τ) : AF n f σ (sa_upI τ 184 k v) := ⟨h.1.upP (Or.inr rfl), by rw [upI_ne (by omega)]; exact h.2.1, by rw [upI_ne (by omega)]; exact h.2.2.1, by rw [upI_ne (by omega)]; exact h.2.2.2⟩
theorem AF.refl (hM : MemoR n f (σ.2.2 175) (σ.1 176)) : AF n f σ σ := ⟨NF.refl hM, rfl, rfl, rfl⟩
end NFS
section BTS
variable {W : Nat} {z : Nat → Int32} {cn : CNf} {ls : LSf} {s0 : (Nat → Nat) × Nat} {q o : List Nat}
theorem vlS_3 : vlS W z cn ls s0 3 q = vLs W z cn ls s0 q (q.length - 1) := by
  unfold vlS
  rw [if_neg (by omega), if_neg (by omega), if_neg (by omega)]
theorem vlS_2 : vlS W z cn ls s0 2 q = vHr W z q := by
  unfold vlS
  rw [if_neg (by omega), if_neg (by omega), if_pos rfl]
theorem vlS_1 : vlS W z cn ls s0 1 q = vSu W z cn ls s0 q := by
  unfold vlS
  rw [if_neg (by omega), if_pos rfl]
theorem vlS_0 : vlS W z cn ls s0 0 q = vMn W z cn ls s0 none q := by
  unfold vlS
  rw [if_pos rfl]
theorem btS_3 : btS W z cn ls s0 3 q o = decide (vLs W z cn ls s0 o (o.length - 1) < vLs W z cn ls s0 q (q.length - 1)) := by
  unfold btS
  rw [if_neg (by omega), vlS_3, vlS_3]
theorem btS_2 : btS W z cn ls s0 2 q o = decide (vHr W z q < vHr W z o) := by
  unfold btS
  rw [if_pos rfl, vlS_2, vlS_2]
theorem btS_1 : btS W z cn ls s0 1 q o = decide (vSu W z cn ls s0 o < vSu W z cn ls s0 q) := by
  unfold btS
  rw [if_neg (by omega), vlS_1, vlS_1]
theorem btS_0 : btS W z cn ls s0 0 q o = decide (vMn W z cn ls s0 none o < vMn W z cn ls s0 none q) := by
  unfold btS
  rw [if_neg (by omega), vlS_0, vlS_0]
theorem vLs_0 : vLs W z cn ls s0 q 0 = vMn W z cn ls s0 none q := rfl
theorem vLs_s {i : Nat} : vLs W z cn ls s0 q (i + 1) = min (vLs W z cn ls s0 q i) (vMn W z cn ls s0 (some (q.getD (i + 1) 0)) q) := rfl
theorem bst_s {bt : List Nat → List Nat → Bool} : bst bt (some o) q = if bt q o = true then some q else some o := rfl
end BTS
section MARR
variable {L P W F n : Nat} {f : Nat → LWt} {z : Nat → Int32} {hold : Int32} {sk : Nat → Nat → Int32} {k wl : Nat → Int32} {σ : sa_St} {wr md h0 c a0 to g s : Nat} {q : List Nat}
/-- the best journey so far, and how many there were -/
def RB (P W : Nat) (z : Nat → Int32) (cn : CNf) (ls : LSf) (s0 : (Nat → Nat) × Nat) (a0 to s : Nat) (B : Nat × Option (List Nat)) (σ : sa_St) : Prop := σ.1 159 59 = nI B.1 ∧ match B.2 with
  | none => σ.1 159 55 = nI 0
  | some o => Pa P W z a0 to o ∧ σ.1 159 55 = nI o.length ∧ (∀ j, j < o.length → σ.1 184 j = nI (o.getD j 0)) ∧ σ.1 159 56 = nI (vHr W z o) ∧ σ.1 159 57 = nI (if s = 3 then vLs W z cn ls s0 o (o.length - 1) else vMn W z cn ls s0 none o) ∧ (s ≠ 3 → σ.1 159 58 = nI (vSu W z cn ls s0 o))
theorem RB.of {τ : sa_St} {cn : CNf} {ls : LSf} {s0 : (Nat → Nat) × Nat} {B : Nat × Option (List Nat)} (h : RB P W z cn ls s0 a0 to s B σ) (h59 : τ.1 159 59 = σ.1 159 59) (h1 : ∀ k, 55 ≤ k → k ≤ 58 → τ.1 159 k = σ.1 159 k) (h2 : τ.1 184 = σ.1 184) : RB P W z cn ls s0 a0 to s B τ := by
  obtain ⟨g1, g2⟩ := h
  refine ⟨h59.trans g1, ?_⟩
  cases hB : B.2 with
  | none =>
    rw [hB] at g2
    exact (h1 55 (by omega) (by omega)).trans g2
  | some o =>
    rw [hB] at g2
    obtain ⟨a, b, c, d, e, f⟩ := g2
    refine ⟨a, (h1 55 (by omega) (by omega)).trans b, fun j hj => by rw [h2]; exact c j hj, (h1 56 (by omega) (by omega)).trans d, (h1 57 (by omega) (by omega)).trans e, fun hs => (h1 58 (by omega) (by omega)).trans (f hs)⟩
theorem RB.mf {τ : sa_St} {cn : CNf} {ls : LSf} {s0 : (Nat → Nat) × Nat} {B : Nat × Option (List Nat)} (h : RB P W z cn ls s0 a0 to s B σ) (hf : MF n f σ τ) : RB P W z cn ls s0 a0 to s B τ := h.of (hf.2.2.1 59 (pf_no (by omega)) (by omega) (by omega)) (fun k a b => hf.2.2.1 k (pf_no (by omega)) (by omega) (by omega)) (hf.2.1 184 (nm_M 184 (by omega)))
/-- the path that is gone stands in its row -/
def PR (W : Nat) (z : Nat → Int32) (q : List Nat) (σ : sa_St) : Prop := σ.1 159 53 = nI q.length ∧ σ.1 159 54 = nI (phr W z q (q.length - 1)) ∧ ∀ j, j < q.length → σ.1 183 j = nI (q.getD j 0)
theorem PR.af {τ : sa_St} (h : PR W z q σ) (hf : AF n f σ τ) : PR W z q τ := by
  refine ⟨hf.2.1.trans h.1, hf.2.2.1.trans h.2.1, fun j hj => ?_⟩
  rw [hf.2.2.2]
  exact h.2.2 j hj
theorem m_takes {d : Nat → Nat} {Q : Unit → sa_St → Prop} (hV : MV L P W F n f z hold sk k wl σ) (hpr : PR W z q σ) (hpa : Pa P W z a0 to q) (hd : ∀ x, x < 100 → σ.2.2 181 x = lN (d x)) (hs : zc_sm 100 d = AL) (hQ : ∀ τ, AF n f σ τ → τ.1 159 59 = σ.1 159 59 → τ.1 159 55 = nI q.length → (∀ j, j < q.length → τ.1 184 j = nI (q.getD j 0)) → τ.1 159 56 = nI (vHr W z q) → τ.1 159 57 = nI (mnD d) → τ.1 159 58 = nI (suD d) → Q () τ) : wp (f_X12_takesPath 159) σ Q := by
  obtain ⟨p1, p8, -⟩ := hpa
  unfold f_X12_takesPath
  rw [wp_gd]
  refine ⟨rfl, ?_⟩
  rw [wp_let]
  refine wp_for1 q.length 0 (fun i τ => AF n f σ τ ∧ τ.1 159 = σ.1 159 ∧ τ.2 = σ.2 ∧ ∀ j, j < i → τ.1 184 j = nI (q.getD j 0)) ?_ ?_ ⟨AF.refl hV.1.memo, rfl, rfl, fun j hj => by omega⟩ (Nat.zero_le _) (by unfold sa_F; omega)
  · rintro i τ hi ⟨af, h159, h2, hrow⟩ j hj
    have hV1 := hV.nf af.1
    have hk1 := hV1.1.1
    have hpr1 := hpr.af af
    rw [wp_bnd, wp_rdI, hpr1.1]
    refine ⟨rfl, ?_⟩
    rw [wp_if]
    refine ⟨fun q => absurd q (nI_ge hi (by omega)), fun _ => ?_⟩
    rw [wp_bnd, wp_rdR (v := 184) rfl (sk_159_52 hk1), wp_bnd, wp_rdR (v := 183) rfl (sk_159_51 hk1), wp_bnd, wp_ldI (n := i) (len := 9) al_183 rfl (by omega) (by omega), hpr1.2.2 i hi, wp_bnd, wp_stI (n := i) (len := 9) al_184 rfl (by omega) (by omega), wp_let, nI_1]
    refine hj _ ⟨af.upP, by rw [upI_ne (by omega)]; exact h159, h2, fun x hx => ?_⟩
    rw [upI_self]
    by_cases e : x = i
    · subst e; rw [va_up_self]
    · rw [va_up_ne _ _ e]; exact hrow x (by omega)
  · rintro τ ⟨af, h159, h2, hrow⟩ j
    have hV1 := hV.nf af.1
    have hk1 := hV1.1.1
    have hpr1 := hpr.af af
    have hd1 : ∀ x, x < 100 → τ.2.2 181 x = lN (d x) := fun x hx => by rw [h2]; exact hd x hx
    rw [wp_bnd, wp_rdI, hpr1.1]
    refine ⟨rfl, ?_⟩
    rw [wp_if]
    refine ⟨fun _ => ?_, fun q => absurd (nI_le (Nat.le_refl _) (by omega)) q⟩
    rw [wp_bnd, wp_rdI, hpr1.1]
    refine ⟨rfl, ?_⟩
    rw [wp_bnd, wp_wrI]
    refine ⟨rfl, ?_⟩
    rw [wp_bnd, wp_rdI, upI_self, va_up_ne _ _ (by omega), hpr1.2.1]
    refine ⟨rfl, ?_⟩
    rw [wp_bnd, wp_wrI]
    refine ⟨rfl, ?_⟩
    rw [wp_bnd, wp_of_eq (m_mean (σ := sa_upI (sa_upI τ 159 55 (nI q.length)) 159 56 (nI (phr W z q (q.length - 1)))) hk1 hd1 hs), wp_bnd, wp_wrI]
    refine ⟨rfl, ?_⟩
    rw [wp_bnd, wp_of_eq (m_sure (σ := sa_upI (sa_upI (sa_upI τ 159 55 (nI q.length)) 159 56 (nI (phr W z q (q.length - 1)))) 159 57 (nI (mnD d))) hk1 hd1 hs), wp_bnd, wp_wrI]
    refine ⟨rfl, ?_⟩
    rw [wp_ret]
    refine hQ _ ((((af.up (by omega)).up (by omega)).up (by omega)).up (by omega)) ?_ ?_ (fun j hj => ?_) ?_ ?_ ?_
    · simp (disch := omega) only [upI_self, va_up_ne]
      rw [h159]
    · simp (disch := omega) only [upI_self, va_up_ne, va_up_self]
    · simp (disch := omega) only [upI_ne]
      exact hrow j hj
    · simp (disch := omega) only [upI_self, va_up_ne, va_up_self]
      rfl
    · simp (disch := omega) only [upI_self, va_up_ne, va_up_self]
    · simp (disch := omega) only [upI_self, va_up_self]
theorem m_meanBy {R : Nat} {am : Option Nat} {Q : Int32 → sa_St → Prop} (hV : MV L P W F n f z hold sk k wl σ) (hsk : SkS sk) (hgo : Go k c wr md h0) (hg : k (23 + 7 * c + 2) = nI g) (hg9 : g < 100) (hpa : Pa P W z a0 to q) (hR : R = 183 ∨ R = 184) (hq : ∀ j, j < q.length → σ.1 R j = nI (q.getD j 0)) (ham : ∀ x, am = some x → x < 8) (hQ : ∀ τ, MF n f σ τ → (∀ x, x < 100 → τ.2.2 181 x = lN ((pv W z (cnS z sk) (lsS f hold z wr md h0) am q (st0 g, 0) (q.length - 1)).1 x)) → Q (nI (vMn W z (cnS z sk) (lsS f hold z wr md h0) (st0 g, 0) am q)) τ) : wp (f_X12_meanBy 159 (nI c) R (nI q.length) (oI am)) σ Q := by
  unfold f_X12_meanBy
  rw [wp_gd]
  refine ⟨rfl, ?_⟩
  rw [wp_bnd]
  refine m_begin hV hgo.1 hg hg9 (fun τ mf g60 g61 hrow => ?_)
  have hV1 := hV.mf mf
  rw [wp_bnd]
  refine m_path hV1 hsk hgo hpa hR (fun j hj => ?_) ham g60 g61 hrow (st0_sum hg9) (by omega) (fun τ2 mf2 hrow2 => ?_)
  · rw [mf.2.1 R (nm_M R (by omega))]
    exact hq j hj
  · have hsum := (pv_sum (W := W) (z := z) (cn := cnS z sk) (ls := lsS f hold z wr md h0) (am := am) (q := q) (s := (st0 g, 0)) (fun p e => cnS_le p e) (q.length - 1)).trans (st0_sum hg9)
    rw [wp_bnd, wp_of_eq (m_mean (hV1.mf mf2).1.1 hrow2 hsum), wp_ret]
    exact hQ τ2 (mf.trans mf2) hrow2
theorem m_looks {B : Nat × Option (List Nat)} {Q : Unit → sa_St → Prop} (hV : MV L P W F n f z hold sk k wl σ) (hsk : SkS sk) (hgo : Go k c wr md h0) (hg : k (23 + 7 * c + 2) = nI g) (hg9 : g < 100) (hpa : Pa P W z a0 to q) (hpr : PR W z q σ) (hrb : RB P W z (cnS z sk) (lsS f hold z wr md h0) (st0 g, 0) a0 to 3 B σ) (hQ : ∀ τ, AF n f σ τ → RB P W z (cnS z sk) (lsS f hold z wr md h0) (st0 g, 0) a0 to 3 (B.1, bst (btS W z (cnS z sk) (lsS f hold z wr md h0) (st0 g, 0) 3) B.2 q) τ → Q () τ) : wp (f_X12_looksAtAmbush 159 (nI c)) σ Q := by
  have hk := hV.1.1
  have P8 := hV.1.zr.1.1
  have p1 := hpa.1
  have p8 := hpa.2.1
  have pP := hpa.2.2.2.2.1
  have hs0 := st0_sum hg9
  have hlb : ∀ i, vLs W z (cnS z sk) (lsS f hold z wr md h0) (st0 g, 0) q i ≤ 99000 := vLs_bd hs0
  have hmb : ∀ am, vMn W z (cnS z sk) (lsS f hold z wr md h0) (st0 g, 0) am q ≤ 99000 := fun am => vMn_bd hs0
  have hsm : ∀ am, zc_sm 100 (pv W z (cnS z sk) (lsS f hold z wr md h0) am q (st0 g, 0) (q.length - 1)).1 = AL := fun am => (pv_sum (W := W) (z := z) (cn := cnS z sk) (ls := lsS f hold z wr md h0) (am := am) (q := q) (s := (st0 g, 0)) (fun p e => cnS_le p e) (q.length - 1)).trans hs0
  unfold f_X12_looksAtAmbush
  rw [wp_gd]
  refine ⟨rfl, ?_⟩
  rw [wp_bnd, wp_rdR (v := 183) rfl (sk_159_51 hk), wp_bnd, wp_rdI, hpr.1]
  refine ⟨rfl, ?_⟩
  rw [wp_bnd]
  refine m_meanBy (am := none) hV hsk hgo hg hg9 hpa (Or.inl rfl) hpr.2.2 (fun x hx => by cases hx) (fun τ mf hrow => ?_)
  rw [wp_let]
  refine wp_for2 q.length 1 (fun i a υ => 1 ≤ i ∧ MF n f σ υ ∧ a = nI (vLs W z (cnS z sk) (lsS f hold z wr md h0) (st0 g, 0) q (i - 1)) ∧ ∃ d, zc_sm 100 d = AL ∧ ∀ x, x < 100 → υ.2.2 181 x = lN (d x)) ?_ ?_ ⟨Nat.le_refl 1, mf, by rw [Nat.sub_self, vLs_0], _, hsm none, hrow⟩ p1 (by unfold sa_F; omega)
  · rintro i a υ hi ⟨i1, mf1, rfl, -⟩ j hj
    obtain ⟨y, rfl⟩ : ∃ y, i = y + 1 := ⟨i - 1, by omega⟩
    rw [show y + 1 - 1 = y by omega]
    have hV1 := hV.mf mf1
    have hk1 := hV1.1.1
    have hpr1 := hpr.af mf1.af
    have b1 := hlb y
    have b2 := hmb (some (q.getD (y + 1) 0))
    have py := pP (y + 1) hi
    rw [wp_bnd, wp_rdI, hpr1.1]
    refine ⟨rfl, ?_⟩
    rw [wp_if]
    refine ⟨fun q => absurd q (nI_ge hi (by omega)), fun _ => ?_⟩
    rw [wp_bnd, wp_rdR (v := 183) rfl (sk_159_51 hk1), wp_bnd, wp_rdI, hpr1.1]
    refine ⟨rfl, ?_⟩
    rw [wp_bnd, wp_rdR (v := 183) rfl (sk_159_51 hk1), wp_bnd, wp_ldI (n := y + 1) (len := 9) al_183 rfl (by omega) (by omega), hpr1.2.2 (y + 1) hi, wp_bnd]
    refine m_meanBy (am := some (q.getD (y + 1) 0)) hV1 hsk hgo hg hg9 hpa (Or.inl rfl) hpr1.2.2 (fun x hx => by cases hx; omega) (fun υ2 mf2 hrow2 => ?_)
    rw [wp_let, wp_let, nI_1, sa_minN (by omega) (by omega)]
    exact hj _ _ ⟨by omega, mf1.trans mf2, by rw [show y + 1 + 1 - 1 = y + 1 by omega, vLs_s], _, hsm (some (q.getD (y + 1) 0)), hrow2⟩
  · rintro a υ ⟨-, mf1, rfl, d, hds, hdr⟩ j
    have hV1 := hV.mf mf1
    have hpr1 := hpr.af mf1.af
    have hrb1 := hrb.mf mf1
    have b1 := hlb (q.length - 1)
    have take : bst (btS W z (cnS z sk) (lsS f hold z wr md h0) (st0 g, 0) 3) B.2 q = some q → wp (sa_bnd (f_X12_takesPath 159) fun _ => sa_bnd (sa_wrI 12 159 57 (nI (vLs W z (cnS z sk) (lsS f hold z wr md h0) (st0 g, 0) q (q.length - 1)))) fun _ => sa_ret ()) υ Q := fun e => by
      rw [wp_bnd]
      refine m_takes hV1 hpr1 hpa hdr hds (fun τ3 af3 h59 h55 h184 h56 h57 h58 => ?_)
      rw [wp_bnd, wp_wrI]
      refine ⟨rfl, ?_⟩
      rw [wp_ret]
      refine hQ _ ((mf1.af.trans af3).up (by omega)) ?_
      rw [e]
      refine ⟨?_, hpa, ?_, fun j hj => ?_, ?_, ?_, fun h => absurd rfl h⟩
      · rw [upI_self, va_up_ne _ _ (by omega), h59]
        exact hrb1.1
      · rw [upI_self, va_up_ne _ _ (by omega)]
        exact h55
      · rw [upI_ne (by omega)]
        exact h184 j hj
      · rw [upI_self, va_up_ne _ _ (by omega)]
        exact h56
      · rw [upI_self, va_up_self, if_pos rfl]
    rw [wp_bnd, wp_rdI, hpr1.1]
    refine ⟨rfl, ?_⟩
    rw [wp_if]
    refine ⟨fun _ => ?_, fun q => absurd (nI_le (Nat.le_refl _) (by omega)) q⟩
    obtain ⟨cn, b⟩ := B
    cases b with
    | none =>
      have h55 : υ.1 159 55 = nI 0 := hrb1.2
      rw [wp_bnd, wp_rdI, h55]
      refine ⟨rfl, ?_⟩
      rw [wp_jn0, wp_if]
      refine ⟨fun _ => take rfl, fun q => absurd (show nI 0 ≤ 0 by decide) q⟩
    | some o =>
      obtain ⟨hpo, h55, -, -, h57, -⟩ := hrb1.2
      have o1 := hpo.1
      have o8 := hpo.2.1
      rw [if_pos rfl] at h57
      have b3 := vLs_bd (W := W) (z := z) (sk := sk) (f := f) (hold := hold) (wr := wr) (md := md) (h0 := h0) (s0 := (st0 g, 0)) (q := o) hs0 (o.length - 1)
      have hbb : bst (btS W z (cnS z sk) (lsS f hold z wr md h0) (st0 g, 0) 3) (some o) q = if decide (vLs W z (cnS z sk) (lsS f hold z wr md h0) (st0 g, 0) o (o.length - 1) < vLs W z (cnS z sk) (lsS f hold z wr md h0) (st0 g, 0) q (q.length - 1)) = true then some q else some o := by rw [bst_s, btS_3]
      rw [wp_bnd, wp_rdI, h55]
      refine ⟨rfl, ?_⟩
      rw [wp_jn0, wp_if]
      refine ⟨fun q => absurd q (nI_nle (by omega) (by omega)), fun _ => ?_⟩
      rw [wp_bnd, wp_rdI, h57]
      refine ⟨rfl, ?_⟩
      rw [wp_if, nI_ltI (by omega) (by omega)]
      refine ⟨fun h => ?_, fun h => ?_⟩
      · refine take ?_
        rw [hbb, if_pos (decide_eq_true h)]
      · rw [wp_ret]
        refine hQ υ mf1.af ?_
        rw [hbb, if_neg (by rw [decide_eq_true_iff]; exact h)]
        exact hrb1
end MARR
