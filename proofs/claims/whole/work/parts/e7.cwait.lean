/-! JOURNEYS, by the class: the best wait -/
theorem wp_fillL {id len : Nat} {v : Int64} {σ : sa_St} {Q : Unit → sa_St → Prop} (hal : sa_al .long id = len) (h0 : 0 < len) (hl : len < 100000) (hQ : ∀ f : Nat → Int64, (∀ j, j < len → f j = v) → Q () (σ.1, σ.2.1, va_up σ.2.2 id f)) : wp (f_J7_fill_d0a16 id v) σ Q := by
  unfold f_J7_fill_d0a16
  rw [wp_let, wp_bnd, wp_of_eq (show sa_len .long id σ = some (nI len, σ) from by unfold sa_len; rw [hal, if_neg (by omega)])]
  refine wp_for1 (Q := Q) len 0 (fun i τ => ∃ f : Nat → Int64, τ = (σ.1, σ.2.1, va_up σ.2.2 id f) ∧ (∀ j, j < i → f j = v)) ?_ ?_ ⟨σ.2.2 id, ?_, fun j hj => by omega⟩ (Nat.zero_le _) (by unfold sa_F; omega)
  · rintro i τ hi ⟨f, rfl, hf1⟩ k hk
    rw [wp_if]
    refine ⟨fun h => absurd h (nI_ge hi (by omega)), fun _ => ?_⟩
    rw [wp_bnd, wp_stL hal rfl hi (by omega), wp_let, nI_1]
    refine hk _ ⟨va_up f i v, ?_, fun j hj => ?_⟩
    · unfold sa_upL
      refine Prod.ext rfl (Prod.ext rfl ?_)
      show va_up (va_up σ.2.2 id f) id (va_up (va_up σ.2.2 id f id) i v) = va_up σ.2.2 id (va_up f i v)
      rw [va_up_self, va_up_two]
    · by_cases h : j = i
      · subst h; exact va_up_self _ _ _
      · rw [va_up_ne _ _ h]; exact hf1 j (by omega)
  · rintro τ ⟨f, rfl, hf1⟩ k
    rw [wp_if]
    refine ⟨fun _ => ?_, fun h => absurd (nI_le (Nat.le_refl len) (by omega)) h⟩
    rw [wp_ret]
    exact hQ f hf1
  · refine Prod.ext rfl (Prod.ext rfl ?_)
    funext j
    show _ = va_up σ.2.2 id (σ.2.2 id) j
    by_cases h : j = id
    · subst h; rw [va_up_self]
    · rw [va_up_ne _ _ h]
def wDs (cn : CNf) (ls : LSf) (rf : Bool) (a0 g : Nat) : Nat → Nat → Nat
  | 0 => st0 g
  | k + 1 => if rf then wDs cn ls rf a0 g k else rnD (cn a0 k) (ls a0 k) (wDs cn ls rf a0 g k) 99
def bwt (v : Nat → Nat) : Nat → Nat × Nat
  | 0 => (0, v 0)
  | k + 1 => if v (k + 1) ≤ (bwt v k).2 then bwt v k else (k + 1, v (k + 1))
theorem bwt_le {v : Nat → Nat} {B : Nat} (h : ∀ k, v k ≤ B) : ∀ k, (bwt v k).1 ≤ k ∧ (bwt v k).2 ≤ B := by
  intro k
  induction k with
  | zero => exact ⟨Nat.le_refl _, h 0⟩
  | succ k ih =>
    show (if v (k + 1) ≤ (bwt v k).2 then bwt v k else (k + 1, v (k + 1))).1 ≤ k + 1 ∧ (if v (k + 1) ≤ (bwt v k).2 then bwt v k else (k + 1, v (k + 1))).2 ≤ B
    split
    · exact ⟨by omega, ih.2⟩
    · exact ⟨Nat.le_refl _, h (k + 1)⟩
theorem wDs_sum {cn : CNf} {ls : LSf} {rf : Bool} {a0 g : Nat} (hc : ∀ p e, cn p e ≤ 100) (hg : g < 100) : ∀ k, zc_sm 100 (wDs cn ls rf a0 g k) = AL := by
  intro k
  induction k with
  | zero => exact st0_sum hg
  | succ k ih =>
    show zc_sm 100 (if rf = true then wDs cn ls rf a0 g k else rnD (cn a0 k) (ls a0 k) (wDs cn ls rf a0 g k) 99) = AL
    cases rf with
    | true => exact ih
    | false => exact (rnD_sum (hc _ _) 99 (Nat.le_refl _)).trans ih
section CWAIT
variable {L P W F n : Nat} {f : Nat → LWt} {z : Nat → Int32} {hold : Int32} {sk : Nat → Nat → Int32} {wr md h0 : Nat} {σ τ : sa_St} {rs : List (List Nat)} {row a0 to g : Nat} {q : List Nat}
theorem c_putAll {R : Nat} {Q : Unit → sa_St → Prop} (hal : sa_al .long R = 100) (hg : σ.1 136 5 = nI g) (hg9 : g < 100) (hQ : ∀ τ, CF R σ τ → (∀ x, x < 100 → τ.2.2 R x = lN (st0 g x)) → Q () τ) : wp (f_X9_putAll 136 R) σ Q := by
  unfold f_X9_putAll
  rw [wp_gd]
  refine ⟨rfl, ?_⟩
  rw [wp_bnd]
  refine wp_fillL hal (by omega) (by omega) (fun r hr => ?_)
  rw [wp_bnd, wp_rdI]
  refine ⟨rfl, ?_⟩
  show wp (sa_bnd (sa_stL R (σ.1 136 5) 1000000000) fun _ => sa_ret ()) _ Q
  rw [hg, wp_bnd, wp_stL (n := g) hal rfl hg9 (by omega), wp_ret]
  refine hQ _ (CF.upL ⟨rfl, fun _ _ => rfl, fun j hj _ => va_up_ne _ _ hj⟩) (fun x hx => ?_)
  rw [upL_self]
  show va_up (va_up σ.2.2 R r R) g 1000000000 x = _
  rw [va_up_self]
  unfold st0
  by_cases e : x = g
  · subst e; rw [va_up_self, if_pos rfl]; rfl
  · rw [va_up_ne _ _ e, if_neg e, hr x hx]; rfl
theorem c_wait {Q : Int32 → sa_St → Prop} {rf : Bool} (hT : TV L P W F n f z hold sk wr md h0 σ) (hr : TR rs σ) (hpt : ∀ (i : Nat) (q : List Nat), rs[i]? = some q → Pa P W z a0 to q) (hq : rs[row]? = some q) (ha0 : a0 < P) (h139 : σ.1 139 0 = nI a0) (hg : σ.1 136 5 = nI g) (hg9 : g < 100) (hrf : z (5 * a0 + 1) = nI (if rf then 1 else 0)) (hQ : ∀ τ, FW σ τ → τ.1 136 4 = nI (bwt (fun k => vMn W z (cnS z sk) (lsS f hold z wr md h0) (wDs (cnS z sk) (lsS f hold z wr md h0) rf a0 g k, k) none q) 12).2 → Q (nI (bwt (fun k => vMn W z (cnS z sk) (lsS f hold z wr md h0) (wDs (cnS z sk) (lsS f hold z wr md h0) rf a0 g k, k) none q) 12).1) τ) : wp (f_X9_bestWait 136 (nI row)) σ Q := by
  have hr2 := hr.2.1
  have l1 := lt_of_some hq
  have P8 := hT.1.zr.1.1
  have hsum := wDs_sum (cn := cnS z sk) (ls := lsS f hold z wr md h0) (rf := rf) (a0 := a0) (g := g) (fun p e => cnS_le p e) hg9
  have hvb : ∀ k, (fun k => vMn W z (cnS z sk) (lsS f hold z wr md h0) (wDs (cnS z sk) (lsS f hold z wr md h0) rf a0 g k, k) none q) k ≤ 99000 := fun k => vMn_bd (hsum k)
  have hbb := bwt_le hvb
  have hv0 : ∀ k, (fun k => vMn W z (cnS z sk) (lsS f hold z wr md h0) (wDs (cnS z sk) (lsS f hold z wr md h0) rf a0 g k, k) none q) k = vMn W z (cnS z sk) (lsS f hold z wr md h0) (wDs (cnS z sk) (lsS f hold z wr md h0) rf a0 g k, k) none q := fun k => rfl
  generalize (fun k => vMn W z (cnS z sk) (lsS f hold z wr md h0) (wDs (cnS z sk) (lsS f hold z wr md h0) rf a0 g k, k) none q) = v at hQ hvb hbb hv0
  unfold f_X9_bestWait
  rw [wp_gd]
  refine ⟨rfl, ?_⟩
  rw [wp_let, wp_bnd, wp_rdR (v := 150) rfl (sk_136_16 hT.1.1), wp_bnd]
  refine c_putAll al_150 hg hg9 (fun τ hcf hrow => ?_)
  rw [wp_let]
  refine wp_for2 13 0 (fun k a υ => FW σ υ ∧ (∀ x, x < 100 → υ.2.2 150 x = lN (wDs (cnS z sk) (lsS f hold z wr md h0) rf a0 g k x)) ∧ (k = 0 ∨ (a = nI (bwt v (k - 1)).1 ∧ υ.1 136 4 = nI (bwt v (k - 1)).2))) ?_ ?_ ⟨hcf.fw (by omega), hrow, Or.inl rfl⟩ (by omega) (by unfold sa_F; omega)
  · rintro k a υ hk ⟨fw, hrw, hb⟩ j hj
    have hT1 := hT.fw fw
    have hr1 := hr.fw fw
    have hk1 := hT1.1.1
    rw [wp_if]
    refine ⟨fun q => absurd q (nI_nlt (a := 12) (b := k) (by omega) (by omega)), fun _ => ?_⟩
    rw [wp_bnd]
    unfold f_X9_setOutWith
    rw [wp_gd]
    refine ⟨rfl, ?_⟩
    rw [wp_bnd, wp_rdR (v := 149) rfl (sk_136_14 hk1), wp_bnd, wp_stI (j := 0) (n := 0) (len := 8) al_149 rfl (by omega) (by omega), wp_bnd, wp_wrI]
    refine ⟨rfl, ?_⟩
    rw [wp_ret]
    have x1 : XW υ (sa_upI (sa_upI υ 149 0 (nI k)) 136 15 (-1)) := (XW.up (Or.inl rfl)).trans (XW.up (Or.inr ⟨rfl, rfl⟩))
    have y1 : (sa_upI (sa_upI υ 149 0 (nI k)) 136 15 (-1)).1 149 0 = nI k := by rw [upI_ne (by omega), upI_self, va_up_self]
    have y2 : (sa_upI (sa_upI υ 149 0 (nI k)) 136 15 (-1)).1 136 15 = mI := by rw [upI_self, va_up_self]; rfl
    generalize sa_upI (sa_upI υ 149 0 (nI k)) 136 15 (-1) = υ1 at x1 y1 y2 ⊢
    have hk2 := (hT1.fw x1.1).1.1
    rw [wp_bnd, wp_rdR (v := 150) rfl (sk_136_16 hk2), wp_bnd, wp_rdR (v := 140) rfl (sk_136_13 hk2), wp_bnd, wp_ldR (j := 0) (n := 0) (len := 8) al_140 rfl (by omega) (by omega) (sk_140 hk2 (by omega)), wp_bnd, wp_cpL (sp := 0) (dp := 0) (n := 100) (sn := 0) (dn := 0) (nn := 100) al_150 (al_141j (j := 0) (by omega)) rfl rfl rfl (by omega) (by omega) (by omega) (by omega)]
    have x2 : XW υ1 (υ1.1, υ1.2.1, va_up υ1.2.2 (141 + 0) (va_cpy (υ1.2.2 150) (υ1.2.2 (141 + 0)) 0 0 100)) := XW.cpy (by omega)
    have y3 : WKd W z (cnS z sk) (lsS f hold z wr md h0) [] (wDs (cnS z sk) (lsS f hold z wr md h0) rf a0 g k, k) 1 (υ1.1, υ1.2.1, va_up υ1.2.2 (141 + 0) (va_cpy (υ1.2.2 150) (υ1.2.2 (141 + 0)) 0 0 100)) := by
      intro i hi
      have : i = 0 := by omega
      subst this
      refine ⟨fun x hx => ?_, y1⟩
      show va_up υ1.2.2 (141 + 0) (va_cpy (υ1.2.2 150) (υ1.2.2 (141 + 0)) 0 0 100) (141 + 0) x = _
      rw [va_up_self, pk_cpy_in (by omega) (by omega), Nat.zero_add, Nat.sub_zero, x1.2.1]
      exact hrw x hx
    have y4 : (υ1.1, υ1.2.1, va_up υ1.2.2 (141 + 0) (va_cpy (υ1.2.2 150) (υ1.2.2 (141 + 0)) 0 0 100)).1 136 15 = mI := y2
    generalize (υ1.1, υ1.2.1, va_up υ1.2.2 (141 + 0) (va_cpy (υ1.2.2 150) (υ1.2.2 (141 + 0)) 0 0 100)) = υ2 at x2 y3 y4 ⊢
    have x12 := x1.trans x2
    have hT2 := hT1.fw x12.1
    have hr3 := hr1.fw x12.1
    rw [wp_bnd]
    refine c_meanOf (s0 := (wDs (cnS z sk) (lsS f hold z wr md h0) rf a0 g k, k)) hT2 hr3 hpt hq (hsum k) (by show k ≤ 12; omega) (Or.inl ⟨y4, y3⟩) (fun υ3 x3 _ _ => ?_)
    rw [← hv0 k]
    have x13 := x12.trans x3
    have hfw3 := fw.trans x13.1
    have hT3 := hT.fw hfw3
    have hv9 := hvb k
    have tail : ∀ (y : Nat) (υ4 : sa_St), XW υ υ4 ∨ (FW υ υ4 ∧ υ4.2.2 150 = υ.2.2 150) → υ4.1 136 4 = nI (bwt v k).2 → y = (bwt v k).1 → wp (sa_bnd (sa_rdR 9 136 2) fun v11 =>
sa_bnd (sa_rdR 9 136 12) fun v12 =>
sa_bnd (sa_ldI .int v12 0) fun v13 =>
sa_bnd (f_X1_hasRoof v11 v13) fun v14 =>
sa_jn0 (sa_let ((nI k + 1) : Int32) fun x15 =>
j (nI y) x15) fun j99 =>
if ¬ v14 = 0 then
j99
else
sa_bnd (sa_rdR 9 136 16) fun v16 =>
sa_bnd (sa_rdR 9 136 12) fun v17 =>
sa_bnd (sa_ldI .int v17 0) fun v18 =>
sa_bnd (f_X9_letRain 136 v16 v18 (nI k)) fun _ =>
j99) υ4 Q := by
      intro y υ4 hx4 h4 hy
      have fw4 : FW σ υ4 := by rcases hx4 with h | h <;> exact fw.trans h.1
      have e150 : υ4.2.2 150 = υ.2.2 150 := by rcases hx4 with h | h; exact h.2.1; exact h.2
      have hT4 := hT.fw fw4
      have hk4 := hT4.1.1
      have e139 : υ4.1 139 0 = nI a0 := by rw [fw4.2.1 139 (nm_33 139 (by omega)) (by omega) (by omega)]; exact h139
      have frf := e_roof hT4.1 ha0 (r := if rf then 1 else 0) (by split <;> omega) hrf
      rw [wp_bnd, wp_rdR (v := L) rfl hT4.2.1, wp_bnd, wp_rdR (v := 139) rfl (sk_136_12 hk4), wp_bnd, wp_ldI (j := 0) (n := 0) (len := 8) al_139 rfl (by omega) (by omega), e139, wp_bnd, wp_of_eq frf, wp_jn0, wp_if]
      cases rf with
      | true =>
        refine ⟨fun _ => ?_, fun q => absurd (show ¬ nI 1 = 0 by decide) q⟩
        rw [wp_let, nI_1]
        refine hj _ _ ⟨fw4, fun x hx => ?_, Or.inr ⟨by rw [hy]; rfl, h4⟩⟩
        rw [e150]
        exact hrw x hx
      | false =>
        refine ⟨fun q => absurd (show nI 0 = 0 from rfl) q, fun _ => ?_⟩
        rw [wp_bnd, wp_rdR (v := 150) rfl (sk_136_16 hk4), wp_bnd, wp_rdR (v := 139) rfl (sk_136_12 hk4), wp_bnd, wp_ldI (j := 0) (n := 0) (len := 8) al_139 rfl (by omega) (by omega), e139, wp_bnd]
        refine c_rain1 hT4 al_150 (by omega) (by rw [e150]; exact hrw) (hsum k) ha0 (by omega) (fun υ5 hc5 hrow5 => ?_)
        rw [wp_let, nI_1]
        exact hj _ _ ⟨fw4.trans (hc5.fw (by omega)), hrow5, Or.inr ⟨by rw [hy]; rfl, by rw [hc5.2.1 136 (nm_33 136 (by omega))]; exact h4⟩⟩
    have up4 : FW υ (sa_upI υ3 136 4 (nI (v k))) ∧ (sa_upI υ3 136 4 (nI (v k))).2.2 150 = υ.2.2 150 := ⟨x13.1.trans (FW.up (Or.inr ⟨rfl, Or.inr rfl⟩)), x13.2.1⟩
    have e4 : (sa_upI υ3 136 4 (nI (v k))).1 136 4 = nI (v k) := by rw [upI_self, va_up_self]
    rw [wp_jn1, wp_jn0, wp_if]
    refine ⟨fun e => ?_, fun e => ?_⟩
    · have e0 : k = 0 := by
        rw [L0, nI_eq (by omega) (by omega)] at e
        exact e
      subst e0
      rw [wp_bnd, wp_wrI]
      refine ⟨rfl, ?_⟩
      exact tail 0 _ (Or.inr up4) e4 rfl
    · rcases hb with hb | ⟨rfl, h4⟩
      · exact absurd (show nI k = 0 by rw [hb]; rfl) e
      · have hk0 : k ≠ 0 := fun h => e (by rw [h]; rfl)
        obtain ⟨y, rfl⟩ : ∃ y, k = y + 1 := ⟨k - 1, by omega⟩
        rw [show y + 1 - 1 = y by omega] at h4 ⊢
        have hby := hbb y
        have hst : bwt v (y + 1) = if v (y + 1) ≤ (bwt v y).2 then bwt v y else (y + 1, v (y + 1)) := rfl
        rw [wp_bnd, wp_rdI, x13.2.2, h4]
        refine ⟨rfl, ?_⟩
        rw [wp_if, nI_leI (by omega) (by omega)]
        refine ⟨fun h => ?_, fun h => ?_⟩
        · rw [if_pos h] at hst
          exact tail _ υ3 (Or.inl x13) (by rw [x13.2.2, h4, hst]) (by rw [hst])
        · rw [if_neg h] at hst
          rw [wp_bnd, wp_wrI]
          refine ⟨rfl, ?_⟩
          exact tail (y + 1) _ (Or.inr up4) (by rw [e4, hst]) (by rw [hst])
  · rintro a υ ⟨fw, -, hb⟩ j
    rw [wp_if]
    refine ⟨fun _ => ?_, fun q => absurd (show (12 : Int32) < nI 13 by decide) q⟩
    rw [wp_ret]
    rcases hb with hb | ⟨rfl, h4⟩
    · omega
    · exact hQ υ fw h4
end CWAIT
