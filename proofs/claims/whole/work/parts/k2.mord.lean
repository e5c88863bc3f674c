/-! TEXTS: orders, by the reference: a step -/
theorem nI_sur (x : Int32) : ∃ n : Nat, x = nI n := ⟨x.toBitVec.toNat, (Int32.ofNat_bitVecToNat x.toBitVec).symm⟩
theorem e_pl {x : Int32} {j : Nat} {σ : sa_St} (hj : j < 10) : f_X12_placeOf (1000 + j) x σ = some (oI ((List.range (sa_slen.getD j 0)).find? (fun i => decide ((sa_byt.getD j []).getD i 0 = x))), σ) := by
  have h20 := slen_le j hj
  refine run_of ?_
  unfold f_X12_placeOf
  rw [wp_let]
  refine wp_for1 (sa_slen.getD j 0) 0 (fun i τ => τ = σ ∧ ∀ y, y < i → ¬ (sa_byt.getD j []).getD y 0 = x) ?_ ?_ ⟨rfl, fun y hy => by omega⟩ (Nat.zero_le _) (by unfold sa_F; omega)
  · rintro i τ hi ⟨rfl, hn⟩ k hk
    rw [wp_bnd, wp_of_eq (e_kl hj), wp_if]
    refine ⟨fun q => absurd q (nI_ge hi (by omega)), fun _ => ?_⟩
    rw [wp_bnd, wp_of_eq (e_chr hj hi), wp_if]
    refine ⟨fun q => ?_, fun q => ?_⟩
    · rw [wp_let, nI_1]
      refine hk _ ⟨rfl, fun y hy => ?_⟩
      by_cases e : y = i
      · subst e; exact q
      · exact hn y (by omega)
    · have q' := Decidable.not_not.mp q
      rw [wp_ret]
      refine ⟨?_, rfl⟩
      rcases find_range (p := fun i => decide ((sa_byt.getD j []).getD i 0 = x)) (sa_slen.getD j 0) with ⟨-, h2⟩ | ⟨k2, h1, h2, h3, h4⟩
      · exact absurd q' (of_decide_eq_false (h2 i hi))
      · rw [h2]
        have : k2 = i := by
          rcases Nat.lt_trichotomy k2 i with h | h | h
          · exact absurd (of_decide_eq_true h3) (hn k2 h)
          · exact h
          · exact absurd q' (of_decide_eq_false (h4 i h))
        rw [this]
        rfl
  · rintro τ ⟨rfl, hn⟩ k
    rw [wp_bnd, wp_of_eq (e_kl hj), wp_if]
    refine ⟨fun _ => ?_, fun q => absurd (nI_le (Nat.le_refl _) (by omega)) q⟩
    rw [wp_ret]
    refine ⟨?_, rfl⟩
    rcases find_range (p := fun i => decide ((sa_byt.getD j []).getD i 0 = x)) (sa_slen.getD j 0) with ⟨h1, -⟩ | ⟨k2, h1, -, h3, -⟩
    · rw [h1]; rfl
    · exact absurd (of_decide_eq_true h3) (hn k2 h1)
/-- rows of the orders' draft alone -/
def QFr (σ τ : sa_St) : Prop := τ.2 = σ.2 ∧ (∀ j, j ≠ 159 → j ≠ 171 → j ≠ 172 → τ.1 j = σ.1 j) ∧ (∀ k, k < 10 ∨ 12 < k → τ.1 159 k = σ.1 159 k) ∧ (∀ i, i < 192 → τ.1 171 i = σ.1 171 i) ∧ ∀ i, i < 4 → τ.1 172 i = σ.1 172 i
theorem QFr.rfl' {σ : sa_St} : QFr σ σ := ⟨rfl, fun _ _ _ _ => rfl, fun _ _ => rfl, fun _ _ => rfl, fun _ _ => rfl⟩
theorem QFr.trans {σ τ υ : sa_St} (h : QFr σ τ) (h2 : QFr τ υ) : QFr σ υ := ⟨h2.1.trans h.1, fun j a b c => (h2.2.1 j a b c).trans (h.2.1 j a b c), fun k a => (h2.2.2.1 k a).trans (h.2.2.1 k a), fun k a => (h2.2.2.2.1 k a).trans (h.2.2.2.1 k a), fun k a => (h2.2.2.2.2 k a).trans (h.2.2.2.2 k a)⟩
theorem RFr.q {σ τ : sa_St} (h : RFr σ τ) : QFr σ τ := ⟨h.1, fun j a _ _ => h.2.1 j a, h.2.2, fun i _ => by rw [h.2.1 171 (by omega)], fun i _ => by rw [h.2.1 172 (by omega)]⟩
theorem QFr.o {σ : sa_St} {i : Nat} {v : Int32} (hi : 192 ≤ i) : QFr σ (sa_upI σ 171 i v) := ⟨rfl, fun j _ a _ => by rw [upI_ne a], fun k _ => by rw [upI_ne (by omega)], fun k a => by rw [upI_self, va_up_ne _ _ (by omega)], fun k _ => by rw [upI_ne (by omega)]⟩
theorem QFr.n {σ : sa_St} {v : Int32} : QFr σ (sa_upI σ 172 4 v) := ⟨rfl, fun j _ _ a => by rw [upI_ne a], fun k _ => by rw [upI_ne (by omega)], fun k _ => by rw [upI_ne (by omega)], fun k a => by rw [upI_self, va_up_ne _ _ (by omega)]⟩
section MORD
variable {T : Nat → Nat} {N R o d p : Nat} {σ : sa_St}
theorem RSt.arr (hs : RSt T N R o d p σ) {A k : Nat} {v : Int32} (hA : A ≠ 159 ∧ A ≠ 160 ∧ A ≠ 161) : RSt T N R o d p (sa_upI σ A k v) := by
  obtain ⟨⟨a, b, c, r, e, f, g, i⟩, ⟨p', u1, u2, u3⟩, h11, h12⟩ := hs
  have e159 : (sa_upI σ A k v).1 159 = σ.1 159 := upI_ne (by omega)
  exact ⟨⟨a, b, c, r, e, by rw [e159]; exact f, by rw [e159]; exact g, fun y hy => by rw [upI_ne (by omega)]; exact i y hy⟩, ⟨p', u1, u2, by rw [e159]; exact u3⟩, by rw [e159]; exact h11, by rw [e159]; exact h12⟩
theorem pl_ix (ht : RTp T N R o σ) {j : Nat} (hj : j < 10) : f_X12_placeOf (1000 + j) (lkv T N p) σ = some (oI (ixS j (sgn T N p)), σ) := by
  rw [e_pl hj]
  congr 3
  unfold ixS
  have hx : ∀ i, i < sa_slen.getD j 0 → (((sa_byt.getD j []).getD i 0 = lkv T N p) ↔ ((sa_byt.getD j []).getD i 0 = nI (sgn T N p))) := by
    intro i hi
    have h0 := (byt_lo j hj i hi).1
    generalize (sa_byt.getD j []).getD i 0 = b at *
    unfold lkv sgn
    split
    · exact Iff.rfl
    · constructor
      · intro e
        rw [e] at h0
        exact absurd h0 (by decide)
      · intro e
        rw [e] at h0
        exact absurd h0 (by decide)
  rcases find_range (p := fun i => decide ((sa_byt.getD j []).getD i 0 = lkv T N p)) (sa_slen.getD j 0) with ⟨e1, e2⟩ | ⟨k, e1, e2, e3, e4⟩
  · rw [e1]
    rcases find_range (p := fun i => decide ((sa_byt.getD j []).getD i 0 = nI (sgn T N p))) (sa_slen.getD j 0) with ⟨g1, g2⟩ | ⟨k', g1, g2, g3, g4⟩
    · rw [g1]
    · exact absurd ((hx k' g1).mpr (of_decide_eq_true g3)) (of_decide_eq_false (e2 k' g1))
  · rw [e2]
    rcases find_range (p := fun i => decide ((sa_byt.getD j []).getD i 0 = nI (sgn T N p))) (sa_slen.getD j 0) with ⟨g1, g2⟩ | ⟨k', g1, g2, g3, g4⟩
    · exact absurd ((hx k e1).mp (of_decide_eq_true e3)) (of_decide_eq_false (g2 k e1))
    · rw [g2]
      have : k = k' := by
        rcases Nat.lt_trichotomy k k' with h | h | h
        · exact absurd ((hx k e1).mp (of_decide_eq_true e3)) (of_decide_eq_false (g4 k h))
        · exact h
        · exact absurd ((hx k' g1).mpr (of_decide_eq_true g3)) (of_decide_eq_false (e4 k' h))
      rw [this]
/-- what a digit leaves -/
def DPo (T : Nat → Nat) (N R o d p : Nat) (σ : sa_St) (r : Int32) (τ : sa_St) : Prop := RFr σ τ ∧ match (dgR T N p).2 with
  | none => τ.1 159 11 = nI (dgR T N p).1
  | some x => r = nI x ∧ RSt T N R o d (dgR T N p).1 τ
theorem m_digit (hs : RSt T N R o d p σ) : wp (f_X12_digit 159) σ (DPo T N R o d p σ) := by
  obtain ⟨hlk, hs1, x10⟩ := hs.look
  have hpN := hs.nb.1
  have h240 := hs.1.2.1
  have fr1 : RFr σ (sa_upI σ 159 10 (nI p)) := RFr.up (by omega)
  unfold f_X12_digit
  rw [wp_gd]
  refine ⟨rfl, ?_⟩
  rw [wp_bnd, wp_of_eq hlk]
  generalize sa_upI σ 159 10 (nI p) = σ1 at *
  rw [wp_bnd, wp_of_eq (m_dig hs1.1 hpN x10), wp_if]
  unfold DPo dgR
  cases e : isD (sgn T N p) with
  | true =>
    obtain ⟨i1, i2, i3, i4⟩ := isD_in e
    refine ⟨fun _ => ?_, fun q => absurd (show ¬ nI 1 = 0 by decide) q⟩
    rw [wp_bnd, wp_rdI, x10]
    refine ⟨rfl, ?_⟩
    rw [wp_bnd, wp_wrI, nI_1]
    refine ⟨rfl, ?_⟩
    have hs2 := hs1.at (q := p + 1) (by omega)
    have fr2 : RFr σ (sa_upI σ1 159 10 (nI (p + 1))) := fr1.trans (RFr.up (by omega))
    have y10 : (sa_upI σ1 159 10 (nI (p + 1))).1 159 10 = nI (p + 1) := by rw [upI_self, va_up_self]
    generalize sa_upI σ1 159 10 (nI (p + 1)) = σ2 at *
    have ei : nI o + nI (p + 1) - 1 = nI o + nI p := by rw [nI_add, nI_add, show o + (p + 1) = o + p + 1 by omega, nI_pred]
    rw [wp_bnd, wp_rdR (v := R) rfl hs2.1.2.2.2.2.1, wp_bnd, wp_rdI, hs2.1.2.2.2.2.2.1]
    refine ⟨rfl, ?_⟩
    rw [wp_bnd, wp_rdI, y10]
    refine ⟨rfl, ?_⟩
    rw [wp_bnd, ei, hs2.1.ld i1, by_n1 _ (by omega), wp_ret, if_pos rfl]
    exact ⟨fr2, pk_sub (a := T p) (b := 48) (by omega), hs2⟩
  | false =>
    refine ⟨fun q => absurd rfl q, fun _ => ?_⟩
    rw [wp_bnd, wp_of_eq (hs1.fail x10), wp_ret, if_neg (show ¬ false = true by decide)]
    exact ⟨fr1.trans (RFr.up (by omega)), by dsimp only; rw [upI_self, va_up_self]⟩
/-- what reading a step leaves -/
def MSo (T : Nat → Nat) (N R o d a : Nat) (σ : sa_St) (res : Nat × Option STp) (τ : sa_St) : Prop := QFr σ τ ∧ match res.2 with
  | none => τ.1 159 11 = nI res.1
  | some x => RSt T N R o d res.1 τ ∧ τ.1 171 = va_up (va_up (va_up (σ.1 171) a (nI x.1)) (a + 1) x.2.1) (a + 2) x.2.2
/-- the second digit, and what follows it -/
theorem m_step2 {a t : Nat} {σ0 : sa_St} {y : Int32} {q : Nat} (hk : SK σ.2.1) (ha : 192 ≤ a ∧ a + 2 < 240) (ht : t < 6) (hN : N ≤ 240) (hfr : QFr σ0 σ) (hcase : (σ.1 159 11 = nI q ∧ q ≤ N ∧ ∃ res : Nat × Option STp, res = (q, none)) ∨ RSt T N R o d q σ) (res : Nat × Option STp) (hbad : σ.1 159 11 = nI q → q ≤ N → res = (q, none)) (hrow : RSt T N R o d q σ → σ.1 171 = va_up (σ0.1 171) a (nI t)) (hres : RSt T N R o d q σ → (t < 2 → ((dgR T N q).2 = none → res = ((dgR T N q).1, none)) ∧ ∀ e, (dgR T N q).2 = some e → res = ((dgR T N q).1, some (t, y, nI e))) ∧ (¬ t < 2 → res = (q, some (t, y, mI)))) : wp (sa_bnd (sa_stI 171 (nI a + 1) y) fun _ =>
sa_bnd (sa_rdR 12 159 32) fun v7 =>
sa_jn1 (fun (y8 : Int32) =>
sa_bnd (sa_stI v7 (nI a + 2) y8) fun _ =>
sa_ret ()) fun j88 =>
sa_jn0 (j88 (-1)) fun j87 =>
if 2 ≤ nI t then
j87
else
sa_bnd (sa_rdI 12 159 11) fun v9 =>
if ¬ v9 = (-1) then
j87
else
sa_bnd (f_X12_digit 159) fun v10 =>
j88 v10) σ (fun _ τ => MSo T N R o d a σ0 res τ) := by
  have e1 : nI a + 1 = nI (a + 1) := nI_1 a
  have e2 : nI a + 2 = nI (a + 2) := nI_add a 2
  have t2 : ((2 : Int32) ≤ nI t) ↔ 2 ≤ t := nI_leI (a := 2) (b := t) (by omega) (by omega)
  rw [wp_bnd, e1, wp_stI (n := a + 1) (len := 240) al_171 rfl (by omega) (by omega)]
  have fr1 : QFr σ0 (sa_upI σ 171 (a + 1) y) := hfr.trans (QFr.o (by omega))
  have h11 : (sa_upI σ 171 (a + 1) y).1 159 11 = σ.1 159 11 := by rw [upI_ne (by omega)]
  have hrs : RSt T N R o d q σ → RSt T N R o d q (sa_upI σ 171 (a + 1) y) := fun h => h.arr (by omega)
  have hk1 : SK (sa_upI σ 171 (a + 1) y).2.1 := hk
  have hr1 : RSt T N R o d q σ → (sa_upI σ 171 (a + 1) y).1 171 = va_up (va_up (σ0.1 171) a (nI t)) (a + 1) y := fun h => by rw [upI_self, hrow h]
  generalize sa_upI σ 171 (a + 1) y = σ1 at *
  rw [wp_bnd, wp_rdR (v := 171) rfl (sk_159_32 hk1), wp_jn1, wp_jn0, wp_if, t2]
  rcases hcase with ⟨b11, bq, -⟩ | hs
  · have hb := hbad b11 bq
    have hne : ¬ σ1.1 159 11 = -1 := fun e => by
      rw [h11, b11] at e
      have e' : nI q = mI := e
      rw [eq_mI (by omega)] at e'
      exact e'
    have fin : wp (sa_bnd (sa_stI 171 (nI a + 2) (-1)) fun _ => sa_ret ()) σ1 (fun _ τ => MSo T N R o d a σ0 res τ) := by
      rw [wp_bnd, e2, wp_stI (n := a + 2) (len := 240) al_171 rfl (by omega) (by omega), wp_ret, hb]
      refine ⟨fr1.trans (QFr.o (by omega)), ?_⟩
      dsimp only
      rw [upI_ne (by omega), h11]
      exact b11
    refine ⟨fun _ => fin, fun _ => ?_⟩
    rw [wp_bnd, wp_rdI]
    refine ⟨rfl, ?_⟩
    rw [wp_if]
    exact ⟨fun _ => fin, fun q => absurd hne q⟩
  · have hs1 := hrs hs
    obtain ⟨hr2, hr3⟩ := hres hs
    refine ⟨fun c => ?_, fun c => ?_⟩
    · rw [wp_bnd, e2, wp_stI (n := a + 2) (len := 240) al_171 rfl (by omega) (by omega), wp_ret, hr3 (by omega)]
      refine ⟨fr1.trans (QFr.o (by omega)), hs1.arr (by omega), ?_⟩
      dsimp only
      rw [upI_self, hr1 hs]
      rfl
    · obtain ⟨hno, hyes⟩ := hr2 (by omega)
      rw [wp_bnd, wp_rdI, hs1.2.2.1]
      refine ⟨rfl, ?_⟩
      rw [wp_if]
      refine ⟨fun q => absurd rfl q, fun _ => ?_⟩
      rw [wp_bnd]
      refine wp_mono (m_digit hs1) (fun v τ hd => ?_)
      obtain ⟨fr2, hd⟩ := hd
      have er : τ.1 171 = σ1.1 171 := fr2.2.1 171 (by omega)
      generalize dgR T N q = r0 at *
      obtain ⟨q1, m1⟩ := r0
      rw [wp_bnd, e2, wp_stI (n := a + 2) (len := 240) al_171 rfl (by omega) (by omega), wp_ret]
      have fr3 : QFr σ0 (sa_upI τ 171 (a + 2) v) := fr1.trans (fr2.q.trans (QFr.o (by omega)))
      cases m1 with
      | none =>
        rw [hno rfl]
        refine ⟨fr3, ?_⟩
        dsimp only
        rw [upI_ne (by omega)]
        exact hd
      | some e =>
        obtain ⟨rfl, hs2⟩ := hd
        rw [hyes e rfl]
        refine ⟨fr3, hs2.arr (by omega), ?_⟩
        dsimp only
        rw [upI_self, er, hr1 hs]
theorem m_step {s : Nat} (hs : RSt T N R o d p σ) (hss : s < 16) : wp (f_X12_readStep 159 (nI (192 + 3 * s))) σ (fun _ τ => MSo T N R o d (192 + 3 * s) σ (stP T N p) τ) := by
  obtain ⟨hlk, hs1, x10⟩ := hs.look
  have hpN := hs.nb.1
  have h240 := hs.1.2.1
  have fr1 : RFr σ (sa_upI σ 159 10 (nI p)) := RFr.up (by omega)
  unfold f_X12_readStep
  rw [wp_gd]
  refine ⟨rfl, ?_⟩
  rw [wp_bnd, wp_of_eq hlk]
  have er0 : (sa_upI σ 159 10 (nI p)).1 171 = σ.1 171 := upI_ne (by omega)
  generalize sa_upI σ 159 10 (nI p) = σ1 at *
  rw [wp_bnd, wp_of_eq (pl_ix hs1.1 (j := 4) (by omega)), wp_if]
  unfold stP
  cases hi : ixS 4 (sgn T N p) with
  | none =>
    refine ⟨fun q => absurd rfl q, fun _ => ?_⟩
    rw [wp_bnd, wp_of_eq (hs1.fail x10), wp_ret]
    exact ⟨(fr1.trans (RFr.up (by omega))).q, by dsimp only; rw [upI_self, va_up_self]⟩
  | some t =>
    have hin := sgn_in (c := sgn T N p) (ix_in hi (by omega)).1 rfl
    have ht : t < 6 := (ix_in hi (by omega)).2
    have hne : ¬ nI t = -1 := fun e => by
      have e' : nI t = mI := e
      rw [eq_mI (by omega)] at e'
      exact e'
    have hle := bk_le (T := T) (N := N) (p := p + 1) (by omega)
    refine ⟨fun _ => ?_, fun q => absurd hne q⟩
    have eo : oI (some t) = nI t := rfl
    rw [eo, wp_bnd, wp_rdI, x10]
    refine ⟨rfl, ?_⟩
    rw [wp_bnd, wp_wrI, nI_1 p]
    refine ⟨rfl, ?_⟩
    have hs2 := hs1.at (q := p + 1) (by omega)
    have fr2 : RFr σ (sa_upI σ1 159 10 (nI (p + 1))) := fr1.trans (RFr.up (by omega))
    have er1 : (sa_upI σ1 159 10 (nI (p + 1))).1 171 = σ.1 171 := by rw [upI_ne (by omega)]; exact er0
    generalize sa_upI σ1 159 10 (nI (p + 1)) = σ2 at *
    generalize bk T N (p + 1) = q at *
    rw [wp_bnd, wp_rdR (v := 171) rfl (sk_159_32 hs2.1.1), wp_bnd, wp_stI (n := 192 + 3 * s) (len := 240) al_171 rfl (by omega) (by omega)]
    have hs3 := hs2.arr (A := 171) (k := 192 + 3 * s) (v := nI t) (by omega)
    have fr3 : QFr σ (sa_upI σ2 171 (192 + 3 * s) (nI t)) := fr2.q.trans (QFr.o (by omega))
    have er2 : (sa_upI σ2 171 (192 + 3 * s) (nI t)).1 171 = va_up (σ.1 171) (192 + 3 * s) (nI t) := by rw [upI_self, er1]
    generalize sa_upI σ2 171 (192 + 3 * s) (nI t) = σ3 at *
    have t4 : ((4 : Int32) ≤ nI t) ↔ 4 ≤ t := nI_leI (a := 4) (b := t) (by omega) (by omega)
    rw [wp_bnd, wp_rdR (v := 171) rfl (sk_159_32 hs3.1.1), wp_jn1, wp_if, t4]
    dsimp only
    refine ⟨fun c => ?_, fun c => ?_⟩
    · refine m_step2 (q := q) hs3.1.1 (by omega) ht h240 fr3 (Or.inr hs3) _ (fun e _ => ?_) (fun _ => er2) (fun _ => ⟨fun c2 => by omega, fun _ => ?_⟩)
      · have e' : nI q = mI := e.symm.trans hs3.2.2.1
        rw [eq_mI (by omega)] at e'
        exact e'.elim
      · unfold stD
        rw [if_neg (by omega)]
        rfl
    · rw [wp_bnd]
      refine wp_mono (m_digit hs3) (fun v τ hd => ?_)
      obtain ⟨fr4, hd⟩ := hd
      have fr5 := fr3.trans fr4.q
      have er3 : τ.1 171 = va_up (σ.1 171) (192 + 3 * s) (nI t) := by rw [fr4.2.1 171 (by omega)]; exact er2
      have hk5 : SK τ.2.1 := by rw [fr4.1]; exact hs3.1.1
      have ad := dg_adv (T := T) hle
      unfold stD
      rw [if_pos (show t < 4 by omega)]
      generalize dgR T N q = r0 at *
      obtain ⟨q1, m1⟩ := r0
      have ad1 : q1 ≤ N := ad.1
      cases m1 with
      | none =>
        have hd' : τ.1 159 11 = nI q1 := hd
        refine m_step2 (q := q1) hk5 (by omega) ht h240 fr5 (Or.inl ⟨hd', ad1, _, rfl⟩) _ (fun _ _ => rfl) (fun _ => er3) (fun h => ?_)
        have e' : nI q1 = mI := hd'.symm.trans h.2.2.1
        rw [eq_mI (by omega)] at e'
        exact e'.elim
      | some dd =>
        obtain ⟨rfl, hs5⟩ := hd
        dsimp only at hs5 ⊢
        refine m_step2 (q := q1) hk5 (by omega) ht h240 fr5 (Or.inr hs5) _ (fun e _ => ?_) (fun _ => er3) (fun _ => ⟨fun c2 => ⟨fun e => ?_, fun e2 e => ?_⟩, fun c2 => ?_⟩)
        · have e' : nI q1 = mI := e.symm.trans hs5.2.2.1
          rw [eq_mI (by omega)] at e'
          exact e'.elim
        · unfold stS
          rw [if_pos c2, e]
        · unfold stS
          rw [if_pos c2, e]
        · unfold stS
          rw [if_neg c2]
end MORD
