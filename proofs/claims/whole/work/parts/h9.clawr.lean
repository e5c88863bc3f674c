/-! TEXTS: a law, by the class -/
section CLAWR
variable {T : Nat → Nat} {N l p : Nat} {mv : List Nat} {σ : sa_St}
theorem lwM_add (acc : List CLs) (c : CLs) : lwM (acc ++ [c]) = lwM acc ++ clM (lwM acc).length c := by
  unfold lwM
  rw [List.foldl_append]
  rfl
theorem c_readLaw (hl : l < 5) (ct : CTp T N σ) : wp (f_X2_readFrom (18 + 3 * l) 1) σ (fun r τ => LFr l σ τ ∧ match (lwP T N).2 with
    | none => r = 0 ∧ τ.1 1 2 = nI (lwP T N).1
    | some cs => r = 1 ∧ LSt T N l (lwP T N).1 (lwM cs) τ) := by
  have h240 := ct.2.1
  have ct1 : CTp T N (sa_upI σ (18 + 3 * l) 2 0) := by
    obtain ⟨a, b, c, d, e⟩ := ct
    exact ⟨a, b, c, by rw [upI_ne (by omega)]; exact d, fun i hi => by rw [upI_ne (by omega)]; exact e i hi⟩
  have hb0 := bk_le (T := T) (N := N) (p := 0) (by omega)
  unfold f_X2_readFrom
  rw [wp_gd]
  refine ⟨sh_law l hl, ?_⟩
  rw [wp_bnd, wp_wrI]
  refine ⟨sh_law l hl, ?_⟩
  rw [wp_bnd, wp_of_eq (c_rewind ct1), wp_let]
  have ls0 : LSt T N l (bk T N 0) (lwM []) (sa_upI (sa_upI σ (18 + 3 * l) 2 0) 1 2 (nI (bk T N 0))) := ⟨ct1.at, hb0, by rw [upI_self, va_up_self], Nat.zero_le _, by rw [upI_ne (by omega), upI_self, va_up_self]; rfl, fun i hi => absurd hi (Nat.not_lt_zero i)⟩
  have fr0 : LFr l σ (sa_upI (sa_upI σ (18 + 3 * l) 2 0) 1 2 (nI (bk T N 0))) := LFr.sz.trans LFr.at
  generalize sa_upI (sa_upI σ (18 + 3 * l) 2 0) 1 2 (nI (bk T N 0)) = σ1 at ls0 fr0
  refine wp_wh1 (fun f x τ => ∃ (i p : Nat) (acc : List CLs), x = nI i ∧ 4 * i ≤ p ∧ N - p < f ∧ LFr l σ τ ∧ LSt T N l p (lwM acc) τ ∧ lwL T N f p acc = lwP T N) ?_ sa_F (N + 1) 0 σ1 (by unfold sa_F; omega) ⟨0, bk T N 0, [], rfl, by omega, by omega, fr0, ls0, rfl⟩
  rintro f x τ ⟨i, p, acc, rfl, hi, hf, fr, ls, hc⟩ j hj
  obtain ⟨f, rfl⟩ : ∃ f', f = f' + 1 := ⟨f - 1, by omega⟩
  have hp := ls.2.1
  have e240 : ¬ (240 : Int32) ≤ nI i := fun h => by
    have : 240 ≤ i := (nI_leI (a := 240) (b := i) (by omega) (by omega)).mp h
    omega
  have hun : lwL T N (f + 1) p acc = match (clP T N p).2 with
    | none => ((clP T N p).1, none)
    | some c => if (clP T N p).1 < N then (if sgn T N (clP T N p).1 = 59 then lwL T N f (bk T N ((clP T N p).1 + 1)) (acc ++ [c]) else ((clP T N p).1, none)) else ((clP T N p).1, some (acc ++ [c])) := rfl
  rw [hc] at hun
  obtain ⟨x1, x2, x3⟩ := cl_adv' (T := T) hp
  rw [wp_if]
  refine ⟨fun q => absurd q e240, fun _ => ?_⟩
  rw [wp_bnd]
  refine wp_mono (c_clause hl ls) (fun r τ2 hr => ?_)
  obtain ⟨fr2, hr⟩ := hr
  have fr3 := fr.trans fr2
  generalize clP T N p = r0 at *
  obtain ⟨q, m⟩ := r0
  cases m with
  | none =>
    obtain ⟨rfl, h2'⟩ := hr
    dsimp only at hun
    rw [wp_if]
    refine ⟨fun q => absurd rfl q, fun _ => ?_⟩
    rw [wp_retZ, hun]
    exact ⟨Or.inl rfl, fr3, rfl, h2'⟩
  | some c =>
    obtain ⟨rfl, ls2⟩ := hr
    have x3' := (x3 c rfl).1
    dsimp only at x1 x2 x3' ls2 hun
    rw [← lwM_add] at ls2
    rw [wp_if]
    refine ⟨fun _ => ?_, fun q => absurd (show ¬ (1 : Int32) = 0 by decide) q⟩
    rw [wp_bnd, wp_of_eq (c_ended ls2.1 ls2.2.1 ls2.2.2.1), wp_if]
    by_cases hqN : q < N
    · rw [if_pos hqN] at hun ⊢
      refine ⟨fun _ => ?_, fun q => absurd rfl q⟩
      have htk := c_take (c := 59) ls2.1 ls2.2.1 ls2.2.2.1 (by omega) (by omega)
      by_cases h59 : sgn T N q = 59
      · have hge := bk_ge (T := T) (N := N) (p := q + 1)
        have hle := bk_le (T := T) (N := N) (p := q + 1) (by omega)
        rw [if_pos h59] at htk hun
        rw [wp_bnd, wp_of_eq (show f_X7_take 1 59 τ2 = _ from htk), wp_if]
        refine ⟨fun _ => ?_, fun q => absurd (show ¬ nI 1 = 0 by decide) q⟩
        rw [wp_let, nI_1]
        exact hj f _ _ (by omega) ⟨i + 1, bk T N (q + 1), acc ++ [c], rfl, by omega, by omega, fr3.trans LFr.at, ls2.to (by omega) hle, hun.symm⟩
      · rw [if_neg h59] at htk hun
        rw [wp_bnd, wp_of_eq (show f_X7_take 1 59 τ2 = _ from htk), wp_if]
        refine ⟨fun q => absurd rfl q, fun _ => ?_⟩
        rw [wp_retZ, hun]
        exact ⟨Or.inl rfl, fr3, rfl, ls2.2.2.1⟩
    · rw [if_neg hqN] at hun ⊢
      refine ⟨fun q => absurd q (by decide), fun _ => ?_⟩
      rw [wp_retZ, hun]
      exact ⟨Or.inr rfl, fr3, rfl, ls2⟩
end CLAWR
/-! TEXTS: sums, by the reference -/
/-- what the letters stand for -/
def EV (g w h m t : Nat) (σ : sa_St) : Prop := σ.1 163 103 = nI g ∧ σ.1 163 119 = nI w ∧ σ.1 163 104 = nI h ∧ σ.1 163 109 = nI m ∧ σ.1 163 116 = nI t
def RSt (T : Nat → Nat) (N R o d p : Nat) (σ : sa_St) : Prop := RTp T N R o σ ∧ (∃ p', p' ≤ N ∧ bk T N p' = p ∧ σ.1 159 10 = nI p') ∧ σ.1 159 11 = -1 ∧ σ.1 159 12 = nI d
def RFr (σ τ : sa_St) : Prop := τ.2 = σ.2 ∧ (∀ j, j ≠ 159 → τ.1 j = σ.1 j) ∧ ∀ k, k < 10 ∨ 12 < k → τ.1 159 k = σ.1 159 k
theorem RFr.rfl' {σ : sa_St} : RFr σ σ := ⟨rfl, fun _ _ => rfl, fun _ _ => rfl⟩
theorem RFr.trans {σ τ υ : sa_St} (h : RFr σ τ) (h2 : RFr τ υ) : RFr σ υ := ⟨h2.1.trans h.1, fun j a => (h2.2.1 j a).trans (h.2.1 j a), fun k a => (h2.2.2 k a).trans (h.2.2 k a)⟩
theorem RFr.up {σ : sa_St} {k : Nat} {v : Int32} (hk : 10 ≤ k ∧ k ≤ 12) : RFr σ (sa_upI σ 159 k v) := ⟨rfl, fun j a => by rw [upI_ne a], fun k2 a => by rw [upI_self, va_up_ne _ _ (by omega)]⟩
theorem EV.fr {g w h m t : Nat} {σ τ : sa_St} (he : EV g w h m t σ) (hf : RFr σ τ) : EV g w h m t τ := by
  unfold EV at he ⊢
  rw [hf.2.1 163 (by omega)]
  exact he
/-- what reading a piece leaves: the letters as they stand -/
def RPo (T : Nat → Nat) (N R o d g w h m t : Nat) (σ : sa_St) (res : PRs) (r : Int32) (τ : sa_St) : Prop := RFr σ τ ∧ match res.2 with
  | none => τ.1 159 11 = nI res.1
  | some x => r = x.2 g w h m t ∧ RSt T N R o d res.1 τ
theorem RPo.fr {T : Nat → Nat} {N R o d g w h m t : Nat} {σ τ υ : sa_St} {res : PRs} {r : Int32} (hp : RPo T N R o d g w h m t τ res r υ) (hf : RFr σ τ) : RPo T N R o d g w h m t σ res r υ := ⟨hf.trans hp.1, hp.2⟩
section RSUM
variable {T : Nat → Nat} {N R o d p g w h m t : Nat} {σ : sa_St}
theorem RSt.nb (hs : RSt T N R o d p σ) : p ≤ N ∧ bk T N p = p := by
  obtain ⟨-, ⟨p', a, rfl, -⟩, -⟩ := hs
  exact ⟨bk_le a, bk_bk⟩
theorem RSt.at (hs : RSt T N R o d p σ) {q : Nat} (hq : q ≤ N) : RSt T N R o d (bk T N q) (sa_upI σ 159 10 (nI q)) := by
  obtain ⟨a, -, c, e⟩ := hs
  exact ⟨a.up (by omega), ⟨q, hq, rfl, by rw [upI_self, va_up_self]⟩, by rw [upI_self, va_up_ne _ _ (by omega)]; exact c, by rw [upI_self, va_up_ne _ _ (by omega)]; exact e⟩
theorem RSt.look (hs : RSt T N R o d p σ) : f_X12_look 159 σ = some (lkv T N p, sa_upI σ 159 10 (nI p)) ∧ RSt T N R o d p (sa_upI σ 159 10 (nI p)) ∧ (sa_upI σ 159 10 (nI p)).1 159 10 = nI p := by
  have h2 := hs.nb
  have h3 := hs.at h2.1
  rw [h2.2] at h3
  obtain ⟨a, ⟨p', b1, rfl, b3⟩, -⟩ := hs
  exact ⟨m_look a b1 b3, h3, by rw [upI_self, va_up_self]⟩
theorem lkv_eq (ht : RTp T N R o σ) {c : Nat} (hc : 0 < c) (hc2 : c < 256) : (lkv T N p = nI c) ↔ sgn T N p = c := by
  unfold lkv sgn
  split
  · exact nI_eq (by have := (ht.2.2.1 _ (by assumption)).2; omega) (by omega)
  · constructor
    · intro e
      have e' : nI c = mI := e.symm
      rw [eq_mI (by omega)] at e'
      exact e'.elim
    · intro e; omega
theorem am_ix (ht : RTp T N R o σ) {j : Nat} (hj : j < 10) : f_X12_isAmong (1000 + j) (lkv T N p) σ = some (nI (if (ixS j (sgn T N p)).isSome then 1 else 0), σ) := by
  rw [e_am hj]
  congr 3
  have hx : ∀ i, i < sa_slen.getD j 0 → (((sa_byt.getD j []).getD i 0 = lkv T N p) ↔ ((sa_byt.getD j []).getD i 0 = nI (sgn T N p))) := by
    intro i hi
    have h0 := (byt_lo j hj i hi).1
    generalize (sa_byt.getD j []).getD i 0 = b at *
    unfold lkv sgn
    split
    · exact Iff.rfl
    · constructor
      · intro e
        rw [e] at h0
        exact absurd h0 (by decide)
      · intro e
        rw [e] at h0
        exact absurd h0 (by decide)
  unfold ixS
  rcases find_range (p := fun i => decide ((sa_byt.getD j []).getD i 0 = nI (sgn T N p))) (sa_slen.getD j 0) with ⟨e1, e2⟩ | ⟨k, e1, e2, e3, e4⟩
  · rw [e1]
    have : (List.range (sa_slen.getD j 0)).any (fun i => decide ((sa_byt.getD j []).getD i 0 = lkv T N p)) = false := List.any_eq_false.mpr (fun y hy q => by
      have hy' := List.mem_range.mp hy
      exact absurd ((hx y hy').mp (of_decide_eq_true q)) (of_decide_eq_false (e2 y hy')))
    rw [this]
    rfl
  · rw [e2]
    have : (List.range (sa_slen.getD j 0)).any (fun i => decide ((sa_byt.getD j []).getD i 0 = lkv T N p)) = true := List.any_eq_true.mpr ⟨k, List.mem_range.mpr e1, decide_eq_true ((hx k e1).mpr (of_decide_eq_true e3))⟩
    rw [this]
    rfl
/-- it fails here -/
theorem RSt.fail (hs : RSt T N R o d p σ) (h10 : σ.1 159 10 = nI p) : f_X12_fails 159 σ = some (0, sa_upI σ 159 11 (nI p)) := by
  have := m_fails hs.2.2.1
  rw [h10] at this
  exact this
end RSUM
