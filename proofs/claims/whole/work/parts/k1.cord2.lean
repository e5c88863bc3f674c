/-! TEXTS: orders, by the class: all of them -/
def StOk (x : STp) : Prop := x.1 < 6 ∧ (if x.1 < 4 then ∃ d, d ≤ 9 ∧ x.2.1 = nI d else x.2.1 = -1) ∧ (if x.1 < 2 then ∃ d, d ≤ 9 ∧ x.2.2 = nI d else x.2.2 = -1)
/-- these steps lie from o on -/
def ORw (o : Nat) (r : Nat → Int32) (acc : List STp) : Prop := ∀ i, i < acc.length → r (o + 3 * i) = nI (acc.getD i (0, 0, 0)).1 ∧ r (o + 3 * i + 1) = (acc.getD i (0, 0, 0)).2.1 ∧ r (o + 3 * i + 2) = (acc.getD i (0, 0, 0)).2.2
theorem ORw.add {o c : Nat} {r : Nat → Int32} {acc : List STp} {x : STp} (h : ORw o r acc) (hc : c = o + 3 * acc.length) : ORw o (va_up (va_up (va_up r c (nI x.1)) (c + 1) x.2.1) (c + 2) x.2.2) (acc ++ [x]) := by
  intro i hi
  rw [List.length_append, List.length_singleton] at hi
  by_cases e : i = acc.length
  · subst e
    have hg : (acc ++ [x]).getD acc.length (0, 0, 0) = x := by
      rw [List.getD_eq_getElem?_getD, List.getElem?_append_right (Nat.le_refl _), Nat.sub_self]
      rfl
    rw [hg, ← hc]
    refine ⟨?_, ?_, ?_⟩
    · rw [va_up_ne _ _ (by omega), va_up_ne _ _ (by omega), va_up_self]
    · rw [va_up_ne _ _ (by omega), va_up_self]
    · rw [va_up_self]
  · have hg : (acc ++ [x]).getD i (0, 0, 0) = acc.getD i (0, 0, 0) := by
      rw [List.getD_eq_getElem?_getD, List.getD_eq_getElem?_getD, List.getElem?_append_left (by omega)]
    obtain ⟨a, b, d⟩ := h i (by omega)
    rw [hg]
    refine ⟨?_, ?_, ?_⟩
    · rw [va_up_ne _ _ (by omega), va_up_ne _ _ (by omega), va_up_ne _ _ (by omega)]; exact a
    · rw [va_up_ne _ _ (by omega), va_up_ne _ _ (by omega), va_up_ne _ _ (by omega)]; exact b
    · rw [va_up_ne _ _ (by omega), va_up_ne _ _ (by omega), va_up_ne _ _ (by omega)]; exact d
theorem ORw.nil {o : Nat} {r : Nat → Int32} : ORw o r [] := fun i hi => absurd hi (Nat.not_lt_zero i)
section CORD2
variable {T : Nat → Nat} {N n p q : Nat} {σ : sa_St}
theorem orL_st {f : Nat} {acc : List STp} : ((stP T N p).2 = none → orL T N (f + 1) p acc = ((stP T N p).1, none)) ∧ ∀ s, (stP T N p).2 = some s → orL T N (f + 1) p acc = orK T N (orL T N f) (stP T N p).1 (acc ++ [s]) := by
  have hun : orL T N (f + 1) p acc = match (stP T N p).2 with
    | none => ((stP T N p).1, none)
    | some s => orK T N (orL T N f) (stP T N p).1 (acc ++ [s]) := rfl
  refine ⟨fun e => ?_, fun c e => ?_⟩
  · rw [hun, e]
  · rw [hun, e]
theorem or_ok : ∀ (f p : Nat) (acc xs : List STp), p ≤ N → acc.length < 16 → (∀ x, x ∈ acc → StOk x) → (orL T N f p acc).2 = some xs → (1 ≤ xs.length ∧ xs.length ≤ 16) ∧ ∀ x, x ∈ xs → StOk x := by
  intro f
  induction f with
  | zero => intro p acc xs _ _ _ e; cases e
  | succ f ih =>
    intro p acc xs hp hl ha e
    have hst := orL_st (T := T) (N := N) (p := p) (f := f) (acc := acc)
    obtain ⟨a1, a2, a3⟩ := st_adv (T := T) hp
    generalize stP T N p = r0 at *
    obtain ⟨q, m⟩ := r0
    cases m with
    | none => rw [hst.1 rfl] at e; cases e
    | some s =>
      rw [hst.2 s rfl] at e
      have hs : StOk s := (a3 s rfl).2
      dsimp only at a1 a2 e
      have ha2 : ∀ x, x ∈ acc ++ [s] → StOk x := fun x hx => by
        rw [List.mem_append, List.mem_singleton] at hx
        rcases hx with hx | hx
        · exact ha x hx
        · rw [hx]; exact hs
      have hlen : (acc ++ [s]).length = acc.length + 1 := by rw [List.length_append, List.length_singleton]
      unfold orK at e
      by_cases hqN : q < N
      · rw [if_pos hqN] at e
        by_cases h16 : (acc ++ [s]).length = 16
        · rw [if_pos h16] at e; cases e
        · rw [if_neg h16] at e
          by_cases h59 : sgn T N q = 59
          · rw [if_pos h59] at e
            exact ih _ _ xs (bk_le (by omega)) (by omega) ha2 e
          · rw [if_neg h59] at e; cases e
      · rw [if_neg hqN] at e
        cases e
        exact ⟨by omega, ha2⟩
theorem c_readOrd (hn : n < 5) (ct : CTp T N σ) : wp (f_X4_readFrom (34 + 2 * n) 1) σ (fun r τ => TFr (34 + 2 * n) (35 + 2 * n) σ τ ∧ match (orP T N).2 with
    | none => r = 0 ∧ τ.1 1 2 = nI (orP T N).1
    | some xs => r = 1 ∧ τ.1 (34 + 2 * n) 1 = nI xs.length ∧ ORw 0 (τ.1 (35 + 2 * n)) xs) := by
  have h240 := ct.2.1
  have fr1 : TFr (34 + 2 * n) (35 + 2 * n) σ (sa_upI σ (34 + 2 * n) 1 0) := TFr.a (by omega)
  have ct1 := ct.tf fr1 (by omega) (by omega)
  have hb0 := bk_le (T := T) (N := N) (p := 0) (by omega)
  unfold f_X4_readFrom
  rw [wp_gd]
  refine ⟨sh_ord n hn, ?_⟩
  rw [wp_bnd, wp_wrI]
  refine ⟨sh_ord n hn, ?_⟩
  rw [wp_bnd, wp_of_eq (c_rewind ct1)]
  have fr2 : TFr (34 + 2 * n) (35 + 2 * n) σ (sa_upI (sa_upI σ (34 + 2 * n) 1 0) 1 2 (nI (bk T N 0))) := fr1.trans TFr.at
  have p2 : (sa_upI (sa_upI σ (34 + 2 * n) 1 0) 1 2 (nI (bk T N 0))).1 1 2 = nI (bk T N 0) := by rw [upI_self, va_up_self]
  have z2 : (sa_upI (sa_upI σ (34 + 2 * n) 1 0) 1 2 (nI (bk T N 0))).1 (34 + 2 * n) 1 = nI 0 := by rw [upI_ne (by omega), upI_self, va_up_self]; rfl
  generalize sa_upI (sa_upI σ (34 + 2 * n) 1 0) 1 2 (nI (bk T N 0)) = σ1 at *
  refine wp_wh0 (fun f τ => ∃ (p : Nat) (acc : List STp), f + acc.length = 17 ∧ acc.length < 16 ∧ p ≤ N ∧ TFr (34 + 2 * n) (35 + 2 * n) σ τ ∧ τ.1 1 2 = nI p ∧ τ.1 (34 + 2 * n) 1 = nI acc.length ∧ ORw 0 (τ.1 (35 + 2 * n)) acc ∧ orL T N f p acc = orP T N) ?_ sa_F 17 σ1 (by unfold sa_F; omega) ⟨bk T N 0, [], rfl, by decide, hb0, fr2, p2, z2, ORw.nil, rfl⟩
  rintro f τ ⟨p, acc, hf, hl, hp, fr, hpos, hz, hrw, hc⟩ j hj
  obtain ⟨f, rfl⟩ : ∃ f', f = f' + 1 := ⟨f - 1, by omega⟩
  have ctt := ct.tf fr (by omega) (by omega)
  have hst := orL_st (T := T) (N := N) (p := p) (f := f) (acc := acc)
  rw [hc] at hst
  obtain ⟨a1, a2, a3⟩ := st_adv (T := T) hp
  have e16 : ¬ (16 : Int32) ≤ nI acc.length := fun h => by
    have : 16 ≤ acc.length := (nI_leI (a := 16) (b := acc.length) (by omega) (by omega)).mp h
    omega
  rw [wp_bnd, wp_rdI, hz]
  refine ⟨sh_ord n hn, ?_⟩
  rw [wp_if]
  refine ⟨fun q => absurd q e16, fun _ => ?_⟩
  rw [wp_bnd]
  refine wp_mono (c_ostep hn ctt hp hpos hl hz) (fun r τ2 hr => ?_)
  obtain ⟨frS, hp2, hz2, hr⟩ := hr
  have fr3 := fr.trans frS
  have ct3 := ct.tf fr3 (by omega) (by omega)
  generalize stP T N p = r0 at *
  obtain ⟨q, m⟩ := r0
  cases m with
  | none =>
    have hr' : r = 0 := hr
    subst hr'
    rw [wp_if]
    refine ⟨fun q => absurd rfl q, fun _ => ?_⟩
    rw [wp_retZ, hst.1 rfl]
    exact ⟨Or.inl rfl, fr3, rfl, hp2⟩
  | some s =>
    obtain ⟨rfl, hrow⟩ := hr
    have hst2 := hst.2 s rfl
    have hlen : (acc ++ [s]).length = acc.length + 1 := by rw [List.length_append, List.length_singleton]
    dsimp only at a1 a2 hp2 hst2
    have hrw2 := hrw.add (x := s) (c := 3 * acc.length) (by omega)
    rw [← hrow] at hrw2
    rw [wp_if]
    refine ⟨fun _ => ?_, fun q => absurd (show ¬ (1 : Int32) = 0 by decide) q⟩
    rw [wp_bnd, wp_rdI, hz2, hz]
    refine ⟨sh_ord n hn, ?_⟩
    rw [wp_bnd, wp_wrI, nI_1]
    refine ⟨sh_ord n hn, ?_⟩
    have fr4 : TFr (34 + 2 * n) (35 + 2 * n) σ (sa_upI τ2 (34 + 2 * n) 1 (nI (acc.length + 1))) := fr3.trans (TFr.a (by omega))
    have p4 : (sa_upI τ2 (34 + 2 * n) 1 (nI (acc.length + 1))).1 1 2 = nI q := by rw [upI_ne (by omega)]; exact hp2
    have z4 : (sa_upI τ2 (34 + 2 * n) 1 (nI (acc.length + 1))).1 (34 + 2 * n) 1 = nI (acc.length + 1) := by rw [upI_self, va_up_self]
    have w4 : ORw 0 ((sa_upI τ2 (34 + 2 * n) 1 (nI (acc.length + 1))).1 (35 + 2 * n)) (acc ++ [s]) := by rw [upI_ne (by omega)]; exact hrw2
    generalize sa_upI τ2 (34 + 2 * n) 1 (nI (acc.length + 1)) = τ3 at *
    have ct4 := ct.tf fr4 (by omega) (by omega)
    rw [wp_bnd, wp_of_eq (c_ended ct4 a1 p4), wp_if]
    unfold orK at hst2
    by_cases hqN : q < N
    · rw [if_pos hqN] at hst2 ⊢
      refine ⟨fun _ => ?_, fun q => absurd rfl q⟩
      have e2 : (nI (acc.length + 1) = 16) ↔ acc.length + 1 = 16 := nI_eq (a := acc.length + 1) (b := 16) (by omega) (by omega)
      rw [wp_bnd, wp_rdI, z4]
      refine ⟨sh_ord n hn, ?_⟩
      rw [wp_jn0, wp_if, e2]
      refine ⟨fun h16 => ?_, fun h16 => ?_⟩
      · rw [if_pos (by omega)] at hst2
        rw [wp_retZ, hst2]
        exact ⟨Or.inl rfl, fr4, rfl, p4⟩
      · rw [if_neg (show ¬ (acc ++ [s]).length = 16 by omega)] at hst2
        have htk := c_take (c := 59) ct4 a1 p4 (by omega) (by omega)
        by_cases h59 : sgn T N q = 59
        · have hle := bk_le (T := T) (N := N) (p := q + 1) (by omega)
          rw [if_pos h59] at htk hst2
          rw [wp_bnd, wp_of_eq (show f_X7_take 1 59 τ3 = _ from htk), wp_if]
          refine ⟨fun _ => ?_, fun q => absurd (show ¬ nI 1 = 0 by decide) q⟩
          refine hj f _ (by omega) ⟨bk T N (q + 1), acc ++ [s], by omega, by omega, hle, fr4.trans TFr.at, by rw [upI_self, va_up_self], ?_, ?_, hst2.symm⟩
          · rw [upI_ne (by omega), z4, hlen]
          · rw [upI_ne (by omega)]; exact w4
        · rw [if_neg h59] at htk hst2
          rw [wp_bnd, wp_of_eq (show f_X7_take 1 59 τ3 = _ from htk), wp_if]
          refine ⟨fun q => absurd rfl q, fun _ => ?_⟩
          rw [wp_retZ, hst2]
          exact ⟨Or.inl rfl, fr4, rfl, p4⟩
    · rw [if_neg hqN] at hst2 ⊢
      refine ⟨fun q => absurd q (by decide), fun _ => ?_⟩
      rw [wp_retZ, hst2]
      exact ⟨Or.inr rfl, fr4, rfl, by rw [hlen]; exact z4, w4⟩
end CORD2
