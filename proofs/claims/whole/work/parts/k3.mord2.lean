/-! TEXTS: orders, by the reference: all of them -/
/-- what the reference may change: these cells, and which text it reads -/
def ZFr (A : Nat → Nat → Prop) (σ τ : sa_St) : Prop := (∀ a b, ¬ (a = 159 ∧ b = 5) → τ.2.1 a b = σ.2.1 a b) ∧ τ.2.2 = σ.2.2 ∧ ∀ j k, ¬ A j k → τ.1 j k = σ.1 j k
/-- the tape as the reference holds it -/
def RBy (T : Nat → Nat) (N : Nat) (σ : sa_St) : Prop := SK σ.2.1 ∧ N ≤ 240 ∧ (∀ i, i < N → 0 < T i ∧ T i < 256) ∧ σ.1 159 6 = nI N ∧ ∀ i, i < N → σ.1 160 i = vp_nar .byte (nI (T i))
section MORD2
variable {T : Nat → Nat} {N : Nat} {σ : sa_St}
theorem m_starts (h : RBy T N σ) : ∃ (S : sa_St) (d : Nat), f_X12_starts 159 160 0 (nI N) σ = some ((), S) ∧ RSt T N 160 0 d (bk T N 0) S ∧ (∀ a b, ¬ (a = 159 ∧ b = 5) → S.2.1 a b = σ.2.1 a b) ∧ S.2.2 = σ.2.2 ∧ (∀ j, j ≠ 159 → S.1 j = σ.1 j) ∧ ∀ k, k < 8 ∨ 11 < k → S.1 159 k = σ.1 159 k := by
  obtain ⟨hk, hN, hT, -, hb⟩ := h
  obtain ⟨d, hd⟩ := nI_sur (σ.1 159 12)
  generalize hS : sa_upI (sa_upI (sa_upI (sa_upI (sa_upR σ 159 5 161) 159 8 0) 159 9 (nI N)) 159 10 0) 159 11 (-1) = S
  have r5 : ∀ a b, ¬ (a = 159 ∧ b = 5) → S.2.1 a b = σ.2.1 a b := fun a b hab => by
    rw [← hS]
    show va_up σ.2.1 159 (va_up (σ.2.1 159) 5 161) a b = σ.2.1 a b
    by_cases e : a = 159
    · subst e
      rw [va_up_self, va_up_ne _ _ (fun e => hab ⟨rfl, e⟩)]
    · rw [va_up_ne _ _ e]
  have r5' : S.2.1 159 5 = 160 + 1 := by
    rw [← hS]
    show va_up σ.2.1 159 (va_up (σ.2.1 159) 5 161) 159 5 = 161
    rw [va_up_self, va_up_self]
  have hL : S.2.2 = σ.2.2 := by rw [← hS]; rfl
  have hj : ∀ j, j ≠ 159 → S.1 j = σ.1 j := fun j hj => by
    rw [← hS, upI_ne hj, upI_ne hj, upI_ne hj, upI_ne hj]
    rfl
  have hkk : ∀ k, k < 8 ∨ 11 < k → S.1 159 k = σ.1 159 k := fun k a => by
    rw [← hS, upI_self, va_up_ne _ _ (by omega), upI_self, va_up_ne _ _ (by omega), upI_self, va_up_ne _ _ (by omega), upI_self, va_up_ne _ _ (by omega)]
    rfl
  have f11 : S.1 159 11 = -1 := by rw [← hS, upI_self, va_up_self]
  have f10 : S.1 159 10 = nI 0 := by rw [← hS, upI_self, va_up_ne _ _ (by omega), upI_self, va_up_self]; rfl
  have f9 : S.1 159 9 = nI N := by rw [← hS, upI_self, va_up_ne _ _ (by omega), upI_self, va_up_ne _ _ (by omega), upI_self, va_up_self]
  have f8 : S.1 159 8 = nI 0 := by rw [← hS, upI_self, va_up_ne _ _ (by omega), upI_self, va_up_ne _ _ (by omega), upI_self, va_up_ne _ _ (by omega), upI_self, va_up_self]; rfl
  have run : f_X12_starts 159 160 0 (nI N) σ = some ((), S) := by
    refine run_to ?_
    unfold f_X12_starts
    rw [wp_gd]
    refine ⟨rfl, ?_⟩
    rw [wp_bnd, wp_wrR]
    refine ⟨rfl, ?_⟩
    rw [wp_bnd, wp_wrI]
    refine ⟨rfl, ?_⟩
    rw [wp_bnd, wp_wrI]
    refine ⟨rfl, ?_⟩
    rw [wp_bnd, wp_wrI]
    refine ⟨rfl, ?_⟩
    rw [wp_bnd, wp_wrI]
    refine ⟨rfl, ?_⟩
    rw [wp_ret]
    exact ⟨rfl, hS⟩
  clear hS
  exact ⟨S, d, run, ⟨⟨hk.of (fun a b c _ => r5 a b c), hN, hT, Or.inl ⟨rfl, rfl⟩, r5', f8, f9, fun i hi => by rw [hj 160 (by omega), Nat.zero_add]; exact hb i hi⟩, ⟨0, by omega, rfl, f10⟩, f11, by rw [hkk 12 (by omega)]; exact hd⟩, r5, hL, hj, hkk⟩
def OA (j k : Nat) : Prop := (j = 159 ∧ 8 ≤ k ∧ k ≤ 12) ∨ (j = 171 ∧ 192 ≤ k) ∨ (j = 172 ∧ 4 ≤ k)
theorem ORw.fr {r r2 : Nat → Int32} {acc : List STp} {o : Nat} (h : ORw o r acc) (e : r2 = r) : ORw o r2 acc := by rw [e]; exact h
theorem m_readOrd (h : RBy T N σ) : wp (f_X12_readOrders 159) σ (fun _ τ => ZFr OA σ τ ∧ match (orP T N).2 with
    | none => τ.1 159 11 = nI (orP T N).1
    | some xs => τ.1 159 11 = -1 ∧ τ.1 172 4 = nI xs.length ∧ ORw 192 (τ.1 171) xs) := by
  have h240 := h.2.1
  obtain ⟨S, d, run, hs, r5, hL, hj, hkk⟩ := m_starts h
  have zf : ∀ τ, QFr S τ → ZFr OA σ τ := fun τ fr => by
    refine ⟨fun a b c => by rw [fr.1]; exact r5 a b c, by rw [fr.1]; exact hL, fun j k hA => ?_⟩
    unfold OA at hA
    by_cases e1 : j = 159
    · subst e1
      rw [fr.2.2.1 k (by omega)]
      exact hkk k (by omega)
    · by_cases e2 : j = 171
      · subst e2
        rw [fr.2.2.2.1 k (by omega), hj 171 e1]
      · by_cases e3 : j = 172
        · subst e3
          rw [fr.2.2.2.2 k (by omega), hj 172 e1]
        · rw [fr.2.1 j e1 e2 e3, hj j e1]
  unfold f_X12_readOrders
  rw [wp_gd]
  refine ⟨rfl, ?_⟩
  rw [wp_bnd, wp_rdR (v := 160) rfl (sk_159_1 h.1), wp_bnd, wp_rdI, h.2.2.2.1]
  refine ⟨rfl, ?_⟩
  rw [wp_bnd, wp_of_eq run, wp_let, wp_let]
  refine wp_wh2 (fun m x5 x6 τ => QFr S τ ∧ ((∃ (f p : Nat) (acc : List STp), m = f + 1 ∧ x5 = nI acc.length ∧ x6 = 1 ∧ f + acc.length = 17 ∧ acc.length < 16 ∧ RSt T N 160 0 d p τ ∧ ORw 192 (τ.1 171) acc ∧ orL T N f p acc = orP T N) ∨ (∃ (q : Nat) (acc : List STp), m = 0 ∧ x5 = nI acc.length ∧ x6 = 0 ∧ RSt T N 160 0 d q τ ∧ ORw 192 (τ.1 171) acc ∧ orP T N = if q < N then (q, none) else (q, some acc)))) ?_ sa_F 18 0 1 S (by unfold sa_F; omega) ⟨QFr.rfl', Or.inl ⟨17, bk T N 0, [], rfl, rfl, rfl, rfl, by decide, hs, ORw.nil, rfl⟩⟩
  rintro m x5 x6 τ ⟨fr, hP⟩ j hjn
  rcases hP with ⟨f, p, acc, rfl, rfl, rfl, hf, hl, hst, hrw, hc⟩ | ⟨q, acc, -, rfl, rfl, hst, hrw, hc⟩
  · obtain ⟨f, rfl⟩ : ∃ f', f = f' + 1 := ⟨f - 1, by omega⟩
    have hun := orL_st (T := T) (N := N) (p := p) (f := f) (acc := acc)
    rw [hc] at hun
    have ea : 3 * (64 + nI acc.length) = nI (192 + 3 * acc.length) := by
      have e1 : (64 : Int32) + nI acc.length = nI (64 + acc.length) := nI_add 64 acc.length
      have e2 : (3 : Int32) * nI (64 + acc.length) = nI (3 * (64 + acc.length)) := pk_mul 3 (64 + acc.length)
      rw [e1, e2]
      congr 1
      omega
    rw [wp_if]
    refine ⟨fun q => absurd q (by decide), fun _ => ?_⟩
    rw [wp_bnd, ea]
    refine wp_mono (m_step hst hl) (fun _ τ2 hr => ?_)
    obtain ⟨fr2, hr⟩ := hr
    have fr3 := fr.trans fr2
    obtain ⟨a1, a2, a3⟩ := st_adv (T := T) hst.nb.1
    generalize stP T N p = r0 at *
    obtain ⟨q, mm⟩ := r0
    rw [wp_bnd, wp_rdI]
    refine ⟨rfl, ?_⟩
    rw [wp_if]
    cases mm with
    | none =>
      have hr' : τ2.1 159 11 = nI q := hr
      have hne : ¬ τ2.1 159 11 = -1 := fun e => by
        rw [hr'] at e
        have e' : nI q = mI := e
        rw [eq_mI (by dsimp only at a1; omega)] at e'
        exact e'
      refine ⟨fun q => absurd q hne, fun _ => ?_⟩
      rw [wp_ret, hun.1 rfl]
      exact ⟨zf _ fr3, hr'⟩
    | some s =>
      obtain ⟨hs2, hrow⟩ := hr
      have hun2 := hun.2 s rfl
      have hlen : (acc ++ [s]).length = acc.length + 1 := by rw [List.length_append, List.length_singleton]
      dsimp only at a1 a2 hs2 hun2
      have hrw2 := hrw.add (x := s) (c := 192 + 3 * acc.length) rfl
      rw [← hrow] at hrw2
      refine ⟨fun _ => ?_, fun q => absurd hs2.2.2.1 q⟩
      obtain ⟨hlk, hs3, x10⟩ := hs2.look
      have fr4 : QFr S (sa_upI τ2 159 10 (nI q)) := fr3.trans (RFr.up (by omega)).q
      have hrw3 : ORw 192 ((sa_upI τ2 159 10 (nI q)).1 171) (acc ++ [s]) := hrw2.fr (upI_ne (by omega))
      have e59 : (lkv T N q = 59) ↔ sgn T N q = 59 := lkv_eq (c := 59) hs2.1 (by omega) (by omega)
      rw [wp_let, nI_1, wp_bnd, wp_of_eq hlk, wp_jn1, wp_if, e59]
      generalize sa_upI τ2 159 10 (nI q) = τ3 at *
      unfold orK at hun2
      refine ⟨fun n59 => ?_, fun y59 => ?_⟩
      · rw [wp_jn0, wp_if]
        refine ⟨fun _ => ?_, fun q => absurd rfl q⟩
        rw [wp_if]
        refine ⟨fun _ => ?_, fun q => absurd rfl q⟩
        refine hjn 0 _ _ _ (by omega) ⟨fr4, Or.inr ⟨q, acc ++ [s], rfl, by rw [hlen], rfl, hs3, hrw3, ?_⟩⟩
        rw [hun2]
        by_cases hqN : q < N
        · rw [if_pos hqN, if_pos hqN]
          by_cases h16 : (acc ++ [s]).length = 16
          · rw [if_pos h16]
          · rw [if_neg h16, if_neg n59]
        · rw [if_neg hqN, if_neg hqN]
      · have h59 := Decidable.not_not.mp y59
        have hin := sgn_in (c := 59) (by omega) h59
        have e16 : (nI (acc.length + 1) = 16) ↔ acc.length + 1 = 16 := nI_eq (a := acc.length + 1) (b := 16) (by omega) (by omega)
        rw [if_pos hin.1] at hun2
        rw [wp_jn0, wp_if]
        refine ⟨fun q => absurd q (by decide), fun _ => ?_⟩
        rw [wp_if, e16]
        refine ⟨fun n16 => ?_, fun y16 => ?_⟩
        · rw [if_neg (show ¬ (acc ++ [s]).length = 16 by omega), if_pos h59] at hun2
          rw [wp_if]
          refine ⟨fun q => absurd q (by decide), fun _ => ?_⟩
          rw [wp_bnd, wp_rdI, x10]
          refine ⟨rfl, ?_⟩
          rw [wp_bnd, wp_wrI, nI_1]
          refine ⟨rfl, ?_⟩
          refine hjn (f + 1) _ _ _ (by omega) ⟨fr4.trans (RFr.up (by omega)).q, Or.inl ⟨f, bk T N (q + 1), acc ++ [s], rfl, by rw [hlen], rfl, by omega, by omega, hs3.at (by omega), hrw3.fr (upI_ne (by omega)), hun2.symm⟩⟩
        · have h16 := Decidable.not_not.mp y16
          rw [if_pos (by omega)] at hun2
          rw [wp_bnd, wp_of_eq (hs3.fail x10), wp_ret, hun2]
          exact ⟨zf _ (fr4.trans (RFr.up (by omega)).q), by dsimp only; rw [upI_self, va_up_self]⟩
  · have hk2 := hst.1.1
    rw [wp_if]
    refine ⟨fun _ => ?_, fun q => absurd rfl q⟩
    rw [wp_bnd, wp_rdR (v := 172) rfl (sk_159_33 hk2), wp_bnd, wp_stI (j := 4) (n := 4) (len := 5) al_172 rfl (by omega) (by omega)]
    have hs1 := hst.arr (A := 172) (k := 4) (v := nI acc.length) (by omega)
    have fr1 : QFr S (sa_upI τ 172 4 (nI acc.length)) := fr.trans QFr.n
    have hz : (sa_upI τ 172 4 (nI acc.length)).1 172 4 = nI acc.length := by rw [upI_self, va_up_self]
    have hrw1 : ORw 192 ((sa_upI τ 172 4 (nI acc.length)).1 171) acc := hrw.fr (upI_ne (by omega))
    generalize sa_upI τ 172 4 (nI acc.length) = τ1 at *
    obtain ⟨hlk, hs2, x10⟩ := hs1.look
    have fr2 : QFr S (sa_upI τ1 159 10 (nI q)) := fr1.trans (RFr.up (by omega)).q
    rw [wp_bnd, wp_of_eq hlk, wp_jn0, wp_if]
    by_cases hqN : q < N
    · rw [if_pos hqN] at hc
      have hne : ¬ lkv T N q = -1 := fun e => by
        unfold lkv at e
        rw [if_pos hqN] at e
        have e' : nI (T q) = mI := e
        rw [eq_mI (by have := (hst.1.2.2.1 q hqN).2; omega)] at e'
        exact e'
      refine ⟨fun q => absurd q hne, fun _ => ?_⟩
      rw [wp_bnd, wp_of_eq (hs2.fail x10), wp_ret, hc]
      exact ⟨zf _ (fr2.trans (RFr.up (by omega)).q), by dsimp only; rw [upI_self, va_up_self]⟩
    · rw [if_neg hqN] at hc
      have hy : lkv T N q = -1 := by unfold lkv; rw [if_neg hqN]; rfl
      refine ⟨fun _ => ?_, fun q => absurd hy q⟩
      rw [wp_ret, hc]
      refine ⟨zf _ fr2, hs2.2.2.1, ?_, hrw1.fr (upI_ne (by omega))⟩
      rw [upI_ne (by omega)]
      exact hz
end MORD2
