/-! TEXTS: a law gone through, by the reference -/
def lwK (T : Nat → Nat) (N f q : Nat) (acc : List CLs) : Nat × Option (List CLs) := if q < N then (if sgn T N q = 59 then lwL T N f (bk T N (q + 1)) acc else (q, none)) else (q, some acc)
section RTH
variable {T : Nat → Nat} {N R o p g w h m t : Nat} {σ : sa_St}
theorem lwL_st {f : Nat} {acc : List CLs} : ((clP T N p).2 = none → lwL T N (f + 1) p acc = ((clP T N p).1, none)) ∧ ∀ c, (clP T N p).2 = some c → lwL T N (f + 1) p acc = lwK T N f (clP T N p).1 (acc ++ [c]) := by
  have hun : lwL T N (f + 1) p acc = match (clP T N p).2 with
    | none => ((clP T N p).1, none)
    | some c => if (clP T N p).1 < N then (if sgn T N (clP T N p).1 = 59 then lwL T N f (bk T N ((clP T N p).1 + 1)) (acc ++ [c]) else ((clP T N p).1, none)) else ((clP T N p).1, some (acc ++ [c])) := rfl
  refine ⟨fun e => ?_, fun c e => ?_⟩
  · rw [hun, e]
  · rw [hun, e]
    rfl
theorem m_loop {σ0 : sa_St} (hN : N ≤ 240) (he : EV g w h m t σ0) {r0 : Nat × Option CLs} (e0 : r0 = clP T N (bk T N 0)) (h0 : RCo T N R o g w h m t none σ0 r0 σ) : wp (sa_wh0 (fun j32  =>
sa_bnd (sa_rdI 12 159 11) fun v1 =>
sa_jn0 (sa_bnd (sa_rdI 12 159 11) fun v2 =>
sa_jn0 (sa_ret ()) fun j87 =>
if ¬ v2 = (-1) then
j87
else
sa_bnd (f_X12_look 159) fun v3 =>
if v3 = (-1) then
j87
else
sa_bnd (f_X12_fails 159) fun v4 =>
j87) fun j66 =>
if ¬ v1 = (-1) then
j66
else
sa_bnd (f_X12_look 159) fun v5 =>
if ¬ v5 = 59 then
j66
else
sa_bnd (sa_rdI 12 159 10) fun v6 =>
sa_bnd (sa_wrI 12 159 10 (v6 + 1)) fun _ =>
sa_bnd (f_X12_clause 159) fun _ =>
j32) sa_F ) σ (fun _ τ => GFr σ0 τ ∧ match (lwP T N).2 with
    | none => τ.1 159 11 = nI (lwP T N).1
    | some cs => τ.1 159 11 = -1 ∧ τ.1 159 14 = (cs.foldl (clV g w h m t) none).getD 0) := by
  have hb0 := bk_le (T := T) (N := N) (p := 0) (by omega)
  have ad0 := cl_adv' (T := T) hb0
  have hst0 := lwL_st (T := T) (N := N) (p := bk T N 0) (f := N) (acc := [])
  rw [← e0] at ad0 hst0
  have hlw : lwP T N = lwL T N (N + 1) (bk T N 0) [] := rfl
  refine wp_wh0 (fun mm τ => GFr σ0 τ ∧ ((mm = 0 ∧ ∃ q, q ≤ N ∧ τ.1 159 11 = nI q ∧ lwP T N = (q, none)) ∨ ∃ (f q : Nat) (acc : List CLs), mm = f + 1 ∧ N - q ≤ f ∧ RSt T N R o 0 q τ ∧ GSt (acc.foldl (clV g w h m t) none) τ ∧ lwP T N = lwK T N f q acc)) ?_ sa_F (if r0.2.isSome then N + 1 else 0) σ (by unfold sa_F; split <;> omega) ?_
  · rintro mm τ ⟨fr, hP⟩ j hj
    rcases hP with ⟨-, q, hq, e11, hc⟩ | ⟨f, q, acc, rfl, hf, hs, hg, hc⟩
    · have h11 : ¬ τ.1 159 11 = -1 := fun e => by
        rw [e11] at e
        have e' : nI q = mI := e
        rw [eq_mI (by omega)] at e'
        exact e'
      rw [wp_bnd, wp_rdI]
      refine ⟨rfl, ?_⟩
      rw [wp_jn0, wp_if]
      refine ⟨fun _ => ?_, fun q => absurd h11 q⟩
      rw [wp_bnd, wp_rdI]
      refine ⟨rfl, ?_⟩
      rw [wp_jn0, wp_if]
      refine ⟨fun _ => ?_, fun q => absurd h11 q⟩
      rw [wp_ret, hc]
      exact ⟨fr, e11⟩
    · obtain ⟨hlk, hs1, x10⟩ := hs.look
      have hqN := hs.nb.1
      have fr1 : RFr τ (sa_upI τ 159 10 (nI q)) := RFr.up (by omega)
      have hlk2 := hs1.look.1
      rw [upI_two] at hlk2
      have e59 : (lkv T N q = 59) ↔ sgn T N q = 59 := lkv_eq (c := 59) hs.1 (by omega) (by omega)
      rw [wp_bnd, wp_rdI, hs.2.2.1]
      refine ⟨rfl, ?_⟩
      rw [wp_jn0, wp_if]
      refine ⟨fun q => absurd rfl q, fun _ => ?_⟩
      rw [wp_bnd, wp_of_eq hlk, wp_if, e59]
      refine ⟨fun n59 => ?_, fun y59 => ?_⟩
      · rw [wp_bnd, wp_rdI, hs1.2.2.1]
        refine ⟨rfl, ?_⟩
        rw [wp_jn0, wp_if]
        refine ⟨fun q => absurd rfl q, fun _ => ?_⟩
        rw [wp_bnd, wp_of_eq hlk2, wp_if]
        unfold lwK at hc
        by_cases hqq : q < N
        · rw [if_pos hqq, if_neg n59] at hc
          have hne : ¬ lkv T N q = -1 := fun e => by
            unfold lkv at e
            rw [if_pos hqq] at e
            have e' : nI (T q) = mI := e
            rw [eq_mI (by have := (hs.1.2.2.1 q hqq).2; omega)] at e'
            exact e'
          refine ⟨fun q => absurd q hne, fun _ => ?_⟩
          rw [wp_bnd, wp_of_eq (hs1.fail x10), wp_ret, hc]
          exact ⟨fr.trans (fr1.trans (RFr.up (by omega))).g, by dsimp only; rw [upI_self, va_up_self]⟩
        · rw [if_neg hqq] at hc
          have hy : lkv T N q = -1 := by unfold lkv; rw [if_neg hqq]; rfl
          refine ⟨fun _ => ?_, fun q => absurd hy q⟩
          rw [wp_ret, hc]
          exact ⟨fr.trans fr1.g, hs1.2.2.1, (hg.fr fr1).2.1⟩
      · have h59 := Decidable.not_not.mp y59
        have hin := sgn_in (c := 59) (by omega) h59
        unfold lwK at hc
        rw [if_pos hin.1, if_pos h59] at hc
        have hge := bk_ge (T := T) (N := N) (p := q + 1)
        have hle := bk_le (T := T) (N := N) (p := q + 1) (by omega)
        obtain ⟨f, rfl⟩ : ∃ f', f = f' + 1 := ⟨f - 1, by omega⟩
        have ad := cl_adv' (T := T) hle
        have hst := lwL_st (T := T) (N := N) (p := bk T N (q + 1)) (f := f) (acc := acc)
        rw [wp_bnd, wp_rdI, x10]
        refine ⟨rfl, ?_⟩
        rw [wp_bnd, wp_wrI, nI_1, upI_two]
        refine ⟨rfl, ?_⟩
        have fr2 : RFr τ (sa_upI τ 159 10 (nI (q + 1))) := RFr.up (by omega)
        have hs2 := hs.at (q := q + 1) (by omega)
        have fr3 := fr.trans fr2.g
        rw [wp_bnd]
        refine wp_mono (m_clause hs2 (hg.fr fr2) (he.gf fr3)) (fun _ τ2 hr => ?_)
        obtain ⟨fr4, hr⟩ := hr
        have fr5 := fr3.trans fr4
        generalize clP T N (bk T N (q + 1)) = r1 at *
        obtain ⟨q1, m1⟩ := r1
        cases m1 with
        | none => exact hj 0 _ (by omega) ⟨fr5, Or.inl ⟨rfl, q1, ad.1, hr, hc.trans (hst.1 rfl)⟩⟩
        | some c =>
          obtain ⟨hs3, hg3⟩ := hr
          have a3 := (ad.2.2 c rfl).1
          dsimp only at a3 hs3
          refine hj (f + 1) _ (by omega) ⟨fr5, Or.inr ⟨f, q1, acc ++ [c], rfl, by omega, hs3, ?_, hc.trans (hst.2 c rfl)⟩⟩
          rw [List.foldl_append]
          exact hg3
  · obtain ⟨fr, hr⟩ := h0
    obtain ⟨q, mm⟩ := r0
    cases mm with
    | none => exact ⟨fr, Or.inl ⟨rfl, q, ad0.1, hr, hlw.trans (hst0.1 rfl)⟩⟩
    | some c =>
      obtain ⟨hs, hg⟩ := hr
      exact ⟨fr, Or.inr ⟨N, q, [c], rfl, by omega, hs, hg, hlw.trans (hst0.2 c rfl)⟩⟩
end RTH
