/-! TEXTS: what a law is worth: every clause that was read is done by its moves -/
def CX (g w h m t : Nat) (c : CLs) : Prop := (∀ mc, c.1 = some mc → Exec g w h m t 32 mc.1 (mc.2 g w h m t)) ∧ Exec g w h m t 32 c.2.1 (c.2.2 g w h m t)
section CXS
variable {T : Nat → Nat} {N g w h m t : Nat}
theorem qm_cx (hb : g ≤ 99 ∧ w ≤ 9 ∧ h ≤ 9 ∧ m ≤ 3 ∧ t ≤ 100000) {c : PRs} (hc : RX g w h m t 32 p01 c) : ∀ x, (qmR T N c).2 = some x → CX g w h m t x := by
  intro x e
  obtain ⟨q, mm⟩ := c
  cases mm with
  | none => cases e
  | some mc =>
    unfold qmR at e
    dsimp only at e
    split at e
    · have hs := smD_ex (T := T) (N := N) hb 6 (bk T N (q + 1))
      generalize smD T N 6 (bk T N (q + 1)) = r1 at *
      obtain ⟨q1, m1⟩ := r1
      cases m1 with
      | none => cases e
      | some ms =>
        cases e
        exact ⟨fun mc2 e2 => by cases e2; exact (hc mc rfl).1, (hs ms rfl).1.mono (by omega)⟩
    · cases e
theorem cl_cx (hb : g ≤ 99 ∧ w ≤ 9 ∧ h ≤ 9 ∧ m ≤ 3 ∧ t ≤ 100000) {p : Nat} : ∀ x, (clP T N p).2 = some x → CX g w h m t x := by
  have hU := unD_ex (T := T) (N := N) hb 6
  intro x e
  unfold clP at e
  split at e
  · split at e
    · generalize bk T N (bk T N (p + 1) + 1) = q at e
      unfold clQ at e
      split at e
      · exact qm_cx hb ((coP_ex (T := T) (N := N) hU (by omega) q).mono (by omega)) x e
      · have hs := smD_ex (T := T) (N := N) hb 6 q
        generalize smD T N 6 q = r1 at *
        obtain ⟨q1, m1⟩ := r1
        cases m1 with
        | none => cases e
        | some ms =>
          dsimp only at e
          cases hi : ixS 3 (sgn T N q1) with
          | none =>
            rw [hi] at e
            cases e
            exact ⟨(fun mc2 e2 => by cases e2), (hs ms rfl).1.mono (by omega)⟩
          | some i =>
            rw [hi] at e
            exact qm_cx hb ((coF_ex (T := T) (N := N) hU (by omega) ((trF_ex (T := T) (N := N) hU (by omega) ((cmp_ex (T := T) (N := N) hb hs).mono (by omega))).mono (by omega))).mono (by omega)) x e
    · cases e
  · cases e
theorem lw_cx (hb : g ≤ 99 ∧ w ≤ 9 ∧ h ≤ 9 ∧ m ≤ 3 ∧ t ≤ 100000) : ∀ f p acc cs, (∀ c, c ∈ acc → CX g w h m t c) → (lwL T N f p acc).2 = some cs → ∀ c, c ∈ cs → CX g w h m t c := by
  intro f
  induction f with
  | zero => intro p acc cs _ e; cases e
  | succ f ih =>
    intro p acc cs ha e
    have hc := cl_cx (T := T) (N := N) (p := p) hb
    unfold lwL at e
    generalize clP T N p = r1 at *
    obtain ⟨q, m1⟩ := r1
    cases m1 with
    | none => cases e
    | some c1 =>
      have ha2 : ∀ c, c ∈ acc ++ [c1] → CX g w h m t c := fun c hc2 => by
        rw [List.mem_append, List.mem_singleton] at hc2
        rcases hc2 with hc2 | hc2
        · exact ha c hc2
        · rw [hc2]; exact hc c1 rfl
      dsimp only at e
      split at e
      · split at e
        · exact ih _ _ cs ha2 e
        · cases e
      · cases e
        exact ha2
end CXS
