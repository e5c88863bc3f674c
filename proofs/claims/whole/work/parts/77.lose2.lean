/-! WHAT IS LOST ON A GROUND, and that it doesn't matter in which order -/
def cL (C : C3) (i : Nat) (v : Int32) (p : Nat) : C3 := (fun x => if x = 23 + 7 * i + 2 then C.1 (23 + 7 * i + 2) - v else if x = p then C.1 p + v else if x = 8 + p then (if C.1 (23 + 7 * i + 2) - v = nI 0 then C.1 (8 + p) ||| C.1 (23 + 7 * i + 5) else C.1 (8 + p)) else if x = 23 + 7 * i + 5 then (if C.1 (23 + 7 * i + 2) - v = nI 0 then nI 0 else C.1 (23 + 7 * i + 5)) else C.1 x, C.2.1 + v, if C.1 (23 + 7 * i + 2) - v = nI 0 then C.2.2 + nI 1 else C.2.2)
theorem c_lose_cL {C : C3} {i p : Nat} {n : Int32} (hp : p < 8) : c_lose C i n (some p) = cL C i (sa_min n (C.1 (23 + 7 * i + 2))) p := by
  unfold c_lose cL
  by_cases h0 : C.1 (23 + 7 * i + 2) - sa_min n (C.1 (23 + 7 * i + 2)) = 0
  · have h : C.1 (23 + 7 * i + 2) - sa_min n (C.1 (23 + 7 * i + 2)) = nI 0 := h0
    simp only [Option.getD_some, if_pos h0, if_pos h]
    refine Prod.ext (funext fun x => ?_) rfl
    show va_up _ _ _ x = ite _ _ _
    by_cases e1 : x = 23 + 7 * i + 5
    · subst e1; simp (disch := omega) only [va_up_self, dT_eq, dF_eq, if_true, if_false]; rfl
    rw [va_up_ne _ _ e1]
    by_cases e2 : x = 8 + p
    · subst e2; simp (disch := omega) only [va_up_self, dT_eq, dF_eq, if_true, if_false]
    rw [va_up_ne _ _ e2]
    by_cases e3 : x = p
    · subst e3; simp (disch := omega) only [va_up_self, dT_eq, dF_eq, if_true, if_false]
    rw [va_up_ne _ _ e3]
    by_cases e4 : x = 23 + 7 * i + 2
    · subst e4; simp (disch := omega) only [va_up_self, dT_eq, dF_eq, if_true, if_false]
    rw [va_up_ne _ _ e4, if_neg e4, if_neg e3, if_neg e2, if_neg e1]
  · have h : ¬ C.1 (23 + 7 * i + 2) - sa_min n (C.1 (23 + 7 * i + 2)) = nI 0 := h0
    simp only [Option.getD_some, if_neg h0, if_neg h]
    refine Prod.ext (funext fun x => ?_) rfl
    show va_up _ _ _ x = ite _ _ _
    by_cases e3 : x = p
    · subst e3; simp (disch := omega) only [va_up_self, dT_eq, dF_eq, if_true, if_false]
    rw [va_up_ne _ _ e3]
    by_cases e4 : x = 23 + 7 * i + 2
    · subst e4; simp (disch := omega) only [va_up_self, dT_eq, dF_eq, if_true, if_false]
    rw [va_up_ne _ _ e4, if_neg e4, if_neg e3]
    by_cases e2 : x = 8 + p
    · subst e2; rw [if_pos rfl]
    rw [if_neg e2]
    by_cases e1 : x = 23 + 7 * i + 5
    · subst e1; rw [if_pos rfl]
    rw [if_neg e1]
section CL
variable {C : C3} {i j p q : Nat} {v w : Int32}
/-- of another company, and of what else stands in the row, nothing changes -/
theorem cL_own (hij : i ≠ j) (hp : p < 8) {x : Nat} (hx : x < 7) : (cL C i v p).1 (23 + 7 * j + x) = C.1 (23 + 7 * j + x) := by
  show (if _ then _ else _) = _
  rw [if_neg (by omega), if_neg (by omega), if_neg (by omega), if_neg (by omega)]
theorem cL_self (hp : p < 8) {x : Nat} (hx : x < 7) (h2 : x ≠ 2) (h5 : x ≠ 5) : (cL C i v p).1 (23 + 7 * i + x) = C.1 (23 + 7 * i + x) := by
  show (if _ then _ else _) = _
  rw [if_neg (by omega), if_neg (by omega), if_neg (by omega), if_neg (by omega)]
theorem cL_mid (hp : p < 8) {x : Nat} (hx : (16 ≤ x ∧ x < 23) ∨ (i < 8 ∧ 79 ≤ x)) : (cL C i v p).1 x = C.1 x := by
  show (if _ then _ else _) = _
  rw [if_neg (by omega), if_neg (by omega), if_neg (by omega), if_neg (by omega)]
theorem a3c (a b c : Int32) : a + b + c = a + c + b := by rw [Int32.add_assoc, Int32.add_comm b c, ← Int32.add_assoc]
theorem o3c (a b c : Int32) : a ||| b ||| c = a ||| c ||| b := by rw [Int32.or_assoc, Int32.or_comm b c, ← Int32.or_assoc]
theorem cL_g (hp : p < 8) : (cL C i v p).1 (23 + 7 * i + 2) = C.1 (23 + 7 * i + 2) - v := by
  show (if _ then _ else _) = _
  rw [if_pos rfl]
theorem cL_comm (hij : i ≠ j) (hp : p < 8) (hq : q < 8) : cL (cL C i v p) j w q = cL (cL C j w q) i v p := by
  have e1 : (cL C i v p).1 (23 + 7 * j + 2) = C.1 (23 + 7 * j + 2) := cL_own hij hp (by omega)
  have e2 : (cL C j w q).1 (23 + 7 * i + 2) = C.1 (23 + 7 * i + 2) := cL_own (Ne.symm hij) hq (by omega)
  have e3 : (cL C i v p).1 (23 + 7 * j + 5) = C.1 (23 + 7 * j + 5) := cL_own hij hp (by omega)
  have e4 : (cL C j w q).1 (23 + 7 * i + 5) = C.1 (23 + 7 * i + 5) := cL_own (Ne.symm hij) hq (by omega)
  refine Prod.ext (funext fun x => ?_) (Prod.ext ?_ ?_)
  · show (if x = 23 + 7 * j + 2 then (cL C i v p).1 (23 + 7 * j + 2) - w else if x = q then (cL C i v p).1 q + w else if x = 8 + q then (if (cL C i v p).1 (23 + 7 * j + 2) - w = nI 0 then (cL C i v p).1 (8 + q) ||| (cL C i v p).1 (23 + 7 * j + 5) else (cL C i v p).1 (8 + q)) else if x = 23 + 7 * j + 5 then (if (cL C i v p).1 (23 + 7 * j + 2) - w = nI 0 then nI 0 else (cL C i v p).1 (23 + 7 * j + 5)) else (cL C i v p).1 x) = (if x = 23 + 7 * i + 2 then (cL C j w q).1 (23 + 7 * i + 2) - v else if x = p then (cL C j w q).1 p + v else if x = 8 + p then (if (cL C j w q).1 (23 + 7 * i + 2) - v = nI 0 then (cL C j w q).1 (8 + p) ||| (cL C j w q).1 (23 + 7 * i + 5) else (cL C j w q).1 (8 + p)) else if x = 23 + 7 * i + 5 then (if (cL C j w q).1 (23 + 7 * i + 2) - v = nI 0 then nI 0 else (cL C j w q).1 (23 + 7 * i + 5)) else (cL C j w q).1 x)
    rw [e1, e2, e3, e4]
    by_cases c1 : x = 23 + 7 * j + 2
    · subst c1
      simp (disch := omega) only [cL, dT_eq, dF_eq, if_true, if_false]
    by_cases c2 : x = 23 + 7 * i + 2
    · subst c2
      simp (disch := omega) only [cL, dT_eq, dF_eq, if_true, if_false]
    by_cases c3 : x = 23 + 7 * j + 5
    · subst c3
      simp (disch := omega) only [cL, dT_eq, dF_eq, if_true, if_false]
    by_cases c4 : x = 23 + 7 * i + 5
    · subst c4
      simp (disch := omega) only [cL, dT_eq, dF_eq, if_true, if_false]
    by_cases c5 : x = q
    · subst c5
      by_cases c6 : x = p
      · subst c6
        simp (disch := omega) only [cL, dT_eq, dF_eq, if_true, if_false]
        exact a3c _ _ _
      · simp (disch := omega) only [cL, dT_eq, dF_eq, if_true, if_false]
    by_cases c6 : x = p
    · subst c6
      simp (disch := omega) only [cL, dT_eq, dF_eq, if_true, if_false]
    by_cases c7 : x = 8 + q
    · subst c7
      by_cases c8 : q = p
      · subst c8
        simp (disch := omega) only [cL, dT_eq, dF_eq, if_true, if_false]
        by_cases d1 : C.1 (23 + 7 * j + 2) - w = nI 0
        · by_cases d2 : C.1 (23 + 7 * i + 2) - v = nI 0
          · simp only [if_pos d1, if_pos d2]; exact o3c _ _ _
          · simp only [if_pos d1, if_neg d2]
        · by_cases d2 : C.1 (23 + 7 * i + 2) - v = nI 0
          · simp only [if_neg d1, if_pos d2]
          · simp only [if_neg d1, if_neg d2]
      · simp (disch := omega) only [cL, dT_eq, dF_eq, if_true, if_false]
    by_cases c8 : x = 8 + p
    · subst c8
      simp (disch := omega) only [cL, dT_eq, dF_eq, if_true, if_false]
    simp (disch := omega) only [cL, dF_eq, if_false]
  · exact a3c _ _ _
  · show (if (cL C i v p).1 (23 + 7 * j + 2) - w = nI 0 then (if C.1 (23 + 7 * i + 2) - v = nI 0 then C.2.2 + nI 1 else C.2.2) + nI 1 else (if C.1 (23 + 7 * i + 2) - v = nI 0 then C.2.2 + nI 1 else C.2.2)) = (if (cL C j w q).1 (23 + 7 * i + 2) - v = nI 0 then (if C.1 (23 + 7 * j + 2) - w = nI 0 then C.2.2 + nI 1 else C.2.2) + nI 1 else (if C.1 (23 + 7 * j + 2) - w = nI 0 then C.2.2 + nI 1 else C.2.2))
    rw [e1, e2]
    by_cases d1 : C.1 (23 + 7 * j + 2) - w = nI 0
    · by_cases d2 : C.1 (23 + 7 * i + 2) - v = nI 0
      · simp only [if_pos d1, if_pos d2]
      · simp only [if_pos d1, if_neg d2]
    · by_cases d2 : C.1 (23 + 7 * i + 2) - v = nI 0
      · simp only [if_neg d1, if_pos d2]
      · simp only [if_neg d1, if_neg d2]
end CL
/-- the companies of a set lose, in their order -/
def zL (D : Nat → Bool) (v : Nat → Int32) (p : Nat → Nat) (C : C3) (m : Nat) : C3 := ac (fun C i => if D i then cL C i (v i) (p i) else C) C m
theorem zL_succ (D : Nat → Bool) (v : Nat → Int32) (p : Nat → Nat) (C : C3) (m : Nat) : zL D v p C (m + 1) = if D m then cL (zL D v p C m) m (v m) (p m) else zL D v p C m := rfl
theorem zL_congr {D E : Nat → Bool} {v : Nat → Int32} {p : Nat → Nat} {C : C3} : ∀ {m : Nat}, (∀ i, i < m → D i = E i) → zL D v p C m = zL E v p C m := by
  intro m
  induction m with
  | zero => intro _; rfl
  | succ m ih =>
    intro h
    rw [zL_succ, zL_succ, h m (by omega), ih (fun i hi => h i (by omega))]
/-- one more of them -/
theorem zL_add {D E : Nat → Bool} {v : Nat → Int32} {p : Nat → Nat} {C : C3} {c : Nat} : ∀ {m : Nat}, (∀ i, i < m → p i < 8) → c < m → D c = false → (∀ i, i < m → E i = (D i || i == c)) → cL (zL D v p C m) c (v c) (p c) = zL E v p C m := by
  intro m
  induction m with
  | zero => intro _ h; omega
  | succ m ih =>
    intro hp hc hD hE
    rw [zL_succ, zL_succ]
    by_cases e : c = m
    · subst e
      have hEc : E c = true := by rw [hE c (by omega)]; simp
      rw [hD, hEc, if_neg (by simp), if_pos rfl]
      congr 1
      refine (zL_congr (fun i hi => ?_))
      rw [hE i (by omega)]
      have : (i == c) = false := by simp; omega
      rw [this, Bool.or_false]
    · have hEm : E m = D m := by
        rw [hE m (by omega)]
        have : (m == c) = false := by simp; omega
        rw [this, Bool.or_false]
      rw [hEm, ← ih (fun i hi => hp i (by omega)) (by omega) hD (fun i hi => hE i (by omega))]
      by_cases hm : D m = true
      · rw [if_pos hm, if_pos hm]
        exact cL_comm (by omega) (hp m (by omega)) (hp c (by omega))
      · rw [if_neg hm, if_neg hm]
theorem zL_own {D : Nat → Bool} {v : Nat → Int32} {p : Nat → Nat} {C : C3} {i x : Nat} (hx : x < 7) : ∀ {m : Nat}, (∀ i, i < m → p i < 8) → (D i = false ∨ m ≤ i ∨ (x ≠ 2 ∧ x ≠ 5)) → (zL D v p C m).1 (23 + 7 * i + x) = C.1 (23 + 7 * i + x) := by
  intro m
  induction m with
  | zero => intro _ _; rfl
  | succ m ih =>
    intro hp h
    rw [zL_succ]
    have ih2 := ih (fun j hj => hp j (by omega)) (by rcases h with h | h | h <;> first | exact Or.inl h | exact Or.inr (Or.inl (by omega)) | exact Or.inr (Or.inr h))
    by_cases hm : D m = true
    · rw [if_pos hm]
      by_cases e : m = i
      · subst e
        rcases h with h | h | h
        · rw [h] at hm; cases hm
        · omega
        · rw [cL_self (hp m (by omega)) hx h.1 h.2, ih2]
      · rw [cL_own e (hp m (by omega)) hx, ih2]
    · rw [if_neg hm, ih2]
theorem zL_mid {D : Nat → Bool} {v : Nat → Int32} {p : Nat → Nat} {C : C3} {x : Nat} : ∀ {m : Nat}, (∀ i, i < m → p i < 8) → ((16 ≤ x ∧ x < 23) ∨ (m ≤ 8 ∧ 79 ≤ x)) → (zL D v p C m).1 x = C.1 x := by
  intro m
  induction m with
  | zero => intro _ _; rfl
  | succ m ih =>
    intro hp h
    rw [zL_succ]
    have ih2 := ih (fun j hj => hp j (by omega)) (by omega)
    by_cases hm : D m = true
    · rw [if_pos hm, cL_mid (hp m (by omega)) (by omega), ih2]
    · rw [if_neg hm, ih2]
section KML
variable {P W H B m : Nat} {C : C3} {i g a p : Nat}
theorem KM.lost (h : KM P W H B m C.1) (hi : i < m) (hg : C.1 (23 + 7 * i + 2) = nI g) (hgg : g ≤ 99) (ha : a ≤ g) (hp : p < P) (hP8 : P ≤ 8) {B2 : Nat} (hB2 : B + a ≤ B2) (hB : B2 < 2 ^ 30) : KM P W H B2 m (cL C i (nI a) p).1 := by
  obtain ⟨⟨G, hG, kG⟩, -, q, q16, kq⟩ := h.2.2.2.2.2.1 p (by omega)
  have ho := h.2.2.2.1 i hi
  obtain ⟨-, -, ⟨g2, g99, hg2⟩, -, -, ⟨q2, q216, kq2⟩⟩ := ho
  have s1 := (h.mono (B2 := B2) (Nat.le_refl H) (by omega)).grains hi (show g - a ≤ 99 by omega)
  have s2 := s1.ground hp (by omega) (show G + a ≤ B2 by omega)
  have hv : C.1 (23 + 7 * i + 2) - nI a = nI (g - a) := by rw [hg, pk_sub ha]
  by_cases hz : g - a = 0
  · have s3 := (s2.lore (p := p) (by omega) (or_16 q16 q216)).known hi (show (0 : Nat) < 16 by omega)
    have e : (cL C i (nI a) p).1 = va_up (va_up (va_up (va_up C.1 (23 + 7 * i + 2) (nI (g - a))) p (nI (G + a))) (8 + p) (nI (q ||| q2))) (23 + 7 * i + 5) (nI 0) := by
      funext x
      unfold cL
      simp only [hv, kG, kq, kq2, hz, if_true, nI_add, nI_or (show q < 2 ^ 31 by omega) (show q2 < 2 ^ 31 by omega)]
      by_cases e1 : x = 23 + 7 * i + 5
      · subst e1; simp (disch := omega) only [va_up_self, dF_eq, dT_eq, if_true, if_false]
      by_cases e2 : x = 8 + p
      · subst e2; simp (disch := omega) only [va_up_self, va_up_ne, dF_eq, dT_eq, if_true, if_false]
      by_cases e3 : x = p
      · subst e3; simp (disch := omega) only [va_up_self, va_up_ne, dF_eq, dT_eq, if_true, if_false]
      by_cases e4 : x = 23 + 7 * i + 2
      · subst e4; simp (disch := omega) only [va_up_self, va_up_ne, dF_eq, dT_eq, if_true, if_false]
      simp (disch := omega) only [va_up_ne, dF_eq, if_false]
    rw [e]
    exact s3
  · have hne : ¬ nI (g - a) = nI 0 := by rw [nI_eq (by omega) (by omega)]; exact hz
    have e : (cL C i (nI a) p).1 = va_up (va_up C.1 (23 + 7 * i + 2) (nI (g - a))) p (nI (G + a)) := by
      funext x
      unfold cL
      simp only [hv, kG, hne, if_false, nI_add]
      by_cases e3 : x = p
      · subst e3; simp (disch := omega) only [va_up_self, va_up_ne, dF_eq, dT_eq, if_true, if_false]
      by_cases e4 : x = 23 + 7 * i + 2
      · subst e4; simp (disch := omega) only [va_up_self, va_up_ne, dF_eq, dT_eq, if_true, if_false]
      simp (disch := omega) only [va_up_ne, dF_eq, if_false]
      by_cases e2 : x = 8 + p
      · subst e2; simp
      by_cases e1 : x = 23 + 7 * i + 5
      · subst e1; rw [if_neg e2, if_pos rfl]
      rw [if_neg e2, if_neg e1]
    rw [e]
    exact s2
end KML
