/-! MAPS, drawn by the class: from the ways -/
/-- the lowest of the ways from i on -/
def LowI (i W : Nat) (z : Nat → Int32) (a b : Nat) (v : Int32) : Prop := (v = -1 ∧ ∀ k : Nat, i ≤ k → k < W → ¬ wayIs z a b k) ∨ ∃ k : Nat, i ≤ k ∧ k < W ∧ v = nI k ∧ wayIs z a b k ∧ ∀ j : Nat, i ≤ j → j < k → ¬ wayIs z a b j
/-- ways between places, as they are told -/
def WyOk (W : Nat) (z : Nat → Int32) : Prop := W ≤ 12 ∧ ∀ k, k < W → (∃ a b : Nat, a < 8 ∧ b < 8 ∧ a ≠ b ∧ z (60 + 5 * k) = nI a ∧ z (60 + 5 * k + 1) = nI b) ∧ ∃ t : Nat, 1 ≤ t ∧ t ≤ 9 ∧ z (60 + 5 * k + 2) = nI t
section DRAW
variable {D W : Nat} {σ : sa_St}
theorem al_D3 (h : D = 3 ∨ D = 9) : sa_al .int (D + 3) = 64 ∧ sa_al .int (D + 4) = 64 ∧ sa_al .int (D + 5) = 64 := by rcases h with rfl | rfl <;> exact ⟨rfl, rfl, rfl⟩
theorem sk_D2 {ρ : Nat → Nat → Nat} (h : D = 3 ∨ D = 9) (hk : SK ρ) : ρ D 2 = D + 3 + 1 ∧ ρ D 3 = D + 4 + 1 ∧ ρ D 4 = D + 5 + 1 := by
  rcases h with rfl | rfl
  · exact ⟨sk_3_2 hk, sk_3_3 hk, sk_3_4 hk⟩
  · exact ⟨sk_9_2 hk, sk_9_3 hk, sk_9_4 hk⟩
/-- the three maps alone -/
def MFr (D : Nat) (σ τ : sa_St) : Prop := τ.2 = σ.2 ∧ ∀ j, j ≠ D + 3 → j ≠ D + 4 → j ≠ D + 5 → τ.1 j = σ.1 j
theorem MFr.trans {τ υ : sa_St} (h : MFr D σ τ) (h2 : MFr D τ υ) : MFr D σ υ := ⟨h2.1.trans h.1, fun j a b c => (h2.2 j a b c).trans (h.2 j a b c)⟩
theorem c_drawWay {k x h t w : Nat} (hD : D = 3 ∨ D = 9) (hk : SK σ.2.1) (hkk : k < 12) (hx : x < 64) (hh : σ.1 (D + 4) x = nI h) (hb : h ≤ 1000) (ht : σ.1 (D + 2) (60 + 5 * k + 2) = nI t) (ht9 : t ≤ 9) (hw : w = 1) : ∃ τ, f_X1_drawWay D (nI k) (nI x) σ = some ((), τ) ∧ MFr D σ τ ∧ τ.1 (D + 3) = va_up (σ.1 (D + 3)) x (nI k) ∧ τ.1 (D + 4) = va_up (σ.1 (D + 4)) x (nI (min h t)) ∧ τ.1 (D + 5) = va_up (σ.1 (D + 5)) x (nI w) := by
  obtain ⟨s2, s3, s4⟩ := sk_D2 hD hk
  obtain ⟨l3, l4, l5⟩ := al_D3 hD
  subst hw
  refine ⟨sa_upI (sa_upI (sa_upI σ (D + 3) x (nI k)) (D + 4) x (nI (min h t))) (D + 5) x (nI 1), run_to ?_, ⟨rfl, fun j a b c => by rw [upI_ne c, upI_ne b, upI_ne a]⟩, ?_, ?_, ?_⟩
  · unfold f_X1_drawWay
    rw [wp_gd]
    refine ⟨sh_D hD, ?_⟩
    rw [wp_bnd, wp_rdR (v := D + 3) (sh_D hD) s2, wp_bnd, wp_stI (n := x) (len := 64) l3 rfl hx (by omega)]
    have k1 : SK (sa_upI σ (D + 3) x (nI k)).2.1 := hk
    have h1 : (sa_upI σ (D + 3) x (nI k)).1 (D + 4) x = nI h := by rw [upI_ne (by omega)]; exact hh
    have t1 : (sa_upI σ (D + 3) x (nI k)).1 (D + 2) (60 + 5 * k + 2) = nI t := by rw [upI_ne (by omega)]; exact ht
    have s31 : (sa_upI σ (D + 3) x (nI k)).2.1 D 3 = D + 4 + 1 := s3
    have s41 : (sa_upI σ (D + 3) x (nI k)).2.1 D 4 = D + 5 + 1 := s4
    generalize sa_upI σ (D + 3) x (nI k) = σ1 at *
    have hcell : f_X1_cell D 1 (nI k) 2 σ1 = some (nI t, σ1) := by
      have := c_cell (σ := σ1) (k := 1) (x := k) (i := 2) hD k1 (by omega) hkk (by omega)
      rw [show 60 * 1 + 5 * k + 2 = 60 + 5 * k + 2 by omega, t1] at this
      exact this
    rw [wp_bnd, wp_rdR (v := D + 4) (sh_D hD) s31, wp_bnd, wp_rdR (v := D + 4) (sh_D hD) s31, wp_bnd, wp_ldI (n := x) (len := 64) l4 rfl hx (by omega), h1, wp_bnd, wp_of_eq hcell, wp_bnd, sa_minN (by omega) (by omega), wp_stI (n := x) (len := 64) l4 rfl hx (by omega), wp_bnd, wp_rdR (v := D + 5) (sh_D hD) (show (sa_upI σ1 (D + 4) x (nI (min h t))).2.1 D 4 = D + 5 + 1 from s41), wp_bnd, wp_stI (n := x) (len := 64) l5 rfl hx (by omega), wp_ret]
    exact ⟨rfl, rfl⟩
  · rw [upI_ne (by omega), upI_ne (by omega), upI_self]
  · rw [upI_ne (by omega), upI_self, upI_ne (by omega)]
  · rw [upI_self, upI_ne (by omega), upI_ne (by omega)]
/-- how far the maps are, ways i .. W - 1 drawn -/
def MpI (D W : Nat) (z : Nat → Int32) (i : Nat) (τ : sa_St) : Prop := (∀ a b, a < 8 → b < 8 → LowI i W z a b (τ.1 (D + 3) (8 * a + b))) ∧ ∃ h w : Nat → Nat → Nat, ∀ a b, a < 8 → b < 8 → τ.1 (D + 4) (8 * a + b) = nI (h a b) ∧ τ.1 (D + 5) (8 * a + b) = nI (w a b) ∧ h a b ≤ 1000 ∧ w a b ≤ 1000 ∧ (a = b → h a b = 0 ∧ w a b = 0) ∧ (a ≠ b → 1 ≤ w a b ∧ dnW (fun k => (z (60 + 5 * k + 2)).toNatClampNeg) (wayB z a b) i (h a b) = mp0 W (fun k => (z (60 + 5 * k + 2)).toNatClampNeg) (wayB z) a b ∧ dnW (fun _ => 1) (wayB z a b) i (w a b) = mp0 W (fun _ => 1) (wayB z) a b)
theorem way_iff {z : Nat → Int32} {k a b x y : Nat} (ha : a < 8) (hb : b < 8) (hx : x < 8) (hy : y < 8) (e1 : z (60 + 5 * k) = nI a) (e2 : z (60 + 5 * k + 1) = nI b) : wayIs z x y k ↔ (x = a ∧ y = b) ∨ (x = b ∧ y = a) := by
  unfold wayIs
  rw [e1, e2, nI_eq (by omega) (by omega), nI_eq (by omega) (by omega), nI_eq (by omega) (by omega), nI_eq (by omega) (by omega)]
  omega
theorem c_way1 {k : Nat} {z : Nat → Int32} (hD : D = 3 ∨ D = 9) (hk : SK σ.2.1) (hz : σ.1 (D + 2) = z) (hw : WyOk W z) (hkW : k < W) (hI : MpI D W z (k + 1) σ) {j : Int32 → sa_M Unit} {Q : Unit → sa_St → Prop} (hj : ∀ τ, MFr D σ τ → MpI D W z k τ → wp (j (nI k + (-1))) τ Q) : wp (sa_bnd (f_X1_cell D 1 (nI k) 0) fun v12 =>
sa_bnd (f_X1_cell D 1 (nI k) 1) fun v13 =>
sa_bnd (f_X1_drawWay D (nI k) ((v12 * 8) + v13)) fun _ =>
sa_bnd (f_X1_drawWay D (nI k) ((v13 * 8) + v12)) fun _ =>
sa_let ((nI k + (-1)) : Int32) fun x14 =>
j x14) σ Q := by
  obtain ⟨h12, hw⟩ := hw
  obtain ⟨⟨a, b, ha, hb, hab, e1, e2⟩, t, t1, t9, e3⟩ := hw k hkW
  obtain ⟨hlow, h, w, hhw⟩ := hI
  have hc1 : f_X1_cell D 1 (nI k) 0 σ = some (nI a, σ) := by
    have := c_cell (σ := σ) (k := 1) (x := k) (i := 0) hD hk (by omega) (by omega) (by omega)
    rw [show 60 * 1 + 5 * k + 0 = 60 + 5 * k by omega, hz, e1] at this
    exact this
  have hc2 : f_X1_cell D 1 (nI k) 1 σ = some (nI b, σ) := by
    have := c_cell (σ := σ) (k := 1) (x := k) (i := 1) hD hk (by omega) (by omega) (by omega)
    rw [show 60 * 1 + 5 * k + 1 = 60 + 5 * k + 1 by omega, hz, e2] at this
    exact this
  obtain ⟨p1, p2, p3, p4, p5, p6⟩ := hhw a b ha hb
  obtain ⟨q1, q2, q3, q4, q5, q6⟩ := hhw b a hb ha
  obtain ⟨τ, d1, f1, g3, g4, g5⟩ := c_drawWay (σ := σ) (k := k) (x := 8 * a + b) (h := h a b) (t := t) (w := 1) hD hk (by omega) (by omega) p1 p3 (by rw [hz]; exact e3) t9 rfl
  have hkt : SK τ.2.1 := by rw [f1.1]; exact hk
  have hzt : τ.1 (D + 2) = z := by rw [f1.2 _ (by omega) (by omega) (by omega)]; exact hz
  obtain ⟨υ, d2, f2, k3, k4, k5⟩ := c_drawWay (σ := τ) (k := k) (x := 8 * b + a) (h := h b a) (t := t) (w := 1) hD hkt (by omega) (by omega) (by rw [g4, va_up_ne _ _ (by omega)]; exact q1) q3 (by rw [hzt]; exact e3) t9 rfl
  rw [wp_bnd, wp_of_eq hc1, wp_bnd, wp_of_eq hc2, wp_bnd, ix8, wp_of_eq d1, wp_bnd, ix8, wp_of_eq d2, wp_let]
  have ec : (z (60 + 5 * k + 2)).toNatClampNeg = t := by rw [e3, nI_clamp (by omega)]
  obtain ⟨h2, hh2⟩ : ∃ h2 : Nat → Nat → Nat, ∀ x y, h2 x y = if (x = a ∧ y = b) ∨ (x = b ∧ y = a) then min (h x y) t else h x y := ⟨_, fun _ _ => rfl⟩
  obtain ⟨w2, hw2⟩ : ∃ w2 : Nat → Nat → Nat, ∀ x y, w2 x y = if (x = a ∧ y = b) ∨ (x = b ∧ y = a) then 1 else w x y := ⟨_, fun _ _ => rfl⟩
  refine hj υ (f1.trans f2) ⟨fun x y hx hy => ?_, h2, w2, fun x y hx hy => ?_⟩
  · have hwi := way_iff (x := x) (y := y) ha hb hx hy e1 e2
    rw [k3, g3]
    by_cases c : (x = a ∧ y = b) ∨ (x = b ∧ y = a)
    · have ev : va_up (va_up (σ.1 (D + 3)) (8 * a + b) (nI k)) (8 * b + a) (nI k) (8 * x + y) = nI k := by
        by_cases c2 : 8 * x + y = 8 * b + a
        · rw [c2, va_up_self]
        · rw [va_up_ne _ _ c2, show 8 * x + y = 8 * a + b by omega, va_up_self]
      rw [ev]
      exact Or.inr ⟨k, Nat.le_refl _, hkW, rfl, hwi.mpr c, fun j a b => by omega⟩
    · rw [va_up_ne _ _ (by omega), va_up_ne _ _ (by omega)]
      rcases hlow x y hx hy with ⟨v1, v2⟩ | ⟨k2, v1, v2, v3, v4, v5⟩
      · refine Or.inl ⟨v1, fun k2 a1 a2 => ?_⟩
        by_cases e : k2 = k
        · subst e; exact fun q => c (hwi.mp q)
        · exact v2 k2 (by omega) a2
      · refine Or.inr ⟨k2, by omega, v2, v3, v4, fun j a1 a2 => ?_⟩
        by_cases e : j = k
        · subst e; exact fun q => c (hwi.mp q)
        · exact v5 j (by omega) a2
  · have hwi := way_iff (x := x) (y := y) ha hb hx hy e1 e2
    obtain ⟨r1, r2, r3, r4, r5, r6⟩ := hhw x y hx hy
    by_cases c : (x = a ∧ y = b) ∨ (x = b ∧ y = a)
    · have hwb : wayB z x y k = true := decide_eq_true (hwi.mpr c)
      have hne : x ≠ y := by omega
      obtain ⟨s1, s2, s3⟩ := r6 hne
      rw [hh2, hw2, if_pos c, if_pos c, k4, g4, k5, g5]
      refine ⟨?_, ?_, by omega, by omega, fun e => absurd e hne, fun _ => ⟨by omega, ?_, ?_⟩⟩
      · by_cases c2 : 8 * x + y = 8 * b + a
        · have : x = b ∧ y = a := by omega
          obtain ⟨rfl, rfl⟩ := this
          rw [va_up_self]
        · have : x = a ∧ y = b := by omega
          obtain ⟨rfl, rfl⟩ := this
          rw [va_up_ne _ _ c2, va_up_self]
      · by_cases c2 : 8 * x + y = 8 * b + a
        · rw [c2, va_up_self]
        · rw [va_up_ne _ _ c2, show 8 * x + y = 8 * a + b by omega, va_up_self]
      · have : dnW (fun k => (z (60 + 5 * k + 2)).toNatClampNeg) (wayB z x y) (k + 1) (h x y) = dnW (fun k => (z (60 + 5 * k + 2)).toNatClampNeg) (wayB z x y) k (if wayB z x y k then min (h x y) (z (60 + 5 * k + 2)).toNatClampNeg else h x y) := rfl
        rw [this, if_pos hwb, ec] at s2
        exact s2
      · have : dnW (fun _ => 1) (wayB z x y) (k + 1) (w x y) = dnW (fun _ => 1) (wayB z x y) k (if wayB z x y k then min (w x y) 1 else w x y) := rfl
        rw [this, if_pos hwb, show min (w x y) 1 = 1 by omega] at s3
        exact s3
    · have hwb : wayB z x y k = false := decide_eq_false (fun q => c (hwi.mp q))
      rw [hh2, hw2, if_neg c, if_neg c, k4, g4, k5, g5, va_up_ne _ _ (by omega), va_up_ne _ _ (by omega), va_up_ne _ _ (by omega), va_up_ne _ _ (by omega)]
      refine ⟨r1, r2, r3, r4, r5, fun hne => ?_⟩
      obtain ⟨s1, s2, s3⟩ := r6 hne
      refine ⟨s1, ?_, ?_⟩
      · have : dnW (fun k => (z (60 + 5 * k + 2)).toNatClampNeg) (wayB z x y) (k + 1) (h x y) = dnW (fun k => (z (60 + 5 * k + 2)).toNatClampNeg) (wayB z x y) k (if wayB z x y k then min (h x y) (z (60 + 5 * k + 2)).toNatClampNeg else h x y) := rfl
        rw [this, hwb, if_neg (by decide)] at s2
        exact s2
      · have : dnW (fun _ => 1) (wayB z x y) (k + 1) (w x y) = dnW (fun _ => 1) (wayB z x y) k (if wayB z x y k then min (w x y) 1 else w x y) := rfl
        rw [this, hwb, if_neg (by decide)] at s3
        exact s3
end DRAW
