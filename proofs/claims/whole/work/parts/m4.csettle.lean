/-! TEXTS: text, of a land: the class settles it -/
section CSET
variable {σ : sa_St} {l : LDr} {D L : Nat}
theorem c_settleIn (hD : D = 3 ∨ D = 9) (hk : SK σ.2.1) (hl : LOk l) (hd : CLd D l σ) : wp (f_X0_settleIn 44 D) σ (fun _ τ => τ.2 = σ.2 ∧ (∀ j, j ≠ 45 → τ.1 j = σ.1 j) ∧ STl (l 2).length (l 3).length (dnC (l 2).length 0) (rC l) (bF l) (τ.1 45)) := by
  have hm5 : (l 2).length ≤ 5 := (hl 2 (by omega)).1
  have hF3 : (l 3).length ≤ 3 := (hl 3 (by omega)).1
  have keep : ∀ {τ : sa_St}, τ.2 = σ.2 → (∀ j, j ≠ 45 → τ.1 j = σ.1 j) → SK τ.2.1 ∧ CA τ.2.1 44 45 ∧ CLd D l τ := fun {τ} e1 e2 => by
    rw [e1]
    refine ⟨hk, ⟨rfl, sk_44_0 hk, rfl⟩, ?_⟩
    unfold CLd
    rw [e2 (D + 1) (by omega), e2 (D + 2) (by omega)]
    exact hd
  unfold f_X0_settleIn
  rw [wp_gd]
  refine ⟨rfl, ?_⟩
  rw [wp_bnd, wp_rdR (v := 45) rfl (sk_44_0 hk), wp_bnd]
  refine wp_fillI al_45 (by omega) (by omega) (fun g hg _ => ?_)
  have e1 : (va_up σ.1 45 g, σ.2).1 45 = g := va_up_self σ.1 45 g
  have e2 : ∀ j, j ≠ 45 → (va_up σ.1 45 g, σ.2).1 j = σ.1 j := fun j hj => va_up_ne _ _ hj
  have e3 : (va_up σ.1 45 g, σ.2).2 = σ.2 := rfl
  generalize (va_up σ.1 45 g, σ.2) = σ1 at e1 e2 e3 ⊢
  obtain ⟨k1, ca1, cl1⟩ := keep e3 e2
  rw [wp_bnd, wp_rdR (v := 45) rfl (sk_44_0 k1), wp_bnd, wp_rdR (v := D + 1) (sh_D hD) (sk_D0 hD k1), wp_bnd, wp_ldI (j := 2) (n := 2) (len := 4) (al_D1 hD) rfl (by omega) (by omega), cl1.1 2 (by omega), wp_bnd, wp_stI (j := 22) (n := 22) (len := 259) al_45 rfl (by omega) (by omega), wp_let]
  have s1 : STl (l 2).length 0 (dnC 0 0) (rC l) (bF l) ((sa_upI σ1 45 22 (nI (l 2).length)).1 45) := by
    rw [upI_self, e1]
    exact (STl.zero (fun j hj => hg j (by omega))).n
  have s2 : ∀ j, j ≠ 45 → (sa_upI σ1 45 22 (nI (l 2).length)).1 j = σ.1 j := fun j hj => by rw [upI_ne hj]; exact e2 j hj
  have s3 : (sa_upI σ1 45 22 (nI (l 2).length)).2 = σ.2 := e3
  generalize sa_upI σ1 45 22 (nI (l 2).length) = σ2 at s1 s2 s3 ⊢
  refine wp_for1 (l 2).length 0 (fun n τ => τ.2 = σ.2 ∧ (∀ j, j ≠ 45 → τ.1 j = σ.1 j) ∧ STl (l 2).length 0 (dnC n 0) (rC l) (bF l) (τ.1 45)) ?_ ?_ ⟨s3, s2, s1⟩ (Nat.zero_le _) (by unfold sa_F; omega)
  · rintro n τ hn ⟨t1, t2, t3⟩ j hj
    obtain ⟨kt, cat, clt⟩ := keep t1 t2
    rw [wp_bnd, wp_rdR (v := 45) rfl (sk_44_0 kt), wp_bnd, wp_ldI (j := 22) (n := 22) (len := 259) al_45 rfl (by omega) (by omega), t3.2.2.2.1, wp_if]
    refine ⟨fun q => absurd q (nI_ge hn (by omega)), fun _ => ?_⟩
    have c0 : f_X1_cell D 2 (nI n) 0 τ = some (rC l n 0, τ) := by
      have := c_cell (σ := τ) (k := 2) (x := n) (i := 0) hD kt (by omega) (by omega) (by omega)
      rw [clt.2 2 (by omega) n hn 0 (by omega)] at this
      exact this
    rw [wp_bnd, wp_of_eq c0, wp_bnd]
    refine w_set (j := 0) cat (by omega) (by omega) ?_
    rw [wp_let]
    refine wp_for1 5 1 (fun y υ => 1 ≤ y ∧ υ.2 = σ.2 ∧ (∀ j, j ≠ 45 → υ.1 j = σ.1 j) ∧ STl (l 2).length 0 (dnC n y) (rC l) (bF l) (υ.1 45)) ?_ ?_ ⟨Nat.le_refl _, t1, fun j hj => by rw [upI_ne hj]; exact t2 j hj, ?_⟩ (by omega) (by unfold sa_F; omega)
    · rintro y υ hy ⟨y1, u1, u2, u3⟩ j2 hj2
      obtain ⟨ku, cau, clu⟩ := keep u1 u2
      rw [wp_if]
      refine ⟨fun q => absurd q (nI_ge (a := y) (b := 5) hy (by decide)), fun _ => ?_⟩
      have c1 : f_X1_cell D 2 (nI n) (nI y) υ = some (rC l n y, υ) := by
        have := c_cell (σ := υ) (k := 2) (x := n) (i := y) hD ku (by omega) (by omega) (by omega)
        rw [clu.2 2 (by omega) n hn y (by omega)] at this
        exact this
      rw [wp_bnd, wp_of_eq c1, wp_bnd, nI_1]
      refine w_set cau (by omega) (by omega) ?_
      rw [wp_let]
      refine hj2 _ ⟨by omega, u1, fun j hj => by rw [upI_ne hj]; exact u2 j hj, ?_⟩
      rw [upI_self]
      have st := STl.row (i := n) (y := y) (E2 := dnC n (y + 1)) u3 (by omega) hy (dnC_at n y) (fun j => dnC_up n y j)
      have ps : psI y = y + 1 := if_neg (by omega)
      rw [ps] at st
      exact st
    · rintro υ ⟨-, u1, u2, u3⟩ j2
      rw [wp_if]
      refine ⟨fun _ => ?_, fun q => absurd (show (5 : Int32) ≤ nI 5 by decide) q⟩
      rw [wp_let, nI_1]
      refine hj _ ⟨u1, u2, ?_⟩
      rw [← dnC_5]
      exact u3
    · rw [upI_self]
      exact STl.row (i := n) (y := 0) (E2 := dnC n 1) t3 (by omega) (by omega) (dnC_at n 0) (fun j => dnC_up n 0 j)
  · rintro τ ⟨t1, t2, t3⟩ j
    obtain ⟨kt, cat, clt⟩ := keep t1 t2
    rw [wp_bnd, wp_rdR (v := 45) rfl (sk_44_0 kt), wp_bnd, wp_ldI (j := 22) (n := 22) (len := 259) al_45 rfl (by omega) (by omega), t3.2.2.2.1, wp_if]
    refine ⟨fun _ => ?_, fun q => absurd (nI_le (Nat.le_refl _) (by omega)) q⟩
    rw [wp_let]
    refine wp_for1 (l 3).length 0 (fun f υ => υ.2 = σ.2 ∧ (∀ j, j ≠ 45 → υ.1 j = σ.1 j) ∧ STl (l 2).length f (dnC (l 2).length 0) (rC l) (bF l) (υ.1 45)) ?_ ?_ ⟨t1, t2, t3⟩ (Nat.zero_le _) (by unfold sa_F; omega)
    · rintro f υ hf ⟨u1, u2, u3⟩ j2 hj2
      obtain ⟨ku, cau, clu⟩ := keep u1 u2
      rw [wp_bnd, wp_rdR (v := D + 1) (sh_D hD) (sk_D0 hD ku), wp_bnd, wp_ldI (j := 3) (n := 3) (len := 4) (al_D1 hD) rfl (by omega) (by omega), clu.1 3 (by omega), wp_if]
      refine ⟨fun q => absurd q (nI_ge hf (by omega)), fun _ => ?_⟩
      have c1 : f_X1_cell D 3 (nI f) 1 υ = some (bF l f, υ) := by
        have := c_cell (σ := υ) (k := 3) (x := f) (i := 1) hD ku (by omega) (by omega) (by omega)
        rw [clu.2 3 (by omega) f hf 1 (by omega)] at this
        exact this
      have ea : 16 + nI f = nI (16 + f) := nI_add 16 f
      rw [wp_bnd, wp_rdR (v := 45) rfl (sk_44_0 ku), wp_bnd, wp_of_eq c1, wp_bnd, ea, wp_stI (n := 16 + f) (len := 259) al_45 rfl (by omega) (by omega), wp_let, nI_1]
      refine hj2 _ ⟨u1, fun j hj => by rw [upI_ne hj]; exact u2 j hj, ?_⟩
      rw [upI_self]
      exact u3.bk (by omega)
    · rintro υ ⟨u1, u2, u3⟩ j2
      obtain ⟨ku, cau, clu⟩ := keep u1 u2
      rw [wp_bnd, wp_rdR (v := D + 1) (sh_D hD) (sk_D0 hD ku), wp_bnd, wp_ldI (j := 3) (n := 3) (len := 4) (al_D1 hD) rfl (by omega) (by omega), clu.1 3 (by omega), wp_if]
      refine ⟨fun _ => ?_, fun q => absurd (nI_le (Nat.le_refl _) (by omega)) q⟩
      rw [wp_ret]
      exact ⟨u1, u2, u3⟩
theorem SK.sw {ρ ρ2 : Nat → Nat → Nat} (h : SK ρ) (hr : ∀ a b : Nat, ¬ (a = 0 ∧ (b = 1 ∨ b = 2)) → ρ2 a b = ρ a b) : SK ρ2 := by
  intro p hp
  have hno : ∀ p ∈ skL, ¬ (p.1 = 0 ∧ (p.2.1 = 1 ∨ p.2.1 = 2)) := by decide +kernel
  rw [hr p.1 p.2.1 (hno p hp)]
  exact h p hp
/-- what the settling of a land changes, of the class -/
def CC0 (D : Nat) (j k : Nat) : Prop := (D + 3 ≤ j ∧ j ≤ D + 5) ∨ j = 45 ∨ (j = 48 ∧ (k = 2 ∨ k = 4)) ∨ j = 135 ∨ (j = 134 ∧ k = 1) ∨ (j = 151 ∧ k = 2)
def SFr (A : Nat → Nat → Prop) (σ τ : sa_St) : Prop := (∀ a b, ¬ (a = 0 ∧ (b = 1 ∨ b = 2)) → τ.2.1 a b = σ.2.1 a b) ∧ τ.2.2 = σ.2.2 ∧ ∀ j k, ¬ A j k → τ.1 j k = σ.1 j k
/-- a land settled, as the class holds it -/
def CSt (D : Nat) (l : LDr) (z : Nat → Int32) (τ : sa_St) : Prop := (∀ a b, a < 8 → b < 8 → LowR (l 1).length z a b (τ.1 (D + 3) (8 * a + b))) ∧ (∀ a b : Nat, a < 8 → b < 8 → τ.1 (D + 4) (8 * a + b) = nI (mpN (mp0 (l 1).length (fun k => (z (60 + 5 * k + 2)).toNatClampNeg) (wayB z)) 8 a b)) ∧ (∀ a b : Nat, a < 8 → b < 8 → τ.1 (D + 5) (8 * a + b) = nI (mpN (mp0 (l 1).length (fun _ => 1) (wayB z)) 8 a b)) ∧ STl (l 2).length (l 3).length (dnC (l 2).length 0) (rC l) (bF l) (τ.1 45) ∧ τ.1 48 2 = 0 ∧ τ.1 48 4 = 0 ∧ (∀ j, j < 200 → τ.1 135 j = -1) ∧ τ.1 134 1 = 0 ∧ τ.1 151 2 = 0
theorem c_settleLand (hk : SK σ.2.1) (hD : (L = 3 ∧ D = 9) ∨ (L = 9 ∧ D = 3)) (h1 : σ.2.1 0 1 = L + 1) (h2 : σ.2.1 0 2 = D + 1) (hl : LOk l) (hw : whB l = true) (hd : CLd D l σ) : wp (f_X11_settleLand 0) σ (fun r τ => r = nI (l 2).length ∧ SFr (CC0 D) σ τ ∧ τ.2.1 0 1 = D + 1 ∧ τ.2.1 0 2 = L + 1 ∧ CSt D l (σ.1 (D + 2)) τ) := by
  have hD' : D = 3 ∨ D = 9 := by omega
  unfold f_X11_settleLand
  rw [wp_gd]
  refine ⟨rfl, ?_⟩
  rw [wp_bnd, wp_rdR (v := L) rfl h1, wp_bnd, wp_rdR (v := D) rfl h2, wp_bnd, wp_wrR]
  refine ⟨rfl, ?_⟩
  rw [wp_bnd, wp_wrR]
  refine ⟨rfl, ?_⟩
  have r1 : (sa_upR (sa_upR σ 0 1 (D + 1)) 0 2 (L + 1)).2.1 0 1 = D + 1 := by rw [upR_self, va_up_ne _ _ (by omega), upR_self, va_up_self]
  have r2 : (sa_upR (sa_upR σ 0 1 (D + 1)) 0 2 (L + 1)).2.1 0 2 = L + 1 := by rw [upR_self, va_up_self]
  have r0 : ∀ a b, ¬ (a = 0 ∧ (b = 1 ∨ b = 2)) → (sa_upR (sa_upR σ 0 1 (D + 1)) 0 2 (L + 1)).2.1 a b = σ.2.1 a b := fun a b n => by
    by_cases e : a = 0
    · subst e
      rw [upR_self, va_up_ne _ _ (by omega), upR_self, va_up_ne _ _ (by omega)]
    · rw [upR_ne e, upR_ne e]
  have rI : (sa_upR (sa_upR σ 0 1 (D + 1)) 0 2 (L + 1)).1 = σ.1 := rfl
  have rL : (sa_upR (sa_upR σ 0 1 (D + 1)) 0 2 (L + 1)).2.2 = σ.2.2 := rfl
  generalize sa_upR (sa_upR σ 0 1 (D + 1)) 0 2 (L + 1) = σ1 at r1 r2 r0 rI rL ⊢
  have k1 : SK σ1.2.1 := hk.sw r0
  rw [wp_bnd, wp_rdR (v := D) rfl r1, wp_bnd]
  refine c_drawMaps (W := (l 1).length) (z := σ.1 (D + 2)) hD' k1 (by rw [rI]) (by rw [rI]; exact hd.1 1 (by omega)) (ld_wy hl hw hd) (fun τ fr m1 m2 m3 => ?_)
  have k2 : SK τ.2.1 := by rw [fr.1]; exact k1
  have clt : CLd D l τ := by
    unfold CLd
    rw [fr.2 (D + 1) (by omega) (by omega) (by omega), fr.2 (D + 2) (by omega) (by omega) (by omega), rI]
    exact hd
  rw [wp_bnd, wp_rdR (v := 44) rfl (sk_0_6 k2), wp_bnd, wp_rdR (v := D) rfl (by rw [fr.1]; exact r1), wp_bnd]
  refine wp_mono (c_settleIn hD' k2 hl clt) (fun _ υ hυ => ?_)
  obtain ⟨g1, g2, g3⟩ := hυ
  have e2 : υ.2 = σ1.2 := g1.trans fr.1
  have k3 : SK υ.2.1 := by rw [e2]; exact k1
  have hf : f_X5_forget 48 υ = some ((), sa_upI (sa_upI υ 48 4 0) 48 2 0) := by
    refine run_to ?_
    unfold f_X5_forget
    rw [wp_gd]
    refine ⟨rfl, ?_⟩
    rw [wp_bnd, wp_wrI]
    refine ⟨rfl, ?_⟩
    rw [wp_bnd, wp_wrZ]
    refine ⟨⟨rfl, Or.inl rfl⟩, ?_⟩
    rw [wp_ret]
    exact ⟨rfl, rfl⟩
  rw [wp_bnd, wp_rdR (v := 48) rfl (sk_0_8 k3), wp_bnd, wp_of_eq hf]
  have p1 : (sa_upI (sa_upI υ 48 4 0) 48 2 0).1 48 2 = 0 := by rw [upI_self, va_up_self]
  have p2 : (sa_upI (sa_upI υ 48 4 0) 48 2 0).1 48 4 = 0 := by rw [upI_self, va_up_ne _ _ (by omega), upI_self, va_up_self]
  have p3 : ∀ j k, ¬ (j = 48 ∧ (k = 2 ∨ k = 4)) → (sa_upI (sa_upI υ 48 4 0) 48 2 0).1 j k = υ.1 j k := fun j k n => by
    by_cases e : j = 48
    · subst e
      rw [upI_self, va_up_ne _ _ (by omega), upI_self, va_up_ne _ _ (by omega)]
    · rw [upI_ne e, upI_ne e]
  have p4 : (sa_upI (sa_upI υ 48 4 0) 48 2 0).2 = σ1.2 := e2
  generalize sa_upI (sa_upI υ 48 4 0) 48 2 0 = υ1 at p1 p2 p3 p4 ⊢
  have k4 : SK υ1.2.1 := by rw [p4]; exact k1
  rw [wp_bnd, wp_rdR (v := 134) rfl (sk_0_9 k4), wp_bnd]
  unfold f_X6_clear
  rw [wp_gd]
  refine ⟨rfl, ?_⟩
  rw [wp_bnd, wp_rdR (v := 135) rfl (sk_134_0 k4), wp_bnd]
  refine wp_fillI al_135 (by omega) (by omega) (fun g hg _ => ?_)
  rw [wp_bnd, wp_wrI]
  refine ⟨rfl, ?_⟩
  rw [wp_ret]
  have q1 : (sa_upI (va_up υ1.1 135 g, υ1.2) 134 1 0).1 135 = g := by rw [upI_ne (by omega)]; exact va_up_self υ1.1 135 g
  have q2 : (sa_upI (va_up υ1.1 135 g, υ1.2) 134 1 0).1 134 1 = 0 := by rw [upI_self, va_up_self]
  have q3 : ∀ j k, j ≠ 135 → ¬ (j = 134 ∧ k = 1) → (sa_upI (va_up υ1.1 135 g, υ1.2) 134 1 0).1 j k = υ1.1 j k := fun j k n1 n2 => by
    have e135 : (va_up υ1.1 135 g, υ1.2).1 j = υ1.1 j := va_up_ne _ _ n1
    by_cases e : j = 134
    · subst e
      rw [upI_self, va_up_ne _ _ (by omega), e135]
    · rw [upI_ne e, e135]
  have q4 : (sa_upI (va_up υ1.1 135 g, υ1.2) 134 1 0).2 = σ1.2 := p4
  generalize sa_upI (va_up υ1.1 135 g, υ1.2) 134 1 0 = υ2 at q1 q2 q3 q4 ⊢
  have k5 : SK υ2.2.1 := by rw [q4]; exact k1
  rw [wp_bnd, wp_rdR (v := 151) rfl (sk_0_11 k5), wp_bnd, wp_wrI]
  refine ⟨rfl, ?_⟩
  have w1 : (sa_upI υ2 151 2 0).1 151 2 = 0 := by rw [upI_self, va_up_self]
  have w2 : ∀ j k, ¬ (j = 151 ∧ k = 2) → (sa_upI υ2 151 2 0).1 j k = υ2.1 j k := fun j k n => by
    by_cases e : j = 151
    · subst e
      rw [upI_self, va_up_ne _ _ (by omega)]
    · rw [upI_ne e]
  have w3 : (sa_upI υ2 151 2 0).2 = σ1.2 := q4
  generalize sa_upI υ2 151 2 0 = υ3 at w1 w2 w3 ⊢
  have k6 : SK υ3.2.1 := by rw [w3]; exact k1
  have a45 : υ3.1 45 = υ.1 45 := funext fun k => by rw [w2 45 k (by omega), q3 45 k (by omega) (by omega), p3 45 k (by omega)]
  have aD : ∀ j, D + 3 ≤ j → j ≤ D + 5 → υ3.1 j = τ.1 j := fun j a b => funext fun k => by rw [w2 j k (by omega), q3 j k (by omega) (by omega), p3 j k (by omega), g2 j (by omega)]
  rw [wp_bnd, wp_rdR (v := 44) rfl (sk_0_6 k6), wp_bnd, wp_rdR (v := 45) rfl (sk_44_0 k6), wp_bnd, wp_ldI (j := 22) (n := 22) (len := 259) al_45 rfl (by omega) (by omega), wp_ret, a45, g3.2.2.2.1]
  refine ⟨rfl, ⟨fun a b n => ?_, ?_, fun j k n => ?_⟩, ?_, ?_, ?_, ?_, ?_, ?_, ?_, ?_, ?_, ?_, ?_⟩
  · rw [w3]; exact r0 a b n
  · rw [w3]; exact rL
  · unfold CC0 at n
    rw [w2 j k (by omega), q3 j k (by omega) (by omega), p3 j k (by omega), g2 j (by omega), fr.2 j (by omega) (by omega) (by omega), rI]
  · rw [w3]; exact r1
  · rw [w3]; exact r2
  · rw [aD (D + 3) (by omega) (by omega)]; exact m1
  · rw [aD (D + 4) (by omega) (by omega)]; exact m2
  · rw [aD (D + 5) (by omega) (by omega)]; exact m3
  · rw [a45]; exact g3
  · rw [w2 48 2 (by omega), q3 48 2 (by omega) (by omega)]; exact p1
  · rw [w2 48 4 (by omega), q3 48 4 (by omega) (by omega)]; exact p2
  · intro j hj
    rw [w2 135 j (by omega), q1]
    exact hg j hj
  · rw [w2 134 1 (by omega)]; exact q2
  · exact w1
end CSET
