/-! MAPS, drawn by the class -/
section SHORT
variable {σ : sa_St} {m : Nat → Nat → Nat}
def hyb (m : Nat → Nat → Nat) (n a b x y : Nat) : Nat := if x < a ∨ (x = a ∧ y < b) then mpN m (n + 1) x y else mpN m n x y
theorem hyb_c (hd : ∀ a, m a a = 0) (n a b x : Nat) : hyb m n a b x n = mpN m n x n ∧ hyb m n a b n x = mpN m n n x := by
  have h0 := mpN_diag hd n n
  unfold hyb
  constructor
  · split
    · rw [mpN_succ, h0]; omega
    · rfl
  · split
    · rw [mpN_succ, h0]; omega
    · rfl
theorem ix8 (a b : Nat) : nI a * 8 + nI b = nI (8 * a + b) := by
  have e : nI a * 8 = nI (a * 8) := pk_mul a 8
  rw [e, nI_add, Nat.mul_comm]
theorem c_shorten {R : Nat} {Q : Unit → sa_St → Prop} (hal : sa_al .int R = 64) (hd : ∀ a, m a a = 0) (hl : ∀ a b, m a b ≤ 1000) (h0 : ∀ a b, a < 8 → b < 8 → σ.1 R (8 * a + b) = nI (m a b)) (hQ : ∀ τ : sa_St, τ.2 = σ.2 → (∀ j, j ≠ R → τ.1 j = σ.1 j) → (∀ a b, a < 8 → b < 8 → τ.1 R (8 * a + b) = nI (mpN m 8 a b)) → Q () τ) : wp (f_X1_shorten R) σ Q := by
  have hle := mpN_le hl
  unfold f_X1_shorten
  rw [wp_let]
  refine wp_for1 8 0 (fun n τ => τ.2 = σ.2 ∧ (∀ j, j ≠ R → τ.1 j = σ.1 j) ∧ ∀ a b, a < 8 → b < 8 → τ.1 R (8 * a + b) = nI (mpN m n a b)) ?_ ?_ ⟨rfl, fun _ _ => rfl, h0⟩ (by omega) (by unfold sa_F; omega)
  · rintro n τ hn ⟨t1, t2, t3⟩ j hj
    rw [wp_if]
    refine ⟨fun q => absurd q (nI_ge (a := n) (b := 8) hn (by decide)), fun _ => ?_⟩
    rw [wp_let]
    refine wp_for1 8 0 (fun a υ => υ.2 = σ.2 ∧ (∀ j, j ≠ R → υ.1 j = σ.1 j) ∧ ∀ x y, x < 8 → y < 8 → υ.1 R (8 * x + y) = nI (hyb m n a 0 x y)) ?_ ?_ ⟨t1, t2, fun x y hx hy => by rw [t3 x y hx hy]; unfold hyb; rw [if_neg (by omega)]⟩ (by omega) (by unfold sa_F; omega)
    · rintro a υ ha ⟨u1, u2, u3⟩ j2 hj2
      rw [wp_if]
      refine ⟨fun q => absurd q (nI_ge (a := a) (b := 8) ha (by decide)), fun _ => ?_⟩
      rw [wp_let]
      refine wp_for1 8 0 (fun b ω => ω.2 = σ.2 ∧ (∀ j, j ≠ R → ω.1 j = σ.1 j) ∧ ∀ x y, x < 8 → y < 8 → ω.1 R (8 * x + y) = nI (hyb m n a b x y)) ?_ ?_ ⟨u1, u2, u3⟩ (by omega) (by unfold sa_F; omega)
      · rintro b ω hb ⟨w1, w2, w3⟩ j3 hj3
        have hc1 := (hyb_c hd n a b a).1
        have hc2 := (hyb_c hd n a b b).2
        have hc3 : hyb m n a b a b = mpN m n a b := by unfold hyb; rw [if_neg (by omega)]
        have l1 := hle n a n
        have l2 := hle n n b
        have l3 := hle n a b
        rw [wp_if]
        refine ⟨fun q => absurd q (nI_ge (a := b) (b := 8) hb (by decide)), fun _ => ?_⟩
        rw [wp_bnd, ix8 a n, wp_ldI (n := 8 * a + n) (len := 64) hal rfl (by omega) (by omega), w3 a n ha hn, hc1, wp_bnd, ix8 n b, wp_ldI (n := 8 * n + b) (len := 64) hal rfl (by omega) (by omega), w3 n b hn hb, hc2, wp_let, nI_add, wp_bnd, ix8 a b, wp_ldI (n := 8 * a + b) (len := 64) hal rfl (by omega) (by omega), w3 a b ha hb, hc3, wp_bnd, sa_minN (by omega) (by omega), wp_stI (n := 8 * a + b) (len := 64) hal rfl (by omega) (by omega), wp_let, nI_1]
        refine hj3 _ ⟨w1, fun j hj => by rw [upI_ne hj]; exact w2 j hj, fun x y hx hy => ?_⟩
        rw [upI_self]
        by_cases e : x = a ∧ y = b
        · obtain ⟨rfl, rfl⟩ := e
          rw [va_up_self]
          unfold hyb
          rw [if_pos (by omega), mpN_succ]
        · rw [va_up_ne _ _ (by omega), w3 x y hx hy]
          unfold hyb
          by_cases c : x < a ∨ (x = a ∧ y < b)
          · rw [if_pos c, if_pos (by omega)]
          · rw [if_neg c, if_neg (by omega)]
      · rintro ω ⟨w1, w2, w3⟩ j3
        rw [wp_if]
        refine ⟨fun _ => ?_, fun q => absurd (show (8 : Int32) ≤ nI 8 by decide) q⟩
        rw [wp_let, nI_1]
        refine hj2 _ ⟨w1, w2, fun x y hx hy => ?_⟩
        rw [w3 x y hx hy]
        unfold hyb
        by_cases c : x < a ∨ (x = a ∧ y < 8)
        · rw [if_pos c, if_pos (by omega)]
        · rw [if_neg c, if_neg (by omega)]
    · rintro υ ⟨u1, u2, u3⟩ j2
      rw [wp_if]
      refine ⟨fun _ => ?_, fun q => absurd (show (8 : Int32) ≤ nI 8 by decide) q⟩
      rw [wp_let, nI_1]
      refine hj _ ⟨u1, u2, fun x y hx hy => ?_⟩
      rw [u3 x y hx hy]
      unfold hyb
      rw [if_pos (by omega)]
  · rintro τ ⟨t1, t2, t3⟩ j
    rw [wp_if]
    refine ⟨fun _ => ?_, fun q => absurd (show (8 : Int32) ≤ nI 8 by decide) q⟩
    rw [wp_ret]
    exact hQ τ t1 t2 t3
end SHORT
/-- ways from i - 1 down to 0, beginning with s -/
def dnW (c : Nat → Nat) (e : Nat → Bool) : Nat → Nat → Nat
  | 0, s => s
  | i + 1, s => dnW c e i (if e i then min s (c i) else s)
theorem dnW_min {c : Nat → Nat} {e : Nat → Nat → Nat → Bool} {a b : Nat} (hab : a ≠ b) : ∀ i s, s ≤ 1000 → dnW c (e a b) i s = min s (mp0 i c e a b) := by
  intro i
  induction i with
  | zero =>
    intro s hs
    have : mp0 0 c e a b = 1000 := by unfold mp0; rw [if_neg hab]; rfl
    rw [this]
    show s = _
    omega
  | succ i ih =>
    intro s hs
    rw [mp0_succ, if_neg hab]
    show dnW c (e a b) i (if e a b i then min s (c i) else s) = _
    by_cases h : e a b i = true
    · rw [if_pos h, if_pos h, ih _ (by omega)]
      omega
    · rw [if_neg h, if_neg h, ih _ hs]
