/-! JOURNEYS: parts by grains -/
def rn1 (c : Nat) (l : Nat → Nat) (d : Nat → Nat) (g : Nat) : Nat → Nat := va_up (va_up d g (d g - d g * c / 100)) (g - l g) (va_up d g (d g - d g * c / 100) (g - l g) + d g * c / 100)
def rnD (c : Nat) (l : Nat → Nat) (d : Nat → Nat) : Nat → Nat → Nat := ac (fun d i => rn1 c l d (i + 1)) d
def pr1 (n : Nat) (d : Nat → Nat) (g : Nat) : Nat → Nat := va_up (va_up d g 0) (g - n) (va_up d g 0 (g - n) + d g)
def prD (n : Nat) (d : Nat → Nat) : Nat → Nat → Nat := ac (fun d i => pr1 n d (i + 1)) d
def AL : Nat := 1000000000
theorem zc_sm_up {f : Nat → Nat} {i v : Nat} : ∀ {n : Nat}, i < n → zc_sm n (va_up f i v) + f i = zc_sm n f + v := by
  intro n
  induction n with
  | zero => intro h; omega
  | succ n ih =>
    intro h
    show zc_sm n (va_up f i v) + va_up f i v n + f i = zc_sm n f + f n + v
    by_cases e : i = n
    · subst e
      rw [va_up_self, zc_sm_congr (f := va_up f i v) (g := f) (fun j hj => va_up_ne _ _ (by omega))]
      omega
    · rw [va_up_ne _ _ (Ne.symm e)]
      have := ih (by omega)
      omega
theorem zc_sm_ge {f : Nat → Nat} {i : Nat} : ∀ {n : Nat}, i < n → f i ≤ zc_sm n f := by
  intro n
  induction n with
  | zero => intro h; omega
  | succ n ih =>
    intro h
    show f i ≤ zc_sm n f + f n
    by_cases e : i = n
    · subst e; omega
    · have := ih (by omega); omega
theorem wet_le {d c : Nat} (hc : c ≤ 100) : d * c / 100 ≤ d := by
  have h : d * c ≤ d * 100 := Nat.mul_le_mul_left d hc
  omega
theorem rn1_sum {c g : Nat} {l d : Nat → Nat} (hc : c ≤ 100) (hg : g < 100) : zc_sm 100 (rn1 c l d g) = zc_sm 100 d := by
  unfold rn1
  have h1 := zc_sm_up (f := d) (i := g) (v := d g - d g * c / 100) (n := 100) hg
  have h2 := zc_sm_up (f := va_up d g (d g - d g * c / 100)) (i := g - l g) (v := va_up d g (d g - d g * c / 100) (g - l g) + d g * c / 100) (n := 100) (by omega)
  have h3 := wet_le (d := d g) hc
  omega
theorem pr1_sum {n g : Nat} {d : Nat → Nat} (hg : g < 100) : zc_sm 100 (pr1 n d g) = zc_sm 100 d := by
  unfold pr1
  have h1 := zc_sm_up (f := d) (i := g) (v := 0) (n := 100) hg
  have h2 := zc_sm_up (f := va_up d g 0) (i := g - n) (v := va_up d g 0 (g - n) + d g) (n := 100) (by omega)
  omega
theorem rnD_sum {c : Nat} {l d : Nat → Nat} (hc : c ≤ 100) : ∀ k, k ≤ 99 → zc_sm 100 (rnD c l d k) = zc_sm 100 d := by
  intro k
  induction k with
  | zero => exact fun _ => rfl
  | succ k ih => exact fun hk => (rn1_sum hc (by omega)).trans (ih (by omega))
theorem prD_sum {n : Nat} {d : Nat → Nat} : ∀ k, k ≤ 99 → zc_sm 100 (prD n d k) = zc_sm 100 d := by
  intro k
  induction k with
  | zero => exact fun _ => rfl
  | succ k ih => exact fun hk => (pr1_sum (by omega)).trans (ih (by omega))
/-- nothing is poured off -/
theorem pr1_0 {d : Nat → Nat} {g : Nat} : pr1 0 d g = d := by
  funext x
  unfold pr1
  rw [Nat.sub_zero]
  by_cases e : x = g
  · subst e; rw [va_up_self, va_up_self, Nat.zero_add]
  · rw [va_up_ne _ _ e, va_up_ne _ _ e]
theorem prD_0 {d : Nat → Nat} : ∀ k, prD 0 d k = d := by
  intro k
  induction k with
  | zero => rfl
  | succ k ih =>
    show pr1 0 (prD 0 d k) (k + 1) = d
    rw [pr1_0, ih]
/-- the reference's second row -/
def tn1 (c : Nat) (l d0 T : Nat → Nat) (g : Nat) : Nat → Nat := va_up (va_up T (g - l g) (T (g - l g) + d0 g * c / 100)) g (va_up T (g - l g) (T (g - l g) + d0 g * c / 100) g + (d0 g - d0 g * c / 100))
def tn0 (d0 : Nat → Nat) (x : Nat) : Nat := if x = 0 then d0 0 else 0
def tnD (c : Nat) (l d0 : Nat → Nat) : Nat → Nat → Nat := ac (fun T i => tn1 c l d0 T (i + 1)) (tn0 d0)
theorem tn1_0 {c g : Nat} {l d0 T : Nat → Nat} (h : d0 g = 0) : tn1 c l d0 T g = T := by
  funext x
  unfold tn1
  rw [h, Nat.zero_mul, Nat.zero_div, Nat.sub_zero]
  by_cases e : x = g
  · subst e
    rw [va_up_self]
    by_cases e2 : x = x - l x
    · rw [← e2, va_up_self]; rfl
    · rw [va_up_ne _ _ e2]; rfl
  · rw [va_up_ne _ _ e]
    by_cases e2 : x = g - l g
    · rw [e2, va_up_self]; rfl
    · rw [va_up_ne _ _ e2]
theorem tn_eq {c : Nat} {l d0 : Nat → Nat} (hc : c ≤ 100) : ∀ k x, (k < x → tnD c l d0 k x = 0 ∧ rnD c l d0 k x = d0 x) ∧ (x ≤ k → tnD c l d0 k x = rnD c l d0 k x) := by
  intro k
  induction k with
  | zero =>
    intro x
    refine ⟨fun h => ⟨?_, rfl⟩, fun h => ?_⟩
    · show tn0 d0 x = 0
      unfold tn0
      rw [if_neg (by omega)]
    · have : x = 0 := by omega
      subst this
      rfl
  | succ k ih =>
    intro x
    have hw := wet_le (d := d0 (k + 1)) hc
    obtain ⟨hT, hR⟩ := (ih (k + 1)).1 (by omega)
    have eT : tnD c l d0 (k + 1) = tn1 c l d0 (tnD c l d0 k) (k + 1) := rfl
    have eR : rnD c l d0 (k + 1) = rn1 c l (rnD c l d0 k) (k + 1) := rfl
    rw [eT, eR]
    unfold tn1 rn1
    rw [hR]
    generalize hg : k + 1 = g at *
    generalize d0 g * c / 100 = w at *
    by_cases hj : g - l g = g
    · rw [hj]
      by_cases e : x = g
      · subst e
        rw [va_up_self, va_up_self, va_up_self, va_up_self, hT]
        refine ⟨fun h => by omega, fun _ => by omega⟩
      · rw [va_up_ne _ _ e, va_up_ne _ _ e, va_up_ne _ _ e, va_up_ne _ _ e]
        refine ⟨fun h => (ih x).1 (by omega), fun h => (ih x).2 (by omega)⟩
    · have hjl : g - l g < g := by omega
      by_cases e : x = g
      · subst e
        rw [va_up_self, va_up_ne _ _ (Ne.symm hj), hT, va_up_ne _ _ (Ne.symm hj), va_up_self]
        refine ⟨fun h => by omega, fun _ => by omega⟩
      · rw [va_up_ne _ _ e]
        by_cases e2 : x = g - l g
        · rw [e2, va_up_self, va_up_self, va_up_ne _ _ hj]
          refine ⟨fun h => by omega, fun h => by rw [(ih (g - l g)).2 (by omega)]⟩
        · rw [va_up_ne _ _ e2, va_up_ne _ _ e2, va_up_ne _ _ e]
          refine ⟨fun h => (ih x).1 (by omega), fun h => (ih x).2 (by omega)⟩
theorem tn_all {c : Nat} {l d0 : Nat → Nat} (hc : c ≤ 100) {x : Nat} (hx : x < 100) : tnD c l d0 99 x = rnD c l d0 99 x := ((tn_eq hc 99 x).2 (by omega))
/-- what a second row holds is no more than all -/
theorem tn1_sum {c g : Nat} {l d0 T : Nat → Nat} (hc : c ≤ 100) (hg : g < 100) : zc_sm 100 (tn1 c l d0 T g) = zc_sm 100 T + d0 g := by
  unfold tn1
  have h1 := zc_sm_up (f := T) (i := g - l g) (v := T (g - l g) + d0 g * c / 100) (n := 100) (by omega)
  have h2 := zc_sm_up (f := va_up T (g - l g) (T (g - l g) + d0 g * c / 100)) (i := g) (v := va_up T (g - l g) (T (g - l g) + d0 g * c / 100) g + (d0 g - d0 g * c / 100)) (n := 100) hg
  have h3 := wet_le (d := d0 g) hc
  omega
theorem tnD_sum {c : Nat} {l d0 : Nat → Nat} (hc : c ≤ 100) : ∀ k, k ≤ 99 → zc_sm 100 (tnD c l d0 k) = zc_sm (k + 1) d0 := by
  intro k
  induction k with
  | zero =>
    intro _
    have h1 : zc_sm 100 (va_up (fun _ => 0) 0 (d0 0)) + 0 = zc_sm 100 (fun _ => 0) + d0 0 := zc_sm_up (f := fun _ => 0) (i := 0) (v := d0 0) (n := 100) (by omega)
    rw [zc_sm_zero] at h1
    have h2 : zc_sm 100 (tnD c l d0 0) = zc_sm 100 (va_up (fun _ => 0) 0 (d0 0)) := zc_sm_congr (fun i _ => by
      show tn0 d0 i = _
      unfold tn0
      by_cases e : i = 0
      · subst e; rw [if_pos rfl, va_up_self]
      · rw [if_neg e, va_up_ne _ _ e])
    show _ = 0 + d0 0
    omega
  | succ k ih =>
    intro hk
    have h1 := tn1_sum (c := c) (g := k + 1) (l := l) (d0 := d0) (T := tnD c l d0 k) hc (by omega)
    have h2 := ih (by omega)
    show zc_sm 100 (tn1 c l d0 (tnD c l d0 k) (k + 1)) = zc_sm (k + 1) d0 + d0 (k + 1)
    omega
theorem zc_sm_part {f : Nat → Nat} {a : Nat} : ∀ d, zc_sm a f ≤ zc_sm (a + d) f := by
  intro d
  induction d with
  | zero => exact Nat.le_refl _
  | succ d ih => exact Nat.le_trans ih (Nat.le_add_right _ _)
/-- the mean, and how sure -/
def mnS (d : Nat → Nat) (k : Nat) : Nat := zc_sm k (fun i => d (i + 1) * (i + 1))
def mnD (d : Nat → Nat) : Nat := mnS d 99 / 1000000
def suD (d : Nat → Nat) : Nat := AL - d 0
theorem mnS_le (d : Nat → Nat) : ∀ k, k ≤ 99 → mnS d k ≤ 99 * zc_sm k (fun i => d (i + 1)) := by
  intro k hk
  unfold mnS
  rw [← zc_sm_mul]
  refine zc_sm_le (fun i hi => ?_)
  rw [Nat.mul_comm]
  exact Nat.mul_le_mul_right _ (by omega)
theorem mnS_bd {d : Nat → Nat} (h : zc_sm 100 d = AL) : ∀ k, k ≤ 99 → mnS d k ≤ 99 * AL := by
  intro k hk
  have h1 := mnS_le d k hk
  have h2 : zc_sm k (fun i => d (i + 1)) ≤ zc_sm 99 (fun i => d (i + 1)) := by
    have := zc_sm_part (f := fun i => d (i + 1)) (a := k) (99 - k)
    rw [show k + (99 - k) = 99 by omega] at this
    exact this
  have h3 : zc_sm 100 d = d 0 + zc_sm 99 (fun i => d (i + 1)) := zc_sm_first 99 d
  have h4 : 99 * zc_sm k (fun i => d (i + 1)) ≤ 99 * AL := Nat.mul_le_mul_left _ (by omega)
  omega
theorem mnD_bd {d : Nat → Nat} (h : zc_sm 100 d = AL) : mnD d ≤ 99000 := by
  have := mnS_bd h 99 (Nat.le_refl _)
  unfold mnD
  unfold AL at this
  omega
theorem d_bd {d : Nat → Nat} (h : zc_sm 100 d = AL) {x : Nat} (hx : x < 100) : d x ≤ AL := by rw [← h]; exact zc_sm_ge hx
def st0 (g : Nat) (x : Nat) : Nat := if x = g then AL else 0
theorem st0_sum {g : Nat} (hg : g < 100) : zc_sm 100 (st0 g) = AL := by
  have h1 : zc_sm 100 (va_up (fun _ => 0) g AL) + 0 = zc_sm 100 (fun _ => 0) + AL := zc_sm_up (f := fun _ => 0) (i := g) (v := AL) (n := 100) hg
  rw [zc_sm_zero] at h1
  have h2 : zc_sm 100 (st0 g) = zc_sm 100 (va_up (fun _ => 0) g AL) := zc_sm_congr (fun i _ => by
    unfold st0
    by_cases e : i = g
    · subst e; rw [if_pos rfl, va_up_self]
    · rw [if_neg e, va_up_ne _ _ e])
  omega
