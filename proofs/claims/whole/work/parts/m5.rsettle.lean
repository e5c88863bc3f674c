/-! TEXTS: text, of a land: the reference settles it -/
section RSET
variable {σ : sa_St} {l : LDr} {T : Nat → Nat} {N : Nat}
/-- a row copied -/
theorem m_cp {A B n fd fs : Nat} {n32 : Int32} {ex : sa_M Int32} {Q : Int32 → sa_St → Prop} (hn : n32 = nI n) (hn1 : n < 1000) (hA : sa_al .int A = n) (hB : sa_al .int B = n) (hAB : B ≠ A) (rA : σ.2.1 159 fd = A + 1) (rB : σ.2.1 159 fs = B + 1) (hQ : ∀ τ : sa_St, τ.2 = σ.2 → (∀ j, j ≠ A → τ.1 j = σ.1 j) → (∀ i, i < n → τ.1 A i = σ.1 B i) → wp ex τ Q) : wp (sa_wh1 (fun j231 (x8 : Int32) =>
if n32 ≤ x8 then
ex
else
sa_bnd (sa_rdR 12 159 fd) fun v48 =>
sa_bnd (sa_rdR 12 159 fs) fun v49 =>
sa_bnd (sa_ldI .int v49 x8) fun v50 =>
sa_bnd (sa_stI v48 x8 v50) fun _ =>
sa_let ((x8 + 1) : Int32) fun x51 =>
j231 x51) sa_F 0) σ Q := by
  subst hn
  refine wp_for1 n 0 (fun i τ => τ.2 = σ.2 ∧ (∀ j, j ≠ A → τ.1 j = σ.1 j) ∧ ∀ y, y < i → τ.1 A y = σ.1 B y) ?_ ?_ ⟨rfl, fun _ _ => rfl, fun y hy => by omega⟩ (Nat.zero_le _) (by unfold sa_F; omega)
  · rintro i τ hi ⟨t1, t2, t3⟩ j hj
    rw [wp_if]
    refine ⟨fun q => absurd q (nI_ge hi (by omega)), fun _ => ?_⟩
    rw [wp_bnd, wp_rdR (v := A) rfl (by rw [t1]; exact rA), wp_bnd, wp_rdR (v := B) rfl (by rw [t1]; exact rB), wp_bnd, wp_ldI (n := i) (len := n) hB rfl hi (by omega), t2 B hAB, wp_bnd, wp_stI (n := i) (len := n) hA rfl hi (by omega), wp_let, nI_1]
    refine hj _ ⟨t1, fun j hj => by rw [upI_ne hj]; exact t2 j hj, fun y hy => ?_⟩
    rw [upI_self]
    by_cases e : y = i
    · subst e; rw [va_up_self]
    · rw [va_up_ne _ _ e]; exact t3 y (by omega)
  · rintro τ ⟨t1, t2, t3⟩ j
    rw [wp_if]
    refine ⟨fun _ => hQ τ t1 t2 t3, fun q => absurd (nI_le (Nat.le_refl _) (by omega)) q⟩
/-- a row made of noughts -/
theorem m_z0 {ex : sa_M Int32} {Q : Int32 → sa_St → Prop} (hk : SK σ.2.1) (hQ : ∀ τ : sa_St, τ.2 = σ.2 → (∀ j, j ≠ 173 → τ.1 j = σ.1 j) → (∀ i, i < 260 → τ.1 173 i = 0) → wp ex τ Q) : wp (sa_wh1 (fun j309 (x14 : Int32) =>
if 260 ≤ x14 then
ex
else
sa_bnd (sa_rdR 12 159 35) fun v38 =>
sa_bnd (sa_stI v38 x14 0) fun _ =>
sa_let ((x14 + 1) : Int32) fun x39 =>
j309 x39) sa_F 0) σ Q := by
  refine wp_for1 260 0 (fun i τ => τ.2 = σ.2 ∧ (∀ j, j ≠ 173 → τ.1 j = σ.1 j) ∧ ∀ y, y < i → τ.1 173 y = 0) ?_ ?_ ⟨rfl, fun _ _ => rfl, fun y hy => by omega⟩ (by omega) (by unfold sa_F; omega)
  · rintro i τ hi ⟨t1, t2, t3⟩ j hj
    rw [wp_if]
    refine ⟨fun q => absurd q (nI_ge (a := i) (b := 260) hi (by decide)), fun _ => ?_⟩
    rw [wp_bnd, wp_rdR (v := 173) rfl (by rw [t1]; exact sk_159_35 hk), wp_bnd, wp_stI (n := i) (len := 260) al_173 rfl hi (by omega), wp_let, nI_1]
    refine hj _ ⟨t1, fun j hj => by rw [upI_ne hj]; exact t2 j hj, fun y hy => ?_⟩
    rw [upI_self]
    by_cases e : y = i
    · subst e; rw [va_up_self]
    · rw [va_up_ne _ _ e]; exact t3 y (by omega)
  · rintro τ ⟨t1, t2, t3⟩ j
    rw [wp_if]
    refine ⟨fun _ => hQ τ t1 t2 t3, fun q => absurd (show (260 : Int32) ≤ nI 260 by decide) q⟩
theorem m_camp (hk : SK σ.2.1) (hl : LOk l) (h30 : σ.1 159 30 = nI (l 2).length) (h27 : σ.1 159 27 = nI (l 3).length) (hz : ∀ j, j < 260 → σ.1 173 j = 0) (hc : ∀ x, x < (l 2).length → ∀ i, i < 5 → σ.1 168 (5 * x + i) = rC l x i) (hb : ∀ f, f < (l 3).length → σ.1 169 (2 * f + 1) = bF l f) {Q : Int32 → sa_St → Prop} (hQ : ∀ τ : sa_St, τ.2 = σ.2 → (∀ j, j ≠ 159 → j ≠ 173 → τ.1 j = σ.1 j) → (∀ k, k ≠ 43 → k ≠ 48 → k ≠ 69 → k ≠ 73 → τ.1 159 k = σ.1 159 k) → (τ.1 159 43 = 0 ∧ τ.1 159 48 = 0 ∧ τ.1 159 69 = 0 ∧ τ.1 159 73 = 0) → (∃ k wl : Nat → Int32, τ.1 173 = toW k wl ∧ wl 79 = 0 ∧ STl (l 2).length (l 3).length (dnC (l 2).length 0) (rC l) (bF l) k) → Q (nI (l 2).length) τ) : wp (sa_bnd (sa_rdR 12 159 35) fun v15 =>
sa_bnd (sa_rdI 12 159 30) fun v16 =>
sa_bnd (sa_stI v15 75 v16) fun _ =>
sa_let (0 : Int32) fun x17 =>
sa_wh1 (fun j342 (x18 : Int32) =>
sa_bnd (sa_rdI 12 159 30) fun v19 =>
if v19 ≤ x18 then
sa_let (0 : Int32) fun x20 =>
sa_wh1 (fun j415 (x21 : Int32) =>
sa_bnd (sa_rdI 12 159 27) fun v22 =>
if v22 ≤ x21 then
sa_bnd (sa_wrI 12 159 48 0) fun _ =>
sa_bnd (sa_wrI 12 159 69 0) fun _ =>
sa_bnd (sa_wrI 12 159 43 0) fun _ =>
sa_bnd (sa_wrZ 12 159 73 0) fun _ =>
sa_bnd (sa_rdI 12 159 30) fun v23 =>
sa_ret (v23 : Int32)
else
sa_bnd (sa_rdR 12 159 35) fun v24 =>
sa_bnd (sa_rdR 12 159 23) fun v25 =>
sa_bnd (sa_ldI .int v25 ((2 * x21) + 1)) fun v26 =>
sa_bnd (sa_stI v24 (72 + x21) v26) fun _ =>
sa_let ((x21 + 1) : Int32) fun x27 =>
j415 x27) sa_F x20
else
sa_bnd (sa_rdR 12 159 35) fun v28 =>
sa_bnd (sa_rdR 12 159 22) fun v29 =>
sa_bnd (sa_ldI .int v29 (5 * x18)) fun v30 =>
sa_bnd (sa_stI v28 (7 * x18) v30) fun _ =>
sa_let (1 : Int32) fun x31 =>
sa_wh1 (fun j370 (x32 : Int32) =>
if 5 ≤ x32 then
sa_let ((x18 + 1) : Int32) fun x33 =>
j342 x33
else
sa_bnd (sa_rdR 12 159 35) fun v34 =>
sa_bnd (sa_rdR 12 159 22) fun v35 =>
sa_bnd (sa_ldI .int v35 ((5 * x18) + x32)) fun v36 =>
sa_bnd (sa_stI v34 (((7 * x18) + x32) + 1) v36) fun _ =>
sa_let ((x32 + 1) : Int32) fun x37 =>
j370 x37) sa_F x31) sa_F x17) σ Q := by
  have hm5 : (l 2).length ≤ 5 := (hl 2 (by omega)).1
  have hF3 : (l 3).length ≤ 3 := (hl 3 (by omega)).1
  obtain ⟨wl, hwl⟩ : ∃ wl : Nat → Int32, wl = σ.1 173 := ⟨_, rfl⟩
  have hw0 : σ.1 173 = toW (fun _ => 0) wl := by
    funext n
    by_cases h : n < 79
    · rw [toW_src h]; exact hz n (by omega)
    · rw [toW_hi (by omega), hwl]
  have hw79 : wl 79 = 0 := by rw [hwl]; exact hz 79 (by omega)
  rw [wp_bnd, wp_rdR (v := 173) rfl (sk_159_35 hk), wp_bnd, wp_rdI, h30]
  refine ⟨rfl, ?_⟩
  rw [wp_bnd, wp_stI (j := 75) (n := 75) (len := 260) al_173 rfl (by omega) (by omega), wp_let]
  have s1 : (sa_upI σ 173 75 (nI (l 2).length)).1 173 = toW (va_up (fun _ => 0) 22 (nI (l 2).length)) wl := by rw [upI_self, hw0, toW_u75]
  refine wp_for1 (l 2).length 0 (fun n τ => τ.2 = σ.2 ∧ (∀ j, j ≠ 173 → τ.1 j = σ.1 j) ∧ ∃ k : Nat → Int32, τ.1 173 = toW k wl ∧ STl (l 2).length 0 (dnC n 0) (rC l) (bF l) k) ?_ ?_ ⟨rfl, fun j hj => upI_ne hj, _, s1, (STl.zero (fun _ _ => rfl)).n⟩ (Nat.zero_le _) (by unfold sa_F; omega)
  · rintro n τ hn ⟨t1, t2, k, t3, t4⟩ j hj
    have kt : SK τ.2.1 := by rw [t1]; exact hk
    have e5 : (5 : Int32) * nI n = nI (5 * n) := pk_mul 5 n
    have e7 : (7 : Int32) * nI n = nI (7 * n) := pk_mul 7 n
    have c0 : σ.1 168 (5 * n) = rC l n 0 := hc n hn 0 (by omega)
    rw [wp_bnd, wp_rdI, t2 159 (by omega), h30]
    refine ⟨rfl, ?_⟩
    rw [wp_if]
    refine ⟨fun q => absurd q (nI_ge hn (by omega)), fun _ => ?_⟩
    rw [wp_bnd, wp_rdR (v := 173) rfl (sk_159_35 kt), wp_bnd, wp_rdR (v := 168) rfl (sk_159_22 kt), wp_bnd, e5, wp_ldI (n := 5 * n) (len := 25) al_168 rfl (by omega) (by omega), t2 168 (by omega), c0, wp_bnd, e7, wp_stI (n := 7 * n) (len := 260) al_173 rfl (by omega) (by omega), wp_let]
    refine wp_for1 5 1 (fun y υ => 1 ≤ y ∧ υ.2 = σ.2 ∧ (∀ j, j ≠ 173 → υ.1 j = σ.1 j) ∧ ∃ k : Nat → Int32, υ.1 173 = toW k wl ∧ STl (l 2).length 0 (dnC n y) (rC l) (bF l) k) ?_ ?_ ⟨Nat.le_refl _, t1, fun j hj => by rw [upI_ne hj]; exact t2 j hj, va_up k (23 + 7 * n + 0) (rC l n 0), by rw [upI_self, t3]; exact toW_uo0 (by omega), STl.row (i := n) (y := 0) (E2 := dnC n 1) t4 (by omega) (by omega) (dnC_at n 0) (fun j => dnC_up n 0 j)⟩ (by omega) (by unfold sa_F; omega)
    · rintro y υ hy ⟨y1, u1, u2, k2, u3, u4⟩ j2 hj2
      have ku : SK υ.2.1 := by rw [u1]; exact hk
      have ea : nI (5 * n) + nI y = nI (5 * n + y) := nI_add _ _
      have eb : nI (7 * n) + nI y + 1 = nI (7 * n + y + 1) := by rw [nI_add, nI_1]
      rw [wp_if]
      refine ⟨fun q => absurd q (nI_ge (a := y) (b := 5) hy (by decide)), fun _ => ?_⟩
      rw [wp_bnd, wp_rdR (v := 173) rfl (sk_159_35 ku), wp_bnd, wp_rdR (v := 168) rfl (sk_159_22 ku), wp_bnd, ea, wp_ldI (n := 5 * n + y) (len := 25) al_168 rfl (by omega) (by omega), u2 168 (by omega), hc n hn y hy, wp_bnd, eb, wp_stI (n := 7 * n + y + 1) (len := 260) al_173 rfl (by omega) (by omega), wp_let, nI_1]
      have st := STl.row (i := n) (y := y) (E2 := dnC n (y + 1)) u4 (by omega) hy (dnC_at n y) (fun j => dnC_up n y j)
      have ps : psI y = y + 1 := if_neg (by omega)
      rw [ps] at st
      refine hj2 _ ⟨by omega, u1, fun j hj => by rw [upI_ne hj]; exact u2 j hj, _, ?_, st⟩
      rw [upI_self, u3]
      exact toW_uo (c := n) (j := y + 1) (by omega)
    · rintro υ ⟨-, u1, u2, k2, u3, u4⟩ j2
      rw [wp_if]
      refine ⟨fun _ => ?_, fun q => absurd (show (5 : Int32) ≤ nI 5 by decide) q⟩
      rw [wp_let, nI_1]
      rw [dnC_5] at u4
      exact hj _ ⟨u1, u2, k2, u3, u4⟩
  · rintro τ ⟨t1, t2, k, t3, t4⟩ j
    have kt : SK τ.2.1 := by rw [t1]; exact hk
    rw [wp_bnd, wp_rdI, t2 159 (by omega), h30]
    refine ⟨rfl, ?_⟩
    rw [wp_if]
    refine ⟨fun _ => ?_, fun q => absurd (nI_le (Nat.le_refl _) (by omega)) q⟩
    rw [wp_let]
    refine wp_for1 (l 3).length 0 (fun f υ => υ.2 = σ.2 ∧ (∀ j, j ≠ 173 → υ.1 j = σ.1 j) ∧ ∃ k : Nat → Int32, υ.1 173 = toW k wl ∧ STl (l 2).length f (dnC (l 2).length 0) (rC l) (bF l) k) ?_ ?_ ⟨t1, t2, k, t3, t4⟩ (Nat.zero_le _) (by unfold sa_F; omega)
    · rintro f υ hf ⟨u1, u2, k2, u3, u4⟩ j2 hj2
      have ku : SK υ.2.1 := by rw [u1]; exact hk
      have ea : (2 : Int32) * nI f + 1 = nI (2 * f + 1) := by rw [show (2 : Int32) * nI f = nI (2 * f) from pk_mul 2 f, nI_1]
      have eb : 72 + nI f = nI (72 + f) := nI_add 72 f
      rw [wp_bnd, wp_rdI, u2 159 (by omega), h27]
      refine ⟨rfl, ?_⟩
      rw [wp_if]
      refine ⟨fun q => absurd q (nI_ge hf (by omega)), fun _ => ?_⟩
      rw [wp_bnd, wp_rdR (v := 173) rfl (sk_159_35 ku), wp_bnd, wp_rdR (v := 169) rfl (sk_159_23 ku), wp_bnd, ea, wp_ldI (n := 2 * f + 1) (len := 6) al_169 rfl (by omega) (by omega), u2 169 (by omega), hb f hf, wp_bnd, eb, wp_stI (n := 72 + f) (len := 260) al_173 rfl (by omega) (by omega), wp_let, nI_1]
      refine hj2 _ ⟨u1, fun j hj => by rw [upI_ne hj]; exact u2 j hj, _, ?_, u4.bk (by omega)⟩
      rw [upI_self, u3]
      exact toW_ub (by omega)
    · rintro υ ⟨u1, u2, k2, u3, u4⟩ j2
      rw [wp_bnd, wp_rdI, u2 159 (by omega), h27]
      refine ⟨rfl, ?_⟩
      rw [wp_if]
      refine ⟨fun _ => ?_, fun q => absurd (nI_le (Nat.le_refl _) (by omega)) q⟩
      rw [wp_bnd, wp_wrI]
      refine ⟨rfl, ?_⟩
      rw [wp_bnd, wp_wrI]
      refine ⟨rfl, ?_⟩
      rw [wp_bnd, wp_wrI]
      refine ⟨rfl, ?_⟩
      rw [wp_bnd, wp_wrZ]
      refine ⟨⟨rfl, Or.inl rfl⟩, ?_⟩
      have c9 : ∀ k, k ≠ 43 → k ≠ 48 → k ≠ 69 → k ≠ 73 → (sa_upI (sa_upI (sa_upI (sa_upI υ 159 48 0) 159 69 0) 159 43 0) 159 73 0).1 159 k = σ.1 159 k := fun k a b c d => by rw [upI_self, va_up_ne _ _ d, upI_self, va_up_ne _ _ a, upI_self, va_up_ne _ _ c, upI_self, va_up_ne _ _ b, u2 159 (by omega)]
      have cj : ∀ j, j ≠ 159 → (sa_upI (sa_upI (sa_upI (sa_upI υ 159 48 0) 159 69 0) 159 43 0) 159 73 0).1 j = υ.1 j := fun j a => by rw [upI_ne a, upI_ne a, upI_ne a, upI_ne a]
      have z1 : (sa_upI (sa_upI (sa_upI (sa_upI υ 159 48 0) 159 69 0) 159 43 0) 159 73 0).1 159 43 = 0 := by rw [upI_self, va_up_ne _ _ (by omega), upI_self, va_up_self]
      have z2 : (sa_upI (sa_upI (sa_upI (sa_upI υ 159 48 0) 159 69 0) 159 43 0) 159 73 0).1 159 48 = 0 := by rw [upI_self, va_up_ne _ _ (by omega), upI_self, va_up_ne _ _ (by omega), upI_self, va_up_ne _ _ (by omega), upI_self, va_up_self]
      have z3 : (sa_upI (sa_upI (sa_upI (sa_upI υ 159 48 0) 159 69 0) 159 43 0) 159 73 0).1 159 69 = 0 := by rw [upI_self, va_up_ne _ _ (by omega), upI_self, va_up_ne _ _ (by omega), upI_self, va_up_self]
      have z4 : (sa_upI (sa_upI (sa_upI (sa_upI υ 159 48 0) 159 69 0) 159 43 0) 159 73 0).1 159 73 = 0 := by rw [upI_self, va_up_self]
      have z5 : (sa_upI (sa_upI (sa_upI (sa_upI υ 159 48 0) 159 69 0) 159 43 0) 159 73 0).2 = σ.2 := u1
      generalize sa_upI (sa_upI (sa_upI (sa_upI υ 159 48 0) 159 69 0) 159 43 0) 159 73 0 = ω at c9 cj z1 z2 z3 z4 z5 ⊢
      rw [wp_bnd, wp_rdI, c9 30 (by omega) (by omega) (by omega) (by omega), h30]
      refine ⟨rfl, ?_⟩
      rw [wp_ret]
      exact hQ ω z5 (fun j a b => by rw [cj j a]; exact u2 j b) c9 ⟨z1, z2, z3, z4⟩ ⟨k2, wl, by rw [cj 173 (by omega)]; exact u3, hw79, u4⟩
end RSET
