/-! indices -/
theorem i8R (a b : Nat) : nI a * 8 + nI b = nI (8 * a + b) := (show nI a * nI 8 + nI b = nI (8 * a + b) by rw [pk_mul, nI_add, Nat.mul_comm])
theorem i8L (a b : Nat) : (8 : Int32) * nI a + nI b = nI (8 * a + b) := (show nI 8 * nI a + nI b = nI (8 * a + b) by rw [pk_mul, nI_add])
theorem i25 (a b : Nat) : nI a * 25 + nI b = nI (25 * a + b) := (show nI a * nI 25 + nI b = nI (25 * a + b) by rw [pk_mul, nI_add, Nat.mul_comm])
theorem i7 (a : Nat) : (7 : Int32) * nI a = nI (7 * a) := pk_mul 7 a
theorem i4 (a : Nat) : (4 : Int32) * nI a = nI (4 * a) := pk_mul 4 a
theorem i72 (a : Nat) : (7 : Int32) * nI a + 2 = nI (7 * a + 2) := (show nI 7 * nI a + nI 2 = nI (7 * a + 2) by rw [pk_mul, nI_add])
theorem i73 (a : Nat) : (7 : Int32) * nI a + 3 = nI (7 * a + 3) := (show nI 7 * nI a + nI 3 = nI (7 * a + 3) by rw [pk_mul, nI_add])
theorem i74 (a : Nat) : (7 : Int32) * nI a + 4 = nI (7 * a + 4) := (show nI 7 * nI a + nI 4 = nI (7 * a + 4) by rw [pk_mul, nI_add])
theorem i75 (a : Nat) : (7 : Int32) * nI a + 5 = nI (7 * a + 5) := (show nI 7 * nI a + nI 5 = nI (7 * a + 5) by rw [pk_mul, nI_add])
theorem i41 (a : Nat) : (4 : Int32) * nI a + 1 = nI (4 * a + 1) := (show nI 4 * nI a + nI 1 = nI (4 * a + 1) by rw [pk_mul, nI_add])
theorem i42 (a : Nat) : (4 : Int32) * nI a + 2 = nI (4 * a + 2) := (show nI 4 * nI a + nI 2 = nI (4 * a + 2) by rw [pk_mul, nI_add])
theorem i43 (a : Nat) : (4 : Int32) * nI a + 3 = nI (4 * a + 3) := (show nI 4 * nI a + nI 3 = nI (4 * a + 3) by rw [pk_mul, nI_add])
theorem icl (a b c : Nat) : (nI a * 12 + nI b) * 5 + nI c = nI ((a * 12 + b) * 5 + c) := ixd a b c
/-! PICKETS: the i-th row, by the class -/
def s2 (σ : sa_St) (r w : Nat → Int32) : sa_St := (va_up (va_up σ.1 157 r) 158 w, σ.2)
section S2
variable {σ : sa_St} {r w w2 : Nat → Int32} {i : Nat} {v : Int32}
theorem s2_7 : (s2 σ r w).1 157 = r := by
  show va_up (va_up σ.1 157 r) 158 w 157 = r
  rw [va_up_ne _ _ (by omega), va_up_self]
theorem s2_8 : (s2 σ r w).1 158 = w := by
  show va_up (va_up σ.1 157 r) 158 w 158 = w
  rw [va_up_self]
theorem s2_ne {j : Nat} (h : j ≠ 157) (h2 : j ≠ 158) : (s2 σ r w).1 j = σ.1 j := by
  show va_up (va_up σ.1 157 r) 158 w j = _
  rw [va_up_ne _ _ h2, va_up_ne _ _ h]
theorem s2_up : sa_upI (s2 σ r w) 157 i v = s2 σ (va_up r i v) w := by
  refine Prod.ext (funext fun j => ?_) rfl
  show va_up (s2 σ r w).1 157 (va_up ((s2 σ r w).1 157) i v) j = va_up (va_up σ.1 157 (va_up r i v)) 158 w j
  rw [s2_7]
  by_cases h : j = 157
  · subst h
    rw [va_up_self, va_up_ne _ _ (by omega), va_up_self]
  · rw [va_up_ne _ _ h]
    by_cases h2 : j = 158
    · subst h2
      rw [s2_8, va_up_self]
    · rw [s2_ne h h2, va_up_ne _ _ h2, va_up_ne _ _ h]
theorem s2_set : (va_up (s2 σ r w).1 158 w2, (s2 σ r w).2) = s2 σ r w2 := Prod.ext va_up_two rfl
theorem s2_of : (va_up (va_up σ.1 157 r, σ.2).1 158 w, (va_up σ.1 157 r, σ.2).2) = s2 σ r w := rfl
end S2
def rbh (cap : Nat → Nat) (N o : Nat) : Nat := if 0 < cap o then zc_wr 8 (zc_dec cap o) N else 0
theorem zc_sm_ub {f : Nat → Nat} {b : Nat} : ∀ m, (∀ i, i < m → f i ≤ b) → zc_sm m f ≤ m * b := by
  intro m
  induction m with
  | zero => intro _; exact Nat.zero_le _
  | succ m ih =>
    intro h
    show zc_sm m f + f m ≤ _
    have h1 := ih (fun i hi => h i (by omega))
    have h2 := h m (by omega)
    rw [Nat.succ_mul]
    omega
theorem zc_wr_0 (m : Nat) (cap : Nat → Nat) : zc_wr m cap 0 = 1 := (zc_rows_len m 0 cap 0).symm
theorem zc_wr_le : ∀ (n : Nat) (cap : Nat → Nat), zc_wr 8 cap n ≤ 8 ^ n := by
  intro n
  induction n with
  | zero => intro cap; rw [zc_wr_0]; exact Nat.le_refl _
  | succ n ih =>
    intro cap
    rw [zc_wr_step]
    have := zc_sm_ub (f := fun c => if 0 < cap c then zc_wr 8 (zc_dec cap c) n else 0) (b := 8 ^ n) 8 (fun i _ => by
      by_cases h : 0 < cap i
      · simp only [if_pos h]; exact ih _
      · simp only [if_neg h]; exact Nat.zero_le _)
    rw [Nat.pow_succ]
    omega
theorem wr_bd {n : Nat} (hn : n ≤ 6) (cap : Nat → Nat) : zc_wr 8 cap n ≤ 262144 :=
  Nat.le_trans (zc_wr_le n cap) (show 8 ^ n ≤ 8 ^ 6 from Nat.pow_le_pow_right (by omega) hn)
theorem rbh_bd {n : Nat} (hn : n ≤ 6) (cap : Nat → Nat) (o : Nat) : rbh cap n o ≤ 262144 := by
  unfold rbh
  by_cases h : 0 < cap o
  · rw [if_pos h]; exact wr_bd hn _
  · rw [if_neg h]; omega
theorem rbh_sum (cap : Nat → Nat) (n : Nat) : zc_sm 8 (rbh cap n) = zc_wr 8 cap (n + 1) := (zc_wr_step 8 cap n).symm
theorem dec_row {cap : Nat → Nat} {r : Nat → Int32} {o : Nat} {v : Int32} (ho : 0 < cap o) (hr : ∀ i, i < 8 → r i = nI (cap i)) (hv : v = nI (cap o) - 1) : ∀ i, i < 8 → va_up r o v i = nI (zc_dec cap o i) := by
  intro i hi
  unfold zc_dec
  by_cases e : i = o
  · subst e
    rw [va_up_self, if_pos rfl, hv]
    exact pk_sub ho
  · rw [va_up_ne _ _ e, if_neg e]
    exact hr i hi
theorem dec_99 {cap : Nat → Nat} {o : Nat} (h : ∀ i, i < 8 → cap i ≤ 99) : ∀ i, i < 8 → zc_dec cap o i ≤ 99 := by
  intro i hi
  have := h i hi
  unfold zc_dec
  split <;> omega
section ROWB
variable {σ : sa_St} {cap : Nat → Nat} {N o : Nat} {r w : Nat → Int32} {Q : Int32 → sa_St → Prop}
theorem c_behind (hk : SK σ.2.1) (ho : o < 8) (hN : N ≤ 6) (hr : ∀ i, i < 8 → r i = nI (cap i)) (hc : ∀ i, i < 8 → cap i ≤ 99) (hQ : ∀ r2 w2 : Nat → Int32, (∀ i, i < 8 → r2 i = nI (cap i)) → Q (nI (rbh cap N o)) (s2 σ r2 w2)) : wp (f_X10_rowsBehind 156 (nI o) (nI N)) (s2 σ r w) Q := by
  have e0 := sk_156_0 hk
  have c9 := hc o ho
  unfold f_X10_rowsBehind
  rw [wp_gd]
  refine ⟨rfl, ?_⟩
  rw [wp_bnd, wp_rdR (σ := s2 σ r w) (v := 157) rfl e0, wp_bnd, wp_ldI (n := o) (len := 8) al_157 rfl ho (by omega), s2_7, hr o ho]
  by_cases h0 : cap o = 0
  · rw [wp_if]
    refine ⟨fun q => absurd (show nI (cap o) = 0 by rw [h0]; rfl) q, fun _ => ?_⟩
    rw [wp_ret]
    have hq := hQ r w hr
    unfold rbh at hq
    rw [if_neg (by omega)] at hq
    exact hq
  · rw [wp_if]
    refine ⟨fun _ => ?_, fun q => absurd (nI_ne0 (by omega) (by omega)) q⟩
    rw [wp_bnd, wp_rdR (σ := s2 σ r w) (v := 157) rfl e0, wp_bnd, wp_ldI (n := o) (len := 8) al_157 rfl ho (by omega), s2_7, hr o ho, wp_bnd, wp_stI (n := o) (len := 8) al_157 rfl ho (by omega), s2_up, wp_bnd]
    have hd := dec_row (cap := cap) (o := o) (v := nI (cap o) - 1) (by omega) hr rfl
    refine c_rows (σ := s2 σ (va_up r o (nI (cap o) - 1)) w) (cap := zc_dec cap o) hk hN (fun i hi => ?_) (dec_99 hc) (fun w2 => ?_)
    · rw [s2_7]
      exact hd i hi
    · rw [s2_set, wp_bnd, wp_rdR (σ := s2 σ (va_up r o (nI (cap o) - 1)) w2) (v := 157) rfl e0, wp_bnd, wp_ldI (n := o) (len := 8) al_157 rfl ho (by omega), s2_7, va_up_self, wp_bnd, wp_stI (n := o) (len := 8) al_157 rfl ho (by omega), s2_up, wp_ret]
      have hq := hQ (va_up (va_up r o (nI (cap o) - 1)) o (nI (cap o) - 1 + 1)) w2 (fun i hi => by
        by_cases e : i = o
        · subst e
          rw [va_up_self]
          show nI (cap i) - nI 1 + 1 = _
          rw [pk_sub (by omega), nI_1]
          exact congrArg nI (by omega)
        · rw [va_up_ne _ _ e, va_up_ne _ _ e]
          exact hr i hi)
      unfold rbh at hq
      rw [if_pos (by omega)] at hq
      exact hq
theorem c_find {ex : Int32 → Int32 → sa_M Int32} {t i : Nat} (hk : SK σ.2.1) (ht : t ≤ 5) (hr : ∀ i, i < 8 → r i = nI (cap i)) (hc : ∀ i, i < 8 → cap i ≤ 99) (hi : i < zc_wr 8 cap (t + 1)) (hQ : ∀ (o : Nat) (r2 w2 : Nat → Int32), o < 8 → zc_sm o (rbh cap t) ≤ i → i < zc_sm o (rbh cap t) + rbh cap t o → (∀ j, j < 8 → r2 j = nI (cap j)) → wp (ex (nI (i - zc_sm o (rbh cap t))) (nI o)) (s2 σ r2 w2) Q) :
    wp (sa_wh3 (fun j28 (x8 : Int32) (x9 : Int32) (x10 : Int32) =>
sa_jn0 (ex x8 x9) fun j65 =>
if 7 ≤ x9 then
j65
else
if x8 < x10 then
j65
else
sa_let ((x8 - x10) : Int32) fun x15 =>
sa_let ((x9 + 1) : Int32) fun x16 =>
sa_bnd (f_X10_rowsBehind 156 x16 (nI t)) fun v17 =>
j28 x15 x16 v17) sa_F (nI i) 0 (nI (rbh cap t 0))) (s2 σ r w) Q := by
  have hw := wr_bd (n := t + 1) (by omega) cap
  have hs := rbh_sum cap t
  refine wp_wh3 (fun ms a b c τ => ∃ (o : Nat) (r2 w2 : Nat → Int32), o < 8 ∧ o + ms = 8 ∧ a = nI (i - zc_sm o (rbh cap t)) ∧ b = nI o ∧ c = nI (rbh cap t o) ∧ zc_sm o (rbh cap t) ≤ i ∧ τ = s2 σ r2 w2 ∧ ∀ j, j < 8 → r2 j = nI (cap j)) ?_ sa_F 8 (nI i) 0 (nI (rbh cap t 0)) (s2 σ r w) (by unfold sa_F; omega) ⟨0, r, w, by omega, by omega, rfl, rfl, rfl, Nat.zero_le _, rfl, hr⟩
  rintro ms a b c τ ⟨o, r2, w2, ho, hms, rfl, rfl, rfl, hle, rfl, h2⟩ d hd
  have hbd := rbh_bd (n := t) (by omega) cap o
  rw [wp_jn0, wp_if]
  refine ⟨fun q => ?_, fun q => ?_⟩
  · have ho7 : o = 7 := by
      rw [L7, nI_leI (by omega) (by omega)] at q
      omega
    subst ho7
    refine hQ 7 r2 w2 (by omega) hle ?_ h2
    have : zc_sm 8 (rbh cap t) = zc_sm 7 (rbh cap t) + rbh cap t 7 := rfl
    omega
  · rw [L7, nI_leI (by omega) (by omega)] at q
    rw [wp_if]
    refine ⟨fun q2 => ?_, fun q2 => ?_⟩
    · rw [nI_ltI (by omega) (by omega)] at q2
      exact hQ o r2 w2 ho hle (by omega) h2
    · rw [nI_ltI (by omega) (by omega)] at q2
      rw [wp_let, wp_let, nI_1, wp_bnd]
      refine c_behind hk (by omega) (by omega) h2 hc (fun r3 w3 h3 => ?_)
      have es : zc_sm (o + 1) (rbh cap t) = zc_sm o (rbh cap t) + rbh cap t o := rfl
      refine hd (ms - 1) _ _ _ _ (by omega) ⟨o + 1, r3, w3, by omega, by omega, ?_, rfl, rfl, by omega, rfl, h3⟩
      rw [pk_sub (by omega)]
      exact congrArg nI (by omega)
theorem c_row {i dd : Nat} (hk : SK σ.2.1) (hN : N ≤ 6) (hr : ∀ i, i < 8 → r i = nI (cap i)) (hc : ∀ i, i < 8 → cap i ≤ 99) (hi : (zc_rows 8 N cap 0)[i]? = some dd) (hN0 : 0 < N) (hQ : ∀ r2 w2 : Nat → Int32, Q (nI dd) (s2 σ r2 w2)) : wp (f_X10_row 156 (nI N) (nI i)) (s2 σ r w) Q := by
  have e0 := sk_156_0 hk
  unfold f_X10_row
  rw [wp_gd]
  refine ⟨rfl, ?_⟩
  rw [wp_let, wp_let]
  have eN : nI N - 1 = nI (N - 1) := pk_sub hN0
  rw [eN]
  refine wp_wh3 (fun ms a b c τ => ∃ (row i : Nat) (cap : Nat → Nat) (r2 w2 : Nat → Int32), ms ≤ N ∧ a = nI row ∧ b = nI i ∧ c = (if ms = 0 then mI else nI (ms - 1)) ∧ τ = s2 σ r2 w2 ∧ (∀ j, j < 8 → r2 j = nI (cap j)) ∧ (∀ j, j < 8 → cap j ≤ 99) ∧ (zc_rows 8 ms cap row)[i]? = some dd) ?_ sa_F N 0 (nI i) (nI (N - 1)) (s2 σ r w) (by unfold sa_F; omega) ⟨0, i, cap, r, w, Nat.le_refl N, rfl, rfl, by rw [if_neg (by omega)], rfl, hr, hc, hi⟩
  rintro ms a b c τ ⟨row, i, cap, r2, w2, hms, rfl, rfl, rfl, rfl, h2, hc2, hdd⟩ d hd
  cases ms with
  | zero =>
    rw [if_pos rfl, wp_if]
    refine ⟨fun _ => ?_, fun q => absurd (show mI < 0 by decide) q⟩
    rw [wp_ret]
    have : dd = row := by
      cases i with
      | zero => exact (Option.some.inj hdd).symm
      | succ i => cases hdd
    rw [← this]
    exact hQ r2 w2
  | succ t =>
    have ec : (if t + 1 = 0 then mI else nI (t + 1 - 1)) = nI t := by rw [if_neg (by omega), Nat.add_sub_cancel]
    rw [ec, wp_if]
    refine ⟨fun q => absurd q (nI_pos (by omega)), fun _ => ?_⟩
    have hil : i < zc_wr 8 cap (t + 1) := by
      rw [← zc_rows_len 8 (t + 1) cap row]
      exact lt_of_some hdd
    rw [wp_let, wp_bnd]
    refine c_behind (o := 0) hk (by omega) (by omega) h2 hc2 (fun r3 w3 h3 => ?_)
    refine c_find (ex := fun x8 x9 => sa_bnd (sa_rdR 10 156 0) fun v11 => sa_bnd (sa_ldI .int v11 x9) fun v12 => sa_bnd (sa_stI v11 x9 (v12 - 1)) fun _ => sa_let (((nI row * 10) + x9) : Int32) fun x13 => sa_let ((nI t + (-1)) : Int32) fun x14 => d x13 x8 x14) hk (by omega) h3 hc2 hil (fun o r4 w4 ho hle hlt h4 => ?_)
    have c9 := hc2 o ho
    have hpos : 0 < cap o := by
      refine Nat.pos_of_ne_zero (fun h => ?_)
      have e : rbh cap t o = 0 := by unfold rbh; rw [if_neg (by omega)]
      omega
    rw [wp_bnd, wp_rdR (σ := s2 σ r4 w4) (v := 157) rfl e0, wp_bnd, wp_ldI (n := o) (len := 8) al_157 rfl ho (by omega), s2_7, h4 o ho, wp_bnd, wp_stI (n := o) (len := 8) al_157 rfl ho (by omega), s2_up, wp_let, wp_let]
    refine hd t _ _ _ _ (by omega) ⟨10 * row + o, i - zc_sm o (rbh cap t), zc_dec cap o, va_up r4 o (nI (cap o) - 1), w4, by omega, ?_, rfl, ?_, rfl, dec_row hpos h4 rfl, dec_99 hc2, ?_⟩
    · show nI row * nI 10 + nI o = _
      rw [pk_mul, nI_add]
      exact congrArg nI (by omega)
    · cases t with
      | zero => rfl
      | succ t => rw [if_neg (by omega)]; exact pk_m1 t
    · have hg : ∀ c, (if 0 < cap c then zc_rows 8 t (zc_dec cap c) (10 * row + c) else []).length = rbh cap t c := by
        intro c
        unfold rbh
        by_cases h : 0 < cap c
        · rw [if_pos h, if_pos h, zc_rows_len]
        · rw [if_neg h, if_neg h]; rfl
      have hf := zc_flat_at (fun c => if 0 < cap c then zc_rows 8 t (zc_dec cap c) (10 * row + c) else []) (c := o) (r := i - zc_sm o (rbh cap t)) (m := 8) ho (by rw [hg]; omega)
      rw [zc_sm_congr (f := fun c => (if 0 < cap c then zc_rows 8 t (zc_dec cap c) (10 * row + c) else []).length) (g := rbh cap t) (fun c _ => hg c), show zc_sm o (rbh cap t) + (i - zc_sm o (rbh cap t)) = i by omega] at hf
      simp only [if_pos hpos] at hf
      rw [← hf]
      exact hdd
end ROWB
