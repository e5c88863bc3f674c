/-! TEXTS: what reading leaves of all that stands between calls -/
def ARd (j k : Nat) : Prop := (j = 159 ∧ (k = 0 ∨ (8 ≤ k ∧ k ≤ 14) ∨ k = 17 ∨ (28 ≤ k ∧ k ≤ 31))) ∨ j = 165 ∨ j = 167 ∨ j = 168 ∨ j = 170 ∨ (j = 171 ∧ 192 ≤ k) ∨ (j = 172 ∧ 4 ≤ k)
def AA (n m D : Nat) (j k : Nat) : Prop := (j = 1 ∧ k = 2) ∨ j = D + 1 ∨ j = D + 2 ∨ j = 18 + 3 * n ∨ j = 19 + 3 * n ∨ j = 34 + 2 * m ∨ j = 35 + 2 * m ∨ ARd j k
theorem ZFr.rfl' {A : Nat → Nat → Prop} {σ : sa_St} : ZFr A σ σ := ⟨fun _ _ _ => rfl, rfl, fun _ _ _ => rfl⟩
theorem ZFr.trans {A : Nat → Nat → Prop} {σ τ υ : sa_St} (h : ZFr A σ τ) (h2 : ZFr A τ υ) : ZFr A σ υ := ⟨fun a b c => (h2.1 a b c).trans (h.1 a b c), h2.2.1.trans h.2.1, fun j k a => (h2.2.2 j k a).trans (h.2.2 j k a)⟩
theorem ZFr.mono {A B : Nat → Nat → Prop} {σ τ : sa_St} (h : ZFr A σ τ) (hAB : ∀ j k, A j k → B j k) : ZFr B σ τ := ⟨h.1, h.2.1, fun j k a => h.2.2 j k (fun q => a (hAB j k q))⟩
theorem ZFr.up {A : Nat → Nat → Prop} {σ : sa_St} {j k : Nat} {v : Int32} (h : A j k) : ZFr A σ (sa_upI σ j k v) := ⟨fun _ _ _ => rfl, rfl, fun a b n => by
  by_cases e : a = j
  · subst e
    rw [upI_self]
    by_cases e2 : b = k
    · subst e2; exact absurd h n
    · rw [va_up_ne _ _ e2]
  · rw [upI_ne e]⟩
theorem TFr.z {A B : Nat} {X : Nat → Nat → Prop} {σ τ : sa_St} (h : TFr A B σ τ) (h1 : X 1 2) (hA : ∀ k, X A k) (hB : ∀ k, X B k) : ZFr X σ τ := by
  refine ⟨fun a b _ => by rw [h.1], by rw [h.1], fun j k n => ?_⟩
  by_cases e1 : j = 1
  · subst e1
    exact h.2.2 k (fun e => n (by rw [e]; exact h1))
  · rw [h.2.1 j e1 (fun e => n (by rw [e]; exact hA k)) (fun e => n (by rw [e]; exact hB k))]
theorem LFr.tf {l : Nat} {σ τ : sa_St} (h : LFr l σ τ) : TFr (18 + 3 * l) (19 + 3 * l) σ τ := ⟨h.1, h.2.1, h.2.2.1⟩
theorem I_T.tp {σ : sa_St} (hk : SK σ.2.1) (h : I_T σ) : ∃ (T : Nat → Nat) (N : Nat), CTp T N σ ∧ RBy T N σ := by
  obtain ⟨n0, hn0, hsz, hlen, hb⟩ := h
  have hs0 : ∀ j, j < n0 → 0 < (σ.1 2 j).toNatClampNeg ∧ (σ.1 2 j).toNatClampNeg < 256 ∧ σ.1 2 j = nI (σ.1 2 j).toNatClampNeg ∧ σ.1 160 j = vp_nar .byte (nI (σ.1 2 j).toNatClampNeg) := by
    intro j hj
    obtain ⟨b, b0, b1, b2, b3⟩ := hb j hj
    rw [b2, nI_clamp (by omega)]
    exact ⟨b0, b1, rfl, b3⟩
  exact ⟨fun j => (σ.1 2 j).toNatClampNeg, n0, ⟨hk, hn0, fun i hi => ⟨(hs0 i hi).1, (hs0 i hi).2.1⟩, hsz, fun i hi => (hs0 i hi).2.2.1⟩, ⟨hk, hn0, fun i hi => ⟨(hs0 i hi).1, (hs0 i hi).2.1⟩, hlen, fun i hi => (hs0 i hi).2.2.2⟩⟩
theorem RBy.z {T : Nat → Nat} {N : Nat} {X : Nat → Nat → Prop} {σ τ : sa_St} (h : RBy T N σ) (hz : ZFr X σ τ) (h6 : ¬ X 159 6) (h160 : ∀ k, ¬ X 160 k) : RBy T N τ := by
  obtain ⟨a, b, c, d, e⟩ := h
  exact ⟨a.of (fun x y q _ => hz.1 x y q), b, c, by rw [hz.2.2 159 6 h6]; exact d, fun i hi => by rw [hz.2.2 160 i (h160 i)]; exact e i hi⟩
section KEEP
variable {k L P W F n m D : Nat} {f : Nat → LWt} {σ τ : sa_St}
/-- all but the reading of texts stands -/
theorem Iv.keep (h : Iv k L P W F n f σ) (hm : σ.1 0 5 = nI m) (hm4 : m ≤ 4) (hD : (L = 3 ∧ D = 9) ∨ (L = 9 ∧ D = 3)) (hz : ZFr (AA n m D) σ τ) : Iv k L P W F n f τ := by
  obtain ⟨h0, h1, h2, h3, h4, h5, h6, h7, h8, h9, h10, h11⟩ := h
  obtain ⟨zr, z2, zc⟩ := hz
  have hn4 : n ≤ 4 := h5.1
  have row : ∀ j, j ≠ 1 → j ≠ D + 1 → j ≠ D + 2 → j ≠ 18 + 3 * n → j ≠ 19 + 3 * n → j ≠ 34 + 2 * m → j ≠ 35 + 2 * m → j ≠ 159 → j ≠ 165 → j ≠ 167 → j ≠ 168 → j ≠ 170 → j ≠ 171 → j ≠ 172 → τ.1 j = σ.1 j := fun j a1 a2 a3 a4 a5 a6 a7 a8 a9 a10 a11 a12 a13 a14 => funext fun k => zc j k (by unfold AA ARd; omega)
  have c159 : ∀ k, k ≠ 0 → (k < 8 ∨ 14 < k) → k ≠ 17 → (k < 28 ∨ 31 < k) → τ.1 159 k = σ.1 159 k := fun k a1 a2 a3 a4 => zc 159 k (by unfold AA ARd; omega)
  refine ⟨h0.of (fun a b c _ => zr a b c), h1.of (fun a b c _ => zr a b c), ?_, ?_, fun hP => ?_, ?_, ?_, ?_, ?_, ?_, ?_, ?_⟩
  · unfold I_T at h2 ⊢
    rw [zc 1 1 (by unfold AA ARd; omega), c159 6 (by omega) (by omega) (by omega) (by omega), row 2 (by omega) (by omega) (by omega) (by omega) (by omega) (by omega) (by omega) (by omega) (by omega) (by omega) (by omega) (by omega) (by omega) (by omega), row 160 (by omega) (by omega) (by omega) (by omega) (by omega) (by omega) (by omega) (by omega) (by omega) (by omega) (by omega) (by omega) (by omega) (by omega)]
    exact h2
  · unfold I_L at h3 ⊢
    rw [row (L + 1) (by omega) (by omega) (by omega) (by omega) (by omega) (by omega) (by omega) (by omega) (by omega) (by omega) (by omega) (by omega) (by omega) (by omega), row (L + 2) (by omega) (by omega) (by omega) (by omega) (by omega) (by omega) (by omega) (by omega) (by omega) (by omega) (by omega) (by omega) (by omega) (by omega), row 164 (by omega) (by omega) (by omega) (by omega) (by omega) (by omega) (by omega) (by omega) (by omega) (by omega) (by omega) (by omega) (by omega) (by omega), row 166 (by omega) (by omega) (by omega) (by omega) (by omega) (by omega) (by omega) (by omega) (by omega) (by omega) (by omega) (by omega) (by omega) (by omega), row 169 (by omega) (by omega) (by omega) (by omega) (by omega) (by omega) (by omega) (by omega) (by omega) (by omega) (by omega) (by omega) (by omega) (by omega), c159 25 (by omega) (by omega) (by omega) (by omega), c159 26 (by omega) (by omega) (by omega) (by omega), c159 27 (by omega) (by omega) (by omega) (by omega)]
    exact h3
  · have h4' := h4 hP
    unfold I_M at h4' ⊢
    rw [row (L + 2) (by omega) (by omega) (by omega) (by omega) (by omega) (by omega) (by omega) (by omega) (by omega) (by omega) (by omega) (by omega) (by omega) (by omega), row (L + 3) (by omega) (by omega) (by omega) (by omega) (by omega) (by omega) (by omega) (by omega) (by omega) (by omega) (by omega) (by omega) (by omega) (by omega), row (L + 4) (by omega) (by omega) (by omega) (by omega) (by omega) (by omega) (by omega) (by omega) (by omega) (by omega) (by omega) (by omega) (by omega) (by omega), row (L + 5) (by omega) (by omega) (by omega) (by omega) (by omega) (by omega) (by omega) (by omega) (by omega) (by omega) (by omega) (by omega) (by omega) (by omega)]
    exact h4'
  · have w1 := h5
    unfold I_W at w1 ⊢
    obtain ⟨i1, i2, i3, i4, i5, i6⟩ := w1
    have r15 : τ.1 15 = σ.1 15 := row 15 (by omega) (by omega) (by omega) (by omega) (by omega) (by omega) (by omega) (by omega) (by omega) (by omega) (by omega) (by omega) (by omega) (by omega)
    refine ⟨i1, ?_, ?_, ?_, fun l hl => ?_, ?_⟩
    · rw [r15]; exact i2
    · rw [c159 7 (by omega) (by omega) (by omega) (by omega)]; exact i3
    · rw [r15, c159 37 (by omega) (by omega) (by omega) (by omega)]; exact i4
    · show LawC (τ.1 (19 + 3 * l)) (τ.1 (18 + 3 * l) 2) (f l) ∧ LawT (fun j => τ.1 161 (240 * l + j)) (τ.1 162 l) (f l)
      rw [row (19 + 3 * l) (by omega) (by omega) (by omega) (by omega) (by omega) (by omega) (by omega) (by omega) (by omega) (by omega) (by omega) (by omega) (by omega) (by omega), row (18 + 3 * l) (by omega) (by omega) (by omega) (by omega) (by omega) (by omega) (by omega) (by omega) (by omega) (by omega) (by omega) (by omega) (by omega) (by omega), row 161 (by omega) (by omega) (by omega) (by omega) (by omega) (by omega) (by omega) (by omega) (by omega) (by omega) (by omega) (by omega) (by omega) (by omega), row 162 (by omega) (by omega) (by omega) (by omega) (by omega) (by omega) (by omega) (by omega) (by omega) (by omega) (by omega) (by omega) (by omega) (by omega)]
      exact i5 l hl
    · rw [z2, row 176 (by omega) (by omega) (by omega) (by omega) (by omega) (by omega) (by omega) (by omega) (by omega) (by omega) (by omega) (by omega) (by omega) (by omega)]
      exact i6
  · unfold I_O at h6 ⊢
    obtain ⟨m2, i1, i2, i3, i4⟩ := h6
    have em : m2 = m := by
      rw [hm] at i2
      exact ((nI_eq (by omega) (by omega)).mp i2).symm
    subst em
    refine ⟨m2, i1, ?_, ?_, fun o ho => ?_⟩
    · rw [row 0 (by omega) (by omega) (by omega) (by omega) (by omega) (by omega) (by omega) (by omega) (by omega) (by omega) (by omega) (by omega) (by omega) (by omega)]; exact i2
    · rw [c159 34 (by omega) (by omega) (by omega) (by omega)]; exact i3
    · obtain ⟨c, c1, c2, c3, c4, c5⟩ := i4 o ho
      refine ⟨c, c1, c2, ?_, ?_, fun i hi => ?_⟩
      · show τ.1 (34 + 2 * o) 1 = nI c
        rw [row (34 + 2 * o) (by omega) (by omega) (by omega) (by omega) (by omega) (by omega) (by omega) (by omega) (by omega) (by omega) (by omega) (by omega) (by omega) (by omega)]
        exact c3
      · rw [zc 172 o (by unfold AA ARd; omega)]; exact c4
      · show StepR (fun x => τ.1 171 (48 * o + 3 * i + x)) (τ.1 (35 + 2 * o) (3 * i)) (τ.1 (35 + 2 * o) (3 * i + 1)) (τ.1 (35 + 2 * o) (3 * i + 2))
        rw [row (35 + 2 * o) (by omega) (by omega) (by omega) (by omega) (by omega) (by omega) (by omega) (by omega) (by omega) (by omega) (by omega) (by omega) (by omega) (by omega)]
        obtain ⟨t, t1, t2, t3, t4, t5, t6, t7⟩ := c5 i hi
        refine ⟨t, t1, t2, t3, t4, ?_, ?_, ?_⟩
        · show τ.1 171 (48 * o + 3 * i + 0) = _
          rw [zc 171 (48 * o + 3 * i + 0) (by unfold AA ARd; omega)]; exact t5
        · show τ.1 171 (48 * o + 3 * i + 1) = _
          rw [zc 171 (48 * o + 3 * i + 1) (by unfold AA ARd; omega)]; exact t6
        · show τ.1 171 (48 * o + 3 * i + 2) = _
          rw [zc 171 (48 * o + 3 * i + 2) (by unfold AA ARd; omega)]; exact t7
  · unfold I_C at h7 ⊢
    rw [row 45 (by omega) (by omega) (by omega) (by omega) (by omega) (by omega) (by omega) (by omega) (by omega) (by omega) (by omega) (by omega) (by omega) (by omega), row 173 (by omega) (by omega) (by omega) (by omega) (by omega) (by omega) (by omega) (by omega) (by omega) (by omega) (by omega) (by omega) (by omega) (by omega)]
    exact h7
  · unfold I_P at h8 ⊢
    obtain ⟨nx, s, i1, i2, i3, i4, i5, i6⟩ := h8
    have r48 : τ.1 48 = σ.1 48 := row 48 (by omega) (by omega) (by omega) (by omega) (by omega) (by omega) (by omega) (by omega) (by omega) (by omega) (by omega) (by omega) (by omega) (by omega)
    refine ⟨nx, s, i1, i2, ?_, ?_, ?_, fun i hi => ?_⟩
    · rw [r48]; exact i3
    · rw [r48]; exact i4
    · rw [c159 43 (by omega) (by omega) (by omega) (by omega)]; exact i5
    · have hmod : (nx + 41 - s + i) % 41 < 41 := Nat.mod_lt _ (by decide)
      show CampR P W (48 * k) (40000 * k) (τ.1 (53 + 2 * ((nx + 41 - s + i) % 41))) (fun j => τ.1 177 (260 * i + j))
      rw [row (53 + 2 * ((nx + 41 - s + i) % 41)) (by omega) (by omega) (by omega) (by omega) (by omega) (by omega) (by omega) (by omega) (by omega) (by omega) (by omega) (by omega) (by omega) (by omega), row 177 (by omega) (by omega) (by omega) (by omega) (by omega) (by omega) (by omega) (by omega) (by omega) (by omega) (by omega) (by omega) (by omega) (by omega)]
      exact i6 i hi
  · unfold I_G at h9 ⊢
    rw [row 48 (by omega) (by omega) (by omega) (by omega) (by omega) (by omega) (by omega) (by omega) (by omega) (by omega) (by omega) (by omega) (by omega) (by omega), c159 73 (by omega) (by omega) (by omega) (by omega), row 51 (by omega) (by omega) (by omega) (by omega) (by omega) (by omega) (by omega) (by omega) (by omega) (by omega) (by omega) (by omega) (by omega) (by omega), row 191 (by omega) (by omega) (by omega) (by omega) (by omega) (by omega) (by omega) (by omega) (by omega) (by omega) (by omega) (by omega) (by omega) (by omega)]
    exact h9
  · unfold I_S at h10 ⊢
    rw [row 134 (by omega) (by omega) (by omega) (by omega) (by omega) (by omega) (by omega) (by omega) (by omega) (by omega) (by omega) (by omega) (by omega) (by omega), c159 48 (by omega) (by omega) (by omega) (by omega), row 135 (by omega) (by omega) (by omega) (by omega) (by omega) (by omega) (by omega) (by omega) (by omega) (by omega) (by omega) (by omega) (by omega) (by omega), row 178 (by omega) (by omega) (by omega) (by omega) (by omega) (by omega) (by omega) (by omega) (by omega) (by omega) (by omega) (by omega) (by omega) (by omega), row 179 (by omega) (by omega) (by omega) (by omega) (by omega) (by omega) (by omega) (by omega) (by omega) (by omega) (by omega) (by omega) (by omega) (by omega), row 180 (by omega) (by omega) (by omega) (by omega) (by omega) (by omega) (by omega) (by omega) (by omega) (by omega) (by omega) (by omega) (by omega) (by omega)]
    exact h10
  · unfold I_Z at h11 ⊢
    rw [row 151 (by omega) (by omega) (by omega) (by omega) (by omega) (by omega) (by omega) (by omega) (by omega) (by omega) (by omega) (by omega) (by omega) (by omega), c159 69 (by omega) (by omega) (by omega) (by omega), row 152 (by omega) (by omega) (by omega) (by omega) (by omega) (by omega) (by omega) (by omega) (by omega) (by omega) (by omega) (by omega) (by omega) (by omega), row 153 (by omega) (by omega) (by omega) (by omega) (by omega) (by omega) (by omega) (by omega) (by omega) (by omega) (by omega) (by omega) (by omega) (by omega), row 186 (by omega) (by omega) (by omega) (by omega) (by omega) (by omega) (by omega) (by omega) (by omega) (by omega) (by omega) (by omega) (by omega) (by omega), row 187 (by omega) (by omega) (by omega) (by omega) (by omega) (by omega) (by omega) (by omega) (by omega) (by omega) (by omega) (by omega) (by omega) (by omega)]
    exact h11
end KEEP
