/-! WHAT MAY CHANGE within a call that only asks -/
def scr : List Nat := [17, 20, 23, 26, 29, 32, 44, 46, 47, 136, 137, 138, 139, 141, 142, 143, 144, 145, 146, 147, 148, 149, 150, 154, 155, 157, 158, 163, 165, 167, 168, 170, 174, 175, 176, 181, 182, 183, 184, 185, 188, 189, 190, 192]
/-- places of the reference's own object that hold nothing between calls -/
def sc9 : List Nat := [0, 8, 9, 10, 11, 12, 13, 14, 17, 28, 29, 30, 31, 40, 41, 44, 53, 54, 55, 56, 57, 58, 59, 60, 61, 63, 64, 65]
def Keep (σ τ : sa_St) : Prop := (∀ a b : Nat, ¬ (a = 159 ∧ b = 5) → ¬ (a = 136 ∧ b = 2) → τ.2.1 a b = σ.2.1 a b) ∧ (∀ j, j ∉ scr → j ≠ 1 → j ≠ 151 → j ≠ 159 → τ.1 j = σ.1 j) ∧ (∀ k, k ≠ 2 → τ.1 1 k = σ.1 1 k) ∧ (∀ k, k ≠ 5 → τ.1 151 k = σ.1 151 k) ∧ (∀ k, k ∉ sc9 → τ.1 159 k = σ.1 159 k)
theorem Keep.refl (σ : sa_St) : Keep σ σ := ⟨fun _ _ _ _ => rfl, fun _ _ _ _ _ => rfl, fun _ _ => rfl, fun _ _ => rfl, fun _ _ => rfl⟩
theorem Keep.trans {a b c : sa_St} (h1 : Keep a b) (h2 : Keep b c) : Keep a c := ⟨fun x y g1 g2 => (h2.1 x y g1 g2).trans (h1.1 x y g1 g2), fun j g1 g2 g3 g4 => (h2.2.1 j g1 g2 g3 g4).trans (h1.2.1 j g1 g2 g3 g4), fun k g => (h2.2.2.1 k g).trans (h1.2.2.1 k g), fun k g => (h2.2.2.2.1 k g).trans (h1.2.2.2.1 k g), fun k g => (h2.2.2.2.2 k g).trans (h1.2.2.2.2 k g)⟩
theorem Keep.ofFr {S : List Nat} {σ τ : sa_St} (h : Fr S σ τ) (hS : ∀ j ∈ S, j ∈ scr) : Keep σ τ := by
  have h1 : ∀ j, j ∉ scr → τ.1 j = σ.1 j := fun j hj => (h.2 j (fun q => hj (hS j q))).1
  exact ⟨fun a b _ _ => by rw [h.1], fun j hj _ _ _ => h1 j hj, fun k _ => by rw [h1 1 (by decide)], fun k _ => by rw [h1 151 (by decide)], fun k _ => by rw [h1 159 (by decide)]⟩
theorem Keep.ofFrR {σ τ : sa_St} (h : FrR [159] σ τ) (h2 : ∀ k, ¬ isPF k → τ.1 159 k = σ.1 159 k) : Keep σ τ := by
  have h1 : ∀ j, j ≠ 159 → τ.1 j = σ.1 j := fun j hj => (h.2 j (by simpa using hj)).1
  refine ⟨fun a b g _ => h.1.1 a b g, fun j _ _ _ g => h1 j g, fun k _ => by rw [h1 1 (by decide)], fun k _ => by rw [h1 151 (by decide)], fun k g => h2 k (fun q => g ?_)⟩
  rcases q with ⟨q1, q2⟩ | q
  · have : k = 8 ∨ k = 9 ∨ k = 10 ∨ k = 11 ∨ k = 12 ∨ k = 13 ∨ k = 14 := by omega
    rcases this with rfl | rfl | rfl | rfl | rfl | rfl | rfl <;> decide
  · rw [q]; decide
theorem Keep.up {σ τ : sa_St} {id k : Nat} {v : Int32} (h : Keep σ τ) (hid : id ∈ scr ∧ id ≠ 1 ∧ id ≠ 151 ∧ id ≠ 159) : Keep σ (sa_upI τ id k v) := by
  refine h.trans ⟨fun _ _ _ _ => rfl, fun j g1 _ _ _ => upI_ne (fun e => g1 (e ▸ hid.1)), fun k _ => ?_, fun k _ => ?_, fun k _ => ?_⟩
  · rw [upI_ne (Ne.symm hid.2.1)]
  · rw [upI_ne (Ne.symm hid.2.2.1)]
  · rw [upI_ne (Ne.symm hid.2.2.2)]
theorem Keep.up9 {σ τ : sa_St} {k : Nat} {v : Int32} (h : Keep σ τ) (hk : k ∈ sc9) : Keep σ (sa_upI τ 159 k v) := by
  refine h.trans ⟨fun _ _ _ _ => rfl, fun j _ _ _ g => upI_ne g, fun k _ => ?_, fun k _ => ?_, fun k2 g => ?_⟩
  · rw [upI_ne (by decide)]
  · rw [upI_ne (by decide)]
  · rw [upI_self, va_up_ne]
    intro e
    subst e
    exact g hk
theorem Keep.up1 {σ τ : sa_St} {v : Int32} (h : Keep σ τ) : Keep σ (sa_upI τ 1 2 v) := by
  refine h.trans ⟨fun _ _ _ _ => rfl, fun j _ g _ _ => upI_ne g, fun k2 g => ?_, fun k _ => ?_, fun k _ => ?_⟩
  · rw [upI_self, va_up_ne _ _ g]
  · rw [upI_ne (by decide)]
  · rw [upI_ne (by decide)]
theorem Keep.up151 {σ τ : sa_St} {v : Int32} (h : Keep σ τ) : Keep σ (sa_upI τ 151 5 v) := by
  refine h.trans ⟨fun _ _ _ _ => rfl, fun j _ _ g _ => upI_ne g, fun k2 g => ?_, fun k g => ?_, fun k _ => ?_⟩
  · rw [upI_ne (by decide)]
  · rw [upI_self, va_up_ne _ _ g]
  · rw [upI_ne (by decide)]
theorem Keep.upL {σ τ : sa_St} {id k : Nat} {v : Int64} (h : Keep σ τ) : Keep σ (sa_upL τ id k v) := h.trans ⟨fun _ _ _ _ => rfl, fun _ _ _ _ _ => rfl, fun _ _ => rfl, fun _ _ => rfl, fun _ _ => rfl⟩
theorem SK.of {ρ ρ2 : Nat → Nat → Nat} (h : SK ρ) (hr : ∀ a b : Nat, ¬ (a = 159 ∧ b = 5) → ¬ (a = 136 ∧ b = 2) → ρ2 a b = ρ a b) : SK ρ2 := by
  intro p hp
  have hno : ∀ p ∈ skL, ¬ (p.1 = 159 ∧ p.2.1 = 5) ∧ ¬ (p.1 = 136 ∧ p.2.1 = 2) := by decide +kernel
  rw [hr p.1 p.2.1 (hno p hp).1 (hno p hp).2]
  exact h p hp
theorem LandI.of {ρ ρ2 : Nat → Nat → Nat} {L : Nat} (h : LandI ρ L) (hr : ∀ a b : Nat, ¬ (a = 159 ∧ b = 5) → ¬ (a = 136 ∧ b = 2) → ρ2 a b = ρ a b) : LandI ρ2 L := by
  unfold LandI
  rw [hr 0 1 (by omega) (by omega), hr 0 2 (by omega) (by omega)]
  exact h
theorem Keep.id {σ τ : sa_St} (K : Keep σ τ) (j : Nat) (h : j ∉ scr ∧ j ≠ 1 ∧ j ≠ 151 ∧ j ≠ 159) : τ.1 j = σ.1 j := K.2.1 j h.1 h.2.1 h.2.2.1 h.2.2.2
theorem scr_low {j : Nat} (h : (18 ≤ j ∧ j < 33 ∧ (j % 3 = 0 ∨ j % 3 = 1)) ∨ (33 ≤ j ∧ j < 44) ∨ (51 ≤ j ∧ j < 136)) : j ∉ scr ∧ j ≠ 1 ∧ j ≠ 151 ∧ j ≠ 159 := by
  unfold scr
  refine ⟨?_, by omega, by omega, by omega⟩
  simp only [List.mem_cons, List.not_mem_nil, or_false]
  omega
theorem Keep.T {σ τ : sa_St} (K : Keep σ τ) (h : I_T σ) : I_T τ := by
  unfold I_T at h ⊢
  rw [K.2.2.1 1 (by decide), K.2.2.2.2 6 (by decide), K.id 2 (by decide), K.id 160 (by decide)]
  exact h
theorem Keep.landid {σ τ : sa_St} (K : Keep σ τ) {L j : Nat} (hL : LandI σ.2.1 L) (hj : 1 ≤ j ∧ j ≤ 5) : τ.1 (L + j) = σ.1 (L + j) := by
  refine K.id _ ⟨?_, ?_⟩
  · unfold scr
    simp only [List.mem_cons, List.not_mem_nil, or_false]
    rcases hL with ⟨h, -⟩ | ⟨h, -⟩ <;> omega
  · rcases hL with ⟨h, -⟩ | ⟨h, -⟩ <;> omega
theorem Keep.Ld {σ τ : sa_St} (K : Keep σ τ) {L P W F : Nat} (hL : LandI σ.2.1 L) (h : I_L L P W F σ) : I_L L P W F τ := by
  unfold I_L at h ⊢
  rw [K.landid hL (by omega), K.landid hL (by omega), K.id 164 (by decide), K.id 166 (by decide), K.id 169 (by decide), K.2.2.2.2 25 (by decide), K.2.2.2.2 26 (by decide), K.2.2.2.2 27 (by decide)]
  exact h
theorem Keep.Mp {σ τ : sa_St} (K : Keep σ τ) {L P W : Nat} (hL : LandI σ.2.1 L) (h : I_M L P W σ) : I_M L P W τ := by
  unfold I_M at h ⊢
  rw [K.landid hL (by omega), K.landid hL (by omega), K.landid hL (by omega), K.landid hL (by omega)]
  exact h
theorem Keep.Wl {σ τ : sa_St} (K : Keep σ τ) {n : Nat} {f : Nat → LWt} (h : I_W n f σ) (hM : MemoR n f (τ.2.2 175) (τ.1 176)) : I_W n f τ := by
  unfold I_W at h ⊢
  obtain ⟨h1, h2, h3, h4, h5, -⟩ := h
  refine ⟨h1, ?_, ?_, ?_, fun l hl => ?_, hM⟩
  · rw [K.id 15 (by decide)]; exact h2
  · rw [K.2.2.2.2 7 (by decide)]; exact h3
  · rw [K.id 15 (by decide), K.2.2.2.2 37 (by decide)]; exact h4
  · show LawC (τ.1 (19 + 3 * l)) (τ.1 (18 + 3 * l) 2) (f l) ∧ LawT (fun j => τ.1 161 (240 * l + j)) (τ.1 162 l) (f l)
    rw [show τ.1 (19 + 3 * l) = σ.1 (19 + 3 * l) from K.id _ (scr_low (by omega)), show τ.1 (18 + 3 * l) = σ.1 (18 + 3 * l) from K.id _ (scr_low (by omega)), K.id 161 (by decide), K.id 162 (by decide)]
    exact h5 l hl
theorem Keep.Or {σ τ : sa_St} (K : Keep σ τ) (h : I_O σ) : I_O τ := by
  unfold I_O at h ⊢
  obtain ⟨n, h1, h2, h3, h4⟩ := h
  refine ⟨n, h1, ?_, ?_, fun o ho => ?_⟩
  · rw [K.id 0 (by decide)]; exact h2
  · rw [K.2.2.2.2 34 (by decide)]; exact h3
  · show ∃ m, 1 ≤ m ∧ m ≤ 16 ∧ τ.1 (34 + 2 * o) 1 = nI m ∧ τ.1 172 o = nI m ∧ ∀ i, i < m → StepR (fun x => τ.1 171 (48 * o + 3 * i + x)) (τ.1 (35 + 2 * o) (3 * i)) (τ.1 (35 + 2 * o) (3 * i + 1)) (τ.1 (35 + 2 * o) (3 * i + 2))
    rw [show τ.1 (35 + 2 * o) = σ.1 (35 + 2 * o) from K.id _ (scr_low (by omega)), show τ.1 (34 + 2 * o) = σ.1 (34 + 2 * o) from K.id _ (scr_low (by omega)), K.id 171 (by decide), K.id 172 (by decide)]
    exact h4 o ho
theorem Keep.Cm {σ τ : sa_St} (K : Keep σ τ) {P W H B : Nat} (h : I_C P W H B σ) : I_C P W H B τ := by
  unfold I_C at h ⊢
  rw [K.id 45 (by decide), K.id 173 (by decide)]
  exact h
theorem Keep.Pa {σ τ : sa_St} (K : Keep σ τ) {P W H B : Nat} (h : I_P P W H B σ) : I_P P W H B τ := by
  unfold I_P at h ⊢
  obtain ⟨n, s, h1, h2, h3, h4, h5, h6⟩ := h
  refine ⟨n, s, h1, h2, ?_, ?_, ?_, fun i hi => ?_⟩
  · rw [K.id 48 (by decide)]; exact h3
  · rw [K.id 48 (by decide)]; exact h4
  · rw [K.2.2.2.2 43 (by decide)]; exact h5
  · have hm : (n + 41 - s + i) % 41 < 41 := Nat.mod_lt _ (by decide)
    show CampR P W H B (τ.1 (53 + 2 * ((n + 41 - s + i) % 41))) (fun j => τ.1 177 (260 * i + j))
    rw [show τ.1 (53 + 2 * ((n + 41 - s + i) % 41)) = σ.1 (53 + 2 * ((n + 41 - s + i) % 41)) from K.id _ (scr_low (by omega)), K.id 177 (by decide)]
    exact h6 i hi
theorem Keep.Ig {σ τ : sa_St} (K : Keep σ τ) {P W H B : Nat} (h : I_G P W H B σ) : I_G P W H B τ := by
  unfold I_G at h ⊢
  rw [K.id 48 (by decide), K.2.2.2.2 73 (by decide), K.id 51 (by decide), K.id 191 (by decide)]
  exact h
theorem Keep.Sy {σ τ : sa_St} (K : Keep σ τ) (h : I_S σ) : I_S τ := by
  unfold I_S at h ⊢
  rw [K.id 134 (by decide), K.2.2.2.2 48 (by decide), K.id 135 (by decide), K.id 178 (by decide), K.id 179 (by decide), K.id 180 (by decide)]
  exact h
theorem Keep.Zt {σ τ : sa_St} (K : Keep σ τ) {P : Nat} (h : I_Z P σ) : I_Z P τ := by
  unfold I_Z at h ⊢
  rw [K.2.2.2.1 2 (by decide), K.2.2.2.2 69 (by decide), K.id 152 (by decide), K.id 153 (by decide), K.id 186 (by decide), K.id 187 (by decide)]
  exact h
/-- a call that only asks -/
theorem Inv.keep {k : Nat} {σ τ : sa_St} (h : Inv k σ) (K : Keep σ τ) (hM : ∀ n f, I_W n f σ → MemoR n f (τ.2.2 175) (τ.1 176)) : Inv (k + 1) τ := by
  refine Inv.up k τ ?_
  obtain ⟨h0, L, P, W, F, n, f, h1, h2, h3, h4, h5, h6, h7, h8, h9, h10, h11⟩ := h
  exact ⟨h0.of K.1, L, P, W, F, n, f, h1.of K.1, K.T h2, K.Ld h1 h3, fun hP => K.Mp h1 (h4 hP), K.Wl h5 (hM n f h5), K.Or h6, K.Cm h7, K.Pa h8, K.Ig h9, K.Sy h10, K.Zt h11⟩
theorem Inv.keep0 {k : Nat} {σ τ : sa_St} (h : Inv k σ) (K : Keep σ τ) (h1 : τ.2.2 175 = σ.2.2 175) (h2 : τ.1 176 = σ.1 176) : Inv (k + 1) τ := h.keep K (fun n f hw => by rw [h1, h2]; exact hw.2.2.2.2.2)
