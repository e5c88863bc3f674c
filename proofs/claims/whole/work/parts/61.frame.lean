/-! WHAT A CALL MAY CHANGE, by groups of cells: 0 rows that hold nothing between calls, 1 the tape, 2 the land, 3 laws, 4 orders, 5 the camp and its past, 6 the image, 7 the sky, 8 streaks, 9 the memo -/
def grp (a k : Nat) : Nat :=
  if a = 159 then (if k = 6 then 1 else if k = 25 ∨ k = 26 ∨ k = 27 then 2 else if k = 7 ∨ k = 37 then 3 else if k = 34 then 4 else if k = 43 then 5 else if k = 73 then 6 else if k = 48 then 7 else if k = 69 then 8 else 0)
  else if a = 1 then (if k = 1 then 1 else 0)
  else if a = 151 then (if k = 2 then 8 else 0)
  else if a = 48 then (if k = 3 ∨ k = 4 then 5 else 6)
  else if a = 2 ∨ a = 160 then 1
  else if (3 ≤ a ∧ a ≤ 14) ∨ a = 164 ∨ a = 166 ∨ a = 169 then 2
  else if a = 15 ∨ (18 ≤ a ∧ a ≤ 32 ∧ a % 3 ≠ 2) ∨ a = 161 ∨ a = 162 then 3
  else if a = 0 ∨ (34 ≤ a ∧ a ≤ 43) ∨ a = 171 ∨ a = 172 then 4
  else if a = 45 ∨ a = 173 ∨ (52 ≤ a ∧ a ≤ 133) ∨ a = 177 then 5
  else if a = 51 ∨ a = 191 then 6
  else if a = 134 ∨ a = 135 ∨ a = 178 ∨ a = 179 ∨ a = 180 then 7
  else if a = 152 ∨ a = 153 ∨ a = 186 ∨ a = 187 then 8
  else if a = 176 then 9
  else 0
def Dn (gs : List Nat) (σ τ : sa_St) : Prop := (∀ a b : Nat, ¬ (a = 159 ∧ b = 5) → ¬ (a = 136 ∧ b = 2) → τ.2.1 a b = σ.2.1 a b) ∧ ∀ a k : Nat, gs.contains (grp a k) = false → τ.1 a k = σ.1 a k
theorem Dn.refl {gs : List Nat} (σ : sa_St) : Dn gs σ σ := ⟨fun _ _ _ _ => rfl, fun _ _ _ => rfl⟩
theorem Dn.trans {gs : List Nat} {a b c : sa_St} (h1 : Dn gs a b) (h2 : Dn gs b c) : Dn gs a c := ⟨fun x y g1 g2 => (h2.1 x y g1 g2).trans (h1.1 x y g1 g2), fun x y g => (h2.2 x y g).trans (h1.2 x y g)⟩
theorem Dn.up {gs : List Nat} {σ τ : sa_St} {id k : Nat} {v : Int32} (h : Dn gs σ τ) (hg : gs.contains (grp id k) = true) : Dn gs σ (sa_upI τ id k v) := by
  refine ⟨h.1, fun a b g => ?_⟩
  rw [← h.2 a b g]
  by_cases e : a = id
  · subst e
    rw [upI_self]
    by_cases e2 : b = k
    · subst e2
      rw [hg] at g
      cases g
    · exact va_up_ne _ _ e2
  · rw [upI_ne e]
theorem Dn.upL {gs : List Nat} {σ τ : sa_St} {id k : Nat} {v : Int64} (h : Dn gs σ τ) : Dn gs σ (sa_upL τ id k v) := ⟨h.1, h.2⟩
theorem Dn.set {gs : List Nat} {σ τ : sa_St} {id : Nat} {r : Nat → Int32} (h : Dn gs σ τ) (hg : ∀ k, gs.contains (grp id k) = true) : Dn gs σ (va_up τ.1 id r, τ.2) := by
  refine ⟨h.1, fun a b g => ?_⟩
  rw [← h.2 a b g]
  by_cases e : a = id
  · subst e
    rw [hg b] at g
    cases g
  · show va_up τ.1 id r a b = _
    rw [va_up_ne _ _ e]
theorem Dn.setL {gs : List Nat} {σ τ : sa_St} {r : Nat → Nat → Int64} (h : Dn gs σ τ) : Dn gs σ (τ.1, τ.2.1, r) := ⟨h.1, h.2⟩
theorem Dn.ofFr {gs S : List Nat} {σ τ : sa_St} (h : Fr S σ τ) (hS : ∀ j ∈ S, ∀ k, gs.contains (grp j k) = true) : Dn gs σ τ := by
  refine ⟨fun a b _ _ => by rw [h.1], fun a k g => ?_⟩
  by_cases e : a ∈ S
  · rw [hS a e k] at g
    cases g
  · rw [(h.2 a e).1]
theorem Dn.mono {gs gs2 : List Nat} {σ τ : sa_St} (h : Dn gs σ τ) (hs : ∀ x, gs2.contains x = false → gs.contains x = false) : Dn gs2 σ τ := ⟨h.1, fun a k g => h.2 a k (hs _ g)⟩
theorem Dn.row {gs : List Nat} {σ τ : sa_St} (h : Dn gs σ τ) (a : Nat) (ha : ∀ k, gs.contains (grp a k) = false) : τ.1 a = σ.1 a := funext fun k => h.2 a k (ha k)
theorem isPF_0 {k : Nat} (h : isPF k) : grp 159 k = 0 := by
  have : k = 8 ∨ k = 9 ∨ k = 10 ∨ k = 11 ∨ k = 12 ∨ k = 13 ∨ k = 14 ∨ k = 17 := by
    unfold isPF at h
    omega
  rcases this with rfl | rfl | rfl | rfl | rfl | rfl | rfl | rfl <;> rfl
theorem Dn.ofWf {n : Nat} {f : Nat → LWt} {gs : List Nat} {σ τ : sa_St} (h : Wf n f σ τ) (h0 : gs.contains 0 = true) (h9 : gs.contains 9 = true) : Dn gs σ τ := by
  refine ⟨fun a b g _ => h.1.1.1 a b g, fun a k g => ?_⟩
  by_cases e : a = 159
  · subst e
    refine h.2.1 k (fun q => ?_)
    rw [isPF_0 q, h0] at g
    cases g
  · by_cases e2 : a = 163
    · subst e2
      rw [show grp 163 k = 0 from rfl, h0] at g
      cases g
    · by_cases e3 : a = 175
      · subst e3
        rw [show grp 175 k = 0 from rfl, h0] at g
        cases g
      · by_cases e4 : a = 176
        · subst e4
          rw [show grp 176 k = 9 from rfl, h9] at g
          cases g
        · rw [(h.1.2 a (by simp only [List.mem_cons, List.not_mem_nil, or_false]; omega)).1]
theorem grp_L {L j k : Nat} (hL : L = 3 ∨ L = 9) (hj : 1 ≤ j ∧ j ≤ 5) : grp (L + j) k = 2 := by
  unfold grp
  rw [if_neg (by omega), if_neg (by omega), if_neg (by omega), if_neg (by omega), if_neg (by omega), if_pos (by omega)]
theorem grp_W {a k : Nat} (h : 18 ≤ a ∧ a ≤ 32 ∧ a % 3 ≠ 2) : grp a k = 3 := by
  unfold grp
  rw [if_neg (by omega), if_neg (by omega), if_neg (by omega), if_neg (by omega), if_neg (by omega), if_neg (by omega), if_pos (by omega)]
theorem grp_O {a k : Nat} (h : 34 ≤ a ∧ a ≤ 43) : grp a k = 4 := by
  unfold grp
  rw [if_neg (by omega), if_neg (by omega), if_neg (by omega), if_neg (by omega), if_neg (by omega), if_neg (by omega), if_neg (by omega), if_pos (by omega)]
theorem grp_A {a k : Nat} (h : 52 ≤ a ∧ a ≤ 133) : grp a k = 5 := by
  unfold grp
  rw [if_neg (by omega), if_neg (by omega), if_neg (by omega), if_neg (by omega), if_neg (by omega), if_neg (by omega), if_neg (by omega), if_neg (by omega), if_pos (by omega)]
theorem LandI.n {ρ : Nat → Nat → Nat} {L : Nat} (h : LandI ρ L) : L = 3 ∨ L = 9 := by
  rcases h with ⟨h, -⟩ | ⟨h, -⟩
  · exact Or.inl h
  · exact Or.inr h
section DN
variable {gs : List Nat} {σ τ : sa_St}
theorem Dn.sk (K : Dn gs σ τ) (h : SK σ.2.1) : SK τ.2.1 := h.of K.1
theorem Dn.li {L : Nat} (K : Dn gs σ τ) (h : LandI σ.2.1 L) : LandI τ.2.1 L := h.of K.1
theorem Dn.T (K : Dn gs σ τ) (g : gs.contains 1 = false) (h : I_T σ) : I_T τ := by
  unfold I_T at h ⊢
  rw [K.2 1 1 g, K.2 159 6 g, K.row 2 (fun _ => g), K.row 160 (fun _ => g)]
  exact h
theorem Dn.Ld {L P W F : Nat} (K : Dn gs σ τ) (g : gs.contains 2 = false) (hL : LandI σ.2.1 L) (h : I_L L P W F σ) : I_L L P W F τ := by
  unfold I_L at h ⊢
  rw [K.row (L + 1) (fun _ => by rw [grp_L hL.n (by omega)]; exact g), K.row (L + 2) (fun _ => by rw [grp_L hL.n (by omega)]; exact g), K.row 164 (fun _ => g), K.row 166 (fun _ => g), K.row 169 (fun _ => g), K.2 159 25 g, K.2 159 26 g, K.2 159 27 g]
  exact h
theorem Dn.Mp {L P W : Nat} (K : Dn gs σ τ) (g : gs.contains 2 = false) (hL : LandI σ.2.1 L) (h : I_M L P W σ) : I_M L P W τ := by
  unfold I_M at h ⊢
  rw [K.row (L + 2) (fun _ => by rw [grp_L hL.n (by omega)]; exact g), K.row (L + 3) (fun _ => by rw [grp_L hL.n (by omega)]; exact g), K.row (L + 4) (fun _ => by rw [grp_L hL.n (by omega)]; exact g), K.row (L + 5) (fun _ => by rw [grp_L hL.n (by omega)]; exact g)]
  exact h
theorem Dn.Wl {n : Nat} {f : Nat → LWt} (K : Dn gs σ τ) (g : gs.contains 3 = false) (h : I_W n f σ) (hM : MemoR n f (τ.2.2 175) (τ.1 176)) : I_W n f τ := by
  unfold I_W at h ⊢
  obtain ⟨h1, h2, h3, h4, h5, -⟩ := h
  refine ⟨h1, ?_, ?_, ?_, fun l hl => ?_, hM⟩
  · rw [K.row 15 (fun _ => g)]; exact h2
  · rw [K.2 159 7 g]; exact h3
  · rw [K.row 15 (fun _ => g), K.2 159 37 g]; exact h4
  · show LawC (τ.1 (19 + 3 * l)) (τ.1 (18 + 3 * l) 2) (f l) ∧ LawT (fun j => τ.1 161 (240 * l + j)) (τ.1 162 l) (f l)
    rw [K.row (19 + 3 * l) (fun _ => by rw [grp_W (by omega)]; exact g), K.row (18 + 3 * l) (fun _ => by rw [grp_W (by omega)]; exact g), K.row 161 (fun _ => g), K.row 162 (fun _ => g)]
    exact h5 l hl
theorem Dn.Or (K : Dn gs σ τ) (g : gs.contains 4 = false) (h : I_O σ) : I_O τ := by
  unfold I_O at h ⊢
  obtain ⟨n, h1, h2, h3, h4⟩ := h
  refine ⟨n, h1, ?_, ?_, fun o ho => ?_⟩
  · rw [K.row 0 (fun _ => g)]; exact h2
  · rw [K.2 159 34 g]; exact h3
  · show ∃ m, 1 ≤ m ∧ m ≤ 16 ∧ τ.1 (34 + 2 * o) 1 = nI m ∧ τ.1 172 o = nI m ∧ ∀ i, i < m → StepR (fun x => τ.1 171 (48 * o + 3 * i + x)) (τ.1 (35 + 2 * o) (3 * i)) (τ.1 (35 + 2 * o) (3 * i + 1)) (τ.1 (35 + 2 * o) (3 * i + 2))
    rw [K.row (35 + 2 * o) (fun _ => by rw [grp_O (by omega)]; exact g), K.row (34 + 2 * o) (fun _ => by rw [grp_O (by omega)]; exact g), K.row 171 (fun _ => g), K.row 172 (fun _ => g)]
    exact h4 o ho
theorem Dn.Cm {P W H B : Nat} (K : Dn gs σ τ) (g : gs.contains 5 = false) (h : I_C P W H B σ) : I_C P W H B τ := by
  unfold I_C at h ⊢
  rw [K.row 45 (fun _ => g), K.row 173 (fun _ => g)]
  exact h
theorem Dn.Pa {P W H B : Nat} (K : Dn gs σ τ) (g : gs.contains 5 = false) (h : I_P P W H B σ) : I_P P W H B τ := by
  unfold I_P at h ⊢
  obtain ⟨n, s, h1, h2, h3, h4, h5, h6⟩ := h
  refine ⟨n, s, h1, h2, ?_, ?_, ?_, fun i hi => ?_⟩
  · rw [K.2 48 3 g]; exact h3
  · rw [K.2 48 4 g]; exact h4
  · rw [K.2 159 43 g]; exact h5
  · have hm : (n + 41 - s + i) % 41 < 41 := Nat.mod_lt _ (by decide)
    show CampR P W H B (τ.1 (53 + 2 * ((n + 41 - s + i) % 41))) (fun j => τ.1 177 (260 * i + j))
    rw [K.row (53 + 2 * ((n + 41 - s + i) % 41)) (fun _ => by rw [grp_A (by omega)]; exact g), K.row 177 (fun _ => g)]
    exact h6 i hi
theorem Dn.Ig {P W H B : Nat} (K : Dn gs σ τ) (g : gs.contains 6 = false) (h : I_G P W H B σ) : I_G P W H B τ := by
  unfold I_G at h ⊢
  rw [K.2 48 2 g, K.2 159 73 g, K.row 51 (fun _ => g), K.row 191 (fun _ => g)]
  exact h
theorem Dn.Sy (K : Dn gs σ τ) (g : gs.contains 7 = false) (h : I_S σ) : I_S τ := by
  unfold I_S at h ⊢
  rw [K.row 134 (fun _ => g), K.2 159 48 g, K.row 135 (fun _ => g), K.row 178 (fun _ => g), K.row 179 (fun _ => g), K.row 180 (fun _ => g)]
  exact h
theorem Dn.Zt {P : Nat} (K : Dn gs σ τ) (g : gs.contains 8 = false) (h : I_Z P σ) : I_Z P τ := by
  unfold I_Z at h ⊢
  rw [K.2 151 2 g, K.2 159 69 g, K.row 152 (fun _ => g), K.row 153 (fun _ => g), K.row 186 (fun _ => g), K.row 187 (fun _ => g)]
  exact h
end DN
/-- all that stands between calls, with its numbers -/
def Iv (k L P W F n : Nat) (f : Nat → LWt) (σ : sa_St) : Prop := SK σ.2.1 ∧ LandI σ.2.1 L ∧ I_T σ ∧ I_L L P W F σ ∧ (0 < P → I_M L P W σ) ∧ I_W n f σ ∧ I_O σ ∧ I_C P W (48 * k) (40000 * k) σ ∧ I_P P W (48 * k) (40000 * k) σ ∧ I_G P W (48 * k) (40000 * k) σ ∧ I_S σ ∧ I_Z P σ
theorem Iv.of {k : Nat} {σ : sa_St} (h : Inv k σ) : ∃ L P W F n f, Iv k L P W F n f σ := by
  obtain ⟨h0, L, P, W, F, n, f, h1, h2, h3, h4, h5, h6, h7, h8, h9, h10, h11⟩ := h
  exact ⟨L, P, W, F, n, f, h0, h1, h2, h3, h4, h5, h6, h7, h8, h9, h10, h11⟩
theorem Iv.to {k L P W F n : Nat} {f : Nat → LWt} {σ : sa_St} (h : Iv k L P W F n f σ) : Inv k σ := by
  obtain ⟨h0, h1, h2, h3, h4, h5, h6, h7, h8, h9, h10, h11⟩ := h
  exact ⟨h0, L, P, W, F, n, f, h1, h2, h3, h4, h5, h6, h7, h8, h9, h10, h11⟩
section IV
variable {k L P W F n : Nat} {f : Nat → LWt} {σ τ : sa_St}
/-- nothing but rows that hold nothing, and the memo -/
theorem Iv.ask (h : Iv k L P W F n f σ) (K : Dn [0, 9] σ τ) (hM : MemoR n f (τ.2.2 175) (τ.1 176)) : Iv k L P W F n f τ := by
  obtain ⟨h0, h1, h2, h3, h4, h5, h6, h7, h8, h9, h10, h11⟩ := h
  exact ⟨K.sk h0, K.li h1, K.T rfl h2, K.Ld rfl h1 h3, fun hP => K.Mp rfl h1 (h4 hP), K.Wl rfl h5 hM, K.Or rfl h6, K.Cm rfl h7, K.Pa rfl h8, K.Ig rfl h9, K.Sy rfl h10, K.Zt rfl h11⟩
theorem Iv.memo (h : Iv k L P W F n f σ) : MemoR n f (σ.2.2 175) (σ.1 176) := h.2.2.2.2.2.1.2.2.2.2.2
theorem Iv.up (h : Iv k L P W F n f σ) : Inv (k + 1) σ := Inv.up k σ h.to
theorem Iv.ask0 (h : Iv k L P W F n f σ) (K : Dn [0] σ τ) (e : τ.2.2 175 = σ.2.2 175) : Inv (k + 1) τ := by
  refine (h.ask (K.mono (fun x g => ?_)) ?_).up
  · simp at g ⊢; exact g.1
  · rw [e, K.row 176 (fun _ => rfl)]
    exact h.memo
end IV
