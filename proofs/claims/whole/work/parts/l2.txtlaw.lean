/-! TEXTS: text, of a law -/
theorem by_nn : ∀ d, d < 128 → vp_nar .byte (vp_nar .byte (nI (128 + d))) = vp_nar .byte (nI (128 + d)) := by decide +kernel
theorem by_id {b : Nat} (hb : b < 256) : vp_nar .byte (vp_nar .byte (nI b)) = vp_nar .byte (nI b) := by
  by_cases h : b < 128
  · rw [by_n1 b h, by_n1 b h]
  · obtain ⟨d, rfl⟩ : ∃ d, b = 128 + d := ⟨b - 128, by omega⟩
    exact by_nn d (by omega)
theorem LawT.cong {tx tx2 : Nat → Int32} {len : Int32} {f : LWt} (h : LawT tx len f) (e : ∀ j, j < 240 → tx2 j = tx j) : LawT tx2 len f := fun l σ hl hk hx => h l σ hl hk (fun j hj => by rw [hx j hj]; exact e j hj)
theorem lw_le {T : Nat → Nat} {N : Nat} : ∀ (f p : Nat) (acc : List CLs), p ≤ N → (lwL T N f p acc).1 ≤ N := by
  intro f
  induction f with
  | zero => intro p acc hp; exact hp
  | succ f ih =>
    intro p acc hp
    have hst := lwL_st (T := T) (N := N) (p := p) (f := f) (acc := acc)
    have ad := cl_adv' (T := T) hp
    generalize clP T N p = r0 at *
    obtain ⟨q, m⟩ := r0
    have a1 : q ≤ N := ad.1
    cases m with
    | none => rw [hst.1 rfl]; exact a1
    | some c =>
      rw [hst.2 c rfl]
      unfold lwK
      dsimp only
      split
      · split
        · exact ih _ _ (bk_le (by omega))
        · exact a1
      · exact a1
section TXT
variable {k L P W F n m D : Nat} {f : Nat → LWt} {σ τ : sa_St}
theorem W_keep (h : I_W n f σ) (r15 : τ.1 15 = σ.1 15) (c7 : τ.1 159 7 = σ.1 159 7) (c37 : τ.1 159 37 = σ.1 159 37) (hr : ∀ l, l < n → τ.1 (18 + 3 * l) = σ.1 (18 + 3 * l) ∧ τ.1 (19 + 3 * l) = σ.1 (19 + 3 * l)) (r161 : τ.1 161 = σ.1 161) (r162 : τ.1 162 = σ.1 162) (r176 : τ.1 176 = σ.1 176) (z2 : τ.2.2 175 = σ.2.2 175) : I_W n f τ := by
  unfold I_W at h ⊢
  obtain ⟨i1, i2, i3, i4, i5, i6⟩ := h
  refine ⟨i1, by rw [r15]; exact i2, by rw [c7]; exact i3, by rw [r15, c37]; exact i4, fun l hl => ?_, by rw [z2, r176]; exact i6⟩
  show LawC (τ.1 (19 + 3 * l)) (τ.1 (18 + 3 * l) 2) (f l) ∧ LawT (fun j => τ.1 161 (240 * l + j)) (τ.1 162 l) (f l)
  rw [(hr l hl).1, (hr l hl).2, r161, r162]
  exact i5 l hl
theorem W_add {g : LWt} (h : I_W n f σ) (hn : n < 4) (c15 : τ.1 15 2 = nI (n + 1)) (c153 : τ.1 15 3 = σ.1 15 3) (c7 : τ.1 159 7 = nI (n + 1)) (c37 : τ.1 159 37 = σ.1 159 37) (hr : ∀ l, l < n → τ.1 (18 + 3 * l) = σ.1 (18 + 3 * l) ∧ τ.1 (19 + 3 * l) = σ.1 (19 + 3 * l)) (r161 : ∀ j, j < 240 * n → τ.1 161 j = σ.1 161 j) (r162 : ∀ l, l < n → τ.1 162 l = σ.1 162 l) (r176 : τ.1 176 = σ.1 176) (z2 : τ.2.2 175 = σ.2.2 175) (hC : LawC (τ.1 (19 + 3 * n)) (τ.1 (18 + 3 * n) 2) g) (hT : LawT (fun j => τ.1 161 (240 * n + j)) (τ.1 162 n) g) : I_W (n + 1) (fun l => if l = n then g else f l) τ := by
  unfold I_W at h ⊢
  obtain ⟨i1, i2, i3, i4, i5, i6⟩ := h
  refine ⟨by omega, c15, c7, ?_, fun l hl => ?_, ?_⟩
  · rw [c153, c37]
    rcases i4 with i4 | ⟨l, a, b⟩
    · exact Or.inl i4
    · exact Or.inr ⟨l, by omega, b⟩
  · show LawC (τ.1 (19 + 3 * l)) (τ.1 (18 + 3 * l) 2) (if l = n then g else f l) ∧ LawT (fun j => τ.1 161 (240 * l + j)) (τ.1 162 l) (if l = n then g else f l)
    by_cases e : l = n
    · subst e
      rw [if_pos rfl]
      exact ⟨hC, hT⟩
    · have hl2 : l < n := by omega
      rw [if_neg e, (hr l hl2).1, (hr l hl2).2, r162 l hl2]
      exact ⟨(i5 l hl2).1, (i5 l hl2).2.cong (fun j hj => r161 _ (by omega))⟩
  · rw [z2, r176]
    intro s l g2 w2 h2 m2 t2 b1 b2 b3 b4 b5 b6 b7 e
    obtain ⟨x1, x2⟩ := i6 s l g2 w2 h2 m2 t2 b1 b2 b3 b4 b5 b6 b7 e
    refine ⟨by omega, ?_⟩
    dsimp only
    rw [if_neg (by omega)]
    exact x2
theorem O_keep (h : I_O σ) (hm : σ.1 0 5 = nI m) (hm4 : m ≤ 4) (c05 : τ.1 0 5 = σ.1 0 5) (c34 : τ.1 159 34 = σ.1 159 34) (hr : ∀ o, o < m → τ.1 (34 + 2 * o) = σ.1 (34 + 2 * o) ∧ τ.1 (35 + 2 * o) = σ.1 (35 + 2 * o)) (r171 : ∀ j, j < 48 * m → τ.1 171 j = σ.1 171 j) (r172 : ∀ o, o < m → τ.1 172 o = σ.1 172 o) : I_O τ := by
  unfold I_O at h ⊢
  obtain ⟨m2, i1, i2, i3, i4⟩ := h
  have em : m2 = m := by
    rw [hm] at i2
    exact ((nI_eq (by omega) (by omega)).mp i2).symm
  subst em
  refine ⟨m2, i1, by rw [c05]; exact i2, by rw [c34]; exact i3, fun o ho => ?_⟩
  obtain ⟨c, c1, c2, c3, c4, c5⟩ := i4 o ho
  refine ⟨c, c1, c2, ?_, ?_, fun i hi => ?_⟩
  · show τ.1 (34 + 2 * o) 1 = nI c
    rw [(hr o ho).1]
    exact c3
  · rw [r172 o ho]; exact c4
  · show StepR (fun x => τ.1 171 (48 * o + 3 * i + x)) (τ.1 (35 + 2 * o) (3 * i)) (τ.1 (35 + 2 * o) (3 * i + 1)) (τ.1 (35 + 2 * o) (3 * i + 2))
    rw [(hr o ho).2]
    obtain ⟨t, t1, t2, t3, t4, t5, t6, t7⟩ := c5 i hi
    refine ⟨t, t1, t2, t3, t4, ?_, ?_, ?_⟩
    · show τ.1 171 (48 * o + 3 * i + 0) = _
      rw [r171 _ (by omega)]; exact t5
    · show τ.1 171 (48 * o + 3 * i + 1) = _
      rw [r171 _ (by omega)]; exact t6
    · show τ.1 171 (48 * o + 3 * i + 2) = _
      rw [r171 _ (by omega)]; exact t7
/-- what a text of laws or orders may change -/
def BB (n m D : Nat) (j k : Nat) : Prop := AA n m D j k ∨ (j = 1 ∧ k = 1) ∨ (j = 15 ∧ k = 2) ∨ (j = 0 ∧ k = 5) ∨ (j = 159 ∧ (k = 6 ∨ k = 7 ∨ k = 34)) ∨ j = 161 ∨ j = 162 ∨ j = 171 ∨ j = 172
theorem Iv.rest (h : Iv k L P W F n f σ) (hm4 : m ≤ 4) (hD : (L = 3 ∧ D = 9) ∨ (L = 9 ∧ D = 3)) (hz : ZFr (BB n m D) σ τ) (hT : I_T τ) {n2 : Nat} {f2 : Nat → LWt} (hW : I_W n2 f2 τ) (hO : I_O τ) : Iv k L P W F n2 f2 τ := by
  obtain ⟨h0, h1, h2, h3, h4, h5, h6, h7, h8, h9, h10, h11⟩ := h
  obtain ⟨zr, z2, zc⟩ := hz
  have hn4 : n ≤ 4 := h5.1
  have row : ∀ j, j ≠ 0 → j ≠ 1 → j ≠ D + 1 → j ≠ D + 2 → (j < 15 ∨ 43 < j) → j ≠ 159 → (j < 161 ∨ 162 < j) → (j < 165 ∨ 172 < j ∨ j = 166 ∨ j = 169) → τ.1 j = σ.1 j := fun j a0 a1 a2 a3 a4 a5 a6 a7 => funext fun k => zc j k (by unfold BB AA ARd; omega)
  have c159 : ∀ k, k ≠ 0 → k ≠ 6 → k ≠ 7 → k ≠ 34 → (k < 8 ∨ 14 < k) → k ≠ 17 → (k < 28 ∨ 31 < k) → τ.1 159 k = σ.1 159 k := fun k a1 b1 b2 b3 a2 a3 a4 => zc 159 k (by unfold BB AA ARd; omega)
  refine ⟨h0.of (fun a b c _ => zr a b c), h1.of (fun a b c _ => zr a b c), hT, ?_, fun hP => ?_, hW, hO, ?_, ?_, ?_, ?_, ?_⟩
  · unfold I_L at h3 ⊢
    rw [row (L + 1) (by omega) (by omega) (by omega) (by omega) (by omega) (by omega) (by omega) (by omega), row (L + 2) (by omega) (by omega) (by omega) (by omega) (by omega) (by omega) (by omega) (by omega), row 164 (by omega) (by omega) (by omega) (by omega) (by omega) (by omega) (by omega) (by omega), row 166 (by omega) (by omega) (by omega) (by omega) (by omega) (by omega) (by omega) (by omega), row 169 (by omega) (by omega) (by omega) (by omega) (by omega) (by omega) (by omega) (by omega), c159 25 (by omega) (by omega) (by omega) (by omega) (by omega) (by omega) (by omega), c159 26 (by omega) (by omega) (by omega) (by omega) (by omega) (by omega) (by omega), c159 27 (by omega) (by omega) (by omega) (by omega) (by omega) (by omega) (by omega)]
    exact h3
  · have h4' := h4 hP
    unfold I_M at h4' ⊢
    rw [row (L + 2) (by omega) (by omega) (by omega) (by omega) (by omega) (by omega) (by omega) (by omega), row (L + 3) (by omega) (by omega) (by omega) (by omega) (by omega) (by omega) (by omega) (by omega), row (L + 4) (by omega) (by omega) (by omega) (by omega) (by omega) (by omega) (by omega) (by omega), row (L + 5) (by omega) (by omega) (by omega) (by omega) (by omega) (by omega) (by omega) (by omega)]
    exact h4'
  · unfold I_C at h7 ⊢
    rw [row 45 (by omega) (by omega) (by omega) (by omega) (by omega) (by omega) (by omega) (by omega), row 173 (by omega) (by omega) (by omega) (by omega) (by omega) (by omega) (by omega) (by omega)]
    exact h7
  · unfold I_P at h8 ⊢
    obtain ⟨nx, s, i1, i2, i3, i4, i5, i6⟩ := h8
    have r48 : τ.1 48 = σ.1 48 := row 48 (by omega) (by omega) (by omega) (by omega) (by omega) (by omega) (by omega) (by omega)
    refine ⟨nx, s, i1, i2, ?_, ?_, ?_, fun i hi => ?_⟩
    · rw [r48]; exact i3
    · rw [r48]; exact i4
    · rw [c159 43 (by omega) (by omega) (by omega) (by omega) (by omega) (by omega) (by omega)]; exact i5
    · have hmod : (nx + 41 - s + i) % 41 < 41 := Nat.mod_lt _ (by decide)
      show CampR P W (48 * k) (40000 * k) (τ.1 (53 + 2 * ((nx + 41 - s + i) % 41))) (fun j => τ.1 177 (260 * i + j))
      rw [row (53 + 2 * ((nx + 41 - s + i) % 41)) (by omega) (by omega) (by omega) (by omega) (by omega) (by omega) (by omega) (by omega), row 177 (by omega) (by omega) (by omega) (by omega) (by omega) (by omega) (by omega) (by omega)]
      exact i6 i hi
  · unfold I_G at h9 ⊢
    rw [row 48 (by omega) (by omega) (by omega) (by omega) (by omega) (by omega) (by omega) (by omega), c159 73 (by omega) (by omega) (by omega) (by omega) (by omega) (by omega) (by omega), row 51 (by omega) (by omega) (by omega) (by omega) (by omega) (by omega) (by omega) (by omega), row 191 (by omega) (by omega) (by omega) (by omega) (by omega) (by omega) (by omega) (by omega)]
    exact h9
  · unfold I_S at h10 ⊢
    rw [row 134 (by omega) (by omega) (by omega) (by omega) (by omega) (by omega) (by omega) (by omega), c159 48 (by omega) (by omega) (by omega) (by omega) (by omega) (by omega) (by omega), row 135 (by omega) (by omega) (by omega) (by omega) (by omega) (by omega) (by omega) (by omega), row 178 (by omega) (by omega) (by omega) (by omega) (by omega) (by omega) (by omega) (by omega), row 179 (by omega) (by omega) (by omega) (by omega) (by omega) (by omega) (by omega) (by omega), row 180 (by omega) (by omega) (by omega) (by omega) (by omega) (by omega) (by omega) (by omega)]
    exact h10
  · unfold I_Z at h11 ⊢
    rw [row 151 (by omega) (by omega) (by omega) (by omega) (by omega) (by omega) (by omega) (by omega), c159 69 (by omega) (by omega) (by omega) (by omega) (by omega) (by omega) (by omega), row 152 (by omega) (by omega) (by omega) (by omega) (by omega) (by omega) (by omega) (by omega), row 153 (by omega) (by omega) (by omega) (by omega) (by omega) (by omega) (by omega) (by omega), row 186 (by omega) (by omega) (by omega) (by omega) (by omega) (by omega) (by omega) (by omega), row 187 (by omega) (by omega) (by omega) (by omega) (by omega) (by omega) (by omega) (by omega)]
    exact h11
theorem T_empty (h1 : τ.1 1 1 = 0) (h2 : τ.1 159 6 = 0) : I_T τ := ⟨0, by omega, h1, h2, fun i hi => absurd hi (Nat.not_lt_zero i)⟩
/-- text by the class, its reading known -/
theorem c_txtN {α : Type} {A B j : Nat} {res : Nat × Option α} {G : α → sa_St → Prop} {Q : Int32 → sa_St → Prop} (hj : j < 3) (hfull : f_X11_isFull 0 (nI j) σ = some (nI 0, σ)) (hC : wp (f_X11_readTape 0 (nI j)) σ (CRo A B σ res G)) (hno : res.2 = none → ∀ τ, TFr A B σ τ → Q (-1) τ) (hyes : ∀ x, res.2 = some x → ∀ τ, TFr A B σ τ → G x τ → wp (sa_bnd (sa_rdR 11 0 0) fun v3 =>
sa_bnd (sa_wrI 7 v3 1 0) fun _ =>
if ¬ nI j = 0 then
sa_jn1 (fun (y4 : Int32) =>
sa_ret (y4 : Int32)) fun j77 =>
if ¬ nI j = 1 then
sa_bnd (sa_rdI 11 0 5) fun v5 =>
sa_bnd (sa_wrI 11 0 5 (v5 + 1)) fun _ =>
j77 v5
else
sa_bnd (sa_rdR 11 0 3) fun v6 =>
sa_bnd (sa_rdI 3 v6 2) fun v7 =>
sa_bnd (sa_wrI 3 v6 2 (v7 + 1)) fun _ =>
j77 v7
else
sa_bnd (f_X11_settleLand 0) fun v8 =>
sa_ret (v8 : Int32)) τ Q) : wp (f_X11_text 0 (nI j)) σ Q := by
  unfold f_X11_text
  rw [wp_gd]
  refine ⟨rfl, ?_⟩
  rw [wp_jn0, wp_if]
  refine ⟨fun q => absurd q (nI_pos (by omega)), fun _ => ?_⟩
  rw [wp_if]
  refine ⟨fun q => absurd q (nI_nlt (a := 2) (b := j) (by omega) (by omega)), fun _ => ?_⟩
  rw [wp_bnd, wp_of_eq hfull, wp_if]
  refine ⟨fun q => absurd rfl q, fun _ => ?_⟩
  rw [wp_bnd]
  refine wp_mono hC (fun r τ hr => ?_)
  obtain ⟨fr, hr⟩ := hr
  obtain ⟨q, mm⟩ := res
  rw [wp_if]
  cases mm with
  | none =>
    obtain ⟨rfl, -⟩ := hr
    refine ⟨fun q => absurd rfl q, fun _ => ?_⟩
    rw [wp_ret]
    exact hno rfl τ fr
  | some x =>
    obtain ⟨rfl, hG⟩ := hr
    refine ⟨fun _ => ?_, fun q => absurd (show ¬ (1 : Int32) = 0 by decide) q⟩
    exact hyes x rfl τ fr hG
theorem c_txtF {j : Nat} {Q : Int32 → sa_St → Prop} (hj : j < 3) (hfull : f_X11_isFull 0 (nI j) σ = some (nI 1, σ)) (hQ : Q (-1) σ) : wp (f_X11_text 0 (nI j)) σ Q := by
  unfold f_X11_text
  rw [wp_gd]
  refine ⟨rfl, ?_⟩
  rw [wp_jn0, wp_if]
  refine ⟨fun q => absurd q (nI_pos (by omega)), fun _ => ?_⟩
  rw [wp_if]
  refine ⟨fun q => absurd q (nI_nlt (a := 2) (b := j) (by omega) (by omega)), fun _ => ?_⟩
  rw [wp_bnd, wp_of_eq hfull, wp_if]
  refine ⟨fun _ => ?_, fun q => absurd (show ¬ nI 1 = 0 by decide) q⟩
  rw [wp_ret]
  exact hQ
theorem c_full1 (hk : SK σ.2.1) (hn : σ.1 15 2 = nI n) (hn4 : n ≤ 4) : f_X11_isFull 0 (nI 1) σ = some (nI (if n < 4 then 0 else 1), σ) := by
  refine run_of ?_
  unfold f_X11_isFull
  rw [wp_gd]
  refine ⟨rfl, ?_⟩
  have e4 : ((4 : Int32) ≤ nI n) ↔ 4 ≤ n := nI_leI (a := 4) (b := n) (by omega) (by omega)
  rw [wp_jn1, wp_jn0, wp_jn0, wp_if]
  refine ⟨fun q => absurd rfl q, fun _ => ?_⟩
  rw [wp_bnd, wp_rdR (v := 15) rfl (sk_0_3 hk), wp_bnd, wp_rdI, hn]
  refine ⟨rfl, ?_⟩
  rw [wp_if, e4]
  refine ⟨fun c => ?_, fun c => ?_⟩
  · rw [wp_retZ, if_neg (by omega)]
    exact ⟨Or.inr rfl, rfl, rfl⟩
  · rw [wp_jn0, wp_if]
    refine ⟨fun _ => ?_, fun q => absurd (show ¬ nI 1 = 2 by decide) q⟩
    rw [wp_retZ, if_pos (by omega)]
    exact ⟨Or.inl rfl, rfl, rfl⟩
theorem c_full2 (hk : SK σ.2.1) (hm : σ.1 0 5 = nI m) (hm4 : m ≤ 4) : f_X11_isFull 0 (nI 2) σ = some (nI (if m < 4 then 0 else 1), σ) := by
  refine run_of ?_
  unfold f_X11_isFull
  rw [wp_gd]
  refine ⟨rfl, ?_⟩
  have e4 : (nI m < 4) ↔ m < 4 := nI_ltI (a := m) (b := 4) (by omega) (by omega)
  rw [wp_jn1, wp_jn0, wp_jn0, wp_if]
  refine ⟨fun _ => ?_, fun q => absurd (show ¬ nI 2 = 1 by decide) q⟩
  rw [wp_jn0, wp_if]
  refine ⟨fun q => absurd rfl q, fun _ => ?_⟩
  rw [wp_bnd, wp_rdI, hm]
  refine ⟨rfl, ?_⟩
  rw [wp_if, e4]
  refine ⟨fun c => ?_, fun c => ?_⟩
  · rw [wp_retZ, if_pos c]
    exact ⟨Or.inl rfl, rfl, rfl⟩
  · rw [wp_retZ, if_neg c]
    exact ⟨Or.inr rfl, rfl, rfl⟩
theorem c_full0 : f_X11_isFull 0 (nI 0) σ = some (nI 0, σ) := by
  refine run_of ?_
  unfold f_X11_isFull
  rw [wp_gd]
  refine ⟨rfl, ?_⟩
  rw [wp_jn1, wp_jn0, wp_jn0, wp_if]
  refine ⟨fun _ => ?_, fun q => absurd (show ¬ nI 0 = 1 by decide) q⟩
  rw [wp_jn0, wp_if]
  refine ⟨fun _ => ?_, fun q => absurd (show ¬ nI 0 = 2 by decide) q⟩
  rw [wp_retZ]
  exact ⟨Or.inl rfl, rfl, rfl⟩
end TXT
