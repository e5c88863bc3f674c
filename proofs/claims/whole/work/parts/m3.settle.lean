/-! TEXTS: text, of a land: how a camp is settled -/
/-- which cell of a company an item is told to -/
def psI (y : Nat) : Nat := if y = 0 then 0 else y + 1
/-- a company's cells, y items of it told -/
def rwv (r : Nat → Int32) (y p : Nat) : Int32 := if p = 0 then (if 0 < y then r 0 else 0) else if p = 1 ∨ p = 6 then 0 else if p - 1 < y then r (p - 1) else 0
/-- a camp: m companies, of the i-th as many items told as E says; F buckets -/
def STl (m F : Nat) (E : Nat → Nat) (r : Nat → Nat → Int32) (b : Nat → Int32) (k : Nat → Int32) : Prop := (∀ j, j < 16 → k j = 0) ∧ (∀ f, f < 3 → k (16 + f) = if f < F then b f else 0) ∧ (∀ j, 19 ≤ j → j < 22 → k j = 0) ∧ k 22 = nI m ∧ ∀ i p, i < 8 → p < 7 → k (23 + 7 * i + p) = rwv (r i) (E i) p
def dnC (n y i : Nat) : Nat := if i < n then 5 else if i = n then y else 0
theorem dnC_5 (n : Nat) : dnC n 5 = dnC (n + 1) 0 := by
  funext i
  unfold dnC
  by_cases h : i < n
  · rw [if_pos h, if_pos (by omega)]
  · rw [if_neg h]
    by_cases h2 : i = n
    · rw [if_pos h2, if_pos (by omega)]
    · rw [if_neg h2, if_neg (by omega)]
      split <;> rfl
theorem dnC_at (n y : Nat) : dnC n y n = y := by
  unfold dnC
  rw [if_neg (Nat.lt_irrefl n), if_pos rfl]
theorem dnC_up (n y j : Nat) : dnC n (y + 1) j = if j = n then y + 1 else dnC n y j := by
  unfold dnC
  by_cases e : j = n
  · subst e
    rw [if_neg (Nat.lt_irrefl j), if_pos rfl, if_pos rfl]
  · rw [if_neg e, if_neg e, if_neg e]
theorem rwv_0 {r : Nat → Int32} {p : Nat} : rwv r 0 p = 0 := by
  unfold rwv
  rw [if_neg (Nat.lt_irrefl 0), if_neg (Nat.not_lt_zero (p - 1))]
  split
  · rfl
  · split <;> rfl
section STL
variable {m F : Nat} {E : Nat → Nat} {r : Nat → Nat → Int32} {b k : Nat → Int32}
theorem STl.zero (h : ∀ j, j < 79 → k j = 0) : STl 0 0 (dnC 0 0) r b k := by
  refine ⟨fun j hj => h j (by omega), fun f hf => ?_, fun j _ _ => h j (by omega), h 22 (by omega), fun i p hi hp => ?_⟩
  · rw [if_neg (Nat.not_lt_zero f)]
    exact h _ (by omega)
  · have e : dnC 0 0 i = 0 := by
      unfold dnC
      rw [if_neg (Nat.not_lt_zero i)]
      split <;> rfl
    rw [e, rwv_0]
    exact h _ (by omega)
theorem STl.n {m2 : Nat} (h : STl m F E r b k) : STl m2 F E r b (va_up k 22 (nI m2)) := by
  obtain ⟨h1, h2, h3, h4, h5⟩ := h
  refine ⟨fun j hj => ?_, fun f hf => ?_, fun j a c => ?_, va_up_self _ _ _, fun i p hi hp => ?_⟩
  · rw [va_up_ne _ _ (by omega)]; exact h1 j hj
  · rw [va_up_ne _ _ (by omega)]; exact h2 f hf
  · rw [va_up_ne _ _ (by omega)]; exact h3 j a c
  · rw [va_up_ne _ _ (by omega)]; exact h5 i p hi hp
theorem STl.row {i y : Nat} {E2 : Nat → Nat} (h : STl m F E r b k) (hi : i < 8) (hy : y < 5) (hE : E i = y) (hE2 : ∀ j, E2 j = if j = i then y + 1 else E j) : STl m F E2 r b (va_up k (23 + 7 * i + psI y) (r i y)) := by
  obtain ⟨h1, h2, h3, h4, h5⟩ := h
  have hp : psI y < 7 := by
    unfold psI
    split <;> omega
  refine ⟨fun j hj => ?_, fun f hf => ?_, fun j a c => ?_, ?_, fun i2 p hi2 hp2 => ?_⟩
  · rw [va_up_ne _ _ (by omega)]; exact h1 j hj
  · rw [va_up_ne _ _ (by omega)]; exact h2 f hf
  · rw [va_up_ne _ _ (by omega)]; exact h3 j a c
  · rw [va_up_ne _ _ (by omega)]; exact h4
  · by_cases e : i2 = i
    · subst e
      rw [hE2 i2, if_pos rfl]
      by_cases ep : p = psI y
      · subst ep
        rw [va_up_self]
        by_cases ey : y = 0
        · subst ey
          rfl
        · have ps : psI y = y + 1 := if_neg ey
          rw [ps]
          unfold rwv
          rw [if_neg (by omega), if_neg (by omega), if_pos (by omega)]
          try rfl
      · rw [va_up_ne _ _ (by omega), h5 i2 p hi2 hp2, hE]
        unfold rwv
        by_cases p0 : p = 0
        · have y0 : 0 < y := by
            unfold psI at ep
            split at ep <;> omega
          rw [if_pos p0, if_pos p0, if_pos y0, if_pos (by omega)]
        · rw [if_neg p0, if_neg p0]
          by_cases p1 : p = 1 ∨ p = 6
          · rw [if_pos p1, if_pos p1]
          · rw [if_neg p1, if_neg p1]
            by_cases p2 : p - 1 < y
            · rw [if_pos p2, if_pos (by omega)]
            · rw [if_neg p2, if_neg (by unfold psI at ep; split at ep <;> omega)]
    · rw [va_up_ne _ _ (by omega), h5 i2 p hi2 hp2, hE2 i2, if_neg e]
theorem STl.bk (h : STl m F E r b k) (hF : F < 3) : STl m (F + 1) E r b (va_up k (16 + F) (b F)) := by
  obtain ⟨h1, h2, h3, h4, h5⟩ := h
  refine ⟨fun j hj => ?_, fun f hf => ?_, fun j a c => ?_, ?_, fun i p hi hp => ?_⟩
  · rw [va_up_ne _ _ (by omega)]; exact h1 j hj
  · by_cases e : f = F
    · subst e
      rw [va_up_self, if_pos (by omega)]
    · rw [va_up_ne _ _ (by omega), h2 f hf]
      by_cases c : f < F
      · rw [if_pos c, if_pos (by omega)]
      · rw [if_neg c, if_neg (by omega)]
  · rw [va_up_ne _ _ (by omega)]; exact h3 j a c
  · rw [va_up_ne _ _ (by omega)]; exact h4
  · rw [va_up_ne _ _ (by omega)]; exact h5 i p hi hp
theorem STl.eq {k2 : Nat → Int32} (h : STl m F E r b k) (h' : STl m F E r b k2) {j : Nat} (hj : j < 79) : k j = k2 j := by
  obtain ⟨h1, h2, h3, h4, h5⟩ := h
  obtain ⟨g1, g2, g3, g4, g5⟩ := h'
  by_cases a1 : j < 16
  · rw [h1 j a1, g1 j a1]
  · by_cases a2 : j < 19
    · obtain ⟨f, rfl⟩ : ∃ f, j = 16 + f := ⟨j - 16, by omega⟩
      rw [h2 f (by omega), g2 f (by omega)]
    · by_cases a3 : j < 22
      · rw [h3 j (by omega) a3, g3 j (by omega) a3]
      · by_cases a4 : j = 22
        · subst a4
          rw [h4, g4]
        · have e : j = 23 + 7 * ((j - 23) / 7) + (j - 23) % 7 := by omega
          have e1 : (j - 23) / 7 < 8 := by omega
          have e2 : (j - 23) % 7 < 7 := by omega
          rw [e, h5 _ _ e1 e2, g5 _ _ e1 e2]
theorem STl.kv {P W : Nat} (h : STl m F (dnC m 0) r b k) (hm : m ≤ 8) (hF : F ≤ 3) (hr : ∀ i, i < m → (∃ p, p < P ∧ r i 0 = nI p) ∧ (∃ g, g ≤ 99 ∧ r i 1 = nI g) ∧ (∃ w, w ≤ 9 ∧ r i 2 = nI w) ∧ (∃ d, d ≤ 3 ∧ r i 3 = nI d) ∧ ∃ q, q < 16 ∧ r i 4 = nI q) (hb : ∀ f, f < F → ∃ x, x ≤ 9 ∧ b f = nI x) : KV P W 0 0 k := by
  obtain ⟨h1, h2, h3, h4, h5⟩ := h
  refine ⟨m, hm, h4, ⟨0, Nat.le_refl _, h3 21 (by omega) (by omega)⟩, fun i hi => ?_, fun i hi hi8 => ?_, fun p hp => ⟨⟨0, Nat.le_refl _, h1 p (by omega)⟩, fun _ => h1 p (by omega), 0, by omega, h1 (8 + p) (by omega)⟩, fun f hf => ?_⟩
  · have e5 : dnC m 0 i = 5 := by
      unfold dnC
      rw [if_pos hi]
    have c : ∀ p, p < 7 → k (23 + 7 * i + p) = rwv (r i) 5 p := fun p hp => by rw [h5 i p (by omega) hp, e5]
    obtain ⟨⟨p, p1, p2⟩, ⟨g, g1, g2⟩, ⟨w, w1, w2⟩, ⟨d, d1, d2⟩, q, q1, q2⟩ := hr i hi
    refine ⟨⟨p, p1, ?_⟩, ⟨0, 0, by omega, by omega, fun h => by omega, ?_, ?_⟩, ⟨g, g1, ?_⟩, ⟨w, w1, ?_⟩, ⟨d, d1, ?_⟩, q, q1, ?_⟩
    · exact (c 0 (by omega)).trans p2
    · exact (c 1 (by omega)).trans rfl
    · exact (c 6 (by omega)).trans rfl
    · exact (c 2 (by omega)).trans g2
    · exact (c 3 (by omega)).trans w2
    · exact (c 4 (by omega)).trans d2
    · exact (c 5 (by omega)).trans q2
  · exact (h5 i 6 hi8 (by omega)).trans rfl
  · rw [h2 f hf]
    by_cases c : f < F
    · rw [if_pos c]
      exact hb f c
    · rw [if_neg c]
      exact ⟨0, by omega, rfl⟩
end STL
/-- a company's items, a foe's buckets, as they are read -/
def rC (l : LDr) (i x : Nat) : Int32 := (l 2).getD i (fun _ => 0) x
def bF (l : LDr) (f : Nat) : Int32 := (l 3).getD f (fun _ => 0) 1
section LF
variable {l : LDr}
theorem ld_row {k x : Nat} (hl : LOk l) (hk : k < 4) (hx : x < (l k).length) : RwOk k ((l k).getD x (fun _ => 0)) := (hl k hk).2 _ (gd_mem hx)
theorem ld_at {k x : Nat} (hl : LOk l) (h : atB l k = true) (hk : k < 4) (hx : x < (l k).length) : ∃ p, p < (l 0).length ∧ (l k).getD x (fun _ => 0) 0 = nI p := by
  have h8 : (l 0).length ≤ 8 := (hl 0 (by omega)).1
  have h1 := (all_ix (d := fun _ => (0 : Int32)) (l k)).mp h x hx
  have h2 := of_decide_eq_true h1
  obtain ⟨n, n1, n2, n3⟩ := ld_row hl hk hx 0 (by have := (cnt5 k hk).2.1; omega)
  have n4 := (hi99 k hk 0 (by omega)).1
  rw [n3, nI_ltI (by omega) (by omega)] at h2
  exact ⟨n, h2, n3⟩
theorem ld_way {x : Nat} (hl : LOk l) (hw : wyB l = true) (hx : x < (l 1).length) : ∃ a c, a < (l 0).length ∧ c < (l 0).length ∧ a ≠ c ∧ (l 1).getD x (fun _ => 0) 0 = nI a ∧ (l 1).getD x (fun _ => 0) 1 = nI c := by
  have h8 : (l 0).length ≤ 8 := (hl 0 (by omega)).1
  have h1 := (all_ix (d := fun _ => (0 : Int32)) (l 1)).mp hw x hx
  have h2 := of_decide_eq_true h1
  obtain ⟨a, a1, a2, a3⟩ := ld_row hl (k := 1) (by omega) hx 0 (by decide)
  obtain ⟨c, c1, c2, c3⟩ := ld_row hl (k := 1) (by omega) hx 1 (by decide)
  have a4 : a ≤ 7 := a2
  have c4 : c ≤ 7 := c2
  rw [a3, c3, nI_eq (by omega) (by omega), nI_ltI (by omega) (by omega), nI_ltI (by omega) (by omega)] at h2
  exact ⟨a, c, h2.2.1, h2.2.2, h2.1, a3, c3⟩
theorem ld_comp {i : Nat} (hl : LOk l) (hw : whB l = true) (hi : i < (l 2).length) : (∃ p, p < (l 0).length ∧ rC l i 0 = nI p) ∧ (∃ g, g ≤ 99 ∧ rC l i 1 = nI g) ∧ (∃ w, w ≤ 9 ∧ rC l i 2 = nI w) ∧ (∃ d, d ≤ 3 ∧ rC l i 3 = nI d) ∧ ∃ q, q < 16 ∧ rC l i 4 = nI q := by
  have hr := ld_row hl (k := 2) (by omega) hi
  obtain ⟨g, -, g2, g3⟩ := hr 1 (by decide)
  obtain ⟨w, -, w2, w3⟩ := hr 2 (by decide)
  obtain ⟨d, -, d2, d3⟩ := hr 3 (by decide)
  obtain ⟨q, -, q2, q3⟩ := hr 4 (by decide)
  have q4 : q ≤ 15 := q2
  exact ⟨ld_at hl (wh_eq.mp hw).2.2.2.1 (by omega) hi, ⟨g, g2, g3⟩, ⟨w, w2, w3⟩, ⟨d, d2, d3⟩, q, by omega, q3⟩
theorem ld_foe {f : Nat} (hl : LOk l) (hf : f < (l 3).length) : ∃ x, x ≤ 9 ∧ bF l f = nI x := by
  obtain ⟨g, -, g2, g3⟩ := ld_row hl (k := 3) (by omega) hf 1 (by decide)
  exact ⟨g, g2, g3⟩
theorem ld_wy {D : Nat} {σ : sa_St} (hl : LOk l) (hw : whB l = true) (hd : CLd D l σ) : WyOk (l 1).length (σ.1 (D + 2)) := by
  have h8 : (l 0).length ≤ 8 := (hl 0 (by omega)).1
  refine ⟨(hl 1 (by omega)).1, fun k hk => ?_⟩
  obtain ⟨a, c, a1, c1, ac, a2, c2⟩ := ld_way hl (wh_eq.mp hw).2.2.1 hk
  obtain ⟨t, t1, t2, t3⟩ := ld_row hl (k := 1) (by omega) hk 2 (by decide)
  have e : ∀ i, i < 5 → σ.1 (D + 2) (60 + 5 * k + i) = (l 1).getD k (fun _ => 0) i := fun i hi => hd.2 1 (by omega) k hk i hi
  exact ⟨⟨a, c, by omega, by omega, ac, (e 0 (by omega)).trans a2, (e 1 (by omega)).trans c2⟩, t, t1, t2, (e 2 (by omega)).trans t3⟩
end LF
