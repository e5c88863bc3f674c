/-! A CAMP'S CELLS, one put anew -/
theorem va_up_comm {α : Type} {f : Nat → α} {a b : Nat} {x y : α} (h : a ≠ b) : va_up (va_up f a x) b y = va_up (va_up f b y) a x := by
  funext j
  by_cases e : j = b
  · subst e
    rw [va_up_self, va_up_ne _ _ (by omega), va_up_self]
  · rw [va_up_ne _ _ e]
    by_cases e2 : j = a
    · subst e2; rw [va_up_self, va_up_self]
    · rw [va_up_ne _ _ e2, va_up_ne _ _ e2, va_up_ne _ _ e]
theorem va_up_id {α : Type} {f : Nat → α} {a : Nat} {x : α} (h : f a = x) : va_up f a x = f := by
  funext j
  by_cases e : j = a
  · subst e; rw [va_up_self, h]
  · rw [va_up_ne _ _ e]
theorem va_up_two {α : Type} {f : Nat → α} {a : Nat} {x y : α} : va_up (va_up f a x) a y = va_up f a y := by
  funext j
  by_cases e : j = a
  · subst e; rw [va_up_self, va_up_self]
  · rw [va_up_ne _ _ e, va_up_ne _ _ e, va_up_ne _ _ e]
/-- where the reference's n-th number stands in the class's row -/
def src (n : Nat) : Nat := if n < 56 then 23 + n else if n < 72 then (if n % 2 = 0 then (n - 56) / 2 else 8 + (n - 57) / 2) else if n < 75 then 16 + (n - 72) else if n = 75 then 22 else if n = 76 then 21 else if n = 77 then 19 else 20
theorem toW_src {k wl : Nat → Int32} {n : Nat} (h : n < 79) : toW k wl n = k (src n) := by
  unfold toW src
  repeat' split
  all_goals first | rfl | (exfalso; omega)
theorem src_inj {a b : Nat} (ha : a < 79) (hb : b < 79) (h : src a = src b) : a = b := by
  unfold src at h
  repeat' split at h
  all_goals omega
theorem toW_up {k wl : Nat → Int32} {n : Nat} {v : Int32} (h : n < 79) : va_up (toW k wl) n v = toW (va_up k (src n) v) wl := by
  funext j
  by_cases e : j = n
  · subst e
    rw [va_up_self, toW_src h, va_up_self]
  · rw [va_up_ne _ _ e]
    by_cases hj : j < 79
    · rw [toW_src hj, toW_src hj, va_up_ne _ _ (fun q => e (src_inj hj h q))]
    · rw [toW_hi (by omega), toW_hi (by omega)]
section TOWU
variable {k wl : Nat → Int32} {v : Int32}
theorem toW_uo {c j : Nat} (h : 7 * c + j < 56) : va_up (toW k wl) (7 * c + j) v = toW (va_up k (23 + 7 * c + j) v) wl := by
  rw [toW_up (by omega), show src (7 * c + j) = 23 + 7 * c + j by unfold src; rw [if_pos h, Nat.add_assoc]]
theorem toW_uo0 {c : Nat} (h : 7 * c < 56) : va_up (toW k wl) (7 * c) v = toW (va_up k (23 + 7 * c + 0) v) wl := toW_uo (j := 0) h
theorem toW_ug {p : Nat} (h : p < 8) : va_up (toW k wl) (56 + 2 * p) v = toW (va_up k p v) wl := by
  rw [toW_up (by omega), show src (56 + 2 * p) = p by unfold src; rw [if_neg (by omega), if_pos (by omega), if_pos (by omega)]; omega]
theorem toW_ul {p : Nat} (h : p < 8) : va_up (toW k wl) (56 + 2 * p + 1) v = toW (va_up k (8 + p) v) wl := by
  rw [toW_up (by omega), show src (56 + 2 * p + 1) = 8 + p by unfold src; rw [if_neg (by omega), if_pos (by omega), if_neg (by omega)]; omega]
theorem toW_ub {f : Nat} (h : f < 3) : va_up (toW k wl) (72 + f) v = toW (va_up k (16 + f) v) wl := by
  rw [toW_up (by omega), show src (72 + f) = 16 + f by unfold src; rw [if_neg (by omega), if_neg (by omega), if_pos (by omega)]; omega]
theorem toW_u75 : va_up (toW k wl) 75 v = toW (va_up k 22 v) wl := toW_up (by omega)
theorem toW_u76 : va_up (toW k wl) 76 v = toW (va_up k 21 v) wl := toW_up (by omega)
theorem toW_u77 : va_up (toW k wl) 77 v = toW (va_up k 19 v) wl := toW_up (by omega)
theorem toW_u78 : va_up (toW k wl) 78 v = toW (va_up k 20 v) wl := toW_up (by omega)
end TOWU
section KVUP
variable {P W H B m : Nat} {k : Nat → Int32}
/-- a company's own numbers -/
def Own (P W : Nat) (k : Nat → Int32) (i : Nat) : Prop := (∃ p : Nat, p < P ∧ k (23 + 7 * i + 0) = nI p) ∧ (∃ l v : Nat, l ≤ 9 ∧ v < 12 ∧ (0 < l → v < W) ∧ k (23 + 7 * i + 1) = nI l ∧ k (23 + 7 * i + 6) = nI v) ∧ (∃ g : Nat, g ≤ 99 ∧ k (23 + 7 * i + 2) = nI g) ∧ (∃ w : Nat, w ≤ 9 ∧ k (23 + 7 * i + 3) = nI w) ∧ (∃ d : Nat, d ≤ 3 ∧ k (23 + 7 * i + 4) = nI d) ∧ (∃ q : Nat, q < 16 ∧ k (23 + 7 * i + 5) = nI q)
/-- the same as KV, with the number of companies told -/
def KM (P W H B m : Nat) (k : Nat → Int32) : Prop := m ≤ 8 ∧ k 22 = nI m ∧ (∃ h : Nat, h ≤ H ∧ k 21 = nI h) ∧ (∀ i : Nat, i < m → Own P W k i) ∧ (∀ i : Nat, m ≤ i → i < 8 → k (23 + 7 * i + 6) = 0) ∧
  (∀ p : Nat, p < 8 → (∃ g : Nat, g ≤ B ∧ k p = nI g) ∧ (P ≤ p → k p = 0) ∧ ∃ q : Nat, q < 16 ∧ k (8 + p) = nI q) ∧ (∀ f : Nat, f < 3 → ∃ b : Nat, b ≤ 9 ∧ k (16 + f) = nI b)
theorem KM.of (h : KV P W H B k) : ∃ m, KM P W H B m k := h
theorem KM.to (h : KM P W H B m k) : KV P W H B k := ⟨m, h⟩
theorem KM.cm (h : KM P W H B m k) : CM m k := ⟨h.1, h.2.1, fun i hi => (h.2.2.2.1 i hi).2.2.1⟩
theorem Own.ne {k2 : Nat → Int32} {i : Nat} (h : Own P W k i) (e : ∀ j, j < 7 → k2 (23 + 7 * i + j) = k (23 + 7 * i + j)) : Own P W k2 i := by
  unfold Own
  rw [e 0 (by omega), e 1 (by omega), e 2 (by omega), e 3 (by omega), e 4 (by omega), e 5 (by omega), e 6 (by omega)]
  exact h
theorem KM.mono {H2 B2 : Nat} (h : KM P W H B m k) (h1 : H ≤ H2) (h2 : B ≤ B2) : KM P W H2 B2 m k := by
  obtain ⟨a1, a2, ⟨hh, b1, b2⟩, a4, a5, a6, a7⟩ := h
  refine ⟨a1, a2, ⟨hh, Nat.le_trans b1 h1, b2⟩, a4, a5, fun p hp => ?_, a7⟩
  obtain ⟨⟨g, c1, c2⟩, c3⟩ := a6 p hp
  exact ⟨⟨g, Nat.le_trans c1 h2, c2⟩, c3⟩
/-- a company's numbers put anew -/
theorem KM.own {k2 : Nat → Int32} {i : Nat} (h : KM P W H B m k) (hi : i < m) (ho : Own P W k2 i) (e : ∀ j, j < 79 → (j < 23 + 7 * i ∨ 23 + 7 * i + 7 ≤ j) → k2 j = k j) : KM P W H B m k2 := by
  obtain ⟨a1, a2, a3, a4, a5, a6, a7⟩ := h
  refine ⟨a1, ?_, ?_, fun x hx => ?_, fun x h1 h2 => ?_, fun p hp => ?_, fun f hf => ?_⟩
  · rw [e 22 (by omega) (by omega)]; exact a2
  · rw [e 21 (by omega) (by omega)]; exact a3
  · by_cases hxi : x = i
    · subst hxi; exact ho
    · exact (a4 x hx).ne (fun j hj => e _ (by omega) (by omega))
  · rw [e _ (by omega) (by omega)]; exact a5 x h1 h2
  · rw [e _ (by omega) (by omega), e _ (by omega) (by omega)]; exact a6 p hp
  · rw [e _ (by omega) (by omega)]; exact a7 f hf
theorem KM.grains {i g : Nat} (h : KM P W H B m k) (hi : i < m) (hg : g ≤ 99) : KM P W H B m (va_up k (23 + 7 * i + 2) (nI g)) := by
  refine h.own hi ?_ (fun j h1 h2 => va_up_ne _ _ (by omega))
  obtain ⟨o1, o2, o3, o4, o5, o6⟩ := h.2.2.2.1 i hi
  refine ⟨?_, ?_, ⟨g, hg, va_up_self _ _ _⟩, ?_, ?_, ?_⟩
  · rw [va_up_ne _ _ (by omega)]; exact o1
  · rw [va_up_ne _ _ (by omega), va_up_ne _ _ (by omega)]; exact o2
  · rw [va_up_ne _ _ (by omega)]; exact o4
  · rw [va_up_ne _ _ (by omega)]; exact o5
  · rw [va_up_ne _ _ (by omega)]; exact o6
theorem KM.known {i q : Nat} (h : KM P W H B m k) (hi : i < m) (hq : q < 16) : KM P W H B m (va_up k (23 + 7 * i + 5) (nI q)) := by
  refine h.own hi ?_ (fun j h1 h2 => va_up_ne _ _ (by omega))
  obtain ⟨o1, o2, o3, o4, o5, o6⟩ := h.2.2.2.1 i hi
  refine ⟨?_, ?_, ?_, ?_, ?_, ⟨q, hq, va_up_self _ _ _⟩⟩
  · rw [va_up_ne _ _ (by omega)]; exact o1
  · rw [va_up_ne _ _ (by omega), va_up_ne _ _ (by omega)]; exact o2
  · rw [va_up_ne _ _ (by omega)]; exact o3
  · rw [va_up_ne _ _ (by omega)]; exact o4
  · rw [va_up_ne _ _ (by omega)]; exact o5
theorem KM.left {i l v : Nat} (h : KM P W H B m k) (hi : i < m) (hv : k (23 + 7 * i + 6) = nI v) (hv12 : v < 12) (hl : l ≤ 9) (hlv : 0 < l → v < W) : KM P W H B m (va_up k (23 + 7 * i + 1) (nI l)) := by
  refine h.own hi ?_ (fun j h1 h2 => va_up_ne _ _ (by omega))
  obtain ⟨o1, o2, o3, o4, o5, o6⟩ := h.2.2.2.1 i hi
  refine ⟨?_, ⟨l, v, hl, hv12, hlv, va_up_self _ _ _, ?_⟩, ?_, ?_, ?_, ?_⟩
  · rw [va_up_ne _ _ (by omega)]; exact o1
  · rw [va_up_ne _ _ (by omega)]; exact hv
  · rw [va_up_ne _ _ (by omega)]; exact o3
  · rw [va_up_ne _ _ (by omega)]; exact o4
  · rw [va_up_ne _ _ (by omega)]; exact o5
  · rw [va_up_ne _ _ (by omega)]; exact o6
theorem KM.ground {p g : Nat} (h : KM P W H B m k) (hp : p < P) (hp8 : p < 8) (hg : g ≤ B) : KM P W H B m (va_up k p (nI g)) := by
  obtain ⟨a1, a2, a3, a4, a5, a6, a7⟩ := h
  refine ⟨a1, ?_, ?_, fun x hx => (a4 x hx).ne (fun j hj => va_up_ne _ _ (by omega)), fun x h1 h2 => ?_, fun q hq => ?_, fun f hf => ?_⟩
  · rw [va_up_ne _ _ (by omega)]; exact a2
  · rw [va_up_ne _ _ (by omega)]; exact a3
  · rw [va_up_ne _ _ (by omega)]; exact a5 x h1 h2
  · rw [va_up_ne _ _ (show 8 + q ≠ p by omega)]
    by_cases e : q = p
    · subst e
      rw [va_up_self]
      exact ⟨⟨g, hg, rfl⟩, fun hq2 => by omega, (a6 q hq).2.2⟩
    · rw [va_up_ne _ _ e]
      exact a6 q hq
  · rw [va_up_ne _ _ (by omega)]; exact a7 f hf
theorem KM.lore {p q : Nat} (h : KM P W H B m k) (hp8 : p < 8) (hq : q < 16) : KM P W H B m (va_up k (8 + p) (nI q)) := by
  obtain ⟨a1, a2, a3, a4, a5, a6, a7⟩ := h
  refine ⟨a1, ?_, ?_, fun x hx => (a4 x hx).ne (fun j hj => va_up_ne _ _ (by omega)), fun x h1 h2 => ?_, fun y hy => ?_, fun f hf => ?_⟩
  · rw [va_up_ne _ _ (by omega)]; exact a2
  · rw [va_up_ne _ _ (by omega)]; exact a3
  · rw [va_up_ne _ _ (by omega)]; exact a5 x h1 h2
  · rw [va_up_ne _ _ (show y ≠ 8 + p by omega)]
    by_cases e : y = p
    · subst e
      rw [va_up_self]
      exact ⟨(a6 y hy).1, (a6 y hy).2.1, q, hq, rfl⟩
    · rw [va_up_ne _ _ (by omega)]
      exact a6 y hy
  · rw [va_up_ne _ _ (by omega)]; exact a7 f hf
theorem KM.free {n : Nat} {v : Int32} (h : KM P W H B m k) (hn : n = 19 ∨ n = 20 ∨ 79 ≤ n) : KM P W H B m (va_up k n v) := by
  obtain ⟨a1, a2, a3, a4, a5, a6, a7⟩ := h
  refine ⟨a1, ?_, ?_, fun x hx => (a4 x hx).ne (fun j hj => va_up_ne _ _ (by omega)), fun x h1 h2 => ?_, fun y hy => ?_, fun f hf => ?_⟩
  · rw [va_up_ne _ _ (by omega)]; exact a2
  · rw [va_up_ne _ _ (by omega)]; exact a3
  · rw [va_up_ne _ _ (by omega)]; exact a5 x h1 h2
  · rw [va_up_ne _ _ (by omega), va_up_ne _ _ (by omega)]; exact a6 y hy
  · rw [va_up_ne _ _ (by omega)]; exact a7 f hf
theorem KM.bucket {f b : Nat} (h : KM P W H B m k) (hf3 : f < 3) (hb : b ≤ 9) : KM P W H B m (va_up k (16 + f) (nI b)) := by
  obtain ⟨a1, a2, a3, a4, a5, a6, a7⟩ := h
  refine ⟨a1, ?_, ?_, fun x hx => (a4 x hx).ne (fun j hj => va_up_ne _ _ (by omega)), fun x h1 h2 => ?_, fun y hy => ?_, fun g hg => ?_⟩
  · rw [va_up_ne _ _ (by omega)]; exact a2
  · rw [va_up_ne _ _ (by omega)]; exact a3
  · rw [va_up_ne _ _ (by omega)]; exact a5 x h1 h2
  · rw [va_up_ne _ _ (by omega), va_up_ne _ _ (by omega)]; exact a6 y hy
  · by_cases e : g = f
    · subst e; rw [va_up_self]; exact ⟨b, hb, rfl⟩
    · rw [va_up_ne _ _ (by omega)]; exact a7 g hg
theorem KM.hour {H2 h : Nat} (hh : KM P W H B m k) (hH : H ≤ H2) (h2 : h ≤ H2) : KM P W H2 B m (va_up k 21 (nI h)) := by
  obtain ⟨a1, a2, a3, a4, a5, a6, a7⟩ := hh
  refine ⟨a1, ?_, ⟨h, h2, va_up_self _ _ _⟩, fun x hx => (a4 x hx).ne (fun j hj => va_up_ne _ _ (by omega)), fun x h1 h2 => ?_, fun y hy => ?_, fun f hf => ?_⟩
  · rw [va_up_ne _ _ (by omega)]; exact a2
  · rw [va_up_ne _ _ (by omega)]; exact a5 x h1 h2
  · rw [va_up_ne _ _ (by omega), va_up_ne _ _ (by omega)]; exact a6 y hy
  · rw [va_up_ne _ _ (by omega)]; exact a7 f hf
end KVUP
