/-! SUMS; ROWS OF PICKETS: by company (the class), by night (the reference) -/
def zc_sm : Nat → (Nat → Nat) → Nat
  | 0, _ => 0
  | n + 1, f => zc_sm n f + f n
theorem zc_sm_congr {f g : Nat → Nat} : ∀ {n : Nat}, (∀ i, i < n → f i = g i) → zc_sm n f = zc_sm n g := by
  intro n
  induction n with
  | zero => intro _; rfl
  | succ n ih =>
    intro h
    show zc_sm n f + f n = zc_sm n g + g n
    rw [ih (fun i hi => h i (by omega)), h n (by omega)]
theorem zc_sm_add (n : Nat) (f g : Nat → Nat) : zc_sm n (fun i => f i + g i) = zc_sm n f + zc_sm n g := by
  induction n with
  | zero => rfl
  | succ n ih =>
    show zc_sm n (fun i => f i + g i) + (f n + g n) = zc_sm n f + f n + (zc_sm n g + g n)
    rw [ih]
    omega
theorem zc_sm_zero (n : Nat) : zc_sm n (fun _ => 0) = 0 := by
  induction n with
  | zero => rfl
  | succ n ih => show zc_sm n (fun _ => 0) + 0 = 0; rw [ih]
theorem zc_sm_mul (n a : Nat) (f : Nat → Nat) : zc_sm n (fun i => a * f i) = a * zc_sm n f := by
  induction n with
  | zero => rfl
  | succ n ih =>
    show zc_sm n (fun i => a * f i) + a * f n = a * (zc_sm n f + f n)
    rw [ih, Nat.mul_add]
theorem zc_sm_swap (n m : Nat) (f : Nat → Nat → Nat) : zc_sm n (fun i => zc_sm m (fun j => f i j)) = zc_sm m (fun j => zc_sm n (fun i => f i j)) := by
  induction n with
  | zero => exact (zc_sm_zero m).symm
  | succ n ih =>
    show zc_sm n (fun i => zc_sm m (fun j => f i j)) + zc_sm m (fun j => f n j) = zc_sm m (fun j => zc_sm n (fun i => f i j) + f n j)
    rw [ih, zc_sm_add]
theorem zc_sm_first (n : Nat) (f : Nat → Nat) : zc_sm (n + 1) f = f 0 + zc_sm n (fun i => f (i + 1)) := by
  induction n with
  | zero => show 0 + f 0 = f 0 + 0; omega
  | succ n ih =>
    show zc_sm (n + 1) f + f (n + 1) = f 0 + (zc_sm n (fun i => f (i + 1)) + f (n + 1))
    rw [ih]
    omega
def zc_ch : Nat → Nat → Nat
  | _, 0 => 1
  | 0, _ + 1 => 0
  | n + 1, k + 1 => zc_ch n k + zc_ch n (k + 1)
theorem zc_ch_0 (n : Nat) : zc_ch n 0 = 1 := by cases n <;> rfl
theorem zc_ch_big : ∀ {n k : Nat}, n < k → zc_ch n k = 0 := by
  intro n
  induction n with
  | zero =>
    intro k h
    cases k with
    | zero => omega
    | succ k => rfl
  | succ n ih =>
    intro k h
    cases k with
    | zero => omega
    | succ k =>
      show zc_ch n k + zc_ch n (k + 1) = 0
      rw [ih (by omega), ih (by omega)]
/-- how many rows of t nights by the first so many companies, the i-th no more often than cap i -/
def zc_wr : Nat → (Nat → Nat) → Nat → Nat
  | 0, _, t => if t = 0 then 1 else 0
  | i + 1, cap, t => zc_sm (t + 1) (fun o => if o ≤ cap i then zc_ch t o * zc_wr i cap (t - o) else 0)
theorem zc_wr_succ (i : Nat) (cap : Nat → Nat) (t : Nat) : zc_wr (i + 1) cap t = zc_sm (t + 1) (fun o => if o ≤ cap i then zc_ch t o * zc_wr i cap (t - o) else 0) := rfl
def zc_dec (cap : Nat → Nat) (c j : Nat) : Nat := if j = c then cap j - 1 else cap j
theorem zc_wr_congr {cap cap2 : Nat → Nat} : ∀ {m t : Nat}, (∀ j, j < m → cap j = cap2 j) → zc_wr m cap t = zc_wr m cap2 t := by
  intro m
  induction m with
  | zero => intro t _; rfl
  | succ m ih =>
    intro t h
    unfold zc_wr
    refine zc_sm_congr (fun o _ => ?_)
    rw [h m (by omega), ih (fun j hj => h j (by omega))]
theorem zc_wr_step (m : Nat) : ∀ (cap : Nat → Nat) (t : Nat), zc_wr m cap (t + 1) = zc_sm m (fun c => if 0 < cap c then zc_wr m (zc_dec cap c) t else 0) := by
  induction m with
  | zero => intro cap t; rfl
  | succ m ih =>
    intro cap t
    have h1 : zc_wr (m + 1) cap (t + 1) = zc_wr m cap (t + 1) + zc_sm (t + 1) (fun j => if j + 1 ≤ cap m then (zc_ch t j + zc_ch t (j + 1)) * zc_wr m cap (t - j) else 0) := by
      show zc_sm (t + 1 + 1) _ = _
      rw [zc_sm_first]
      congr 1
      · rw [if_pos (Nat.zero_le _), zc_ch_0, Nat.one_mul]; rfl
      · refine zc_sm_congr (fun j hj => ?_)
        rw [show t + 1 - (j + 1) = t - j by omega]
        rfl
    have h2 : zc_sm (t + 1) (fun j => if j + 1 ≤ cap m then (zc_ch t j + zc_ch t (j + 1)) * zc_wr m cap (t - j) else 0) = zc_sm (t + 1) (fun j => if j + 1 ≤ cap m then zc_ch t j * zc_wr m cap (t - j) else 0) + zc_sm (t + 1) (fun j => if j + 1 ≤ cap m then zc_ch t (j + 1) * zc_wr m cap (t - j) else 0) := by
      rw [← zc_sm_add]
      refine zc_sm_congr (fun j _ => ?_)
      by_cases h : j + 1 ≤ cap m
      · rw [if_pos h, if_pos h, if_pos h, Nat.add_mul]
      · rw [if_neg h, if_neg h, if_neg h]
    have h3 : zc_sm (t + 1) (fun j => if j + 1 ≤ cap m then zc_ch t j * zc_wr m cap (t - j) else 0) = if 0 < cap m then zc_wr (m + 1) (zc_dec cap m) t else 0 := by
      by_cases h : 0 < cap m
      · rw [if_pos h, zc_wr_succ]
        refine zc_sm_congr (fun j _ => ?_)
        have e1 : zc_dec cap m m = cap m - 1 := if_pos rfl
        rw [e1, zc_wr_congr (cap := zc_dec cap m) (cap2 := cap) (fun i hi => if_neg (by omega))]
        by_cases h5 : j + 1 ≤ cap m
        · rw [if_pos h5, if_pos (by omega)]
        · rw [if_neg h5, if_neg (by omega)]
      · rw [if_neg h]
        exact (zc_sm_congr (fun j _ => if_neg (by omega))).trans (zc_sm_zero _)
    have h4 : zc_wr m cap (t + 1) + zc_sm (t + 1) (fun j => if j + 1 ≤ cap m then zc_ch t (j + 1) * zc_wr m cap (t - j) else 0) = zc_sm (t + 1) (fun o => if o ≤ cap m then zc_ch t o * zc_wr m cap (t - o + 1) else 0) := by
      have e : zc_sm (t + 1 + 1) (fun o => if o ≤ cap m then zc_ch t o * zc_wr m cap (t + 1 - o) else 0) = zc_wr m cap (t + 1) + zc_sm (t + 1) (fun j => if j + 1 ≤ cap m then zc_ch t (j + 1) * zc_wr m cap (t - j) else 0) := by
        rw [zc_sm_first]
        congr 1
        · rw [if_pos (Nat.zero_le _), zc_ch_0, Nat.one_mul]; rfl
        · refine zc_sm_congr (fun j hj => ?_)
          rw [show t + 1 - (j + 1) = t - j by omega]
      rw [← e]
      show zc_sm (t + 1) (fun o => if o ≤ cap m then zc_ch t o * zc_wr m cap (t + 1 - o) else 0) + (if t + 1 ≤ cap m then zc_ch t (t + 1) * zc_wr m cap (t + 1 - (t + 1)) else 0) = _
      rw [zc_ch_big (Nat.lt_succ_self t), Nat.zero_mul, ite_self, Nat.add_zero]
      refine zc_sm_congr (fun o ho => ?_)
      rw [show t + 1 - o = t - o + 1 by omega]
    have h5 : zc_sm (t + 1) (fun o => if o ≤ cap m then zc_ch t o * zc_wr m cap (t - o + 1) else 0) = zc_sm m (fun c => if 0 < cap c then zc_wr (m + 1) (zc_dec cap c) t else 0) := by
      have e : ∀ o, (if o ≤ cap m then zc_ch t o * zc_wr m cap (t - o + 1) else 0) = zc_sm m (fun c => if 0 < cap c then (if o ≤ cap m then zc_ch t o * zc_wr m (zc_dec cap c) (t - o) else 0) else 0) := by
        intro o
        by_cases h : o ≤ cap m
        · rw [if_pos h, ih, ← zc_sm_mul]
          refine zc_sm_congr (fun c _ => ?_)
          by_cases h9 : 0 < cap c
          · rw [if_pos h9, if_pos h9, if_pos h]
          · rw [if_neg h9, if_neg h9, Nat.mul_zero]
        · rw [if_neg h]
          exact ((zc_sm_congr (fun c _ => by rw [if_neg h, ite_self])).trans (zc_sm_zero m)).symm
      rw [zc_sm_congr (fun o _ => e o), zc_sm_swap]
      refine zc_sm_congr (fun c hc => ?_)
      by_cases h9 : 0 < cap c
      · rw [if_pos h9, zc_sm_congr (fun o _ => if_pos h9)]
        rw [zc_wr_succ]
        have e1 : zc_dec cap c m = cap m := if_neg (by omega)
        rw [e1]
      · rw [if_neg h9, zc_sm_congr (fun o _ => if_neg h9)]
        exact zc_sm_zero _
    rw [h1, h2, h3]
    show _ = zc_sm m (fun c => if 0 < cap c then zc_wr (m + 1) (zc_dec cap c) t else 0) + (if 0 < cap m then zc_wr (m + 1) (zc_dec cap m) t else 0)
    rw [← h5, ← h4]
    omega
/-- the rows, by nights, in their order, as digits behind d -/
def zc_rows (m : Nat) : Nat → (Nat → Nat) → Nat → List Nat
  | 0, _, d => [d]
  | n + 1, cap, d => (List.range m).flatMap (fun c => if 0 < cap c then zc_rows m n (zc_dec cap c) (10 * d + c) else [])
theorem zc_len_flat {α : Type} (g : Nat → List α) : ∀ m : Nat, ((List.range m).flatMap g).length = zc_sm m (fun c => (g c).length) := by
  intro m
  induction m with
  | zero => rfl
  | succ m ih =>
    rw [List.range_succ, List.flatMap_append, List.length_append, ih]
    simp [zc_sm]
theorem zc_rows_len (m : Nat) : ∀ (n : Nat) (cap : Nat → Nat) (d : Nat), (zc_rows m n cap d).length = zc_wr m cap n := by
  have h0 : ∀ (m : Nat) (cap : Nat → Nat), zc_wr m cap 0 = 1 := by
    intro m cap
    induction m with
    | zero => rfl
    | succ m ih =>
      show 0 + (if 0 ≤ cap m then zc_ch 0 0 * zc_wr m cap (0 - 0) else 0) = 1
      rw [if_pos (Nat.zero_le _), ih]
      rfl
  intro n
  induction n with
  | zero => intro cap d; rw [h0]; rfl
  | succ n ih =>
    intro cap d
    show ((List.range m).flatMap _).length = _
    rw [zc_len_flat, zc_wr_step]
    refine zc_sm_congr (fun c _ => ?_)
    by_cases h : 0 < cap c
    · rw [if_pos h, if_pos h, ih]
    · rw [if_neg h, if_neg h]; rfl
/-- a place within rows that stand one behind the other -/
theorem zc_flat_at {α : Type} (g : Nat → List α) {c r : Nat} : ∀ {m : Nat}, c < m → r < (g c).length → ((List.range m).flatMap g)[zc_sm c (fun c => (g c).length) + r]? = (g c)[r]? := by
  intro m
  induction m with
  | zero => intro h; omega
  | succ m ih =>
    intro h hr
    rw [List.range_succ, List.flatMap_append]
    by_cases hc : c < m
    · have hl : zc_sm c (fun c => (g c).length) + r < ((List.range m).flatMap g).length := by
        rw [zc_len_flat]
        have : ∀ m, c < m → zc_sm c (fun c => (g c).length) + (g c).length ≤ zc_sm m (fun c => (g c).length) := by
          intro m hm
          induction hm with
          | refl => exact Nat.le_refl _
          | step _ ih2 => exact Nat.le_trans ih2 (Nat.le_add_right _ _)
        have := this m hc
        omega
      rw [List.getElem?_append_left hl]
      exact ih hc hr
    · have hcm : c = m := by omega
      subst hcm
      rw [List.getElem?_append_right (by rw [zc_len_flat]; omega), zc_len_flat]
      simp
