/-! TEXTS: what a law is worth, by the class: its moves on a stack -/
/-- what is done with a value: height, clamp, store, on -/
def wT (l : Nat) (j4 : Int32 → Int32 → sa_M Int32) (x3 x8 x18 : Int32) (x19 : Int64) : sa_M Int32 :=
sa_jn1 (fun (y20 : Int32) =>
sa_let ((x3 + y20) : Int32) fun x21 =>
sa_jn0 (sa_let ((x18 + 1) : Int32) fun x22 =>
j4 x21 x22) fun j436 =>
if x21 ≤ 0 then
j436
else
sa_bnd (sa_rdR 2 (18 + 3 * l) 1) fun v23 =>
sa_jn1 (fun (y24 : Int64) =>
sa_bnd (sa_stI v23 (x21 - 1) (y24.toInt32)) fun _ =>
j436) fun j434 =>
if (lg_cmp x19 1000000) ≤ 0 then
if 0 ≤ (lg_cmp x19 (-1000000)) then
j434 x19
else
j434 (-1000000)
else
j434 1000000) fun j389 =>
if 1 < x8 then
if ¬ x8 = 2 then
j389 (-1)
else
j389 0
else
j389 1
def wD (l : Nat) (j4 : Int32 → Int32 → sa_M Int32) (x3 x4 x8 x11 : Int32) (y15 y16 : Int64) : sa_M Int32 :=
sa_let (0 : Int64) fun x17 =>
sa_jn2 (fun (x18 : Int32) (x19 : Int64) =>
wT l j4 x3 x8 x18 x19) fun j367 =>
if x8 = 0 then
sa_let ((x11.toInt64) : Int64) fun x25 =>
j367 x4 x25
else
if x8 = 1 then
sa_jn1 (fun (y26 : Int64) =>
j367 x4 y26) fun j213 =>
sa_jn0 (j213 0) fun j212 =>
if x11 < 0 then
j212
else
sa_bnd (sa_len .int 17) fun v27 =>
if v27 ≤ x11 then
j212
else
sa_bnd (sa_ldI .int 17 x11) fun v28 =>
j213 (v28.toInt64)
else
if x8 = 2 then
sa_let ((1 - y16) : Int64) fun x29 =>
j367 x4 x29
else
if x8 = 3 then
sa_jn1 (fun (y30 : Int32) =>
j367 y30 x17) fun j248 =>
sa_jn0 (j248 x4) fun j247 =>
if ¬ (lg_cmp y16 0) = 0 then
j247
else
if x11 ≤ x4 then
j247
else
j248 (x11 - 1)
else
if x8 = 4 then
sa_ret ((y16.toInt32) : Int32)
else
if x8 = 5 then
sa_let ((y15 + y16) : Int64) fun x31 =>
j367 x4 x31
else
if x8 = 6 then
sa_let ((y15 - y16) : Int64) fun x32 =>
j367 x4 x32
else
if x8 = 7 then
sa_let ((y15 * y16) : Int64) fun x33 =>
j367 x4 x33
else
if x8 = 8 then
sa_jn1 (fun (y34 : Int64) =>
j367 x4 y34) fun j302 =>
if ¬ (lg_cmp y16 0) = 0 then
sa_bnd (sa_dvL y15 y16) fun v35 =>
j302 v35
else
j302 0
else
if x8 = 9 then
sa_jn1 (fun (y36 : Int32) =>
sa_jn1 (fun (y37 : Int64) =>
j367 x4 y37) fun j365 =>
if ¬ x8 = y36 then
j365 0
else
j365 1) fun j357 =>
if 0 ≤ (lg_cmp y15 y16) then
if (lg_cmp y15 y16) ≤ 0 then
j357 9
else
j357 11
else
j357 10
else
if x8 = 10 then
sa_jn1 (fun (y38 : Int32) =>
sa_jn1 (fun (y39 : Int64) =>
j367 x4 y39) fun j365 =>
if ¬ x8 = y38 then
j365 0
else
j365 1) fun j357 =>
if 0 ≤ (lg_cmp y15 y16) then
if (lg_cmp y15 y16) ≤ 0 then
j357 9
else
j357 11
else
j357 10
else
if x8 = 11 then
sa_jn1 (fun (y40 : Int32) =>
sa_jn1 (fun (y41 : Int64) =>
j367 x4 y41) fun j365 =>
if ¬ x8 = y40 then
j365 0
else
j365 1) fun j357 =>
if 0 ≤ (lg_cmp y15 y16) then
if (lg_cmp y15 y16) ≤ 0 then
j357 9
else
j357 11
else
j357 10
else
if x8 = 12 then
sa_let ((y15 &&& y16) : Int64) fun x42 =>
j367 x4 x42
else
if x8 = 13 then
sa_let ((y15 ||| y16) : Int64) fun x43 =>
j367 x4 x43
else
sa_jn1 (fun (y44 : Int32) =>
sa_jn1 (fun (y45 : Int64) =>
j367 x4 y45) fun j365 =>
if ¬ x8 = y44 then
j365 0
else
j365 1) fun j357 =>
if 0 ≤ (lg_cmp y15 y16) then
if (lg_cmp y15 y16) ≤ 0 then
j357 9
else
j357 11
else
j357 10
def wB (l : Nat) (j4 : Int32 → Int32 → sa_M Int32) (x3 x4 : Int32) : sa_M Int32 :=
sa_bnd (sa_rdI 2 (18 + 3 * l) 2) fun v5 =>
if v5 ≤ x4 then
sa_ret (0 : Int32)
else
sa_bnd (sa_rdR 2 (18 + 3 * l) 0) fun v6 =>
sa_bnd (sa_ldI .int v6 x4) fun v7 =>
sa_let ((v7 &&& 15) : Int32) fun x8 =>
sa_bnd (sa_rdR 2 (18 + 3 * l) 0) fun v9 =>
sa_bnd (sa_ldI .int v9 x4) fun v10 =>
sa_let ((v10 >>> (4 &&& 31)) : Int32) fun x11 =>
sa_bnd (sa_rdR 2 (18 + 3 * l) 1) fun v12 =>
sa_bnd (sa_len .int v12) fun v13 =>
sa_jn0 (sa_ret (0 : Int32)) fun j67 =>
if v13 ≤ x3 then
j67
else
sa_jn1 (fun (y14 : Int32) =>
if y14 ≤ x3 then
sa_jn1 (fun (y15 : Int64) =>
sa_jn1 (fun (y16 : Int64) =>
wD l j4 x3 x4 x8 x11 y15 y16) fun j106 =>
if x3 ≤ 0 then
j106 0
else
sa_bnd (sa_rdR 2 (18 + 3 * l) 1) fun v46 =>
sa_bnd (sa_ldI .int v46 (x3 - 1)) fun v47 =>
j106 (v47.toInt64)) fun j87 =>
if x3 ≤ 1 then
j87 0
else
sa_bnd (sa_rdR 2 (18 + 3 * l) 1) fun v48 =>
sa_bnd (sa_ldI .int v48 (x3 - 2)) fun v49 =>
j87 (v49.toInt64)
else
j67) fun j64 =>
if x8 < 5 then
if x8 < 2 then
j64 0
else
j64 1
else
j64 2
theorem w_worth (l : Nat) : f_X2_worth (18 + 3 * l) 17 = sa_gd 2 (18 + 3 * l) (sa_let (0 : Int32) fun x1 => sa_let (0 : Int32) fun x2 => sa_wh2 (wB l) sa_F x1 x2) := rfl
section WORTH
variable {l : Nat} {σ : sa_St} {j : Int32 → Int32 → sa_M Int32} {Q : Int32 → sa_St → Prop}
theorem sk_law1 {ρ : Nat → Nat → Nat} (h : SK ρ) {l : Nat} (hl : l < 5) : ρ (18 + 3 * l) 1 = 20 + 3 * l + 1 := by
  match l, hl with
  | 0, _ => exact sk_18_1 h
  | 1, _ => exact sk_21_1 h
  | 2, _ => exact sk_24_1 h
  | 3, _ => exact sk_27_1 h
  | 4, _ => exact sk_30_1 h
  | n + 5, hl => omega
theorem al_stk : ∀ l, l < 5 → sa_al .int (20 + 3 * l) = 32 := by
  intro l hl
  match l, hl with
  | 0, _ => rfl
  | 1, _ => rfl
  | 2, _ => rfl
  | 3, _ => rfl
  | 4, _ => rfl
  | n + 5, hl => omega
theorem mv_op {a op : Nat} (ha : a < 2 ^ 20) (ho : op < 16) : nI (16 * a + op) &&& 15 = nI op := by
  rw [pk_andN (by omega) 4 (by decide)]
  congr 1
  omega
theorem mv_arg {a op : Nat} (ha : a < 2 ^ 20) (ho : op < 16) : nI (16 * a + op) >>> ((4 : Int32) &&& 31) = nI a := by
  rw [pk_shrN (by omega) _ 4 (by decide)]
  congr 1
  omega
/-- up to what is done with the two uppermost -/
theorem w_pre {n pc s a op : Nat} (hl : l < 5) (hk : SK σ.2.1) (hsz : σ.1 (18 + 3 * l) 2 = nI n) (hn : n ≤ 241) (hpc : pc < n) (hmv : σ.1 (19 + 3 * l) pc = nI (16 * a + op)) (ha : a < 2 ^ 20) (ho : op < 16) (hs : s < 32) (hneed : (if op < 2 then 0 else if op < 5 then 1 else 2) ≤ s) (hQ : wp (wD l j (nI s) (nI pc) (nI op) (nI a) (if s ≤ 1 then 0 else (σ.1 (20 + 3 * l) (s - 2)).toInt64) (if s = 0 then 0 else (σ.1 (20 + 3 * l) (s - 1)).toInt64)) σ Q) : wp (wB l j (nI s) (nI pc)) σ Q := by
  unfold wB
  rw [wp_bnd, wp_rdI, hsz]
  refine ⟨sh_law l hl, ?_⟩
  rw [wp_if, nI_leI (by omega) (by omega)]
  refine ⟨fun q => by omega, fun _ => ?_⟩
  rw [wp_bnd, wp_rdR (v := 19 + 3 * l) (sh_law l hl) (sk_law0 hk hl), wp_bnd, wp_ldI (n := pc) (len := 241) (al_law l hl) rfl (by omega) (by omega), hmv, wp_let, mv_op ha ho, wp_bnd, wp_rdR (v := 19 + 3 * l) (sh_law l hl) (sk_law0 hk hl), wp_bnd, wp_ldI (n := pc) (len := 241) (al_law l hl) rfl (by omega) (by omega), hmv, wp_let, mv_arg ha ho, wp_bnd, wp_rdR (v := 20 + 3 * l) (sh_law l hl) (sk_law1 hk hl), wp_bnd, wp_lenI (al_stk l hl) (by omega), wp_jn0, wp_if, nI_leI (by omega) (by omega)]
  refine ⟨fun q => by omega, fun _ => ?_⟩
  have e5 : (nI op < 5) ↔ op < 5 := nI_ltI (a := op) (b := 5) (by omega) (by omega)
  have e2 : (nI op < 2) ↔ op < 2 := nI_ltI (a := op) (b := 2) (by omega) (by omega)
  have s0 : (nI s ≤ 0) ↔ s ≤ 0 := nI_leI (a := s) (b := 0) (by omega) (by omega)
  have s1 : (nI s ≤ 1) ↔ s ≤ 1 := nI_leI (a := s) (b := 1) (by omega) (by omega)
  have go : wp (sa_jn1 (fun (y15 : Int64) =>
sa_jn1 (fun (y16 : Int64) =>
wD l j (nI s) (nI pc) (nI op) (nI a) y15 y16) fun j106 =>
if nI s ≤ 0 then
j106 0
else
sa_bnd (sa_rdR 2 (18 + 3 * l) 1) fun v46 =>
sa_bnd (sa_ldI .int v46 (nI s - 1)) fun v47 =>
j106 (v47.toInt64)) fun j87 =>
if nI s ≤ 1 then
j87 0
else
sa_bnd (sa_rdR 2 (18 + 3 * l) 1) fun v48 =>
sa_bnd (sa_ldI .int v48 (nI s - 2)) fun v49 =>
j87 (v49.toInt64)) σ Q := by
    have low : ∀ y15 : Int64, y15 = (if s ≤ 1 then 0 else (σ.1 (20 + 3 * l) (s - 2)).toInt64) → wp (sa_jn1 (fun (y16 : Int64) =>
wD l j (nI s) (nI pc) (nI op) (nI a) y15 y16) fun j106 =>
if nI s ≤ 0 then
j106 0
else
sa_bnd (sa_rdR 2 (18 + 3 * l) 1) fun v46 =>
sa_bnd (sa_ldI .int v46 (nI s - 1)) fun v47 =>
j106 (v47.toInt64)) σ Q := by
      intro y15 hy
      rw [← hy] at hQ
      rw [wp_jn1, wp_if, s0]
      refine ⟨fun c => ?_, fun c => ?_⟩
      · rw [if_pos (by omega)] at hQ
        exact hQ
      · rw [if_neg (by omega)] at hQ
        have es : nI s - 1 = nI (s - 1) := pk_sub (a := s) (b := 1) (by omega)
        rw [wp_bnd, wp_rdR (v := 20 + 3 * l) (sh_law l hl) (sk_law1 hk hl), wp_bnd, es, wp_ldI (n := s - 1) (len := 32) (al_stk l hl) rfl (by omega) (by omega)]
        exact hQ
    rw [wp_jn1, wp_if, s1]
    refine ⟨fun c => ?_, fun c => ?_⟩
    · exact low 0 (by rw [if_pos c])
    · have es : nI s - 2 = nI (s - 2) := pk_sub (a := s) (b := 2) (by omega)
      rw [wp_bnd, wp_rdR (v := 20 + 3 * l) (sh_law l hl) (sk_law1 hk hl), wp_bnd, es, wp_ldI (n := s - 2) (len := 32) (al_stk l hl) rfl (by omega) (by omega)]
      exact low _ (by rw [if_neg c])
  rw [wp_jn1, wp_if, e5]
  refine ⟨fun c5 => ?_, fun c5 => ?_⟩
  · rw [wp_if, e2]
    refine ⟨fun c2 => ?_, fun c2 => ?_⟩
    · rw [wp_if]
      exact ⟨fun _ => go, fun q => absurd (show (0 : Int32) ≤ nI s from nI_le (a := 0) (b := s) (by omega) (by omega)) q⟩
    · rw [if_neg c2, if_pos c5] at hneed
      rw [wp_if]
      exact ⟨fun _ => go, fun q => absurd (show (1 : Int32) ≤ nI s from nI_le (a := 1) (b := s) (by omega) (by omega)) q⟩
  · rw [if_neg (by omega), if_neg c5] at hneed
    rw [wp_if]
    exact ⟨fun _ => go, fun q => absurd (show (2 : Int32) ≤ nI s from nI_le (a := 2) (b := s) (by omega) (by omega)) q⟩
end WORTH
