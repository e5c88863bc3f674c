/-! TEXTS: lands, by the class: items and clauses -/
theorem wp_cpT {j a sn dn nn l0 l1 : Nat} {σ : sa_St} {Q : Unit → sa_St → Prop} (h0 : (sa_row j).length = l0) (h1 : sa_al .int a = l1) (k0 : sn + nn ≤ l0) (k1 : dn + nn ≤ l1) (p0 : l0 < 2 ^ 31) (p1 : 0 < l1 ∧ l1 < 2 ^ 31) : wp (sa_cpT j (nI sn) a (nI dn) (nI nn)) σ Q ↔ Q () (va_up σ.1 a (va_cpy (fun i => (sa_row j).getD i 0) (σ.1 a) sn dn nn), σ.2) := by
  refine wp_of_eq ?_
  unfold sa_cpT
  rw [h0, h1, nI_clamp (by omega), nI_clamp (by omega), nI_clamp (by omega), if_neg]
  rintro (h | h | h | h | h | h)
  · exact nI_pos (by omega) h
  · exact nI_pos (by omega) h
  · exact nI_pos (by omega) h
  all_goals omega
theorem row_cnt : ∀ k, k < 4 → (sa_row 1).getD k 0 = nI (cntI k) ∧ (sa_row 0).getD k 0 = nI (mxK k) := by decide
theorem row_lh : ∀ n, n < 20 → (sa_row 2).getD n 0 = nI (([0, 0, 0, 0, 0, 0, 0, 1, 0, 0, 0, 1, 0, 0, 0, 0, 0, 0, 0, 0] : List Nat).getD n 0) ∧ (sa_row 3).getD n 0 = nI (([9, 1, 99, 9, 0, 7, 7, 9, 9, 0, 7, 99, 9, 3, 15, 7, 9, 0, 0, 0] : List Nat).getD n 0) ∧ (sa_row 4).getD n 0 = nI (([0, 0, 20, 0, 0, 0, 1, 1, 0, 0, 0, 50, 5, 0, 0, 0, 2, 0, 0, 0] : List Nat).getD n 0) := by decide
theorem byt_it : ∀ k, k < 4 → ∀ i, i < cntI k → (sa_byt.getD 2 []).getD (5 * k + i) 0 = (sa_byt.getD (6 + k) []).getD i 0 := by decide
theorem mx12 : ∀ k, k < 4 → mxK k ≤ 12 ∧ 2 ≤ mxK k := by decide
theorem sh_D {D : Nat} (h : D = 3 ∨ D = 9) : sa_sh D = some (.inl 1) := by rcases h with rfl | rfl <;> rfl
theorem al_D1 {D : Nat} (h : D = 3 ∨ D = 9) : sa_al .int (D + 1) = 4 := by rcases h with rfl | rfl <;> rfl
theorem al_D2 {D : Nat} (h : D = 3 ∨ D = 9) : sa_al .int (D + 2) = 240 := by rcases h with rfl | rfl <;> rfl
theorem sk_D0 {D : Nat} {ρ : Nat → Nat → Nat} (h : D = 3 ∨ D = 9) (hk : SK ρ) : ρ D 0 = D + 1 + 1 := by
  rcases h with rfl | rfl
  · exact sk_3_0 hk
  · exact sk_9_0 hk
theorem sk_D1 {D : Nat} {ρ : Nat → Nat → Nat} (h : D = 3 ∨ D = 9) (hk : SK ρ) : ρ D 1 = D + 2 + 1 := by
  rcases h with rfl | rfl
  · exact sk_3_1 hk
  · exact sk_9_1 hk
theorem ix5 (k i : Nat) : nI k * 5 + nI i = nI (5 * k + i) := by
  have e : nI k * 5 = nI (k * 5) := pk_mul k 5
  rw [e, nI_add, Nat.mul_comm]
theorem ix60 (k x : Nat) : (nI k * 12 + nI x) * 5 = nI (60 * k + 5 * x) := by
  have e1 : nI k * 12 = nI (k * 12) := pk_mul k 12
  have e2 : nI (k * 12 + x) * 5 = nI ((k * 12 + x) * 5) := pk_mul (k * 12 + x) 5
  rw [e1, nI_add, e2]
  congr 1
  omega
theorem c_item {k c : Nat} {σ : sa_St} (hk : k < 4) (hc : c < 256) : f_X1_itemOf (nI k) (nI c) σ = some (oI (ixS (6 + k) c), σ) := by
  obtain ⟨c5, -, hsl⟩ := cnt5 k hk
  refine run_of ?_
  unfold f_X1_itemOf
  rw [wp_let]
  refine wp_for1 (cntI k) 0 (fun i τ => τ = σ ∧ ∀ y, y < i → ¬ (sa_byt.getD (6 + k) []).getD y 0 = nI c) ?_ ?_ ⟨rfl, fun y hy => by omega⟩ (Nat.zero_le _) (by unfold sa_F; omega)
  · rintro i τ hi ⟨rfl, hn⟩ j hj
    have ei : 5 * k + i < sa_slen.getD 2 0 := by
      have : sa_slen.getD 2 0 = 20 := rfl
      omega
    rw [wp_bnd, wp_tb (n := k) rfl (show k < (sa_row 1).length from hk) (by decide), (row_cnt k hk).1, wp_if]
    refine ⟨fun q => absurd q (nI_ge hi (by omega)), fun _ => ?_⟩
    rw [wp_bnd, ix5, wp_of_eq (e_chr (j := 2) (by omega) ei), byt_it k hk i hi, wp_if]
    refine ⟨fun q => ?_, fun q => ?_⟩
    · rw [wp_let, nI_1]
      refine hj _ ⟨rfl, fun y hy => ?_⟩
      by_cases e : y = i
      · subst e; exact q
      · exact hn y (by omega)
    · have q' := Decidable.not_not.mp q
      rw [wp_ret]
      refine ⟨?_, rfl⟩
      unfold ixS
      rw [hsl]
      rcases find_range (p := fun i => decide ((sa_byt.getD (6 + k) []).getD i 0 = nI c)) (cntI k) with ⟨-, h2⟩ | ⟨k2, h1, h2, h3, h4⟩
      · exact absurd q' (of_decide_eq_false (h2 i hi))
      · rw [h2]
        have : k2 = i := by
          rcases Nat.lt_trichotomy k2 i with h | h | h
          · exact absurd (of_decide_eq_true h3) (hn k2 h)
          · exact h
          · exact absurd q' (of_decide_eq_false (h4 i h))
        rw [this]
        rfl
  · rintro τ ⟨rfl, hn⟩ j
    rw [wp_bnd, wp_tb (n := k) rfl (show k < (sa_row 1).length from hk) (by decide), (row_cnt k hk).1, wp_if]
    refine ⟨fun _ => ?_, fun q => absurd (nI_le (Nat.le_refl _) (by omega)) q⟩
    rw [wp_ret]
    refine ⟨?_, rfl⟩
    unfold ixS
    rw [hsl]
    rcases find_range (p := fun i => decide ((sa_byt.getD (6 + k) []).getD i 0 = nI c)) (cntI k) with ⟨h1, -⟩ | ⟨k2, h1, -, h3, -⟩
    · rw [h1]; rfl
    · exact absurd (of_decide_eq_true h3) (hn k2 h1)
/-- the body of the loop over items -/
def lB (D : Nat) (v2 x8 : Int32) (j79 : Int32 → Int32 → sa_M Int32) (x14 x15 : Int32) : sa_M Int32 :=
if 5 < x15 then
sa_retZ 0
else
sa_bnd (f_X7_sign 1) fun v16 =>
sa_bnd (f_X1_itemOf v2 v16) fun v17 =>
sa_jn0 (sa_jn1 (fun (y18 : Int32) =>
sa_retZ y18) fun j121 =>
if 0 ≤ v17 then
j121 0
else
j121 1) fun j111 =>
if v17 < 0 then
j111
else
if ¬ ((x14 >>> (v17 &&& 31)) &&& 1) = 1 then
sa_let ((x14 ||| (1 <<< (v17 &&& 31))) : Int32) fun x19 =>
sa_bnd (f_X7_pass 1) fun _ =>
sa_bnd (sa_tb 2 ((v2 * 5) + v17)) fun v20 =>
sa_bnd (sa_tb 3 ((v2 * 5) + v17)) fun v21 =>
sa_bnd (f_X7_takeNumber 1 2 v20 v21) fun v22 =>
if 0 ≤ v22 then
sa_bnd (sa_rdR 1 D 1) fun v23 =>
sa_bnd (sa_stI v23 (x8 + v17) v22) fun _ =>
sa_let ((x15 + 1) : Int32) fun x24 =>
j79 x19 x24
else
sa_retZ 0
else
j111
theorem w_lclause (D : Nat) : f_X1_readClause D 1 = sa_gd 1 D (
sa_bnd (f_X7_sign 1) fun v1 =>
sa_bnd (f_J0_indexOf_0f7a4 (1000 + 1) v1) fun v2 =>
sa_jn0 (sa_retZ 0) fun j28 =>
if v2 < 0 then
j28
else
sa_bnd (sa_rdR 1 D 0) fun v3 =>
sa_bnd (sa_ldI .int v3 v2) fun v4 =>
sa_bnd (sa_tb 0 v2) fun v5 =>
if v4 < v5 then
sa_bnd (f_X7_pass 1) fun _ =>
sa_bnd (sa_rdR 1 D 0) fun v6 =>
sa_bnd (sa_ldI .int v6 v2) fun v7 =>
sa_let ((((v2 * 12) + v7) * 5) : Int32) fun x8 =>
sa_bnd (sa_rdR 1 D 1) fun v9 =>
sa_bnd (sa_cpT 4 (v2 * 5) v9 x8 5) fun _ =>
sa_bnd (sa_rdR 1 D 0) fun v10 =>
sa_bnd (sa_ldI .int v10 v2) fun v11 =>
sa_bnd (sa_stI v10 v2 (v11 + 1)) fun _ =>
sa_let (0 : Int32) fun x12 =>
sa_let (0 : Int32) fun x13 =>
sa_wh2 (lB D v2 x8) sa_F x12 x13
else
j28) := rfl
section CLAND
variable {T : Nat → Nat} {N D p : Nat} {σ : sa_St}
theorem c_items {k b : Nat} (hD : D = 3 ∨ D = 9) (hk : k < 4) (ct : CTp T N σ) (hp : p ≤ N) (h2 : σ.1 1 2 = nI p) (hb : b + 5 ≤ 240) (hus : ∀ i, i < 5 → σ.1 (D + 2) (b + i) = nI (usI k i)) : wp (sa_wh2 (lB D (nI k) (nI b)) sa_F 0 0) σ (fun r τ => TFr (D + 1) (D + 2) σ τ ∧ τ.1 1 2 = nI (itP T N k p).1 ∧ τ.1 (D + 1) = σ.1 (D + 1) ∧ (∀ j, j < b ∨ b + 5 ≤ j → τ.1 (D + 2) j = σ.1 (D + 2) j) ∧ match (itP T N k p).2 with
    | none => r = 0
    | some v => r = 1 ∧ ∀ i, i < 5 → τ.1 (D + 2) (b + i) = v i) := by
  have h240 := ct.2.1
  have c5 := (cnt5 k hk).1
  refine wp_wh2 (fun f x14 x15 τ => ∃ (q m : Nat) (v : Nat → Int32), x14 = nI m ∧ x15 = nI (pc m) ∧ m < 32 ∧ f + pc m = 6 ∧ q ≤ N ∧ TFr (D + 1) (D + 2) σ τ ∧ τ.1 1 2 = nI q ∧ τ.1 (D + 1) = σ.1 (D + 1) ∧ (∀ j, j < b ∨ b + 5 ≤ j → τ.1 (D + 2) j = σ.1 (D + 2) j) ∧ (∀ i, i < 5 → τ.1 (D + 2) (b + i) = v i) ∧ itL T N k f q m v = itP T N k p) ?_ sa_F 6 0 0 σ (by unfold sa_F; omega) ⟨p, 0, fun i => nI (usI k i), rfl, rfl, by omega, rfl, hp, TFr.rfl', h2, rfl, fun _ _ => rfl, hus, rfl⟩
  rintro f x14 x15 τ ⟨q, m, v, rfl, rfl, hm, hf, hq, fr, hpos, hcn, hout, hrow, hc⟩ j hj
  have h5 := pc_le m hm
  obtain ⟨f, rfl⟩ : ∃ f', f = f' + 1 := ⟨f - 1, by omega⟩
  have hst := itL_st (T := T) (N := N) (p := q) (k := k) (f := f) (m := m) (v := v)
  rw [hc] at hst
  have ctt := ct.tf fr (by omega) (by omega)
  have hlt := sgn_lt (p := q) ctt
  have e5 : ¬ (5 : Int32) < nI (pc m) := fun h => by
    have : 5 < pc m := (nI_ltI (a := 5) (b := pc m) (by omega) (by omega)).mp h
    omega
  unfold lB
  rw [wp_if]
  refine ⟨fun q => absurd q e5, fun _ => ?_⟩
  rw [wp_bnd, wp_of_eq (c_sign ctt hq hpos), wp_bnd, wp_of_eq (c_item hk hlt), wp_jn0, wp_if]
  cases hi : ixS (6 + k) (sgn T N q) with
  | none =>
    refine ⟨fun _ => ?_, fun q => absurd (show oI none < 0 by decide) q⟩
    rw [wp_jn1, wp_if]
    refine ⟨fun q => absurd q (show ¬ (0 : Int32) ≤ oI none by decide), fun _ => ?_⟩
    rw [wp_retZ, hst.1 hi]
    exact ⟨Or.inr rfl, fr, hpos, hcn, hout, rfl, hrow⟩
  | some i =>
    have hic : i < cntI k := by rw [← (cnt5 k hk).2.2]; exact (ix_in hi (by omega)).2
    have hin := sgn_in (c := sgn T N q) (ix_in hi (by omega)).1 rfl
    have hle := bk_le (T := T) (N := N) (p := q + 1) (by omega)
    obtain ⟨hs1, hs2⟩ := hst.2 i hi
    refine ⟨fun q => absurd q (nI_pos (by omega)), fun _ => ?_⟩
    show wp (if ¬ ((nI m >>> (nI i &&& 31)) &&& 1) = 1 then _ else _) τ _
    rw [wp_if, bt_I m hm i (by omega)]
    cases hbt : bt m i with
    | true =>
      refine ⟨fun q => absurd rfl q, fun _ => ?_⟩
      rw [wp_jn1, wp_if]
      refine ⟨fun _ => ?_, fun q => absurd (show (0 : Int32) ≤ nI i from nI_le (a := 0) (b := i) (by omega) (by omega)) q⟩
      rw [wp_retZ, hs1 hbt]
      exact ⟨Or.inl rfl, fr, hpos, hcn, hout, rfl⟩
    | false =>
      obtain ⟨hs3, hs4⟩ := hs2 hbt
      obtain ⟨pa1, pa2⟩ := pc_add m hm i (by omega) hbt
      have hl := row_lh (5 * k + i) (by omega)
      have h99 := hi99 k hk i (by omega)
      have e20 : (sa_row 2).getD (5 * k + i) 0 = nI (loI k i) := hl.1
      have e21 : (sa_row 3).getD (5 * k + i) 0 = nI (hiI k i) := hl.2.1
      refine ⟨fun _ => ?_, fun q => absurd (by decide) q⟩
      rw [wp_let, wp_bnd, wp_of_eq (c_pass ctt hin.1 hpos), wp_bnd]
      show wp (sa_tb 2 (nI k * 5 + nI i)) _ _
      rw [ix5, wp_tb (t := 2) (n := 5 * k + i) rfl (show 5 * k + i < 20 by omega) (by decide), e20, wp_bnd]
      show wp (sa_tb 3 (nI k * 5 + nI i)) _ _
      rw [ix5, wp_tb (t := 3) (n := 5 * k + i) rfl (show 5 * k + i < 20 by omega) (by decide), e21, wp_bnd]
      have hnum := c_number (a := 2) (lo := loI k i) (hi := hiI k i) (ctt.at (q := nI (bk T N (q + 1)))) hle (by rw [upI_self, va_up_self]) (by omega) (by omega) (by omega)
      obtain ⟨n1, n2, n3⟩ := num_adv (T := T) (lo := loI k i) (hi := hiI k i) hle (show 2 ≤ 4 by omega)
      rw [upI_two] at hnum
      rw [wp_of_eq (show f_X7_takeNumber 1 2 (nI (loI k i)) (nI (hiI k i)) _ = _ from hnum), wp_if]
      have hnn := fun n => num_in (T := T) (N := N) (p := bk T N (q + 1)) (a := 2) (lo := loI k i) (hi := hiI k i) (n := n)
      generalize numR T N (bk T N (q + 1)) 2 (loI k i) (hiI k i) = r0 at *
      obtain ⟨q1, mm⟩ := r0
      dsimp only at n1 n2 hs3 hs4 ⊢
      have fr2 : TFr (D + 1) (D + 2) σ (sa_upI τ 1 2 (nI q1)) := fr.trans TFr.at
      cases mm with
      | none =>
        refine ⟨fun q => absurd q (show ¬ (0 : Int32) ≤ oI none by decide), fun _ => ?_⟩
        rw [wp_retZ, hs3 rfl]
        refine ⟨Or.inl rfl, fr2, by rw [upI_self, va_up_self], by rw [upI_ne (by omega)]; exact hcn, fun j a => by rw [upI_ne (by omega)]; exact hout j a, rfl⟩
      | some n =>
        have hn2 := hnn n rfl
        refine ⟨fun _ => ?_, fun q => absurd (show (0 : Int32) ≤ nI n from nI_le (a := 0) (b := n) (by omega) (by omega)) q⟩
        rw [wp_bnd, wp_rdR (v := D + 2) (sh_D hD) (show (sa_upI τ 1 2 (nI q1)).2.1 D 1 = D + 2 + 1 from sk_D1 hD ctt.1), wp_bnd]
        show wp (sa_stI (D + 2) (nI b + nI i) (nI n)) _ _
        rw [nI_add, wp_stI (n := b + i) (len := 240) (al_D2 hD) rfl (by omega) (by omega), wp_let, nI_1]
        show wp (j (nI m ||| (1 <<< (nI i &&& 31))) (nI (pc m + 1))) _ _
        rw [bt_O m hm i (by omega) hbt, ← pa2]
        refine hj f _ _ _ (by omega) ⟨q1, m + 2 ^ i, va_up v i (nI n), rfl, rfl, pa1, by omega, n1, fr2.trans (TFr.b (by omega)), ?_, ?_, fun y hy => ?_, fun y hy => ?_, (hs4 n rfl).symm⟩
        · rw [upI_ne (by omega), upI_self, va_up_self]
        · rw [upI_ne (by omega), upI_ne (by omega)]; exact hcn
        · rw [upI_self, va_up_ne _ _ (by omega), upI_ne (by omega)]; exact hout y hy
        · rw [upI_self]
          by_cases e : y = i
          · subst e
            rw [va_up_self, va_up_self]
          · rw [va_up_ne _ _ (by omega), va_up_ne _ _ e, upI_ne (by omega)]
            exact hrow y hy
/-- a land's draft as the class holds it -/
def CLd (D : Nat) (l : LDr) (σ : sa_St) : Prop := (∀ k, k < 4 → σ.1 (D + 1) k = nI (l k).length) ∧ ∀ k, k < 4 → ∀ x, x < (l k).length → ∀ i, i < 5 → σ.1 (D + 2) (60 * k + 5 * x + i) = (l k).getD x (fun _ => 0) i
theorem add_len {l : LDr} {k j : Nat} {v : Nat → Int32} : (l.add k v j).length = if j = k then (l j).length + 1 else (l j).length := by
  unfold LDr.add
  split
  · rw [List.length_append, List.length_singleton]
  · rfl
theorem add_new {l : LDr} {k : Nat} {v : Nat → Int32} : (l.add k v k).getD (l k).length (fun _ => 0) = v := by
  unfold LDr.add
  rw [if_pos rfl, List.getD_eq_getElem?_getD, List.getElem?_append_right (Nat.le_refl _), Nat.sub_self]
  rfl
theorem add_old {l : LDr} {k j x : Nat} {v : Nat → Int32} (hx : x < (l j).length) : (l.add k v j).getD x (fun _ => 0) = (l j).getD x (fun _ => 0) := by
  unfold LDr.add
  split
  · rw [List.getD_eq_getElem?_getD, List.getD_eq_getElem?_getD, List.getElem?_append_left hx]
  · rfl
theorem c_lclause {l : LDr} (hD : D = 3 ∨ D = 9) (ct : CTp T N σ) (hp : p ≤ N) (h2 : σ.1 1 2 = nI p) (hl : LOk l) (hd : CLd D l σ) : wp (f_X1_readClause D 1) σ (fun r τ => TFr (D + 1) (D + 2) σ τ ∧ τ.1 1 2 = nI (lcP T N p l).1 ∧ match (lcP T N p l).2 with
    | none => r = 0
    | some x => r = 1 ∧ CLd D (l.add x.1 x.2) τ) := by
  have hlt := sgn_lt (p := p) ct
  rw [w_lclause, wp_gd]
  refine ⟨sh_D hD, ?_⟩
  rw [wp_bnd, wp_of_eq (c_sign ct hp h2), wp_bnd, wp_of_eq (e_ix (j := 1) (by omega) hlt), wp_jn0, wp_if]
  unfold lcP
  cases hi : ixS 1 (sgn T N p) with
  | none =>
    refine ⟨fun _ => ?_, fun q => absurd (show oI none < 0 by decide) q⟩
    rw [wp_retZ]
    exact ⟨Or.inl rfl, TFr.rfl', h2, rfl⟩
  | some k =>
    have hk := ix1 hi
    have hm12 := mx12 k hk
    have hlk := (hl k hk).1
    have hin := sgn_in (c := sgn T N p) (ix_in hi (by omega)).1 rfl
    have hle := bk_le (T := T) (N := N) (p := p + 1) (by omega)
    refine ⟨fun q => absurd q (nI_pos (by omega)), fun _ => ?_⟩
    show wp (sa_bnd (sa_rdR 1 D 0) fun v3 => sa_bnd (sa_ldI .int v3 (nI k)) _) σ _
    rw [wp_bnd, wp_rdR (v := D + 1) (sh_D hD) (sk_D0 hD ct.1), wp_bnd, wp_ldI (n := k) (len := 4) (al_D1 hD) rfl hk (by omega), hd.1 k hk, wp_bnd]
    show wp (sa_tb 0 (nI k)) σ _
    rw [wp_tb (n := k) rfl (show k < (sa_row 0).length from hk) (by decide), (row_cnt k hk).2, wp_if, nI_ltI (by omega) (by omega)]
    dsimp only
    refine ⟨fun c => ?_, fun c => ?_⟩
    · rw [if_pos c, wp_bnd, wp_of_eq (c_pass ct hin.1 h2)]
      have ct1 := ct.at (q := nI (bk T N (p + 1)))
      have fr1 : TFr (D + 1) (D + 2) σ (sa_upI σ 1 2 (nI (bk T N (p + 1)))) := TFr.at
      have p1 : (sa_upI σ 1 2 (nI (bk T N (p + 1)))).1 1 2 = nI (bk T N (p + 1)) := by rw [upI_self, va_up_self]
      have c1 : (sa_upI σ 1 2 (nI (bk T N (p + 1)))).1 (D + 1) = σ.1 (D + 1) := upI_ne (by omega)
      have z1 : (sa_upI σ 1 2 (nI (bk T N (p + 1)))).1 (D + 2) = σ.1 (D + 2) := upI_ne (by omega)
      generalize sa_upI σ 1 2 (nI (bk T N (p + 1))) = σ1 at *
      generalize bk T N (p + 1) = q at *
      show wp (sa_bnd (sa_rdR 1 D 0) fun v6 => sa_bnd (sa_ldI .int v6 (nI k)) _) σ1 _
      rw [wp_bnd, wp_rdR (v := D + 1) (sh_D hD) (sk_D0 hD ct1.1), wp_bnd, wp_ldI (n := k) (len := 4) (al_D1 hD) rfl hk (by omega), c1, hd.1 k hk]
      show wp (sa_let ((((nI k * 12) + nI (l k).length) * 5) : Int32) _) σ1 _
      rw [wp_let, ix60, wp_bnd, wp_rdR (v := D + 2) (sh_D hD) (sk_D1 hD ct1.1), wp_bnd]
      have e5 : nI k * 5 = nI (5 * k) := by
        have := pk_mul k 5
        rw [Nat.mul_comm] at this
        exact this
      show wp (sa_cpT 4 (nI k * 5) (D + 2) (nI (60 * k + 5 * (l k).length)) (nI 5)) σ1 _
      rw [e5, wp_cpT (l0 := 20) (l1 := 240) rfl (al_D2 hD) (by omega) (by omega) (by omega) (by omega)]
      generalize hb : 60 * k + 5 * (l k).length = b at *
      have hb5 : b + 5 ≤ 240 := by omega
      have fr2 : TFr (D + 1) (D + 2) σ (va_up σ1.1 (D + 2) (va_cpy (fun i => (sa_row 4).getD i 0) (σ1.1 (D + 2)) (5 * k) b 5), σ1.2) := fr1.trans ⟨rfl, fun j _ _ a => va_up_ne _ _ a, fun y _ => by show va_up σ1.1 (D + 2) (va_cpy (fun i => (sa_row 4).getD i 0) (σ1.1 (D + 2)) (5 * k) b 5) 1 y = σ1.1 1 y; rw [va_up_ne _ _ (by omega)]⟩
      have p2 : (va_up σ1.1 (D + 2) (va_cpy (fun i => (sa_row 4).getD i 0) (σ1.1 (D + 2)) (5 * k) b 5)) 1 2 = nI q := by rw [va_up_ne _ _ (by omega)]; exact p1
      have c2 : (va_up σ1.1 (D + 2) (va_cpy (fun i => (sa_row 4).getD i 0) (σ1.1 (D + 2)) (5 * k) b 5)) (D + 1) = σ.1 (D + 1) := by rw [va_up_ne _ _ (by omega)]; exact c1
      have z2 : (va_up σ1.1 (D + 2) (va_cpy (fun i => (sa_row 4).getD i 0) (σ1.1 (D + 2)) (5 * k) b 5)) (D + 2) = va_cpy (fun i => (sa_row 4).getD i 0) (σ.1 (D + 2)) (5 * k) b 5 := by rw [va_up_self, z1]
      have k2 : SK (va_up σ1.1 (D + 2) (va_cpy (fun i => (sa_row 4).getD i 0) (σ1.1 (D + 2)) (5 * k) b 5), σ1.2).2.1 := ct1.1
      generalize hσ2 : (va_up σ1.1 (D + 2) (va_cpy (fun i => (sa_row 4).getD i 0) (σ1.1 (D + 2)) (5 * k) b 5), σ1.2) = σ2 at fr2 k2
      have p2' : σ2.1 1 2 = nI q := by rw [← hσ2]; exact p2
      have c2' : σ2.1 (D + 1) = σ.1 (D + 1) := by rw [← hσ2]; exact c2
      have z2' : σ2.1 (D + 2) = va_cpy (fun i => (sa_row 4).getD i 0) (σ.1 (D + 2)) (5 * k) b 5 := by rw [← hσ2]; exact z2
      clear hσ2 p2 c2 z2
      show wp (sa_bnd (sa_rdR 1 D 0) fun v10 => sa_bnd (sa_ldI .int v10 (nI k)) _) σ2 _
      rw [wp_bnd, wp_rdR (v := D + 1) (sh_D hD) (sk_D0 hD k2), wp_bnd, wp_ldI (n := k) (len := 4) (al_D1 hD) rfl hk (by omega), c2', hd.1 k hk, wp_bnd]
      show wp (sa_stI (D + 1) (nI k) (nI (l k).length + 1)) σ2 _
      rw [nI_1, wp_stI (n := k) (len := 4) (al_D1 hD) rfl hk (by omega), wp_let, wp_let]
      have fr3 : TFr (D + 1) (D + 2) σ (sa_upI σ2 (D + 1) k (nI ((l k).length + 1))) := fr2.trans (TFr.a (by omega))
      have p3 : (sa_upI σ2 (D + 1) k (nI ((l k).length + 1))).1 1 2 = nI q := by rw [upI_ne (by omega)]; exact p2'
      have c3 : (sa_upI σ2 (D + 1) k (nI ((l k).length + 1))).1 (D + 1) = va_up (σ.1 (D + 1)) k (nI ((l k).length + 1)) := by rw [upI_self, c2']
      have z3 : (sa_upI σ2 (D + 1) k (nI ((l k).length + 1))).1 (D + 2) = va_cpy (fun i => (sa_row 4).getD i 0) (σ.1 (D + 2)) (5 * k) b 5 := by rw [upI_ne (by omega)]; exact z2'
      generalize sa_upI σ2 (D + 1) k (nI ((l k).length + 1)) = σ3 at *
      have ct3 := ct.tf fr3 (by omega) (by omega)
      have hus : ∀ i, i < 5 → σ3.1 (D + 2) (b + i) = nI (usI k i) := fun i hi => by
        rw [z3]
        show (if b ≤ b + i ∧ b + i < b + 5 then (sa_row 4).getD (5 * k + (b + i - b)) 0 else _) = _
        rw [if_pos (by omega), show b + i - b = i by omega]
        exact (row_lh (5 * k + i) (by omega)).2.2
      refine wp_mono (c_items hD hk ct3 hle p3 hb5 hus) (fun r τ hr => ?_)
      obtain ⟨fr4, hpos, hcn, hout, hr⟩ := hr
      generalize itP T N k q = r0 at *
      obtain ⟨q1, mm⟩ := r0
      cases mm with
      | none => exact ⟨fr3.trans fr4, hpos, hr⟩
      | some v =>
        obtain ⟨rfl, hr⟩ := hr
        refine ⟨fr3.trans fr4, hpos, rfl, fun j hj => ?_, fun j hj x hx i hi5 => ?_⟩
        · dsimp only
          rw [hcn, c3, add_len]
          by_cases e : j = k
          · subst e
            rw [va_up_self, if_pos rfl]
          · rw [va_up_ne _ _ e, if_neg e]
            exact hd.1 j hj
        · dsimp only at hx ⊢
          rw [add_len] at hx
          by_cases e : j = k ∧ x = (l k).length
          · obtain ⟨rfl, rfl⟩ := e
            rw [add_new, hb]
            exact hr i hi5
          · have hx2 : x < (l j).length := by
              by_cases e2 : j = k
              · subst e2
                rw [if_pos rfl] at hx
                omega
              · rw [if_neg e2] at hx
                exact hx
            have hm2 := mx12 j hj
            have hlj := (hl j hj).1
            have hne : 60 * j + 5 * x + i < b ∨ b + 5 ≤ 60 * j + 5 * x + i := by
              by_cases e2 : j = k
              · subst e2
                omega
              · omega
            rw [add_old hx2, hout _ hne, z3]
            show (if b ≤ 60 * j + 5 * x + i ∧ 60 * j + 5 * x + i < b + 5 then _ else σ.1 (D + 2) (60 * j + 5 * x + i)) = _
            rw [if_neg (by omega)]
            exact hd.2 j hj x hx2 i hi5
    · rw [if_neg c, wp_retZ]
      exact ⟨Or.inl rfl, TFr.rfl', h2, rfl⟩
end CLAND
