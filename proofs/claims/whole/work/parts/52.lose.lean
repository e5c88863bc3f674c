abbrev C3 : Type := (Nat → Int32) × Int32 × Int32
/-- what a company loses: on the ground of a place (some p), or to the river (none) -/
def c_lose (C : C3) (i : Nat) (n : Int32) (q : Option Nat) : C3 :=
  let g := C.1 (23 + 7 * i + 2)
  let v := sa_min n g
  let K1 := va_up C.1 (23 + 7 * i + 2) (g - v)
  let K2 := va_up K1 (q.getD 19) (C.1 (q.getD 19) + v)
  if g - v = 0 then
    (va_up (match q with | none => K2 | some p => va_up K2 (8 + p) (C.1 (8 + p) ||| C.1 (23 + 7 * i + 5))) (23 + 7 * i + 5) 0, C.2.1 + v, C.2.2 + 1)
  else (K2, C.2.1 + v, C.2.2)
/-- the state: the camp as C says, outside S as in σ0 -/
def CS (S : List Nat) (σ0 : sa_St) (id K : Nat) (C : C3) (σ : sa_St) : Prop := Fr S σ0 σ ∧ σ.1 K = C.1 ∧ σ.1 id 1 = C.2.1 ∧ σ.1 id 2 = C.2.2
theorem nI_nn {p : Nat} (h : p < 2 ^ 31) : (nI p < 0) = False := eq_false (nI_pos h)
theorem nI_ge0 {p : Nat} (h : p < 2 ^ 31) : (0 ≤ nI p) = True := eq_true (nI_pos' h)
theorem ad0 (p : Nat) : (0 : Int32) + nI p = nI p := (nI_add 0 p).trans (by rw [Nat.zero_add])
theorem ad8 (p : Nat) : (8 : Int32) + nI p = nI (8 + p) := nI_add 8 p
theorem kx0 (i : Nat) : (23 : Int32) + nI i * 7 + 0 = nI (23 + 7 * i + 0) := kx i 0
theorem kx1 (i : Nat) : (23 : Int32) + nI i * 7 + 1 = nI (23 + 7 * i + 1) := kx i 1
theorem kx2 (i : Nat) : (23 : Int32) + nI i * 7 + 2 = nI (23 + 7 * i + 2) := kx i 2
theorem kx3 (i : Nat) : (23 : Int32) + nI i * 7 + 3 = nI (23 + 7 * i + 3) := kx i 3
theorem kx4 (i : Nat) : (23 : Int32) + nI i * 7 + 4 = nI (23 + 7 * i + 4) := kx i 4
theorem kx5 (i : Nat) : (23 : Int32) + nI i * 7 + 5 = nI (23 + 7 * i + 5) := kx i 5
theorem kx6 (i : Nat) : (23 : Int32) + nI i * 7 + 6 = nI (23 + 7 * i + 6) := kx i 6
section LOSE
variable {S : List Nat} {σ σ0 : sa_St} {id K : Nat} {C : C3}
theorem t_lose {i : Nat} {n a3 : Int32} {q : Option Nat} {Q : Unit → sa_St → Prop} (h : CA σ.2.1 id K) (hc : CS S σ0 id K C σ) (hS : K ∈ S) (hS2 : id ∈ S) (hi : i < 8) (hp : (a3 = -1 ∧ q = none) ∨ ∃ p, p < 8 ∧ a3 = nI p ∧ q = some p) (hQ : ∀ τ, CS S σ0 id K (c_lose C i n q) τ → Q () τ) : wp (f_X0_lose id (nI i) n a3) σ Q := by
  have hne := h.ne
  have hne2 := Ne.symm hne
  have hal := h.al
  obtain ⟨hs, hr, -⟩ := h
  obtain ⟨c1, c2, c3, c4⟩ := hc
  rcases hp with ⟨rfl, rfl⟩ | ⟨p, hp8, rfl, rfl⟩
  · simp (disch := omega) only [f_X0_lose, f_X0_of, f_X0_set, wp_gd, wp_bnd, wp_let, wp_jn0, wp_jn1, wp_jn2, wp_if, wp_ret, wp_rdI, wp_rdL, v_rdR, v_ldI, v_ldL, v_ldR, v_stI, v_stB, v_stZ, v_stL, wp_wrI, wp_wrL, wp_wrR, wp_wrZ, wp_retZ, v_md, v_dv, upI_2, true_and, and_true, Nat.add_sub_cancel, Nat.zero_lt_succ, Nat.succ_pos, hs, hr, hal, kx2, kx5, v_ix, nI_clamp, upI_self, upI_ne, va_up_self, va_up_ne, nI_nn, nI_ge0, ad0, ad8, c2, c3, c4]
    sorry
  · simp (disch := omega) only [f_X0_lose, f_X0_of, f_X0_set, wp_gd, wp_bnd, wp_let, wp_jn0, wp_jn1, wp_jn2, wp_if, wp_ret, wp_rdI, wp_rdL, v_rdR, v_ldI, v_ldL, v_ldR, v_stI, v_stB, v_stZ, v_stL, wp_wrI, wp_wrL, wp_wrR, wp_wrZ, wp_retZ, v_md, v_dv, upI_2, true_and, and_true, Nat.add_sub_cancel, Nat.zero_lt_succ, Nat.succ_pos, hs, hr, hal, kx2, kx5, v_ix, nI_clamp, upI_self, upI_ne, va_up_self, va_up_ne, nI_nn, nI_ge0, ad0, ad8, c2, c3, c4]
    sorry
end LOSE
