abbrev C3 : Type := (Nat → Int32) × Int32 × Int32
/-- what a company loses: on the ground of a place (some p), or to the river (none) -/
def c_lose (C : C3) (i : Nat) (n : Int32) (q : Option Nat) : C3 :=
  let g := C.1 (23 + 7 * i + 2)
  let v := sa_min n g
  let K1 := va_up C.1 (23 + 7 * i + 2) (g - v)
  let K2 := va_up K1 (q.getD 19) (C.1 (q.getD 19) + v)
  if g - v = 0 then
    (va_up (match q with | none => K2 | some p => va_up K2 (8 + p) (C.1 (8 + p) ||| C.1 (23 + 7 * i + 5))) (23 + 7 * i + 5) 0, C.2.1 + v, C.2.2 + 1)
  else (K2, C.2.1 + v, C.2.2)
/-- the state: the camp as C says, outside S as in σ0 -/
def CS (S : List Nat) (σ0 : sa_St) (id K : Nat) (C : C3) (σ : sa_St) : Prop := Fr S σ0 σ ∧ σ.1 K = C.1 ∧ σ.1 id 1 = C.2.1 ∧ σ.1 id 2 = C.2.2
theorem ad8 (p : Nat) : (8 : Int32) + nI p = nI (8 + p) := nI_add 8 p
theorem kx0 (i : Nat) : (23 : Int32) + nI i * 7 + 0 = nI (23 + 7 * i + 0) := kx i 0
theorem kx1 (i : Nat) : (23 : Int32) + nI i * 7 + 1 = nI (23 + 7 * i + 1) := kx i 1
theorem kx2 (i : Nat) : (23 : Int32) + nI i * 7 + 2 = nI (23 + 7 * i + 2) := kx i 2
theorem kx3 (i : Nat) : (23 : Int32) + nI i * 7 + 3 = nI (23 + 7 * i + 3) := kx i 3
theorem kx4 (i : Nat) : (23 : Int32) + nI i * 7 + 4 = nI (23 + 7 * i + 4) := kx i 4
theorem kx5 (i : Nat) : (23 : Int32) + nI i * 7 + 5 = nI (23 + 7 * i + 5) := kx i 5
theorem kx6 (i : Nat) : (23 : Int32) + nI i * 7 + 6 = nI (23 + 7 * i + 6) := kx i 6
section LOSE
variable {S : List Nat} {σ σ0 : sa_St} {id K : Nat} {C : C3}
theorem w_lose {i : Nat} {n a3 : Int32} {q : Option Nat} {Q : Unit → sa_St → Prop} (h : CA σ.2.1 id K) (hc : CS S σ0 id K C σ) (hS : K ∈ S) (hS2 : id ∈ S) (hi : i < 8) (hp : (a3 = -1 ∧ q = none) ∨ ∃ p, p < 8 ∧ a3 = nI p ∧ q = some p) (hQ : ∀ τ, CS S σ0 id K (c_lose C i n q) τ → Q () τ) : wp (f_X0_lose id (nI i) n a3) σ Q := by
  have hne := h.ne
  have hne2 := Ne.symm hne
  have hal := h.al
  obtain ⟨hs, hr, -⟩ := h
  obtain ⟨c1, c2, c3, c4⟩ := hc
  rcases hp with ⟨rfl, rfl⟩ | ⟨p, hp8, rfl, rfl⟩
  · simp (disch := omega) only [f_X0_lose, f_X0_of, f_X0_set, wp_gd, wp_bnd, wp_let, wp_jn0, wp_jn1, wp_jn2, wp_if, wp_ret, wp_rdI, wp_rdL, v_rdR, v_ldI, v_ldL, v_ldR, v_stI, v_stB, v_stZ, v_stL, wp_wrI, wp_wrL, wp_wrR, wp_wrZ, wp_retZ, v_md, v_dv, v_tb, upI_2, true_and, and_true, Nat.add_sub_cancel, Nat.zero_lt_succ, Nat.succ_pos, okN, clN, ok0, cl0, ok1, cl1, ok2, cl2, ok3, cl3, ok4, cl4, ok5, cl5, ok6, cl6, ok7, cl7, ok8, cl8, ok9, cl9, ok10, cl10, ok11, cl11, ok12, cl12, ok13, cl13, ok14, cl14, ok15, cl15, ok16, cl16, ok17, cl17, ok18, cl18, ok19, cl19, ok20, cl20, ok21, cl21, ok22, cl22, ok23, cl23, ok24, cl24, ok75, cl75, ok76, cl76, ok77, cl77, ok78, cl78, ok79, cl79, ok80, cl80, nI_nn, nI_ge0, m1_lt, m1_ge, e00, e10, e01, e11, ad0, true_imp_iff, false_imp_iff, not_true_eq_false, not_false_eq_true, false_or, or_false, true_or, or_true, false_and, and_false, Decidable.not_not, reduceIte, if_true, if_false, upI_self, upI_ne, va_up_self, va_up_ne, hs, hr, hal, kx2, kx5, ad8, c2, c3, c4]
    refine ⟨fun hz => hQ _ ?_, fun hz => hQ _ ?_⟩
    · have e : c_lose C i n none = (va_up (va_up C.1 (23 + 7 * i + 2) (C.1 (23 + 7 * i + 2) - sa_min n (C.1 (23 + 7 * i + 2)))) 19 (C.1 19 + sa_min n (C.1 (23 + 7 * i + 2))), C.2.1 + sa_min n (C.1 (23 + 7 * i + 2)), C.2.2) := if_neg hz
      rw [e]
      refine ⟨Fr.up (Fr.up (Fr.up c1 hS) hS) hS2, ?_⟩
      simp (disch := omega) only [wp_gd, wp_bnd, wp_let, wp_jn0, wp_jn1, wp_jn2, wp_if, wp_ret, wp_rdI, wp_rdL, v_rdR, v_ldI, v_ldL, v_ldR, v_stI, v_stB, v_stZ, v_stL, wp_wrI, wp_wrL, wp_wrR, wp_wrZ, wp_retZ, v_md, v_dv, v_tb, upI_2, true_and, and_true, Nat.add_sub_cancel, Nat.zero_lt_succ, Nat.succ_pos, okN, clN, ok0, cl0, ok1, cl1, ok2, cl2, ok3, cl3, ok4, cl4, ok5, cl5, ok6, cl6, ok7, cl7, ok8, cl8, ok9, cl9, ok10, cl10, ok11, cl11, ok12, cl12, ok13, cl13, ok14, cl14, ok15, cl15, ok16, cl16, ok17, cl17, ok18, cl18, ok19, cl19, ok20, cl20, ok21, cl21, ok22, cl22, ok23, cl23, ok24, cl24, ok75, cl75, ok76, cl76, ok77, cl77, ok78, cl78, ok79, cl79, ok80, cl80, nI_nn, nI_ge0, m1_lt, m1_ge, e00, e10, e01, e11, ad0, true_imp_iff, false_imp_iff, not_true_eq_false, not_false_eq_true, false_or, or_false, true_or, or_true, false_and, and_false, Decidable.not_not, reduceIte, if_true, if_false, upI_self, upI_ne, va_up_self, va_up_ne, c2, c3, c4]
    · have e : c_lose C i n none = (va_up (va_up (va_up C.1 (23 + 7 * i + 2) (C.1 (23 + 7 * i + 2) - sa_min n (C.1 (23 + 7 * i + 2)))) 19 (C.1 19 + sa_min n (C.1 (23 + 7 * i + 2)))) (23 + 7 * i + 5) 0, C.2.1 + sa_min n (C.1 (23 + 7 * i + 2)), C.2.2 + 1) := if_pos hz
      rw [e]
      refine ⟨Fr.up (Fr.up (Fr.up (Fr.up (Fr.up c1 hS) hS) hS2) hS2) hS, ?_⟩
      simp (disch := omega) only [wp_gd, wp_bnd, wp_let, wp_jn0, wp_jn1, wp_jn2, wp_if, wp_ret, wp_rdI, wp_rdL, v_rdR, v_ldI, v_ldL, v_ldR, v_stI, v_stB, v_stZ, v_stL, wp_wrI, wp_wrL, wp_wrR, wp_wrZ, wp_retZ, v_md, v_dv, v_tb, upI_2, true_and, and_true, Nat.add_sub_cancel, Nat.zero_lt_succ, Nat.succ_pos, okN, clN, ok0, cl0, ok1, cl1, ok2, cl2, ok3, cl3, ok4, cl4, ok5, cl5, ok6, cl6, ok7, cl7, ok8, cl8, ok9, cl9, ok10, cl10, ok11, cl11, ok12, cl12, ok13, cl13, ok14, cl14, ok15, cl15, ok16, cl16, ok17, cl17, ok18, cl18, ok19, cl19, ok20, cl20, ok21, cl21, ok22, cl22, ok23, cl23, ok24, cl24, ok75, cl75, ok76, cl76, ok77, cl77, ok78, cl78, ok79, cl79, ok80, cl80, nI_nn, nI_ge0, m1_lt, m1_ge, e00, e10, e01, e11, ad0, true_imp_iff, false_imp_iff, not_true_eq_false, not_false_eq_true, false_or, or_false, true_or, or_true, false_and, and_false, Decidable.not_not, reduceIte, if_true, if_false, upI_self, upI_ne, va_up_self, va_up_ne, c2, c3, c4]
  · simp (disch := omega) only [f_X0_lose, f_X0_of, f_X0_set, wp_gd, wp_bnd, wp_let, wp_jn0, wp_jn1, wp_jn2, wp_if, wp_ret, wp_rdI, wp_rdL, v_rdR, v_ldI, v_ldL, v_ldR, v_stI, v_stB, v_stZ, v_stL, wp_wrI, wp_wrL, wp_wrR, wp_wrZ, wp_retZ, v_md, v_dv, v_tb, upI_2, true_and, and_true, Nat.add_sub_cancel, Nat.zero_lt_succ, Nat.succ_pos, okN, clN, ok0, cl0, ok1, cl1, ok2, cl2, ok3, cl3, ok4, cl4, ok5, cl5, ok6, cl6, ok7, cl7, ok8, cl8, ok9, cl9, ok10, cl10, ok11, cl11, ok12, cl12, ok13, cl13, ok14, cl14, ok15, cl15, ok16, cl16, ok17, cl17, ok18, cl18, ok19, cl19, ok20, cl20, ok21, cl21, ok22, cl22, ok23, cl23, ok24, cl24, ok75, cl75, ok76, cl76, ok77, cl77, ok78, cl78, ok79, cl79, ok80, cl80, nI_nn, nI_ge0, m1_lt, m1_ge, e00, e10, e01, e11, ad0, true_imp_iff, false_imp_iff, not_true_eq_false, not_false_eq_true, false_or, or_false, true_or, or_true, false_and, and_false, Decidable.not_not, reduceIte, if_true, if_false, upI_self, upI_ne, va_up_self, va_up_ne, hs, hr, hal, kx2, kx5, ad8, c2, c3, c4]
    refine ⟨fun hz => hQ _ ?_, fun hz => hQ _ ?_⟩
    · have e : c_lose C i n (some p) = (va_up (va_up C.1 (23 + 7 * i + 2) (C.1 (23 + 7 * i + 2) - sa_min n (C.1 (23 + 7 * i + 2)))) p (C.1 p + sa_min n (C.1 (23 + 7 * i + 2))), C.2.1 + sa_min n (C.1 (23 + 7 * i + 2)), C.2.2) := if_neg hz
      rw [e]
      refine ⟨Fr.up (Fr.up (Fr.up c1 hS) hS) hS2, ?_⟩
      simp (disch := omega) only [wp_gd, wp_bnd, wp_let, wp_jn0, wp_jn1, wp_jn2, wp_if, wp_ret, wp_rdI, wp_rdL, v_rdR, v_ldI, v_ldL, v_ldR, v_stI, v_stB, v_stZ, v_stL, wp_wrI, wp_wrL, wp_wrR, wp_wrZ, wp_retZ, v_md, v_dv, v_tb, upI_2, true_and, and_true, Nat.add_sub_cancel, Nat.zero_lt_succ, Nat.succ_pos, okN, clN, ok0, cl0, ok1, cl1, ok2, cl2, ok3, cl3, ok4, cl4, ok5, cl5, ok6, cl6, ok7, cl7, ok8, cl8, ok9, cl9, ok10, cl10, ok11, cl11, ok12, cl12, ok13, cl13, ok14, cl14, ok15, cl15, ok16, cl16, ok17, cl17, ok18, cl18, ok19, cl19, ok20, cl20, ok21, cl21, ok22, cl22, ok23, cl23, ok24, cl24, ok75, cl75, ok76, cl76, ok77, cl77, ok78, cl78, ok79, cl79, ok80, cl80, nI_nn, nI_ge0, m1_lt, m1_ge, e00, e10, e01, e11, ad0, true_imp_iff, false_imp_iff, not_true_eq_false, not_false_eq_true, false_or, or_false, true_or, or_true, false_and, and_false, Decidable.not_not, reduceIte, if_true, if_false, upI_self, upI_ne, va_up_self, va_up_ne, c2, c3, c4]
    · have e : c_lose C i n (some p) = (va_up (va_up (va_up (va_up C.1 (23 + 7 * i + 2) (C.1 (23 + 7 * i + 2) - sa_min n (C.1 (23 + 7 * i + 2)))) p (C.1 p + sa_min n (C.1 (23 + 7 * i + 2)))) (8 + p) (C.1 (8 + p) ||| C.1 (23 + 7 * i + 5))) (23 + 7 * i + 5) 0, C.2.1 + sa_min n (C.1 (23 + 7 * i + 2)), C.2.2 + 1) := if_pos hz
      rw [e]
      refine ⟨Fr.up (Fr.up (Fr.up (Fr.up (Fr.up (Fr.up c1 hS) hS) hS2) hS2) hS) hS, ?_⟩
      simp (disch := omega) only [wp_gd, wp_bnd, wp_let, wp_jn0, wp_jn1, wp_jn2, wp_if, wp_ret, wp_rdI, wp_rdL, v_rdR, v_ldI, v_ldL, v_ldR, v_stI, v_stB, v_stZ, v_stL, wp_wrI, wp_wrL, wp_wrR, wp_wrZ, wp_retZ, v_md, v_dv, v_tb, upI_2, true_and, and_true, Nat.add_sub_cancel, Nat.zero_lt_succ, Nat.succ_pos, okN, clN, ok0, cl0, ok1, cl1, ok2, cl2, ok3, cl3, ok4, cl4, ok5, cl5, ok6, cl6, ok7, cl7, ok8, cl8, ok9, cl9, ok10, cl10, ok11, cl11, ok12, cl12, ok13, cl13, ok14, cl14, ok15, cl15, ok16, cl16, ok17, cl17, ok18, cl18, ok19, cl19, ok20, cl20, ok21, cl21, ok22, cl22, ok23, cl23, ok24, cl24, ok75, cl75, ok76, cl76, ok77, cl77, ok78, cl78, ok79, cl79, ok80, cl80, nI_nn, nI_ge0, m1_lt, m1_ge, e00, e10, e01, e11, ad0, true_imp_iff, false_imp_iff, not_true_eq_false, not_false_eq_true, false_or, or_false, true_or, or_true, false_and, and_false, Decidable.not_not, reduceIte, if_true, if_false, upI_self, upI_ne, va_up_self, va_up_ne, c2, c3, c4]
end LOSE
