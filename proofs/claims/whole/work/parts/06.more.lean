/-! guards, texts, static rows copied, switches -/
theorem sa_gd_ok {α : Type} {ci id : Nat} {f : sa_M α} {σ τ : sa_St} {r : α} (h : sa_gd ci id f σ = some (r, τ)) : sa_sh id = some (.inl ci) := by
  unfold sa_gd at h
  by_cases hs : sa_sh id = some (.inl ci)
  · exact hs
  · rw [if_neg hs] at h
    cases h
def sa_slength (id : Nat) : sa_M Int32 := fun σ => if 1000 ≤ id ∧ id < 1010 then some (nI (sa_slen.getD (id - 1000) 0), σ) else none
def sa_scharAt (id : Nat) (i : Int32) : sa_M Int32 := fun σ => if (1000 ≤ id ∧ id < 1010) ∧ ¬ (i < 0 ∨ sa_slen.getD (id - 1000) 0 ≤ i.toNatClampNeg) then some ((sa_byt.getD (id - 1000) []).getD i.toNatClampNeg 0, σ) else none
def sa_pos (c : Int32) : List Int32 → Int32 → Int32
  | [], _ => -1
  | x :: xs, k => if x = c then k else sa_pos c xs (k + 1)
def sa_sindexOf (id : Nat) (c : Int32) : sa_M Int32 := fun σ => if 1000 ≤ id ∧ id < 1010 then some (sa_pos c (sa_byt.getD (id - 1000) []) 0, σ) else none
def sa_cpT (j : Nat) (sp : Int32) (a : Nat) (dp n : Int32) : sa_M Unit := fun σ => if sp < 0 ∨ dp < 0 ∨ n < 0 ∨ (sa_row j).length < sp.toNatClampNeg + n.toNatClampNeg ∨ sa_al .int a < dp.toNatClampNeg + n.toNatClampNeg ∨ sa_al .int a = 0 then none else some ((), (va_up σ.1 a (va_cpy (fun i => (sa_row j).getD i 0) (σ.1 a) sp.toNatClampNeg dp.toNatClampNeg n.toNatClampNeg), σ.2))
theorem sa_ne {x : Int32} {k : Int32} (h : ¬ x = k) : x.toInt ≠ k.toInt := fun q => h (Int32.toInt_inj.mp q)
theorem sa_out3 {x : Int32} (c0 : ¬ x = 0) (c1 : ¬ x = 1) (c2 : ¬ x = 2) : x.toInt < 0 ∨ 2 < x.toInt := by
  have h0 : x.toInt ≠ 0 := sa_ne c0
  have h1 : x.toInt ≠ 1 := sa_ne c1
  have h2 : x.toInt ≠ 2 := sa_ne c2
  omega
theorem sa_out4 {x : Int32} (c0 : ¬ x = 0) (c1 : ¬ x = 1) (c2 : ¬ x = 2) (c3 : ¬ x = 3) : x.toInt < 0 ∨ 3 < x.toInt := by
  have h0 : x.toInt ≠ 0 := sa_ne c0
  have h1 : x.toInt ≠ 1 := sa_ne c1
  have h2 : x.toInt ≠ 2 := sa_ne c2
  have h3 : x.toInt ≠ 3 := sa_ne c3
  omega
theorem sa_out14 {x : Int32} (c0 : ¬ x = 0) (c1 : ¬ x = 1) (c2 : ¬ x = 2) (c3 : ¬ x = 3) (c4 : ¬ x = 4) (c5 : ¬ x = 5) (c6 : ¬ x = 6) (c7 : ¬ x = 7) (c8 : ¬ x = 8) (c9 : ¬ x = 9) (c10 : ¬ x = 10) (c11 : ¬ x = 11) (c12 : ¬ x = 12) (c13 : ¬ x = 13) : x.toInt < 0 ∨ 13 < x.toInt := by
  have h0 : x.toInt ≠ 0 := sa_ne c0
  have h1 : x.toInt ≠ 1 := sa_ne c1
  have h2 : x.toInt ≠ 2 := sa_ne c2
  have h3 : x.toInt ≠ 3 := sa_ne c3
  have h4 : x.toInt ≠ 4 := sa_ne c4
  have h5 : x.toInt ≠ 5 := sa_ne c5
  have h6 : x.toInt ≠ 6 := sa_ne c6
  have h7 : x.toInt ≠ 7 := sa_ne c7
  have h8 : x.toInt ≠ 8 := sa_ne c8
  have h9 : x.toInt ≠ 9 := sa_ne c9
  have h10 : x.toInt ≠ 10 := sa_ne c10
  have h11 : x.toInt ≠ 11 := sa_ne c11
  have h12 : x.toInt ≠ 12 := sa_ne c12
  have h13 : x.toInt ≠ 13 := sa_ne c13
  omega
theorem sa_out17 {x : Int32} (c0 : ¬ x = 0) (c1 : ¬ x = 1) (c2 : ¬ x = 2) (c3 : ¬ x = 3) (c4 : ¬ x = 4) (c5 : ¬ x = 5) (c6 : ¬ x = 6) (c7 : ¬ x = 7) (c8 : ¬ x = 8) (c9 : ¬ x = 9) (c10 : ¬ x = 10) (c11 : ¬ x = 11) (c12 : ¬ x = 12) (c13 : ¬ x = 13) (c14 : ¬ x = 14) (c15 : ¬ x = 15) (c16 : ¬ x = 16) : x.toInt < 0 ∨ 16 < x.toInt := by
  rcases sa_out14 c0 c1 c2 c3 c4 c5 c6 c7 c8 c9 c10 c11 c12 c13 with h | h
  · exact Or.inl h
  · have h14 : x.toInt ≠ 14 := sa_ne c14
    have h15 : x.toInt ≠ 15 := sa_ne c15
    have h16 : x.toInt ≠ 16 := sa_ne c16
    omega
section SAMORE
variable {α β : Type} {p : Program} {l : Launch} {e : Env} {s : State} {m : MethodId} {args : Array Value} {below : List Frame} {meth : Method} {c : Code} {nL d : Nat} {D : va_G} {ad : Nat → Nat} {cA : FieldType → ClassId} {A : Nat → Prop} {enc : α → Option Value}
variable {cc : ByteArray} {own name : String} {ret : Option FieldType} {pc : Nat} {lv : List (Nat × Value)} {st : List Value} {f : sa_M α}
theorem sa_gdI {ci id : Nat} (k : sa_Sg p l e s m args below meth c nL d D ad cA A enc pc lv st f) : sa_Sg p l e s m args below meth c nL d D ad cA A enc pc lv st (sa_gd ci id f) := by
  intro σ r τ hf H locs ls hw hS hl
  have hs := sa_gd_ok hf
  unfold sa_gd at hf
  rw [if_pos hs] at hf
  exact k σ r τ hf H locs ls hw hS hl
theorem sa_ldcS (C : sa_C p s m args meth c cc own name nL ret D ad cA A) {i t : Nat} (j : Nat) (hq : sa_strs[j]? = some (own, i, t)) (hd : decode cc pc = .ok (.ldc i, 2)) (k : sa_Sg p l e s m args below meth c nL d D ad cA A enc (pc + 2) lv (.ref (ad (1000 + t)) :: st) f) : sa_Sg p l e s m args below meth c nL d D ad cA A enc pc lv st f := by
  intro σ r τ hf H locs ls hw hS hl
  exact va_ldcS C.1 C.2.1 C.2.2.2.1 (C.2.2.2.2.2.2.2.2.2.2.2.1 _ (List.mem_of_getElem? hq)) hd (k σ r τ hf H locs ls hw hS hl)
theorem sa_ldcSw (C : sa_C p s m args meth c cc own name nL ret D ad cA A) {i t : Nat} (j : Nat) (hq : sa_strs[j]? = some (own, i, t)) (hd : decode cc pc = .ok (.ldc_w i, 3)) (k : sa_Sg p l e s m args below meth c nL d D ad cA A enc (pc + 3) lv (.ref (ad (1000 + t)) :: st) f) : sa_Sg p l e s m args below meth c nL d D ad cA A enc pc lv st f := by
  sorry
theorem sa_str_length (C : sa_C p s m args meth c cc own name nL ret D ad cA A) {idx id : Nat} {g : Int32 → sa_M α} (hlink : Cond.methodLink own idx ⟨"java/lang/String", "length", "()I"⟩ ∈ sa_T) (hw8 : (st.map fun v => v.category).sum ≤ 8) (hdd : 9 ≤ d) (hd : decode cc pc = .ok (.invokevirtual idx, 3)) (kk : ∀ r : Int32, sa_Sg p l e s m args below meth c nL d D ad cA A enc (pc + 3) lv (.int r :: st) (g r)) : sa_Sg p l e s m args below meth c nL d D ad cA A enc pc lv (.ref (ad id) :: st) (sa_bnd (sa_slength id) g) := by
  sorry
theorem sa_str_charAt (C : sa_C p s m args meth c cc own name nL ret D ad cA A) {idx id : Nat} {i : Int32} {g : Int32 → sa_M α} (hlink : Cond.methodLink own idx ⟨"java/lang/String", "charAt", "(I)C"⟩ ∈ sa_T) (hw8 : (st.map fun v => v.category).sum ≤ 8) (hdd : 9 ≤ d) (hd : decode cc pc = .ok (.invokevirtual idx, 3)) (kk : ∀ r : Int32, sa_Sg p l e s m args below meth c nL d D ad cA A enc (pc + 3) lv (.int r :: st) (g r)) : sa_Sg p l e s m args below meth c nL d D ad cA A enc pc lv (.int i :: .ref (ad id) :: st) (sa_bnd (sa_scharAt id i) g) := by
  sorry
theorem sa_str_indexOf (C : sa_C p s m args meth c cc own name nL ret D ad cA A) {idx id : Nat} {i : Int32} {g : Int32 → sa_M α} (hlink : Cond.methodLink own idx ⟨"java/lang/String", "indexOf", "(I)I"⟩ ∈ sa_T) (hw8 : (st.map fun v => v.category).sum ≤ 8) (hdd : 9 ≤ d) (hd : decode cc pc = .ok (.invokevirtual idx, 3)) (kk : ∀ r : Int32, sa_Sg p l e s m args below meth c nL d D ad cA A enc (pc + 3) lv (.int r :: st) (g r)) : sa_Sg p l e s m args below meth c nL d D ad cA A enc pc lv (.int i :: .ref (ad id) :: st) (sa_bnd (sa_sindexOf id i) g) := by
  sorry
theorem sa_cpyT (C : sa_C p s m args meth c cc own name nL ret D ad cA A) {idx j a : Nat} {q : String × String × List Int32} {sp dp n : Int32} {g : Unit → sa_M α} (hq0 : sa_stat[j]? = some q) (hq : Cond.methodLink own idx arraycopyName ∈ sa_T) (h6 : Cond.native arraycopyName ∈ sa_T) (h7 : Cond.static arraycopyName ∈ sa_T) (h8 : Cond.initialized "java/lang/System" ∈ sa_T) (hst : (st.map fun v => v.category).sum + 18 ≤ 64 * d) (hdd : 1 ≤ d) (hd : decode cc pc = .ok (.invokestatic idx, 3)) (kk : sa_Sg p l e s m args below meth c nL d D ad cA A enc (pc + 3) lv st (g ())) : sa_Sg p l e s m args below meth c nL d D ad cA A enc pc lv (.int n :: .int dp :: .ref (ad a) :: .int sp :: .ref (ad (2000 + j)) :: st) (sa_bnd (sa_cpT j sp a dp n) g) := by
  sorry
end SAMORE
