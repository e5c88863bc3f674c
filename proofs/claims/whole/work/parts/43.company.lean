/-- company: none where it throws -/
def f_X11_companyX (this : Nat) (a1 : Int32) (a2 : Int32) : sa_M (Option Int32) :=
sa_gd 11 this (
sa_bnd (sa_rdR 11 this 6) fun v1 =>
sa_bnd (f_X0_hasCompany v1 a1) fun v2 =>
if v2 = 0 then
sa_ret none
else
if a2 < 0 then
sa_ret none
else
if a2 ≤ 5 then
sa_bnd (sa_rdR 11 this 6) fun v3 =>
sa_bnd (f_X0_of v3 a1 a2) fun v4 =>
sa_ret (some v4)
else
sa_ret none)
def lc_6 (Inv : sa_St → Prop) : Prop := ∀ (σ : sa_St) (s1 s2 : Int32), Inv σ → ∃ (o : Option Int32) (σ1 σ2 : sa_St) (r : Int32), f_X11_companyX 0 s1 s2 σ = some (o, σ1) ∧ f_X12_company 159 s1 s2 (match o with | some v => sa_upL σ1 192 0 v.toInt64 | none => σ1) = some (r, σ2) ∧ σ2.1 159 0 = (match o with | some _ => 0 | none => 1) ∧ (∀ v, o = some v → v = r) ∧ Inv σ2
theorem lcase_6 {Inv : sa_St → Prop} (F : lc_6 Inv) {p : Program} {l : Launch} (hflags : l.flags = flags0) {e : Env} {s : State} {m : MethodId} {b : Nat} {below : List Frame} {meth : Method} {c : Code} {D : va_G} {ad : Nat → Nat} {cA : FieldType → ClassId} {K L i : Nat} {xs : Nat → Int32} (C : sa_C p s m #[Value.ref b] meth c code R_law "law" 7 ret D ad cA (fun q : Nat => s.heap.size ≤ q)) (hX : va_X b L xs s s.heap) (hbl : b < s.heap.size) (hi : i + 6 ≤ L ∧ L ≤ 3072) (hK : K ≤ 520) {σ : sa_St} (hI : Inv σ) (hn : ∀ σ2, Inv σ2 → lw_S p l e s m b below meth c D ad cA (K) σ2 1597 [(4, .int (nI i)), (3, .ref (ad 192)), (2, .ref (ad 159)), (1, .ref (ad 0)), (0, .ref b)] []) : lw_S p l e s m b below meth c D ad cA (K) σ 430 [(4, .int (nI i)), (3, .ref (ad 192)), (2, .ref (ad 159)), (1, .ref (ad 0)), (0, .ref b)] [] := by
  sorry
