/-! STEPS as functions of the state -/
def sa_ret {α : Type} (a : α) : sa_M α := fun σ => some (a, σ)
def sa_bnd {α β : Type} (x : sa_M α) (f : α → sa_M β) : sa_M β := fun σ => match x σ with
  | none => none
  | some (a, τ) => f a τ
def sa_let {α β : Type} (v : α) (f : α → sa_M β) : sa_M β := f v
def sa_fail {α : Type} : sa_M α := fun _ => none
/-- the length of an array of a type (0 for what is none) -/
def sa_al (ty : FieldType) (id : Nat) : Nat := match sa_sh id with
  | some (.inr a) => if a.1 = ty then a.2 else 0
  | _ => 0
def sa_gd {α : Type} (ci id : Nat) (f : sa_M α) : sa_M α := fun σ => if sa_sh id = some (.inl ci) then f σ else none
def sa_rdI (ci id k : Nat) : sa_M Int32 := fun σ => if sa_sh id = some (.inl ci) then some (σ.1 id k, σ) else none
def sa_rdL (ci id k : Nat) : sa_M Int64 := fun σ => if sa_sh id = some (.inl ci) then some (σ.2.2 id k, σ) else none
def sa_rdR (ci id k : Nat) : sa_M Nat := fun σ => if sa_sh id = some (.inl ci) then (match σ.2.1 id k with
  | 0 => none
  | i + 1 => some (i, σ)) else none
def sa_upI (σ : sa_St) (id k : Nat) (v : Int32) : sa_St := (va_up σ.1 id (va_up (σ.1 id) k v), σ.2)
def sa_upR (σ : sa_St) (id k : Nat) (v : Nat) : sa_St := (σ.1, va_up σ.2.1 id (va_up (σ.2.1 id) k v), σ.2.2)
def sa_upL (σ : sa_St) (id k : Nat) (v : Int64) : sa_St := (σ.1, σ.2.1, va_up σ.2.2 id (va_up (σ.2.2 id) k v))
def sa_wrI (ci id k : Nat) (v : Int32) : sa_M Unit := fun σ => if sa_sh id = some (.inl ci) then some ((), sa_upI σ id k v) else none
def sa_wrZ (ci id k : Nat) (v : Int32) : sa_M Unit := fun σ => if sa_sh id = some (.inl ci) ∧ (v = 0 ∨ v = 1) then some ((), sa_upI σ id k v) else none
def sa_wrL (ci id k : Nat) (v : Int64) : sa_M Unit := fun σ => if sa_sh id = some (.inl ci) then some ((), sa_upL σ id k v) else none
def sa_wrR (ci id k : Nat) (v : Nat) : sa_M Unit := fun σ => if sa_sh id = some (.inl ci) then some ((), sa_upR σ id k (v + 1)) else none
def sa_len (ty : FieldType) (id : Nat) : sa_M Int32 := fun σ => if sa_al ty id = 0 then none else some (nI (sa_al ty id), σ)
def sa_ldI (ty : FieldType) (id : Nat) (j : Int32) : sa_M Int32 := fun σ => if j < 0 ∨ sa_al ty id ≤ j.toNatClampNeg then none else some (σ.1 id j.toNatClampNeg, σ)
def sa_ldL (id : Nat) (j : Int32) : sa_M Int64 := fun σ => if j < 0 ∨ sa_al .long id ≤ j.toNatClampNeg then none else some (σ.2.2 id j.toNatClampNeg, σ)
def sa_ldR (ty : FieldType) (id : Nat) (j : Int32) : sa_M Nat := fun σ => if j < 0 ∨ sa_al ty id ≤ j.toNatClampNeg then none else (match σ.2.1 id j.toNatClampNeg with
  | 0 => none
  | i + 1 => some (i, σ))
def sa_stI (id : Nat) (j : Int32) (v : Int32) : sa_M Unit := fun σ => if j < 0 ∨ sa_al .int id ≤ j.toNatClampNeg then none else some ((), sa_upI σ id j.toNatClampNeg v)
def sa_stB (id : Nat) (j : Int32) (v : Int32) : sa_M Unit := fun σ => if j < 0 ∨ sa_al .byte id ≤ j.toNatClampNeg then none else some ((), sa_upI σ id j.toNatClampNeg (vp_nar .byte v))
def sa_stZ (id : Nat) (j : Int32) (v : Int32) : sa_M Unit := fun σ => if j < 0 ∨ sa_al .boolean id ≤ j.toNatClampNeg then none else some ((), sa_upI σ id j.toNatClampNeg (vp_nar .boolean v))
def sa_stL (id : Nat) (j : Int32) (v : Int64) : sa_M Unit := fun σ => if j < 0 ∨ sa_al .long id ≤ j.toNatClampNeg then none else some ((), sa_upL σ id j.toNatClampNeg v)
def sa_row (j : Nat) : List Int32 := (sa_stat.getD j ("", "", [])).2.2
def sa_tb (j : Nat) (i : Int32) : sa_M Int32 := fun σ => if i < 0 ∨ (sa_row j).length ≤ i.toNatClampNeg then none else some ((sa_row j).getD i.toNatClampNeg 0, σ)
def sa_dv (a b : Int32) : sa_M Int32 := fun σ => if b = 0 then none else some (a / b, σ)
def sa_md (a b : Int32) : sa_M Int32 := fun σ => if b = 0 then none else some (a - a / b * b, σ)
def sa_dvL (a b : Int64) : sa_M Int64 := fun σ => if b = 0 then none else some (a / b, σ)
def sa_mdL (a b : Int64) : sa_M Int64 := fun σ => if b = 0 then none else some (a - a / b * b, σ)
def sa_cpI (a0 : Nat) (sp : Int32) (a : Nat) (dp n : Int32) : sa_M Unit := fun σ => if sp < 0 ∨ dp < 0 ∨ n < 0 ∨ sa_al .int a0 < sp.toNatClampNeg + n.toNatClampNeg ∨ sa_al .int a < dp.toNatClampNeg + n.toNatClampNeg ∨ sa_al .int a0 = 0 ∨ sa_al .int a = 0 then none else some ((), (va_up σ.1 a (va_cpy (σ.1 a0) (σ.1 a) sp.toNatClampNeg dp.toNatClampNeg n.toNatClampNeg), σ.2))
def sa_cpL (a0 : Nat) (sp : Int32) (a : Nat) (dp n : Int32) : sa_M Unit := fun σ => if sp < 0 ∨ dp < 0 ∨ n < 0 ∨ sa_al .long a0 < sp.toNatClampNeg + n.toNatClampNeg ∨ sa_al .long a < dp.toNatClampNeg + n.toNatClampNeg ∨ sa_al .long a0 = 0 ∨ sa_al .long a = 0 then none else some ((), (σ.1, σ.2.1, va_up σ.2.2 a (va_cpy (σ.2.2 a0) (σ.2.2 a) sp.toNatClampNeg dp.toNatClampNeg n.toNatClampNeg)))
abbrev sa_max (x y : Int32) : Int32 := if x < y then y else x
abbrev sa_min (x y : Int32) : Int32 := if y < x then y else x
/-- an answer of a small type -/
def sa_retZ (v : Int32) : sa_M Int32 := fun σ => if v = 0 ∨ v = 1 then some (v, σ) else none
def sa_retC (v : Int32) : sa_M Int32 := fun σ => if vp_nar .char v = v then some (v, σ) else none
abbrev sa_eI (r : Int32) : Option Value := some (.int r)
abbrev sa_eL (r : Int64) : Option Value := some (.long r)
abbrev sa_eV (_ : Unit) : Option Value := none
/-- rounds of a loop, at most -/
def sa_F : Nat := 1000000
/-! what the shape says of a cell -/
theorem sa_al_pos {ty : FieldType} {id : Nat} (h : 0 < sa_al ty id) : sa_sh id = some (.inr (ty, sa_al ty id)) := by
  unfold sa_al at h ⊢
  cases hs : sa_sh id with
  | none => simp [hs] at h
  | some k =>
    cases k with
    | inl ci => simp [hs] at h
    | inr a =>
      obtain ⟨t, n⟩ := a
      simp only [hs] at h ⊢
      by_cases ht : t = ty
      · subst ht
        simp
      · simp [ht] at h
theorem sa_ent_obj {ad : Nat → Nat} {cA : FieldType → ClassId} {σ : sa_St} {id ci : Nat} (h : sa_sh id = some (.inl ci)) : sa_ent ad cA σ id = .inr (ci, sa_fs ad σ ci id) := by
  unfold sa_ent
  rw [h]
theorem sa_ent_arr {ad : Nat → Nat} {cA : FieldType → ClassId} {σ : sa_St} {id n : Nat} {ty : FieldType} (h : sa_sh id = some (.inr (ty, n))) : sa_ent ad cA σ id = .inl (cA ty, sa_arr ad σ ty n id) := by
  unfold sa_ent
  rw [h]
theorem sa_fs_at {ad : Nat → Nat} {σ : sa_St} {ci id k : Nat} (hk : k < sa_nf ci) : (sa_fs ad σ ci id)[k]? = some (sa_val ad σ (sa_ft ci k) id k) := by
  unfold sa_fs
  rw [List.getElem?_map, List.getElem?_range hk]
  rfl
theorem sa_fs_len {ad : Nat → Nat} {σ : sa_St} {ci id : Nat} : (sa_fs ad σ ci id).length = sa_nf ci := by
  unfold sa_fs
  simp
theorem sa_val_other {ad : Nat → Nat} {σ τ : sa_St} {ty : FieldType} {id k : Nat} (h1 : τ.1 id k = σ.1 id k) (h2 : τ.2.1 id k = σ.2.1 id k) (h3 : τ.2.2 id k = σ.2.2 id k) : sa_val ad τ ty id k = sa_val ad σ ty id k := by
  cases ty <;> simp only [sa_val, h1, h2, h3]
theorem sa_ent_other {ad : Nat → Nat} {cA : FieldType → ClassId} {σ τ : sa_St} {id : Nat} (h1 : τ.1 id = σ.1 id) (h2 : τ.2.1 id = σ.2.1 id) (h3 : τ.2.2 id = σ.2.2 id) : sa_ent ad cA τ id = sa_ent ad cA σ id := by
  unfold sa_ent
  cases hs : sa_sh id with
  | none => rfl
  | some k =>
    cases k with
    | inl ci =>
      simp only [sa_fs]
      congr 2
      apply List.map_congr_left
      intro k _
      exact sa_val_other (by rw [h1]) (by rw [h2]) (by rw [h3])
    | inr a =>
      obtain ⟨t, n⟩ := a
      cases t <;> simp only [sa_arr, h1, h2, h3]
theorem sa_fs_set {ad : Nat → Nat} {σ τ : sa_St} {ci id k : Nat} {v : Value} (hv : sa_val ad τ (sa_ft ci k) id k = v) (ho : ∀ j, j ≠ k → sa_val ad τ (sa_ft ci j) id j = sa_val ad σ (sa_ft ci j) id j) : sa_fs ad τ ci id = (sa_fs ad σ ci id).set k v := by
  apply List.ext_getElem?
  intro i
  by_cases hi : i < sa_nf ci
  · rw [sa_fs_at hi]
    by_cases hk : i = k
    · subst hk
      rw [List.getElem?_set_self (by rw [sa_fs_len]; exact hi), hv]
    · rw [List.getElem?_set_ne (Ne.symm hk), sa_fs_at hi, ho i hk]
  · rw [List.getElem?_eq_none (by rw [sa_fs_len]; omega), List.getElem?_eq_none (by rw [List.length_set, sa_fs_len]; omega)]
theorem sa_rf_ro {ad : Nat → Nat} {n : Nat} : va_rf (sa_ro ad n) = sa_rv ad n := by
  cases n <;> rfl
theorem va_up_at {α : Type} {f : Nat → α} {k : Nat} {v : α} : va_up f k v k = v := if_pos rfl
theorem va_up_no {α : Type} {f : Nat → α} {k j : Nat} {v : α} (h : j ≠ k) : va_up f k v j = f j := if_neg h
/-- a field: where it is linked, which class and number -/
def sa_Fd (own : String) (idx ci k : Nat) (ty : FieldType) (fin : Bool) : Prop := ∃ (C : String) (T : u_T) (N : Nat) (ty0 : Nat → FieldType), sa_cl[ci]? = some (C, T, N) ∧ k < N ∧ N = sa_nf ci ∧ (∀ w ∈ u_ws C T N, w ∈ sa_T) ∧ (∀ k, k < N → parseFieldDescriptor (T k).2.2.1 = some (ty0 k)) ∧ (∀ a, a < N → ∀ b, b < N → a ≠ b → (T a).2.1 ≠ (T b).2.1) ∧ Cond.fieldLink own idx (T k).1 (T k).2.1 (T k).2.2.1 ∈ sa_T ∧ (T k).2.2.2 = fin ∧ ty0 k = ty ∧ sa_ft ci k = ty
section SARULES
variable {α β : Type} {p : Program} {l : Launch} {e : Env} {s : State} {m : MethodId} {args : Array Value} {below : List Frame} {meth : Method} {c : Code} {nL d : Nat} {D : va_G} {ad : Nat → Nat} {cA : FieldType → ClassId} {A : Nat → Prop} {enc : α → Option Value}
variable {cc : ByteArray} {own name : String} {ret : Option FieldType} {pc : Nat} {lv : List (Nat × Value)} {st : List Value} {f : sa_M α}

theorem sa_lift {pc' : Nat} {st' : List Value} (h : ∀ (R : Room) (H : Heap) (locs : List Loc) (cells slots : Nat) (Q : State → Prop) (ls : Array Slot), lv_has ls nL lv → W p l e R s m args below meth c H locs cells slots Q (F0 m pc' ls st') → W p l e R s m args below meth c H locs cells slots Q (F0 m pc ls st)) (k : sa_Sg p l e s m args below meth c nL d D ad cA A enc pc' lv st' f) : sa_Sg p l e s m args below meth c nL d D ad cA A enc pc lv st f :=
  fun σ r τ hf H locs ls hw hS hl => h _ H locs _ _ _ ls hl (k σ r τ hf H locs ls hw hS hl)
theorem sa_lift2 {pc' : Nat} {lv' : List (Nat × Value)} {st' : List Value} (h : ∀ (R : Room) (H : Heap) (locs : List Loc) (cells slots : Nat) (Q : State → Prop) (ls : Array Slot), lv_has ls nL lv → (∀ ls' : Array Slot, lv_has ls' nL lv' → W p l e R s m args below meth c H locs cells slots Q (F0 m pc' ls' st')) → W p l e R s m args below meth c H locs cells slots Q (F0 m pc ls st)) (k : sa_Sg p l e s m args below meth c nL d D ad cA A enc pc' lv' st' f) : sa_Sg p l e s m args below meth c nL d D ad cA A enc pc lv st f :=
  fun σ r τ hf H locs ls hw hS hl => h _ H locs _ _ _ ls hl (fun ls' hl' => k σ r τ hf H locs ls' hw hS hl')
theorem sa_sub {lv' : List (Nat × Value)} (ks : List Nat) (h : lv_pick lv ks = lv') (k : sa_Sg p l e s m args below meth c nL d D ad cA A enc pc lv' st f) : sa_Sg p l e s m args below meth c nL d D ad cA A enc pc lv st f :=
  fun σ r τ hf H locs ls hw hS hl => k σ r τ hf H locs ls hw hS (lv_sub hl ks h)
theorem sa_iconst (C : sa_C p s m args meth c cc own name nL ret D ad cA A) {n : Int} {v : Int32} (hd : decode cc pc = .ok (.iconst n, 1)) (hv : Int32.ofInt n = v) (k : sa_Sg p l e s m args below meth c nL d D ad cA A enc (pc + 1) lv (.int v :: st) f) : sa_Sg p l e s m args below meth c nL d D ad cA A enc pc lv st f :=
  sa_lift (fun R H locs cells slots Q ls hl hw => lv_iconst C.1 C.2.1 hd hv hw) k
theorem sa_bipush (C : sa_C p s m args meth c cc own name nL ret D ad cA A) {n : Int} {v : Int32} (hd : decode cc pc = .ok (.bipush n, 2)) (hv : (Int8.ofInt n).toInt32 = v) (k : sa_Sg p l e s m args below meth c nL d D ad cA A enc (pc + 2) lv (.int v :: st) f) : sa_Sg p l e s m args below meth c nL d D ad cA A enc pc lv st f :=
  sa_lift (fun R H locs cells slots Q ls hl hw => lv_bipush C.1 C.2.1 hd hv hw) k
theorem sa_sipush (C : sa_C p s m args meth c cc own name nL ret D ad cA A) {n : Int} {v : Int32} (hd : decode cc pc = .ok (.sipush n, 3)) (hv : (Int16.ofInt n).toInt32 = v) (k : sa_Sg p l e s m args below meth c nL d D ad cA A enc (pc + 3) lv (.int v :: st) f) : sa_Sg p l e s m args below meth c nL d D ad cA A enc pc lv st f :=
  sa_lift (fun R H locs cells slots Q ls hl hw => lv_sipush C.1 C.2.1 hd hv hw) k
theorem sa_lconst (C : sa_C p s m args meth c cc own name nL ret D ad cA A) {n : Fin 2} {v : Int64} (hd : decode cc pc = .ok (.lconst n, 1)) (hv : Int64.ofNat (n : Nat) = v) (k : sa_Sg p l e s m args below meth c nL d D ad cA A enc (pc + 1) lv (.long v :: st) f) : sa_Sg p l e s m args below meth c nL d D ad cA A enc pc lv st f :=
  sa_lift (fun R H locs cells slots Q ls hl hw => lv_lconst C.1 C.2.1 hd hv hw) k
theorem sa_ldc (C : sa_C p s m args meth c cc own name nL ret D ad cA A) {i : Nat} {v : Int32} (hd : decode cc pc = .ok (.ldc i, 2)) (hq : Cond.constant own i v ∈ sa_T) (k : sa_Sg p l e s m args below meth c nL d D ad cA A enc (pc + 2) lv (.int v :: st) f) : sa_Sg p l e s m args below meth c nL d D ad cA A enc pc lv st f :=
  sa_lift (fun R H locs cells slots Q ls hl hw => lv_ldc C.1 C.2.1 C.2.2.2.1 (C.2.2.2.2.1 _ hq) hd hw) k
theorem sa_ldcw (C : sa_C p s m args meth c cc own name nL ret D ad cA A) {i : Nat} {v : Int32} (hd : decode cc pc = .ok (.ldc_w i, 3)) (hq : Cond.constant own i v ∈ sa_T) (k : sa_Sg p l e s m args below meth c nL d D ad cA A enc (pc + 3) lv (.int v :: st) f) : sa_Sg p l e s m args below meth c nL d D ad cA A enc pc lv st f :=
  sa_lift (fun R H locs cells slots Q ls hl hw => lv_ldcw C.1 C.2.1 C.2.2.2.1 (C.2.2.2.2.1 _ hq) hd hw) k
theorem sa_ldc2 (C : sa_C p s m args meth c cc own name nL ret D ad cA A) {i : Nat} {v : Int64} (hd : decode cc pc = .ok (.ldc2_w i, 3)) (hq : Cond.constantLong own i v ∈ sa_T) (k : sa_Sg p l e s m args below meth c nL d D ad cA A enc (pc + 3) lv (.long v :: st) f) : sa_Sg p l e s m args below meth c nL d D ad cA A enc pc lv st f :=
  sa_lift (fun R H locs cells slots Q ls hl hw => lv_ldc2 C.1 C.2.1 C.2.2.2.1 (C.2.2.2.2.1 _ hq) hd hw) k
theorem sa_iload_n (C : sa_C p s m args meth c cc own name nL ret D ad cA A) {k9 : Fin 4} {i : Nat} {x : Int32} (hd : decode cc pc = .ok (.iload_n k9, 1)) (hi : (k9 : Nat) = i) (q : Nat) (hq : lv[q]? = some (i, .int x)) (k : sa_Sg p l e s m args below meth c nL d D ad cA A enc (pc + 1) lv (.int x :: st) f) : sa_Sg p l e s m args below meth c nL d D ad cA A enc pc lv st f :=
  sa_lift (fun R H locs cells slots Q ls hl hw => lv_iload_n C.1 C.2.1 hd hi (lv_at hl q hq) hw) k
theorem sa_iload (C : sa_C p s m args meth c cc own name nL ret D ad cA A) {i : Nat} {x : Int32} (hd : decode cc pc = .ok (.iload i, 2)) (q : Nat) (hq : lv[q]? = some (i, .int x)) (k : sa_Sg p l e s m args below meth c nL d D ad cA A enc (pc + 2) lv (.int x :: st) f) : sa_Sg p l e s m args below meth c nL d D ad cA A enc pc lv st f :=
  sa_lift (fun R H locs cells slots Q ls hl hw => lv_iload C.1 C.2.1 hd (lv_at hl q hq) hw) k
theorem sa_istore_n (C : sa_C p s m args meth c cc own name nL ret D ad cA A) {k9 : Fin 4} {i : Nat} {x : Int32} {lv' : List (Nat × Value)} (hd : decode cc pc = .ok (.istore_n k9, 1)) (hi : (k9 : Nat) = i) (hn : i < nL) (hl : (i, Value.int x) :: lv.filter (fun q => !(q.1 == i) && !(q.1 + 1 == i && q.2.category == 2)) = lv') (k : sa_Sg p l e s m args below meth c nL d D ad cA A enc (pc + 1) lv' st f) : sa_Sg p l e s m args below meth c nL d D ad cA A enc pc lv (.int x :: st) f :=
  sa_lift2 (fun R H locs cells slots Q ls h hw => lv_istore_n C.1 C.2.1 hd hi h hn hl hw) k
theorem sa_istore (C : sa_C p s m args meth c cc own name nL ret D ad cA A) {i : Nat} {x : Int32} {lv' : List (Nat × Value)} (hd : decode cc pc = .ok (.istore i, 2)) (hn : i < nL) (hl : (i, Value.int x) :: lv.filter (fun q => !(q.1 == i) && !(q.1 + 1 == i && q.2.category == 2)) = lv') (k : sa_Sg p l e s m args below meth c nL d D ad cA A enc (pc + 2) lv' st f) : sa_Sg p l e s m args below meth c nL d D ad cA A enc pc lv (.int x :: st) f :=
  sa_lift2 (fun R H locs cells slots Q ls h hw => lv_istore C.1 C.2.1 hd h hn hl hw) k
theorem sa_lload_n (C : sa_C p s m args meth c cc own name nL ret D ad cA A) {k9 : Fin 4} {i : Nat} {x : Int64} (hd : decode cc pc = .ok (.lload_n k9, 1)) (hi : (k9 : Nat) = i) (q : Nat) (hq : lv[q]? = some (i, .long x)) (k : sa_Sg p l e s m args below meth c nL d D ad cA A enc (pc + 1) lv (.long x :: st) f) : sa_Sg p l e s m args below meth c nL d D ad cA A enc pc lv st f :=
  sa_lift (fun R H locs cells slots Q ls hl hw => lv_lload_n C.1 C.2.1 hd hi (lv_at hl q hq) hw) k
theorem sa_lload (C : sa_C p s m args meth c cc own name nL ret D ad cA A) {i : Nat} {x : Int64} (hd : decode cc pc = .ok (.lload i, 2)) (q : Nat) (hq : lv[q]? = some (i, .long x)) (k : sa_Sg p l e s m args below meth c nL d D ad cA A enc (pc + 2) lv (.long x :: st) f) : sa_Sg p l e s m args below meth c nL d D ad cA A enc pc lv st f :=
  sa_lift (fun R H locs cells slots Q ls hl hw => lv_lload C.1 C.2.1 hd (lv_at hl q hq) hw) k
theorem sa_lstore_n (C : sa_C p s m args meth c cc own name nL ret D ad cA A) {k9 : Fin 4} {i : Nat} {x : Int64} {lv' : List (Nat × Value)} (hd : decode cc pc = .ok (.lstore_n k9, 1)) (hi : (k9 : Nat) = i) (hn : i + 1 < nL) (hl : (i, Value.long x) :: lv.filter (fun q => !(q.1 == i) && (!(q.1 == i + 1) && !(q.1 + 1 == i && q.2.category == 2))) = lv') (k : sa_Sg p l e s m args below meth c nL d D ad cA A enc (pc + 1) lv' st f) : sa_Sg p l e s m args below meth c nL d D ad cA A enc pc lv (.long x :: st) f :=
  sa_lift2 (fun R H locs cells slots Q ls h hw => lv_lstore_n C.1 C.2.1 hd hi h hn hl hw) k
theorem sa_lstore (C : sa_C p s m args meth c cc own name nL ret D ad cA A) {i : Nat} {x : Int64} {lv' : List (Nat × Value)} (hd : decode cc pc = .ok (.lstore i, 2)) (hn : i + 1 < nL) (hl : (i, Value.long x) :: lv.filter (fun q => !(q.1 == i) && (!(q.1 == i + 1) && !(q.1 + 1 == i && q.2.category == 2))) = lv') (k : sa_Sg p l e s m args below meth c nL d D ad cA A enc (pc + 2) lv' st f) : sa_Sg p l e s m args below meth c nL d D ad cA A enc pc lv (.long x :: st) f :=
  sa_lift2 (fun R H locs cells slots Q ls h hw => lv_lstore C.1 C.2.1 hd h hn hl hw) k
theorem sa_aload_n (C : sa_C p s m args meth c cc own name nL ret D ad cA A) {k9 : Fin 4} {i : Nat} {x : Nat} (hd : decode cc pc = .ok (.aload_n k9, 1)) (hi : (k9 : Nat) = i) (q : Nat) (hq : lv[q]? = some (i, .ref x)) (k : sa_Sg p l e s m args below meth c nL d D ad cA A enc (pc + 1) lv (.ref x :: st) f) : sa_Sg p l e s m args below meth c nL d D ad cA A enc pc lv st f :=
  sa_lift (fun R H locs cells slots Q ls hl hw => lv_aload_n C.1 C.2.1 hd hi (lv_at hl q hq) hw) k
theorem sa_aload (C : sa_C p s m args meth c cc own name nL ret D ad cA A) {i : Nat} {x : Nat} (hd : decode cc pc = .ok (.aload i, 2)) (q : Nat) (hq : lv[q]? = some (i, .ref x)) (k : sa_Sg p l e s m args below meth c nL d D ad cA A enc (pc + 2) lv (.ref x :: st) f) : sa_Sg p l e s m args below meth c nL d D ad cA A enc pc lv st f :=
  sa_lift (fun R H locs cells slots Q ls hl hw => lv_aload C.1 C.2.1 hd (lv_at hl q hq) hw) k
theorem sa_astore_n (C : sa_C p s m args meth c cc own name nL ret D ad cA A) {k9 : Fin 4} {i : Nat} {x : Nat} {lv' : List (Nat × Value)} (hd : decode cc pc = .ok (.astore_n k9, 1)) (hi : (k9 : Nat) = i) (hn : i < nL) (hl : (i, Value.ref x) :: lv.filter (fun q => !(q.1 == i) && !(q.1 + 1 == i && q.2.category == 2)) = lv') (k : sa_Sg p l e s m args below meth c nL d D ad cA A enc (pc + 1) lv' st f) : sa_Sg p l e s m args below meth c nL d D ad cA A enc pc lv (.ref x :: st) f :=
  sa_lift2 (fun R H locs cells slots Q ls h hw => lv_astore_n C.1 C.2.1 hd hi h hn hl hw) k
theorem sa_astore (C : sa_C p s m args meth c cc own name nL ret D ad cA A) {i : Nat} {x : Nat} {lv' : List (Nat × Value)} (hd : decode cc pc = .ok (.astore i, 2)) (hn : i < nL) (hl : (i, Value.ref x) :: lv.filter (fun q => !(q.1 == i) && !(q.1 + 1 == i && q.2.category == 2)) = lv') (k : sa_Sg p l e s m args below meth c nL d D ad cA A enc (pc + 2) lv' st f) : sa_Sg p l e s m args below meth c nL d D ad cA A enc pc lv (.ref x :: st) f :=
  sa_lift2 (fun R H locs cells slots Q ls h hw => lv_astore C.1 C.2.1 hd h hn hl hw) k
theorem sa_iinc (C : sa_C p s m args meth c cc own name nL ret D ad cA A) {i : Nat} {n : Int} {x : Int32} {v : Int32} {g : Int32 → sa_M α} (lv' : Int32 → List (Nat × Value)) (hd : decode cc pc = .ok (.iinc i n, 3)) (q : Nat) (hq : lv[q]? = some (i, .int x)) (hv : x + Int32.ofInt n = v) (hn : i < nL) (hl : ∀ y : Int32, (i, Value.int y) :: lv.filter (fun q => !(q.1 == i) && !(q.1 + 1 == i && q.2.category == 2)) = lv' y) (k : ∀ y : Int32, sa_Sg p l e s m args below meth c nL d D ad cA A enc (pc + 3) (lv' y) st (g y)) : sa_Sg p l e s m args below meth c nL d D ad cA A enc pc lv st (sa_let v g) :=
  sa_lift2 (fun R H locs cells slots Q ls h hw => lv_iinc C.1 C.2.1 hd h hq hv hn (hl v) hw) (k v)
theorem sa_iadd (C : sa_C p s m args meth c cc own name nL ret D ad cA A) {x y : Int32} (hd : decode cc pc = .ok (.iadd, 1)) (k : sa_Sg p l e s m args below meth c nL d D ad cA A enc (pc + 1) lv (.int (x + y) :: st) f) : sa_Sg p l e s m args below meth c nL d D ad cA A enc pc lv (.int y :: .int x :: st) f :=
  sa_lift (fun R H locs cells slots Q ls hl hw => lv_iadd C.1 C.2.1 hd hw) k
theorem sa_isub (C : sa_C p s m args meth c cc own name nL ret D ad cA A) {x y : Int32} (hd : decode cc pc = .ok (.isub, 1)) (k : sa_Sg p l e s m args below meth c nL d D ad cA A enc (pc + 1) lv (.int (x - y) :: st) f) : sa_Sg p l e s m args below meth c nL d D ad cA A enc pc lv (.int y :: .int x :: st) f :=
  sa_lift (fun R H locs cells slots Q ls hl hw => lv_isub C.1 C.2.1 hd hw) k
theorem sa_imul (C : sa_C p s m args meth c cc own name nL ret D ad cA A) {x y : Int32} (hd : decode cc pc = .ok (.imul, 1)) (k : sa_Sg p l e s m args below meth c nL d D ad cA A enc (pc + 1) lv (.int (x * y) :: st) f) : sa_Sg p l e s m args below meth c nL d D ad cA A enc pc lv (.int y :: .int x :: st) f :=
  sa_lift (fun R H locs cells slots Q ls hl hw => lv_imul C.1 C.2.1 hd hw) k
theorem sa_iand (C : sa_C p s m args meth c cc own name nL ret D ad cA A) {x y : Int32} (hd : decode cc pc = .ok (.iand, 1)) (k : sa_Sg p l e s m args below meth c nL d D ad cA A enc (pc + 1) lv (.int (x &&& y) :: st) f) : sa_Sg p l e s m args below meth c nL d D ad cA A enc pc lv (.int y :: .int x :: st) f :=
  sa_lift (fun R H locs cells slots Q ls hl hw => lv_iand C.1 C.2.1 hd hw) k
theorem sa_ior (C : sa_C p s m args meth c cc own name nL ret D ad cA A) {x y : Int32} (hd : decode cc pc = .ok (.ior, 1)) (k : sa_Sg p l e s m args below meth c nL d D ad cA A enc (pc + 1) lv (.int (x ||| y) :: st) f) : sa_Sg p l e s m args below meth c nL d D ad cA A enc pc lv (.int y :: .int x :: st) f :=
  sa_lift (fun R H locs cells slots Q ls hl hw => lv_ior C.1 C.2.1 hd hw) k
theorem sa_ishl (C : sa_C p s m args meth c cc own name nL ret D ad cA A) {x y : Int32} (hd : decode cc pc = .ok (.ishl, 1)) (k : sa_Sg p l e s m args below meth c nL d D ad cA A enc (pc + 1) lv (.int (x <<< (y &&& 31)) :: st) f) : sa_Sg p l e s m args below meth c nL d D ad cA A enc pc lv (.int y :: .int x :: st) f :=
  sa_lift (fun R H locs cells slots Q ls hl hw => lv_ishl C.1 C.2.1 hd hw) k
theorem sa_ishr (C : sa_C p s m args meth c cc own name nL ret D ad cA A) {x y : Int32} (hd : decode cc pc = .ok (.ishr, 1)) (k : sa_Sg p l e s m args below meth c nL d D ad cA A enc (pc + 1) lv (.int (x >>> (y &&& 31)) :: st) f) : sa_Sg p l e s m args below meth c nL d D ad cA A enc pc lv (.int y :: .int x :: st) f :=
  sa_lift (fun R H locs cells slots Q ls hl hw => lv_ishr C.1 C.2.1 hd hw) k
theorem sa_ladd (C : sa_C p s m args meth c cc own name nL ret D ad cA A) {x y : Int64} (hd : decode cc pc = .ok (.ladd, 1)) (k : sa_Sg p l e s m args below meth c nL d D ad cA A enc (pc + 1) lv (.long (x + y) :: st) f) : sa_Sg p l e s m args below meth c nL d D ad cA A enc pc lv (.long y :: .long x :: st) f :=
  sa_lift (fun R H locs cells slots Q ls hl hw => lv_ladd C.1 C.2.1 hd hw) k
theorem sa_lsub (C : sa_C p s m args meth c cc own name nL ret D ad cA A) {x y : Int64} (hd : decode cc pc = .ok (.lsub, 1)) (k : sa_Sg p l e s m args below meth c nL d D ad cA A enc (pc + 1) lv (.long (x - y) :: st) f) : sa_Sg p l e s m args below meth c nL d D ad cA A enc pc lv (.long y :: .long x :: st) f :=
  sa_lift (fun R H locs cells slots Q ls hl hw => lv_lsub C.1 C.2.1 hd hw) k
theorem sa_lmul (C : sa_C p s m args meth c cc own name nL ret D ad cA A) {x y : Int64} (hd : decode cc pc = .ok (.lmul, 1)) (k : sa_Sg p l e s m args below meth c nL d D ad cA A enc (pc + 1) lv (.long (x * y) :: st) f) : sa_Sg p l e s m args below meth c nL d D ad cA A enc pc lv (.long y :: .long x :: st) f :=
  sa_lift (fun R H locs cells slots Q ls hl hw => lv_lmul C.1 C.2.1 hd hw) k
theorem sa_land (C : sa_C p s m args meth c cc own name nL ret D ad cA A) {x y : Int64} (hd : decode cc pc = .ok (.land, 1)) (k : sa_Sg p l e s m args below meth c nL d D ad cA A enc (pc + 1) lv (.long (x &&& y) :: st) f) : sa_Sg p l e s m args below meth c nL d D ad cA A enc pc lv (.long y :: .long x :: st) f :=
  sa_lift (fun R H locs cells slots Q ls hl hw => lv_land C.1 C.2.1 hd hw) k
theorem sa_lor (C : sa_C p s m args meth c cc own name nL ret D ad cA A) {x y : Int64} (hd : decode cc pc = .ok (.lor, 1)) (k : sa_Sg p l e s m args below meth c nL d D ad cA A enc (pc + 1) lv (.long (x ||| y) :: st) f) : sa_Sg p l e s m args below meth c nL d D ad cA A enc pc lv (.long y :: .long x :: st) f :=
  sa_lift (fun R H locs cells slots Q ls hl hw => lv_lor C.1 C.2.1 hd hw) k
theorem sa_ineg (C : sa_C p s m args meth c cc own name nL ret D ad cA A) {x : Int32} (hd : decode cc pc = .ok (.ineg, 1)) (k : sa_Sg p l e s m args below meth c nL d D ad cA A enc (pc + 1) lv (.int (-x) :: st) f) : sa_Sg p l e s m args below meth c nL d D ad cA A enc pc lv (.int x :: st) f :=
  sa_lift (fun R H locs cells slots Q ls hl hw => lv_ineg C.1 C.2.1 hd hw) k
theorem sa_i2l (C : sa_C p s m args meth c cc own name nL ret D ad cA A) {x : Int32} (hd : decode cc pc = .ok (.i2l, 1)) (k : sa_Sg p l e s m args below meth c nL d D ad cA A enc (pc + 1) lv (.long x.toInt64 :: st) f) : sa_Sg p l e s m args below meth c nL d D ad cA A enc pc lv (.int x :: st) f :=
  sa_lift (fun R H locs cells slots Q ls hl hw => lv_i2l C.1 C.2.1 hd rfl hw) k
theorem sa_l2i (C : sa_C p s m args meth c cc own name nL ret D ad cA A) {x : Int64} (hd : decode cc pc = .ok (.l2i, 1)) (k : sa_Sg p l e s m args below meth c nL d D ad cA A enc (pc + 1) lv (.int x.toInt32 :: st) f) : sa_Sg p l e s m args below meth c nL d D ad cA A enc pc lv (.long x :: st) f :=
  sa_lift (fun R H locs cells slots Q ls hl hw => lv_l2i C.1 C.2.1 hd rfl hw) k
theorem sa_i2b (C : sa_C p s m args meth c cc own name nL ret D ad cA A) {x : Int32} (hd : decode cc pc = .ok (.i2b, 1)) (k : sa_Sg p l e s m args below meth c nL d D ad cA A enc (pc + 1) lv (.int x.toInt8.toInt32 :: st) f) : sa_Sg p l e s m args below meth c nL d D ad cA A enc pc lv (.int x :: st) f :=
  sa_lift (fun R H locs cells slots Q ls hl hw => lv_i2b C.1 C.2.1 hd rfl hw) k
theorem sa_i2c (C : sa_C p s m args meth c cc own name nL ret D ad cA A) {x : Int32} (hd : decode cc pc = .ok (.i2c, 1)) (k : sa_Sg p l e s m args below meth c nL d D ad cA A enc (pc + 1) lv (.int (x.toUInt32 % 65536).toInt32 :: st) f) : sa_Sg p l e s m args below meth c nL d D ad cA A enc pc lv (.int x :: st) f :=
  sa_lift (fun R H locs cells slots Q ls hl hw => lv_i2c C.1 C.2.1 hd rfl hw) k
theorem sa_iushr (C : sa_C p s m args meth c cc own name nL ret D ad cA A) {x y : Int32} (hd : decode cc pc = .ok (.iushr, 1)) (k : sa_Sg p l e s m args below meth c nL d D ad cA A enc (pc + 1) lv (.int (x.toUInt32 >>> (y.toUInt32 &&& Int32.toUInt32 31)).toInt32 :: st) f) : sa_Sg p l e s m args below meth c nL d D ad cA A enc pc lv (.int y :: .int x :: st) f :=
  sa_lift (fun R H locs cells slots Q ls hl hw => lv_iushr C.1 C.2.1 hd rfl hw) k
theorem sa_lushr (C : sa_C p s m args meth c cc own name nL ret D ad cA A) {x : Int64} {y : Int32} (hd : decode cc pc = .ok (.lushr, 1)) (k : sa_Sg p l e s m args below meth c nL d D ad cA A enc (pc + 1) lv (.long (x.toUInt64 >>> (y.toInt64.toUInt64 &&& Int64.toUInt64 63)).toInt64 :: st) f) : sa_Sg p l e s m args below meth c nL d D ad cA A enc pc lv (.int y :: .long x :: st) f :=
  sa_lift (fun R H locs cells slots Q ls hl hw => lv_lushr C.1 C.2.1 hd rfl hw) k
theorem sa_lshl (C : sa_C p s m args meth c cc own name nL ret D ad cA A) {x : Int64} {y : Int32} (hd : decode cc pc = .ok (.lshl, 1)) (k : sa_Sg p l e s m args below meth c nL d D ad cA A enc (pc + 1) lv (.long (x <<< (y.toInt64 &&& 63)) :: st) f) : sa_Sg p l e s m args below meth c nL d D ad cA A enc pc lv (.int y :: .long x :: st) f :=
  sa_lift (fun R H locs cells slots Q ls hl hw => lv_lshl C.1 C.2.1 hd rfl hw) k
theorem sa_lcmp (C : sa_C p s m args meth c cc own name nL ret D ad cA A) {x y : Int64} (hd : decode cc pc = .ok (.lcmp, 1)) (k : sa_Sg p l e s m args below meth c nL d D ad cA A enc (pc + 1) lv (.int (lg_cmp x y) :: st) f) : sa_Sg p l e s m args below meth c nL d D ad cA A enc pc lv (.long y :: .long x :: st) f :=
  sa_lift (fun R H locs cells slots Q ls hl hw => W.lcmp C.1 C.2.1 hd hw) k
theorem sa_dup (C : sa_C p s m args meth c cc own name nL ret D ad cA A) {a : Value} (hd : decode cc pc = .ok (.dup, 1)) (ha : a.category = 1) (k : sa_Sg p l e s m args below meth c nL d D ad cA A enc (pc + 1) lv (a :: a :: st) f) : sa_Sg p l e s m args below meth c nL d D ad cA A enc pc lv (a :: st) f :=
  sa_lift (fun R H locs cells slots Q ls hl hw => lv_dup C.1 C.2.1 hd ha hw) k
theorem sa_pop (C : sa_C p s m args meth c cc own name nL ret D ad cA A) {a : Value} (hd : decode cc pc = .ok (.pop, 1)) (ha : a.category = 1) (k : sa_Sg p l e s m args below meth c nL d D ad cA A enc (pc + 1) lv st f) : sa_Sg p l e s m args below meth c nL d D ad cA A enc pc lv (a :: st) f :=
  sa_lift (fun R H locs cells slots Q ls hl hw => lv_pop C.1 C.2.1 hd ha hw) k
theorem sa_dup_x1 (C : sa_C p s m args meth c cc own name nL ret D ad cA A) {a b : Value} (hd : decode cc pc = .ok (.dup_x1, 1)) (ha : a.category = 1) (hb : b.category = 1) (k : sa_Sg p l e s m args below meth c nL d D ad cA A enc (pc + 1) lv (a :: b :: a :: st) f) : sa_Sg p l e s m args below meth c nL d D ad cA A enc pc lv (a :: b :: st) f :=
  sa_lift (fun R H locs cells slots Q ls hl hw => lv_dup_x1 C.1 C.2.1 hd ha hb hw) k
theorem sa_dup2_11 (C : sa_C p s m args meth c cc own name nL ret D ad cA A) {a b : Value} (hd : decode cc pc = .ok (.dup2, 1)) (ha : a.category = 1) (hb : b.category = 1) (k : sa_Sg p l e s m args below meth c nL d D ad cA A enc (pc + 1) lv (a :: b :: a :: b :: st) f) : sa_Sg p l e s m args below meth c nL d D ad cA A enc pc lv (a :: b :: st) f :=
  sa_lift (fun R H locs cells slots Q ls hl hw => lv_dup2_11 C.1 C.2.1 hd ha hb hw) k
theorem sa_goto (C : sa_C p s m args meth c cc own name nL ret D ad cA A) {off : Int} {tgt : Nat} (hd : decode cc pc = .ok (.goto off, 3)) (ht : (pc : Int) + off = (tgt : Int)) (k : sa_Sg p l e s m args below meth c nL d D ad cA A enc tgt lv st f) : sa_Sg p l e s m args below meth c nL d D ad cA A enc pc lv st f :=
  sa_lift (fun R H locs cells slots Q ls hl hw => lv_goto C.1 C.2.1 hd ht hw) k
theorem sa_if_eq (C : sa_C p s m args meth c cc own name nL ret D ad cA A) {x : Int32} {off : Int} {tgt : Nat} {g : sa_M α} (hd : decode cc pc = .ok (.ifCond .eq off, 3)) (ht : (pc : Int) + off = (tgt : Int)) (kt : sa_Sg p l e s m args below meth c nL d D ad cA A enc tgt lv st f) (kf : sa_Sg p l e s m args below meth c nL d D ad cA A enc (pc + 3) lv st g) : sa_Sg p l e s m args below meth c nL d D ad cA A enc pc lv (.int x :: st) (if x = 0 then f else g) := by
  intro σ r τ hf H locs ls hw hS hl
  by_cases h : x = 0
  · have hf' : f σ = some (r, τ) := by rw [if_pos h] at hf; exact hf
    exact lv_if_eq C.1 C.2.1 hd ht (fun _ => kt σ r τ hf' H locs ls hw hS hl) (fun h' => absurd h h')
  · have hf' : g σ = some (r, τ) := by rw [if_neg h] at hf; exact hf
    exact lv_if_eq C.1 C.2.1 hd ht (fun h' => absurd h' h) (fun _ => kf σ r τ hf' H locs ls hw hS hl)
theorem sa_icmp_eq (C : sa_C p s m args meth c cc own name nL ret D ad cA A) {x y : Int32} {off : Int} {tgt : Nat} {g : sa_M α} (hd : decode cc pc = .ok (.if_icmp .eq off, 3)) (ht : (pc : Int) + off = (tgt : Int)) (kt : sa_Sg p l e s m args below meth c nL d D ad cA A enc tgt lv st f) (kf : sa_Sg p l e s m args below meth c nL d D ad cA A enc (pc + 3) lv st g) : sa_Sg p l e s m args below meth c nL d D ad cA A enc pc lv (.int y :: .int x :: st) (if x = y then f else g) := by
  intro σ r τ hf H locs ls hw hS hl
  by_cases h : x = y
  · have hf' : f σ = some (r, τ) := by rw [if_pos h] at hf; exact hf
    exact lv_icmp_eq C.1 C.2.1 hd ht (fun _ => kt σ r τ hf' H locs ls hw hS hl) (fun h' => absurd h h')
  · have hf' : g σ = some (r, τ) := by rw [if_neg h] at hf; exact hf
    exact lv_icmp_eq C.1 C.2.1 hd ht (fun h' => absurd h' h) (fun _ => kf σ r τ hf' H locs ls hw hS hl)
theorem sa_if_ne (C : sa_C p s m args meth c cc own name nL ret D ad cA A) {x : Int32} {off : Int} {tgt : Nat} {g : sa_M α} (hd : decode cc pc = .ok (.ifCond .ne off, 3)) (ht : (pc : Int) + off = (tgt : Int)) (kt : sa_Sg p l e s m args below meth c nL d D ad cA A enc tgt lv st f) (kf : sa_Sg p l e s m args below meth c nL d D ad cA A enc (pc + 3) lv st g) : sa_Sg p l e s m args below meth c nL d D ad cA A enc pc lv (.int x :: st) (if ¬ x = 0 then f else g) := by
  intro σ r τ hf H locs ls hw hS hl
  by_cases h : ¬ x = 0
  · have hf' : f σ = some (r, τ) := by rw [if_pos h] at hf; exact hf
    exact lv_if_ne C.1 C.2.1 hd ht (fun _ => kt σ r τ hf' H locs ls hw hS hl) (fun h' => absurd h' h)
  · have hf' : g σ = some (r, τ) := by rw [if_neg h] at hf; exact hf
    exact lv_if_ne C.1 C.2.1 hd ht (fun h' => absurd h' h) (fun _ => kf σ r τ hf' H locs ls hw hS hl)
theorem sa_icmp_ne (C : sa_C p s m args meth c cc own name nL ret D ad cA A) {x y : Int32} {off : Int} {tgt : Nat} {g : sa_M α} (hd : decode cc pc = .ok (.if_icmp .ne off, 3)) (ht : (pc : Int) + off = (tgt : Int)) (kt : sa_Sg p l e s m args below meth c nL d D ad cA A enc tgt lv st f) (kf : sa_Sg p l e s m args below meth c nL d D ad cA A enc (pc + 3) lv st g) : sa_Sg p l e s m args below meth c nL d D ad cA A enc pc lv (.int y :: .int x :: st) (if ¬ x = y then f else g) := by
  intro σ r τ hf H locs ls hw hS hl
  by_cases h : ¬ x = y
  · have hf' : f σ = some (r, τ) := by rw [if_pos h] at hf; exact hf
    exact lv_icmp_ne C.1 C.2.1 hd ht (fun _ => kt σ r τ hf' H locs ls hw hS hl) (fun h' => absurd h' h)
  · have hf' : g σ = some (r, τ) := by rw [if_neg h] at hf; exact hf
    exact lv_icmp_ne C.1 C.2.1 hd ht (fun h' => absurd h' h) (fun _ => kf σ r τ hf' H locs ls hw hS hl)
theorem sa_if_lt (C : sa_C p s m args meth c cc own name nL ret D ad cA A) {x : Int32} {off : Int} {tgt : Nat} {g : sa_M α} (hd : decode cc pc = .ok (.ifCond .lt off, 3)) (ht : (pc : Int) + off = (tgt : Int)) (kt : sa_Sg p l e s m args below meth c nL d D ad cA A enc tgt lv st f) (kf : sa_Sg p l e s m args below meth c nL d D ad cA A enc (pc + 3) lv st g) : sa_Sg p l e s m args below meth c nL d D ad cA A enc pc lv (.int x :: st) (if x < 0 then f else g) := by
  intro σ r τ hf H locs ls hw hS hl
  by_cases h : x < 0
  · have hf' : f σ = some (r, τ) := by rw [if_pos h] at hf; exact hf
    exact lv_if_lt C.1 C.2.1 hd ht (fun _ => kt σ r τ hf' H locs ls hw hS hl) (fun h' => absurd h h')
  · have hf' : g σ = some (r, τ) := by rw [if_neg h] at hf; exact hf
    exact lv_if_lt C.1 C.2.1 hd ht (fun h' => absurd h' h) (fun _ => kf σ r τ hf' H locs ls hw hS hl)
theorem sa_icmp_lt (C : sa_C p s m args meth c cc own name nL ret D ad cA A) {x y : Int32} {off : Int} {tgt : Nat} {g : sa_M α} (hd : decode cc pc = .ok (.if_icmp .lt off, 3)) (ht : (pc : Int) + off = (tgt : Int)) (kt : sa_Sg p l e s m args below meth c nL d D ad cA A enc tgt lv st f) (kf : sa_Sg p l e s m args below meth c nL d D ad cA A enc (pc + 3) lv st g) : sa_Sg p l e s m args below meth c nL d D ad cA A enc pc lv (.int y :: .int x :: st) (if x < y then f else g) := by
  intro σ r τ hf H locs ls hw hS hl
  by_cases h : x < y
  · have hf' : f σ = some (r, τ) := by rw [if_pos h] at hf; exact hf
    exact lv_icmp_lt C.1 C.2.1 hd ht (fun _ => kt σ r τ hf' H locs ls hw hS hl) (fun h' => absurd h h')
  · have hf' : g σ = some (r, τ) := by rw [if_neg h] at hf; exact hf
    exact lv_icmp_lt C.1 C.2.1 hd ht (fun h' => absurd h' h) (fun _ => kf σ r τ hf' H locs ls hw hS hl)
theorem sa_if_ge (C : sa_C p s m args meth c cc own name nL ret D ad cA A) {x : Int32} {off : Int} {tgt : Nat} {g : sa_M α} (hd : decode cc pc = .ok (.ifCond .ge off, 3)) (ht : (pc : Int) + off = (tgt : Int)) (kt : sa_Sg p l e s m args below meth c nL d D ad cA A enc tgt lv st f) (kf : sa_Sg p l e s m args below meth c nL d D ad cA A enc (pc + 3) lv st g) : sa_Sg p l e s m args below meth c nL d D ad cA A enc pc lv (.int x :: st) (if 0 ≤ x then f else g) := by
  intro σ r τ hf H locs ls hw hS hl
  by_cases h : 0 ≤ x
  · have hf' : f σ = some (r, τ) := by rw [if_pos h] at hf; exact hf
    exact lv_if_ge C.1 C.2.1 hd ht (fun _ => kt σ r τ hf' H locs ls hw hS hl) (fun h' => absurd h h')
  · have hf' : g σ = some (r, τ) := by rw [if_neg h] at hf; exact hf
    exact lv_if_ge C.1 C.2.1 hd ht (fun h' => absurd h' h) (fun _ => kf σ r τ hf' H locs ls hw hS hl)
theorem sa_icmp_ge (C : sa_C p s m args meth c cc own name nL ret D ad cA A) {x y : Int32} {off : Int} {tgt : Nat} {g : sa_M α} (hd : decode cc pc = .ok (.if_icmp .ge off, 3)) (ht : (pc : Int) + off = (tgt : Int)) (kt : sa_Sg p l e s m args below meth c nL d D ad cA A enc tgt lv st f) (kf : sa_Sg p l e s m args below meth c nL d D ad cA A enc (pc + 3) lv st g) : sa_Sg p l e s m args below meth c nL d D ad cA A enc pc lv (.int y :: .int x :: st) (if y ≤ x then f else g) := by
  intro σ r τ hf H locs ls hw hS hl
  by_cases h : y ≤ x
  · have hf' : f σ = some (r, τ) := by rw [if_pos h] at hf; exact hf
    exact lv_icmp_ge C.1 C.2.1 hd ht (fun _ => kt σ r τ hf' H locs ls hw hS hl) (fun h' => absurd h h')
  · have hf' : g σ = some (r, τ) := by rw [if_neg h] at hf; exact hf
    exact lv_icmp_ge C.1 C.2.1 hd ht (fun h' => absurd h' h) (fun _ => kf σ r τ hf' H locs ls hw hS hl)
theorem sa_if_gt (C : sa_C p s m args meth c cc own name nL ret D ad cA A) {x : Int32} {off : Int} {tgt : Nat} {g : sa_M α} (hd : decode cc pc = .ok (.ifCond .gt off, 3)) (ht : (pc : Int) + off = (tgt : Int)) (kt : sa_Sg p l e s m args below meth c nL d D ad cA A enc tgt lv st f) (kf : sa_Sg p l e s m args below meth c nL d D ad cA A enc (pc + 3) lv st g) : sa_Sg p l e s m args below meth c nL d D ad cA A enc pc lv (.int x :: st) (if 0 < x then f else g) := by
  intro σ r τ hf H locs ls hw hS hl
  by_cases h : 0 < x
  · have hf' : f σ = some (r, τ) := by rw [if_pos h] at hf; exact hf
    exact lv_if_gt C.1 C.2.1 hd ht (fun _ => kt σ r τ hf' H locs ls hw hS hl) (fun h' => absurd h h')
  · have hf' : g σ = some (r, τ) := by rw [if_neg h] at hf; exact hf
    exact lv_if_gt C.1 C.2.1 hd ht (fun h' => absurd h' h) (fun _ => kf σ r τ hf' H locs ls hw hS hl)
theorem sa_icmp_gt (C : sa_C p s m args meth c cc own name nL ret D ad cA A) {x y : Int32} {off : Int} {tgt : Nat} {g : sa_M α} (hd : decode cc pc = .ok (.if_icmp .gt off, 3)) (ht : (pc : Int) + off = (tgt : Int)) (kt : sa_Sg p l e s m args below meth c nL d D ad cA A enc tgt lv st f) (kf : sa_Sg p l e s m args below meth c nL d D ad cA A enc (pc + 3) lv st g) : sa_Sg p l e s m args below meth c nL d D ad cA A enc pc lv (.int y :: .int x :: st) (if y < x then f else g) := by
  intro σ r τ hf H locs ls hw hS hl
  by_cases h : y < x
  · have hf' : f σ = some (r, τ) := by rw [if_pos h] at hf; exact hf
    exact lv_icmp_gt C.1 C.2.1 hd ht (fun _ => kt σ r τ hf' H locs ls hw hS hl) (fun h' => absurd h h')
  · have hf' : g σ = some (r, τ) := by rw [if_neg h] at hf; exact hf
    exact lv_icmp_gt C.1 C.2.1 hd ht (fun h' => absurd h' h) (fun _ => kf σ r τ hf' H locs ls hw hS hl)
theorem sa_if_le (C : sa_C p s m args meth c cc own name nL ret D ad cA A) {x : Int32} {off : Int} {tgt : Nat} {g : sa_M α} (hd : decode cc pc = .ok (.ifCond .le off, 3)) (ht : (pc : Int) + off = (tgt : Int)) (kt : sa_Sg p l e s m args below meth c nL d D ad cA A enc tgt lv st f) (kf : sa_Sg p l e s m args below meth c nL d D ad cA A enc (pc + 3) lv st g) : sa_Sg p l e s m args below meth c nL d D ad cA A enc pc lv (.int x :: st) (if x ≤ 0 then f else g) := by
  intro σ r τ hf H locs ls hw hS hl
  by_cases h : x ≤ 0
  · have hf' : f σ = some (r, τ) := by rw [if_pos h] at hf; exact hf
    exact lv_if_le C.1 C.2.1 hd ht (fun _ => kt σ r τ hf' H locs ls hw hS hl) (fun h' => absurd h h')
  · have hf' : g σ = some (r, τ) := by rw [if_neg h] at hf; exact hf
    exact lv_if_le C.1 C.2.1 hd ht (fun h' => absurd h' h) (fun _ => kf σ r τ hf' H locs ls hw hS hl)
theorem sa_icmp_le (C : sa_C p s m args meth c cc own name nL ret D ad cA A) {x y : Int32} {off : Int} {tgt : Nat} {g : sa_M α} (hd : decode cc pc = .ok (.if_icmp .le off, 3)) (ht : (pc : Int) + off = (tgt : Int)) (kt : sa_Sg p l e s m args below meth c nL d D ad cA A enc tgt lv st f) (kf : sa_Sg p l e s m args below meth c nL d D ad cA A enc (pc + 3) lv st g) : sa_Sg p l e s m args below meth c nL d D ad cA A enc pc lv (.int y :: .int x :: st) (if x ≤ y then f else g) := by
  intro σ r τ hf H locs ls hw hS hl
  by_cases h : x ≤ y
  · have hf' : f σ = some (r, τ) := by rw [if_pos h] at hf; exact hf
    exact lv_icmp_le C.1 C.2.1 hd ht (fun _ => kt σ r τ hf' H locs ls hw hS hl) (fun h' => absurd h h')
  · have hf' : g σ = some (r, τ) := by rw [if_neg h] at hf; exact hf
    exact lv_icmp_le C.1 C.2.1 hd ht (fun h' => absurd h' h) (fun _ => kf σ r τ hf' H locs ls hw hS hl)
theorem sa_byc {q : Prop} [Decidable q] {g : sa_M α} (kt : q → sa_Sg p l e s m args below meth c nL d D ad cA A enc pc lv st f) (kf : ¬ q → sa_Sg p l e s m args below meth c nL d D ad cA A enc pc lv st g) : sa_Sg p l e s m args below meth c nL d D ad cA A enc pc lv st (if q then f else g) := by
  intro σ r τ hf H locs ls hw hS hl
  by_cases h : q
  · exact kt h σ r τ (by rw [if_pos h] at hf; exact hf) H locs ls hw hS hl
  · exact kf h σ r τ (by rw [if_neg h] at hf; exact hf) H locs ls hw hS hl
theorem sa_tabIn (C : sa_C p s m args meth c cc own name nL ret D ad cA A) {dflt lo hi : Int} {offs : Array Int} {len : Nat} {x : Int32} {off : Int} {tgt : Nat} (hd : decode cc pc = .ok (.tableswitch dflt lo hi offs, len)) (h1 : ¬ x.toInt < lo) (h2 : ¬ hi < x.toInt) (ho : offs[(x.toInt - lo).toNat]? = some off) (ht : (pc : Int) + off = (tgt : Int)) (k : sa_Sg p l e s m args below meth c nL d D ad cA A enc tgt lv st f) : sa_Sg p l e s m args below meth c nL d D ad cA A enc pc lv (.int x :: st) f :=
  sa_lift (fun R H locs cells slots Q ls hl hw => lv_tableIn C.1 C.2.1 hd h1 h2 ho ht hw) k
theorem sa_tabOut (C : sa_C p s m args meth c cc own name nL ret D ad cA A) {dflt lo hi : Int} {offs : Array Int} {len : Nat} {x : Int32} {tgt : Nat} (hd : decode cc pc = .ok (.tableswitch dflt lo hi offs, len)) (h : x.toInt < lo ∨ hi < x.toInt) (ht : (pc : Int) + dflt = (tgt : Int)) (k : sa_Sg p l e s m args below meth c nL d D ad cA A enc tgt lv st f) : sa_Sg p l e s m args below meth c nL d D ad cA A enc pc lv (.int x :: st) f :=
  sa_lift (fun R H locs cells slots Q ls hl hw => lv_tableOut C.1 C.2.1 hd h ht hw) k
theorem sa_topi {x : Int32} {g : Int32 → sa_M α} (k : ∀ y : Int32, sa_Sg p l e s m args below meth c nL d D ad cA A enc pc lv (.int y :: st) (g y)) : sa_Sg p l e s m args below meth c nL d D ad cA A enc pc lv (.int x :: st) (sa_let x g) := k x
theorem sa_topl {x : Int64} {g : Int64 → sa_M α} (k : ∀ y : Int64, sa_Sg p l e s m args below meth c nL d D ad cA A enc pc lv (.long y :: st) (g y)) : sa_Sg p l e s m args below meth c nL d D ad cA A enc pc lv (.long x :: st) (sa_let x g) := k x
end SARULES
