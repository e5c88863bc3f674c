/-! CONSTRUCTORS: cells are made; the state behind each step is written out -/
def sa_nw (σ : sa_St) (N : Nat) : sa_St := (va_up σ.1 N (fun _ => 0), va_up σ.2.1 N (fun _ => 0), va_up σ.2.2 N (fun _ => 0))
def sa_Sc (p : Program) (l : Launch) (e : Env) (s : State) (m : MethodId) (args : Array Value) (below : List Frame) (meth : Method) (c : Code) (nL d : Nat) (D : va_G) (ad : Nat → Nat) (cA : FieldType → ClassId) (A : Nat → Prop) (N0 k : Nat) (rv : Option Value) (τ : sa_St) (N : Nat) (σ : sa_St) (pc : Nat) (lv : List (Nat × Value)) (st : List Value) : Prop :=
  ∀ (H : Heap) (locs : List Loc) (ls : Array Slot), sa_W0 D ad cA A N σ H → va_S A s.heap H locs → lv_has ls nL lv →
    W p l e (sa_rm d k (sa_SL (N0 + k) - sa_SL N0)) s m args below meth c H locs (N - N0) (sa_SL N - sa_SL N0) (MQ below (sa_Qc D ad cA A (N0 + k) (fun _ : Unit => rv) () τ) args s k (sa_SL (N0 + k) - sa_SL N0) A) (F0 m pc ls st)
/-- a contract of a method that may make cells: it finds N of them, and makes k -/
def sa_Mc (d N k : Nat) (y : MethodName) (bytes : ByteArray) (maxL : Nat) (ret : Option FieldType) (av : (Nat → Nat) → List Value) (rv : Option Value) (σ τ : sa_St) : Prop :=
  ∀ (l : Launch) (D : va_G) (ad : Nat → Nat) (cA : FieldType → ClassId) (A : Nat → Prop), (∀ i, i < sa_all → ad (i + 1) = ad i + 1) →
    Met l y (.code y bytes maxL ret :: sa_T) (sa_rm d k (sa_SL (N + k) - sa_SL N)) (sa_Pc D ad cA A N (av ad) σ) (sa_Qc D ad cA A (N + k) (fun _ : Unit => rv) () τ) k (sa_SL (N + k) - sa_SL N) A
theorem sa_mkc {d N k : Nat} {y : MethodName} {bytes : ByteArray} {maxL : Nat} {ret : Option FieldType} {av : (Nat → Nat) → List Value} {rv : Option Value} {σ τ : sa_St} (hy : plainName y.cls = true) (hlen : ∀ ad, (lg_sl (av ad)).length ≤ maxL)
    (body : ∀ (p : Program) (l : Launch) (e : Env) (s : State) (m : MethodId) (args : Array Value) (below : List Frame) (meth : Method) (c : Code) (D : va_G) (ad : Nat → Nat) (cA : FieldType → ClassId) (A : Nat → Prop), (∀ i, i < sa_all → ad (i + 1) = ad i + 1) → sa_C p s m args meth c bytes y.cls y.name maxL ret D ad cA A → sa_Sc p l e s m args below meth c maxL d D ad cA A N k rv τ N σ 0 (lv_args 0 (av ad)) []) : sa_Mc d N k y bytes maxL ret av rv σ τ := by
  intro l D ad cA A had
  refine Met.ofW (cc := bytes) (maxL := maxL) (ret := ret) hy rfl ?_
  intro p e s m args below meth c s₁ B hml hv
  obtain ⟨rfl, hw, hk⟩ := hv
  have hts := atoms_spec (ws := .code y bytes maxL ret :: sa_T) B.pre
  have C : sa_C p s m (av ad).toArray meth c bytes y.cls y.name maxL ret D ad cA A := ⟨B.exec, B.bytes, hml, findClass_of_methodNamed B.named, fun w h => hts w (List.mem_cons_of_mem _ h), B.returns, (name_of_methodNamed B.named B.method).1, B.notSynchronized, hk⟩
  have hl := lv_entry (av ad) (n := maxL) (hlen ad)
  rw [lg_entry_eq]
  have h := (body p l e s m (av ad).toArray below meth c D ad cA A had C) s.heap [] _ hw va_S.rf hl
  rw [Nat.sub_self, Nat.sub_self] at h
  exact h
/-- a class's data -/
def sa_Cd (ci : Nat) (C : String) (T : u_T) (n : Nat) (ty0 : Nat → FieldType) : Prop := sa_cl[ci]? = some (C, T, n) ∧ n = sa_nf ci ∧ (∀ w ∈ u_ws C T n, w ∈ sa_T) ∧ (∀ k, k < n → parseFieldDescriptor (T k).2.2.1 = some (ty0 k)) ∧ Cond.instantiable C n ∈ sa_T ∧ Cond.initialized C ∈ sa_T ∧ (∀ j, j < n → sa_ft ci j = ty0 j ∧ ty0 j ≠ .float ∧ ty0 j ≠ .double)
theorem sa_nw_def {ad : Nat → Nat} {σ : sa_St} {N k : Nat} {ty : FieldType} (h1 : ty ≠ .float) (h2 : ty ≠ .double) : defaultValue ty = sa_val ad (sa_nw σ N) ty N k := by
  cases ty <;> first | (exact absurd rfl h1) | (exact absurd rfl h2) | (simp only [sa_val, sa_nw, va_up_at]; rfl)
section SACTOR
variable {p : Program} {l : Launch} {e : Env} {s : State} {m : MethodId} {args : Array Value} {below : List Frame} {meth : Method} {c : Code} {nL d : Nat} {D : va_G} {ad : Nat → Nat} {cA : FieldType → ClassId} {A : Nat → Prop} {N0 k N : Nat} {rv : Option Value} {σ τ : sa_St}
variable {cc : ByteArray} {own name : String} {ret : Option FieldType} {pc : Nat} {lv : List (Nat × Value)} {st : List Value}
theorem sc_push {H H1 : Heap} {locs : List Loc} (C : sa_C p s m args meth c cc own name nL ret D ad cA A) (hw : sa_W0 D ad cA A N σ H) (hS : va_S A s.heap H locs) (had : ad (N + 1) = ad N + 1) (hsz : H.size = ad N) (z1 : H1.size = H.size + 1) (o1 : ∀ q, q < H.size → H1[q]? = H[q]?) (hnew : va_at D sa_cl (ad N, sa_ent ad cA (sa_nw σ N) N) H1) : sa_W0 D ad cA A (N + 1) (sa_nw σ N) H1 ∧ va_S A s.heap H1 locs := by
  have hA : A (ad N) := C.2.2.2.2.2.2.2.2.2.1 _ (by rw [← hsz]; exact hS.1)
  have ho : ∀ i, i < N → sa_ent ad cA (sa_nw σ N) i = sa_ent ad cA σ i := fun i hi => sa_ent_other (va_up_no (Nat.ne_of_lt hi)) (va_up_no (Nat.ne_of_lt hi)) (va_up_no (Nat.ne_of_lt hi))
  refine ⟨⟨?_, ?_, Or.inl (by rw [z1, hsz, had])⟩, ⟨Nat.le_trans hS.1 (by omega), fun x h1 h2 => (o1 x (Nat.lt_of_lt_of_le h1 hS.1)).trans (hS.2.1 x h1 h2), hS.2.2⟩⟩
  · rw [← sa_ws_push ho]
    refine (hw.1.kept (fun k x hx => o1 x.1 ((hw.1 k x hx).lt))).app (fun k x hx => ?_)
    have hz : k < 1 := (List.getElem?_eq_some_iff.mp hx).1
    rw [show k = 0 by omega] at hx
    cases hx
    exact hnew
  · rw [← sa_ws_push ho]
    exact hw.2.1.push hw.1 hsz.symm hA
theorem sc_size {H : Heap} {q : Nat ⊕ (FieldType × Nat)} (hw : sa_W0 D ad cA A N σ H) (hs : sa_sh N = some q) : H.size = ad N := by
  rcases hw.2.2 with h | h
  · exact h
  · rw [hs] at h; cases h
theorem sc_room {q : Nat ⊕ (FieldType × Nat)} (hs : sa_sh N = some q) (h0 : N0 ≤ N) (h1 : N + 1 ≤ N0 + k) : (N - N0) + 1 ≤ k ∧ (sa_SL N - sa_SL N0) + sa_sz q ≤ sa_SL (N0 + k) - sa_SL N0 ∧ (N - N0) + 1 = (N + 1) - N0 ∧ (sa_SL N - sa_SL N0) + sa_sz q = sa_SL (N + 1) - sa_SL N0 := by
  have e1 : sa_SL (N + 1) = sa_SL N + sa_sz q := by
    show sa_SL N + (match sa_sh N with | some k => sa_sz k | none => 0) = _
    rw [hs]
  have h2 := sa_SL_mono h0
  have h3 := sa_SL_mono h1
  omega
theorem sc_iconst (C : sa_C p s m args meth c cc own name nL ret D ad cA A) {n : Int} {v : Int32} (hd : decode cc pc = .ok (.iconst n, 1)) (hv : Int32.ofInt n = v) (kk : sa_Sc p l e s m args below meth c nL d D ad cA A N0 k rv τ N σ (pc + 1) lv (.int v :: st)) : sa_Sc p l e s m args below meth c nL d D ad cA A N0 k rv τ N σ pc lv st :=
  fun H locs ls hw hS hl => lv_iconst C.1 C.2.1 hd hv (kk H locs ls hw hS hl)
theorem sc_bipush (C : sa_C p s m args meth c cc own name nL ret D ad cA A) {n : Int} {v : Int32} (hd : decode cc pc = .ok (.bipush n, 2)) (hv : (Int8.ofInt n).toInt32 = v) (kk : sa_Sc p l e s m args below meth c nL d D ad cA A N0 k rv τ N σ (pc + 2) lv (.int v :: st)) : sa_Sc p l e s m args below meth c nL d D ad cA A N0 k rv τ N σ pc lv st :=
  fun H locs ls hw hS hl => lv_bipush C.1 C.2.1 hd hv (kk H locs ls hw hS hl)
theorem sc_sipush (C : sa_C p s m args meth c cc own name nL ret D ad cA A) {n : Int} {v : Int32} (hd : decode cc pc = .ok (.sipush n, 3)) (hv : (Int16.ofInt n).toInt32 = v) (kk : sa_Sc p l e s m args below meth c nL d D ad cA A N0 k rv τ N σ (pc + 3) lv (.int v :: st)) : sa_Sc p l e s m args below meth c nL d D ad cA A N0 k rv τ N σ pc lv st :=
  fun H locs ls hw hS hl => lv_sipush C.1 C.2.1 hd hv (kk H locs ls hw hS hl)
theorem sc_aload_n (C : sa_C p s m args meth c cc own name nL ret D ad cA A) {k9 : Fin 4} {i : Nat} {x : Nat} (hd : decode cc pc = .ok (.aload_n k9, 1)) (hi : (k9 : Nat) = i) (q : Nat) (hq : lv[q]? = some (i, .ref x)) (kk : sa_Sc p l e s m args below meth c nL d D ad cA A N0 k rv τ N σ (pc + 1) lv (.ref x :: st)) : sa_Sc p l e s m args below meth c nL d D ad cA A N0 k rv τ N σ pc lv st :=
  fun H locs ls hw hS hl => lv_aload_n C.1 C.2.1 hd hi (lv_at hl q hq) (kk H locs ls hw hS hl)
theorem sc_iload_n (C : sa_C p s m args meth c cc own name nL ret D ad cA A) {k9 : Fin 4} {i : Nat} {x : Int32} (hd : decode cc pc = .ok (.iload_n k9, 1)) (hi : (k9 : Nat) = i) (q : Nat) (hq : lv[q]? = some (i, .int x)) (kk : sa_Sc p l e s m args below meth c nL d D ad cA A N0 k rv τ N σ (pc + 1) lv (.int x :: st)) : sa_Sc p l e s m args below meth c nL d D ad cA A N0 k rv τ N σ pc lv st :=
  fun H locs ls hw hS hl => lv_iload_n C.1 C.2.1 hd hi (lv_at hl q hq) (kk H locs ls hw hS hl)
theorem sc_dup (C : sa_C p s m args meth c cc own name nL ret D ad cA A) {a : Value} (hd : decode cc pc = .ok (.dup, 1)) (ha : a.category = 1) (kk : sa_Sc p l e s m args below meth c nL d D ad cA A N0 k rv τ N σ (pc + 1) lv (a :: a :: st)) : sa_Sc p l e s m args below meth c nL d D ad cA A N0 k rv τ N σ pc lv (a :: st) :=
  fun H locs ls hw hS hl => lv_dup C.1 C.2.1 hd ha (kk H locs ls hw hS hl)
theorem sc_ishr (C : sa_C p s m args meth c cc own name nL ret D ad cA A) {x y : Int32} (hd : decode cc pc = .ok (.ishr, 1)) (kk : sa_Sc p l e s m args below meth c nL d D ad cA A N0 k rv τ N σ (pc + 1) lv (.int (x >>> (y &&& 31)) :: st)) : sa_Sc p l e s m args below meth c nL d D ad cA A N0 k rv τ N σ pc lv (.int y :: .int x :: st) :=
  fun H locs ls hw hS hl => lv_ishr C.1 C.2.1 hd (kk H locs ls hw hS hl)
theorem sc_istore_n (C : sa_C p s m args meth c cc own name nL ret D ad cA A) {k9 : Fin 4} {i : Nat} {x : Int32} {lv' : List (Nat × Value)} (hd : decode cc pc = .ok (.istore_n k9, 1)) (hi : (k9 : Nat) = i) (hn : i < nL) (hl0 : (i, Value.int x) :: lv.filter (fun q => !(q.1 == i) && !(q.1 + 1 == i && q.2.category == 2)) = lv') (kk : sa_Sc p l e s m args below meth c nL d D ad cA A N0 k rv τ N σ (pc + 1) lv' st) : sa_Sc p l e s m args below meth c nL d D ad cA A N0 k rv τ N σ pc lv (.int x :: st) :=
  fun H locs ls hw hS hl => lv_istore_n C.1 C.2.1 hd hi hl hn hl0 (fun ls' hl' => kk H locs ls' hw hS hl')
theorem sc_iinc (C : sa_C p s m args meth c cc own name nL ret D ad cA A) {i : Nat} {n : Int} {x v : Int32} {lv' : List (Nat × Value)} (hd : decode cc pc = .ok (.iinc i n, 3)) (q : Nat) (hq : lv[q]? = some (i, .int x)) (hv : x + Int32.ofInt n = v) (hn : i < nL) (hl0 : (i, Value.int v) :: lv.filter (fun q => !(q.1 == i) && !(q.1 + 1 == i && q.2.category == 2)) = lv') (kk : sa_Sc p l e s m args below meth c nL d D ad cA A N0 k rv τ N σ (pc + 3) lv' st) : sa_Sc p l e s m args below meth c nL d D ad cA A N0 k rv τ N σ pc lv st :=
  fun H locs ls hw hS hl => lv_iinc C.1 C.2.1 hd hl hq hv hn hl0 (fun ls' hl' => kk H locs ls' hw hS hl')
theorem sc_goto (C : sa_C p s m args meth c cc own name nL ret D ad cA A) {off : Int} {tgt : Nat} (hd : decode cc pc = .ok (.goto off, 3)) (ht : (pc : Int) + off = (tgt : Int)) (kk : sa_Sc p l e s m args below meth c nL d D ad cA A N0 k rv τ N σ tgt lv st) : sa_Sc p l e s m args below meth c nL d D ad cA A N0 k rv τ N σ pc lv st :=
  fun H locs ls hw hS hl => lv_goto C.1 C.2.1 hd ht (kk H locs ls hw hS hl)
theorem sc_ge_t (C : sa_C p s m args meth c cc own name nL ret D ad cA A) {x y : Int32} {off : Int} {tgt : Nat} (h : y ≤ x) (hd : decode cc pc = .ok (.if_icmp .ge off, 3)) (ht : (pc : Int) + off = (tgt : Int)) (kk : sa_Sc p l e s m args below meth c nL d D ad cA A N0 k rv τ N σ tgt lv st) : sa_Sc p l e s m args below meth c nL d D ad cA A N0 k rv τ N σ pc lv (.int y :: .int x :: st) :=
  fun H locs ls hw hS hl => lv_icmp_ge C.1 C.2.1 hd ht (fun _ => kk H locs ls hw hS hl) (fun q => absurd h q)
theorem sc_ge_f (C : sa_C p s m args meth c cc own name nL ret D ad cA A) {x y : Int32} {off : Int} {tgt : Nat} (h : ¬ y ≤ x) (hd : decode cc pc = .ok (.if_icmp .ge off, 3)) (ht : (pc : Int) + off = (tgt : Int)) (kk : sa_Sc p l e s m args below meth c nL d D ad cA A N0 k rv τ N σ (pc + 3) lv st) : sa_Sc p l e s m args below meth c nL d D ad cA A N0 k rv τ N σ pc lv (.int y :: .int x :: st) :=
  fun H locs ls hw hS hl => lv_icmp_ge C.1 C.2.1 hd ht (fun q => absurd q h) (fun _ => kk H locs ls hw hS hl)
theorem sc_ldcS (C : sa_C p s m args meth c cc own name nL ret D ad cA A) {i t : Nat} (j : Nat) (hq : sa_strs[j]? = some (own, i, t)) (hd : decode cc pc = .ok (.ldc i, 2)) (kk : sa_Sc p l e s m args below meth c nL d D ad cA A N0 k rv τ N σ (pc + 2) lv (.ref (ad (1000 + t)) :: st)) : sa_Sc p l e s m args below meth c nL d D ad cA A N0 k rv τ N σ pc lv st :=
  fun H locs ls hw hS hl => va_ldcS C.1 C.2.1 C.2.2.2.1 (C.2.2.2.2.2.2.2.2.2.2.2.1 _ (List.mem_of_getElem? hq)) hd (kk H locs ls hw hS hl)
theorem sc_objInit (C : sa_C p s m args meth c cc own name nL ret D ad cA A) {idx a : Nat} (hlink : Cond.methodLink own idx Lib.objectInit ∈ sa_T) (h1 : Cond.instanceMethod Lib.objectInit ∈ sa_T) (h2 : Cond.code Lib.objectInit ⟨#[0xb1]⟩ 1 none ∈ sa_T) (hdd : 1 ≤ d) (hst : (st.map fun v => v.category).sum + 12 ≤ 64 * d) (hd : decode cc pc = .ok (.invokespecial idx, 3)) (kk : sa_Sc p l e s m args below meth c nL d D ad cA A N0 k rv τ N σ (pc + 3) lv st) : sa_Sc p l e s m args below meth c nL d D ad cA A N0 k rv τ N σ pc lv (.ref a :: st) :=
  fun H locs ls hw hS hl => W.objInit C.1 C.2.1 C.2.2.2.1 (C.2.2.2.2.1 _ hlink) (C.2.2.2.2.1 _ h1) (C.2.2.2.2.1 _ h2) rfl (hl.1.trans C.2.2.1.symm) rfl hd hdd (by show 2 * 0 + _ + 12 ≤ 64 * d; omega) (kk H locs ls hw hS hl)
theorem sc_new (C : sa_C p s m args meth c cc own name nL ret D ad cA A) {idx ci n : Nat} {Cn : String} {T : u_T} {ty0 : Nat → FieldType} (F : sa_Cd ci Cn T n ty0) (hlink : Cond.classLink own idx Cn ∈ sa_T) (hs : sa_sh N = some (.inl ci)) (h0 : N0 ≤ N) (h1 : N + 1 ≤ N0 + k) (had : ad (N + 1) = ad N + 1) (hd : decode cc pc = .ok (.new idx, 3)) (kk : sa_Sc p l e s m args below meth c nL d D ad cA A N0 k rv τ (N + 1) (sa_nw σ N) (pc + 3) lv (.ref (ad N) :: st)) : sa_Sc p l e s m args below meth c nL d D ad cA A N0 k rv τ N σ pc lv st := by
  intro H locs ls hw hS hl
  obtain ⟨f1, f2, f3, f4, f5, f6, f7⟩ := F
  have hsz := sc_size hw hs
  obtain ⟨r1, r2, r3, r4⟩ := sc_room (N0 := N0) (k := k) hs h0 h1
  have hsl : sa_sz (.inl ci : Nat ⊕ (FieldType × Nat)) = n := f2.symm
  rw [hsl] at r2 r4
  have hKn := C.2.2.2.2.2.2.2.2.1.1 ci _ f1
  refine W.newcK C.1 C.2.1 C.2.2.2.1 (C.2.2.2.2.1 _ hlink) (C.2.2.2.2.1 _ f5) (C.2.2.2.2.1 _ f6) rfl hd r1 r2 hKn.2.1 hsz fun H1 kC hkC e1 z1 o1 => ?_
  have hob := (u_born ty0 C.2.2.2.2.1 f3 hKn hkC e1 f4)
  obtain ⟨hw1, hS1⟩ := sc_push C hw hS had hsz (by rw [z1, hsz]) (fun q hq => o1 q (by rw [← hsz]; exact hq)) (by
    rw [sa_ent_obj hs]
    refine ⟨_, f1, hob.to (fun j hj => ?_)⟩
    have hj' : j < sa_nf ci := by rw [← f2]; exact hj
    unfold vp_V
    rw [List.getD_eq_getElem?_getD, sa_fs_at hj', (f7 j hj).1]
    exact sa_nw_def (f7 j hj).2.1 (f7 j hj).2.2)
  rw [r3, r4]
  exact kk H1 locs ls hw1 hS1 hl
theorem sc_newa_int (C : sa_C p s m args meth c cc own name nL ret D ad cA A) {n : Int32} {N' : Nat} (hac : Cond.arrayClass .int ∈ sa_T) (hs : sa_sh N = some (.inr (.int, N'))) (hn : ¬ n < 0) (hN : n.toNatClampNeg = N') (hb : N' * 4 ≤ 536870912) (h0 : N0 ≤ N) (h1 : N + 1 ≤ N0 + k) (had : ad (N + 1) = ad N + 1) (hd : decode cc pc = .ok (.newarray .int, 2)) (kk : sa_Sc p l e s m args below meth c nL d D ad cA A N0 k rv τ (N + 1) (sa_nw σ N) (pc + 2) lv (.ref (ad N) :: st)) : sa_Sc p l e s m args below meth c nL d D ad cA A N0 k rv τ N σ pc lv (.int n :: st) := by
  intro H locs ls hw hS hl
  have hsz := sc_size hw hs
  obtain ⟨r1, r2, r3, r4⟩ := sc_room (N0 := N0) (k := k) hs h0 h1
  have hT := (C.2.2.2.2.2.2.2.2.1.2 0 _ rfl).2
  refine va_newaK (atype := .int) C.1 C.2.1 (C.2.2.2.2.1 _ hac) rfl hd rfl hn hN hb r1 r2 hsz fun H1 cA' e1 z1 o1 hAr hNm => ?_
  have hcA : cA' = cA .int := Option.some.inj (hNm.symm.trans hT)
  subst hcA
  obtain ⟨hw1, hS1⟩ := sc_push C hw hS had hsz (by rw [z1, hsz]) (fun q hq => o1 q (by rw [← hsz]; exact hq)) (by
    rw [sa_ent_arr hs]
    show H1[ad N]? = some (vp_cell (cA .int) (sa_arr ad (sa_nw σ N) .int N' N))
    rw [e1]
    simp only [sa_arr, sa_nw, va_up_at]
    rfl)
  have r3' : N - N0 + 1 = N + 1 - N0 := r3
  have r4' : sa_SL N - sa_SL N0 + N' = sa_SL (N + 1) - sa_SL N0 := r4
  rw [r3', r4']
  exact kk H1 locs ls hw1 hS1 hl
theorem sc_newa_long (C : sa_C p s m args meth c cc own name nL ret D ad cA A) {n : Int32} {N' : Nat} (hac : Cond.arrayClass .long ∈ sa_T) (hs : sa_sh N = some (.inr (.long, N'))) (hn : ¬ n < 0) (hN : n.toNatClampNeg = N') (hb : N' * 8 ≤ 536870912) (h0 : N0 ≤ N) (h1 : N + 1 ≤ N0 + k) (had : ad (N + 1) = ad N + 1) (hd : decode cc pc = .ok (.newarray .long, 2)) (kk : sa_Sc p l e s m args below meth c nL d D ad cA A N0 k rv τ (N + 1) (sa_nw σ N) (pc + 2) lv (.ref (ad N) :: st)) : sa_Sc p l e s m args below meth c nL d D ad cA A N0 k rv τ N σ pc lv (.int n :: st) := by
  intro H locs ls hw hS hl
  have hsz := sc_size hw hs
  obtain ⟨r1, r2, r3, r4⟩ := sc_room (N0 := N0) (k := k) hs h0 h1
  have hT := (C.2.2.2.2.2.2.2.2.1.2 1 _ rfl).2
  refine va_newaK (atype := .long) C.1 C.2.1 (C.2.2.2.2.1 _ hac) rfl hd rfl hn hN hb r1 r2 hsz fun H1 cA' e1 z1 o1 hAr hNm => ?_
  have hcA : cA' = cA .long := Option.some.inj (hNm.symm.trans hT)
  subst hcA
  obtain ⟨hw1, hS1⟩ := sc_push C hw hS had hsz (by rw [z1, hsz]) (fun q hq => o1 q (by rw [← hsz]; exact hq)) (by
    rw [sa_ent_arr hs]
    show H1[ad N]? = some (vp_cell (cA .long) (sa_arr ad (sa_nw σ N) .long N' N))
    rw [e1]
    simp only [sa_arr, sa_nw, va_up_at]
    rfl)
  have r3' : N - N0 + 1 = N + 1 - N0 := r3
  have r4' : sa_SL N - sa_SL N0 + N' = sa_SL (N + 1) - sa_SL N0 := r4
  rw [r3', r4']
  exact kk H1 locs ls hw1 hS1 hl
theorem sc_newa_byte (C : sa_C p s m args meth c cc own name nL ret D ad cA A) {n : Int32} {N' : Nat} (hac : Cond.arrayClass .byte ∈ sa_T) (hs : sa_sh N = some (.inr (.byte, N'))) (hn : ¬ n < 0) (hN : n.toNatClampNeg = N') (hb : N' * 1 ≤ 536870912) (h0 : N0 ≤ N) (h1 : N + 1 ≤ N0 + k) (had : ad (N + 1) = ad N + 1) (hd : decode cc pc = .ok (.newarray .byte, 2)) (kk : sa_Sc p l e s m args below meth c nL d D ad cA A N0 k rv τ (N + 1) (sa_nw σ N) (pc + 2) lv (.ref (ad N) :: st)) : sa_Sc p l e s m args below meth c nL d D ad cA A N0 k rv τ N σ pc lv (.int n :: st) := by
  intro H locs ls hw hS hl
  have hsz := sc_size hw hs
  obtain ⟨r1, r2, r3, r4⟩ := sc_room (N0 := N0) (k := k) hs h0 h1
  have hT := (C.2.2.2.2.2.2.2.2.1.2 2 _ rfl).2
  refine va_newaK (atype := .byte) C.1 C.2.1 (C.2.2.2.2.1 _ hac) rfl hd rfl hn hN hb r1 r2 hsz fun H1 cA' e1 z1 o1 hAr hNm => ?_
  have hcA : cA' = cA .byte := Option.some.inj (hNm.symm.trans hT)
  subst hcA
  obtain ⟨hw1, hS1⟩ := sc_push C hw hS had hsz (by rw [z1, hsz]) (fun q hq => o1 q (by rw [← hsz]; exact hq)) (by
    rw [sa_ent_arr hs]
    show H1[ad N]? = some (vp_cell (cA .byte) (sa_arr ad (sa_nw σ N) .byte N' N))
    rw [e1]
    simp only [sa_arr, sa_nw, va_up_at]
    rfl)
  have r3' : N - N0 + 1 = N + 1 - N0 := r3
  have r4' : sa_SL N - sa_SL N0 + N' = sa_SL (N + 1) - sa_SL N0 := r4
  rw [r3', r4']
  exact kk H1 locs ls hw1 hS1 hl
theorem sc_newa_boolean (C : sa_C p s m args meth c cc own name nL ret D ad cA A) {n : Int32} {N' : Nat} (hac : Cond.arrayClass .boolean ∈ sa_T) (hs : sa_sh N = some (.inr (.boolean, N'))) (hn : ¬ n < 0) (hN : n.toNatClampNeg = N') (hb : N' * 1 ≤ 536870912) (h0 : N0 ≤ N) (h1 : N + 1 ≤ N0 + k) (had : ad (N + 1) = ad N + 1) (hd : decode cc pc = .ok (.newarray .boolean, 2)) (kk : sa_Sc p l e s m args below meth c nL d D ad cA A N0 k rv τ (N + 1) (sa_nw σ N) (pc + 2) lv (.ref (ad N) :: st)) : sa_Sc p l e s m args below meth c nL d D ad cA A N0 k rv τ N σ pc lv (.int n :: st) := by
  intro H locs ls hw hS hl
  have hsz := sc_size hw hs
  obtain ⟨r1, r2, r3, r4⟩ := sc_room (N0 := N0) (k := k) hs h0 h1
  have hT := (C.2.2.2.2.2.2.2.2.1.2 3 _ rfl).2
  refine va_newaK (atype := .boolean) C.1 C.2.1 (C.2.2.2.2.1 _ hac) rfl hd rfl hn hN hb r1 r2 hsz fun H1 cA' e1 z1 o1 hAr hNm => ?_
  have hcA : cA' = cA .boolean := Option.some.inj (hNm.symm.trans hT)
  subst hcA
  obtain ⟨hw1, hS1⟩ := sc_push C hw hS had hsz (by rw [z1, hsz]) (fun q hq => o1 q (by rw [← hsz]; exact hq)) (by
    rw [sa_ent_arr hs]
    show H1[ad N]? = some (vp_cell (cA .boolean) (sa_arr ad (sa_nw σ N) .boolean N' N))
    rw [e1]
    simp only [sa_arr, sa_nw, va_up_at]
    rfl)
  have r3' : N - N0 + 1 = N + 1 - N0 := r3
  have r4' : sa_SL N - sa_SL N0 + N' = sa_SL (N + 1) - sa_SL N0 := r4
  rw [r3', r4']
  exact kk H1 locs ls hw1 hS1 hl
theorem sc_anew_Law (C : sa_C p s m args meth c cc own name nL ret D ad cA A) {idx : Nat} {n : Int32} {N' : Nat} (hlink : Cond.classLink own idx "SaltArmy$Law" ∈ sa_T) (hs : sa_sh N = some (.inr (.object "SaltArmy$Law", N'))) (hn : ¬ n < 0) (hN : n.toNatClampNeg = N') (hb : N' * 4 ≤ 536870912) (h0 : N0 ≤ N) (h1 : N + 1 ≤ N0 + k) (had : ad (N + 1) = ad N + 1) (hd : decode cc pc = .ok (.anewarray idx, 3)) (kk : sa_Sc p l e s m args below meth c nL d D ad cA A N0 k rv τ (N + 1) (sa_nw σ N) (pc + 3) lv (.ref (ad N) :: st)) : sa_Sc p l e s m args below meth c nL d D ad cA A N0 k rv τ N σ pc lv (.int n :: st) := by
  intro H locs ls hw hS hl
  have hsz := sc_size hw hs
  obtain ⟨r1, r2, r3, r4⟩ := sc_room (N0 := N0) (k := k) hs h0 h1
  obtain ⟨kA0, comp0, g1, g2, g3, g4⟩ := (C.2.2.2.2.2.2.2.2.1.2 4 _ rfl).2
  subst hN
  refine W.anew C.1 C.2.1 C.2.2.2.1 (C.2.2.2.2.1 _ hlink) (va_AO.use (C.2.2.2.2.2.2.2.2.2.2.2.2.2.2.2.1 "SaltArmy$Law" (by decide))) rfl hd rfl hn hb r1 r2 fun cA' kA comp f1 f2 f3 f4 => ?_
  have hcA : cA' = cA (.object "SaltArmy$Law") := Option.some.inj (f1.symm.trans g4)
  subst hcA
  obtain ⟨hw1, hS1⟩ := sc_push (H1 := H.push ({ cls := cA (.object "SaltArmy$Law"), slots := Array.replicate n.toNatClampNeg .null, vm := .none } : Cell)) C hw hS had hsz (by rw [Array.size_push]) (fun q hq => by rw [Array.getElem?_push, if_neg (Nat.ne_of_lt hq)]) (by
    rw [sa_ent_arr hs]
    show (H.push _)[ad N]? = some (vp_cell (cA (.object "SaltArmy$Law")) (sa_arr ad (sa_nw σ N) (.object "SaltArmy$Law") n.toNatClampNeg N))
    rw [← hsz, Array.getElem?_push_size]
    simp only [sa_arr, sa_nw, va_up_at]
    rw [vp_cell_q, arrV_new]
    rfl)
  have r3' : N - N0 + 1 = N + 1 - N0 := r3
  have r4' : sa_SL N - sa_SL N0 + n.toNatClampNeg = sa_SL (N + 1) - sa_SL N0 := r4
  rw [r3', r4', hsz]
  exact kk _ locs ls hw1 hS1 hl
theorem sc_anew_Orders (C : sa_C p s m args meth c cc own name nL ret D ad cA A) {idx : Nat} {n : Int32} {N' : Nat} (hlink : Cond.classLink own idx "SaltArmy$Orders" ∈ sa_T) (hs : sa_sh N = some (.inr (.object "SaltArmy$Orders", N'))) (hn : ¬ n < 0) (hN : n.toNatClampNeg = N') (hb : N' * 4 ≤ 536870912) (h0 : N0 ≤ N) (h1 : N + 1 ≤ N0 + k) (had : ad (N + 1) = ad N + 1) (hd : decode cc pc = .ok (.anewarray idx, 3)) (kk : sa_Sc p l e s m args below meth c nL d D ad cA A N0 k rv τ (N + 1) (sa_nw σ N) (pc + 3) lv (.ref (ad N) :: st)) : sa_Sc p l e s m args below meth c nL d D ad cA A N0 k rv τ N σ pc lv (.int n :: st) := by
  intro H locs ls hw hS hl
  have hsz := sc_size hw hs
  obtain ⟨r1, r2, r3, r4⟩ := sc_room (N0 := N0) (k := k) hs h0 h1
  obtain ⟨kA0, comp0, g1, g2, g3, g4⟩ := (C.2.2.2.2.2.2.2.2.1.2 5 _ rfl).2
  subst hN
  refine W.anew C.1 C.2.1 C.2.2.2.1 (C.2.2.2.2.1 _ hlink) (va_AO.use (C.2.2.2.2.2.2.2.2.2.2.2.2.2.2.2.1 "SaltArmy$Orders" (by decide))) rfl hd rfl hn hb r1 r2 fun cA' kA comp f1 f2 f3 f4 => ?_
  have hcA : cA' = cA (.object "SaltArmy$Orders") := Option.some.inj (f1.symm.trans g4)
  subst hcA
  obtain ⟨hw1, hS1⟩ := sc_push (H1 := H.push ({ cls := cA (.object "SaltArmy$Orders"), slots := Array.replicate n.toNatClampNeg .null, vm := .none } : Cell)) C hw hS had hsz (by rw [Array.size_push]) (fun q hq => by rw [Array.getElem?_push, if_neg (Nat.ne_of_lt hq)]) (by
    rw [sa_ent_arr hs]
    show (H.push _)[ad N]? = some (vp_cell (cA (.object "SaltArmy$Orders")) (sa_arr ad (sa_nw σ N) (.object "SaltArmy$Orders") n.toNatClampNeg N))
    rw [← hsz, Array.getElem?_push_size]
    simp only [sa_arr, sa_nw, va_up_at]
    rw [vp_cell_q, arrV_new]
    rfl)
  have r3' : N - N0 + 1 = N + 1 - N0 := r3
  have r4' : sa_SL N - sa_SL N0 + n.toNatClampNeg = sa_SL (N + 1) - sa_SL N0 := r4
  rw [r3', r4', hsz]
  exact kk _ locs ls hw1 hS1 hl
theorem sc_anew_Camp (C : sa_C p s m args meth c cc own name nL ret D ad cA A) {idx : Nat} {n : Int32} {N' : Nat} (hlink : Cond.classLink own idx "SaltArmy$Camp" ∈ sa_T) (hs : sa_sh N = some (.inr (.object "SaltArmy$Camp", N'))) (hn : ¬ n < 0) (hN : n.toNatClampNeg = N') (hb : N' * 4 ≤ 536870912) (h0 : N0 ≤ N) (h1 : N + 1 ≤ N0 + k) (had : ad (N + 1) = ad N + 1) (hd : decode cc pc = .ok (.anewarray idx, 3)) (kk : sa_Sc p l e s m args below meth c nL d D ad cA A N0 k rv τ (N + 1) (sa_nw σ N) (pc + 3) lv (.ref (ad N) :: st)) : sa_Sc p l e s m args below meth c nL d D ad cA A N0 k rv τ N σ pc lv (.int n :: st) := by
  intro H locs ls hw hS hl
  have hsz := sc_size hw hs
  obtain ⟨r1, r2, r3, r4⟩ := sc_room (N0 := N0) (k := k) hs h0 h1
  obtain ⟨kA0, comp0, g1, g2, g3, g4⟩ := (C.2.2.2.2.2.2.2.2.1.2 6 _ rfl).2
  subst hN
  refine W.anew C.1 C.2.1 C.2.2.2.1 (C.2.2.2.2.1 _ hlink) (va_AO.use (C.2.2.2.2.2.2.2.2.2.2.2.2.2.2.2.1 "SaltArmy$Camp" (by decide))) rfl hd rfl hn hb r1 r2 fun cA' kA comp f1 f2 f3 f4 => ?_
  have hcA : cA' = cA (.object "SaltArmy$Camp") := Option.some.inj (f1.symm.trans g4)
  subst hcA
  obtain ⟨hw1, hS1⟩ := sc_push (H1 := H.push ({ cls := cA (.object "SaltArmy$Camp"), slots := Array.replicate n.toNatClampNeg .null, vm := .none } : Cell)) C hw hS had hsz (by rw [Array.size_push]) (fun q hq => by rw [Array.getElem?_push, if_neg (Nat.ne_of_lt hq)]) (by
    rw [sa_ent_arr hs]
    show (H.push _)[ad N]? = some (vp_cell (cA (.object "SaltArmy$Camp")) (sa_arr ad (sa_nw σ N) (.object "SaltArmy$Camp") n.toNatClampNeg N))
    rw [← hsz, Array.getElem?_push_size]
    simp only [sa_arr, sa_nw, va_up_at]
    rw [vp_cell_q, arrV_new]
    rfl)
  have r3' : N - N0 + 1 = N + 1 - N0 := r3
  have r4' : sa_SL N - sa_SL N0 + n.toNatClampNeg = sa_SL (N + 1) - sa_SL N0 := r4
  rw [r3', r4', hsz]
  exact kk _ locs ls hw1 hS1 hl
theorem sc_obj {H : Heap} {id ci : Nat} (hw : sa_W0 D ad cA A N σ H) (hi : id < N) (hs : sa_sh id = some (.inl ci)) : (sa_ws ad cA N σ)[id]? = some (ad id, .inr (ci, sa_fs ad σ ci id)) := by
  rw [sa_ws_at hi, sa_ent_obj hs]
theorem sc_arr {H : Heap} {id n : Nat} {ty : FieldType} (hw : sa_W0 D ad cA A N σ H) (hi : id < N) (hs : sa_sh id = some (.inr (ty, n))) : (sa_ws ad cA N σ)[id]? = some (ad id, .inl (cA ty, sa_arr ad σ ty n id)) := by
  rw [sa_ws_at hi, sa_ent_arr hs]
theorem sc_put0 {σ1 : sa_St} {H H1 : Heap} {id : Nat} {e0 : va_E} (hw : sa_W0 D ad cA A N σ H) (hz : H1.size = H.size) (hP : va_P D sa_cl ((sa_ws ad cA N σ).set id (ad id, e0)) H1) (hD : va_D A ((sa_ws ad cA N σ).set id (ad id, e0))) (hid : sa_ent ad cA σ1 id = e0) (ho : ∀ i, i ≠ id → sa_ent ad cA σ1 i = sa_ent ad cA σ i) : sa_W0 D ad cA A N σ1 H1 := by
  rw [sa_ws_set hid ho] at hP hD
  exact ⟨hP, hD, by rw [hz]; exact hw.2.2⟩
/-- a field of the class itself, in its constructor -/
def sa_Fc (own : String) (idx ci k : Nat) (ty : FieldType) : Prop := ∃ (T : u_T) (N : Nat) (ty0 : Nat → FieldType), sa_cl[ci]? = some (own, T, N) ∧ k < N ∧ N = sa_nf ci ∧ (∀ w ∈ u_ws own T N, w ∈ sa_T) ∧ (∀ k, k < N → parseFieldDescriptor (T k).2.2.1 = some (ty0 k)) ∧ (∀ a, a < N → ∀ b, b < N → a ≠ b → (T a).2.1 ≠ (T b).2.1) ∧ Cond.fieldLink own idx (T k).1 (T k).2.1 (T k).2.2.1 ∈ sa_T ∧ (T k).1 = own ∧ ty0 k = ty ∧ sa_ft ci k = ty
theorem sc_putV (C : sa_C p s m args meth c cc own name nL ret D ad cA A) {idx ci kf id : Nat} {ty : FieldType} {v : Value} {σ1 : sa_St} (F : sa_Fc own idx ci kf ty) (hnm0 : name = "<init>") (hs : sa_sh id = some (.inl ci)) (hid : id < N) (hn : narrow ty v = v) (hfit : fits ty v = true) (hv : sa_val ad σ1 ty id kf = v) (h0 : ∀ j, j ≠ kf → ∀ t, sa_val ad σ1 t id j = sa_val ad σ t id j) (ho : ∀ i, i ≠ id → sa_ent ad cA σ1 i = sa_ent ad cA σ i) (hd : decode cc pc = .ok (.putfield idx, 3)) (kk : sa_Sc p l e s m args below meth c nL d D ad cA A N0 k rv τ N σ1 (pc + 3) lv st) : sa_Sc p l e s m args below meth c nL d D ad cA A N0 k rv τ N σ pc lv (v :: .ref (ad id) :: st) := by
  intro H locs ls hw hS hl
  obtain ⟨T, N', ty0, h1, h2, h3, h4, h5, h6, h7, h8, h9, h10⟩ := F
  subst h3
  have he := sc_obj hw hid hs
  have hap := va_apart (own := own) C.2.2.2.2.1 h4 ty0 h5 h6 C.2.2.2.2.2.2.2.2.1 h1
  obtain ⟨r, g1, cell, q1, q2, q3, q4⟩ := hw.1 id _ he
  have hr : r = (own, T, sa_nf ci) := Option.some.inj (g1.symm.trans h1)
  subst hr
  obtain ⟨hSl, hfc, kC, hkC, hkind⟩ := C.2.2.2.2.2.2.2.2.1.1 ci _ h1
  obtain ⟨cf, kf', fi, f, hi, hsl⟩ := hSl kf h2
  have hlay := C.2.2.2.2.1 _ (h4 _ (u_in_lay h2))
  have hst := (u_facts hfc hkC (u_lays C.2.2.2.2.1 h4 h2) hi).1
  have hdsc : parseFieldDescriptor (T kf).2.2.1 = some ty := by rw [h5 kf h2, h9]
  have hfsl : kf < (sa_fs ad σ ci id).length := by rw [sa_fs_len]; exact h2
  have fin : ∀ (H' : Heap), H'[ad id]? = some (cell.setSlot (D.2 ci kf) v) → H'.size = H.size → (∀ q, q ≠ ad id → H'[q]? = H[q]?) → sa_W0 D ad cA A N σ1 H' ∧ va_S A s.heap H' (locs ++ [⟨ad id, D.2 ci kf⟩]) := by
    intro H' e1 e2 e3
    refine ⟨sc_put0 hw e2 (hw.1.set (e := .inr (ci, (sa_fs ad σ ci id).set kf v)) hw.2.1 he ⟨_, h1, t_OB.to (V := updV (vp_V (sa_fs ad σ ci id)) kf v) ⟨_, e1, q2, q3, t_set q4 hap h2 v⟩ (fun j _ => vp_updV_set hfsl v j)⟩ e3) (hw.2.1.set he) ?_ ho, hS.put e2 e3 (hw.2.1.2 id _ he)⟩
    rw [sa_ent_obj hs]
    exact congrArg (fun z => Sum.inr (ci, z)) (sa_fs_set (σ := σ) (by rw [h10]; exact hv) (fun j hj => h0 j hj _))
  unfold u_lay at hlay
  by_cases hfin : (T kf).2.2.2 = true
  · rw [if_pos hfin] at hlay
    have hcf : m.cls = cf := by
      obtain ⟨_, _, c', _, _, _, -, -, hf', -, -, -, hown2, -⟩ := Cond.laysFinal_spec hlay
      have e1 : c' = cf := by have := hi.symm.trans hf'; simp at this; exact this.1.symm
      rw [h8] at hown2
      rw [← e1]; exact Option.some.inj (C.2.2.2.1.symm.trans hown2)
    have h6' := u_fits hfc hkC hkind (Or.inr hlay) hi hdsc hn hfit
    refine W.putFinK C.1 C.2.1 C.2.2.2.1 (C.2.2.2.2.1 _ h7) hi hst hcf (C.2.2.2.2.2.2.1.trans hnm0) (by rw [q2]; exact h6') q1 q3 (by rw [hsl]; exact k2_hasslot (q4 kf h2)) rfl rfl hd fun H' e1 e2 e3 => ?_
    rw [hsl] at e1 ⊢
    obtain ⟨w1, s1⟩ := fin H' e1 e2 e3
    exact kk H' _ ls w1 s1 hl
  · rw [if_neg hfin] at hlay
    have h6' := u_store hfc hkC hkind hlay hi hdsc hn hfit
    refine W.putK C.1 C.2.1 (f := f) ⟨C.2.2.2.1, C.2.2.2.2.1 _ h7, ⟨_, _, _, hi⟩, hst⟩ (by rw [q2]; exact h6') q1 q3 (by rw [hsl]; exact k2_hasslot (q4 kf h2)) rfl rfl hd fun H' e1 e2 e3 => ?_
    rw [hsl] at e1 ⊢
    obtain ⟨w1, s1⟩ := fin H' e1 e2 e3
    exact kk H' _ ls w1 s1 hl
theorem sc_putR (C : sa_C p s m args meth c cc own name nL ret D ad cA A) {idx ci kf id v : Nat} {ty : FieldType} (F : sa_Fc own idx ci kf ty) (hnm0 : name = "<init>") (hty : ty.isReference = true) (hs : sa_sh id = some (.inl ci)) (hid : id < N) (hd : decode cc pc = .ok (.putfield idx, 3)) (kk : sa_Sc p l e s m args below meth c nL d D ad cA A N0 k rv τ N (sa_upR σ id kf (v + 1)) (pc + 3) lv st) : sa_Sc p l e s m args below meth c nL d D ad cA A N0 k rv τ N σ pc lv (.ref (ad v) :: .ref (ad id) :: st) := by
  refine sc_putV C F hnm0 hs hid (by cases ty <;> first | rfl | (cases hty; done)) (by cases ty <;> first | rfl | (cases hty; done)) ?_ (fun j hj t => ?_) sa_upR_other hd kk
  · cases ty <;> first | (cases hty; done) | (simp only [sa_val, sa_upR, va_up_at]; rfl)
  · refine sa_val_other ?_ ?_ ?_ <;> simp only [sa_upR, va_up_at, va_up_no hj]
theorem sc_putI (C : sa_C p s m args meth c cc own name nL ret D ad cA A) {idx ci kf id : Nat} {v : Int32} (F : sa_Fc own idx ci kf .int) (hnm0 : name = "<init>") (hs : sa_sh id = some (.inl ci)) (hid : id < N) (hd : decode cc pc = .ok (.putfield idx, 3)) (kk : sa_Sc p l e s m args below meth c nL d D ad cA A N0 k rv τ N (sa_upI σ id kf v) (pc + 3) lv st) : sa_Sc p l e s m args below meth c nL d D ad cA A N0 k rv τ N σ pc lv (.int v :: .ref (ad id) :: st) := by
  refine sc_putV C F hnm0 hs hid rfl rfl ?_ (fun j hj t => ?_) sa_upI_other hd kk
  · simp only [sa_val, sa_upI, va_up_at]
  · refine sa_val_other ?_ ?_ ?_ <;> simp only [sa_upI, va_up_at, va_up_no hj]
theorem sc_getR (C : sa_C p s m args meth c cc own name nL ret D ad cA A) {idx ci kf id v : Nat} {ty : FieldType} {fin : Bool} (F : sa_Fd own idx ci kf ty fin) (hty : ty.isReference = true) (hs : sa_sh id = some (.inl ci)) (hid : id < N) (hv : σ.2.1 id kf = v + 1) (hd : decode cc pc = .ok (.getfield idx, 3)) (kk : sa_Sc p l e s m args below meth c nL d D ad cA A N0 k rv τ N σ (pc + 3) lv (.ref (ad v) :: st)) : sa_Sc p l e s m args below meth c nL d D ad cA A N0 k rv τ N σ pc lv (.ref (ad id) :: st) := by
  intro H locs ls hw hS hl
  obtain ⟨C0, T, N', ty0, h1, h2, h3, h4, h5, h6, h7, h8, h9, h10⟩ := F
  subst h3
  refine va_get C.1 C.2.1 C.2.2.2.2.1 h4 C.2.2.2.1 C.2.2.2.2.2.2.2.2.1 hw.1 id (sc_obj hw hid hs) h1 kf h2 (C.2.2.2.2.1 _ h7) (fun _ h => h) (v := .ref (ad v)) ?_ hd (kk H locs ls hw hS hl)
  rw [sa_fs_at h2, h10]
  cases ty <;> first | (cases hty; done) | (simp only [sa_val, hv]; rfl)
theorem sc_aast_Law (C : sa_C p s m args meth c cc own name nL ret D ad cA A) {id v n : Nat} {j : Int32} (hs : sa_sh id = some (.inr (.object "SaltArmy$Law", n))) (hid : id < N) (hj : ¬ (j < 0 ∨ n ≤ j.toNatClampNeg)) (hsv : sa_sh v = some (.inl 2)) (hvN : v < N) (hd : decode cc pc = .ok (.aastore, 1)) (kk : sa_Sc p l e s m args below meth c nL d D ad cA A N0 k rv τ N (sa_upR σ id j.toNatClampNeg (v + 1)) (pc + 1) lv st) : sa_Sc p l e s m args below meth c nL d D ad cA A N0 k rv τ N σ pc lv (.ref (ad v) :: .int j :: .ref (ad id) :: st) := by
  intro H locs ls hw hS hl
  have ha := sc_arr hw hid hs
  have hlt : j.toNatClampNeg < n := Nat.not_le.mp fun q => hj (Or.inr q)
  have h0 : ¬ j < 0 := fun q => hj (Or.inl q)
  obtain ⟨r', hr', cellV, g1, g2, g3, -⟩ := hw.1 v _ (sc_obj hw hvN hsv)
  have hcls := (C.2.2.2.2.2.2.2.2.1.1 2 (RX2, TX2, 3) rfl).2
  obtain ⟨kA, comp, k1, k2, k3, -⟩ := (C.2.2.2.2.2.2.2.2.1.2 4 _ rfl).2
  have hcomp : comp = D.1 2 := Option.some.inj (k3.symm.trans hcls.1)
  subst hcomp
  obtain ⟨kC, hkC, -⟩ := hcls.2
  refine W.aast C.1 C.2.1 (hw.1 id _ ha) (fun q h => by cases h) (fun h => by cases h) k1 k2 rfl hkC ⟨h0, by show _ < (arrV _ _ _).slots.size; rw [arrV_size]; exact hlt⟩ g1 (fun q h => by rw [g3] at h; cases h) (by rw [g2]; exact hkC) (by rw [g2]; exact va_assign hcls) rfl rfl hd fun H1 e1 z oq => ?_
  refine kk H1 _ ls (sc_put0 hw z (hw.1.set hw.2.1 ha (e := sa_ent ad cA (sa_upR σ id j.toNatClampNeg (v + 1)) id) ?_ oq) (hw.2.1.set ha) rfl sa_upR_other) (hS.put z oq (hw.2.1.2 id _ ha)) hl
  rw [sa_ent_arr hs]
  show H1[ad id]? = some (vp_cell _ _)
  rw [e1]
  simp only [sa_arr]
  rw [vp_cell_q, vp_cell_q, arrV_store]
  congr 2
  funext q
  by_cases hq : q = j.toNatClampNeg
  · subst hq
    simp [updV, sa_upR, va_up, va_rf, sa_ro]
  · simp [updV, sa_upR, va_up, hq]
theorem sc_aast_Orders (C : sa_C p s m args meth c cc own name nL ret D ad cA A) {id v n : Nat} {j : Int32} (hs : sa_sh id = some (.inr (.object "SaltArmy$Orders", n))) (hid : id < N) (hj : ¬ (j < 0 ∨ n ≤ j.toNatClampNeg)) (hsv : sa_sh v = some (.inl 4)) (hvN : v < N) (hd : decode cc pc = .ok (.aastore, 1)) (kk : sa_Sc p l e s m args below meth c nL d D ad cA A N0 k rv τ N (sa_upR σ id j.toNatClampNeg (v + 1)) (pc + 1) lv st) : sa_Sc p l e s m args below meth c nL d D ad cA A N0 k rv τ N σ pc lv (.ref (ad v) :: .int j :: .ref (ad id) :: st) := by
  intro H locs ls hw hS hl
  have ha := sc_arr hw hid hs
  have hlt : j.toNatClampNeg < n := Nat.not_le.mp fun q => hj (Or.inr q)
  have h0 : ¬ j < 0 := fun q => hj (Or.inl q)
  obtain ⟨r', hr', cellV, g1, g2, g3, -⟩ := hw.1 v _ (sc_obj hw hvN hsv)
  have hcls := (C.2.2.2.2.2.2.2.2.1.1 4 (RX4, TX4, 2) rfl).2
  obtain ⟨kA, comp, k1, k2, k3, -⟩ := (C.2.2.2.2.2.2.2.2.1.2 5 _ rfl).2
  have hcomp : comp = D.1 4 := Option.some.inj (k3.symm.trans hcls.1)
  subst hcomp
  obtain ⟨kC, hkC, -⟩ := hcls.2
  refine W.aast C.1 C.2.1 (hw.1 id _ ha) (fun q h => by cases h) (fun h => by cases h) k1 k2 rfl hkC ⟨h0, by show _ < (arrV _ _ _).slots.size; rw [arrV_size]; exact hlt⟩ g1 (fun q h => by rw [g3] at h; cases h) (by rw [g2]; exact hkC) (by rw [g2]; exact va_assign hcls) rfl rfl hd fun H1 e1 z oq => ?_
  refine kk H1 _ ls (sc_put0 hw z (hw.1.set hw.2.1 ha (e := sa_ent ad cA (sa_upR σ id j.toNatClampNeg (v + 1)) id) ?_ oq) (hw.2.1.set ha) rfl sa_upR_other) (hS.put z oq (hw.2.1.2 id _ ha)) hl
  rw [sa_ent_arr hs]
  show H1[ad id]? = some (vp_cell _ _)
  rw [e1]
  simp only [sa_arr]
  rw [vp_cell_q, vp_cell_q, arrV_store]
  congr 2
  funext q
  by_cases hq : q = j.toNatClampNeg
  · subst hq
    simp [updV, sa_upR, va_up, va_rf, sa_ro]
  · simp [updV, sa_upR, va_up, hq]
theorem sc_aast_Camp (C : sa_C p s m args meth c cc own name nL ret D ad cA A) {id v n : Nat} {j : Int32} (hs : sa_sh id = some (.inr (.object "SaltArmy$Camp", n))) (hid : id < N) (hj : ¬ (j < 0 ∨ n ≤ j.toNatClampNeg)) (hsv : sa_sh v = some (.inl 0)) (hvN : v < N) (hd : decode cc pc = .ok (.aastore, 1)) (kk : sa_Sc p l e s m args below meth c nL d D ad cA A N0 k rv τ N (sa_upR σ id j.toNatClampNeg (v + 1)) (pc + 1) lv st) : sa_Sc p l e s m args below meth c nL d D ad cA A N0 k rv τ N σ pc lv (.ref (ad v) :: .int j :: .ref (ad id) :: st) := by
  intro H locs ls hw hS hl
  have ha := sc_arr hw hid hs
  have hlt : j.toNatClampNeg < n := Nat.not_le.mp fun q => hj (Or.inr q)
  have h0 : ¬ j < 0 := fun q => hj (Or.inl q)
  obtain ⟨r', hr', cellV, g1, g2, g3, -⟩ := hw.1 v _ (sc_obj hw hvN hsv)
  have hcls := (C.2.2.2.2.2.2.2.2.1.1 0 (RX0, TX0, 3) rfl).2
  obtain ⟨kA, comp, k1, k2, k3, -⟩ := (C.2.2.2.2.2.2.2.2.1.2 6 _ rfl).2
  have hcomp : comp = D.1 0 := Option.some.inj (k3.symm.trans hcls.1)
  subst hcomp
  obtain ⟨kC, hkC, -⟩ := hcls.2
  refine W.aast C.1 C.2.1 (hw.1 id _ ha) (fun q h => by cases h) (fun h => by cases h) k1 k2 rfl hkC ⟨h0, by show _ < (arrV _ _ _).slots.size; rw [arrV_size]; exact hlt⟩ g1 (fun q h => by rw [g3] at h; cases h) (by rw [g2]; exact hkC) (by rw [g2]; exact va_assign hcls) rfl rfl hd fun H1 e1 z oq => ?_
  refine kk H1 _ ls (sc_put0 hw z (hw.1.set hw.2.1 ha (e := sa_ent ad cA (sa_upR σ id j.toNatClampNeg (v + 1)) id) ?_ oq) (hw.2.1.set ha) rfl sa_upR_other) (hS.put z oq (hw.2.1.2 id _ ha)) hl
  rw [sa_ent_arr hs]
  show H1[ad id]? = some (vp_cell _ _)
  rw [e1]
  simp only [sa_arr]
  rw [vp_cell_q, vp_cell_q, arrV_store]
  congr 2
  funext q
  by_cases hq : q = j.toNatClampNeg
  · subst hq
    simp [updV, sa_upR, va_up, va_rf, sa_ro]
  · simp [updV, sa_upR, va_up, hq]
theorem sc_alen_Law (C : sa_C p s m args meth c cc own name nL ret D ad cA A) {id n : Nat} {v : Int32} (hs : sa_sh id = some (.inr ((.object "SaltArmy$Law"), n))) (hid : id < N) (hv : Int32.ofNat n = v) (hd : decode cc pc = .ok (.arraylength, 1)) (kk : sa_Sc p l e s m args below meth c nL d D ad cA A N0 k rv τ N σ (pc + 1) lv (.int v :: st)) : sa_Sc p l e s m args below meth c nL d D ad cA A N0 k rv τ N σ pc lv (.ref (ad id) :: st) := by
  intro H locs ls hw hS hl
  exact va_alen C.1 C.2.1 C.2.2.2.2.2.2.2.2.1 hw.1 id 4 (sc_arr hw hid hs) rfl hv hd (kk H locs ls hw hS hl)
theorem sc_alen_Orders (C : sa_C p s m args meth c cc own name nL ret D ad cA A) {id n : Nat} {v : Int32} (hs : sa_sh id = some (.inr ((.object "SaltArmy$Orders"), n))) (hid : id < N) (hv : Int32.ofNat n = v) (hd : decode cc pc = .ok (.arraylength, 1)) (kk : sa_Sc p l e s m args below meth c nL d D ad cA A N0 k rv τ N σ (pc + 1) lv (.int v :: st)) : sa_Sc p l e s m args below meth c nL d D ad cA A N0 k rv τ N σ pc lv (.ref (ad id) :: st) := by
  intro H locs ls hw hS hl
  exact va_alen C.1 C.2.1 C.2.2.2.2.2.2.2.2.1 hw.1 id 5 (sc_arr hw hid hs) rfl hv hd (kk H locs ls hw hS hl)
theorem sc_alen_I (C : sa_C p s m args meth c cc own name nL ret D ad cA A) {id n : Nat} {v : Int32} (hs : sa_sh id = some (.inr (.int, n))) (hid : id < N) (hv : Int32.ofNat n = v) (hd : decode cc pc = .ok (.arraylength, 1)) (kk : sa_Sc p l e s m args below meth c nL d D ad cA A N0 k rv τ N σ (pc + 1) lv (.int v :: st)) : sa_Sc p l e s m args below meth c nL d D ad cA A N0 k rv τ N σ pc lv (.ref (ad id) :: st) := by
  intro H locs ls hw hS hl
  exact va_alen C.1 C.2.1 C.2.2.2.2.2.2.2.2.1 hw.1 id 0 (sc_arr hw hid hs) rfl hv hd (kk H locs ls hw hS hl)
theorem sc_inv (C : sa_C p s m args meth c cc own name nL ret D ad cA A) {d' k' : Nat} {y : MethodName} {bytes : ByteArray} {maxL n idx id : Nat} {av : (Nat → Nat) → List Value} {σ1 : sa_St} {As : List Value} (had : ∀ i, i < sa_all → ad (i + 1) = ad i + 1) (M : sa_Mc d' N k' y bytes maxL none av none σ σ1) (hcode : Cond.code y bytes maxL none ∈ sa_T) (hdesc : y.cls ≠ "java/lang/invoke/MethodHandle" ∧ y.cls ≠ "java/lang/invoke/VarHandle" ∧ (parseMethodDescriptor y.desc).map (fun d => d.parameters.length) = some n) (hini : Cond.initialized y.cls ∈ sa_T) (hnm0 : y.name = "<init>") (hinst : Cond.instanceMethod y ∈ sa_T) (hlink : Cond.methodLink own idx y ∈ sa_T) (hav : av ad = .ref (ad id) :: As) {st' : List Value} (hst : st' = As.reverse ++ .ref (ad id) :: st) (hn : As.length = n) (hw8 : (st.map fun v => v.category).sum ≤ 8) (hdd : d' + 1 ≤ d) (hmx : maxL ≤ 45) (h0 : N0 ≤ N) (h1 : N + k' ≤ N0 + k) (hd : decode cc pc = .ok (.invokespecial idx, 3)) (kk : sa_Sc p l e s m args below meth c nL d D ad cA A N0 k rv τ (N + k') σ1 (pc + 3) lv st) : sa_Sc p l e s m args below meth c nL d D ad cA A N0 k rv τ N σ pc lv st' := by
  intro H locs ls hw hS hl
  subst hst
  have hM := M l D ad cA A had
  rw [hav] at hM
  have m0 := sa_SL_mono h0
  have m1 := sa_SL_mono (Nat.le_add_right N k')
  have m2 := sa_SL_mono h1
  refine sa_after (va_runI (As := As) (rest := st) ⟨C.1, C.2.1, C.2.2.1, C.2.2.2.1, C.2.2.2.2.1⟩ hM ⟨callB_of n C.2.2.2.2.1 (sa_good hcode) rfl rfl rfl (C.2.2.2.2.1 _ hini) (C.2.2.2.2.1 _ hlink) hdesc ⟨hdd, by show 8 + (maxL + 11) + 64 * d' ≤ 64 * d; omega⟩, hnm0, C.2.2.2.2.1 _ hinst⟩ ⟨sa_blind, fun U hU hW => ⟨rfl, by rw [hU]; exact hw, by rw [hU]; exact C.2.2.2.2.2.2.2.2.into hW hS⟩⟩ rfl hn hl.1 rfl (lv_room hw8) hd ⟨by show (N - N0) + k' ≤ k; omega, by show (sa_SL N - sa_SL N0) + (sa_SL (N + k') - sa_SL N) ≤ sa_SL (N0 + k) - sa_SL N0; omega⟩) hS (fun H1 locs1 hw1 hS1 => ?_)
  have e1 : (N - N0) + k' = (N + k') - N0 := by omega
  have e2 : (sa_SL N - sa_SL N0) + (sa_SL (N + k') - sa_SL N) = sa_SL (N + k') - sa_SL N0 := by omega
  rw [e1, e2]
  exact kk H1 locs1 ls hw1 hS1 hl
theorem sc_invN (C : sa_C p s m args meth c cc own name nL ret D ad cA A) {d' k' : Nat} {y : MethodName} {bytes : ByteArray} {maxL n idx id : Nat} {av : (Nat → Nat) → List Value} {σ1 : sa_St} {As : List Value} (had : ∀ i, i < sa_all → ad (i + 1) = ad i + 1) (M : sa_Mc d' N k' y bytes maxL none av none σ σ1) (hcode : Cond.code y bytes maxL none ∈ sa_T) (hdesc : y.cls ≠ "java/lang/invoke/MethodHandle" ∧ y.cls ≠ "java/lang/invoke/VarHandle" ∧ (parseMethodDescriptor y.desc).map (fun d => d.parameters.length) = some n) (hini : Cond.initialized y.cls ∈ sa_T) (hnm0 : y.name = "<init>") (hinst : Cond.instanceMethod y ∈ sa_T) (hlink : Cond.methodLinkNest own idx y "SaltArmy" ∈ sa_nest) (hav : av ad = .ref (ad id) :: As) {st' : List Value} (hst : st' = As.reverse ++ .ref (ad id) :: st) (hn : As.length = n) (hw8 : (st.map fun v => v.category).sum ≤ 8) (hdd : d' + 1 ≤ d) (hmx : maxL ≤ 45) (h0 : N0 ≤ N) (h1 : N + k' ≤ N0 + k) (hd : decode cc pc = .ok (.invokespecial idx, 3)) (kk : sa_Sc p l e s m args below meth c nL d D ad cA A N0 k rv τ (N + k') σ1 (pc + 3) lv st) : sa_Sc p l e s m args below meth c nL d D ad cA A N0 k rv τ N σ pc lv st' := by
  intro H locs ls hw hS hl
  subst hst
  have hM := M l D ad cA A had
  rw [hav] at hM
  have m0 := sa_SL_mono h0
  have m1 := sa_SL_mono (Nat.le_add_right N k')
  have m2 := sa_SL_mono h1
  refine sa_after (va_runIN (As := As) (rest := st) ⟨C.1, C.2.1, C.2.2.1, C.2.2.2.1, C.2.2.2.2.1⟩ hM ⟨va_cnB n C.2.2.2.2.1 (sa_good hcode) rfl rfl rfl (C.2.2.2.2.2.2.2.2.2.2.2.2.2.2.1 _ hlink) (C.2.2.2.2.1 _ hini) hdesc ⟨hdd, by show 8 + (maxL + 11) + 64 * d' ≤ 64 * d; omega⟩, hnm0, C.2.2.2.2.1 _ hinst⟩ ⟨sa_blind, fun U hU hW => ⟨rfl, by rw [hU]; exact hw, by rw [hU]; exact C.2.2.2.2.2.2.2.2.into hW hS⟩⟩ rfl hn hl.1 rfl (lv_room hw8) hd ⟨by show (N - N0) + k' ≤ k; omega, by show (sa_SL N - sa_SL N0) + (sa_SL (N + k') - sa_SL N) ≤ sa_SL (N0 + k) - sa_SL N0; omega⟩) hS (fun H1 locs1 hw1 hS1 => ?_)
  have e1 : (N - N0) + k' = (N + k') - N0 := by omega
  have e2 : (sa_SL N - sa_SL N0) + (sa_SL (N + k') - sa_SL N) = sa_SL (N + k') - sa_SL N0 := by omega
  rw [e1, e2]
  exact kk H1 locs1 ls hw1 hS1 hl
theorem sc_vret (C : sa_C p s m args meth c cc own name nL none D ad cA A) {N1 : Nat} (h1 : N1 = N0 + k) (hd : decode cc pc = .ok (.return_, 1)) : sa_Sc p l e s m args below meth c nL d D ad cA A N0 k none σ N1 σ pc lv [] := by
  intro H locs ls hw hS hl
  subst h1
  have e1 : N0 + k - N0 = k := by omega
  rw [e1]
  exact W.vret C.1 C.2.1 C.2.2.2.2.2.1 (fun t ht _ => ⟨rfl, by rw [ht]; exact hw, hS.F ht⟩) hS.2.2 hd C.2.2.2.2.2.2.2.1
end SACTOR
