/-! guards, texts, static rows copied, switches -/
theorem sa_gd_ok {α : Type} {ci id : Nat} {f : sa_M α} {σ τ : sa_St} {r : α} (h : sa_gd ci id f σ = some (r, τ)) : sa_sh id = some (.inl ci) := by
  unfold sa_gd at h
  by_cases hs : sa_sh id = some (.inl ci)
  · exact hs
  · rw [if_neg hs] at h
    cases h
def sa_gdS {α : Type} (id : Nat) (f : sa_M α) : sa_M α := fun σ => if 1000 ≤ id ∧ id < 1010 then f σ else none
theorem sa_gdS_ok {α : Type} {id : Nat} {f : sa_M α} {σ τ : sa_St} {r : α} (h : sa_gdS id f σ = some (r, τ)) : 1000 ≤ id ∧ id < 1010 := by
  unfold sa_gdS at h
  by_cases hs : 1000 ≤ id ∧ id < 1010
  · exact hs
  · rw [if_neg hs] at h
    cases h
/-- a constant text's bytes: where they lie; their number; one of them -/
def sa_kval (id : Nat) : sa_M Nat := fun σ => if 1000 ≤ id ∧ id < 1010 then some (3000 + (id - 1000), σ) else none
def sa_kcod (id : Nat) : sa_M Int32 := fun σ => if 1000 ≤ id ∧ id < 1010 then some (0, σ) else none
def sa_klen (id : Nat) : sa_M Int32 := fun σ => if 3000 ≤ id ∧ id < 3010 then some (nI (sa_slen.getD (id - 3000) 0), σ) else none
def sa_kld (id : Nat) (j : Int32) : sa_M Int32 := fun σ => if (3000 ≤ id ∧ id < 3010) ∧ ¬ (j < 0 ∨ sa_slen.getD (id - 3000) 0 ≤ j.toNatClampNeg) then some ((sa_byt.getD (id - 3000) []).getD j.toNatClampNeg 0, σ) else none
def sa_retB (v : Int32) : sa_M Int32 := fun σ => if vp_nar .byte v = v then some (v, σ) else none
def sa_cpT (j : Nat) (sp : Int32) (a : Nat) (dp n : Int32) : sa_M Unit := fun σ => if sp < 0 ∨ dp < 0 ∨ n < 0 ∨ (sa_row j).length < sp.toNatClampNeg + n.toNatClampNeg ∨ sa_al .int a < dp.toNatClampNeg + n.toNatClampNeg ∨ sa_al .int a = 0 then none else some ((), (va_up σ.1 a (va_cpy (fun i => (sa_row j).getD i 0) (σ.1 a) sp.toNatClampNeg dp.toNatClampNeg n.toNatClampNeg), σ.2))
theorem sa_ne {x : Int32} {k : Int32} (h : ¬ x = k) : x.toInt ≠ k.toInt := fun q => h (Int32.toInt_inj.mp q)
theorem sa_out3 {x : Int32} (c0 : ¬ x = 0) (c1 : ¬ x = 1) (c2 : ¬ x = 2) : x.toInt < 0 ∨ 2 < x.toInt := by
  have h0 : x.toInt ≠ 0 := sa_ne c0
  have h1 : x.toInt ≠ 1 := sa_ne c1
  have h2 : x.toInt ≠ 2 := sa_ne c2
  omega
theorem sa_out4 {x : Int32} (c0 : ¬ x = 0) (c1 : ¬ x = 1) (c2 : ¬ x = 2) (c3 : ¬ x = 3) : x.toInt < 0 ∨ 3 < x.toInt := by
  have h0 : x.toInt ≠ 0 := sa_ne c0
  have h1 : x.toInt ≠ 1 := sa_ne c1
  have h2 : x.toInt ≠ 2 := sa_ne c2
  have h3 : x.toInt ≠ 3 := sa_ne c3
  omega
theorem sa_out14 {x : Int32} (c0 : ¬ x = 0) (c1 : ¬ x = 1) (c2 : ¬ x = 2) (c3 : ¬ x = 3) (c4 : ¬ x = 4) (c5 : ¬ x = 5) (c6 : ¬ x = 6) (c7 : ¬ x = 7) (c8 : ¬ x = 8) (c9 : ¬ x = 9) (c10 : ¬ x = 10) (c11 : ¬ x = 11) (c12 : ¬ x = 12) (c13 : ¬ x = 13) : x.toInt < 0 ∨ 13 < x.toInt := by
  have h0 : x.toInt ≠ 0 := sa_ne c0
  have h1 : x.toInt ≠ 1 := sa_ne c1
  have h2 : x.toInt ≠ 2 := sa_ne c2
  have h3 : x.toInt ≠ 3 := sa_ne c3
  have h4 : x.toInt ≠ 4 := sa_ne c4
  have h5 : x.toInt ≠ 5 := sa_ne c5
  have h6 : x.toInt ≠ 6 := sa_ne c6
  have h7 : x.toInt ≠ 7 := sa_ne c7
  have h8 : x.toInt ≠ 8 := sa_ne c8
  have h9 : x.toInt ≠ 9 := sa_ne c9
  have h10 : x.toInt ≠ 10 := sa_ne c10
  have h11 : x.toInt ≠ 11 := sa_ne c11
  have h12 : x.toInt ≠ 12 := sa_ne c12
  have h13 : x.toInt ≠ 13 := sa_ne c13
  omega
theorem sa_out17 {x : Int32} (c0 : ¬ x = 0) (c1 : ¬ x = 1) (c2 : ¬ x = 2) (c3 : ¬ x = 3) (c4 : ¬ x = 4) (c5 : ¬ x = 5) (c6 : ¬ x = 6) (c7 : ¬ x = 7) (c8 : ¬ x = 8) (c9 : ¬ x = 9) (c10 : ¬ x = 10) (c11 : ¬ x = 11) (c12 : ¬ x = 12) (c13 : ¬ x = 13) (c14 : ¬ x = 14) (c15 : ¬ x = 15) (c16 : ¬ x = 16) : x.toInt < 0 ∨ 16 < x.toInt := by
  rcases sa_out14 c0 c1 c2 c3 c4 c5 c6 c7 c8 c9 c10 c11 c12 c13 with h | h
  · exact Or.inl h
  · have h14 : x.toInt ≠ 14 := sa_ne c14
    have h15 : x.toInt ≠ 15 := sa_ne c15
    have h16 : x.toInt ≠ 16 := sa_ne c16
    omega
section SACOPY
variable {p : Program} {l : Launch} {e : Env} {R : Room} {s : State} {m : MethodId} {args : Array Value} {below : List Frame} {meth : Method} {c : Code} {H : Heap} {locs : List Loc} {cells slots : Nat} {Q : State → Prop}
variable {cc : ByteArray} {pc : Nat} {ls : Array Slot} {rest : List Value} {D : va_G} {cl : List vw_C} {A : Nat → Prop} {a : Nat} {tys : List (ClassId × FieldType)} {ws : va_W}
/-- System.arraycopy out of a static row of ints (follows the kit's row for a text's bytes) -/
theorem sa_copyT (hexec : p.tables.exec = Jvm.exec) (hb : c.code = cc) (hml : c.maxLocals = ls.size) {own : String} {index : Nat} (hown : s.vm.findClass own = some m.cls) (hlink : (Cond.methodLink own index arraycopyName).before args s = true) (hnat : (Cond.native arraycopyName).before args s = true) (hstat : (Cond.static arraycopyName).before args s = true) (hini : (Cond.initialized "java/lang/System").before args s = true)
    (hK : va_K D cl tys s) (hP : va_P D cl ws H) (hD : va_D A ws) (hS : va_S A s.heap H locs) {b0 n0 : Nat} {f : Nat → Int32} (hX : va_T .int b0 n0 (fun j => .int (f j)) A s s.heap) (q1 t1 : Nat) {c1 : ClassId} {n1 : Nat} {g : Nat → Int32} (ha1 : ws[q1]? = some (a, .inl (c1, n1, .inl g))) (ht1 : tys[t1]? = some (c1, .int))
    {sp dp n : Int32} (h1 : ¬ sp < 0) (h2 : ¬ dp < 0) (h3 : ¬ n < 0) (h4 : sp.toNatClampNeg + n.toNatClampNeg ≤ n0) (h5 : dp.toNatClampNeg + n.toNatClampNeg ≤ n1)
    (hframes : 1 ≤ R.frames) (hlocals : (rest.map fun v => v.category).sum + (nativeFrameWords "java/lang/System" "arraycopy" 5 + 11) ≤ R.locals) (hdg : decode cc pc = .ok (.invokestatic index, 3))
    (kk : ∀ (H1 : Heap) (locs1 : List Loc), va_P D cl (ws.set q1 (a, .inl (c1, n1, .inl (va_cpy f g sp.toNatClampNeg dp.toNatClampNeg n.toNatClampNeg)))) H1 → va_D A (ws.set q1 (a, .inl (c1, n1, .inl (va_cpy f g sp.toNatClampNeg dp.toNatClampNeg n.toNatClampNeg)))) → va_S A s.heap H1 locs1 → W p l e R s m args below meth c H1 locs1 cells slots Q (F0 m (pc + 3) ls rest)) : W p l e R s m args below meth c H locs cells slots Q (F0 m pc ls (.int n :: .int dp :: .ref a :: .int sp :: .ref b0 :: rest)) := by
  have nn : ∀ z : Int32, ¬ z < 0 → z.toInt = (z.toNatClampNeg : Int) := by
    intro z hz
    have hz0 : (0 : Int) ≤ z.toInt := by
      have := Int32.not_lt.mp hz
      simpa using Int32.le_iff_toInt_le.mp this
    show z.toInt = ((z.toInt.toNat : Nat) : Int)
    omega
  intro T hT X
  obtain ⟨scr, hs1, hs2, hs3, hs4, -, hs5, hs7⟩ := hX
  have hc0 : H[b0]? = some scr := by rw [hS.2.1 b0 (Array.getElem?_eq_some_iff.mp hs1).1 hs7]; exact hs1
  have hc1 : H[a]? = some (vp_cell c1 (n1, .inl g)) := hP q1 _ ha1
  obtain ⟨hs6, k0, hk0, cm0, hkk0⟩ := hs2
  obtain ⟨-, k1, hk1, cm1, hkk1⟩ := (hK.2 t1 _ ht1).1 n1 (fun j => .int (g j))
  obtain ⟨vm', X', step⟩ := X.arraycopy hexec hown hlink hnat hstat hini (src := b0) (dst := a) (cs := scr) (cd := vp_cell c1 (n1, .inl g)) (srcPos := sp) (destPos := dp) (n := n) (by rw [hT]; exact hc0) (by rw [hT]; exact hc1)
    hs6 (fun _ h => by cases h) hs3 (fun h => by cases h) hk0 hk1 hkk0 hkk1 (by simp [refKind]) h1 h2 h3
    (by rw [nn sp h1, nn n h3]; omega)
    (by rw [nn dp h2, nn n h3]; show ¬ _ > ((arrV c1 n1 (fun j => .int (g j))).slots.size : Int); rw [arrV_size]; omega)
    (fun vm₁ _ i hi => by
      have e : scr.slots.getD (sp.toNatClampNeg + i) .null = .int (f (sp.toNatClampNeg + i)) := by
        rw [Array.getD_eq_getD_getElem?, hs5 _ (by omega)]
        rfl
      refine ⟨?_, ?_⟩
      · rw [e]
        rfl
      · rw [e]
        exact trivial)
    (g := F0 m pc ls (.int n :: .int dp :: .ref a :: .int sp :: .ref b0 :: rest)) rfl (by rw [hml]) (rest := rest) rfl (by rw [hb]; exact hdg) hframes (by show 2 * 0 + _ + _ ≤ _; omega)
  have e1 : copied scr (vp_cell c1 (n1, .inl g)) sp dp n = vp_cell c1 (n1, .inl (va_cpy f g sp.toNatClampNeg dp.toNatClampNeg n.toNatClampNeg)) := va_copiedX (fun z => .int z) scr c1 f g hs5 h4
  rw [e1] at X' step
  have hl : a < H.size := (Array.getElem?_eq_some_iff.mp hc1).1
  have hheap : ((T.setVm vm').setCell a (vp_cell c1 (n1, .inl (va_cpy f g sp.toNatClampNeg dp.toNatClampNeg n.toNatClampNeg)))).heap = H.setIfInBounds a (vp_cell c1 (n1, .inl (va_cpy f g sp.toNatClampNeg dp.toNatClampNeg n.toNatClampNeg))) := by rw [← hT]; rfl
  have oq : ∀ q : Nat, q ≠ a → (H.setIfInBounds a (vp_cell c1 (n1, .inl (va_cpy f g sp.toNatClampNeg dp.toNatClampNeg n.toNatClampNeg))))[q]? = H[q]? := fun q hq => by simp [Array.getElem?_setIfInBounds, Ne.symm hq]
  obtain ⟨t, a1, b1⟩ := kk _ _ (hP.set hD ha1 (show (H.setIfInBounds a _)[a]? = some _ by simp [Array.getElem?_setIfInBounds, hl]) oq) (hD.set ha1) ⟨by simp; exact hS.1, fun q g1 g2 => by
      rw [oq q (fun e => g2 (by rw [e]; exact hD.2 q1 _ ha1))]
      exact hS.2.1 q g1 g2, fun q hq => by
      rcases List.mem_append.mp hq with h | h
      · exact hS.2.2 q h
      · obtain ⟨z, -, hz⟩ := List.mem_map.mp h
        rw [← hz]
        exact hD.2 q1 _ ha1⟩ _ hheap X'
  exact ⟨t, step t a1, b1⟩
end SACOPY
section SAMORE
variable {α β : Type} {p : Program} {l : Launch} {e : Env} {s : State} {m : MethodId} {args : Array Value} {below : List Frame} {meth : Method} {c : Code} {nL d : Nat} {D : va_G} {ad : Nat → Nat} {cA : FieldType → ClassId} {A : Nat → Prop} {enc : α → Option Value}
variable {cc : ByteArray} {own name : String} {ret : Option FieldType} {pc : Nat} {lv : List (Nat × Value)} {st : List Value} {f : sa_M α}
theorem sa_gdI {ci id : Nat} (k : sa_Sg p l e s m args below meth c nL d D ad cA A enc pc lv st f) : sa_Sg p l e s m args below meth c nL d D ad cA A enc pc lv st (sa_gd ci id f) := by
  intro σ r τ hf H locs ls hw hS hl
  have hs := sa_gd_ok hf
  unfold sa_gd at hf
  rw [if_pos hs] at hf
  exact k σ r τ hf H locs ls hw hS hl
theorem sa_ldcS (C : sa_C p s m args meth c cc own name nL ret D ad cA A) {i t : Nat} (j : Nat) (hq : sa_strs[j]? = some (own, i, t)) (hd : decode cc pc = .ok (.ldc i, 2)) (k : sa_Sg p l e s m args below meth c nL d D ad cA A enc (pc + 2) lv (.ref (ad (1000 + t)) :: st) f) : sa_Sg p l e s m args below meth c nL d D ad cA A enc pc lv st f := by
  intro σ r τ hf H locs ls hw hS hl
  exact va_ldcS C.1 C.2.1 C.2.2.2.1 (C.2.2.2.2.2.2.2.2.2.2.2.1 _ (List.mem_of_getElem? hq)) hd (k σ r τ hf H locs ls hw hS hl)
theorem sa_ldcSw (C : sa_C p s m args meth c cc own name nL ret D ad cA A) {i t : Nat} (j : Nat) (hq : sa_strs[j]? = some (own, i, t)) (hd : decode cc pc = .ok (.ldc_w i, 3)) (k : sa_Sg p l e s m args below meth c nL d D ad cA A enc (pc + 3) lv (.ref (ad (1000 + t)) :: st) f) : sa_Sg p l e s m args below meth c nL d D ad cA A enc pc lv st f := by
  intro σ r τ hf H locs ls hw hS hl T hT X
  obtain ⟨t2, a1, b1⟩ := k σ r τ hf H locs ls hw hS hl T hT X
  have hZ := C.2.2.2.2.2.2.2.2.2.2.2.1 _ (List.mem_of_getElem? hq)
  exact ⟨t2, X.ldcStringW C.1 C.2.2.2.1 hZ.1 hZ.2 (g := F0 m pc ls st) rfl (by rw [C.2.1]; exact hd) t2 a1, b1⟩
theorem sa_gdSI {id : Nat} (k : sa_Sg p l e s m args below meth c nL d D ad cA A enc pc lv st f) : sa_Sg p l e s m args below meth c nL d D ad cA A enc pc lv st (sa_gdS id f) := by
  intro σ r τ hf H locs ls hw hS hl
  have hs := sa_gdS_ok hf
  unfold sa_gdS at hf
  rw [if_pos hs] at hf
  exact k σ r τ hf H locs ls hw hS hl
theorem sa_failI : sa_Sg p l e s m args below meth c nL d D ad cA A enc pc lv st sa_fail := by
  intro σ r τ hf
  cases hf
theorem sa_kid {id : Nat} (h : 1000 ≤ id ∧ id < 1010) : ∃ i, i < 10 ∧ id = 1000 + i := ⟨id - 1000, by omega, by omega⟩
theorem sa_kid3 {id : Nat} (h : 3000 ≤ id ∧ id < 3010) : ∃ i, i < 10 ∧ id = 3000 + i := ⟨id - 3000, by omega, by omega⟩
theorem sa_getKv (C : sa_C p s m args meth c cc own name nL ret D ad cA A) {idx id : Nat} {g : Nat → sa_M α} (hlink : Cond.fieldLink own idx "java/lang/String" "value" "[B" ∈ sa_T) (hd : decode cc pc = .ok (.getfield idx, 3)) (kk : ∀ y : Nat, sa_Sg p l e s m args below meth c nL d D ad cA A enc (pc + 3) lv (.ref (ad y) :: st) (g y)) : sa_Sg p l e s m args below meth c nL d D ad cA A enc pc lv (.ref (ad id) :: st) (sa_bnd (sa_kval id) g) := by
  intro σ r τ hf H locs ls hw hS hl
  obtain ⟨a, σ1, hx, hg⟩ := sa_bnd_some hf
  unfold sa_kval at hx
  by_cases hs : 1000 ≤ id ∧ id < 1010
  · rw [if_pos hs] at hx
    obtain ⟨h1, h2⟩ := Prod.mk.inj (Option.some.inj hx)
    subst h1
    subst h2
    obtain ⟨i, hi, rfl⟩ := sa_kid hs
    rw [Nat.add_sub_cancel_left] at hg
    exact vk_getf C.1 C.2.1 (C.2.2.2.2.2.2.2.2.2.2.1.1 i hi).2.2.1 hS C.2.2.2.1 (C.2.2.2.2.1 _ hlink) (fun _ h => h) hd (kk _ _ r τ hg H locs ls hw hS hl)
  · rw [if_neg hs] at hx
    cases hx
theorem sa_getKc (C : sa_C p s m args meth c cc own name nL ret D ad cA A) {idx id : Nat} {g : Int32 → sa_M α} (hlink : Cond.fieldLink own idx "java/lang/String" "coder" "B" ∈ sa_T) (hd : decode cc pc = .ok (.getfield idx, 3)) (kk : ∀ y : Int32, sa_Sg p l e s m args below meth c nL d D ad cA A enc (pc + 3) lv (.int y :: st) (g y)) : sa_Sg p l e s m args below meth c nL d D ad cA A enc pc lv (.ref (ad id) :: st) (sa_bnd (sa_kcod id) g) := by
  intro σ r τ hf H locs ls hw hS hl
  obtain ⟨a, σ1, hx, hg⟩ := sa_bnd_some hf
  unfold sa_kcod at hx
  by_cases hs : 1000 ≤ id ∧ id < 1010
  · rw [if_pos hs] at hx
    cases hx
    obtain ⟨i, hi, rfl⟩ := sa_kid hs
    exact vk_getf C.1 C.2.1 (C.2.2.2.2.2.2.2.2.2.2.1.1 i hi).2.1 hS C.2.2.2.1 (C.2.2.2.2.1 _ hlink) (fun _ h => h) hd (kk _ _ r τ hg H locs ls hw hS hl)
  · rw [if_neg hs] at hx
    cases hx
theorem sa_lenK (C : sa_C p s m args meth c cc own name nL ret D ad cA A) {id : Nat} {g : Int32 → sa_M α} (hd : decode cc pc = .ok (.arraylength, 1)) (kk : ∀ y : Int32, sa_Sg p l e s m args below meth c nL d D ad cA A enc (pc + 1) lv (.int y :: st) (g y)) : sa_Sg p l e s m args below meth c nL d D ad cA A enc pc lv (.ref (ad id) :: st) (sa_bnd (sa_klen id) g) := by
  intro σ r τ hf H locs ls hw hS hl
  obtain ⟨a, σ1, hx, hg⟩ := sa_bnd_some hf
  unfold sa_klen at hx
  by_cases hs : 3000 ≤ id ∧ id < 3010
  · rw [if_pos hs] at hx
    obtain ⟨h1, h2⟩ := Prod.mk.inj (Option.some.inj hx)
    subst h1
    subst h2
    obtain ⟨i, hi, rfl⟩ := sa_kid3 hs
    rw [Nat.add_sub_cancel_left] at hg
    exact va_tlen C.1 C.2.1 (C.2.2.2.2.2.2.2.2.2.2.1.1 i hi).2.2.2 hS rfl hd (kk _ _ r τ hg H locs ls hw hS hl)
  · rw [if_neg hs] at hx
    cases hx
theorem sa_baldK (C : sa_C p s m args meth c cc own name nL ret D ad cA A) {id : Nat} {j : Int32} {g : Int32 → sa_M α} (hd : decode cc pc = .ok (.baload, 1)) (kk : ∀ y : Int32, sa_Sg p l e s m args below meth c nL d D ad cA A enc (pc + 1) lv (.int y :: st) (g y)) : sa_Sg p l e s m args below meth c nL d D ad cA A enc pc lv (.int j :: .ref (ad id) :: st) (sa_bnd (sa_kld id j) g) := by
  intro σ r τ hf H locs ls hw hS hl
  obtain ⟨a, σ1, hx, hg⟩ := sa_bnd_some hf
  unfold sa_kld at hx
  by_cases hs : (3000 ≤ id ∧ id < 3010) ∧ ¬ (j < 0 ∨ sa_slen.getD (id - 3000) 0 ≤ j.toNatClampNeg)
  · rw [if_pos hs] at hx
    obtain ⟨h1, h2⟩ := Prod.mk.inj (Option.some.inj hx)
    subst h1
    subst h2
    obtain ⟨i, hi, rfl⟩ := sa_kid3 hs.1
    have hj := hs.2
    rw [Nat.add_sub_cancel_left] at hg hj
    exact va_tb C.1 C.2.1 (C.2.2.2.2.2.2.2.2.2.2.1.1 i hi).2.2.2 hS hj rfl hd (kk _ _ r τ hg H locs ls hw hS hl)
  · rw [if_neg hs] at hx
    cases hx
theorem sa_getsC (C : sa_C p s m args meth c cc own name nL ret D ad cA A) {idx : Nat} (hlink : Cond.fieldLink own idx "java/lang/String" "COMPACT_STRINGS" "Z" ∈ sa_T) (hd : decode cc pc = .ok (.getstatic idx, 3)) (k : sa_Sg p l e s m args below meth c nL d D ad cA A enc (pc + 3) lv (.int 1 :: st) f) : sa_Sg p l e s m args below meth c nL d D ad cA A enc pc lv st f := by
  intro σ r τ hf H locs ls hw hS hl
  exact va_gets C.1 C.2.1 C.2.2.2.2.2.2.2.2.2.2.2.2.2.1 hS C.2.2.2.1 (C.2.2.2.2.1 _ hlink) (fun _ h => h) hd (k σ r τ hf H locs ls hw hS hl)
theorem sa_getsF (C : sa_C p s m args meth c cc own name nL ret D ad cA A) {idx : Nat} (hlink : Cond.fieldLink own idx "jdk/internal/util/Preconditions" "SIOOBE_FORMATTER" "Ljava/util/function/BiFunction;" ∈ sa_T) (hd : decode cc pc = .ok (.getstatic idx, 3)) (k : ∀ o : Option Nat, sa_Sg p l e s m args below meth c nL d D ad cA A enc (pc + 3) lv (va_rf o :: st) f) : sa_Sg p l e s m args below meth c nL d D ad cA A enc pc lv st f := by
  intro σ r τ hf H locs ls hw hS hl
  rcases C.2.2.2.2.2.2.2.2.2.2.2.2.2.2.2.2.1 with hz | ⟨t, hz⟩
  · exact va_gets C.1 C.2.1 hz hS C.2.2.2.1 (C.2.2.2.2.1 _ hlink) (fun _ h => h) hd (k none σ r τ hf H locs ls hw hS hl)
  · exact va_gets C.1 C.2.1 hz hS C.2.2.2.1 (C.2.2.2.2.1 _ hlink) (fun _ h => h) hd (k (some t) σ r τ hf H locs ls hw hS hl)
theorem sa_invK (C : sa_C p s m args meth c cc own name nL ret D ad cA A) {d' : Nat} {y : MethodName} {bytes : ByteArray} {maxL n idx id : Nat} {rt : Option FieldType} {av : (Nat → Nat) → List Value} {enc' : β → Option Value} {x : sa_M β} {g : β → sa_M α} {As : List Value} (M : sa_Met d' y bytes maxL rt av enc' x) (hcode : Cond.code y bytes maxL rt ∈ sa_T) (hdesc : y.cls ≠ "java/lang/invoke/MethodHandle" ∧ y.cls ≠ "java/lang/invoke/VarHandle" ∧ (parseMethodDescriptor y.desc).map (fun d => d.parameters.length) = some n) (hini : Cond.initialized y.cls ∈ sa_T) (hcl : y.cls = "java/lang/String") (hinst : Cond.instanceMethod y ∈ sa_T) (hsel : Cond.selects y.cls y y ∈ sa_T) (hlink : Cond.methodLink own idx y ∈ sa_T) (hgd : ∀ σ r τ, x σ = some (r, τ) → 1000 ≤ id ∧ id < 1010) (hav : av ad = .ref (ad id) :: As) {st' : List Value} (hst : st' = As.reverse ++ .ref (ad id) :: st) (hn : As.length = n) (hw8 : (st.map fun v => v.category).sum ≤ 8) (hdd : d' + 1 ≤ d) (hmx : maxL ≤ 45) (hd : decode cc pc = .ok (.invokevirtual idx, 3)) (kk : ∀ r : β, sa_Sg p l e s m args below meth c nL d D ad cA A enc (pc + 3) lv ((enc' r).toList ++ st) (g r)) : sa_Sg p l e s m args below meth c nL d D ad cA A enc pc lv st' (sa_bnd x g) := by
  intro σ r τ hf H locs ls hw hS hl
  obtain ⟨b, σ1, hx, hg⟩ := sa_bnd_some hf
  obtain ⟨i, hi, rfl⟩ := sa_kid (hgd σ b σ1 hx)
  subst hst
  have hM := M l D ad cA A σ b σ1 hx
  rw [hav] at hM
  have cw : CallW (sa_rm d 0 0) s args own y.cls idx y bytes maxL rt (.code y bytes maxL rt :: sa_T) (sa_rm d' 0 0) 0 0 n :=
    ⟨callB_of n C.2.2.2.2.1 (sa_good hcode) rfl rfl rfl (C.2.2.2.2.1 _ hini) (C.2.2.2.2.1 _ hlink) hdesc ⟨hdd, by show 8 + (maxL + 11) + 64 * d' ≤ 64 * d; omega⟩, C.2.2.2.2.1 _ hinst, C.2.2.2.2.1 _ hsel⟩
  have hrec := vk_recv (i := i) C.2.2.2.2.2.2.2.2.2.2.1 hi hS
  rw [← hcl] at hrec
  exact sa_after (va_runV (As := As) (rest := st) ⟨C.1, C.2.1, C.2.2.1, C.2.2.2.1, C.2.2.2.2.1⟩ hM cw ⟨sa_blind, hrec, fun U hU hW => ⟨rfl, by rw [hU]; exact hw, by rw [hU]; exact C.2.2.2.2.2.2.2.2.into hW hS⟩⟩ rfl hn hl.1 rfl (lv_room hw8) hd ⟨Nat.le_refl _, Nat.le_refl _⟩) hS (fun H1 locs1 hw1 hS1 => kk b σ1 r τ hg H1 locs1 ls hw1 hS1 hl)
theorem sa_cpyT (C : sa_C p s m args meth c cc own name nL ret D ad cA A) {idx j a : Nat} {q : String × String × List Int32} {sp dp n : Int32} {g : Unit → sa_M α} (hq0 : sa_stat[j]? = some q) (hq : Cond.methodLink own idx arraycopyName ∈ sa_T) (h6 : Cond.native arraycopyName ∈ sa_T) (h7 : Cond.static arraycopyName ∈ sa_T) (h8 : Cond.initialized "java/lang/System" ∈ sa_T) (hst : (st.map fun v => v.category).sum + 18 ≤ 64 * d) (hdd : 1 ≤ d) (hd : decode cc pc = .ok (.invokestatic idx, 3)) (kk : sa_Sg p l e s m args below meth c nL d D ad cA A enc (pc + 3) lv st (g ())) : sa_Sg p l e s m args below meth c nL d D ad cA A enc pc lv (.int n :: .int dp :: .ref (ad a) :: .int sp :: .ref (ad (2000 + j)) :: st) (sa_bnd (sa_cpT j sp a dp n) g) := by
  intro σ r τ hf H locs ls hw hS hl
  obtain ⟨b, σ1, hx, hg⟩ := sa_bnd_some hf
  have hrow : sa_row j = q.2.2 := by unfold sa_row; rw [List.getD_eq_getElem?_getD, hq0]; rfl
  unfold sa_cpT at hx
  by_cases hj : sp < 0 ∨ dp < 0 ∨ n < 0 ∨ (sa_row j).length < sp.toNatClampNeg + n.toNatClampNeg ∨ sa_al .int a < dp.toNatClampNeg + n.toNatClampNeg ∨ sa_al .int a = 0
  · rw [if_pos hj] at hx
    cases hx
  · rw [if_neg hj] at hx
    cases hx
    have hs1 : sa_sh a = some (.inr (.int, sa_al .int a)) := sa_al_pos (by omega)
    rw [hrow] at hj hg
    refine sa_copyT C.1 C.2.1 (C.2.2.1.trans hl.1.symm) C.2.2.2.1 (C.2.2.2.2.1 _ hq) (C.2.2.2.2.1 _ h6) (C.2.2.2.2.1 _ h7) (C.2.2.2.2.1 _ h8) C.2.2.2.2.2.2.2.2.1 hw.1 hw.2.1 hS (C.2.2.2.2.2.2.2.2.2.2.2.2.1 j q hq0).2 a 0 (hw.arr hs1) rfl (fun q => hj (Or.inl q)) (fun q => hj (Or.inr (Or.inl q))) (fun q => hj (Or.inr (Or.inr (Or.inl q)))) (by omega) (by omega) hdd (Nat.le_trans (Nat.add_le_add_left (by decide) _) hst) hd (fun H1 locs1 hP hD hS1 => ?_)
    refine kk _ r τ hg H1 locs1 ls (sa_W0.put (τ := (va_up σ.1 a (va_cpy (fun i => q.2.2.getD i 0) (σ.1 a) sp.toNatClampNeg dp.toNatClampNeg n.toNatClampNeg), σ.2)) hP hD ?_ (fun i hi => sa_ent_other (va_up_no hi) rfl rfl)) hS1 hl
    rw [sa_ent_arr hs1]
    simp only [sa_arr, va_up_at]
end SAMORE
section SARETB
variable {p : Program} {l : Launch} {e : Env} {s : State} {m : MethodId} {args : Array Value} {below : List Frame} {meth : Method} {c : Code} {nL d : Nat} {D : va_G} {ad : Nat → Nat} {cA : FieldType → ClassId} {A : Nat → Prop}
variable {cc : ByteArray} {own name : String} {pc : Nat} {lv : List (Nat × Value)}
theorem sa_bret (C : sa_C p s m args meth c cc own name nL (some .byte) D ad cA A) {v : Int32} (hd : decode cc pc = .ok (.ireturn, 1)) : sa_Sg p l e s m args below meth c nL d D ad cA A sa_eI pc lv [.int v] (sa_retB v) := by
  intro σ r τ hf H locs ls hw hS hl
  unfold sa_retB at hf
  by_cases hv : vp_nar .byte v = v
  rotate_left
  · rw [if_neg hv] at hf
    cases hf
  rw [if_pos hv] at hf
  cases hf
  have hv2 : narrow .byte (.int v) = .int v := by
    unfold vp_nar at hv
    simp only [narrow] at hv ⊢
    exact congrArg Value.int hv
  exact W.zret C.1 C.2.1 C.2.2.2.2.2.1 hv2 (fun t ht _ => ⟨rfl, by rw [ht]; exact hw, hS.F ht⟩) hS.2.2 hd C.2.2.2.2.2.2.2.1
end SARETB
