section SACTOR2
variable {p : Program} {l : Launch} {e : Env} {s : State} {m : MethodId} {args : Array Value} {below : List Frame} {meth : Method} {c : Code} {nL d : Nat} {D : va_G} {ad : Nat → Nat} {cA : FieldType → ClassId} {A : Nat → Prop} {N0 k N : Nat} {rv : Option Value} {σ τ : sa_St}
variable {cc : ByteArray} {own name : String} {ret : Option FieldType} {pc : Nat} {lv : List (Nat × Value)} {st : List Value}
theorem sc_N {N' : Nat} (h : N = N') (kk : sa_Sc p l e s m args below meth c nL d D ad cA A N0 k rv τ N' σ pc lv st) : sa_Sc p l e s m args below meth c nL d D ad cA A N0 k rv τ N σ pc lv st := by
  subst h
  exact kk
theorem sc_iast (C : sa_C p s m args meth c cc own name nL ret D ad cA A) {id n : Nat} {j v : Int32} (hs : sa_sh id = some (.inr (.int, n))) (hid : id < N) (hj : ¬ (j < 0 ∨ n ≤ j.toNatClampNeg)) (hd : decode cc pc = .ok (.iastore, 1)) (kk : sa_Sc p l e s m args below meth c nL d D ad cA A N0 k rv τ N (sa_upI σ id j.toNatClampNeg v) (pc + 1) lv st) : sa_Sc p l e s m args below meth c nL d D ad cA A N0 k rv τ N σ pc lv (.int v :: .int j :: .ref (ad id) :: st) := by
  intro H locs ls hw hS hl
  have ha := sc_arr hw hid hs
  refine W.iast C.1 C.2.1 (hw.1 id _ ha) ((C.2.2.2.2.2.2.2.2.1.2 0 _ rfl).1 n (fun j => .int (σ.1 id j))) (fun q => by cases q) (by show ¬ (j < 0 ∨ (arrV _ _ _).slots.size ≤ _); rw [arrV_size]; exact hj) rfl rfl hd fun H1 e1 z oq => ?_
  refine kk H1 _ ls (sc_put0 hw z (hw.1.set hw.2.1 ha (e := sa_ent ad cA (sa_upI σ id j.toNatClampNeg v) id) ?_ oq) (hw.2.1.set ha) rfl sa_upI_other) (hS.put z oq (hw.2.1.2 id _ ha)) hl
  rw [sa_ent_arr hs]
  show H1[ad id]? = some (vp_cell _ _)
  rw [e1]
  simp only [sa_arr]
  rw [vp_cell_i, vp_cell_i, arrV_store]
  congr 2
  funext q
  by_cases hq : q = j.toNatClampNeg
  · subst hq
    simp [updV, sa_upI, va_up]
  · simp [updV, sa_upI, va_up, hq]
theorem sc_iret (C : sa_C p s m args meth c cc own name nL (some .int) D ad cA A) {N1 : Nat} {v : Int32}  (h1 : N1 = N0 + k) (hd : decode cc pc = .ok (.ireturn, 1)) : sa_Sc p l e s m args below meth c nL d D ad cA A N0 k (some (.int v)) σ N1 σ pc lv [.int v] := by
  intro H locs ls hw hS hl
  subst h1
  have e1 : N0 + k - N0 = k := by omega
  rw [e1]
  exact W.iret C.1 C.2.1 C.2.2.2.2.2.1 (fun t ht _ => ⟨rfl, by rw [ht]; exact hw, hS.F ht⟩) hS.2.2 hd C.2.2.2.2.2.2.2.1
theorem sc_bret (C : sa_C p s m args meth c cc own name nL (some .byte) D ad cA A) {N1 : Nat} {v : Int32} (hv : narrow .byte (.int v) = .int v) (h1 : N1 = N0 + k) (hd : decode cc pc = .ok (.ireturn, 1)) : sa_Sc p l e s m args below meth c nL d D ad cA A N0 k (some (.int v)) σ N1 σ pc lv [.int v] := by
  intro H locs ls hw hS hl
  subst h1
  have e1 : N0 + k - N0 = k := by omega
  rw [e1]
  exact W.zret C.1 C.2.1 C.2.2.2.2.2.1 hv (fun t ht _ => ⟨rfl, by rw [ht]; exact hw, hS.F ht⟩) hS.2.2 hd C.2.2.2.2.2.2.2.1
theorem sc_getKv (C : sa_C p s m args meth c cc own name nL ret D ad cA A) {idx i : Nat} (hi : i < 10) (hlink : Cond.fieldLink own idx "java/lang/String" "value" "[B" ∈ sa_T) (hd : decode cc pc = .ok (.getfield idx, 3)) (kk : sa_Sc p l e s m args below meth c nL d D ad cA A N0 k rv τ N σ (pc + 3) lv (.ref (ad (3000 + i)) :: st)) : sa_Sc p l e s m args below meth c nL d D ad cA A N0 k rv τ N σ pc lv (.ref (ad (1000 + i)) :: st) := by
  intro H locs ls hw hS hl
  exact vk_getf C.1 C.2.1 (C.2.2.2.2.2.2.2.2.2.2.1.1 i hi).2.2.1 hS C.2.2.2.1 (C.2.2.2.2.1 _ hlink) (fun _ h => h) hd (kk H locs ls hw hS hl)
theorem sc_getKc (C : sa_C p s m args meth c cc own name nL ret D ad cA A) {idx i : Nat} (hi : i < 10) (hlink : Cond.fieldLink own idx "java/lang/String" "coder" "B" ∈ sa_T) (hd : decode cc pc = .ok (.getfield idx, 3)) (kk : sa_Sc p l e s m args below meth c nL d D ad cA A N0 k rv τ N σ (pc + 3) lv (.int 0 :: st)) : sa_Sc p l e s m args below meth c nL d D ad cA A N0 k rv τ N σ pc lv (.ref (ad (1000 + i)) :: st) := by
  intro H locs ls hw hS hl
  exact vk_getf C.1 C.2.1 (C.2.2.2.2.2.2.2.2.2.2.1.1 i hi).2.1 hS C.2.2.2.1 (C.2.2.2.2.1 _ hlink) (fun _ h => h) hd (kk H locs ls hw hS hl)
theorem sc_lenK (C : sa_C p s m args meth c cc own name nL ret D ad cA A) {i : Nat} (hi : i < 10) (hd : decode cc pc = .ok (.arraylength, 1)) (kk : sa_Sc p l e s m args below meth c nL d D ad cA A N0 k rv τ N σ (pc + 1) lv (.int (nI (sa_slen.getD i 0)) :: st)) : sa_Sc p l e s m args below meth c nL d D ad cA A N0 k rv τ N σ pc lv (.ref (ad (3000 + i)) :: st) := by
  intro H locs ls hw hS hl
  exact va_tlen C.1 C.2.1 (C.2.2.2.2.2.2.2.2.2.2.1.1 i hi).2.2.2 hS rfl hd (kk H locs ls hw hS hl)
theorem sc_getsC (C : sa_C p s m args meth c cc own name nL ret D ad cA A) {idx : Nat} (hlink : Cond.fieldLink own idx "java/lang/String" "COMPACT_STRINGS" "Z" ∈ sa_T) (hd : decode cc pc = .ok (.getstatic idx, 3)) (kk : sa_Sc p l e s m args below meth c nL d D ad cA A N0 k rv τ N σ (pc + 3) lv (.int 1 :: st)) : sa_Sc p l e s m args below meth c nL d D ad cA A N0 k rv τ N σ pc lv st := by
  intro H locs ls hw hS hl
  exact va_gets C.1 C.2.1 C.2.2.2.2.2.2.2.2.2.2.2.2.2.1 hS C.2.2.2.1 (C.2.2.2.2.1 _ hlink) (fun _ h => h) hd (kk H locs ls hw hS hl)
theorem sc_ifeq_f (C : sa_C p s m args meth c cc own name nL ret D ad cA A) {x : Int32} {off : Int} {tgt : Nat} (h : ¬ x = 0) (hd : decode cc pc = .ok (.ifCond .eq off, 3)) (ht : (pc : Int) + off = (tgt : Int)) (kk : sa_Sc p l e s m args below meth c nL d D ad cA A N0 k rv τ N σ (pc + 3) lv st) : sa_Sc p l e s m args below meth c nL d D ad cA A N0 k rv τ N σ pc lv (.int x :: st) :=
  fun H locs ls hw hS hl => lv_if_eq C.1 C.2.1 hd ht (fun q => absurd q h) (fun _ => kk H locs ls hw hS hl)
theorem sc_invS (C : sa_C p s m args meth c cc own name nL ret D ad cA A) {d' : Nat} {y : MethodName} {bytes : ByteArray} {maxL n idx : Nat} {av : (Nat → Nat) → List Value} {σ1 : sa_St} {As : List Value} {rt : Option FieldType} {rv' : Option Value} (had : ∀ i, i < sa_all → ad (i + 1) = ad i + 1) (M : sa_Mc d' N 0 y bytes maxL rt av rv' σ σ1) (hcode : Cond.code y bytes maxL rt ∈ sa_T) (hdesc : y.cls ≠ "java/lang/invoke/MethodHandle" ∧ y.cls ≠ "java/lang/invoke/VarHandle" ∧ (parseMethodDescriptor y.desc).map (fun d => d.parameters.length) = some n) (hini : Cond.initialized y.cls ∈ sa_T) (hstt : Cond.static y ∈ sa_T) (hlink : Cond.methodLink own idx y ∈ sa_T) (hav : av ad = As) {st' : List Value} (hst : st' = As.reverse ++ st) (hn : As.length = n) (hw8 : (st.map fun v => v.category).sum ≤ 8) (hdd : d' + 1 ≤ d) (hmx : maxL ≤ 45) (h0 : N0 ≤ N) (h1 : N ≤ N0 + k) (hd : decode cc pc = .ok (.invokestatic idx, 3)) (kk : sa_Sc p l e s m args below meth c nL d D ad cA A N0 k rv τ N σ1 (pc + 3) lv (rv'.toList ++ st)) : sa_Sc p l e s m args below meth c nL d D ad cA A N0 k rv τ N σ pc lv st' := by
  intro H locs ls hw hS hl
  subst hst
  have hM := M l D ad cA A had
  rw [hav] at hM
  have m0 := sa_SL_mono h0
  have m2 := sa_SL_mono h1
  refine sa_after (va_runS (As := As) (rest := st) ⟨C.1, C.2.1, C.2.2.1, C.2.2.2.1, C.2.2.2.2.1⟩ hM ⟨callB_of n C.2.2.2.2.1 (sa_good hcode) rfl rfl rfl (C.2.2.2.2.1 _ hini) (C.2.2.2.2.1 _ hlink) hdesc ⟨hdd, by show 8 + (maxL + 11) + 64 * d' ≤ 64 * d; omega⟩, C.2.2.2.2.1 _ hstt⟩ ⟨sa_blind, fun U hU hW => ⟨rfl, by rw [hU]; exact hw, by rw [hU]; exact C.2.2.2.2.2.2.2.2.into hW hS⟩⟩ rfl hn hl.1 rfl (lv_room hw8) hd ⟨by show (N - N0) + 0 ≤ k; omega, by show (sa_SL N - sa_SL N0) + (sa_SL (N + 0) - sa_SL N) ≤ sa_SL (N0 + k) - sa_SL N0; rw [Nat.add_zero]; omega⟩) hS (fun H1 locs1 hw1 hS1 => ?_)
  have e1 : (N - N0) + 0 = N - N0 := Nat.add_zero _
  have e2 : (sa_SL N - sa_SL N0) + (sa_SL (N + 0) - sa_SL N) = sa_SL N - sa_SL N0 := by rw [Nat.add_zero, Nat.sub_self, Nat.add_zero]
  rw [e1, e2]
  exact kk H1 locs1 ls hw1 hS1 hl
theorem sc_invK (C : sa_C p s m args meth c cc own name nL ret D ad cA A) {d' : Nat} {y : MethodName} {bytes : ByteArray} {maxL n idx i : Nat} {av : (Nat → Nat) → List Value} {σ1 : sa_St} {As : List Value} {rt : Option FieldType} {rv' : Option Value} (had : ∀ i, i < sa_all → ad (i + 1) = ad i + 1) (hi : i < 10) (M : sa_Mc d' N 0 y bytes maxL rt av rv' σ σ1) (hcode : Cond.code y bytes maxL rt ∈ sa_T) (hdesc : y.cls ≠ "java/lang/invoke/MethodHandle" ∧ y.cls ≠ "java/lang/invoke/VarHandle" ∧ (parseMethodDescriptor y.desc).map (fun d => d.parameters.length) = some n) (hini : Cond.initialized y.cls ∈ sa_T) (hcl : y.cls = "java/lang/String") (hinst : Cond.instanceMethod y ∈ sa_T) (hsel : Cond.selects y.cls y y ∈ sa_T) (hlink : Cond.methodLink own idx y ∈ sa_T) (hav : av ad = .ref (ad (1000 + i)) :: As) {st' : List Value} (hst : st' = As.reverse ++ .ref (ad (1000 + i)) :: st) (hn : As.length = n) (hw8 : (st.map fun v => v.category).sum ≤ 8) (hdd : d' + 1 ≤ d) (hmx : maxL ≤ 45) (h0 : N0 ≤ N) (h1 : N ≤ N0 + k) (hd : decode cc pc = .ok (.invokevirtual idx, 3)) (kk : sa_Sc p l e s m args below meth c nL d D ad cA A N0 k rv τ N σ1 (pc + 3) lv (rv'.toList ++ st)) : sa_Sc p l e s m args below meth c nL d D ad cA A N0 k rv τ N σ pc lv st' := by
  intro H locs ls hw hS hl
  subst hst
  have hM := M l D ad cA A had
  rw [hav] at hM
  have m0 := sa_SL_mono h0
  have m2 := sa_SL_mono h1
  have hrec := vk_recv (i := i) C.2.2.2.2.2.2.2.2.2.2.1 hi hS
  rw [← hcl] at hrec
  refine sa_after (va_runV (As := As) (rest := st) ⟨C.1, C.2.1, C.2.2.1, C.2.2.2.1, C.2.2.2.2.1⟩ hM ⟨callB_of n C.2.2.2.2.1 (sa_good hcode) rfl rfl rfl (C.2.2.2.2.1 _ hini) (C.2.2.2.2.1 _ hlink) hdesc ⟨hdd, by show 8 + (maxL + 11) + 64 * d' ≤ 64 * d; omega⟩, C.2.2.2.2.1 _ hinst, C.2.2.2.2.1 _ hsel⟩ ⟨sa_blind, hrec, fun U hU hW => ⟨rfl, by rw [hU]; exact hw, by rw [hU]; exact C.2.2.2.2.2.2.2.2.into hW hS⟩⟩ rfl hn hl.1 rfl (lv_room hw8) hd ⟨by show (N - N0) + 0 ≤ k; omega, by show (sa_SL N - sa_SL N0) + (sa_SL (N + 0) - sa_SL N) ≤ sa_SL (N0 + k) - sa_SL N0; rw [Nat.add_zero]; omega⟩) hS (fun H1 locs1 hw1 hS1 => ?_)
  have e1 : (N - N0) + 0 = N - N0 := Nat.add_zero _
  have e2 : (sa_SL N - sa_SL N0) + (sa_SL (N + 0) - sa_SL N) = sa_SL N - sa_SL N0 := by rw [Nat.add_zero, Nat.sub_self, Nat.add_zero]
  rw [e1, e2]
  exact kk H1 locs1 ls hw1 hS1 hl
end SACTOR2
theorem dc_J7_fill_53178_0 : decode cJ7_fill_53178 0 = .ok (.iconst 0, 1) := by decide +kernel
theorem dc_J7_fill_53178_1 : decode cJ7_fill_53178 1 = .ok (.istore_n 2, 1) := by decide +kernel
theorem dc_J7_fill_53178_2 : decode cJ7_fill_53178 2 = .ok (.aload_n 0, 1) := by decide +kernel
theorem dc_J7_fill_53178_3 : decode cJ7_fill_53178 3 = .ok (.arraylength, 1) := by decide +kernel
theorem dc_J7_fill_53178_4 : decode cJ7_fill_53178 4 = .ok (.istore_n 3, 1) := by decide +kernel
theorem dc_J7_fill_53178_5 : decode cJ7_fill_53178 5 = .ok (.iload_n 2, 1) := by decide +kernel
theorem dc_J7_fill_53178_6 : decode cJ7_fill_53178 6 = .ok (.iload_n 3, 1) := by decide +kernel
theorem dc_J7_fill_53178_7 : decode cJ7_fill_53178 7 = .ok (.if_icmp .ge 13, 3) := by decide +kernel
theorem dc_J7_fill_53178_10 : decode cJ7_fill_53178 10 = .ok (.aload_n 0, 1) := by decide +kernel
theorem dc_J7_fill_53178_11 : decode cJ7_fill_53178 11 = .ok (.iload_n 2, 1) := by decide +kernel
theorem dc_J7_fill_53178_12 : decode cJ7_fill_53178 12 = .ok (.iload_n 1, 1) := by decide +kernel
theorem dc_J7_fill_53178_13 : decode cJ7_fill_53178 13 = .ok (.iastore, 1) := by decide +kernel
theorem dc_J7_fill_53178_14 : decode cJ7_fill_53178 14 = .ok (.iinc 2 1, 3) := by decide +kernel
theorem dc_J7_fill_53178_17 : decode cJ7_fill_53178 17 = .ok (.goto (-12), 3) := by decide +kernel
theorem dc_J7_fill_53178_20 : decode cJ7_fill_53178 20 = .ok (.return_, 1) := by decide +kernel
theorem dc_J0_coder_7d493_0 : decode cJ0_coder_7d493 0 = .ok (.getstatic 38, 3) := by decide +kernel
theorem dc_J0_coder_7d493_3 : decode cJ0_coder_7d493 3 = .ok (.ifCond .eq 10, 3) := by decide +kernel
theorem dc_J0_coder_7d493_6 : decode cJ0_coder_7d493 6 = .ok (.aload_n 0, 1) := by decide +kernel
theorem dc_J0_coder_7d493_7 : decode cJ0_coder_7d493 7 = .ok (.getfield 15, 3) := by decide +kernel
theorem dc_J0_coder_7d493_10 : decode cJ0_coder_7d493 10 = .ok (.goto 4, 3) := by decide +kernel
theorem dc_J0_coder_7d493_13 : decode cJ0_coder_7d493 13 = .ok (.iconst 1, 1) := by decide +kernel
theorem dc_J0_coder_7d493_14 : decode cJ0_coder_7d493 14 = .ok (.ireturn, 1) := by decide +kernel
theorem dc_J0_length_8abf5_0 : decode cJ0_length_8abf5 0 = .ok (.aload_n 0, 1) := by decide +kernel
theorem dc_J0_length_8abf5_1 : decode cJ0_length_8abf5 1 = .ok (.getfield 9, 3) := by decide +kernel
theorem dc_J0_length_8abf5_4 : decode cJ0_length_8abf5 4 = .ok (.arraylength, 1) := by decide +kernel
theorem dc_J0_length_8abf5_5 : decode cJ0_length_8abf5 5 = .ok (.aload_n 0, 1) := by decide +kernel
theorem dc_J0_length_8abf5_6 : decode cJ0_length_8abf5 6 = .ok (.invokevirtual 335, 3) := by decide +kernel
theorem dc_J0_length_8abf5_9 : decode cJ0_length_8abf5 9 = .ok (.ishr, 1) := by decide +kernel
theorem dc_J0_length_8abf5_10 : decode cJ0_length_8abf5 10 = .ok (.ireturn, 1) := by decide +kernel
/-- the first i places of a row of ints hold v -/
def sa_fl (σ : sa_St) (id : Nat) (v : Int32) (i : Nat) : sa_St := (va_up σ.1 id (fun j => if j < i then v else σ.1 id j), σ.2)
theorem sa_fl_0 (σ : sa_St) (id : Nat) (v : Int32) : sa_fl σ id v 0 = σ := by
  obtain ⟨a, b⟩ := σ
  unfold sa_fl
  congr 1
  funext i
  by_cases h : i = id
  · subst h
    rw [va_up_at]
    rfl
  · rw [va_up_no h]
theorem sa_fl_s (σ : sa_St) (id : Nat) (v : Int32) (i : Nat) : sa_upI (sa_fl σ id v i) id i v = sa_fl σ id v (i + 1) := by
  unfold sa_fl sa_upI
  congr 1
  funext q
  by_cases h : q = id
  · subst h
    rw [va_up_at, va_up_at]
    funext j
    by_cases hj : j = i
    · subst hj
      rw [va_up_at, if_pos (Nat.lt_succ_self _)]
    · rw [va_up_no hj]
      show va_up σ.1 q (fun j => if j < i then v else σ.1 q j) q j = _
      rw [va_up_at]
      by_cases h2 : j < i
      · rw [if_pos h2, if_pos (Nat.lt_succ_of_lt h2)]
      · rw [if_neg h2, if_neg (by omega)]
  · rw [va_up_no h, va_up_no h]
    show va_up σ.1 id (fun j => if j < i then v else σ.1 id j) q = _
    rw [va_up_no h]
theorem bc_fill {p : Program} {l : Launch} {e : Env} {s : State} {m : MethodId} {args : Array Value} {below : List Frame} {meth : Method} {c : Code} {D : va_G} {ad : Nat → Nat} {cA : FieldType → ClassId} {A : Nat → Prop} (N id n : Nat) (v : Int32) (σ : sa_St) (hs : sa_sh id = some (.inr (.int, n))) (hid : id < N) (hn : n < 2 ^ 31) (C : sa_C p s m args meth c cJ7_fill_53178 RJ7 "fill" 4 none D ad cA A) : sa_Sc p l e s m args below meth c 4 1 D ad cA A N 0 none (sa_fl σ id v n) N σ 0 [(0, .ref (ad id)), (1, .int v)] [] := by
  refine sc_iconst (v := 0) C dc_J7_fill_53178_0 (by decide) ?_
  refine sc_istore_n (lv' := [(2, .int 0), (0, .ref (ad id)), (1, .int v)]) C dc_J7_fill_53178_1 rfl (by decide) rfl ?_
  refine sc_aload_n C dc_J7_fill_53178_2 rfl 1 rfl ?_
  refine sc_alen_I (v := nI n) C hs hid rfl dc_J7_fill_53178_3 ?_
  refine sc_istore_n (lv' := [(3, .int (nI n)), (2, .int 0), (0, .ref (ad id)), (1, .int v)]) C dc_J7_fill_53178_4 rfl (by decide) rfl ?_
  have key : ∀ (r i : Nat), i + r = n → sa_Sc p l e s m args below meth c 4 1 D ad cA A N 0 none (sa_fl σ id v n) N (sa_fl σ id v i) 5 [(3, .int (nI n)), (2, .int (nI i)), (0, .ref (ad id)), (1, .int v)] [] := by
    intro r
    induction r with
    | zero =>
      intro i hi
      have hi : i = n := by omega
      subst hi
      refine sc_iload_n C dc_J7_fill_53178_5 rfl 1 rfl ?_
      refine sc_iload_n C dc_J7_fill_53178_6 rfl 0 rfl ?_
      refine sc_ge_t (tgt := 20) C (nI_le (Nat.le_refl _) hn) dc_J7_fill_53178_7 (by decide) ?_
      exact sc_vret C (by omega) dc_J7_fill_53178_20
    | succ r ih =>
      intro i hi
      refine sc_iload_n C dc_J7_fill_53178_5 rfl 1 rfl ?_
      refine sc_iload_n C dc_J7_fill_53178_6 rfl 0 rfl ?_
      refine sc_ge_f (tgt := 20) C (nI_ge (by omega) hn) dc_J7_fill_53178_7 (by decide) ?_
      refine sc_aload_n C dc_J7_fill_53178_10 rfl 2 rfl ?_
      refine sc_iload_n C dc_J7_fill_53178_11 rfl 1 rfl ?_
      refine sc_iload_n C dc_J7_fill_53178_12 rfl 3 rfl ?_
      refine sc_iast C hs hid (nI_in (by omega) hn) dc_J7_fill_53178_13 ?_
      rw [nI_clamp (by omega), sa_fl_s]
      refine sc_iinc (v := nI (i + 1)) (lv' := [(2, .int (nI (i + 1))), (3, .int (nI n)), (0, .ref (ad id)), (1, .int v)]) C dc_J7_fill_53178_14 1 rfl (nI_1 i) (by decide) rfl ?_
      refine sc_goto (tgt := 5) C dc_J7_fill_53178_17 (by decide) ?_
      have h := ih (i + 1) (by omega)
      intro H locs ls hw hS hl
      exact h H locs ls hw hS (lv_sub hl [1, 0, 2, 3] rfl)
  have h := key n 0 (by omega)
  rw [sa_fl_0] at h
  exact h
theorem kc_fill (N id n : Nat) (v : Int32) (σ : sa_St) (hs : sa_sh id = some (.inr (.int, n))) (hid : id < N) (hn : n < 2 ^ 31) : sa_Mc 1 N 0 yJ7_fill_53178 cJ7_fill_53178 4 none (fun ad => [.ref (ad id), .int v]) none σ (sa_fl σ id v n) :=
  sa_mkc (by decide) (fun ad => Nat.le_of_ble_eq_true rfl) (fun p l e s m args below meth c D ad cA A had C => bc_fill N id n v σ hs hid hn C)
theorem bc_coder {p : Program} {l : Launch} {e : Env} {s : State} {m : MethodId} {args : Array Value} {below : List Frame} {meth : Method} {c : Code} {D : va_G} {ad : Nat → Nat} {cA : FieldType → ClassId} {A : Nat → Prop} (N i : Nat) (hi : i < 10) (σ : sa_St) (C : sa_C p s m args meth c cJ0_coder_7d493 RJ0 "coder" 1 (some .byte) D ad cA A) : sa_Sc p l e s m args below meth c 1 1 D ad cA A N 0 (some (.int 0)) σ N σ 0 [(0, .ref (ad (1000 + i)))] [] := by
  refine sc_getsC C q208 dc_J0_coder_7d493_0 ?_
  refine sc_ifeq_f (tgt := 13) C (by decide) dc_J0_coder_7d493_3 (by decide) ?_
  refine sc_aload_n C dc_J0_coder_7d493_6 rfl 0 rfl ?_
  refine sc_getKc C hi q2136 dc_J0_coder_7d493_7 ?_
  refine sc_goto (tgt := 14) C dc_J0_coder_7d493_10 (by decide) ?_
  exact sc_bret C rfl (by omega) dc_J0_coder_7d493_14
theorem kc_coder (N i : Nat) (hi : i < 10) (σ : sa_St) : sa_Mc 1 N 0 yJ0_coder_7d493 cJ0_coder_7d493 1 (some .byte) (fun ad => [.ref (ad (1000 + i))]) (some (.int 0)) σ σ :=
  sa_mkc (by decide) (fun ad => Nat.le_of_ble_eq_true rfl) (fun p l e s m args below meth c D ad cA A had C => bc_coder N i hi σ C)
theorem bc_length {p : Program} {l : Launch} {e : Env} {s : State} {m : MethodId} {args : Array Value} {below : List Frame} {meth : Method} {c : Code} {D : va_G} {ad : Nat → Nat} {cA : FieldType → ClassId} {A : Nat → Prop} (N i : Nat) (hi : i < 10) (σ : sa_St) (had : ∀ i, i < sa_all → ad (i + 1) = ad i + 1) (C : sa_C p s m args meth c cJ0_length_8abf5 RJ0 "length" 1 (some .int) D ad cA A) : sa_Sc p l e s m args below meth c 1 2 D ad cA A N 0 (some (.int (nI (sa_slen.getD i 0) >>> (0 &&& 31)))) σ N σ 0 [(0, .ref (ad (1000 + i)))] [] := by
  refine sc_aload_n C dc_J0_length_8abf5_0 rfl 0 rfl ?_
  refine sc_getKv C hi q2135 dc_J0_length_8abf5_1 ?_
  refine sc_lenK C hi dc_J0_length_8abf5_4 ?_
  refine sc_aload_n C dc_J0_length_8abf5_5 rfl 0 rfl ?_
  refine sc_invK C had hi (kc_coder N i hi σ) q207 ds_J0_coder_7d493 q118 rfl q205 q206 q204 rfl rfl rfl (Nat.le_of_ble_eq_true rfl) (by decide) (by decide) (Nat.le_refl _) (Nat.le_add_right _ _) dc_J0_length_8abf5_6 ?_
  refine sc_ishr C dc_J0_length_8abf5_9 ?_
  exact sc_iret C (by omega) dc_J0_length_8abf5_10
theorem kc_length (N i : Nat) (hi : i < 10) (σ : sa_St) : sa_Mc 2 N 0 yJ0_length_8abf5 cJ0_length_8abf5 1 (some .int) (fun ad => [.ref (ad (1000 + i))]) (some (.int (nI (sa_slen.getD i 0) >>> (0 &&& 31)))) σ σ :=
  sa_mkc (by decide) (fun ad => Nat.le_of_ble_eq_true rfl) (fun p l e s m args below meth c D ad cA A had C => bc_length N i hi σ had C)
