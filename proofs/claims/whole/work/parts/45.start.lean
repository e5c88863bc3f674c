abbrev lw_cs : Cond := Jvm.Cond.and given_1 narrow_1
def st_tm (i : Nat) : Term := match i with
  | 0 => .string "SaltArmy$Laws" 17
  | 1 => .string "SaltArmy$Land" 70
  | 2 => .string "SaltArmy$Land" 113
  | 3 => .string "SaltArmy$Law" 45
  | 4 => .string "SaltArmy$Orders" 36
  | 5 => .string "SaltArmyModel" 26
  | 6 => .string "SaltArmyModel" 286
  | 7 => .string "SaltArmyModel" 292
  | 8 => .string "SaltArmyModel" 294
  | _ => .string "SaltArmyModel" 296
theorem st_ex : ∀ i, i < 10 → Cond.exactly (st_tm i) "java/lang/String" ∈ flatC lw_cs := by decide +kernel
theorem st_co : ∀ i, i < 10 → Cond.eq (.field (st_tm i) "java/lang/String" "coder" "B") (.int 0) ∈ flatC lw_cs := by decide +kernel
theorem st_ar : ∀ i, i < 10 → Cond.arrayOf (.field (st_tm i) "java/lang/String" "value" "[B") .byte ∈ flatC lw_cs := by decide +kernel
theorem st_le : ∀ i, i < 10 → Cond.eq (.length (.field (st_tm i) "java/lang/String" "value" "[B")) (.int (Int32.ofNat (sa_slen.getD i 0))) ∈ flatC lw_cs := by decide +kernel
theorem st_el : ∀ i, i < 10 → ∀ j, j < sa_slen.getD i 0 → Cond.eq (.elem (.field (st_tm i) "java/lang/String" "value" "[B") (.int (Int32.ofNat j))) (.int ((sa_byt.getD i []).getD j 0)) ∈ flatC lw_cs := by decide +kernel
theorem st_ne : ∀ i, i < 10 → ∀ j, j < 10 → i ≠ j → (Cond.not (Cond.eq (st_tm i) (st_tm j))) ∈ flatC lw_cs ∨ (Cond.not (Cond.eq (st_tm j) (st_tm i))) ∈ flatC lw_cs := by decide +kernel
theorem st_rf : ∀ q ∈ sa_strs, Cond.stringRef q.1 q.2.1 (sa_txt.getD q.2.2 "") ∈ lw_tbl := by decide +kernel
theorem st_sl : ∀ q ∈ sa_stat, Cond.laysStatic q.1 q.2.1 "[I" ∈ lw_tbl ∧ Cond.initialized q.1 ∈ lw_tbl := by decide +kernel
theorem st_sa : ∀ q ∈ sa_stat, Cond.arrayOf (.static q.1 q.2.1 "[I") .int ∈ flatC lw_cs ∧ Cond.eq (.length (.static q.1 q.2.1 "[I")) (.int (Int32.ofNat q.2.2.length)) ∈ flatC lw_cs := by decide +kernel
theorem st_se : ∀ q ∈ sa_stat, ∀ j, j < q.2.2.length → Cond.eq (.elem (.static q.1 q.2.1 "[I") (.int (Int32.ofNat j))) (.int (q.2.2.getD j 0)) ∈ flatC lw_cs := by decide +kernel
theorem st_sz : ∀ q ∈ sa_stat, q.2.2.length < 2 ^ 31 := by decide +kernel
theorem st_nest : ∀ w ∈ sa_nest, w ∈ lw_tbl := by decide +kernel
theorem st_ao : ∀ C ∈ ["SaltArmy$Law", "SaltArmy$Orders", "SaltArmy$Camp"], Cond.arrayOver (.object C) ∈ lw_tbl := by decide +kernel
theorem st_w1 : ∀ w ∈ [Cond.arrayOver (.array .long), Cond.castable sa_NSE sa_NSE, Cond.laysStatic Bundle.tN "UNASSIGNED_STACK" Bundle.steD, Cond.laysStatic Bundle.tN "SUPPRESSED_SENTINEL" Bundle.listD, Cond.initialized Bundle.tN, Cond.laysStatic "java/lang/String" "COMPACT_STRINGS" "Z", Cond.initialized "java/lang/String", Cond.laysStatic "jdk/internal/util/Preconditions" "SIOOBE_FORMATTER" "Ljava/util/function/BiFunction;", Cond.initialized "jdk/internal/util/Preconditions", Cond.arrayClass .int, Cond.arrayClass .long, Cond.arrayClass .byte, Cond.arrayClass .boolean], w ∈ lw_tbl := by decide +kernel
theorem st_de : ∀ x ∈ sa_decl, Cond.declares x ∈ lw_tbl := by decide +kernel
theorem st_w2 : ∀ w ∈ [Cond.eq (.static "java/lang/String" "COMPACT_STRINGS" "Z") (.int 1), Cond.isRef (.static "jdk/internal/util/Preconditions" "SIOOBE_FORMATTER" "Ljava/util/function/BiFunction;"), Cond.isRef (.static Bundle.tN "UNASSIGNED_STACK" Bundle.steD), Cond.isRef (.static Bundle.tN "SUPPRESSED_SENTINEL" Bundle.listD), Cond.eq (.string "SaltArmy$Laws" 17) (.string "SaltArmy$Law" 76), Cond.eq (.string "SaltArmy$Laws" 17) (.string "SaltArmyModel" 32), Cond.eq (.string "SaltArmy$Orders" 36) (.string "SaltArmyModel" 304)], w ∈ flatC lw_cs := by decide +kernel
theorem st_kn {args : Array Value} {s : State} (hts : ∀ w ∈ sa_T, w.before args s = true) : ∃ D : va_G, ∀ (c : Nat) (q : vw_C), sa_cl[c]? = some q → u_Kn s q.1 q.2.1 q.2.2 (D.1 c) (D.2 c) := by
  have h : ∀ c : Nat, ∃ r : ClassId × (Nat → Nat), ∀ q : vw_C, sa_cl[c]? = some q → u_Kn s q.1 q.2.1 q.2.2 r.1 r.2 := by
    intro c
    cases hq : sa_cl[c]? with
    | none => exact ⟨(0, fun _ => 0), fun q h => by cases h⟩
    | some q0 =>
      have hm : (∀ w ∈ u_ws q0.1 q0.2.1 q0.2.2, w ∈ sa_T) ∧ Cond.instantiable q0.1 q0.2.2 ∈ sa_T := by
        have hmem : q0 ∈ sa_cl := List.mem_of_getElem? hq
        simp only [sa_cl, List.mem_cons, List.not_mem_nil, or_false] at hmem
        rcases hmem with rfl | rfl | rfl | rfl | rfl | rfl | rfl | rfl | rfl | rfl | rfl | rfl | rfl
        · exact ⟨cd_X0.2.2.1, cd_X0.2.2.2.2.1⟩
        · exact ⟨cd_X1.2.2.1, cd_X1.2.2.2.2.1⟩
        · exact ⟨cd_X2.2.2.1, cd_X2.2.2.2.2.1⟩
        · exact ⟨cd_X3.2.2.1, cd_X3.2.2.2.2.1⟩
        · exact ⟨cd_X4.2.2.1, cd_X4.2.2.2.2.1⟩
        · exact ⟨cd_X5.2.2.1, cd_X5.2.2.2.2.1⟩
        · exact ⟨cd_X6.2.2.1, cd_X6.2.2.2.2.1⟩
        · exact ⟨cd_X7.2.2.1, cd_X7.2.2.2.2.1⟩
        · exact ⟨cd_X8.2.2.1, cd_X8.2.2.2.2.1⟩
        · exact ⟨cd_X9.2.2.1, cd_X9.2.2.2.2.1⟩
        · exact ⟨cd_X10.2.2.1, cd_X10.2.2.2.2.1⟩
        · exact ⟨cd_X11.2.2.1, cd_X11.2.2.2.2.1⟩
        · exact ⟨cd_X12.2.2.1, cd_X12.2.2.2.2.1⟩
      obtain ⟨cC, iS, hk⟩ := u_known hts hm.1 (hts _ hm.2)
      exact ⟨(cC, iS), fun q h => by cases h; exact hk⟩
  obtain ⟨f, hf⟩ := Classical.axiomOfChoice h
  exact ⟨(fun c => (f c).1, fun c => (f c).2), fun c q hq => hf c q hq⟩
def st_cA (s : State) (ty : FieldType) : ClassId := (s.vm.findClass ("[" ++ ty.toString)).getD 0
theorem st_cA_eq {s : State} {ty : FieldType} {c : ClassId} (h : s.vm.findClass ("[" ++ ty.toString) = some c) : st_cA s ty = c := by
  unfold st_cA
  rw [h]
  rfl
theorem st_pI {args : Array Value} {s : State} (h : (Cond.arrayClass .int).before args s = true) : ArrOfT s (st_cA s .int) .int ∧ va_RA s (st_cA s .int) .int := by
  obtain ⟨cA, kA, comp, h1, h2, h3⟩ := Cond.arrayClass_spec h
  rw [st_cA_eq h1]
  exact ⟨fun n z => ⟨fun k h => (by cases h), kA, h2, comp, h3⟩, h1⟩
theorem st_pL {args : Array Value} {s : State} (h : (Cond.arrayClass .long).before args s = true) : ArrOfT s (st_cA s .long) .long ∧ va_RA s (st_cA s .long) .long := by
  obtain ⟨cA, kA, comp, h1, h2, h3⟩ := Cond.arrayClass_spec h
  rw [st_cA_eq h1]
  exact ⟨fun n z => ⟨fun k h => (by cases h), kA, h2, comp, h3⟩, h1⟩
theorem st_pB {args : Array Value} {s : State} (h : (Cond.arrayClass .byte).before args s = true) : ArrOfT s (st_cA s .byte) .byte ∧ va_RA s (st_cA s .byte) .byte := by
  obtain ⟨cA, kA, comp, h1, h2, h3⟩ := Cond.arrayClass_spec h
  rw [st_cA_eq h1]
  exact ⟨fun n z => ⟨fun k h => (by cases h), kA, h2, comp, h3⟩, h1⟩
theorem st_pZ {args : Array Value} {s : State} (h : (Cond.arrayClass .boolean).before args s = true) : ArrOfT s (st_cA s .boolean) .boolean ∧ va_RA s (st_cA s .boolean) .boolean := by
  obtain ⟨cA, kA, comp, h1, h2, h3⟩ := Cond.arrayClass_spec h
  rw [st_cA_eq h1]
  exact ⟨fun n z => ⟨fun k h => (by cases h), kA, h2, comp, h3⟩, h1⟩
theorem st_pO {args : Array Value} {s : State} {C : String} (h : (Cond.arrayOver (.object C)).before args s = true) : ArrOfT s (st_cA s (.object C)) (.object C) ∧ va_RA s (st_cA s (.object C)) (.object C) := by
  obtain ⟨comp, cA, kA, h1, -, h2, h3, h4⟩ := Cond.arrayOver_spec h
  rw [st_cA_eq h4]
  exact ⟨fun n z => ⟨fun k h => (by cases h), kA, h2, comp, h3⟩, kA, comp, h2, h3, h1, h4⟩
theorem st_pJ {args : Array Value} {s : State} (h : (Cond.arrayOver (.array .long)).before args s = true) : ArrOfT s (st_cA s (.array .long)) (.array .long) ∧ va_RA s (st_cA s (.array .long)) (.array .long) := by
  obtain ⟨comp, cA, kA, h1, -, h2, h3, h4⟩ := sa_over h
  rw [st_cA_eq h4]
  exact ⟨fun n z => ⟨fun k h => (by cases h), kA, h2, comp, h3⟩, h4⟩
theorem st_K {args : Array Value} {s : State} (hts : ∀ w ∈ lw_tbl, w.before args s = true) : ∃ D : va_G, va_K D sa_cl (sa_tys (st_cA s)) s := by
  obtain ⟨D, hD⟩ := st_kn (fun w hw => hts w (List.mem_filter.mp hw).1)
  refine ⟨D, hD, fun k q hk => ?_⟩
  have hmem := List.mem_of_getElem? hk
  simp only [sa_tys, List.mem_cons, List.not_mem_nil, or_false] at hmem
  rcases hmem with rfl | rfl | rfl | rfl | rfl | rfl | rfl | rfl
  · exact st_pI (hts _ (st_w1 _ (by simp)))
  · exact st_pL (hts _ (st_w1 _ (by simp)))
  · exact st_pB (hts _ (st_w1 _ (by simp)))
  · exact st_pZ (hts _ (st_w1 _ (by simp)))
  · exact st_pO (hts _ (st_ao "SaltArmy$Law" (by simp)))
  · exact st_pO (hts _ (st_ao "SaltArmy$Orders" (by simp)))
  · exact st_pO (hts _ (st_ao "SaltArmy$Camp" (by simp)))
  · exact st_pJ (hts _ (st_w1 _ (by simp)))
theorem st_Cs {args : Array Value} {s : State} (hts : ∀ w ∈ lw_tbl, w.before args s = true) (hq : ∀ w ∈ flatC lw_cs, w.before args s = true) : ∃ ad : Nat → Nat, (∀ i, i < 1000 → ad i = s.heap.size + i) ∧ sa_Cs ad (fun q : Nat => s.heap.size ≤ q) s s.heap := by
  have hA : ∀ a : Nat, a < s.heap.size → ¬ s.heap.size ≤ a := fun a h => Nat.not_le.mpr h
  obtain ⟨adK, adV, hS, hev⟩ := vk_Sof (args := args) (s := s) (N := 10) (tm := st_tm) (len := sa_slen) (byt := sa_byt) (A := fun q : Nat => s.heap.size ≤ q) (by decide) (fun i hi => hq _ (st_ex i hi)) (fun i hi => hq _ (st_co i hi)) (fun i hi => hq _ (st_ar i hi)) (fun i hi => hq _ (st_le i hi)) (fun i hi j hj => hq _ (st_el i hi j hj)) (fun i j hi hj hij => (st_ne i hi j hj hij).elim (fun h => Or.inl (hq _ h)) (fun h => Or.inr (hq _ h))) hA
  have hZ : ∀ j : Nat, ∃ t : Nat, ∀ q : String × String × List Int32, sa_stat[j]? = some q → va_Z q.1 q.2.1 "[I" (.ref t) (fun q : Nat => s.heap.size ≤ q) s s.heap ∧ va_T .int t q.2.2.length (fun i => .int (q.2.2.getD i 0)) (fun q : Nat => s.heap.size ≤ q) s s.heap := by
    intro j
    cases hj : sa_stat[j]? with
    | none => exact ⟨0, fun q h => by cases h⟩
    | some q0 =>
      have hm := List.mem_of_getElem? hj
      obtain ⟨t, ht, hT⟩ := va_Tof (args := args) (s := s) (tm := .static q0.1 q0.2.1 "[I") (ty := .int) (N := q0.2.2.length) (f := fun i => .int (q0.2.2.getD i 0)) (A := fun q : Nat => s.heap.size ≤ q) (st_sz q0 hm) (hq _ (st_sa q0 hm).1) (va_eqt (hq _ (st_sa q0 hm).2)) (fun i hi => va_eqt (hq _ (st_se q0 hm i hi))) hA
      exact ⟨t, fun q h => by cases h; exact ⟨va_Zof (hts _ (st_sl q0 hm).1) (hts _ (st_sl q0 hm).2) ht hA, hT⟩⟩
  obtain ⟨adZ, hZ⟩ := Classical.axiomOfChoice hZ
  let ad : Nat → Nat := fun n => if n < 1000 then s.heap.size + n else if n < 2000 then adK (n - 1000) else if n < 3000 then adZ (n - 2000) else adV (n - 3000)
  have e0 : ∀ i, i < 1000 → ad i = s.heap.size + i := fun i hi => if_pos hi
  have e1 : ∀ i, i < 10 → ad (1000 + i) = adK i := fun i hi => by
    show (if 1000 + i < 1000 then _ else if 1000 + i < 2000 then adK (1000 + i - 1000) else _) = _
    rw [if_neg (by omega), if_pos (by omega), Nat.add_sub_cancel_left]
  have e2 : ∀ i, i < 10 → ad (2000 + i) = adZ i := fun i hi => by
    show (if 2000 + i < 1000 then _ else if 2000 + i < 2000 then _ else if 2000 + i < 3000 then adZ (2000 + i - 2000) else _) = _
    rw [if_neg (by omega), if_neg (by omega), if_pos (by omega), Nat.add_sub_cancel_left]
  have e3 : ∀ i, i < 10 → ad (3000 + i) = adV i := fun i hi => by
    show (if 3000 + i < 1000 then _ else if 3000 + i < 2000 then _ else if 3000 + i < 3000 then _ else adV (3000 + i - 3000)) = _
    rw [if_neg (by omega), if_neg (by omega), if_neg (by omega), Nat.add_sub_cancel_left]
  refine ⟨ad, e0, ⟨fun i hi => ?_, fun i j hi hj e => ?_⟩, fun q hm => ?_, fun j q hj => ?_, ?_, fun w hw => ?_, fun C hC => ?_, ?_, ?_, ?_, ?_, ?_, fun x hx => ?_⟩
  · show va_O _ (ad (1000 + i)) _ _ _ ∧ va_OF _ _ _ _ (ad (1000 + i)) _ _ _ ∧ va_OF _ _ _ (.ref (ad (3000 + i))) (ad (1000 + i)) _ _ _ ∧ va_T _ (ad (3000 + i)) _ _ _ _ _
    rw [e1 i hi, e3 i hi]
    exact hS.1 i hi
  · have e' : ad (1000 + i) = ad (1000 + j) := e
    rw [e1 i hi, e1 j hj] at e'
    exact hS.2 i j hi hj e'
  · refine vk_R.of (A := args) (hts _ (st_rf q hm)) ?_
    simp only [sa_strs, List.mem_cons, List.not_mem_nil, or_false] at hm
    rcases hm with rfl | rfl | rfl | rfl | rfl | rfl | rfl | rfl | rfl | rfl | rfl | rfl | rfl
    · exact (hev 0 (by decide)).trans (by rw [e1 0 (by decide)])
    · exact (hev 1 (by decide)).trans (by rw [e1 1 (by decide)])
    · exact (hev 2 (by decide)).trans (by rw [e1 2 (by decide)])
    · exact (va_eqR (hq (Cond.eq (.string "SaltArmy$Laws" 17) (.string "SaltArmy$Law" 76)) (st_w2 _ (by simp))) (hev 0 (by decide))).trans (by rw [e1 0 (by decide)])
    · exact (hev 3 (by decide)).trans (by rw [e1 3 (by decide)])
    · exact (hev 4 (by decide)).trans (by rw [e1 4 (by decide)])
    · exact (hev 5 (by decide)).trans (by rw [e1 5 (by decide)])
    · exact (va_eqR (hq (Cond.eq (.string "SaltArmy$Laws" 17) (.string "SaltArmyModel" 32)) (st_w2 _ (by simp))) (hev 0 (by decide))).trans (by rw [e1 0 (by decide)])
    · exact (hev 6 (by decide)).trans (by rw [e1 6 (by decide)])
    · exact (hev 7 (by decide)).trans (by rw [e1 7 (by decide)])
    · exact (hev 8 (by decide)).trans (by rw [e1 8 (by decide)])
    · exact (hev 9 (by decide)).trans (by rw [e1 9 (by decide)])
    · exact (va_eqR (hq (Cond.eq (.string "SaltArmy$Orders" 36) (.string "SaltArmyModel" 304)) (st_w2 _ (by simp))) (hev 4 (by decide))).trans (by rw [e1 4 (by decide)])
  · have hl : j < sa_stat.length := (List.getElem?_eq_some_iff.mp hj).1
    have hl2 : sa_stat.length = 7 := rfl
    rw [e2 j (by omega)]
    exact hZ j q hj
  · exact va_Zof (hts _ (st_w1 _ (by simp))) (hts _ (st_w1 _ (by simp))) (va_eqi (hq _ (st_w2 _ (by simp)))) hA
  · exact va_Nw.of (sa_nest_ot w hw) (hts _ (st_nest w hw))
  · exact va_AO.of (hts _ (st_ao C hC))
  · exact va_Zqof (hts _ (st_w1 _ (by simp))) (hts _ (st_w1 _ (by simp))) (hq _ (st_w2 _ (by simp))) hA
  · exact (hts _ (st_w1 (Cond.arrayOver (.array .long)) (by simp)) : (Cond.arrayOver (.array .long)).before args s = true)
  · exact va_Nw.of rfl (hts _ (st_w1 (Cond.castable sa_NSE sa_NSE) (by simp)))
  · exact vx_Zqof (hts _ (st_w1 _ (by simp))) (hts _ (st_w1 _ (by simp))) (hq _ (st_w2 _ (by simp))) hA
  · exact vx_Zqof (hts _ (st_w1 _ (by simp))) (hts _ (st_w1 _ (by simp))) (hq _ (st_w2 _ (by simp))) hA
  · exact va_Nw.of rfl (hts _ (st_de x hx))
/-- a place in the law's entry: N cells are made -/
def lw_N (p : Program) (l : Launch) (e : Env) (s : State) (m : MethodId) (b : Nat) (below : List Frame) (meth : Method) (c : Code) (D : va_G) (ad : Nat → Nat) (cA : FieldType → ClassId) (N : Nat) (σ : sa_St) (pc : Nat) (lv : List (Nat × Value)) (st : List Value) : Prop :=
  ∀ (H : Heap) (locs : List Loc) (ls : Array Slot), sa_W0 D ad cA (fun q : Nat => s.heap.size ≤ q) N σ H → va_S (fun q : Nat => s.heap.size ≤ q) s.heap H locs → lv_has ls 7 lv →
    W p l e room_1 s m #[Value.ref b] below meth c H locs N (sa_SL N) (lw_Z below #[Value.ref b] s) (F0 m pc ls st)
theorem st_SL : sa_SL 193 ≤ 100000 := by decide +kernel
section SASTART
variable {p : Program} {l : Launch} {e : Env} {s : State} {m : MethodId} {b : Nat} {below : List Frame} {meth : Method} {c : Code} {D : va_G} {ad : Nat → Nat} {cA : FieldType → ClassId} {N : Nat} {σ : sa_St} {pc : Nat} {lv : List (Nat × Value)} {st : List Value}
theorem ln_room {q : Nat ⊕ (FieldType × Nat)} (hs : sa_sh N = some q) (h1 : N + 1 ≤ 193) : N + 1 ≤ room_1.cells ∧ sa_SL N + sa_sz q ≤ room_1.slots ∧ sa_SL N + sa_sz q = sa_SL (N + 1) := by
  obtain ⟨r1, r2, r3, r4⟩ := sc_room (N0 := 0) (k := 193) hs (Nat.zero_le _) (by omega)
  have h0 : sa_SL 0 = 0 := rfl
  have h9 := st_SL
  rw [h0, Nat.sub_zero, Nat.sub_zero] at r2 r4
  rw [Nat.zero_add] at r2
  refine ⟨by show N + 1 ≤ 601024; omega, by show _ ≤ 7293034; omega, r4⟩
theorem ln_dup (C : sa_C p s m #[Value.ref b] meth c code R_law "law" 7 ret D ad cA (fun q : Nat => s.heap.size ≤ q)) {a : Value} (hd : decode code pc = .ok (.dup, 1)) (ha : a.category = 1) (kk : lw_N p l e s m b below meth c D ad cA N σ (pc + 1) lv (a :: a :: st)) : lw_N p l e s m b below meth c D ad cA N σ pc lv (a :: st) := fun H locs ls hw hS hl => lv_dup C.1 C.2.1 hd ha (kk H locs ls hw hS hl)
theorem ln_astore_n (C : sa_C p s m #[Value.ref b] meth c code R_law "law" 7 ret D ad cA (fun q : Nat => s.heap.size ≤ q)) {k9 : Fin 4} {i : Nat} {x : Nat} {lv' : List (Nat × Value)} (hd : decode code pc = .ok (.astore_n k9, 1)) (hi : (k9 : Nat) = i) (hn : i < 7) (hl0 : (i, Value.ref x) :: lv.filter (fun q => !(q.1 == i) && !(q.1 + 1 == i && q.2.category == 2)) = lv') (kk : lw_N p l e s m b below meth c D ad cA N σ (pc + 1) lv' st) : lw_N p l e s m b below meth c D ad cA N σ pc lv (.ref x :: st) := fun H locs ls hw hS hl => lv_astore_n C.1 C.2.1 hd hi hl hn hl0 (fun ls' hl' => kk H locs ls' hw hS hl')
theorem ln_iconst (C : sa_C p s m #[Value.ref b] meth c code R_law "law" 7 ret D ad cA (fun q : Nat => s.heap.size ≤ q)) {n : Int} {v : Int32} (hd : decode code pc = .ok (.iconst n, 1)) (hv : Int32.ofInt n = v) (kk : lw_N p l e s m b below meth c D ad cA N σ (pc + 1) lv (.int v :: st)) : lw_N p l e s m b below meth c D ad cA N σ pc lv st := fun H locs ls hw hS hl => lv_iconst C.1 C.2.1 hd hv (kk H locs ls hw hS hl)
theorem ln_istore (C : sa_C p s m #[Value.ref b] meth c code R_law "law" 7 ret D ad cA (fun q : Nat => s.heap.size ≤ q)) {i : Nat} {x : Int32} {lv' : List (Nat × Value)} (hd : decode code pc = .ok (.istore i, 2)) (hn : i < 7) (hl0 : (i, Value.int x) :: lv.filter (fun q => !(q.1 == i) && !(q.1 + 1 == i && q.2.category == 2)) = lv') (kk : lw_N p l e s m b below meth c D ad cA N σ (pc + 2) lv' st) : lw_N p l e s m b below meth c D ad cA N σ pc lv (.int x :: st) := fun H locs ls hw hS hl => lv_istore C.1 C.2.1 hd hl hn hl0 (fun ls' hl' => kk H locs ls' hw hS hl')
theorem ln_new (C : sa_C p s m #[Value.ref b] meth c code R_law "law" 7 ret D ad cA (fun q : Nat => s.heap.size ≤ q)) {idx ci n : Nat} {Cn : String} {T : u_T} {ty0 : Nat → FieldType} (F : sa_Cd ci Cn T n ty0) (hlink : Cond.classLink R_law idx Cn ∈ sa_T) (hs : sa_sh N = some (.inl ci)) (h1 : N + 1 ≤ 193) (had : ad (N + 1) = ad N + 1) (hd : decode code pc = .ok (.new idx, 3)) (kk : lw_N p l e s m b below meth c D ad cA (N + 1) (sa_nw σ N) (pc + 3) lv (.ref (ad N) :: st)) : lw_N p l e s m b below meth c D ad cA N σ pc lv st := by
  intro H locs ls hw hS hl
  obtain ⟨f1, f2, f3, f4, f5, f6, f7⟩ := F
  have hsz := sc_size hw hs
  obtain ⟨r1, r2, r4⟩ := ln_room hs h1
  have hsl : sa_sz (.inl ci : Nat ⊕ (FieldType × Nat)) = n := f2.symm
  rw [hsl] at r2 r4
  have hKn := C.2.2.2.2.2.2.2.2.1.1 ci _ f1
  refine W.newcK C.1 C.2.1 C.2.2.2.1 (C.2.2.2.2.1 _ hlink) (C.2.2.2.2.1 _ f5) (C.2.2.2.2.1 _ f6) rfl hd r1 r2 hKn.2.1 hsz fun H1 kC hkC e1 z1 o1 => ?_
  have hob := (u_born ty0 C.2.2.2.2.1 f3 hKn hkC e1 f4)
  obtain ⟨hw1, hS1⟩ := sc_push C hw hS had hsz (by rw [z1, hsz]) (fun q hq => o1 q (by rw [← hsz]; exact hq)) (by
    rw [sa_ent_obj hs]
    refine ⟨_, f1, hob.to (fun j hj => ?_)⟩
    have hj' : j < sa_nf ci := by rw [← f2]; exact hj
    unfold vp_V
    rw [List.getD_eq_getElem?_getD, sa_fs_at hj', (f7 j hj).1]
    exact sa_nw_def (f7 j hj).2.1 (f7 j hj).2.2)
  rw [r4]
  exact kk H1 locs ls hw1 hS1 hl
theorem ln_newL (C : sa_C p s m #[Value.ref b] meth c code R_law "law" 7 ret D ad cA (fun q : Nat => s.heap.size ≤ q)) (hac : Cond.arrayClass .long ∈ sa_T) {n : Int32} {N' : Nat} (hs : sa_sh N = some (.inr (.long, N'))) (hn : ¬ n < 0) (hN : n.toNatClampNeg = N') (hb : N' * 8 ≤ 536870912) (h1 : N + 1 ≤ 193) (had : ad (N + 1) = ad N + 1) (hd : decode code pc = .ok (.newarray .long, 2)) (kk : lw_N p l e s m b below meth c D ad cA (N + 1) (sa_nw σ N) (pc + 2) lv (.ref (ad N) :: st)) : lw_N p l e s m b below meth c D ad cA N σ pc lv (.int n :: st) := by
  intro H locs ls hw hS hl
  have hsz := sc_size hw hs
  obtain ⟨r1, r2, r4⟩ := ln_room hs h1
  have hT := (C.2.2.2.2.2.2.2.2.1.2 1 _ rfl).2
  refine va_newaK (atype := .long) C.1 C.2.1 (C.2.2.2.2.1 _ hac) rfl hd rfl hn hN hb r1 r2 hsz fun H1 cA' e1 z1 o1 hAr hNm => ?_
  have hcA : cA' = cA .long := Option.some.inj (hNm.symm.trans hT)
  subst hcA
  obtain ⟨hw1, hS1⟩ := sc_push C hw hS had hsz (by rw [z1, hsz]) (fun q hq => o1 q (by rw [← hsz]; exact hq)) (by
    rw [sa_ent_arr hs]
    show H1[ad N]? = some (vp_cell (cA .long) (sa_arr ad (sa_nw σ N) .long N' N))
    rw [e1]
    simp only [sa_arr, sa_nw, va_up_at]
    rfl)
  have r4' : sa_SL N + N' = sa_SL (N + 1) := r4
  rw [r4']
  exact kk H1 locs ls hw1 hS1 hl
theorem ln_inv (C : sa_C p s m #[Value.ref b] meth c code R_law "law" 7 ret D ad cA (fun q : Nat => s.heap.size ≤ q)) {d' k' : Nat} {y : MethodName} {bytes : ByteArray} {maxL n idx id : Nat} {av : (Nat → Nat) → List Value} {σ1 : sa_St} {As : List Value} (had : ∀ i, i < sa_all → ad (i + 1) = ad i + 1) (M : sa_Mc d' N k' y bytes maxL none av none σ σ1) (hcode : Cond.code y bytes maxL none ∈ sa_T) (hdesc : y.cls ≠ "java/lang/invoke/MethodHandle" ∧ y.cls ≠ "java/lang/invoke/VarHandle" ∧ (parseMethodDescriptor y.desc).map (fun d => d.parameters.length) = some n) (hini : Cond.initialized y.cls ∈ sa_T) (hnm0 : y.name = "<init>") (hinst : Cond.instanceMethod y ∈ sa_T) (hlink : Cond.methodLink R_law idx y ∈ sa_T) (hav : av ad = .ref (ad id) :: As) {st' : List Value} (hst : st' = As.reverse ++ .ref (ad id) :: st) (hn : As.length = n) (hw8 : (st.map fun v => v.category).sum ≤ 8) (hdd : d' + 1 ≤ 100) (hmx : maxL ≤ 45) (h1 : N + k' ≤ 193) (hd : decode code pc = .ok (.invokespecial idx, 3)) (kk : lw_N p l e s m b below meth c D ad cA (N + k') σ1 (pc + 3) lv st) : lw_N p l e s m b below meth c D ad cA N σ pc lv st' := by
  intro H locs ls hw hS hl
  subst hst
  have hM := M l D ad cA (fun q : Nat => s.heap.size ≤ q) had
  rw [hav] at hM
  have m1 := sa_SL_mono (Nat.le_add_right N k')
  have m2 := sa_SL_mono h1
  have m3 := st_SL
  refine sa_after (va_runI (As := As) (rest := st) ⟨C.1, C.2.1, C.2.2.1, C.2.2.2.1, C.2.2.2.2.1⟩ hM ⟨callB_of n C.2.2.2.2.1 (sa_good hcode) rfl rfl rfl (C.2.2.2.2.1 _ hini) (C.2.2.2.2.1 _ hlink) hdesc ⟨by show d' + 1 ≤ 2048; omega, by show 8 + (maxL + 11) + 64 * d' ≤ 84000; omega⟩, hnm0, C.2.2.2.2.1 _ hinst⟩ ⟨sa_blind, fun U hU hW => ⟨rfl, by rw [hU]; exact hw, by rw [hU]; exact C.2.2.2.2.2.2.2.2.into hW hS⟩⟩ rfl hn hl.1 rfl (lv_room hw8) hd ⟨by show N + k' ≤ 601024; omega, by show sa_SL N + (sa_SL (N + k') - sa_SL N) ≤ 7293034; omega⟩) hS (fun H1 locs1 hw1 hS1 => ?_)
  have e2 : sa_SL N + (sa_SL (N + k') - sa_SL N) = sa_SL (N + k') := by omega
  rw [e2]
  exact kk H1 locs1 ls hw1 hS1 hl
theorem ln_all (kk : lw_S p l e s m b below meth c D ad cA (0) σ pc lv st) : lw_N p l e s m b below meth c D ad cA 193 σ pc lv st := fun H locs ls hw hS hl => W.widen (k := 1000 + 10 * 0) (n := 100000 + 100 * 0) (by decide) (by have := st_SL; omega) (kk H locs ls hw hS hl)
end SASTART
def st_0 : sa_St := (fun _ _ => 0, fun _ _ => 0, fun _ _ => 0)
/-- the state behind the constructors -/
def sa_init : sa_St := sa_nw (t_X12 (sa_nw (t_X11 (sa_nw st_0 0)) 159)) 192
set_option maxHeartbeats 4000000 in
set_option maxRecDepth 20000 in
theorem whole_start_of {Inv : Nat → sa_St → Prop} (FI : ∀ K, K ≤ 512 → lc_all (Inv K) (Inv (K + 1))) (hup : ∀ K σ, Inv K σ → Inv (K + 1) σ) (hI0 : Inv 0 sa_init) {p : Program} {e : Env} {s : State} {m : MethodId} {below : List Frame} {meth : Method} {c : Code} (l : Launch) (hflags : l.flags = flags0) {b L : Nat} {xs : Nat → Int32} (hL : L ≤ 3072) (hnm : meth.name = "law") (C0 : lw_At p s m meth c b L xs) : W p l e room_1 s m #[Value.ref b] below meth c s.heap [] 0 0 (lw_Z below #[Value.ref b] s) (entryFrame m ([Value.ref b] : List Value).toArray 7) := by
  obtain ⟨c1, c2, c3, c4, c5, c6, c7, c8, c9, c10⟩ := C0
  obtain ⟨D, hK⟩ := st_K c6
  obtain ⟨ad, had0, hCs⟩ := st_Cs c6 (flat_of_before _ c10)
  have had : ∀ i, i < sa_all → ad (i + 1) = ad i + 1 := fun i hi => by
    have hi' : i < 193 := hi
    rw [had0 i (by omega), had0 (i + 1) (by omega), Nat.add_assoc]
  have C : sa_C p s m #[Value.ref b] meth c code R_law "law" 7 ret D ad (st_cA s) (fun q : Nat => s.heap.size ≤ q) := ⟨c1, c2, c4, c5, fun w hw => c6 w (List.mem_filter.mp hw).1, c3, hnm, c9, hK, fun q hq => hq, hCs⟩
  have hl0 := lv_entry ([.ref b]) (n := 7) (Nat.le_of_ble_eq_true rfl)
  rw [lg_entry_eq]
  generalize (lg_sl ([.ref b]) ++ List.replicate (7 - (lg_sl ([.ref b])).length) Slot.unset).toArray = ls at hl0 ⊢
  have hl0 : lv_has ls 7 [(0, .ref b)] := hl0
  have hw0 : sa_W0 D ad (st_cA s) (fun q : Nat => s.heap.size ≤ q) 0 st_0 s.heap := by
    refine ⟨fun k q hk => ?_, ⟨fun i j p q hi => ?_, fun k q hk => ?_⟩, Or.inl (by rw [had0 0 (by decide)]; rfl)⟩
    · exact absurd hk (by simp [sa_ws])
    · exact absurd hi (by simp [sa_ws])
    · exact absurd hk (by simp [sa_ws])
  have key : lw_N p l e s m b below meth c D ad (st_cA s) 0 st_0 0 [(0, .ref b)] [] := by
    refine ln_new (Cn := RX11) C cd_X11 (sa_at 139 (by decide +kernel) rfl : Cond.classLink R_law 8 RX11 ∈ sa_T) rfl (by decide) (had 0 (by decide)) d_law_0 ?_
    refine ln_dup C d_law_3 rfl ?_
    refine ln_inv (st := [.ref (ad 0)]) (k' := 158) C had (kc_X11 _) (sa_at 143 (by decide +kernel) rfl : Cond.code yX11_init cX11_init 2 none ∈ sa_T) (by decide +kernel) (sa_at 114 (by decide +kernel) rfl : Cond.initialized RX11 ∈ sa_T) rfl (sa_at 142 (by decide +kernel) rfl : Cond.instanceMethod yX11_init ∈ sa_T) (sa_at 141 (by decide +kernel) rfl : Cond.methodLink R_law 15 yX11_init ∈ sa_T) rfl rfl rfl (Nat.le_of_ble_eq_true rfl) (by decide) (by decide) (by decide) d_law_4 ?_
    refine ln_astore_n (lv' := [(1, .ref (ad 0)), (0, .ref b)]) C d_law_7 rfl (by decide) rfl ?_
    refine ln_new (Cn := RX12) C cd_X12 (sa_at 1379 (by decide +kernel) rfl : Cond.classLink R_law 16 RX12 ∈ sa_T) rfl (by decide) (had 159 (by decide)) d_law_8 ?_
    refine ln_dup C d_law_11 rfl ?_
    refine ln_inv (st := [.ref (ad 159)]) (k' := 32) C had (kc_X12 _) (sa_at 1383 (by decide +kernel) rfl : Cond.code yX12_init cX12_init 1 none ∈ sa_T) (by decide +kernel) (sa_at 128 (by decide +kernel) rfl : Cond.initialized RX12 ∈ sa_T) rfl (sa_at 1382 (by decide +kernel) rfl : Cond.instanceMethod yX12_init ∈ sa_T) (sa_at 1381 (by decide +kernel) rfl : Cond.methodLink R_law 18 yX12_init ∈ sa_T) rfl rfl rfl (Nat.le_of_ble_eq_true rfl) (by decide) (by decide) (by decide) d_law_12 ?_
    refine ln_astore_n (lv' := [(2, .ref (ad 159)), (1, .ref (ad 0)), (0, .ref b)]) C d_law_15 rfl (by decide) rfl ?_
    refine ln_iconst (v := 1) C d_law_16 (by decide) ?_
    refine ln_newL (N' := 1) C (sa_at 382 (by decide +kernel) rfl : Cond.arrayClass .long ∈ sa_T) rfl (by decide) (by decide) (by decide) (by decide) (had 192 (by decide)) d_law_17 ?_
    refine ln_astore_n (lv' := [(3, .ref (ad 192)), (2, .ref (ad 159)), (1, .ref (ad 0)), (0, .ref b)]) C d_law_19 rfl (by decide) rfl ?_
    refine ln_iconst (v := 0) C d_law_20 (by decide) ?_
    refine ln_istore (lv' := [(4, .int 0), (3, .ref (ad 192)), (2, .ref (ad 159)), (1, .ref (ad 0)), (0, .ref b)]) C d_law_21 (by decide) rfl ?_
    refine ln_all ?_
    exact law_loop FI hup hflags C c7 c8 hL 520 0 0 sa_init (by omega) rfl (by omega) hI0
  exact key s.heap [] ls hw0 va_S.rf hl0
