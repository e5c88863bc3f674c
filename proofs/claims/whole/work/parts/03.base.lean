/-! THE WORLD: the cells that the constructors make, by their numbers; a state gives what they hold.
A state: ints by cell and place; references by cell and place (0: null, k + 1: cell k); longs by cell and place. -/
abbrev sa_St : Type := (Nat → Nat → Int32) × (Nat → Nat → Nat) × (Nat → Nat → Int64)
abbrev sa_M (α : Type) : Type := sa_St → Option (α × sa_St)
def sa_sh (id : Nat) : Option (Nat ⊕ (FieldType × Nat)) := sa_shape[id]?
def sa_sz (k : Nat ⊕ (FieldType × Nat)) : Nat := match k with
  | .inl ci => sa_nf ci
  | .inr a => a.2
/-- slots of the first n cells -/
def sa_SL : Nat → Nat
  | 0 => 0
  | n + 1 => sa_SL n + (match sa_sh n with | some k => sa_sz k | none => 0)
theorem sa_SL_mono : ∀ {a b : Nat}, a ≤ b → sa_SL a ≤ sa_SL b := by
  intro a b h
  induction h with
  | refl => exact Nat.le_refl _
  | step _ ih => exact Nat.le_trans ih (Nat.le_add_right _ _)
def sa_rv (ad : Nat → Nat) (n : Nat) : Value := match n with
  | 0 => .null
  | i + 1 => .ref (ad i)
def sa_ro (ad : Nat → Nat) (n : Nat) : Option Nat := match n with
  | 0 => none
  | i + 1 => some (ad i)
def sa_val (ad : Nat → Nat) (σ : sa_St) (ty : FieldType) (id k : Nat) : Value := match ty with
  | .long => .long (σ.2.2 id k)
  | .int => .int (σ.1 id k)
  | .boolean => .int (σ.1 id k)
  | .byte => .int (σ.1 id k)
  | .char => .int (σ.1 id k)
  | .short => .int (σ.1 id k)
  | _ => sa_rv ad (σ.2.1 id k)
def sa_fs (ad : Nat → Nat) (σ : sa_St) (ci id : Nat) : List Value := (List.range (sa_nf ci)).map (fun k => sa_val ad σ (sa_ft ci k) id k)
def sa_arr (ad : Nat → Nat) (σ : sa_St) (ty : FieldType) (n id : Nat) : vp_A := match ty with
  | .long => (n, .inr (.inl (σ.2.2 id)))
  | .int => (n, .inl (σ.1 id))
  | .boolean => (n, .inl (σ.1 id))
  | .byte => (n, .inl (σ.1 id))
  | .char => (n, .inl (σ.1 id))
  | .short => (n, .inl (σ.1 id))
  | _ => (n, .inr (.inr (.inr (.inr (fun j => sa_ro ad (σ.2.1 id j))))))
def sa_ent (ad : Nat → Nat) (cA : FieldType → ClassId) (σ : sa_St) (id : Nat) : va_E := match sa_sh id with
  | some (.inl ci) => .inr (ci, sa_fs ad σ ci id)
  | some (.inr (ty, n)) => .inl (cA ty, sa_arr ad σ ty n id)
  | none => .inr (0, [])
def sa_ws (ad : Nat → Nat) (cA : FieldType → ClassId) (N : Nat) (σ : sa_St) : va_W := (List.range N).map (fun id => (ad id, sa_ent ad cA σ id))
theorem sa_ws_len {ad : Nat → Nat} {cA : FieldType → ClassId} {N : Nat} {σ : sa_St} : (sa_ws ad cA N σ).length = N := by
  unfold sa_ws
  simp
theorem sa_ws_at {ad : Nat → Nat} {cA : FieldType → ClassId} {N : Nat} {σ : sa_St} {id : Nat} (h : id < N) : (sa_ws ad cA N σ)[id]? = some (ad id, sa_ent ad cA σ id) := by
  unfold sa_ws
  rw [List.getElem?_map, List.getElem?_range h]
  rfl
theorem sa_ws_set {ad : Nat → Nat} {cA : FieldType → ClassId} {N : Nat} {σ τ : sa_St} {id : Nat} {e : va_E} (hid : sa_ent ad cA τ id = e) (ho : ∀ i, i ≠ id → sa_ent ad cA τ i = sa_ent ad cA σ i) : (sa_ws ad cA N σ).set id (ad id, e) = sa_ws ad cA N τ := by
  apply List.ext_getElem?
  intro i
  by_cases hi : i = id
  · subst hi
    by_cases hl : i < N
    · rw [List.getElem?_set_self (by rw [sa_ws_len]; exact hl), sa_ws_at hl, hid]
    · rw [List.getElem?_eq_none (by rw [List.length_set, sa_ws_len]; omega), List.getElem?_eq_none (by rw [sa_ws_len]; omega)]
  · rw [List.getElem?_set_ne (Ne.symm hi)]
    by_cases hl : i < N
    · rw [sa_ws_at hl, sa_ws_at hl, ho i hi]
    · rw [List.getElem?_eq_none (by rw [sa_ws_len]; omega), List.getElem?_eq_none (by rw [sa_ws_len]; omega)]
theorem sa_ws_push {ad : Nat → Nat} {cA : FieldType → ClassId} {N : Nat} {σ τ : sa_St} (ho : ∀ i, i < N → sa_ent ad cA τ i = sa_ent ad cA σ i) : sa_ws ad cA N σ ++ [(ad N, sa_ent ad cA τ N)] = sa_ws ad cA (N + 1) τ := by
  unfold sa_ws
  rw [List.range_succ, List.map_append]
  congr 1
  apply List.map_congr_left
  intro i hi
  rw [ho i (List.mem_range.mp hi)]
/-- the world in a heap: its first N cells are made -/
def sa_W0 (D : va_G) (ad : Nat → Nat) (cA : FieldType → ClassId) (A : Nat → Prop) (N : Nat) (σ : sa_St) (H : Heap) : Prop :=
  va_P D sa_cl (sa_ws ad cA N σ) H ∧ va_D A (sa_ws ad cA N σ) ∧ (H.size = ad N ∨ sa_sh N = none)
/-- all cells -/
abbrev sa_all : Nat := 193
theorem sa_lt {id : Nat} {k : Nat ⊕ (FieldType × Nat)} (h : sa_sh id = some k) : id < sa_all := by
  have h1 : id < sa_shape.length := (List.getElem?_eq_some_iff.mp h).1
  have h2 : sa_shape.length = sa_all := by decide +kernel
  rw [h2] at h1
  exact h1
def sa_tys (cA : FieldType → ClassId) : List (ClassId × FieldType) := [(cA .int, .int), (cA .long, .long), (cA .byte, .byte), (cA .boolean, .boolean), (cA (.object "SaltArmy$Law"), .object "SaltArmy$Law"), (cA (.object "SaltArmy$Orders"), .object "SaltArmy$Orders"), (cA (.object "SaltArmy$Camp"), .object "SaltArmy$Camp"), (cA (.array .long), .array .long)]
/-- String constants: their texts, in latin bytes; the places of their addresses are 1000 and on -/
def sa_txt : List String := ["gwhmt", "pwcf", "hkrs abtf pgwmqpb   ", "=<>", "mjdsrw", "y", "hkrs", "abtf", "pgwmq", "pb"]
def sa_byt : List (List Int32) := [[103, 119, 104, 109, 116], [112, 119, 99, 102], [104, 107, 114, 115, 32, 97, 98, 116, 102, 32, 112, 103, 119, 109, 113, 112, 98, 32, 32, 32], [61, 60, 62], [109, 106, 100, 115, 114, 119], [121], [104, 107, 114, 115], [97, 98, 116, 102], [112, 103, 119, 109, 113], [112, 98]]
def sa_slen : List Nat := [5, 4, 20, 3, 6, 1, 4, 4, 5, 2]
def sa_strs : List (String × Nat × Nat) := [("SaltArmy$Laws", 17, 0), ("SaltArmy$Land", 70, 1), ("SaltArmy$Land", 113, 2), ("SaltArmy$Law", 76, 0), ("SaltArmy$Law", 45, 3), ("SaltArmy$Orders", 36, 4), ("SaltArmyModel", 26, 5), ("SaltArmyModel", 32, 0), ("SaltArmyModel", 286, 6), ("SaltArmyModel", 292, 7), ("SaltArmyModel", 294, 8), ("SaltArmyModel", 296, 9), ("SaltArmyModel", 304, 4)]
/-- the static rows of ints: class, name, what they hold; the places of their addresses are 2000 and on -/
def sa_stat : List (String × String × List Int32) := [("SaltArmy$Land", "MOST", [8, 12, 5, 3]), ("SaltArmy$Land", "ITEM_COUNTS", [4, 4, 5, 2]), ("SaltArmy$Land", "LOW", [0, 0, 0, 0, 0, 0, 0, 1, 0, 0, 0, 1, 0, 0, 0, 0, 0, 0, 0, 0]), ("SaltArmy$Land", "HIGH", [9, 1, 99, 9, 0, 7, 7, 9, 9, 0, 7, 99, 9, 3, 15, 7, 9, 0, 0, 0]), ("SaltArmy$Land", "USUAL", [0, 0, 20, 0, 0, 0, 1, 1, 0, 0, 0, 50, 5, 0, 0, 0, 2, 0, 0, 0]), ("SaltArmy$Orders", "DIGITS", [2, 2, 1, 1, 0, 0]), ("SaltArmy$Watch", "CHOICES", [1, 0, 0, 0, 0, 0, 0, 1, 1, 0, 0, 0, 0, 0, 1, 2, 1, 0, 0, 0, 0, 1, 3, 3, 1, 0, 0, 0, 1, 4, 6, 4, 1, 0, 0, 1, 5, 10, 10, 5, 1, 0, 1, 6, 15, 20, 15, 6, 1])]
/-- private constructors of nest mates -/
def sa_nest : List Cond := [.methodLinkNest "SaltArmy" 9 yX7_init "SaltArmy", .methodLinkNest "SaltArmy" 18 yX1_init "SaltArmy", .methodLinkNest "SaltArmy$Laws" 33 yX2_init "SaltArmy", .methodLinkNest "SaltArmy" 39 yX4_init "SaltArmy", .methodLinkNest "SaltArmy" 42 yX0_init "SaltArmy", .methodLinkNest "SaltArmy$Past" 17 yX0_init "SaltArmy", .methodLinkNest "SaltArmy" 75 yX8_init "SaltArmy", .methodLinkNest "SaltArmy" 82 yX10_init "SaltArmy"]
/-- what an array of element arrays asks of the tables (as the kit's word for arrays of objects) -/
def sa_AOJ (U : State) : Prop := (Cond.arrayOver (.array .long)).before #[] U = true
theorem sa_over {args : Array Value} {first s : State} {o : Option Outcome} {idx : List Nat} {t : FieldType} (h : (Cond.arrayOver (.array t)).holds args first o s idx = true) :
    ∃ comp c k, s.vm.findClass (FieldType.array t).toString = some comp ∧ (s.vm.classes.findIdx? fun (x : Class) => match x.kind with | .array component _ => component == comp | _ => false) = some c ∧ s.vm.classes[c]? = some k ∧ k.kind = .array comp (.array t) ∧ s.vm.findClass ("[" ++ (FieldType.array t).toString) = some c := by
  simp only [Cond.holds, Cond.value, beq_iff_eq] at h
  cases hc : s.vm.findClass (FieldType.array t).toString with
  | none => simp [hc] at h
  | some comp =>
    simp only [hc, Option.bind_some, Option.bind_eq_some_iff, Option.map_eq_some_iff] at h
    obtain ⟨c, hi, k, hk, hb⟩ := h
    obtain ⟨hlt, hp, -⟩ := Array.findIdx?_eq_some_iff_getElem.mp hi
    have hkk : s.vm.classes[c] = k := (Array.getElem?_eq_some_iff.mp hk).2
    rw [hkk] at hp
    cases hkind : k.kind with
    | array component ty =>
      rw [hkind] at hb hp
      simp at hb hp
      exact ⟨comp, c, k, rfl, hi, hk, by rw [hkind, hp, hb.1], hb.2⟩
    | _ => rw [hkind] at hb; simp at hb
theorem sa_AOJ.moved {u U : State} (hvm : u.vm.Alike U.vm) (h : sa_AOJ u) : sa_AOJ U := by
  obtain ⟨comp, c, k, h1, h2, h3, h4, h5⟩ := sa_over h
  obtain ⟨k', hk', he⟩ := hvm.2.2 _ _ h3
  have hi : (U.vm.classes.findIdx? fun (x : Class) => match x.kind with | .array component _ => component == comp | _ => false) = some c := by
    have a1 := va_idx_bare U.vm comp
    have a2 := va_idx_bare u.vm comp
    have hb : U.vm.bare = u.vm.bare := by first | exact hvm.bare_eq | exact hvm.bare_eq.symm
    rw [hb] at a1
    exact (a1.symm.trans a2).trans h2
  have hkind : k'.kind = .array comp (.array .long) := by rw [he]; exact h4
  have f1 : U.vm.findClass (FieldType.array .long).toString = some comp := by rw [hvm.findClass]; exact h1
  have f2 : U.vm.findClass ("[" ++ (FieldType.array .long).toString) = some c := by rw [hvm.findClass]; exact h5
  unfold sa_AOJ Cond.before Cond.holds
  simp only [Cond.value]
  rw [f1, Option.bind_some]
  refine (congrArg (fun o : Option Nat => (o.bind (fun c => (U.vm.classes[c]?).map fun (k : Class) => match k.kind with | .array _ ty => decide (ty = FieldType.array .long) && decide (U.vm.findClass ("[" ++ (FieldType.array .long).toString) = some c) | _ => false) == some true)) hi).trans ?_
  simp [hk', hkind, f2]
abbrev sa_NSE : String := "java/util/NoSuchElementException"
/-- what the throw's chain of constructors declares -/
def sa_decl : List MethodName := [⟨"java/lang/RuntimeException", "<init>", "()V"⟩, ⟨"java/lang/Exception", "<init>", "()V"⟩, ⟨"java/lang/Throwable", "<init>", "()V"⟩]
/-- what lies in the heap ahead of the world and never changes: constants -/
def sa_Cs (ad : Nat → Nat) (A : Nat → Prop) (U : State) (H : Heap) : Prop :=
  vk_S 10 sa_slen sa_byt (fun i => ad (1000 + i)) (fun i => ad (3000 + i)) A U H ∧
  (∀ q ∈ sa_strs, vk_R q.1 q.2.1 (sa_txt.getD q.2.2 "") (ad (1000 + q.2.2)) U) ∧
  (∀ (j : Nat) (q : String × String × List Int32), sa_stat[j]? = some q → va_Z q.1 q.2.1 "[I" (.ref (ad (2000 + j))) A U H ∧ va_T .int (ad (2000 + j)) q.2.2.length (fun i => .int (q.2.2.getD i 0)) A U H) ∧
  va_Z "java/lang/String" "COMPACT_STRINGS" "Z" (.int 1) A U H ∧
  (∀ w ∈ sa_nest, va_Nw w U) ∧
  (∀ C ∈ ["SaltArmy$Law", "SaltArmy$Orders", "SaltArmy$Camp"], va_AO C U) ∧
  va_Zq "jdk/internal/util/Preconditions" "SIOOBE_FORMATTER" "Ljava/util/function/BiFunction;" A U H ∧
  sa_AOJ U ∧ va_Nw (.castable sa_NSE sa_NSE) U ∧ vx_Zq Bundle.tN "UNASSIGNED_STACK" Bundle.steD A U H ∧ vx_Zq Bundle.tN "SUPPRESSED_SENTINEL" Bundle.listD A U H ∧ (∀ x ∈ sa_decl, va_Nw (.declares x) U)
def sa_K (D : va_G) (ad : Nat → Nat) (cA : FieldType → ClassId) (A : Nat → Prop) (U : State) (H : Heap) : Prop :=
  va_K D sa_cl (sa_tys cA) U ∧ (∀ q, H.size ≤ q → A q) ∧ sa_Cs ad A U H
theorem sa_nest_ot : ∀ w ∈ sa_nest, w.onTables = true := by decide +kernel
theorem sa_Cs.same {ad : Nat → Nat} {A : Nat → Prop} {u U : State} {H : Heap} (hv : u.vm = U.vm) (h : sa_Cs ad A u H) : sa_Cs ad A U H := by
  obtain ⟨h1, h2, h3, h4, h5, h6, h7, h8, h9, h10, h11, h12⟩ := h
  have ha : u.vm.Alike U.vm := by rw [hv]; exact Vm.Alike.refl _
  exact ⟨h1.moved ha, fun q hq => (h2 q hq).same hv.symm, fun j q hq => ⟨(h3 j q hq).1.moved ha, (h3 j q hq).2.moved ha⟩, h4.moved ha, fun w hw => (h5 w hw).same (sa_nest_ot w hw) hv, fun C hC => (h6 C hC).moved ha, h7.moved ha, h8.moved ha, h9.same rfl hv, h10.moved ha, h11.moved ha, fun x hx => (h12 x hx).same rfl hv⟩
theorem sa_Cs.warm {ad : Nat → Nat} {A : Nat → Prop} {s U : State} {H : Heap} (hW : s.WarmedH U.vm) (h : sa_Cs ad A s H) : sa_Cs ad A U H := by
  obtain ⟨h1, h2, h3, h4, h5, h6, h7, h8, h9, h10, h11, h12⟩ := h
  refine ⟨h1.moved hW.alike, fun q hq => (h2 q hq).warm hW, fun j q hq => ⟨(h3 j q hq).1.moved hW.alike, (h3 j q hq).2.moved hW.alike⟩, h4.moved hW.alike, fun w hw => ?_, fun C hC => (h6 C hC).moved hW.alike, h7.moved hW.alike, h8.moved hW.alike, h9.warmC hW, h10.moved hW.alike, h11.moved hW.alike, fun x hx => (h12 x hx).warmD hW⟩
  have hz := h5 w hw
  simp only [sa_nest, List.mem_cons, List.not_mem_nil, or_false] at hw
  rcases hw with rfl | rfl | rfl | rfl | rfl | rfl | rfl | rfl <;> exact va_Nw.warmM hW hz
theorem sa_Cs.kept {ad : Nat → Nat} {A : Nat → Prop} {U : State} {H H1 : Heap} (hq : ∀ a : Nat, a < H.size → ¬ A a → H1[a]? = H[a]?) (h : sa_Cs ad A U H) : sa_Cs ad A U H1 := by
  obtain ⟨h1, h2, h3, h4, h5, h6, h7, h8, h9, h10, h11, h12⟩ := h
  exact ⟨h1.kept hq, h2, fun j q hj => ⟨(h3 j q hj).1.kept hq, (h3 j q hj).2.kept hq⟩, h4.kept hq, h5, h6, h7.kept hq, h8, h9, h10.kept hq, h11.kept hq, h12⟩
theorem sa_K.same {D : va_G} {ad : Nat → Nat} {cA : FieldType → ClassId} {A : Nat → Prop} {u U : State} {H : Heap} (hv : u.vm = U.vm) (h : sa_K D ad cA A u H) : sa_K D ad cA A U H :=
  ⟨va_K.moved (by rw [hv]; exact Vm.Alike.refl _) h.1, h.2.1, h.2.2.same hv⟩
theorem sa_K.into {D : va_G} {ad : Nat → Nat} {cA : FieldType → ClassId} {A : Nat → Prop} {s U : State} {H : Heap} {locs : List Loc} (hW : s.WarmedH U.vm) (hS : va_S A s.heap H locs) (h : sa_K D ad cA A s s.heap) : sa_K D ad cA A U H :=
  ⟨va_K.moved hW.alike h.1, fun q hq => h.2.1 q (Nat.le_trans hS.1 hq), (h.2.2.kept hS.2.1).warm hW⟩
def sa_rm (d mc ms : Nat) : Room := { frames := d, cells := mc, slots := ms, locals := 64 * d }
def sa_Qc {α : Type} (D : va_G) (ad : Nat → Nat) (cA : FieldType → ClassId) (A : Nat → Prop) (N : Nat) (enc : α → Option Value) (r : α) (τ : sa_St) : Array Value → State → Outcome → State → Prop :=
  fun _ st o t => o = .returned (enc r) ∧ sa_W0 D ad cA A N τ t.heap ∧ va_F A st t
def sa_Pc (D : va_G) (ad : Nat → Nat) (cA : FieldType → ClassId) (A : Nat → Prop) (N : Nat) (av : List Value) (σ : sa_St) : Array Value → State → Prop := va_Pc av (fun U => sa_W0 D ad cA A N σ U.heap ∧ sa_K D ad cA A U U.heap)
/-- A METHOD'S CONTRACT, where all cells are made: from any state at which f gives an answer, the method gives it, and leaves the state that f leaves -/
def sa_Met {α : Type} (d : Nat) (y : MethodName) (bytes : ByteArray) (maxL : Nat) (ret : Option FieldType) (av : (Nat → Nat) → List Value) (enc : α → Option Value) (f : sa_M α) : Prop :=
  ∀ (l : Launch) (D : va_G) (ad : Nat → Nat) (cA : FieldType → ClassId) (A : Nat → Prop) (σ : sa_St) (r : α) (τ : sa_St), f σ = some (r, τ) →
    Met l y (.code y bytes maxL ret :: sa_T) (sa_rm d 0 0) (sa_Pc D ad cA A sa_all (av ad) σ) (sa_Qc D ad cA A sa_all enc r τ) 0 0 A
/-- what stands fixed within a method -/
def sa_C (p : Program) (s : State) (m : MethodId) (args : Array Value) (meth : Method) (c : Code) (cc : ByteArray) (own name : String) (nL : Nat) (ret : Option FieldType) (D : va_G) (ad : Nat → Nat) (cA : FieldType → ClassId) (A : Nat → Prop) : Prop :=
  p.tables.exec = Jvm.exec ∧ c.code = cc ∧ c.maxLocals = nL ∧ s.vm.findClass own = some m.cls ∧ (∀ w ∈ sa_T, w.before args s = true) ∧ meth.sig.returnType = ret ∧ meth.name = name ∧ meth.locks = false ∧ sa_K D ad cA A s s.heap
/-- A PLACE IN A METHOD: from there on it does what f does -/
def sa_Sg {α : Type} (p : Program) (l : Launch) (e : Env) (s : State) (m : MethodId) (args : Array Value) (below : List Frame) (meth : Method) (c : Code) (nL d : Nat) (D : va_G) (ad : Nat → Nat) (cA : FieldType → ClassId) (A : Nat → Prop) (enc : α → Option Value) (pc : Nat) (lv : List (Nat × Value)) (st : List Value) (f : sa_M α) : Prop :=
  ∀ (σ : sa_St) (r : α) (τ : sa_St), f σ = some (r, τ) → ∀ (H : Heap) (locs : List Loc) (ls : Array Slot), sa_W0 D ad cA A sa_all σ H → va_S A s.heap H locs → lv_has ls nL lv →
    W p l e (sa_rm d 0 0) s m args below meth c H locs 0 0 (MQ below (sa_Qc D ad cA A sa_all enc r τ) args s 0 0 A) (F0 m pc ls st)
theorem sa_mk {α : Type} {d : Nat} {y : MethodName} {bytes : ByteArray} {maxL : Nat} {ret : Option FieldType} {av : (Nat → Nat) → List Value} {enc : α → Option Value} {f : sa_M α} (hy : plainName y.cls = true) (hlen : ∀ ad, (lg_sl (av ad)).length ≤ maxL)
    (body : ∀ (p : Program) (l : Launch) (e : Env) (s : State) (m : MethodId) (args : Array Value) (below : List Frame) (meth : Method) (c : Code) (D : va_G) (ad : Nat → Nat) (cA : FieldType → ClassId) (A : Nat → Prop), sa_C p s m args meth c bytes y.cls y.name maxL ret D ad cA A → sa_Sg p l e s m args below meth c maxL d D ad cA A enc 0 (lv_args 0 (av ad)) [] f) : sa_Met d y bytes maxL ret av enc f := by
  intro l D ad cA A σ r τ hf
  refine Met.ofW (cc := bytes) (maxL := maxL) (ret := ret) hy rfl ?_
  intro p e s m args below meth c s₁ B hml hv
  obtain ⟨rfl, hw, hk⟩ := hv
  have hts := atoms_spec (ws := .code y bytes maxL ret :: sa_T) B.pre
  have C : sa_C p s m (av ad).toArray meth c bytes y.cls y.name maxL ret D ad cA A := ⟨B.exec, B.bytes, hml, findClass_of_methodNamed B.named, fun w h => hts w (List.mem_cons_of_mem _ h), B.returns, (name_of_methodNamed B.named B.method).1, B.notSynchronized, hk⟩
  have hl := lv_entry (av ad) (n := maxL) (hlen ad)
  rw [lg_entry_eq]
  exact (body p l e s m (av ad).toArray below meth c D ad cA A C) σ r τ hf s.heap [] _ hw va_S.rf hl
theorem sa_blind {D : va_G} {ad : Nat → Nat} {cA : FieldType → ClassId} {A : Nat → Prop} {N : Nat} {av : List Value} {σ : sa_St} : FrameBlind (sa_Pc D ad cA A N av σ) := fun a U g mk h => ⟨h.1, h.2.1, sa_K.same (u := U) (U := U.calling g mk a) (H := U.heap) rfl h.2.2⟩
/-- all words of the tables are among those of any method -/
theorem sa_good {y : MethodName} {bytes : ByteArray} {maxL : Nat} {ret : Option FieldType} (h : Cond.code y bytes maxL ret ∈ sa_T) : GoodIn sa_T (.code y bytes maxL ret :: sa_T) := by
  intro w hw
  have hm : w ∈ sa_T := by
    rcases List.mem_cons.mp hw with rfl | h1
    · exact h
    · exact h1
  exact ⟨hm, good_of_word (sa_T_good hm)⟩
/-- behind a call -/
theorem sa_after {α : Type} {p : Program} {l : Launch} {e : Env} {R : Room} {s : State} {m : MethodId} {args : Array Value} {below : List Frame} {meth : Method} {c : Code} {H : Heap} {locs : List Loc} {cells slots mc ms N : Nat} {Q : State → Prop} {pc : Nat} {ls : Array Slot} {st0 rest : List Value} {D : va_G} {ad : Nat → Nat} {cA : FieldType → ClassId} {A : Nat → Prop} {enc : α → Option Value} {r : α} {τ : sa_St} {a : Array Value} {H0 : Heap}
    (hr : va_Run p l e R s m args below meth c H locs cells slots mc ms (F0 m pc ls st0) rest (sa_Qc D ad cA A N enc r τ a) A) (hS : va_S A H0 H locs)
    (kk : ∀ (H1 : Heap) (locs1 : List Loc), sa_W0 D ad cA A N τ H1 → va_S A H0 H1 locs1 → W p l e R s m args below meth c H1 locs1 (cells + mc) (slots + ms) Q (F0 m (pc + 3) ls ((enc r).toList ++ rest))) : W p l e R s m args below meth c H locs cells slots Q (F0 m pc ls st0) := by
  intro T hT X
  obtain ⟨v, st₀, t, T', L, h0, X', hL, e1, e2, ⟨hv, hw, hz, hk⟩, st⟩ := hr T hT X
  have hv' : v = enc r := Outcome.returned.inj hv
  subst hv'
  rw [h0] at hz hk
  obtain ⟨t2, a1, b1⟩ := kk T'.heap (locs ++ L) (by rw [e1]; exact hw)
    ⟨Nat.le_trans hS.1 (by rw [e1]; exact hz), fun q h1 h2 => by rw [e1, hk q (Nat.lt_of_lt_of_le h1 hS.1) h2]; exact hS.2.1 q h1 h2, fun q hq => by
      rcases List.mem_append.mp hq with h | h
      · exact hS.2.2 q h
      · exact hL q h⟩ T' rfl X'
  exact ⟨t2, st t2 a1, b1⟩
