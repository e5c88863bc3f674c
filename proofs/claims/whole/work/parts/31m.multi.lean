/-! new long[n][m]: the step of the machine (follows the library's own laws of multianewarray, which lie where rounds don't reach), then its row for the constructors -/
section SMULTI
def sm_in (comp : ClassId) (M : Nat) : Cell := { cls := comp, slots := Array.replicate M (.long 0), vm := .none }
def sm_out (c : ClassId) (N h0 : Nat) : Nat → Cell
  | 0 => { cls := c, slots := Array.replicate N .null, vm := .none }
  | i + 1 => (sm_out c N h0 i).setSlot i (.ref (h0 + 1 + i))
def sm_fill (s : State) (c comp : ClassId) (N M : Nat) : Nat → State
  | 0 => s.pushCell (sm_out c N s.heap.size 0)
  | i + 1 => ((sm_fill s c comp N M i).pushCell (sm_in comp M)).setCell s.heap.size (sm_out c N s.heap.size (i + 1))
theorem sm_out_facts (c : ClassId) (N h0 : Nat) : ∀ i, (sm_out c N h0 i).cls = c ∧ (sm_out c N h0 i).vm = .none ∧ (sm_out c N h0 i).slots.size = N
  | 0 => ⟨rfl, rfl, by simp [sm_out]⟩
  | i + 1 => by
    obtain ⟨a, b, d⟩ := sm_out_facts c N h0 i
    exact ⟨by simp [sm_out, Cell.setSlot, a], by simp [sm_out, Cell.setSlot, b], by simp [sm_out, Cell.setSlot, d]⟩
theorem sm_fill_facts (s : State) (c comp : ClassId) (N M : Nat) : ∀ i, (sm_fill s c comp N M i).heap.size = s.heap.size + 1 + i ∧ (sm_fill s c comp N M i).heap[s.heap.size]? = some (sm_out c N s.heap.size i) ∧
    (sm_fill s c comp N M i).vm = s.vm ∧ (sm_fill s c comp N M i).slotsUsed = s.slotsUsed + N + i * M
  | 0 => ⟨by simp [sm_fill], by simp [sm_fill], rfl, by simp [sm_fill, sm_out]⟩
  | i + 1 => by
    obtain ⟨a, b, d, u⟩ := sm_fill_facts s c comp N M i
    have hlt : s.heap.size < (sm_fill s c comp N M i).heap.size := by omega
    have hb' : ((sm_fill s c comp N M i).pushCell (sm_in comp M)).heap[s.heap.size]? = some (sm_out c N s.heap.size i) := by rw [State.heap_pushCell_of_lt (h := hlt)]; exact b
    refine ⟨?_, State.heap_setCell_self hb', by simp [sm_fill, d], ?_⟩
    · simp [sm_fill, State.setCell, a]; omega
    · simp [sm_fill, u, sm_in, Nat.succ_mul]; omega
theorem sm_fill_setTop (s : State) (f : JFrame) (c comp : ClassId) (N M : Nat) : ∀ i, sm_fill (s.setTop f) c comp N M i = (sm_fill s c comp N M i).setTop f
  | 0 => rfl
  | i + 1 => by simp only [sm_fill, sm_fill_setTop s f c comp N M i, State.heap_setTop, State.pushCell_setTop, State.setCell_setTop]
theorem sm_fill_old (s : State) (c comp : ClassId) (N M : Nat) {a : Addr} (ha : a < s.heap.size) : ∀ i, (sm_fill s c comp N M i).heap[a]? = s.heap[a]?
  | 0 => State.heap_pushCell_of_lt _ _ ha
  | i + 1 => by
    have f1 := (sm_fill_facts s c comp N M i).1
    have hlt : a < (sm_fill s c comp N M i).heap.size := Nat.lt_of_lt_of_le ha (by rw [f1]; omega)
    show (((sm_fill s c comp N M i).pushCell (sm_in comp M)).setCell s.heap.size _).heap[a]? = _
    rw [State.heap_setCell_other (Nat.ne_of_gt ha), State.heap_pushCell_of_lt (h := hlt)]
    exact sm_fill_old s c comp N M ha i
theorem sm_fill_in (s : State) (c comp : ClassId) (N M : Nat) : ∀ i j, j < i → (sm_fill s c comp N M i).heap[s.heap.size + 1 + j]? = some (sm_in comp M)
  | 0, _, h => absurd h (Nat.not_lt_zero _)
  | i + 1, j, h => by
    have f1 := (sm_fill_facts s c comp N M i).1
    show (((sm_fill s c comp N M i).pushCell (sm_in comp M)).setCell s.heap.size _).heap[s.heap.size + 1 + j]? = _
    rw [State.heap_setCell_other (show s.heap.size ≠ s.heap.size + 1 + j by omega)]
    rcases Nat.lt_or_ge j i with hj | hj
    · have hlt : s.heap.size + 1 + j < (sm_fill s c comp N M i).heap.size := by rw [f1]; omega
      rw [State.heap_pushCell_of_lt (h := hlt)]
      exact sm_fill_in s c comp N M i j hj
    · have e : j = i := by omega
      subst e
      rw [← f1]
      exact State.heap_pushCell_size _ _
theorem sm_out_arr (c : ClassId) (N h0 : Nat) : ∀ i : Nat, sm_out c N h0 i = arrV c N (fun j => va_rf (if j < i then some (h0 + 1 + j) else none))
  | 0 => by
    show ({ cls := c, slots := Array.replicate N .null, vm := .none } : Cell) = _
    rw [arrV_new]
    refine congrArg (arrV c N) (funext fun j => ?_)
    simp [va_rf]
  | i + 1 => by
    show (sm_out c N h0 i).setSlot i (.ref (h0 + 1 + i)) = _
    rw [sm_out_arr c N h0 i, arrV_store]
    refine congrArg (arrV c N) (funext fun j => ?_)
    by_cases e : j = i
    · subst e
      simp [updV, va_rf]
    · by_cases h : j < i
      · simp [updV, e, h, Nat.lt_succ_of_lt h]
      · simp [updV, e, h, show ¬ j < i + 1 by omega]
section SMW
variable {E : CtlPost} {e : Env} {d : Bool} {acts : List Action} {s : State}
theorem sm_newArray {c comp : ClassId} {k : Class} {type : FieldType} {len : Nat} {init : Value} (hk : s.vm.classes[c]? = some k) (hkind : k.kind = .array comp type)
    (hlimit : ¬ len > e.platform.arrayLengthLimit) (hheap : ¬ len * componentBytes type > e.platform.maxHeapBytes) (hfit : fits type init = true) (hdef : init.isDefault = true) {Q : Addr → Pre}
    (h1 : s.heap.size < e.platform.maxCells) (h2 : s.slotsUsed + len ≤ e.platform.maxSlots)
    (hq : Q s.heap.size d acts (s.pushCell { cls := c, slots := Array.replicate len init, vm := .none })) :
    wp (Jvm.newArray c len init) Q E e d acts s := by
  have hfits : ∀ i v, (Array.replicate len init)[i]? = some v → s.fitsSlot c .none i v = true := by
    intro i v hv
    simp only [Array.getElem?_replicate] at hv
    split at hv
    · cases hv; simp [State.fitsSlot, State.slotType?, hk, hkind, hfit]
    · cases hv
  have hda : allocActs (Array.replicate len init) s.heap.size acts = acts := by
    have hall : ((Array.replicate len init).all (·.isDefault)) = true := by
      rw [Array.all_replicate]; split <;> simp [hdef]
    unfold allocActs; rw [if_pos hall]
  simp only [Jvm.newArray, Jvm.arrayFits, wp_bind', W.ask, W.ite, hlimit, if_false, wp_pure', W.theClass, hk, hkind, hheap, W.alloc, W.stop, Option.some.injEq, exists_eq_left', Array.size_replicate, hda]
  rw [if_neg (by omega)]
  exact ⟨h1, h2, hfits, hq⟩
theorem sm_make1 {comp cc : ClassId} {kc : Class} {m : Int32} (hkc : s.vm.classes[comp]? = some kc) (hkindc : kc.kind = .array cc .long) (hm : ¬ m < 0)
    (hl2 : ¬ m.toNatClampNeg > e.platform.arrayLengthLimit) (hh2 : ¬ m.toNatClampNeg * componentBytes .long > e.platform.maxHeapBytes)
    (h1 : s.heap.size < e.platform.maxCells) (h2 : s.slotsUsed + m.toNatClampNeg ≤ e.platform.maxSlots)
    {Q : Addr → Pre} (hq : Q s.heap.size d acts (s.pushCell (sm_in comp m.toNatClampNeg))) :
    wp (multianewarray.make comp [m]) Q E e d acts s := by
  rw [multianewarray.make]
  simp only [wp_bind', W.ite, hm, if_false, wp_pure', W.theClass, hkc, hkindc, Option.some.injEq, exists_eq_left']
  exact sm_newArray hkc hkindc hl2 hh2 rfl rfl h1 h2 hq
theorem sm_make2 {c comp cc : ClassId} {k kc : Class} {n m : Int32} (hk : s.vm.classes[c]? = some k) (hkind : k.kind = .array comp (.array .long))
    (hkc : s.vm.classes[comp]? = some kc) (hkindc : kc.kind = .array cc .long) (hn : ¬ n < 0) (hm : ¬ m < 0)
    (hl1 : ¬ n.toNatClampNeg > e.platform.arrayLengthLimit) (hh1 : ¬ n.toNatClampNeg * componentBytes (.array .long) > e.platform.maxHeapBytes)
    (hl2 : ¬ m.toNatClampNeg > e.platform.arrayLengthLimit) (hh2 : ¬ m.toNatClampNeg * componentBytes .long > e.platform.maxHeapBytes)
    (hc : s.heap.size + 1 + n.toNatClampNeg ≤ e.platform.maxCells) (hs : s.slotsUsed + n.toNatClampNeg + n.toNatClampNeg * m.toNatClampNeg ≤ e.platform.maxSlots)
    {Q : Addr → Pre} (hq : ∀ d' acts', Q s.heap.size d' acts' (sm_fill s c comp n.toNatClampNeg m.toNatClampNeg n.toNatClampNeg)) :
    wp (multianewarray.make c [n, m]) Q E e d acts s := by
  have hfind : ([m].find? (· < 0)) = none := by simp [hm]
  rw [multianewarray.make]
  simp only [wp_bind', W.ite, hn, if_false, wp_pure', W.theClass, hk, hkind, Option.some.injEq, exists_eq_left']
  refine sm_newArray hk hkind hl1 hh1 rfl rfl (by omega) (by have := Nat.zero_le (n.toNatClampNeg * m.toNatClampNeg); omega) ?_
  simp only [hfind]
  rw [ite_self, wp_bind', Std.Legacy.Range.forIn_eq_forIn_range']
  have hsz : ([:n.toNatClampNeg] : Std.Legacy.Range).size = n.toNatClampNeg := by simp [Std.Legacy.Range.size]
  rw [hsz]
  show wp (forIn (List.range' 0 n.toNatClampNeg 1) PUnit.unit _) _ E e d acts _
  refine wp_forIn_inv (fun rest s' => ∃ i, i ≤ n.toNatClampNeg ∧ rest = List.range' i (n.toNatClampNeg - i) ∧ s' = sm_fill s c comp n.toNatClampNeg m.toNatClampNeg i) _ _ ⟨0, Nat.zero_le _, rfl, rfl⟩ ?_ ?_
  · rintro x rest s' d' acts' Q' ⟨i, hi, hl, rfl⟩ hnext
    have hlt : i < n.toNatClampNeg := by
      rcases Nat.lt_or_ge i n.toNatClampNeg with h | h
      · exact h
      · rw [show n.toNatClampNeg - i = 0 from by omega] at hl; simp at hl
    obtain ⟨rfl, hrest⟩ : x = i ∧ rest = List.range' (i + 1) (n.toNatClampNeg - (i + 1)) := by
      rw [show n.toNatClampNeg - i = (n.toNatClampNeg - (i + 1)) + 1 from by omega, List.range'_succ] at hl
      exact ⟨(List.cons.inj hl).1, (List.cons.inj hl).2⟩
    obtain ⟨f1, f2, f3, f4⟩ := sm_fill_facts s c comp n.toNatClampNeg m.toNatClampNeg x
    obtain ⟨o1, o2, o3⟩ := sm_out_facts c n.toNatClampNeg s.heap.size x
    have hmul : x * m.toNatClampNeg + m.toNatClampNeg ≤ n.toNatClampNeg * m.toNatClampNeg := by
      have := Nat.mul_le_mul_right m.toNatClampNeg (show x + 1 ≤ n.toNatClampNeg from hlt)
      rw [Nat.succ_mul] at this; exact this
    simp only [wp_bind']
    refine sm_make1 (by rw [f3]; exact hkc) hkindc hm hl2 hh2 (by rw [f1]; omega) (by rw [f4]; omega) ?_
    have hlt0 : s.heap.size < (sm_fill s c comp n.toNatClampNeg m.toNatClampNeg x).heap.size := by rw [f1]; omega
    simp only [wp_bind', W.writeLoc, wp_pure']
    refine ⟨sm_out c n.toNatClampNeg s.heap.size x, by rw [State.heap_pushCell_of_lt (h := hlt0)]; exact f2, by rw [o2]; simp, by rw [o3]; exact hlt, ?_, hnext _ _ _ ⟨x + 1, hlt, hrest, ?_⟩⟩
    · rw [o1, o2]
      simp [State.fitsSlot, State.slotType?, f3, hk, hkind, fits]
    · rw [f1]; rfl
  · rintro s' d' acts' ⟨i, hi, hl, rfl⟩
    have hiN : i = n.toNatClampNeg := by
      rcases Nat.lt_or_ge i n.toNatClampNeg with h | h
      · rw [show n.toNatClampNeg - i = (n.toNatClampNeg - (i + 1)) + 1 from by omega, List.range'_succ] at hl; cases hl
      · omega
    subst hiN
    simp only [wp_pure']
    exact hq _ _
end SMW
section SMS
variable {p : Program} {l : Launch} {e : Env} {R : Room} {s : State} {m : MethodId} {args : Array Value} {below : List Frame} {meth : Method} {c : Code} {T : State} {locs : List Loc} {cells slots : Nat}
theorem sm_filled (X : Stand p l e R s m args below meth c T locs cells slots) (cA comp : ClassId) (N M : Nat) :
    ∀ i, Stand p l e R s m args below meth c (sm_fill T cA comp N M i) (locs ++ (List.range i).map fun j => ⟨T.heap.size, j⟩) (cells + 1 + i) (slots + N + i * M)
  | 0 => by
    have h := X.pushed (sm_out cA N T.heap.size 0)
    rw [(sm_out_facts cA N T.heap.size 0).2.2] at h
    simpa [sm_fill] using h
  | i + 1 => by
    have Xi := sm_filled X cA comp N M i
    obtain ⟨f1, f2, f3, f4⟩ := sm_fill_facts T cA comp N M i
    have hlt0 : T.heap.size < (sm_fill T cA comp N M i).heap.size := by rw [f1]; omega
    have hcell : ((sm_fill T cA comp N M i).pushCell (sm_in comp M)).heap[T.heap.size]? = some (sm_out cA N T.heap.size i) := by rw [State.heap_pushCell_of_lt (h := hlt0)]; exact f2
    have h := (Xi.pushed (sm_in comp M)).stored hcell i (.ref (T.heap.size + 1 + i))
    have e1 : (sm_in comp M).slots.size = M := by simp [sm_in]
    rw [e1] at h
    have e2 : (locs ++ (List.range (i + 1)).map fun j => (⟨T.heap.size, j⟩ : Loc)) = (locs ++ (List.range i).map fun j => (⟨T.heap.size, j⟩ : Loc)) ++ [⟨T.heap.size, i⟩] := by simp [List.range_succ, List.append_assoc]
    have e3 : slots + N + (i + 1) * M = slots + N + i * M + M := by rw [Nat.succ_mul]; omega
    rw [e2, e3]
    exact h
theorem sm_step (X : Stand p l e R s m args below meth c T locs cells slots) (hexec : p.tables.exec = Jvm.exec) {own : String} {index : Nat}
    (hown : s.vm.findClass own = some m.cls) (hclink : (Cond.classLink own index "[[J").before args s = true)
    (hover : (Cond.arrayOver (.array .long)).before args s = true) (harr : (Cond.arrayClass .long).before args s = true)
    {g : JFrame} (hg : g.method = m) (hdg : decode c.code g.pc = .ok (.multianewarray index 2, 4)) {n k : Int32} {rest : List Value} (hstack : g.stack = .int k :: .int n :: rest)
    (hn : ¬ n < 0) (hk : ¬ k < 0) (hb1 : n.toNatClampNeg * 4 ≤ 536870912) (hb2 : k.toNatClampNeg * 8 ≤ 536870912)
    (hcells : cells + (1 + n.toNatClampNeg) ≤ R.cells) (hslots : slots + (n.toNatClampNeg + n.toNatClampNeg * k.toNatClampNeg) ≤ R.slots) :
    ∃ (vm₁ : Vm) (cA comp : ClassId), s.WarmedH vm₁ ∧ s.vm.findClass "[[J" = some cA ∧ s.vm.findClass "[J" = some comp ∧
      Stand p l e R s m args below meth c (sm_fill (T.setVm vm₁) cA comp n.toNatClampNeg k.toNatClampNeg n.toNatClampNeg) locs (cells + 1 + n.toNatClampNeg) (slots + n.toNatClampNeg + n.toNatClampNeg * k.toNatClampNeg) ∧
      ∀ target, Steps p.tables e below ((sm_fill (T.setVm vm₁) cA comp n.toNatClampNeg k.toNatClampNeg n.toNatClampNeg).setTop { g with pc := g.pc + 4, stack := .ref T.heap.size :: rest }) target →
        Steps p.tables e below (T.setTop g) target := by
  subst hg
  have hpl : e.platform.magicAccessors = ({} : Platform).magicAccessors := by rw [X.admits.platform]
  obtain ⟨comp, cA, kA, hcomp, -, hkA, hkindA, hnameA⟩ := sa_over hover
  obtain ⟨comp', kC, cc, hcomp', hkC, hkindC⟩ := Cond.arrayClass_spec harr
  have ecomp : comp' = comp := Option.some.inj (hcomp'.symm.trans hcomp)
  subst ecomp
  obtain ⟨c0, hfc0, hcl⟩ := Cond.classLink_spec hown hclink e.platform hpl
  have hnameA' : s.vm.findClass "[[J" = some cA := hnameA
  cases hnameA'.symm.trans hfc0
  obtain ⟨hg₁, hwarm₁, hready₁⟩ := State.classEntry (e := e) X.warmed hcl
  generalize T.vm.noted g.method.cls index (.cls cA) = vm₁ at hg₁ hwarm₁ hready₁
  have hal : s.vm.Alike vm₁ := hwarm₁.alike
  obtain ⟨kA₁, hkA₁, heA⟩ := hal.2.2 _ _ hkA
  obtain ⟨kC₁, hkC₁, heC⟩ := hal.2.2 _ _ hkC
  have hkindA₁ : kA₁.kind = .array comp' (.array .long) := by rw [heA]; exact hkindA
  have hkindC₁ : kC₁.kind = .array cc .long := by rw [heC]; exact hkindC
  have X₁ := X.noted hwarm₁
  obtain ⟨hr1, hr2⟩ := X.roomAbove hcells hslots
  have XF := sm_filled X₁ cA comp' n.toNatClampNeg k.toNatClampNeg n.toNatClampNeg
  refine ⟨vm₁, cA, comp', hwarm₁, hnameA, hcomp, XF.dropFresh (fun x hx => ?_), fun target hrest => ?_⟩
  · obtain ⟨j, -, rfl⟩ := List.mem_map.mp hx
    exact X.heapGrown
  have hl1 : ¬ n.toNatClampNeg > e.platform.arrayLengthLimit := by rw [Launch.admits_arrayLengthLimit X.admits]; omega
  have hh1 : ¬ n.toNatClampNeg * componentBytes (.array .long) > e.platform.maxHeapBytes := by
    rw [Launch.admits_maxHeapBytes X.admits]; show ¬ n.toNatClampNeg * 4 > 536870912; omega
  have hl2 : ¬ k.toNatClampNeg > e.platform.arrayLengthLimit := by rw [Launch.admits_arrayLengthLimit X.admits]; omega
  have hh2 : ¬ k.toNatClampNeg * componentBytes .long > e.platform.maxHeapBytes := by
    rw [Launch.admits_maxHeapBytes X.admits]; show ¬ k.toNatClampNeg * 8 > 536870912; omega
  jvm_step X.here [hexec, hdg]
  simp only [multianewarray.sem, wp_bind', W.resolveClassAt_links (State.method?_setTop g X.here.top) hg₁]
  rw [W.popN, if_neg (by decide)]
  refine ⟨g, State.topJava?_setTop' (s := T.setVm vm₁) g X.here.top, [.int n, .int k], rest, rfl, hstack, ?_⟩
  simp only [List.mapM_cons, List.mapM_nil, wp_bind', wp_pure']
  refine sm_make2 (k := kA₁) (kc := kC₁) (comp := comp') (cc := cc) hkA₁ hkindA₁ hkC₁ hkindC₁ hn hk hl1 hh1 hl2 hh2 (by show T.heap.size + 1 + _ ≤ _; omega) (by show T.slotsUsed + _ + _ ≤ _; omega) (fun d' acts' => ?_)
  have eS : ((T.setTop g).setVm vm₁).setTop { g with stack := rest } = (T.setVm vm₁).setTop { g with stack := rest } := by
    show ((T.setVm vm₁).setTop g).setTop _ = _
    rw [State.setTop_setTop]
  rw [eS, sm_fill_setTop]
  simp only [wp_bind', W.mark, W.pushRef, State.topJava?_setTop' _ XF.here.top, Option.some.injEq, exists_eq_left', State.setTop_setTop, State.heap_setTop]
  intro acts
  simp [jvm, XF.here.top]
  exact hrest
end SMS
end SMULTI
theorem sa_adl {ad : Nat → Nat} (had : ∀ i, i < sa_all → ad (i + 1) = ad i + 1) : ∀ i, i ≤ sa_all → ad i = ad 0 + i := by
  intro i
  induction i with
  | zero => intro _; rfl
  | succ i ih =>
    intro h
    rw [had i (by omega), ih (by omega)]
    omega
/-- rows of longs, eight, and the row of them -/
def sa_nw2 (σ : sa_St) (N : Nat) : sa_St := sa_nw (sa_nw (sa_nw (sa_nw (sa_nw (sa_nw (sa_nw (sa_nw ((sa_nw σ N).1, va_up (sa_nw σ N).2.1 N (fun j => if j < 8 then N + 1 + j + 1 else 0), (sa_nw σ N).2.2) (N + 1)) (N + 2)) (N + 3)) (N + 4)) (N + 5)) (N + 6)) (N + 7)) (N + 8)
theorem sa_nw2_old {σ : sa_St} {i : Nat} (h : i < 140) : (sa_nw2 σ 140).1 i = σ.1 i ∧ (sa_nw2 σ 140).2.1 i = σ.2.1 i ∧ (sa_nw2 σ 140).2.2 i = σ.2.2 i := by
  refine ⟨?_, ?_, ?_⟩ <;> (unfold sa_nw2; simp only [sa_nw]; repeat rw [va_up_no (by omega)])
theorem sa_nw2_out {σ : sa_St} : (sa_nw2 σ 140).2.1 140 = (fun j => if j < 8 then 140 + 1 + j + 1 else 0) := by
  unfold sa_nw2
  simp only [sa_nw]
  repeat rw [va_up_no (by omega)]
  rw [va_up_at]
theorem sa_nw2_in {σ : sa_St} {j : Nat} (h : j < 8) : (sa_nw2 σ 140).2.2 (141 + j) = (fun _ => 0) := by
  unfold sa_nw2
  simp only [sa_nw]
  rcases (show j = 0 ∨ j = 1 ∨ j = 2 ∨ j = 3 ∨ j = 4 ∨ j = 5 ∨ j = 6 ∨ j = 7 by omega) with rfl | rfl | rfl | rfl | rfl | rfl | rfl | rfl <;> rfl
theorem sa_sh_in {j : Nat} (h : j < 8) : sa_sh (141 + j) = some (.inr (.long, 100)) := by
  rcases (show j = 0 ∨ j = 1 ∨ j = 2 ∨ j = 3 ∨ j = 4 ∨ j = 5 ∨ j = 6 ∨ j = 7 by omega) with rfl | rfl | rfl | rfl | rfl | rfl | rfl | rfl <;> rfl
theorem sa_SL137 : sa_SL 140 - sa_SL 137 + (8 + 8 * 100) ≤ sa_SL (137 + 14) - sa_SL 137 ∧ sa_SL 140 - sa_SL 137 + 8 + 8 * 100 = sa_SL (140 + 9) - sa_SL 137 := by decide +kernel
section SMC
variable {p : Program} {l : Launch} {e : Env} {s : State} {m : MethodId} {args : Array Value} {below : List Frame} {meth : Method} {c : Code} {nL d : Nat} {D : va_G} {ad : Nat → Nat} {cA : FieldType → ClassId} {A : Nat → Prop} {rv : Option Value} {σ τ : sa_St}
variable {cc : ByteArray} {own name : String} {ret : Option FieldType} {pc : Nat} {lv : List (Nat × Value)} {st : List Value}
theorem sc_multi (C : sa_C p s m args meth c cc own name nL ret D ad cA A) {idx : Nat} (had : ∀ i, i < sa_all → ad (i + 1) = ad i + 1) (hac : Cond.arrayClass .long ∈ sa_T) (hlink : Cond.classLink own idx "[[J" ∈ sa_T) (hd : decode cc pc = .ok (.multianewarray idx 2, 4)) (kk : sa_Sc p l e s m args below meth c nL d D ad cA A 137 14 rv τ (140 + 9) (sa_nw2 σ 140) (pc + 4) lv (.ref (ad 140) :: st)) : sa_Sc p l e s m args below meth c nL d D ad cA A 137 14 rv τ 140 σ pc lv (.int 100 :: .int 8 :: st) := by
  intro H locs ls hw hS hl T hT X
  have hsz : H.size = ad 140 := sc_size hw (show sa_sh 140 = some (.inr (.array .long, 8)) from rfl)
  have e8 : (8 : Int32).toNatClampNeg = 8 := by decide
  have e100 : (100 : Int32).toNatClampNeg = 100 := by decide
  obtain ⟨vm₁, cA', comp, hW1, fA, fC, X', step⟩ := sm_step X C.1 C.2.2.2.1 (C.2.2.2.2.1 _ hlink) C.2.2.2.2.2.2.2.2.2.2.2.2.2.2.2.2.2.1 (C.2.2.2.2.1 _ hac) (g := F0 m pc ls (.int 100 :: .int 8 :: st)) rfl (by rw [C.2.1]; exact hd) (n := 8) (k := 100) (rest := st) rfl (by decide) (by decide) (by rw [e8]; decide) (by rw [e100]; decide) (by rw [e8]; exact (by decide : 140 - 137 + (1 + 8) ≤ 14)) (by rw [e8, e100]; exact sa_SL137.1)
  rw [e8, e100] at X' step
  have hcA : cA' = cA (.array .long) := Option.some.inj (fA.symm.trans (C.2.2.2.2.2.2.2.2.1.2 7 _ rfl).2)
  have hcL : comp = cA .long := Option.some.inj (fC.symm.trans (C.2.2.2.2.2.2.2.2.1.2 1 _ rfl).2)
  subst hcA
  subst hcL
  generalize hF : sm_fill (T.setVm vm₁) (cA (.array .long)) (cA .long) 8 100 8 = F at X' step
  have hTh : (T.setVm vm₁).heap = H := hT
  obtain ⟨f1, f2, -, -⟩ := sm_fill_facts (T.setVm vm₁) (cA (.array .long)) (cA .long) 8 100 8
  rw [hF, hTh] at f1 f2
  have hold : ∀ x : Nat, x < H.size → F.heap[x]? = H[x]? := fun x hx => by
    have := sm_fill_old (T.setVm vm₁) (cA (.array .long)) (cA .long) 8 100 (a := x) (by rw [hTh]; exact hx) 8
    rw [hF, hTh] at this
    exact this
  have hin : ∀ j : Nat, j < 8 → F.heap[H.size + 1 + j]? = some (sm_in (cA .long) 100) := fun j hj => by
    have := sm_fill_in (T.setVm vm₁) (cA (.array .long)) (cA .long) 8 100 8 j hj
    rw [hF, hTh] at this
    exact this
  have hadl := sa_adl had
  have had140 : ∀ j, j ≤ 9 → ad (140 + j) = H.size + j := fun j hj => by
    rw [hadl (140 + j) (by show 140 + j ≤ 193; omega), hsz, hadl 140 (by decide)]
    omega
  have hws : sa_W0 D ad cA A (140 + 9) (sa_nw2 σ 140) F.heap := by
    refine ⟨fun k q hk => ?_, ⟨fun i j x y hi hj hxy => ?_, fun k q hk => ?_⟩, Or.inl (by rw [f1, had140 9 (by omega)])⟩
    · have hk9 : k < 149 := by
        have := (List.getElem?_eq_some_iff.mp hk).1
        rw [sa_ws_len] at this
        exact this
      rw [sa_ws_at (show k < 140 + 9 from hk9)] at hk
      cases hk
      rcases Nat.lt_or_ge k 140 with h | h
      · obtain ⟨o1, o2, o3⟩ := sa_nw2_old (σ := σ) h
        have hat := hw.1 k _ (sa_ws_at h)
        have hq := hold (ad k) hat.lt
        rw [sa_ent_other o1 o2 o3]
        exact hat.kept hq
      · rcases Nat.eq_or_lt_of_le h with h | h
        · subst h
          rw [sa_ent_arr (show sa_sh 140 = some (.inr (.array .long, 8)) from rfl)]
          show F.heap[ad 140]? = some (vp_cell (cA (.array .long)) (sa_arr ad (sa_nw2 σ 140) (.array .long) 8 140))
          rw [← hsz, f2, sm_out_arr]
          simp only [sa_arr]
          rw [vp_cell_q]
          refine congrArg some (congrArg (arrV _ _) (funext fun j => ?_))
          rw [sa_nw2_out]
          show va_rf (if j < 8 then some (H.size + 1 + j) else none) = va_rf (sa_ro ad (if j < 8 then 140 + 1 + j + 1 else 0))
          by_cases hj : j < 8
          · rw [if_pos hj, if_pos hj]
            show Value.ref _ = Value.ref (ad (140 + 1 + j))
            rw [show 140 + 1 + j = 140 + (1 + j) by omega, had140 (1 + j) (by omega), Nat.add_assoc]
          · rw [if_neg hj, if_neg hj]
            rfl
        · obtain ⟨j, rfl⟩ : ∃ j, k = 141 + j := ⟨k - 141, by omega⟩
          have hj : j < 8 := by omega
          rw [sa_ent_arr (sa_sh_in hj)]
          show F.heap[ad (141 + j)]? = some (vp_cell (cA .long) (sa_arr ad (sa_nw2 σ 140) .long 100 (141 + j)))
          rw [show 141 + j = 140 + (1 + j) by omega, had140 (1 + j) (by omega), show H.size + (1 + j) = H.size + 1 + j by omega, hin j hj, show 140 + (1 + j) = 141 + j by omega]
          simp only [sa_arr]
          rw [sa_nw2_in hj, vp_cell_l]
          show some ({ cls := cA .long, slots := Array.replicate 100 (.long 0), vm := .none } : Cell) = _
          rw [arrV_new]
    · have hi9 : i < 149 := by have := (List.getElem?_eq_some_iff.mp hi).1; rw [sa_ws_len] at this; exact this
      have hj9 : j < 149 := by have := (List.getElem?_eq_some_iff.mp hj).1; rw [sa_ws_len] at this; exact this
      rw [sa_ws_at (show i < 140 + 9 from hi9)] at hi
      rw [sa_ws_at (show j < 140 + 9 from hj9)] at hj
      cases hi
      cases hj
      have hxy : ad i = ad j := hxy
      rw [hadl i (by show i ≤ 193; omega), hadl j (by show j ≤ 193; omega)] at hxy
      omega
    · have hk9 : k < 149 := by have := (List.getElem?_eq_some_iff.mp hk).1; rw [sa_ws_len] at this; exact this
      rw [sa_ws_at (show k < 140 + 9 from hk9)] at hk
      cases hk
      rcases Nat.lt_or_ge k 140 with h | h
      · exact hw.2.1.2 k (ad k, sa_ent ad cA σ k) (sa_ws_at h)
      · refine C.2.2.2.2.2.2.2.2.2.1 _ ?_
        have := had140 (k - 140) (by omega)
        rw [show 140 + (k - 140) = k by omega] at this
        show s.heap.size ≤ ad k
        rw [this]
        exact Nat.le_trans hS.1 (Nat.le_add_right _ _)
  have hS1 : va_S A s.heap F.heap locs := ⟨Nat.le_trans hS.1 (by rw [f1]; omega), fun q h1 h2 => (hold q (Nat.lt_of_lt_of_le h1 hS.1)).trans (hS.2.1 q h1 h2), hS.2.2⟩
  have ec : 140 - 137 + 1 + 8 = 140 + 9 - 137 := by decide
  rw [ec, sa_SL137.2] at X'
  obtain ⟨t, a1, b1⟩ := kk F.heap locs ls hws hS1 hl F rfl X'
  refine ⟨t, step t ?_, b1⟩
  rw [hT, hsz]
  exact a1
end SMC
