section SARULES2
variable {α β : Type} {p : Program} {l : Launch} {e : Env} {s : State} {m : MethodId} {args : Array Value} {below : List Frame} {meth : Method} {c : Code} {nL d : Nat} {D : va_G} {ad : Nat → Nat} {cA : FieldType → ClassId} {A : Nat → Prop} {enc : α → Option Value}
variable {cc : ByteArray} {own name : String} {ret : Option FieldType} {pc : Nat} {lv : List (Nat × Value)} {st : List Value} {f : sa_M α}
theorem sa_W0.obj {σ : sa_St} {H : Heap} {id ci : Nat} (h : sa_W0 D ad cA A sa_all σ H) (hs : sa_sh id = some (.inl ci)) : (sa_ws ad cA sa_all σ)[id]? = some (ad id, .inr (ci, sa_fs ad σ ci id)) := by
  rw [sa_ws_at (sa_lt hs), sa_ent_obj hs]
theorem sa_W0.arr {σ : sa_St} {H : Heap} {id n : Nat} {ty : FieldType} (h : sa_W0 D ad cA A sa_all σ H) (hs : sa_sh id = some (.inr (ty, n))) : (sa_ws ad cA sa_all σ)[id]? = some (ad id, .inl (cA ty, sa_arr ad σ ty n id)) := by
  rw [sa_ws_at (sa_lt hs), sa_ent_arr hs]
theorem sa_fin (H : Heap) : H.size = ad sa_all ∨ sa_sh sa_all = none := Or.inr (by decide +kernel)
/-- behind a write: the world of the new state -/
theorem sa_W0.put {σ τ : sa_St} {H1 : Heap} {id : Nat} {e0 : va_E} (hP : va_P D sa_cl ((sa_ws ad cA sa_all σ).set id (ad id, e0)) H1) (hD : va_D A ((sa_ws ad cA sa_all σ).set id (ad id, e0))) (hid : sa_ent ad cA τ id = e0) (ho : ∀ i, i ≠ id → sa_ent ad cA τ i = sa_ent ad cA σ i) : sa_W0 D ad cA A sa_all τ H1 := by
  rw [sa_ws_set hid ho] at hP hD
  exact ⟨hP, hD, sa_fin H1⟩
theorem sa_upI_other {σ : sa_St} {id k : Nat} {v : Int32} : ∀ i, i ≠ id → sa_ent ad cA (sa_upI σ id k v) i = sa_ent ad cA σ i := fun i hi => sa_ent_other (va_up_no hi) rfl rfl
theorem sa_upR_other {σ : sa_St} {id k : Nat} {v : Nat} : ∀ i, i ≠ id → sa_ent ad cA (sa_upR σ id k v) i = sa_ent ad cA σ i := fun i hi => sa_ent_other rfl (va_up_no hi) rfl
theorem sa_upL_other {σ : sa_St} {id k : Nat} {v : Int64} : ∀ i, i ≠ id → sa_ent ad cA (sa_upL σ id k v) i = sa_ent ad cA σ i := fun i hi => sa_ent_other rfl rfl (va_up_no hi)
theorem sa_bnd_some {x : sa_M β} {g : β → sa_M α} {σ τ : sa_St} {r : α} (h : sa_bnd x g σ = some (r, τ)) : ∃ a σ1, x σ = some (a, σ1) ∧ g a σ1 = some (r, τ) := by
  unfold sa_bnd at h
  cases hx : x σ with
  | none => rw [hx] at h; cases h
  | some q =>
    obtain ⟨a, σ1⟩ := q
    rw [hx] at h
    exact ⟨a, σ1, rfl, h⟩
theorem sa_get0 (C : sa_C p s m args meth c cc own name nL ret D ad cA A) {idx ci k id : Nat} {ty : FieldType} {fin : Bool} {σ : sa_St} {H : Heap} {R : Room} {locs : List Loc} {cells slots : Nat} {Q : State → Prop} {ls : Array Slot} (F : sa_Fd own idx ci k ty fin) (hd : decode cc pc = .ok (.getfield idx, 3)) (hs : sa_sh id = some (.inl ci)) (hw : sa_W0 D ad cA A sa_all σ H) (kk : W p l e R s m args below meth c H locs cells slots Q (F0 m (pc + 3) ls (sa_val ad σ ty id k :: st))) : W p l e R s m args below meth c H locs cells slots Q (F0 m pc ls (.ref (ad id) :: st)) := by
  obtain ⟨C0, T, N, ty0, h1, h2, h3, h4, h5, h6, h7, h8, h9, h10⟩ := F
  subst h3
  exact va_get C.1 C.2.1 C.2.2.2.2.1 h4 C.2.2.2.1 C.2.2.2.2.2.2.2.2.1 hw.1 id (hw.obj hs) h1 k h2 (C.2.2.2.2.1 _ h7) (fun _ h => h) (by rw [sa_fs_at h2, h10]) hd kk
theorem sa_getI (C : sa_C p s m args meth c cc own name nL ret D ad cA A) {idx ci k id : Nat} {fin : Bool} {g : Int32 → sa_M α} (F : sa_Fd own idx ci k .int fin) (hd : decode cc pc = .ok (.getfield idx, 3)) (kk : ∀ y : Int32, sa_Sg p l e s m args below meth c nL d D ad cA A enc (pc + 3) lv (.int y :: st) (g y)) : sa_Sg p l e s m args below meth c nL d D ad cA A enc pc lv (.ref (ad id) :: st) (sa_bnd (sa_rdI ci id k) g) := by
  intro σ r τ hf H locs ls hw hS hl
  obtain ⟨a, σ1, hx, hg⟩ := sa_bnd_some hf
  unfold sa_rdI at hx
  by_cases hs : sa_sh id = some (.inl ci)
  · rw [if_pos hs] at hx
    cases hx
    exact sa_get0 C F hd hs hw (kk _ _ r τ hg H locs ls hw hS hl)
  · rw [if_neg hs] at hx
    cases hx
theorem sa_getZ (C : sa_C p s m args meth c cc own name nL ret D ad cA A) {idx ci k id : Nat} {fin : Bool} {g : Int32 → sa_M α} (F : sa_Fd own idx ci k .boolean fin) (hd : decode cc pc = .ok (.getfield idx, 3)) (kk : ∀ y : Int32, sa_Sg p l e s m args below meth c nL d D ad cA A enc (pc + 3) lv (.int y :: st) (g y)) : sa_Sg p l e s m args below meth c nL d D ad cA A enc pc lv (.ref (ad id) :: st) (sa_bnd (sa_rdI ci id k) g) := by
  intro σ r τ hf H locs ls hw hS hl
  obtain ⟨a, σ1, hx, hg⟩ := sa_bnd_some hf
  unfold sa_rdI at hx
  by_cases hs : sa_sh id = some (.inl ci)
  · rw [if_pos hs] at hx
    cases hx
    exact sa_get0 C F hd hs hw (kk _ _ r τ hg H locs ls hw hS hl)
  · rw [if_neg hs] at hx
    cases hx
theorem sa_getL (C : sa_C p s m args meth c cc own name nL ret D ad cA A) {idx ci k id : Nat} {fin : Bool} {g : Int64 → sa_M α} (F : sa_Fd own idx ci k .long fin) (hd : decode cc pc = .ok (.getfield idx, 3)) (kk : ∀ y : Int64, sa_Sg p l e s m args below meth c nL d D ad cA A enc (pc + 3) lv (.long y :: st) (g y)) : sa_Sg p l e s m args below meth c nL d D ad cA A enc pc lv (.ref (ad id) :: st) (sa_bnd (sa_rdL ci id k) g) := by
  intro σ r τ hf H locs ls hw hS hl
  obtain ⟨a, σ1, hx, hg⟩ := sa_bnd_some hf
  unfold sa_rdL at hx
  by_cases hs : sa_sh id = some (.inl ci)
  · rw [if_pos hs] at hx
    cases hx
    exact sa_get0 C F hd hs hw (kk _ _ r τ hg H locs ls hw hS hl)
  · rw [if_neg hs] at hx
    cases hx
theorem sa_rv_suc {i : Nat} : sa_rv ad (i + 1) = .ref (ad i) := rfl
theorem sa_getR (C : sa_C p s m args meth c cc own name nL ret D ad cA A) {idx ci k id : Nat} {fin : Bool} {ty : FieldType} {g : Nat → sa_M α} (F : sa_Fd own idx ci k ty fin) (hty : ty.isReference = true) (hd : decode cc pc = .ok (.getfield idx, 3)) (kk : ∀ y : Nat, sa_Sg p l e s m args below meth c nL d D ad cA A enc (pc + 3) lv (.ref (ad y) :: st) (g y)) : sa_Sg p l e s m args below meth c nL d D ad cA A enc pc lv (.ref (ad id) :: st) (sa_bnd (sa_rdR ci id k) g) := by
  intro σ r τ hf H locs ls hw hS hl
  obtain ⟨a, σ1, hx, hg⟩ := sa_bnd_some hf
  unfold sa_rdR at hx
  by_cases hs : sa_sh id = some (.inl ci)
  · rw [if_pos hs] at hx
    cases hn : σ.2.1 id k with
    | zero => rw [hn] at hx; cases hx
    | succ i =>
      rw [hn] at hx
      cases hx
      refine sa_get0 C F hd hs hw ?_
      have hv : sa_val ad σ ty id k = .ref (ad a) := by
        cases ty <;> first | (cases hty; done) | (simp only [sa_val, hn]; rfl)
      rw [hv]
      exact kk a _ r τ hg H locs ls hw hS hl
  · rw [if_neg hs] at hx
    cases hx
theorem sa_put0 (C : sa_C p s m args meth c cc own name nL ret D ad cA A) {idx ci k id : Nat} {ty : FieldType} {σ τ : sa_St} {v : Value} {H : Heap} {R : Room} {locs : List Loc} {cells slots : Nat} {Q : State → Prop} {ls : Array Slot} (F : sa_Fd own idx ci k ty false) (hd : decode cc pc = .ok (.putfield idx, 3)) (hs : sa_sh id = some (.inl ci)) (hw : sa_W0 D ad cA A sa_all σ H) (hS : va_S A s.heap H locs) (hn : narrow ty v = v) (hfit : fits ty v = true) (hv : sa_val ad τ ty id k = v) (h0 : ∀ j, j ≠ k → ∀ t, sa_val ad τ t id j = sa_val ad σ t id j) (ho : ∀ i, i ≠ id → sa_ent ad cA τ i = sa_ent ad cA σ i)
    (kk : ∀ (H1 : Heap) (locs1 : List Loc), sa_W0 D ad cA A sa_all τ H1 → va_S A s.heap H1 locs1 → W p l e R s m args below meth c H1 locs1 cells slots Q (F0 m (pc + 3) ls st)) : W p l e R s m args below meth c H locs cells slots Q (F0 m pc ls (v :: .ref (ad id) :: st)) := by
  obtain ⟨C0, T, N, ty0, h1, h2, h3, h4, h5, h6, h7, h8, h9, h10⟩ := F
  subst h3
  refine va_put C.1 C.2.1 C.2.2.2.2.1 h4 ty0 h5 h6 C.2.2.2.1 C.2.2.2.2.2.2.2.2.1 hw.1 hw.2.1 hS id (hw.obj hs) h1 k h2 (C.2.2.2.2.1 _ h7) (fun _ h => h) h8 (by rw [h5 k h2, h9]) hn hfit (by rw [sa_fs_len]; exact h2) hd (fun H1 locs1 hP hD hS1 => ?_)
  refine kk H1 locs1 (sa_W0.put hP hD ?_ ho) hS1
  rw [sa_ent_obj hs]
  exact congrArg (fun z => Sum.inr (ci, z)) (sa_fs_set (σ := σ) (by rw [h10]; exact hv) (fun j hj => h0 j hj _))
theorem sa_putI (C : sa_C p s m args meth c cc own name nL ret D ad cA A) {idx ci k id : Nat} {v : Int32} {g : Unit → sa_M α} (F : sa_Fd own idx ci k .int false) (hd : decode cc pc = .ok (.putfield idx, 3)) (kk : sa_Sg p l e s m args below meth c nL d D ad cA A enc (pc + 3) lv st (g ())) : sa_Sg p l e s m args below meth c nL d D ad cA A enc pc lv (.int v :: .ref (ad id) :: st) (sa_bnd (sa_wrI ci id k v) g) := by
  intro σ r τ hf H locs ls hw hS hl
  obtain ⟨a, σ1, hx, hg⟩ := sa_bnd_some hf
  unfold sa_wrI at hx
  by_cases hs : sa_sh id = some (.inl ci)
  · rw [if_pos hs] at hx
    cases hx
    refine sa_put0 C F hd hs hw hS rfl rfl ?_ (fun j hj t => ?_) sa_upI_other (fun H1 locs1 hw1 hS1 => kk _ r τ hg H1 locs1 ls hw1 hS1 hl)
    · simp only [sa_val, sa_upI, va_up_at]
    · refine sa_val_other ?_ ?_ ?_ <;> simp only [sa_upI, va_up_at, va_up_no hj]
  · rw [if_neg hs] at hx
    cases hx
theorem sa_putZ (C : sa_C p s m args meth c cc own name nL ret D ad cA A) {idx ci k id : Nat} {v : Int32} {g : Unit → sa_M α} (F : sa_Fd own idx ci k .boolean false) (hd : decode cc pc = .ok (.putfield idx, 3)) (kk : sa_Sg p l e s m args below meth c nL d D ad cA A enc (pc + 3) lv st (g ())) : sa_Sg p l e s m args below meth c nL d D ad cA A enc pc lv (.int v :: .ref (ad id) :: st) (sa_bnd (sa_wrZ ci id k v) g) := by
  intro σ r τ hf H locs ls hw hS hl
  obtain ⟨a, σ1, hx, hg⟩ := sa_bnd_some hf
  unfold sa_wrZ at hx
  by_cases hs : sa_sh id = some (.inl ci) ∧ (v = 0 ∨ v = 1)
  · rw [if_pos hs] at hx
    cases hx
    refine sa_put0 C F hd hs.1 hw hS (by rcases hs.2 with h | h <;> subst h <;> decide) (by rcases hs.2 with h | h <;> subst h <;> decide) ?_ (fun j hj t => ?_) sa_upI_other (fun H1 locs1 hw1 hS1 => kk _ r τ hg H1 locs1 ls hw1 hS1 hl)
    · simp only [sa_val, sa_upI, va_up_at]
    · refine sa_val_other ?_ ?_ ?_ <;> simp only [sa_upI, va_up_at, va_up_no hj]
  · rw [if_neg hs] at hx
    cases hx
theorem sa_putL (C : sa_C p s m args meth c cc own name nL ret D ad cA A) {idx ci k id : Nat} {v : Int64} {g : Unit → sa_M α} (F : sa_Fd own idx ci k .long false) (hd : decode cc pc = .ok (.putfield idx, 3)) (kk : sa_Sg p l e s m args below meth c nL d D ad cA A enc (pc + 3) lv st (g ())) : sa_Sg p l e s m args below meth c nL d D ad cA A enc pc lv (.long v :: .ref (ad id) :: st) (sa_bnd (sa_wrL ci id k v) g) := by
  intro σ r τ hf H locs ls hw hS hl
  obtain ⟨a, σ1, hx, hg⟩ := sa_bnd_some hf
  unfold sa_wrL at hx
  by_cases hs : sa_sh id = some (.inl ci)
  · rw [if_pos hs] at hx
    cases hx
    refine sa_put0 C F hd hs hw hS rfl rfl ?_ (fun j hj t => ?_) sa_upL_other (fun H1 locs1 hw1 hS1 => kk _ r τ hg H1 locs1 ls hw1 hS1 hl)
    · simp only [sa_val, sa_upL, va_up_at]
    · refine sa_val_other ?_ ?_ ?_ <;> simp only [sa_upL, va_up_at, va_up_no hj]
  · rw [if_neg hs] at hx
    cases hx
theorem sa_putR (C : sa_C p s m args meth c cc own name nL ret D ad cA A) {idx ci k id v : Nat} {ty : FieldType} {g : Unit → sa_M α} (F : sa_Fd own idx ci k ty false) (hty : ty.isReference = true) (hd : decode cc pc = .ok (.putfield idx, 3)) (kk : sa_Sg p l e s m args below meth c nL d D ad cA A enc (pc + 3) lv st (g ())) : sa_Sg p l e s m args below meth c nL d D ad cA A enc pc lv (.ref (ad v) :: .ref (ad id) :: st) (sa_bnd (sa_wrR ci id k v) g) := by
  intro σ r τ hf H locs ls hw hS hl
  obtain ⟨a, σ1, hx, hg⟩ := sa_bnd_some hf
  unfold sa_wrR at hx
  by_cases hs : sa_sh id = some (.inl ci)
  · rw [if_pos hs] at hx
    cases hx
    refine sa_put0 C F hd hs hw hS (by cases ty <;> first | rfl | (cases hty; done)) (by cases ty <;> first | rfl | (cases hty; done)) ?_ (fun j hj t => ?_) sa_upR_other (fun H1 locs1 hw1 hS1 => kk _ r τ hg H1 locs1 ls hw1 hS1 hl)
    · cases ty <;> first | (cases hty; done) | (simp only [sa_val, sa_upR, va_up_at]; rfl)
    · refine sa_val_other ?_ ?_ ?_ <;> simp only [sa_upR, va_up_at, va_up_no hj]
  · rw [if_neg hs] at hx
    cases hx
theorem sa_in_al {ty : FieldType} {id : Nat} {j : Int32} (h : ¬ (j < 0 ∨ sa_al ty id ≤ j.toNatClampNeg)) : sa_sh id = some (.inr (ty, sa_al ty id)) := sa_al_pos (by omega)
theorem sa_iald (C : sa_C p s m args meth c cc own name nL ret D ad cA A) {id : Nat} {j : Int32} {g : Int32 → sa_M α} (hd : decode cc pc = .ok (.iaload, 1)) (kk : ∀ y : Int32, sa_Sg p l e s m args below meth c nL d D ad cA A enc (pc + 1) lv (.int y :: st) (g y)) : sa_Sg p l e s m args below meth c nL d D ad cA A enc pc lv (.int j :: .ref (ad id) :: st) (sa_bnd (sa_ldI .int id j) g) := by
  intro σ r τ hf H locs ls hw hS hl
  obtain ⟨a, σ1, hx, hg⟩ := sa_bnd_some hf
  unfold sa_ldI at hx
  by_cases hj : j < 0 ∨ sa_al .int id ≤ j.toNatClampNeg
  · rw [if_pos hj] at hx
    cases hx
  · rw [if_neg hj] at hx
    cases hx
    exact va_iald C.1 C.2.1 C.2.2.2.2.2.2.2.2.1 hw.1 id 0 (hw.arr (sa_in_al hj)) rfl hj hd (kk _ _ r τ hg H locs ls hw hS hl)
theorem sa_bald (C : sa_C p s m args meth c cc own name nL ret D ad cA A) {id : Nat} {j : Int32} {g : Int32 → sa_M α} (hd : decode cc pc = .ok (.baload, 1)) (kk : ∀ y : Int32, sa_Sg p l e s m args below meth c nL d D ad cA A enc (pc + 1) lv (.int y :: st) (g y)) : sa_Sg p l e s m args below meth c nL d D ad cA A enc pc lv (.int j :: .ref (ad id) :: st) (sa_bnd (sa_ldI .byte id j) g) := by
  intro σ r τ hf H locs ls hw hS hl
  obtain ⟨a, σ1, hx, hg⟩ := sa_bnd_some hf
  unfold sa_ldI at hx
  by_cases hj : j < 0 ∨ sa_al .byte id ≤ j.toNatClampNeg
  · rw [if_pos hj] at hx
    cases hx
  · rw [if_neg hj] at hx
    cases hx
    exact va_bald C.1 C.2.1 C.2.2.2.2.2.2.2.2.1 hw.1 id 2 (hw.arr (sa_in_al hj)) rfl hj hd (kk _ _ r τ hg H locs ls hw hS hl)
theorem sa_zald (C : sa_C p s m args meth c cc own name nL ret D ad cA A) {id : Nat} {j : Int32} {g : Int32 → sa_M α} (hd : decode cc pc = .ok (.baload, 1)) (kk : ∀ y : Int32, sa_Sg p l e s m args below meth c nL d D ad cA A enc (pc + 1) lv (.int y :: st) (g y)) : sa_Sg p l e s m args below meth c nL d D ad cA A enc pc lv (.int j :: .ref (ad id) :: st) (sa_bnd (sa_ldI .boolean id j) g) := by
  intro σ r τ hf H locs ls hw hS hl
  obtain ⟨a, σ1, hx, hg⟩ := sa_bnd_some hf
  unfold sa_ldI at hx
  by_cases hj : j < 0 ∨ sa_al .boolean id ≤ j.toNatClampNeg
  · rw [if_pos hj] at hx
    cases hx
  · rw [if_neg hj] at hx
    cases hx
    exact va_zald C.1 C.2.1 C.2.2.2.2.2.2.2.2.1 hw.1 id 3 (hw.arr (sa_in_al hj)) rfl hj hd (kk _ _ r τ hg H locs ls hw hS hl)
theorem sa_lald (C : sa_C p s m args meth c cc own name nL ret D ad cA A) {id : Nat} {j : Int32} {g : Int64 → sa_M α} (hd : decode cc pc = .ok (.laload, 1)) (kk : ∀ y : Int64, sa_Sg p l e s m args below meth c nL d D ad cA A enc (pc + 1) lv (.long y :: st) (g y)) : sa_Sg p l e s m args below meth c nL d D ad cA A enc pc lv (.int j :: .ref (ad id) :: st) (sa_bnd (sa_ldL id j) g) := by
  intro σ r τ hf H locs ls hw hS hl
  obtain ⟨a, σ1, hx, hg⟩ := sa_bnd_some hf
  unfold sa_ldL at hx
  by_cases hj : j < 0 ∨ sa_al .long id ≤ j.toNatClampNeg
  · rw [if_pos hj] at hx
    cases hx
  · rw [if_neg hj] at hx
    cases hx
    exact va_lald C.1 C.2.1 C.2.2.2.2.2.2.2.2.1 hw.1 id 1 (hw.arr (sa_in_al hj)) rfl hj hd (kk _ _ r τ hg H locs ls hw hS hl)
theorem sa_iast (C : sa_C p s m args meth c cc own name nL ret D ad cA A) {id : Nat} {j : Int32} {v : Int32} {g : Unit → sa_M α} (hd : decode cc pc = .ok (.iastore, 1)) (kk : sa_Sg p l e s m args below meth c nL d D ad cA A enc (pc + 1) lv st (g ())) : sa_Sg p l e s m args below meth c nL d D ad cA A enc pc lv (.int v :: .int j :: .ref (ad id) :: st) (sa_bnd (sa_stI id j v) g) := by
  intro σ r τ hf H locs ls hw hS hl
  obtain ⟨a, σ1, hx, hg⟩ := sa_bnd_some hf
  unfold sa_stI at hx
  by_cases hj : j < 0 ∨ sa_al .int id ≤ j.toNatClampNeg
  · rw [if_pos hj] at hx
    cases hx
  · rw [if_neg hj] at hx
    cases hx
    refine va_iast C.1 C.2.1 C.2.2.2.2.2.2.2.2.1 hw.1 hw.2.1 hS id 0 (hw.arr (sa_in_al hj)) rfl hj hd (fun H1 locs1 hP hD hS1 => ?_)
    refine kk _ r τ hg H1 locs1 ls (sa_W0.put (τ := sa_upI σ id j.toNatClampNeg v) hP hD ?_ sa_upI_other) hS1 hl
    rw [sa_ent_arr (sa_in_al hj)]
    simp only [sa_arr, sa_upI, va_up_at]
    rfl
theorem sa_bast (C : sa_C p s m args meth c cc own name nL ret D ad cA A) {id : Nat} {j : Int32} {v : Int32} {g : Unit → sa_M α} (hd : decode cc pc = .ok (.bastore, 1)) (kk : sa_Sg p l e s m args below meth c nL d D ad cA A enc (pc + 1) lv st (g ())) : sa_Sg p l e s m args below meth c nL d D ad cA A enc pc lv (.int v :: .int j :: .ref (ad id) :: st) (sa_bnd (sa_stB id j v) g) := by
  intro σ r τ hf H locs ls hw hS hl
  obtain ⟨a, σ1, hx, hg⟩ := sa_bnd_some hf
  unfold sa_stB at hx
  by_cases hj : j < 0 ∨ sa_al .byte id ≤ j.toNatClampNeg
  · rw [if_pos hj] at hx
    cases hx
  · rw [if_neg hj] at hx
    cases hx
    refine va_bast C.1 C.2.1 C.2.2.2.2.2.2.2.2.1 hw.1 hw.2.1 hS id 2 (hw.arr (sa_in_al hj)) rfl hj hd (fun H1 locs1 hP hD hS1 => ?_)
    refine kk _ r τ hg H1 locs1 ls (sa_W0.put (τ := sa_upI σ id j.toNatClampNeg (vp_nar .byte v)) hP hD ?_ sa_upI_other) hS1 hl
    rw [sa_ent_arr (sa_in_al hj)]
    simp only [sa_arr, sa_upI, va_up_at]
    rfl
theorem sa_zast (C : sa_C p s m args meth c cc own name nL ret D ad cA A) {id : Nat} {j : Int32} {v : Int32} {g : Unit → sa_M α} (hd : decode cc pc = .ok (.bastore, 1)) (kk : sa_Sg p l e s m args below meth c nL d D ad cA A enc (pc + 1) lv st (g ())) : sa_Sg p l e s m args below meth c nL d D ad cA A enc pc lv (.int v :: .int j :: .ref (ad id) :: st) (sa_bnd (sa_stZ id j v) g) := by
  intro σ r τ hf H locs ls hw hS hl
  obtain ⟨a, σ1, hx, hg⟩ := sa_bnd_some hf
  unfold sa_stZ at hx
  by_cases hj : j < 0 ∨ sa_al .boolean id ≤ j.toNatClampNeg
  · rw [if_pos hj] at hx
    cases hx
  · rw [if_neg hj] at hx
    cases hx
    refine va_zast C.1 C.2.1 C.2.2.2.2.2.2.2.2.1 hw.1 hw.2.1 hS id 3 (hw.arr (sa_in_al hj)) rfl hj hd (fun H1 locs1 hP hD hS1 => ?_)
    refine kk _ r τ hg H1 locs1 ls (sa_W0.put (τ := sa_upI σ id j.toNatClampNeg (vp_nar .boolean v)) hP hD ?_ sa_upI_other) hS1 hl
    rw [sa_ent_arr (sa_in_al hj)]
    simp only [sa_arr, sa_upI, va_up_at]
    rfl
theorem sa_last (C : sa_C p s m args meth c cc own name nL ret D ad cA A) {id : Nat} {j : Int32} {v : Int64} {g : Unit → sa_M α} (hd : decode cc pc = .ok (.lastore, 1)) (kk : sa_Sg p l e s m args below meth c nL d D ad cA A enc (pc + 1) lv st (g ())) : sa_Sg p l e s m args below meth c nL d D ad cA A enc pc lv (.long v :: .int j :: .ref (ad id) :: st) (sa_bnd (sa_stL id j v) g) := by
  intro σ r τ hf H locs ls hw hS hl
  obtain ⟨a, σ1, hx, hg⟩ := sa_bnd_some hf
  unfold sa_stL at hx
  by_cases hj : j < 0 ∨ sa_al .long id ≤ j.toNatClampNeg
  · rw [if_pos hj] at hx
    cases hx
  · rw [if_neg hj] at hx
    cases hx
    refine va_last C.1 C.2.1 C.2.2.2.2.2.2.2.2.1 hw.1 hw.2.1 hS id 1 (hw.arr (sa_in_al hj)) rfl hj hd (fun H1 locs1 hP hD hS1 => ?_)
    refine kk _ r τ hg H1 locs1 ls (sa_W0.put (τ := sa_upL σ id j.toNatClampNeg v) hP hD ?_ sa_upL_other) hS1 hl
    rw [sa_ent_arr (sa_in_al hj)]
    simp only [sa_arr, sa_upL, va_up_at]
    rfl
theorem sa_aaldLaw (C : sa_C p s m args meth c cc own name nL ret D ad cA A) {id : Nat} {j : Int32} {g : Nat → sa_M α} (hd : decode cc pc = .ok (.aaload, 1)) (kk : ∀ y : Nat, sa_Sg p l e s m args below meth c nL d D ad cA A enc (pc + 1) lv (.ref (ad y) :: st) (g y)) : sa_Sg p l e s m args below meth c nL d D ad cA A enc pc lv (.int j :: .ref (ad id) :: st) (sa_bnd (sa_ldR (.object "SaltArmy$Law") id j) g) := by
  intro σ r τ hf H locs ls hw hS hl
  obtain ⟨a, σ1, hx, hg⟩ := sa_bnd_some hf
  unfold sa_ldR at hx
  by_cases hj : j < 0 ∨ sa_al (.object "SaltArmy$Law") id ≤ j.toNatClampNeg
  · rw [if_pos hj] at hx
    cases hx
  · rw [if_neg hj] at hx
    have hlt : j.toNatClampNeg < sa_al (.object "SaltArmy$Law") id := Nat.not_le.mp fun q => hj (Or.inr q)
    cases hn : σ.2.1 id j.toNatClampNeg with
    | zero => rw [hn] at hx; cases hx
    | succ i =>
      rw [hn] at hx
      cases hx
      refine W.aald (v := va_rf (sa_ro ad (σ.2.1 id j.toNatClampNeg))) (ty := (.object "SaltArmy$Law")) C.1 C.2.1 (hw.1 id _ (hw.arr (sa_in_al hj))) ((C.2.2.2.2.2.2.2.2.1.2 4 _ rfl).1 (sa_al (.object "SaltArmy$Law") id) (fun k => va_rf (sa_ro ad (σ.2.1 id k)))) rfl (fun q => by cases q) (by show ¬ (j < 0 ∨ (arrV _ _ _).slots.size ≤ _); rw [arrV_size]; exact hj) (arrV_read (cA (.object "SaltArmy$Law")) (fun k => va_rf (sa_ro ad (σ.2.1 id k))) hlt) rfl rfl hd ?_
      rw [hn]
      exact kk a _ r τ hg H locs ls hw hS hl
theorem sa_aaldOrders (C : sa_C p s m args meth c cc own name nL ret D ad cA A) {id : Nat} {j : Int32} {g : Nat → sa_M α} (hd : decode cc pc = .ok (.aaload, 1)) (kk : ∀ y : Nat, sa_Sg p l e s m args below meth c nL d D ad cA A enc (pc + 1) lv (.ref (ad y) :: st) (g y)) : sa_Sg p l e s m args below meth c nL d D ad cA A enc pc lv (.int j :: .ref (ad id) :: st) (sa_bnd (sa_ldR (.object "SaltArmy$Orders") id j) g) := by
  intro σ r τ hf H locs ls hw hS hl
  obtain ⟨a, σ1, hx, hg⟩ := sa_bnd_some hf
  unfold sa_ldR at hx
  by_cases hj : j < 0 ∨ sa_al (.object "SaltArmy$Orders") id ≤ j.toNatClampNeg
  · rw [if_pos hj] at hx
    cases hx
  · rw [if_neg hj] at hx
    have hlt : j.toNatClampNeg < sa_al (.object "SaltArmy$Orders") id := Nat.not_le.mp fun q => hj (Or.inr q)
    cases hn : σ.2.1 id j.toNatClampNeg with
    | zero => rw [hn] at hx; cases hx
    | succ i =>
      rw [hn] at hx
      cases hx
      refine W.aald (v := va_rf (sa_ro ad (σ.2.1 id j.toNatClampNeg))) (ty := (.object "SaltArmy$Orders")) C.1 C.2.1 (hw.1 id _ (hw.arr (sa_in_al hj))) ((C.2.2.2.2.2.2.2.2.1.2 5 _ rfl).1 (sa_al (.object "SaltArmy$Orders") id) (fun k => va_rf (sa_ro ad (σ.2.1 id k)))) rfl (fun q => by cases q) (by show ¬ (j < 0 ∨ (arrV _ _ _).slots.size ≤ _); rw [arrV_size]; exact hj) (arrV_read (cA (.object "SaltArmy$Orders")) (fun k => va_rf (sa_ro ad (σ.2.1 id k))) hlt) rfl rfl hd ?_
      rw [hn]
      exact kk a _ r τ hg H locs ls hw hS hl
theorem sa_aaldCamp (C : sa_C p s m args meth c cc own name nL ret D ad cA A) {id : Nat} {j : Int32} {g : Nat → sa_M α} (hd : decode cc pc = .ok (.aaload, 1)) (kk : ∀ y : Nat, sa_Sg p l e s m args below meth c nL d D ad cA A enc (pc + 1) lv (.ref (ad y) :: st) (g y)) : sa_Sg p l e s m args below meth c nL d D ad cA A enc pc lv (.int j :: .ref (ad id) :: st) (sa_bnd (sa_ldR (.object "SaltArmy$Camp") id j) g) := by
  intro σ r τ hf H locs ls hw hS hl
  obtain ⟨a, σ1, hx, hg⟩ := sa_bnd_some hf
  unfold sa_ldR at hx
  by_cases hj : j < 0 ∨ sa_al (.object "SaltArmy$Camp") id ≤ j.toNatClampNeg
  · rw [if_pos hj] at hx
    cases hx
  · rw [if_neg hj] at hx
    have hlt : j.toNatClampNeg < sa_al (.object "SaltArmy$Camp") id := Nat.not_le.mp fun q => hj (Or.inr q)
    cases hn : σ.2.1 id j.toNatClampNeg with
    | zero => rw [hn] at hx; cases hx
    | succ i =>
      rw [hn] at hx
      cases hx
      refine W.aald (v := va_rf (sa_ro ad (σ.2.1 id j.toNatClampNeg))) (ty := (.object "SaltArmy$Camp")) C.1 C.2.1 (hw.1 id _ (hw.arr (sa_in_al hj))) ((C.2.2.2.2.2.2.2.2.1.2 6 _ rfl).1 (sa_al (.object "SaltArmy$Camp") id) (fun k => va_rf (sa_ro ad (σ.2.1 id k)))) rfl (fun q => by cases q) (by show ¬ (j < 0 ∨ (arrV _ _ _).slots.size ≤ _); rw [arrV_size]; exact hj) (arrV_read (cA (.object "SaltArmy$Camp")) (fun k => va_rf (sa_ro ad (σ.2.1 id k))) hlt) rfl rfl hd ?_
      rw [hn]
      exact kk a _ r τ hg H locs ls hw hS hl
theorem sa_aaldJ (C : sa_C p s m args meth c cc own name nL ret D ad cA A) {id : Nat} {j : Int32} {g : Nat → sa_M α} (hd : decode cc pc = .ok (.aaload, 1)) (kk : ∀ y : Nat, sa_Sg p l e s m args below meth c nL d D ad cA A enc (pc + 1) lv (.ref (ad y) :: st) (g y)) : sa_Sg p l e s m args below meth c nL d D ad cA A enc pc lv (.int j :: .ref (ad id) :: st) (sa_bnd (sa_ldR (.array .long) id j) g) := by
  intro σ r τ hf H locs ls hw hS hl
  obtain ⟨a, σ1, hx, hg⟩ := sa_bnd_some hf
  unfold sa_ldR at hx
  by_cases hj : j < 0 ∨ sa_al (.array .long) id ≤ j.toNatClampNeg
  · rw [if_pos hj] at hx
    cases hx
  · rw [if_neg hj] at hx
    have hlt : j.toNatClampNeg < sa_al (.array .long) id := Nat.not_le.mp fun q => hj (Or.inr q)
    cases hn : σ.2.1 id j.toNatClampNeg with
    | zero => rw [hn] at hx; cases hx
    | succ i =>
      rw [hn] at hx
      cases hx
      refine W.aald (v := va_rf (sa_ro ad (σ.2.1 id j.toNatClampNeg))) (ty := (.array .long)) C.1 C.2.1 (hw.1 id _ (hw.arr (sa_in_al hj))) ((C.2.2.2.2.2.2.2.2.1.2 7 _ rfl).1 (sa_al (.array .long) id) (fun k => va_rf (sa_ro ad (σ.2.1 id k)))) rfl (fun q => by cases q) (by show ¬ (j < 0 ∨ (arrV _ _ _).slots.size ≤ _); rw [arrV_size]; exact hj) (arrV_read (cA (.array .long)) (fun k => va_rf (sa_ro ad (σ.2.1 id k))) hlt) rfl rfl hd ?_
      rw [hn]
      exact kk a _ r τ hg H locs ls hw hS hl
theorem sa_alenI (C : sa_C p s m args meth c cc own name nL ret D ad cA A) {id : Nat} {g : Int32 → sa_M α} (hd : decode cc pc = .ok (.arraylength, 1)) (kk : ∀ y : Int32, sa_Sg p l e s m args below meth c nL d D ad cA A enc (pc + 1) lv (.int y :: st) (g y)) : sa_Sg p l e s m args below meth c nL d D ad cA A enc pc lv (.ref (ad id) :: st) (sa_bnd (sa_len .int id) g) := by
  intro σ r τ hf H locs ls hw hS hl
  obtain ⟨a, σ1, hx, hg⟩ := sa_bnd_some hf
  unfold sa_len at hx
  by_cases hj : sa_al .int id = 0
  · rw [if_pos hj] at hx
    cases hx
  · rw [if_neg hj] at hx
    cases hx
    exact va_alen C.1 C.2.1 C.2.2.2.2.2.2.2.2.1 hw.1 id 0 (hw.arr (sa_al_pos (Nat.pos_of_ne_zero hj))) rfl rfl hd (kk _ _ r τ hg H locs ls hw hS hl)
theorem sa_alenLaw (C : sa_C p s m args meth c cc own name nL ret D ad cA A) {id : Nat} {g : Int32 → sa_M α} (hd : decode cc pc = .ok (.arraylength, 1)) (kk : ∀ y : Int32, sa_Sg p l e s m args below meth c nL d D ad cA A enc (pc + 1) lv (.int y :: st) (g y)) : sa_Sg p l e s m args below meth c nL d D ad cA A enc pc lv (.ref (ad id) :: st) (sa_bnd (sa_len (.object "SaltArmy$Law") id) g) := by
  intro σ r τ hf H locs ls hw hS hl
  obtain ⟨a, σ1, hx, hg⟩ := sa_bnd_some hf
  unfold sa_len at hx
  by_cases hj : sa_al (.object "SaltArmy$Law") id = 0
  · rw [if_pos hj] at hx
    cases hx
  · rw [if_neg hj] at hx
    cases hx
    exact va_alen C.1 C.2.1 C.2.2.2.2.2.2.2.2.1 hw.1 id 4 (hw.arr (sa_al_pos (Nat.pos_of_ne_zero hj))) rfl rfl hd (kk _ _ r τ hg H locs ls hw hS hl)
theorem sa_alenOrders (C : sa_C p s m args meth c cc own name nL ret D ad cA A) {id : Nat} {g : Int32 → sa_M α} (hd : decode cc pc = .ok (.arraylength, 1)) (kk : ∀ y : Int32, sa_Sg p l e s m args below meth c nL d D ad cA A enc (pc + 1) lv (.int y :: st) (g y)) : sa_Sg p l e s m args below meth c nL d D ad cA A enc pc lv (.ref (ad id) :: st) (sa_bnd (sa_len (.object "SaltArmy$Orders") id) g) := by
  intro σ r τ hf H locs ls hw hS hl
  obtain ⟨a, σ1, hx, hg⟩ := sa_bnd_some hf
  unfold sa_len at hx
  by_cases hj : sa_al (.object "SaltArmy$Orders") id = 0
  · rw [if_pos hj] at hx
    cases hx
  · rw [if_neg hj] at hx
    cases hx
    exact va_alen C.1 C.2.1 C.2.2.2.2.2.2.2.2.1 hw.1 id 5 (hw.arr (sa_al_pos (Nat.pos_of_ne_zero hj))) rfl rfl hd (kk _ _ r τ hg H locs ls hw hS hl)
theorem sa_alenL (C : sa_C p s m args meth c cc own name nL ret D ad cA A) {id : Nat} {g : Int32 → sa_M α} (hd : decode cc pc = .ok (.arraylength, 1)) (kk : ∀ y : Int32, sa_Sg p l e s m args below meth c nL d D ad cA A enc (pc + 1) lv (.int y :: st) (g y)) : sa_Sg p l e s m args below meth c nL d D ad cA A enc pc lv (.ref (ad id) :: st) (sa_bnd (sa_len .long id) g) := by
  intro σ r τ hf H locs ls hw hS hl
  obtain ⟨a, σ1, hx, hg⟩ := sa_bnd_some hf
  unfold sa_len at hx
  by_cases hj : sa_al .long id = 0
  · rw [if_pos hj] at hx
    cases hx
  · rw [if_neg hj] at hx
    cases hx
    exact va_alen C.1 C.2.1 C.2.2.2.2.2.2.2.2.1 hw.1 id 1 (hw.arr (sa_al_pos (Nat.pos_of_ne_zero hj))) rfl rfl hd (kk _ _ r τ hg H locs ls hw hS hl)
theorem sa_gets (C : sa_C p s m args meth c cc own name nL ret D ad cA A) {idx j : Nat} {q : String × String × List Int32} (hq : sa_stat[j]? = some q) (hlink : Cond.fieldLink own idx q.1 q.2.1 "[I" ∈ sa_T) (hd : decode cc pc = .ok (.getstatic idx, 3)) (kk : sa_Sg p l e s m args below meth c nL d D ad cA A enc (pc + 3) lv (.ref (ad (2000 + j)) :: st) f) : sa_Sg p l e s m args below meth c nL d D ad cA A enc pc lv st f := by
  intro σ r τ hf H locs ls hw hS hl
  exact va_gets C.1 C.2.1 (C.2.2.2.2.2.2.2.2.2.2.2.2.1 j q hq).1 hS C.2.2.2.1 (C.2.2.2.2.1 _ hlink) (fun _ h => h) hd (kk σ r τ hf H locs ls hw hS hl)
theorem sa_tld (C : sa_C p s m args meth c cc own name nL ret D ad cA A) {j : Nat} {q : String × String × List Int32} {i : Int32} {g : Int32 → sa_M α} (hq : sa_stat[j]? = some q) (hd : decode cc pc = .ok (.iaload, 1)) (kk : ∀ y : Int32, sa_Sg p l e s m args below meth c nL d D ad cA A enc (pc + 1) lv (.int y :: st) (g y)) : sa_Sg p l e s m args below meth c nL d D ad cA A enc pc lv (.int i :: .ref (ad (2000 + j)) :: st) (sa_bnd (sa_tb j i) g) := by
  intro σ r τ hf H locs ls hw hS hl
  obtain ⟨a, σ1, hx, hg⟩ := sa_bnd_some hf
  have hrow : sa_row j = q.2.2 := by unfold sa_row; rw [List.getD_eq_getElem?_getD, hq]; rfl
  unfold sa_tb at hx
  by_cases hj : i < 0 ∨ (sa_row j).length ≤ i.toNatClampNeg
  · rw [if_pos hj] at hx
    cases hx
  · rw [if_neg hj] at hx
    cases hx
    rw [hrow] at hj hg
    exact va_ti C.1 C.2.1 (C.2.2.2.2.2.2.2.2.2.2.2.2.1 j q hq).2 hS hj rfl hd (kk _ _ r τ hg H locs ls hw hS hl)
theorem sa_idiv (C : sa_C p s m args meth c cc own name nL ret D ad cA A) {x y : Int32} {g : Int32 → sa_M α} (hd : decode cc pc = .ok (.idiv, 1)) (kk : ∀ z : Int32, sa_Sg p l e s m args below meth c nL d D ad cA A enc (pc + 1) lv (.int z :: st) (g z)) : sa_Sg p l e s m args below meth c nL d D ad cA A enc pc lv (.int y :: .int x :: st) (sa_bnd (sa_dv x y) g) := by
  intro σ r τ hf H locs ls hw hS hl
  obtain ⟨a, σ1, hx, hg⟩ := sa_bnd_some hf
  unfold sa_dv at hx
  by_cases hj : y = 0
  · rw [if_pos hj] at hx
    cases hx
  · rw [if_neg hj] at hx
    cases hx
    exact lv_idiv C.1 C.2.1 hd hj (kk _ _ r τ hg H locs ls hw hS hl)
theorem sa_irem (C : sa_C p s m args meth c cc own name nL ret D ad cA A) {x y : Int32} {g : Int32 → sa_M α} (hd : decode cc pc = .ok (.irem, 1)) (kk : ∀ z : Int32, sa_Sg p l e s m args below meth c nL d D ad cA A enc (pc + 1) lv (.int z :: st) (g z)) : sa_Sg p l e s m args below meth c nL d D ad cA A enc pc lv (.int y :: .int x :: st) (sa_bnd (sa_md x y) g) := by
  intro σ r τ hf H locs ls hw hS hl
  obtain ⟨a, σ1, hx, hg⟩ := sa_bnd_some hf
  unfold sa_md at hx
  by_cases hj : y = 0
  · rw [if_pos hj] at hx
    cases hx
  · rw [if_neg hj] at hx
    cases hx
    exact lv_irem C.1 C.2.1 hd hj (kk _ _ r τ hg H locs ls hw hS hl)
theorem sa_ldiv (C : sa_C p s m args meth c cc own name nL ret D ad cA A) {x y : Int64} {g : Int64 → sa_M α} (hd : decode cc pc = .ok (.ldiv, 1)) (kk : ∀ z : Int64, sa_Sg p l e s m args below meth c nL d D ad cA A enc (pc + 1) lv (.long z :: st) (g z)) : sa_Sg p l e s m args below meth c nL d D ad cA A enc pc lv (.long y :: .long x :: st) (sa_bnd (sa_dvL x y) g) := by
  intro σ r τ hf H locs ls hw hS hl
  obtain ⟨a, σ1, hx, hg⟩ := sa_bnd_some hf
  unfold sa_dvL at hx
  by_cases hj : y = 0
  · rw [if_pos hj] at hx
    cases hx
  · rw [if_neg hj] at hx
    cases hx
    exact lv_ldiv C.1 C.2.1 hd hj (kk _ _ r τ hg H locs ls hw hS hl)
theorem sa_lrem (C : sa_C p s m args meth c cc own name nL ret D ad cA A) {x y : Int64} {g : Int64 → sa_M α} (hd : decode cc pc = .ok (.lrem, 1)) (kk : ∀ z : Int64, sa_Sg p l e s m args below meth c nL d D ad cA A enc (pc + 1) lv (.long z :: st) (g z)) : sa_Sg p l e s m args below meth c nL d D ad cA A enc pc lv (.long y :: .long x :: st) (sa_bnd (sa_mdL x y) g) := by
  intro σ r τ hf H locs ls hw hS hl
  obtain ⟨a, σ1, hx, hg⟩ := sa_bnd_some hf
  unfold sa_mdL at hx
  by_cases hj : y = 0
  · rw [if_pos hj] at hx
    cases hx
  · rw [if_neg hj] at hx
    cases hx
    exact lv_lrem C.1 C.2.1 hd hj (kk _ _ r τ hg H locs ls hw hS hl)
theorem sa_mmax (C : sa_C p s m args meth c cc own name nL ret D ad cA A) {idx : Nat} {x y : Int32} (hq : Cond.methodLink own idx Lib.Math.max.name ∈ sa_T) (hst : (st.map fun v => v.category).sum + 13 ≤ 64 * d) (hdd : 1 ≤ d) (h1 : Cond.static Lib.Math.max.name ∈ sa_T) (h2 : Cond.initialized "java/lang/Math" ∈ sa_T) (h3 : Cond.code Lib.Math.max.name Lib.Math.max.code 2 (some .int) ∈ sa_T) (hd : decode cc pc = .ok (.invokestatic idx, 3)) (k : sa_Sg p l e s m args below meth c nL d D ad cA A enc (pc + 3) lv (.int (sa_max x y) :: st) f) : sa_Sg p l e s m args below meth c nL d D ad cA A enc pc lv (.int y :: .int x :: st) f := by
  intro σ r τ hf H locs ls hw hS hl
  exact va_mmax C.1 C.2.1 (C.2.2.1.trans hl.1.symm) C.2.2.2.1 (C.2.2.2.2.1 _ hq) (C.2.2.2.2.1 _ h1) (C.2.2.2.2.1 _ h2) (C.2.2.2.2.1 _ h3) hdd hst (Nat.le_refl _) (Nat.le_refl _) hd (k σ r τ hf H locs ls hw hS hl)
theorem sa_mmin (C : sa_C p s m args meth c cc own name nL ret D ad cA A) {idx : Nat} {x y : Int32} (hq : Cond.methodLink own idx Lib.Math.min.name ∈ sa_T) (hst : (st.map fun v => v.category).sum + 13 ≤ 64 * d) (hdd : 1 ≤ d) (h1 : Cond.static Lib.Math.min.name ∈ sa_T) (h2 : Cond.initialized "java/lang/Math" ∈ sa_T) (h3 : Cond.code Lib.Math.min.name Lib.Math.min.code 2 (some .int) ∈ sa_T) (hd : decode cc pc = .ok (.invokestatic idx, 3)) (k : sa_Sg p l e s m args below meth c nL d D ad cA A enc (pc + 3) lv (.int (sa_min x y) :: st) f) : sa_Sg p l e s m args below meth c nL d D ad cA A enc pc lv (.int y :: .int x :: st) f := by
  intro σ r τ hf H locs ls hw hS hl
  exact va_mmin C.1 C.2.1 (C.2.2.1.trans hl.1.symm) C.2.2.2.1 (C.2.2.2.2.1 _ hq) (C.2.2.2.2.1 _ h1) (C.2.2.2.2.1 _ h2) (C.2.2.2.2.1 _ h3) hdd hst (Nat.le_refl _) (Nat.le_refl _) hd (k σ r τ hf H locs ls hw hS hl)
theorem sa_mmaxL (C : sa_C p s m args meth c cc own name nL ret D ad cA A) {idx : Nat} {x y : Int64} (hq : Cond.methodLink own idx Lib.MathLoose.max_long.x ∈ sa_T) (hst : (st.map fun v => v.category).sum + 15 ≤ 64 * d) (hdd : 1 ≤ d) (h1 : Cond.static Lib.MathLoose.max_long.x ∈ sa_T) (h2 : Cond.initialized "java/lang/Math" ∈ sa_T) (h3 : Cond.code Lib.MathLoose.max_long.x Lib.MathLoose.max_long.code 4 (some .long) ∈ sa_T) (hd : decode cc pc = .ok (.invokestatic idx, 3)) (k : sa_Sg p l e s m args below meth c nL d D ad cA A enc (pc + 3) lv (.long (if y < x then x else y) :: st) f) : sa_Sg p l e s m args below meth c nL d D ad cA A enc pc lv (.long y :: .long x :: st) f := by
  intro σ r τ hf H locs ls hw hS hl
  exact va_mmax_long C.1 C.2.1 (C.2.2.1.trans hl.1.symm) C.2.2.2.1 (C.2.2.2.2.1 _ hq) (C.2.2.2.2.1 _ h1) (C.2.2.2.2.1 _ h2) (C.2.2.2.2.1 _ h3) hdd hst (Nat.le_refl _) (Nat.le_refl _) hd (k σ r τ hf H locs ls hw hS hl)
theorem sa_mminL (C : sa_C p s m args meth c cc own name nL ret D ad cA A) {idx : Nat} {x y : Int64} (hq : Cond.methodLink own idx Lib.MathLoose.min_long.x ∈ sa_T) (hst : (st.map fun v => v.category).sum + 15 ≤ 64 * d) (hdd : 1 ≤ d) (h1 : Cond.static Lib.MathLoose.min_long.x ∈ sa_T) (h2 : Cond.initialized "java/lang/Math" ∈ sa_T) (h3 : Cond.code Lib.MathLoose.min_long.x Lib.MathLoose.min_long.code 4 (some .long) ∈ sa_T) (hd : decode cc pc = .ok (.invokestatic idx, 3)) (k : sa_Sg p l e s m args below meth c nL d D ad cA A enc (pc + 3) lv (.long (if y < x then y else x) :: st) f) : sa_Sg p l e s m args below meth c nL d D ad cA A enc pc lv (.long y :: .long x :: st) f := by
  intro σ r τ hf H locs ls hw hS hl
  exact va_mmin_long C.1 C.2.1 (C.2.2.1.trans hl.1.symm) C.2.2.2.1 (C.2.2.2.2.1 _ hq) (C.2.2.2.2.1 _ h1) (C.2.2.2.2.1 _ h2) (C.2.2.2.2.1 _ h3) hdd hst (Nat.le_refl _) (Nat.le_refl _) hd (k σ r τ hf H locs ls hw hS hl)
theorem sa_cpyI (C : sa_C p s m args meth c cc own name nL ret D ad cA A) {idx a0 a : Nat} {sp dp n : Int32} {g : Unit → sa_M α} (hq : Cond.methodLink own idx arraycopyName ∈ sa_T) (h6 : Cond.native arraycopyName ∈ sa_T) (h7 : Cond.static arraycopyName ∈ sa_T) (h8 : Cond.initialized "java/lang/System" ∈ sa_T) (hst : (st.map fun v => v.category).sum + 18 ≤ 64 * d) (hdd : 1 ≤ d) (hd : decode cc pc = .ok (.invokestatic idx, 3)) (kk : sa_Sg p l e s m args below meth c nL d D ad cA A enc (pc + 3) lv st (g ())) : sa_Sg p l e s m args below meth c nL d D ad cA A enc pc lv (.int n :: .int dp :: .ref (ad a) :: .int sp :: .ref (ad a0) :: st) (sa_bnd (sa_cpI a0 sp a dp n) g) := by
  intro σ r τ hf H locs ls hw hS hl
  obtain ⟨b, σ1, hx, hg⟩ := sa_bnd_some hf
  unfold sa_cpI at hx
  by_cases hj : sp < 0 ∨ dp < 0 ∨ n < 0 ∨ sa_al .int a0 < sp.toNatClampNeg + n.toNatClampNeg ∨ sa_al .int a < dp.toNatClampNeg + n.toNatClampNeg ∨ sa_al .int a0 = 0 ∨ sa_al .int a = 0
  · rw [if_pos hj] at hx
    cases hx
  · rw [if_neg hj] at hx
    cases hx
    have hs0 : sa_sh a0 = some (.inr (.int, sa_al .int a0)) := sa_al_pos (by omega)
    have hs1 : sa_sh a = some (.inr (.int, sa_al .int a)) := sa_al_pos (by omega)
    refine va_copyi C.1 C.2.1 (C.2.2.1.trans hl.1.symm) C.2.2.2.1 (C.2.2.2.2.1 _ hq) (C.2.2.2.2.1 _ h6) (C.2.2.2.2.1 _ h7) (C.2.2.2.2.1 _ h8) C.2.2.2.2.2.2.2.2.1 hw.1 hw.2.1 hS a0 a 0 0 (hw.arr hs0) (hw.arr hs1) rfl rfl rfl (fun q => hj (Or.inl q)) (fun q => hj (Or.inr (Or.inl q))) (fun q => hj (Or.inr (Or.inr (Or.inl q)))) (by omega) (by omega) (fun i _ => rfl) hdd (Nat.le_trans (Nat.add_le_add_left (by decide) _) hst) hd (fun H1 locs1 hP hD hS1 => ?_)
    refine kk _ r τ hg H1 locs1 ls (sa_W0.put (τ := (va_up σ.1 a (va_cpy (σ.1 a0) (σ.1 a) sp.toNatClampNeg dp.toNatClampNeg n.toNatClampNeg), σ.2)) hP hD ?_ (fun i hi => sa_ent_other (va_up_no hi) rfl rfl)) hS1 hl
    rw [sa_ent_arr hs1]
    simp only [sa_arr, va_up_at]
theorem sa_cpyL (C : sa_C p s m args meth c cc own name nL ret D ad cA A) {idx a0 a : Nat} {sp dp n : Int32} {g : Unit → sa_M α} (hq : Cond.methodLink own idx arraycopyName ∈ sa_T) (h6 : Cond.native arraycopyName ∈ sa_T) (h7 : Cond.static arraycopyName ∈ sa_T) (h8 : Cond.initialized "java/lang/System" ∈ sa_T) (hst : (st.map fun v => v.category).sum + 18 ≤ 64 * d) (hdd : 1 ≤ d) (hd : decode cc pc = .ok (.invokestatic idx, 3)) (kk : sa_Sg p l e s m args below meth c nL d D ad cA A enc (pc + 3) lv st (g ())) : sa_Sg p l e s m args below meth c nL d D ad cA A enc pc lv (.int n :: .int dp :: .ref (ad a) :: .int sp :: .ref (ad a0) :: st) (sa_bnd (sa_cpL a0 sp a dp n) g) := by
  intro σ r τ hf H locs ls hw hS hl
  obtain ⟨b, σ1, hx, hg⟩ := sa_bnd_some hf
  unfold sa_cpL at hx
  by_cases hj : sp < 0 ∨ dp < 0 ∨ n < 0 ∨ sa_al .long a0 < sp.toNatClampNeg + n.toNatClampNeg ∨ sa_al .long a < dp.toNatClampNeg + n.toNatClampNeg ∨ sa_al .long a0 = 0 ∨ sa_al .long a = 0
  · rw [if_pos hj] at hx
    cases hx
  · rw [if_neg hj] at hx
    cases hx
    have hs0 : sa_sh a0 = some (.inr (.long, sa_al .long a0)) := sa_al_pos (by omega)
    have hs1 : sa_sh a = some (.inr (.long, sa_al .long a)) := sa_al_pos (by omega)
    refine va_copyl C.1 C.2.1 (C.2.2.1.trans hl.1.symm) C.2.2.2.1 (C.2.2.2.2.1 _ hq) (C.2.2.2.2.1 _ h6) (C.2.2.2.2.1 _ h7) (C.2.2.2.2.1 _ h8) C.2.2.2.2.2.2.2.2.1 hw.1 hw.2.1 hS a0 a 1 1 (hw.arr hs0) (hw.arr hs1) rfl rfl rfl (fun q => hj (Or.inl q)) (fun q => hj (Or.inr (Or.inl q))) (fun q => hj (Or.inr (Or.inr (Or.inl q)))) (by omega) (by omega) (fun i _ => rfl) hdd (Nat.le_trans (Nat.add_le_add_left (by decide) _) hst) hd (fun H1 locs1 hP hD hS1 => ?_)
    refine kk _ r τ hg H1 locs1 ls (sa_W0.put (τ := (σ.1, σ.2.1, va_up σ.2.2 a (va_cpy (σ.2.2 a0) (σ.2.2 a) sp.toNatClampNeg dp.toNatClampNeg n.toNatClampNeg))) hP hD ?_ (fun i hi => sa_ent_other rfl rfl (va_up_no hi))) hS1 hl
    rw [sa_ent_arr hs1]
    simp only [sa_arr, va_up_at]
theorem sa_invV (C : sa_C p s m args meth c cc own name nL ret D ad cA A) {d' : Nat} {y : MethodName} {bytes : ByteArray} {maxL n idx ci id : Nat} {rt : Option FieldType} {av : (Nat → Nat) → List Value} {enc' : β → Option Value} {x : sa_M β} {g : β → sa_M α} {As : List Value} {T : u_T} {N : Nat} (M : sa_Met d' y bytes maxL rt av enc' x) (hcode : Cond.code y bytes maxL rt ∈ sa_T) (hdesc : y.cls ≠ "java/lang/invoke/MethodHandle" ∧ y.cls ≠ "java/lang/invoke/VarHandle" ∧ (parseMethodDescriptor y.desc).map (fun d => d.parameters.length) = some n) (hini : Cond.initialized y.cls ∈ sa_T) (hcl : sa_cl[ci]? = some (y.cls, T, N)) (hinst : Cond.instanceMethod y ∈ sa_T) (hsel : Cond.selects y.cls y y ∈ sa_T) (hlink : Cond.methodLink own idx y ∈ sa_T) (hgd : ∀ σ r τ, x σ = some (r, τ) → sa_sh id = some (.inl ci)) (hav : av ad = .ref (ad id) :: As) {st' : List Value} (hst : st' = As.reverse ++ .ref (ad id) :: st) (hn : As.length = n) (hw8 : (st.map fun v => v.category).sum ≤ 8) (hdd : d' + 1 ≤ d) (hmx : maxL ≤ 45) (hd : decode cc pc = .ok (.invokevirtual idx, 3)) (kk : ∀ r : β, sa_Sg p l e s m args below meth c nL d D ad cA A enc (pc + 3) lv ((enc' r).toList ++ st) (g r)) : sa_Sg p l e s m args below meth c nL d D ad cA A enc pc lv st' (sa_bnd x g) := by
  intro σ r τ hf H locs ls hw hS hl
  obtain ⟨b, σ1, hx, hg⟩ := sa_bnd_some hf
  have hs := hgd σ b σ1 hx
  subst hst
  have hM := M l D ad cA A σ b σ1 hx
  rw [hav] at hM
  have cw : CallW (sa_rm d 0 0) s args own y.cls idx y bytes maxL rt (.code y bytes maxL rt :: sa_T) (sa_rm d' 0 0) 0 0 n :=
    ⟨callB_of n C.2.2.2.2.1 (sa_good hcode) rfl rfl rfl (C.2.2.2.2.1 _ hini) (C.2.2.2.2.1 _ hlink) hdesc ⟨hdd, by show 8 + (maxL + 11) + 64 * d' ≤ 64 * d; omega⟩, C.2.2.2.2.1 _ hinst, C.2.2.2.2.1 _ hsel⟩
  exact sa_after (va_runV (As := As) (rest := st) ⟨C.1, C.2.1, C.2.2.1, C.2.2.2.1, C.2.2.2.2.1⟩ hM cw ⟨sa_blind, va_recv C.2.2.2.2.2.2.2.2.1 hw.1 hcl (hw.obj hs), fun U hU hW => ⟨rfl, by rw [hU]; exact hw, by rw [hU]; exact C.2.2.2.2.2.2.2.2.into hW hS⟩⟩ rfl hn hl.1 rfl (lv_room hw8) hd ⟨Nat.le_refl _, Nat.le_refl _⟩) hS (fun H1 locs1 hw1 hS1 => kk b σ1 r τ hg H1 locs1 ls hw1 hS1 hl)
theorem sa_invS (C : sa_C p s m args meth c cc own name nL ret D ad cA A) {d' : Nat} {y : MethodName} {bytes : ByteArray} {maxL n idx : Nat} {rt : Option FieldType} {av : (Nat → Nat) → List Value} {enc' : β → Option Value} {x : sa_M β} {g : β → sa_M α} {As : List Value} (M : sa_Met d' y bytes maxL rt av enc' x) (hcode : Cond.code y bytes maxL rt ∈ sa_T) (hdesc : y.cls ≠ "java/lang/invoke/MethodHandle" ∧ y.cls ≠ "java/lang/invoke/VarHandle" ∧ (parseMethodDescriptor y.desc).map (fun d => d.parameters.length) = some n) (hini : Cond.initialized y.cls ∈ sa_T) (hstt : Cond.static y ∈ sa_T) (hlink : Cond.methodLink own idx y ∈ sa_T) (hav : av ad = As) {st' : List Value} (hst : st' = As.reverse ++ st) (hn : As.length = n) (hw8 : (st.map fun v => v.category).sum ≤ 8) (hdd : d' + 1 ≤ d) (hmx : maxL ≤ 45) (hd : decode cc pc = .ok (.invokestatic idx, 3)) (kk : ∀ r : β, sa_Sg p l e s m args below meth c nL d D ad cA A enc (pc + 3) lv ((enc' r).toList ++ st) (g r)) : sa_Sg p l e s m args below meth c nL d D ad cA A enc pc lv st' (sa_bnd x g) := by
  intro σ r τ hf H locs ls hw hS hl
  obtain ⟨b, σ1, hx, hg⟩ := sa_bnd_some hf
  subst hst
  have hM := M l D ad cA A σ b σ1 hx
  rw [hav] at hM
  have cw : CallB (sa_rm d 0 0) s args own idx y bytes maxL rt (.code y bytes maxL rt :: sa_T) (sa_rm d' 0 0) 0 0 n :=
    callB_of n C.2.2.2.2.1 (sa_good hcode) rfl rfl rfl (C.2.2.2.2.1 _ hini) (C.2.2.2.2.1 _ hlink) hdesc ⟨hdd, by show 8 + (maxL + 11) + 64 * d' ≤ 64 * d; omega⟩
  exact sa_after (va_runS (As := As) (rest := st) ⟨C.1, C.2.1, C.2.2.1, C.2.2.2.1, C.2.2.2.2.1⟩ hM ⟨cw, C.2.2.2.2.1 _ hstt⟩ ⟨sa_blind, fun U hU hW => ⟨rfl, by rw [hU]; exact hw, by rw [hU]; exact C.2.2.2.2.2.2.2.2.into hW hS⟩⟩ rfl hn hl.1 rfl (lv_room hw8) hd ⟨Nat.le_refl _, Nat.le_refl _⟩) hS (fun H1 locs1 hw1 hS1 => kk b σ1 r τ hg H1 locs1 ls hw1 hS1 hl)
end SARULES2
section SARET
variable {p : Program} {l : Launch} {e : Env} {s : State} {m : MethodId} {args : Array Value} {below : List Frame} {meth : Method} {c : Code} {nL d : Nat} {D : va_G} {ad : Nat → Nat} {cA : FieldType → ClassId} {A : Nat → Prop}
variable {cc : ByteArray} {own name : String} {pc : Nat} {lv : List (Nat × Value)}
theorem sa_iret (C : sa_C p s m args meth c cc own name nL (some .int) D ad cA A) {v : Int32} (hd : decode cc pc = .ok (.ireturn, 1)) : sa_Sg p l e s m args below meth c nL d D ad cA A sa_eI pc lv [.int v] (sa_ret v) := by
  intro σ r τ hf H locs ls hw hS hl
  cases hf
  exact W.iret C.1 C.2.1 C.2.2.2.2.2.1 (fun t ht _ => ⟨rfl, by rw [ht]; exact hw, hS.F ht⟩) hS.2.2 hd C.2.2.2.2.2.2.2.1
theorem sa_zret (C : sa_C p s m args meth c cc own name nL (some .boolean) D ad cA A) {v : Int32} (hd : decode cc pc = .ok (.ireturn, 1)) : sa_Sg p l e s m args below meth c nL d D ad cA A sa_eI pc lv [.int v] (sa_retZ v) := by
  intro σ r τ hf H locs ls hw hS hl
  unfold sa_retZ at hf
  by_cases hv : v = 0 ∨ v = 1
  rotate_left
  · rw [if_neg hv] at hf
    cases hf
  rw [if_pos hv] at hf
  cases hf
  exact W.zret C.1 C.2.1 C.2.2.2.2.2.1 (by rcases hv with h | h <;> subst h <;> decide) (fun t ht _ => ⟨rfl, by rw [ht]; exact hw, hS.F ht⟩) hS.2.2 hd C.2.2.2.2.2.2.2.1
theorem sa_cret (C : sa_C p s m args meth c cc own name nL (some .char) D ad cA A) {v : Int32} (hd : decode cc pc = .ok (.ireturn, 1)) : sa_Sg p l e s m args below meth c nL d D ad cA A sa_eI pc lv [.int v] (sa_retC v) := by
  intro σ r τ hf H locs ls hw hS hl
  unfold sa_retC at hf
  by_cases hv : vp_nar .char v = v
  rotate_left
  · rw [if_neg hv] at hf
    cases hf
  rw [if_pos hv] at hf
  cases hf
  have hv2 : narrow .char (.int v) = .int v := by
    unfold vp_nar at hv
    simp only [narrow] at hv ⊢
    exact congrArg Value.int hv
  exact W.zret C.1 C.2.1 C.2.2.2.2.2.1 hv2 (fun t ht _ => ⟨rfl, by rw [ht]; exact hw, hS.F ht⟩) hS.2.2 hd C.2.2.2.2.2.2.2.1
theorem sa_vret (C : sa_C p s m args meth c cc own name nL none D ad cA A)  (hd : decode cc pc = .ok (.return_, 1)) : sa_Sg p l e s m args below meth c nL d D ad cA A sa_eV pc lv [] (sa_ret ()) := by
  intro σ r τ hf H locs ls hw hS hl
  cases hf
  exact W.vret C.1 C.2.1 C.2.2.2.2.2.1 (fun t ht _ => ⟨rfl, by rw [ht]; exact hw, hS.F ht⟩) hS.2.2 hd C.2.2.2.2.2.2.2.1
end SARET
section SALOOP
variable {α : Type} {p : Program} {l : Launch} {e : Env} {s : State} {m : MethodId} {args : Array Value} {below : List Frame} {meth : Method} {c : Code} {nL d : Nat} {D : va_G} {ad : Nat → Nat} {cA : FieldType → ClassId} {A : Nat → Prop} {enc : α → Option Value}
variable {pc : Nat} {lv : List (Nat × Value)} {st : List Value}
def sa_jn0 {α : Type} (k : sa_M α) (b : (sa_M α) → sa_M α) : sa_M α := b k
theorem sa_join0 {k : sa_M α} {b : (sa_M α) → sa_M α} (pcJ : Nat) (lvJ : List (Nat × Value)) (stJ : List Value) (hk : sa_Sg p l e s m args below meth c nL d D ad cA A enc pcJ lvJ stJ k) (hb : ∀ j : sa_M α, (sa_Sg p l e s m args below meth c nL d D ad cA A enc pcJ lvJ stJ j) → sa_Sg p l e s m args below meth c nL d D ad cA A enc pc lv st (b j)) : sa_Sg p l e s m args below meth c nL d D ad cA A enc pc lv st (sa_jn0 k b) := hb k hk
def sa_wh0 {α : Type} (b : (sa_M α) → sa_M α) : Nat → sa_M α
  | 0 => fun _ => none
  | n + 1 => b (sa_wh0 b n) 
theorem sa_loop0 {b : (sa_M α) → sa_M α} (lvJ : List (Nat × Value)) (stJ : List Value) (hb : ∀ j : sa_M α, (sa_Sg p l e s m args below meth c nL d D ad cA A enc pc lvJ stJ j) → sa_Sg p l e s m args below meth c nL d D ad cA A enc pc lvJ stJ (b j )) : ∀ (n : Nat) , sa_Sg p l e s m args below meth c nL d D ad cA A enc pc lvJ stJ (sa_wh0 b n ) := by
  intro n
  induction n with
  | zero => intro σ r τ hf; cases hf
  | succ n ih => exact hb _ ih 
def sa_jn1 {α : Type} {A0 : Type} (k : A0 → sa_M α) (b : (A0 → sa_M α) → sa_M α) : sa_M α := b k
theorem sa_join1 {A0 : Type} {k : A0 → sa_M α} {b : (A0 → sa_M α) → sa_M α} (pcJ : Nat) (lvJ : A0 → List (Nat × Value)) (stJ : A0 → List Value) (hk : ∀ (x0 : A0), sa_Sg p l e s m args below meth c nL d D ad cA A enc pcJ (lvJ x0) (stJ x0) (k x0)) (hb : ∀ j : A0 → sa_M α, (∀ (x0 : A0), sa_Sg p l e s m args below meth c nL d D ad cA A enc pcJ (lvJ x0) (stJ x0) (j x0)) → sa_Sg p l e s m args below meth c nL d D ad cA A enc pc lv st (b j)) : sa_Sg p l e s m args below meth c nL d D ad cA A enc pc lv st (sa_jn1 k b) := hb k hk
def sa_wh1 {α : Type} {A0 : Type} (b : (A0 → sa_M α) → A0 → sa_M α) : Nat → A0 → sa_M α
  | 0, _ => fun _ => none
  | n + 1, x0 => b (sa_wh1 b n) x0
theorem sa_loop1 {A0 : Type} {b : (A0 → sa_M α) → A0 → sa_M α} (lvJ : A0 → List (Nat × Value)) (stJ : A0 → List Value) (hb : ∀ j : A0 → sa_M α, (∀ (x0 : A0), sa_Sg p l e s m args below meth c nL d D ad cA A enc pc (lvJ x0) (stJ x0) (j x0)) → ∀ (x0 : A0), sa_Sg p l e s m args below meth c nL d D ad cA A enc pc (lvJ x0) (stJ x0) (b j x0)) : ∀ (n : Nat) (x0 : A0), sa_Sg p l e s m args below meth c nL d D ad cA A enc pc (lvJ x0) (stJ x0) (sa_wh1 b n x0) := by
  intro n
  induction n with
  | zero => intro x0 σ r τ hf; cases hf
  | succ n ih => intro x0; exact hb _ ih x0
def sa_jn2 {α : Type} {A0 A1 : Type} (k : A0 → A1 → sa_M α) (b : (A0 → A1 → sa_M α) → sa_M α) : sa_M α := b k
theorem sa_join2 {A0 A1 : Type} {k : A0 → A1 → sa_M α} {b : (A0 → A1 → sa_M α) → sa_M α} (pcJ : Nat) (lvJ : A0 → A1 → List (Nat × Value)) (stJ : A0 → A1 → List Value) (hk : ∀ (x0 : A0) (x1 : A1), sa_Sg p l e s m args below meth c nL d D ad cA A enc pcJ (lvJ x0 x1) (stJ x0 x1) (k x0 x1)) (hb : ∀ j : A0 → A1 → sa_M α, (∀ (x0 : A0) (x1 : A1), sa_Sg p l e s m args below meth c nL d D ad cA A enc pcJ (lvJ x0 x1) (stJ x0 x1) (j x0 x1)) → sa_Sg p l e s m args below meth c nL d D ad cA A enc pc lv st (b j)) : sa_Sg p l e s m args below meth c nL d D ad cA A enc pc lv st (sa_jn2 k b) := hb k hk
def sa_wh2 {α : Type} {A0 A1 : Type} (b : (A0 → A1 → sa_M α) → A0 → A1 → sa_M α) : Nat → A0 → A1 → sa_M α
  | 0, _, _ => fun _ => none
  | n + 1, x0, x1 => b (sa_wh2 b n) x0 x1
theorem sa_loop2 {A0 A1 : Type} {b : (A0 → A1 → sa_M α) → A0 → A1 → sa_M α} (lvJ : A0 → A1 → List (Nat × Value)) (stJ : A0 → A1 → List Value) (hb : ∀ j : A0 → A1 → sa_M α, (∀ (x0 : A0) (x1 : A1), sa_Sg p l e s m args below meth c nL d D ad cA A enc pc (lvJ x0 x1) (stJ x0 x1) (j x0 x1)) → ∀ (x0 : A0) (x1 : A1), sa_Sg p l e s m args below meth c nL d D ad cA A enc pc (lvJ x0 x1) (stJ x0 x1) (b j x0 x1)) : ∀ (n : Nat) (x0 : A0) (x1 : A1), sa_Sg p l e s m args below meth c nL d D ad cA A enc pc (lvJ x0 x1) (stJ x0 x1) (sa_wh2 b n x0 x1) := by
  intro n
  induction n with
  | zero => intro x0 x1 σ r τ hf; cases hf
  | succ n ih => intro x0 x1; exact hb _ ih x0 x1
def sa_jn3 {α : Type} {A0 A1 A2 : Type} (k : A0 → A1 → A2 → sa_M α) (b : (A0 → A1 → A2 → sa_M α) → sa_M α) : sa_M α := b k
theorem sa_join3 {A0 A1 A2 : Type} {k : A0 → A1 → A2 → sa_M α} {b : (A0 → A1 → A2 → sa_M α) → sa_M α} (pcJ : Nat) (lvJ : A0 → A1 → A2 → List (Nat × Value)) (stJ : A0 → A1 → A2 → List Value) (hk : ∀ (x0 : A0) (x1 : A1) (x2 : A2), sa_Sg p l e s m args below meth c nL d D ad cA A enc pcJ (lvJ x0 x1 x2) (stJ x0 x1 x2) (k x0 x1 x2)) (hb : ∀ j : A0 → A1 → A2 → sa_M α, (∀ (x0 : A0) (x1 : A1) (x2 : A2), sa_Sg p l e s m args below meth c nL d D ad cA A enc pcJ (lvJ x0 x1 x2) (stJ x0 x1 x2) (j x0 x1 x2)) → sa_Sg p l e s m args below meth c nL d D ad cA A enc pc lv st (b j)) : sa_Sg p l e s m args below meth c nL d D ad cA A enc pc lv st (sa_jn3 k b) := hb k hk
def sa_wh3 {α : Type} {A0 A1 A2 : Type} (b : (A0 → A1 → A2 → sa_M α) → A0 → A1 → A2 → sa_M α) : Nat → A0 → A1 → A2 → sa_M α
  | 0, _, _, _ => fun _ => none
  | n + 1, x0, x1, x2 => b (sa_wh3 b n) x0 x1 x2
theorem sa_loop3 {A0 A1 A2 : Type} {b : (A0 → A1 → A2 → sa_M α) → A0 → A1 → A2 → sa_M α} (lvJ : A0 → A1 → A2 → List (Nat × Value)) (stJ : A0 → A1 → A2 → List Value) (hb : ∀ j : A0 → A1 → A2 → sa_M α, (∀ (x0 : A0) (x1 : A1) (x2 : A2), sa_Sg p l e s m args below meth c nL d D ad cA A enc pc (lvJ x0 x1 x2) (stJ x0 x1 x2) (j x0 x1 x2)) → ∀ (x0 : A0) (x1 : A1) (x2 : A2), sa_Sg p l e s m args below meth c nL d D ad cA A enc pc (lvJ x0 x1 x2) (stJ x0 x1 x2) (b j x0 x1 x2)) : ∀ (n : Nat) (x0 : A0) (x1 : A1) (x2 : A2), sa_Sg p l e s m args below meth c nL d D ad cA A enc pc (lvJ x0 x1 x2) (stJ x0 x1 x2) (sa_wh3 b n x0 x1 x2) := by
  intro n
  induction n with
  | zero => intro x0 x1 x2 σ r τ hf; cases hf
  | succ n ih => intro x0 x1 x2; exact hb _ ih x0 x1 x2
def sa_jn4 {α : Type} {A0 A1 A2 A3 : Type} (k : A0 → A1 → A2 → A3 → sa_M α) (b : (A0 → A1 → A2 → A3 → sa_M α) → sa_M α) : sa_M α := b k
theorem sa_join4 {A0 A1 A2 A3 : Type} {k : A0 → A1 → A2 → A3 → sa_M α} {b : (A0 → A1 → A2 → A3 → sa_M α) → sa_M α} (pcJ : Nat) (lvJ : A0 → A1 → A2 → A3 → List (Nat × Value)) (stJ : A0 → A1 → A2 → A3 → List Value) (hk : ∀ (x0 : A0) (x1 : A1) (x2 : A2) (x3 : A3), sa_Sg p l e s m args below meth c nL d D ad cA A enc pcJ (lvJ x0 x1 x2 x3) (stJ x0 x1 x2 x3) (k x0 x1 x2 x3)) (hb : ∀ j : A0 → A1 → A2 → A3 → sa_M α, (∀ (x0 : A0) (x1 : A1) (x2 : A2) (x3 : A3), sa_Sg p l e s m args below meth c nL d D ad cA A enc pcJ (lvJ x0 x1 x2 x3) (stJ x0 x1 x2 x3) (j x0 x1 x2 x3)) → sa_Sg p l e s m args below meth c nL d D ad cA A enc pc lv st (b j)) : sa_Sg p l e s m args below meth c nL d D ad cA A enc pc lv st (sa_jn4 k b) := hb k hk
def sa_wh4 {α : Type} {A0 A1 A2 A3 : Type} (b : (A0 → A1 → A2 → A3 → sa_M α) → A0 → A1 → A2 → A3 → sa_M α) : Nat → A0 → A1 → A2 → A3 → sa_M α
  | 0, _, _, _, _ => fun _ => none
  | n + 1, x0, x1, x2, x3 => b (sa_wh4 b n) x0 x1 x2 x3
theorem sa_loop4 {A0 A1 A2 A3 : Type} {b : (A0 → A1 → A2 → A3 → sa_M α) → A0 → A1 → A2 → A3 → sa_M α} (lvJ : A0 → A1 → A2 → A3 → List (Nat × Value)) (stJ : A0 → A1 → A2 → A3 → List Value) (hb : ∀ j : A0 → A1 → A2 → A3 → sa_M α, (∀ (x0 : A0) (x1 : A1) (x2 : A2) (x3 : A3), sa_Sg p l e s m args below meth c nL d D ad cA A enc pc (lvJ x0 x1 x2 x3) (stJ x0 x1 x2 x3) (j x0 x1 x2 x3)) → ∀ (x0 : A0) (x1 : A1) (x2 : A2) (x3 : A3), sa_Sg p l e s m args below meth c nL d D ad cA A enc pc (lvJ x0 x1 x2 x3) (stJ x0 x1 x2 x3) (b j x0 x1 x2 x3)) : ∀ (n : Nat) (x0 : A0) (x1 : A1) (x2 : A2) (x3 : A3), sa_Sg p l e s m args below meth c nL d D ad cA A enc pc (lvJ x0 x1 x2 x3) (stJ x0 x1 x2 x3) (sa_wh4 b n x0 x1 x2 x3) := by
  intro n
  induction n with
  | zero => intro x0 x1 x2 x3 σ r τ hf; cases hf
  | succ n ih => intro x0 x1 x2 x3; exact hb _ ih x0 x1 x2 x3
def sa_jn5 {α : Type} {A0 A1 A2 A3 A4 : Type} (k : A0 → A1 → A2 → A3 → A4 → sa_M α) (b : (A0 → A1 → A2 → A3 → A4 → sa_M α) → sa_M α) : sa_M α := b k
theorem sa_join5 {A0 A1 A2 A3 A4 : Type} {k : A0 → A1 → A2 → A3 → A4 → sa_M α} {b : (A0 → A1 → A2 → A3 → A4 → sa_M α) → sa_M α} (pcJ : Nat) (lvJ : A0 → A1 → A2 → A3 → A4 → List (Nat × Value)) (stJ : A0 → A1 → A2 → A3 → A4 → List Value) (hk : ∀ (x0 : A0) (x1 : A1) (x2 : A2) (x3 : A3) (x4 : A4), sa_Sg p l e s m args below meth c nL d D ad cA A enc pcJ (lvJ x0 x1 x2 x3 x4) (stJ x0 x1 x2 x3 x4) (k x0 x1 x2 x3 x4)) (hb : ∀ j : A0 → A1 → A2 → A3 → A4 → sa_M α, (∀ (x0 : A0) (x1 : A1) (x2 : A2) (x3 : A3) (x4 : A4), sa_Sg p l e s m args below meth c nL d D ad cA A enc pcJ (lvJ x0 x1 x2 x3 x4) (stJ x0 x1 x2 x3 x4) (j x0 x1 x2 x3 x4)) → sa_Sg p l e s m args below meth c nL d D ad cA A enc pc lv st (b j)) : sa_Sg p l e s m args below meth c nL d D ad cA A enc pc lv st (sa_jn5 k b) := hb k hk
def sa_wh5 {α : Type} {A0 A1 A2 A3 A4 : Type} (b : (A0 → A1 → A2 → A3 → A4 → sa_M α) → A0 → A1 → A2 → A3 → A4 → sa_M α) : Nat → A0 → A1 → A2 → A3 → A4 → sa_M α
  | 0, _, _, _, _, _ => fun _ => none
  | n + 1, x0, x1, x2, x3, x4 => b (sa_wh5 b n) x0 x1 x2 x3 x4
theorem sa_loop5 {A0 A1 A2 A3 A4 : Type} {b : (A0 → A1 → A2 → A3 → A4 → sa_M α) → A0 → A1 → A2 → A3 → A4 → sa_M α} (lvJ : A0 → A1 → A2 → A3 → A4 → List (Nat × Value)) (stJ : A0 → A1 → A2 → A3 → A4 → List Value) (hb : ∀ j : A0 → A1 → A2 → A3 → A4 → sa_M α, (∀ (x0 : A0) (x1 : A1) (x2 : A2) (x3 : A3) (x4 : A4), sa_Sg p l e s m args below meth c nL d D ad cA A enc pc (lvJ x0 x1 x2 x3 x4) (stJ x0 x1 x2 x3 x4) (j x0 x1 x2 x3 x4)) → ∀ (x0 : A0) (x1 : A1) (x2 : A2) (x3 : A3) (x4 : A4), sa_Sg p l e s m args below meth c nL d D ad cA A enc pc (lvJ x0 x1 x2 x3 x4) (stJ x0 x1 x2 x3 x4) (b j x0 x1 x2 x3 x4)) : ∀ (n : Nat) (x0 : A0) (x1 : A1) (x2 : A2) (x3 : A3) (x4 : A4), sa_Sg p l e s m args below meth c nL d D ad cA A enc pc (lvJ x0 x1 x2 x3 x4) (stJ x0 x1 x2 x3 x4) (sa_wh5 b n x0 x1 x2 x3 x4) := by
  intro n
  induction n with
  | zero => intro x0 x1 x2 x3 x4 σ r τ hf; cases hf
  | succ n ih => intro x0 x1 x2 x3 x4; exact hb _ ih x0 x1 x2 x3 x4
def sa_jn6 {α : Type} {A0 A1 A2 A3 A4 A5 : Type} (k : A0 → A1 → A2 → A3 → A4 → A5 → sa_M α) (b : (A0 → A1 → A2 → A3 → A4 → A5 → sa_M α) → sa_M α) : sa_M α := b k
theorem sa_join6 {A0 A1 A2 A3 A4 A5 : Type} {k : A0 → A1 → A2 → A3 → A4 → A5 → sa_M α} {b : (A0 → A1 → A2 → A3 → A4 → A5 → sa_M α) → sa_M α} (pcJ : Nat) (lvJ : A0 → A1 → A2 → A3 → A4 → A5 → List (Nat × Value)) (stJ : A0 → A1 → A2 → A3 → A4 → A5 → List Value) (hk : ∀ (x0 : A0) (x1 : A1) (x2 : A2) (x3 : A3) (x4 : A4) (x5 : A5), sa_Sg p l e s m args below meth c nL d D ad cA A enc pcJ (lvJ x0 x1 x2 x3 x4 x5) (stJ x0 x1 x2 x3 x4 x5) (k x0 x1 x2 x3 x4 x5)) (hb : ∀ j : A0 → A1 → A2 → A3 → A4 → A5 → sa_M α, (∀ (x0 : A0) (x1 : A1) (x2 : A2) (x3 : A3) (x4 : A4) (x5 : A5), sa_Sg p l e s m args below meth c nL d D ad cA A enc pcJ (lvJ x0 x1 x2 x3 x4 x5) (stJ x0 x1 x2 x3 x4 x5) (j x0 x1 x2 x3 x4 x5)) → sa_Sg p l e s m args below meth c nL d D ad cA A enc pc lv st (b j)) : sa_Sg p l e s m args below meth c nL d D ad cA A enc pc lv st (sa_jn6 k b) := hb k hk
def sa_wh6 {α : Type} {A0 A1 A2 A3 A4 A5 : Type} (b : (A0 → A1 → A2 → A3 → A4 → A5 → sa_M α) → A0 → A1 → A2 → A3 → A4 → A5 → sa_M α) : Nat → A0 → A1 → A2 → A3 → A4 → A5 → sa_M α
  | 0, _, _, _, _, _, _ => fun _ => none
  | n + 1, x0, x1, x2, x3, x4, x5 => b (sa_wh6 b n) x0 x1 x2 x3 x4 x5
theorem sa_loop6 {A0 A1 A2 A3 A4 A5 : Type} {b : (A0 → A1 → A2 → A3 → A4 → A5 → sa_M α) → A0 → A1 → A2 → A3 → A4 → A5 → sa_M α} (lvJ : A0 → A1 → A2 → A3 → A4 → A5 → List (Nat × Value)) (stJ : A0 → A1 → A2 → A3 → A4 → A5 → List Value) (hb : ∀ j : A0 → A1 → A2 → A3 → A4 → A5 → sa_M α, (∀ (x0 : A0) (x1 : A1) (x2 : A2) (x3 : A3) (x4 : A4) (x5 : A5), sa_Sg p l e s m args below meth c nL d D ad cA A enc pc (lvJ x0 x1 x2 x3 x4 x5) (stJ x0 x1 x2 x3 x4 x5) (j x0 x1 x2 x3 x4 x5)) → ∀ (x0 : A0) (x1 : A1) (x2 : A2) (x3 : A3) (x4 : A4) (x5 : A5), sa_Sg p l e s m args below meth c nL d D ad cA A enc pc (lvJ x0 x1 x2 x3 x4 x5) (stJ x0 x1 x2 x3 x4 x5) (b j x0 x1 x2 x3 x4 x5)) : ∀ (n : Nat) (x0 : A0) (x1 : A1) (x2 : A2) (x3 : A3) (x4 : A4) (x5 : A5), sa_Sg p l e s m args below meth c nL d D ad cA A enc pc (lvJ x0 x1 x2 x3 x4 x5) (stJ x0 x1 x2 x3 x4 x5) (sa_wh6 b n x0 x1 x2 x3 x4 x5) := by
  intro n
  induction n with
  | zero => intro x0 x1 x2 x3 x4 x5 σ r τ hf; cases hf
  | succ n ih => intro x0 x1 x2 x3 x4 x5; exact hb _ ih x0 x1 x2 x3 x4 x5
def sa_jn7 {α : Type} {A0 A1 A2 A3 A4 A5 A6 : Type} (k : A0 → A1 → A2 → A3 → A4 → A5 → A6 → sa_M α) (b : (A0 → A1 → A2 → A3 → A4 → A5 → A6 → sa_M α) → sa_M α) : sa_M α := b k
theorem sa_join7 {A0 A1 A2 A3 A4 A5 A6 : Type} {k : A0 → A1 → A2 → A3 → A4 → A5 → A6 → sa_M α} {b : (A0 → A1 → A2 → A3 → A4 → A5 → A6 → sa_M α) → sa_M α} (pcJ : Nat) (lvJ : A0 → A1 → A2 → A3 → A4 → A5 → A6 → List (Nat × Value)) (stJ : A0 → A1 → A2 → A3 → A4 → A5 → A6 → List Value) (hk : ∀ (x0 : A0) (x1 : A1) (x2 : A2) (x3 : A3) (x4 : A4) (x5 : A5) (x6 : A6), sa_Sg p l e s m args below meth c nL d D ad cA A enc pcJ (lvJ x0 x1 x2 x3 x4 x5 x6) (stJ x0 x1 x2 x3 x4 x5 x6) (k x0 x1 x2 x3 x4 x5 x6)) (hb : ∀ j : A0 → A1 → A2 → A3 → A4 → A5 → A6 → sa_M α, (∀ (x0 : A0) (x1 : A1) (x2 : A2) (x3 : A3) (x4 : A4) (x5 : A5) (x6 : A6), sa_Sg p l e s m args below meth c nL d D ad cA A enc pcJ (lvJ x0 x1 x2 x3 x4 x5 x6) (stJ x0 x1 x2 x3 x4 x5 x6) (j x0 x1 x2 x3 x4 x5 x6)) → sa_Sg p l e s m args below meth c nL d D ad cA A enc pc lv st (b j)) : sa_Sg p l e s m args below meth c nL d D ad cA A enc pc lv st (sa_jn7 k b) := hb k hk
def sa_wh7 {α : Type} {A0 A1 A2 A3 A4 A5 A6 : Type} (b : (A0 → A1 → A2 → A3 → A4 → A5 → A6 → sa_M α) → A0 → A1 → A2 → A3 → A4 → A5 → A6 → sa_M α) : Nat → A0 → A1 → A2 → A3 → A4 → A5 → A6 → sa_M α
  | 0, _, _, _, _, _, _, _ => fun _ => none
  | n + 1, x0, x1, x2, x3, x4, x5, x6 => b (sa_wh7 b n) x0 x1 x2 x3 x4 x5 x6
theorem sa_loop7 {A0 A1 A2 A3 A4 A5 A6 : Type} {b : (A0 → A1 → A2 → A3 → A4 → A5 → A6 → sa_M α) → A0 → A1 → A2 → A3 → A4 → A5 → A6 → sa_M α} (lvJ : A0 → A1 → A2 → A3 → A4 → A5 → A6 → List (Nat × Value)) (stJ : A0 → A1 → A2 → A3 → A4 → A5 → A6 → List Value) (hb : ∀ j : A0 → A1 → A2 → A3 → A4 → A5 → A6 → sa_M α, (∀ (x0 : A0) (x1 : A1) (x2 : A2) (x3 : A3) (x4 : A4) (x5 : A5) (x6 : A6), sa_Sg p l e s m args below meth c nL d D ad cA A enc pc (lvJ x0 x1 x2 x3 x4 x5 x6) (stJ x0 x1 x2 x3 x4 x5 x6) (j x0 x1 x2 x3 x4 x5 x6)) → ∀ (x0 : A0) (x1 : A1) (x2 : A2) (x3 : A3) (x4 : A4) (x5 : A5) (x6 : A6), sa_Sg p l e s m args below meth c nL d D ad cA A enc pc (lvJ x0 x1 x2 x3 x4 x5 x6) (stJ x0 x1 x2 x3 x4 x5 x6) (b j x0 x1 x2 x3 x4 x5 x6)) : ∀ (n : Nat) (x0 : A0) (x1 : A1) (x2 : A2) (x3 : A3) (x4 : A4) (x5 : A5) (x6 : A6), sa_Sg p l e s m args below meth c nL d D ad cA A enc pc (lvJ x0 x1 x2 x3 x4 x5 x6) (stJ x0 x1 x2 x3 x4 x5 x6) (sa_wh7 b n x0 x1 x2 x3 x4 x5 x6) := by
  intro n
  induction n with
  | zero => intro x0 x1 x2 x3 x4 x5 x6 σ r τ hf; cases hf
  | succ n ih => intro x0 x1 x2 x3 x4 x5 x6; exact hb _ ih x0 x1 x2 x3 x4 x5 x6
def sa_jn8 {α : Type} {A0 A1 A2 A3 A4 A5 A6 A7 : Type} (k : A0 → A1 → A2 → A3 → A4 → A5 → A6 → A7 → sa_M α) (b : (A0 → A1 → A2 → A3 → A4 → A5 → A6 → A7 → sa_M α) → sa_M α) : sa_M α := b k
theorem sa_join8 {A0 A1 A2 A3 A4 A5 A6 A7 : Type} {k : A0 → A1 → A2 → A3 → A4 → A5 → A6 → A7 → sa_M α} {b : (A0 → A1 → A2 → A3 → A4 → A5 → A6 → A7 → sa_M α) → sa_M α} (pcJ : Nat) (lvJ : A0 → A1 → A2 → A3 → A4 → A5 → A6 → A7 → List (Nat × Value)) (stJ : A0 → A1 → A2 → A3 → A4 → A5 → A6 → A7 → List Value) (hk : ∀ (x0 : A0) (x1 : A1) (x2 : A2) (x3 : A3) (x4 : A4) (x5 : A5) (x6 : A6) (x7 : A7), sa_Sg p l e s m args below meth c nL d D ad cA A enc pcJ (lvJ x0 x1 x2 x3 x4 x5 x6 x7) (stJ x0 x1 x2 x3 x4 x5 x6 x7) (k x0 x1 x2 x3 x4 x5 x6 x7)) (hb : ∀ j : A0 → A1 → A2 → A3 → A4 → A5 → A6 → A7 → sa_M α, (∀ (x0 : A0) (x1 : A1) (x2 : A2) (x3 : A3) (x4 : A4) (x5 : A5) (x6 : A6) (x7 : A7), sa_Sg p l e s m args below meth c nL d D ad cA A enc pcJ (lvJ x0 x1 x2 x3 x4 x5 x6 x7) (stJ x0 x1 x2 x3 x4 x5 x6 x7) (j x0 x1 x2 x3 x4 x5 x6 x7)) → sa_Sg p l e s m args below meth c nL d D ad cA A enc pc lv st (b j)) : sa_Sg p l e s m args below meth c nL d D ad cA A enc pc lv st (sa_jn8 k b) := hb k hk
def sa_wh8 {α : Type} {A0 A1 A2 A3 A4 A5 A6 A7 : Type} (b : (A0 → A1 → A2 → A3 → A4 → A5 → A6 → A7 → sa_M α) → A0 → A1 → A2 → A3 → A4 → A5 → A6 → A7 → sa_M α) : Nat → A0 → A1 → A2 → A3 → A4 → A5 → A6 → A7 → sa_M α
  | 0, _, _, _, _, _, _, _, _ => fun _ => none
  | n + 1, x0, x1, x2, x3, x4, x5, x6, x7 => b (sa_wh8 b n) x0 x1 x2 x3 x4 x5 x6 x7
theorem sa_loop8 {A0 A1 A2 A3 A4 A5 A6 A7 : Type} {b : (A0 → A1 → A2 → A3 → A4 → A5 → A6 → A7 → sa_M α) → A0 → A1 → A2 → A3 → A4 → A5 → A6 → A7 → sa_M α} (lvJ : A0 → A1 → A2 → A3 → A4 → A5 → A6 → A7 → List (Nat × Value)) (stJ : A0 → A1 → A2 → A3 → A4 → A5 → A6 → A7 → List Value) (hb : ∀ j : A0 → A1 → A2 → A3 → A4 → A5 → A6 → A7 → sa_M α, (∀ (x0 : A0) (x1 : A1) (x2 : A2) (x3 : A3) (x4 : A4) (x5 : A5) (x6 : A6) (x7 : A7), sa_Sg p l e s m args below meth c nL d D ad cA A enc pc (lvJ x0 x1 x2 x3 x4 x5 x6 x7) (stJ x0 x1 x2 x3 x4 x5 x6 x7) (j x0 x1 x2 x3 x4 x5 x6 x7)) → ∀ (x0 : A0) (x1 : A1) (x2 : A2) (x3 : A3) (x4 : A4) (x5 : A5) (x6 : A6) (x7 : A7), sa_Sg p l e s m args below meth c nL d D ad cA A enc pc (lvJ x0 x1 x2 x3 x4 x5 x6 x7) (stJ x0 x1 x2 x3 x4 x5 x6 x7) (b j x0 x1 x2 x3 x4 x5 x6 x7)) : ∀ (n : Nat) (x0 : A0) (x1 : A1) (x2 : A2) (x3 : A3) (x4 : A4) (x5 : A5) (x6 : A6) (x7 : A7), sa_Sg p l e s m args below meth c nL d D ad cA A enc pc (lvJ x0 x1 x2 x3 x4 x5 x6 x7) (stJ x0 x1 x2 x3 x4 x5 x6 x7) (sa_wh8 b n x0 x1 x2 x3 x4 x5 x6 x7) := by
  intro n
  induction n with
  | zero => intro x0 x1 x2 x3 x4 x5 x6 x7 σ r τ hf; cases hf
  | succ n ih => intro x0 x1 x2 x3 x4 x5 x6 x7; exact hb _ ih x0 x1 x2 x3 x4 x5 x6 x7
def sa_jn9 {α : Type} {A0 A1 A2 A3 A4 A5 A6 A7 A8 : Type} (k : A0 → A1 → A2 → A3 → A4 → A5 → A6 → A7 → A8 → sa_M α) (b : (A0 → A1 → A2 → A3 → A4 → A5 → A6 → A7 → A8 → sa_M α) → sa_M α) : sa_M α := b k
theorem sa_join9 {A0 A1 A2 A3 A4 A5 A6 A7 A8 : Type} {k : A0 → A1 → A2 → A3 → A4 → A5 → A6 → A7 → A8 → sa_M α} {b : (A0 → A1 → A2 → A3 → A4 → A5 → A6 → A7 → A8 → sa_M α) → sa_M α} (pcJ : Nat) (lvJ : A0 → A1 → A2 → A3 → A4 → A5 → A6 → A7 → A8 → List (Nat × Value)) (stJ : A0 → A1 → A2 → A3 → A4 → A5 → A6 → A7 → A8 → List Value) (hk : ∀ (x0 : A0) (x1 : A1) (x2 : A2) (x3 : A3) (x4 : A4) (x5 : A5) (x6 : A6) (x7 : A7) (x8 : A8), sa_Sg p l e s m args below meth c nL d D ad cA A enc pcJ (lvJ x0 x1 x2 x3 x4 x5 x6 x7 x8) (stJ x0 x1 x2 x3 x4 x5 x6 x7 x8) (k x0 x1 x2 x3 x4 x5 x6 x7 x8)) (hb : ∀ j : A0 → A1 → A2 → A3 → A4 → A5 → A6 → A7 → A8 → sa_M α, (∀ (x0 : A0) (x1 : A1) (x2 : A2) (x3 : A3) (x4 : A4) (x5 : A5) (x6 : A6) (x7 : A7) (x8 : A8), sa_Sg p l e s m args below meth c nL d D ad cA A enc pcJ (lvJ x0 x1 x2 x3 x4 x5 x6 x7 x8) (stJ x0 x1 x2 x3 x4 x5 x6 x7 x8) (j x0 x1 x2 x3 x4 x5 x6 x7 x8)) → sa_Sg p l e s m args below meth c nL d D ad cA A enc pc lv st (b j)) : sa_Sg p l e s m args below meth c nL d D ad cA A enc pc lv st (sa_jn9 k b) := hb k hk
def sa_wh9 {α : Type} {A0 A1 A2 A3 A4 A5 A6 A7 A8 : Type} (b : (A0 → A1 → A2 → A3 → A4 → A5 → A6 → A7 → A8 → sa_M α) → A0 → A1 → A2 → A3 → A4 → A5 → A6 → A7 → A8 → sa_M α) : Nat → A0 → A1 → A2 → A3 → A4 → A5 → A6 → A7 → A8 → sa_M α
  | 0, _, _, _, _, _, _, _, _, _ => fun _ => none
  | n + 1, x0, x1, x2, x3, x4, x5, x6, x7, x8 => b (sa_wh9 b n) x0 x1 x2 x3 x4 x5 x6 x7 x8
theorem sa_loop9 {A0 A1 A2 A3 A4 A5 A6 A7 A8 : Type} {b : (A0 → A1 → A2 → A3 → A4 → A5 → A6 → A7 → A8 → sa_M α) → A0 → A1 → A2 → A3 → A4 → A5 → A6 → A7 → A8 → sa_M α} (lvJ : A0 → A1 → A2 → A3 → A4 → A5 → A6 → A7 → A8 → List (Nat × Value)) (stJ : A0 → A1 → A2 → A3 → A4 → A5 → A6 → A7 → A8 → List Value) (hb : ∀ j : A0 → A1 → A2 → A3 → A4 → A5 → A6 → A7 → A8 → sa_M α, (∀ (x0 : A0) (x1 : A1) (x2 : A2) (x3 : A3) (x4 : A4) (x5 : A5) (x6 : A6) (x7 : A7) (x8 : A8), sa_Sg p l e s m args below meth c nL d D ad cA A enc pc (lvJ x0 x1 x2 x3 x4 x5 x6 x7 x8) (stJ x0 x1 x2 x3 x4 x5 x6 x7 x8) (j x0 x1 x2 x3 x4 x5 x6 x7 x8)) → ∀ (x0 : A0) (x1 : A1) (x2 : A2) (x3 : A3) (x4 : A4) (x5 : A5) (x6 : A6) (x7 : A7) (x8 : A8), sa_Sg p l e s m args below meth c nL d D ad cA A enc pc (lvJ x0 x1 x2 x3 x4 x5 x6 x7 x8) (stJ x0 x1 x2 x3 x4 x5 x6 x7 x8) (b j x0 x1 x2 x3 x4 x5 x6 x7 x8)) : ∀ (n : Nat) (x0 : A0) (x1 : A1) (x2 : A2) (x3 : A3) (x4 : A4) (x5 : A5) (x6 : A6) (x7 : A7) (x8 : A8), sa_Sg p l e s m args below meth c nL d D ad cA A enc pc (lvJ x0 x1 x2 x3 x4 x5 x6 x7 x8) (stJ x0 x1 x2 x3 x4 x5 x6 x7 x8) (sa_wh9 b n x0 x1 x2 x3 x4 x5 x6 x7 x8) := by
  intro n
  induction n with
  | zero => intro x0 x1 x2 x3 x4 x5 x6 x7 x8 σ r τ hf; cases hf
  | succ n ih => intro x0 x1 x2 x3 x4 x5 x6 x7 x8; exact hb _ ih x0 x1 x2 x3 x4 x5 x6 x7 x8
def sa_jn10 {α : Type} {A0 A1 A2 A3 A4 A5 A6 A7 A8 A9 : Type} (k : A0 → A1 → A2 → A3 → A4 → A5 → A6 → A7 → A8 → A9 → sa_M α) (b : (A0 → A1 → A2 → A3 → A4 → A5 → A6 → A7 → A8 → A9 → sa_M α) → sa_M α) : sa_M α := b k
theorem sa_join10 {A0 A1 A2 A3 A4 A5 A6 A7 A8 A9 : Type} {k : A0 → A1 → A2 → A3 → A4 → A5 → A6 → A7 → A8 → A9 → sa_M α} {b : (A0 → A1 → A2 → A3 → A4 → A5 → A6 → A7 → A8 → A9 → sa_M α) → sa_M α} (pcJ : Nat) (lvJ : A0 → A1 → A2 → A3 → A4 → A5 → A6 → A7 → A8 → A9 → List (Nat × Value)) (stJ : A0 → A1 → A2 → A3 → A4 → A5 → A6 → A7 → A8 → A9 → List Value) (hk : ∀ (x0 : A0) (x1 : A1) (x2 : A2) (x3 : A3) (x4 : A4) (x5 : A5) (x6 : A6) (x7 : A7) (x8 : A8) (x9 : A9), sa_Sg p l e s m args below meth c nL d D ad cA A enc pcJ (lvJ x0 x1 x2 x3 x4 x5 x6 x7 x8 x9) (stJ x0 x1 x2 x3 x4 x5 x6 x7 x8 x9) (k x0 x1 x2 x3 x4 x5 x6 x7 x8 x9)) (hb : ∀ j : A0 → A1 → A2 → A3 → A4 → A5 → A6 → A7 → A8 → A9 → sa_M α, (∀ (x0 : A0) (x1 : A1) (x2 : A2) (x3 : A3) (x4 : A4) (x5 : A5) (x6 : A6) (x7 : A7) (x8 : A8) (x9 : A9), sa_Sg p l e s m args below meth c nL d D ad cA A enc pcJ (lvJ x0 x1 x2 x3 x4 x5 x6 x7 x8 x9) (stJ x0 x1 x2 x3 x4 x5 x6 x7 x8 x9) (j x0 x1 x2 x3 x4 x5 x6 x7 x8 x9)) → sa_Sg p l e s m args below meth c nL d D ad cA A enc pc lv st (b j)) : sa_Sg p l e s m args below meth c nL d D ad cA A enc pc lv st (sa_jn10 k b) := hb k hk
def sa_wh10 {α : Type} {A0 A1 A2 A3 A4 A5 A6 A7 A8 A9 : Type} (b : (A0 → A1 → A2 → A3 → A4 → A5 → A6 → A7 → A8 → A9 → sa_M α) → A0 → A1 → A2 → A3 → A4 → A5 → A6 → A7 → A8 → A9 → sa_M α) : Nat → A0 → A1 → A2 → A3 → A4 → A5 → A6 → A7 → A8 → A9 → sa_M α
  | 0, _, _, _, _, _, _, _, _, _, _ => fun _ => none
  | n + 1, x0, x1, x2, x3, x4, x5, x6, x7, x8, x9 => b (sa_wh10 b n) x0 x1 x2 x3 x4 x5 x6 x7 x8 x9
theorem sa_loop10 {A0 A1 A2 A3 A4 A5 A6 A7 A8 A9 : Type} {b : (A0 → A1 → A2 → A3 → A4 → A5 → A6 → A7 → A8 → A9 → sa_M α) → A0 → A1 → A2 → A3 → A4 → A5 → A6 → A7 → A8 → A9 → sa_M α} (lvJ : A0 → A1 → A2 → A3 → A4 → A5 → A6 → A7 → A8 → A9 → List (Nat × Value)) (stJ : A0 → A1 → A2 → A3 → A4 → A5 → A6 → A7 → A8 → A9 → List Value) (hb : ∀ j : A0 → A1 → A2 → A3 → A4 → A5 → A6 → A7 → A8 → A9 → sa_M α, (∀ (x0 : A0) (x1 : A1) (x2 : A2) (x3 : A3) (x4 : A4) (x5 : A5) (x6 : A6) (x7 : A7) (x8 : A8) (x9 : A9), sa_Sg p l e s m args below meth c nL d D ad cA A enc pc (lvJ x0 x1 x2 x3 x4 x5 x6 x7 x8 x9) (stJ x0 x1 x2 x3 x4 x5 x6 x7 x8 x9) (j x0 x1 x2 x3 x4 x5 x6 x7 x8 x9)) → ∀ (x0 : A0) (x1 : A1) (x2 : A2) (x3 : A3) (x4 : A4) (x5 : A5) (x6 : A6) (x7 : A7) (x8 : A8) (x9 : A9), sa_Sg p l e s m args below meth c nL d D ad cA A enc pc (lvJ x0 x1 x2 x3 x4 x5 x6 x7 x8 x9) (stJ x0 x1 x2 x3 x4 x5 x6 x7 x8 x9) (b j x0 x1 x2 x3 x4 x5 x6 x7 x8 x9)) : ∀ (n : Nat) (x0 : A0) (x1 : A1) (x2 : A2) (x3 : A3) (x4 : A4) (x5 : A5) (x6 : A6) (x7 : A7) (x8 : A8) (x9 : A9), sa_Sg p l e s m args below meth c nL d D ad cA A enc pc (lvJ x0 x1 x2 x3 x4 x5 x6 x7 x8 x9) (stJ x0 x1 x2 x3 x4 x5 x6 x7 x8 x9) (sa_wh10 b n x0 x1 x2 x3 x4 x5 x6 x7 x8 x9) := by
  intro n
  induction n with
  | zero => intro x0 x1 x2 x3 x4 x5 x6 x7 x8 x9 σ r τ hf; cases hf
  | succ n ih => intro x0 x1 x2 x3 x4 x5 x6 x7 x8 x9; exact hb _ ih x0 x1 x2 x3 x4 x5 x6 x7 x8 x9
def sa_jn11 {α : Type} {A0 A1 A2 A3 A4 A5 A6 A7 A8 A9 A10 : Type} (k : A0 → A1 → A2 → A3 → A4 → A5 → A6 → A7 → A8 → A9 → A10 → sa_M α) (b : (A0 → A1 → A2 → A3 → A4 → A5 → A6 → A7 → A8 → A9 → A10 → sa_M α) → sa_M α) : sa_M α := b k
theorem sa_join11 {A0 A1 A2 A3 A4 A5 A6 A7 A8 A9 A10 : Type} {k : A0 → A1 → A2 → A3 → A4 → A5 → A6 → A7 → A8 → A9 → A10 → sa_M α} {b : (A0 → A1 → A2 → A3 → A4 → A5 → A6 → A7 → A8 → A9 → A10 → sa_M α) → sa_M α} (pcJ : Nat) (lvJ : A0 → A1 → A2 → A3 → A4 → A5 → A6 → A7 → A8 → A9 → A10 → List (Nat × Value)) (stJ : A0 → A1 → A2 → A3 → A4 → A5 → A6 → A7 → A8 → A9 → A10 → List Value) (hk : ∀ (x0 : A0) (x1 : A1) (x2 : A2) (x3 : A3) (x4 : A4) (x5 : A5) (x6 : A6) (x7 : A7) (x8 : A8) (x9 : A9) (x10 : A10), sa_Sg p l e s m args below meth c nL d D ad cA A enc pcJ (lvJ x0 x1 x2 x3 x4 x5 x6 x7 x8 x9 x10) (stJ x0 x1 x2 x3 x4 x5 x6 x7 x8 x9 x10) (k x0 x1 x2 x3 x4 x5 x6 x7 x8 x9 x10)) (hb : ∀ j : A0 → A1 → A2 → A3 → A4 → A5 → A6 → A7 → A8 → A9 → A10 → sa_M α, (∀ (x0 : A0) (x1 : A1) (x2 : A2) (x3 : A3) (x4 : A4) (x5 : A5) (x6 : A6) (x7 : A7) (x8 : A8) (x9 : A9) (x10 : A10), sa_Sg p l e s m args below meth c nL d D ad cA A enc pcJ (lvJ x0 x1 x2 x3 x4 x5 x6 x7 x8 x9 x10) (stJ x0 x1 x2 x3 x4 x5 x6 x7 x8 x9 x10) (j x0 x1 x2 x3 x4 x5 x6 x7 x8 x9 x10)) → sa_Sg p l e s m args below meth c nL d D ad cA A enc pc lv st (b j)) : sa_Sg p l e s m args below meth c nL d D ad cA A enc pc lv st (sa_jn11 k b) := hb k hk
def sa_wh11 {α : Type} {A0 A1 A2 A3 A4 A5 A6 A7 A8 A9 A10 : Type} (b : (A0 → A1 → A2 → A3 → A4 → A5 → A6 → A7 → A8 → A9 → A10 → sa_M α) → A0 → A1 → A2 → A3 → A4 → A5 → A6 → A7 → A8 → A9 → A10 → sa_M α) : Nat → A0 → A1 → A2 → A3 → A4 → A5 → A6 → A7 → A8 → A9 → A10 → sa_M α
  | 0, _, _, _, _, _, _, _, _, _, _, _ => fun _ => none
  | n + 1, x0, x1, x2, x3, x4, x5, x6, x7, x8, x9, x10 => b (sa_wh11 b n) x0 x1 x2 x3 x4 x5 x6 x7 x8 x9 x10
theorem sa_loop11 {A0 A1 A2 A3 A4 A5 A6 A7 A8 A9 A10 : Type} {b : (A0 → A1 → A2 → A3 → A4 → A5 → A6 → A7 → A8 → A9 → A10 → sa_M α) → A0 → A1 → A2 → A3 → A4 → A5 → A6 → A7 → A8 → A9 → A10 → sa_M α} (lvJ : A0 → A1 → A2 → A3 → A4 → A5 → A6 → A7 → A8 → A9 → A10 → List (Nat × Value)) (stJ : A0 → A1 → A2 → A3 → A4 → A5 → A6 → A7 → A8 → A9 → A10 → List Value) (hb : ∀ j : A0 → A1 → A2 → A3 → A4 → A5 → A6 → A7 → A8 → A9 → A10 → sa_M α, (∀ (x0 : A0) (x1 : A1) (x2 : A2) (x3 : A3) (x4 : A4) (x5 : A5) (x6 : A6) (x7 : A7) (x8 : A8) (x9 : A9) (x10 : A10), sa_Sg p l e s m args below meth c nL d D ad cA A enc pc (lvJ x0 x1 x2 x3 x4 x5 x6 x7 x8 x9 x10) (stJ x0 x1 x2 x3 x4 x5 x6 x7 x8 x9 x10) (j x0 x1 x2 x3 x4 x5 x6 x7 x8 x9 x10)) → ∀ (x0 : A0) (x1 : A1) (x2 : A2) (x3 : A3) (x4 : A4) (x5 : A5) (x6 : A6) (x7 : A7) (x8 : A8) (x9 : A9) (x10 : A10), sa_Sg p l e s m args below meth c nL d D ad cA A enc pc (lvJ x0 x1 x2 x3 x4 x5 x6 x7 x8 x9 x10) (stJ x0 x1 x2 x3 x4 x5 x6 x7 x8 x9 x10) (b j x0 x1 x2 x3 x4 x5 x6 x7 x8 x9 x10)) : ∀ (n : Nat) (x0 : A0) (x1 : A1) (x2 : A2) (x3 : A3) (x4 : A4) (x5 : A5) (x6 : A6) (x7 : A7) (x8 : A8) (x9 : A9) (x10 : A10), sa_Sg p l e s m args below meth c nL d D ad cA A enc pc (lvJ x0 x1 x2 x3 x4 x5 x6 x7 x8 x9 x10) (stJ x0 x1 x2 x3 x4 x5 x6 x7 x8 x9 x10) (sa_wh11 b n x0 x1 x2 x3 x4 x5 x6 x7 x8 x9 x10) := by
  intro n
  induction n with
  | zero => intro x0 x1 x2 x3 x4 x5 x6 x7 x8 x9 x10 σ r τ hf; cases hf
  | succ n ih => intro x0 x1 x2 x3 x4 x5 x6 x7 x8 x9 x10; exact hb _ ih x0 x1 x2 x3 x4 x5 x6 x7 x8 x9 x10
def sa_jn12 {α : Type} {A0 A1 A2 A3 A4 A5 A6 A7 A8 A9 A10 A11 : Type} (k : A0 → A1 → A2 → A3 → A4 → A5 → A6 → A7 → A8 → A9 → A10 → A11 → sa_M α) (b : (A0 → A1 → A2 → A3 → A4 → A5 → A6 → A7 → A8 → A9 → A10 → A11 → sa_M α) → sa_M α) : sa_M α := b k
theorem sa_join12 {A0 A1 A2 A3 A4 A5 A6 A7 A8 A9 A10 A11 : Type} {k : A0 → A1 → A2 → A3 → A4 → A5 → A6 → A7 → A8 → A9 → A10 → A11 → sa_M α} {b : (A0 → A1 → A2 → A3 → A4 → A5 → A6 → A7 → A8 → A9 → A10 → A11 → sa_M α) → sa_M α} (pcJ : Nat) (lvJ : A0 → A1 → A2 → A3 → A4 → A5 → A6 → A7 → A8 → A9 → A10 → A11 → List (Nat × Value)) (stJ : A0 → A1 → A2 → A3 → A4 → A5 → A6 → A7 → A8 → A9 → A10 → A11 → List Value) (hk : ∀ (x0 : A0) (x1 : A1) (x2 : A2) (x3 : A3) (x4 : A4) (x5 : A5) (x6 : A6) (x7 : A7) (x8 : A8) (x9 : A9) (x10 : A10) (x11 : A11), sa_Sg p l e s m args below meth c nL d D ad cA A enc pcJ (lvJ x0 x1 x2 x3 x4 x5 x6 x7 x8 x9 x10 x11) (stJ x0 x1 x2 x3 x4 x5 x6 x7 x8 x9 x10 x11) (k x0 x1 x2 x3 x4 x5 x6 x7 x8 x9 x10 x11)) (hb : ∀ j : A0 → A1 → A2 → A3 → A4 → A5 → A6 → A7 → A8 → A9 → A10 → A11 → sa_M α, (∀ (x0 : A0) (x1 : A1) (x2 : A2) (x3 : A3) (x4 : A4) (x5 : A5) (x6 : A6) (x7 : A7) (x8 : A8) (x9 : A9) (x10 : A10) (x11 : A11), sa_Sg p l e s m args below meth c nL d D ad cA A enc pcJ (lvJ x0 x1 x2 x3 x4 x5 x6 x7 x8 x9 x10 x11) (stJ x0 x1 x2 x3 x4 x5 x6 x7 x8 x9 x10 x11) (j x0 x1 x2 x3 x4 x5 x6 x7 x8 x9 x10 x11)) → sa_Sg p l e s m args below meth c nL d D ad cA A enc pc lv st (b j)) : sa_Sg p l e s m args below meth c nL d D ad cA A enc pc lv st (sa_jn12 k b) := hb k hk
def sa_wh12 {α : Type} {A0 A1 A2 A3 A4 A5 A6 A7 A8 A9 A10 A11 : Type} (b : (A0 → A1 → A2 → A3 → A4 → A5 → A6 → A7 → A8 → A9 → A10 → A11 → sa_M α) → A0 → A1 → A2 → A3 → A4 → A5 → A6 → A7 → A8 → A9 → A10 → A11 → sa_M α) : Nat → A0 → A1 → A2 → A3 → A4 → A5 → A6 → A7 → A8 → A9 → A10 → A11 → sa_M α
  | 0, _, _, _, _, _, _, _, _, _, _, _, _ => fun _ => none
  | n + 1, x0, x1, x2, x3, x4, x5, x6, x7, x8, x9, x10, x11 => b (sa_wh12 b n) x0 x1 x2 x3 x4 x5 x6 x7 x8 x9 x10 x11
theorem sa_loop12 {A0 A1 A2 A3 A4 A5 A6 A7 A8 A9 A10 A11 : Type} {b : (A0 → A1 → A2 → A3 → A4 → A5 → A6 → A7 → A8 → A9 → A10 → A11 → sa_M α) → A0 → A1 → A2 → A3 → A4 → A5 → A6 → A7 → A8 → A9 → A10 → A11 → sa_M α} (lvJ : A0 → A1 → A2 → A3 → A4 → A5 → A6 → A7 → A8 → A9 → A10 → A11 → List (Nat × Value)) (stJ : A0 → A1 → A2 → A3 → A4 → A5 → A6 → A7 → A8 → A9 → A10 → A11 → List Value) (hb : ∀ j : A0 → A1 → A2 → A3 → A4 → A5 → A6 → A7 → A8 → A9 → A10 → A11 → sa_M α, (∀ (x0 : A0) (x1 : A1) (x2 : A2) (x3 : A3) (x4 : A4) (x5 : A5) (x6 : A6) (x7 : A7) (x8 : A8) (x9 : A9) (x10 : A10) (x11 : A11), sa_Sg p l e s m args below meth c nL d D ad cA A enc pc (lvJ x0 x1 x2 x3 x4 x5 x6 x7 x8 x9 x10 x11) (stJ x0 x1 x2 x3 x4 x5 x6 x7 x8 x9 x10 x11) (j x0 x1 x2 x3 x4 x5 x6 x7 x8 x9 x10 x11)) → ∀ (x0 : A0) (x1 : A1) (x2 : A2) (x3 : A3) (x4 : A4) (x5 : A5) (x6 : A6) (x7 : A7) (x8 : A8) (x9 : A9) (x10 : A10) (x11 : A11), sa_Sg p l e s m args below meth c nL d D ad cA A enc pc (lvJ x0 x1 x2 x3 x4 x5 x6 x7 x8 x9 x10 x11) (stJ x0 x1 x2 x3 x4 x5 x6 x7 x8 x9 x10 x11) (b j x0 x1 x2 x3 x4 x5 x6 x7 x8 x9 x10 x11)) : ∀ (n : Nat) (x0 : A0) (x1 : A1) (x2 : A2) (x3 : A3) (x4 : A4) (x5 : A5) (x6 : A6) (x7 : A7) (x8 : A8) (x9 : A9) (x10 : A10) (x11 : A11), sa_Sg p l e s m args below meth c nL d D ad cA A enc pc (lvJ x0 x1 x2 x3 x4 x5 x6 x7 x8 x9 x10 x11) (stJ x0 x1 x2 x3 x4 x5 x6 x7 x8 x9 x10 x11) (sa_wh12 b n x0 x1 x2 x3 x4 x5 x6 x7 x8 x9 x10 x11) := by
  intro n
  induction n with
  | zero => intro x0 x1 x2 x3 x4 x5 x6 x7 x8 x9 x10 x11 σ r τ hf; cases hf
  | succ n ih => intro x0 x1 x2 x3 x4 x5 x6 x7 x8 x9 x10 x11; exact hb _ ih x0 x1 x2 x3 x4 x5 x6 x7 x8 x9 x10 x11
end SALOOP
