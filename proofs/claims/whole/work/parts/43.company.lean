def yL_company : MethodName := ⟨"SaltArmyLaw", "company", "(LSaltArmy;II[J)I"⟩
theorem d_X11_company_0 : decode cX11_company 0 = .ok (.aload_n 0, 1) := by decide +kernel
theorem d_X11_company_1 : decode cX11_company 1 = .ok (.getfield 43, 3) := by decide +kernel
theorem d_X11_company_4 : decode cX11_company 4 = .ok (.iload_n 1, 1) := by decide +kernel
theorem d_X11_company_5 : decode cX11_company 5 = .ok (.invokevirtual 131, 3) := by decide +kernel
theorem d_X11_company_8 : decode cX11_company 8 = .ok (.ifCond .eq 12, 3) := by decide +kernel
theorem d_X11_company_11 : decode cX11_company 11 = .ok (.iload_n 2, 1) := by decide +kernel
theorem d_X11_company_12 : decode cX11_company 12 = .ok (.ifCond .lt 8, 3) := by decide +kernel
theorem d_X11_company_15 : decode cX11_company 15 = .ok (.iload_n 2, 1) := by decide +kernel
theorem d_X11_company_16 : decode cX11_company 16 = .ok (.iconst 5, 1) := by decide +kernel
theorem d_X11_company_17 : decode cX11_company 17 = .ok (.if_icmp .le 11, 3) := by decide +kernel
theorem d_X11_company_20 : decode cX11_company 20 = .ok (.new 134, 3) := by decide +kernel
theorem d_X11_company_23 : decode cX11_company 23 = .ok (.dup, 1) := by decide +kernel
theorem d_X11_company_24 : decode cX11_company 24 = .ok (.invokespecial 136, 3) := by decide +kernel
theorem d_X11_company_27 : decode cX11_company 27 = .ok (.athrow, 1) := by decide +kernel
theorem d_X11_company_28 : decode cX11_company 28 = .ok (.aload_n 0, 1) := by decide +kernel
theorem d_X11_company_29 : decode cX11_company 29 = .ok (.getfield 43, 3) := by decide +kernel
theorem d_X11_company_32 : decode cX11_company 32 = .ok (.iload_n 1, 1) := by decide +kernel
theorem d_X11_company_33 : decode cX11_company 33 = .ok (.iload_n 2, 1) := by decide +kernel
theorem d_X11_company_34 : decode cX11_company 34 = .ok (.invokevirtual 137, 3) := by decide +kernel
theorem d_X11_company_37 : decode cX11_company 37 = .ok (.ireturn, 1) := by decide +kernel
theorem d_L_company_0 : decode method_3_code 0 = .ok (.aload_n 3, 1) := by decide +kernel
theorem d_L_company_1 : decode method_3_code 1 = .ok (.iconst 0, 1) := by decide +kernel
theorem d_L_company_2 : decode method_3_code 2 = .ok (.aload_n 0, 1) := by decide +kernel
theorem d_L_company_3 : decode method_3_code 3 = .ok (.iload_n 1, 1) := by decide +kernel
theorem d_L_company_4 : decode method_3_code 4 = .ok (.iload_n 2, 1) := by decide +kernel
theorem d_L_company_5 : decode method_3_code 5 = .ok (.invokevirtual 7, 3) := by decide +kernel
theorem d_L_company_8 : decode method_3_code 8 = .ok (.i2l, 1) := by decide +kernel
theorem d_L_company_9 : decode method_3_code 9 = .ok (.lastore, 1) := by decide +kernel
theorem d_L_company_10 : decode method_3_code 10 = .ok (.goto 7, 3) := by decide +kernel
theorem d_L_company_13 : decode method_3_code 13 = .ok (.astore 4, 2) := by decide +kernel
theorem d_L_company_15 : decode method_3_code 15 = .ok (.iconst 1, 1) := by decide +kernel
theorem d_L_company_16 : decode method_3_code 16 = .ok (.ireturn, 1) := by decide +kernel
theorem d_L_company_17 : decode method_3_code 17 = .ok (.iconst 0, 1) := by decide +kernel
theorem d_L_company_18 : decode method_3_code 18 = .ok (.ireturn, 1) := by decide +kernel
theorem q113 : Cond.initialized R_law ∈ sa_T := sa_at 113 (by decide +kernel) rfl
theorem q138 : Cond.initialized sa_NSE ∈ sa_T := sa_at 138 (by decide +kernel) rfl
theorem q1308 : Cond.methodLink R_law 46 yL_company ∈ sa_T := sa_at 1308 (by decide +kernel) rfl
theorem q1309 : Cond.static yL_company ∈ sa_T := sa_at 1309 (by decide +kernel) rfl
theorem q1310 : Cond.codeWith yL_company method_3_code 5 (some .int) [(0, 10, 13, 13)] ∈ sa_T := sa_at 1310 (by decide +kernel) rfl
theorem q1311 : Cond.classLink R_law 13 sa_NSE ∈ sa_T := sa_at 1311 (by decide +kernel) rfl
theorem q1312 : Cond.methodLink R_law 7 yX11_company ∈ sa_T := sa_at 1312 (by decide +kernel) rfl
theorem q1313 : Cond.instanceMethod yX11_company ∈ sa_T := sa_at 1313 (by decide +kernel) rfl
theorem q1314 : Cond.selects RX11 yX11_company yX11_company ∈ sa_T := sa_at 1314 (by decide +kernel) rfl
theorem q1315 : Cond.code yX11_company cX11_company 3 (some .int) ∈ sa_T := sa_at 1315 (by decide +kernel) rfl
theorem q1316 : Cond.methodLink RX11 131 yX0_hasCompany ∈ sa_T := sa_at 1316 (by decide +kernel) rfl
theorem q1317 : Cond.classLink RX11 134 sa_NSE ∈ sa_T := sa_at 1317 (by decide +kernel) rfl
theorem q1378 : Cond.methodLink RX11 137 yX0_of ∈ sa_T := sa_at 1378 (by decide +kernel) rfl
theorem q1611 : Cond.methodLink R_law 52 yX12_thrown ∈ sa_T := sa_at 1611 (by decide +kernel) rfl
theorem q1612 : Cond.instanceMethod yX12_thrown ∈ sa_T := sa_at 1612 (by decide +kernel) rfl
theorem q1613 : Cond.selects RX12 yX12_thrown yX12_thrown ∈ sa_T := sa_at 1613 (by decide +kernel) rfl
theorem q1614 : Cond.code yX12_thrown cX12_thrown 1 (some .int) ∈ sa_T := sa_at 1614 (by decide +kernel) rfl
theorem q1792 : Cond.methodLink R_law 51 yX12_company ∈ sa_T := sa_at 1792 (by decide +kernel) rfl
theorem q1793 : Cond.instanceMethod yX12_company ∈ sa_T := sa_at 1793 (by decide +kernel) rfl
theorem q1794 : Cond.selects RX12 yX12_company yX12_company ∈ sa_T := sa_at 1794 (by decide +kernel) rfl
theorem q1795 : Cond.code yX12_company cX12_company 3 (some .int) ∈ sa_T := sa_at 1795 (by decide +kernel) rfl
theorem dx_X11_company : yX11_company.cls ≠ "java/lang/invoke/MethodHandle" ∧ yX11_company.cls ≠ "java/lang/invoke/VarHandle" ∧ (parseMethodDescriptor yX11_company.desc).map (fun d => d.parameters.length) = some 2 := by decide +kernel
theorem dx_L_company : yL_company.cls ≠ "java/lang/invoke/MethodHandle" ∧ yL_company.cls ≠ "java/lang/invoke/VarHandle" ∧ (parseMethodDescriptor yL_company.desc).map (fun d => d.parameters.length) = some 4 := by decide +kernel
theorem dx_X12_company : yX12_company.cls ≠ "java/lang/invoke/MethodHandle" ∧ yX12_company.cls ≠ "java/lang/invoke/VarHandle" ∧ (parseMethodDescriptor yX12_company.desc).map (fun d => d.parameters.length) = some 2 := by decide +kernel
theorem dx_X12_thrown : yX12_thrown.cls ≠ "java/lang/invoke/MethodHandle" ∧ yX12_thrown.cls ≠ "java/lang/invoke/VarHandle" ∧ (parseMethodDescriptor yX12_thrown.desc).map (fun d => d.parameters.length) = some 0 := by decide +kernel
theorem dx_X0_hasCompany : yX0_hasCompany.cls ≠ "java/lang/invoke/MethodHandle" ∧ yX0_hasCompany.cls ≠ "java/lang/invoke/VarHandle" ∧ (parseMethodDescriptor yX0_hasCompany.desc).map (fun d => d.parameters.length) = some 1 := by decide +kernel
theorem dx_X0_of : yX0_of.cls ≠ "java/lang/invoke/MethodHandle" ∧ yX0_of.cls ≠ "java/lang/invoke/VarHandle" ∧ (parseMethodDescriptor yX0_of.desc).map (fun d => d.parameters.length) = some 2 := by decide +kernel
abbrev sx_names : List String := ["java/lang/RuntimeException", "java/lang/Exception"]
theorem cx_words : ∀ w ∈ (vx_at0 RX11 136 sa_NSE sx_names).filter goodWord, w ∈ lw_tbl := by decide +kernel
theorem cx_bad : ∀ w ∈ (vx_at0 RX11 136 sa_NSE sx_names).filter (fun w => !goodWord w), w ∈ Cond.castable sa_NSE sa_NSE :: sa_decl.map Cond.declares := by decide +kernel
theorem cx_ot : ∀ w ∈ Cond.classLink RX11 134 sa_NSE :: Cond.initialized sa_NSE :: vx_at0 RX11 136 sa_NSE sx_names, vx_ot w = true := by decide +kernel
/-- company: none where it throws -/
def f_X11_companyX (this : Nat) (a1 : Int32) (a2 : Int32) : sa_M (Option Int32) :=
sa_gd 11 this (
sa_bnd (sa_rdR 11 this 6) fun v1 =>
sa_bnd (f_X0_hasCompany v1 a1) fun v2 =>
if v2 = 0 then
sa_ret none
else
if a2 < 0 then
sa_ret none
else
if a2 ≤ 5 then
sa_bnd (sa_rdR 11 this 6) fun v3 =>
sa_bnd (f_X0_of v3 a1 a2) fun v4 =>
sa_ret (some v4)
else
sa_ret none)
def sx_Q (D : va_G) (ad : Nat → Nat) (cA : FieldType → ClassId) (A : Nat → Prop) (o : Option Int32) (τ : sa_St) : Array Value → State → Outcome → State → Prop := fun _ st oc t => (∃ v, o = some v ∧ oc = .returned (some (.int v))) ∧ sa_W0 D ad cA A sa_all τ t.heap ∧ va_F A st t
def sx_X (D : va_G) (ad : Nat → Nat) (cA : FieldType → ClassId) (A : Nat → Prop) (o : Option Int32) (τ : sa_St) : String → State → State → Prop := fun E st t => (E = sa_NSE ∧ o = none) ∧ sa_W0 D ad cA A sa_all τ t.heap ∧ va_F A st t
theorem sa_rdR_some {ci id k : Nat} {σ σ1 : sa_St} {v : Nat} (h : sa_rdR ci id k σ = some (v, σ1)) : σ1 = σ ∧ σ.2.1 id k = v + 1 ∧ sa_sh id = some (.inl ci) := by
  unfold sa_rdR at h
  by_cases hs : sa_sh id = some (.inl ci)
  · rw [if_pos hs] at h
    cases hn : σ.2.1 id k with
    | zero => rw [hn] at h; cases h
    | succ i =>
      rw [hn] at h
      cases h
      exact ⟨rfl, rfl, hs⟩
  · rw [if_neg hs] at h
    cases h
set_option maxHeartbeats 1000000 in
theorem kx_company (this : Nat) (a1 a2 : Int32) {σ τ : sa_St} {o : Option Int32} (hf : f_X11_companyX this a1 a2 σ = some (o, τ)) (l : Launch) (hlt : l.stackTraces = false) (D : va_G) (ad : Nat → Nat) (cA : FieldType → ClassId) (A : Nat → Prop) : vx_Met l yX11_company (.code yX11_company cX11_company 3 (some .int) :: sa_T) (sa_rm 8 1 6) (sa_Pc D ad cA A sa_all [.ref (ad this), .int a1, .int a2] σ) (sx_Q D ad cA A o τ) (sx_X D ad cA A o τ) 1 6 A := by
  refine vx_ofW (cc := cX11_company) (maxL := 3) (ret := some .int) (by decide) rfl ?_
  intro p e s m args below meth c s₁ B hml htab hv
  obtain ⟨rfl, hw, hk⟩ := hv
  have hts := atoms_spec (ws := .code yX11_company cX11_company 3 (some .int) :: sa_T) B.pre
  have C : sa_C p s m ([.ref (ad this), .int a1, .int a2] : List Value).toArray meth c cX11_company RX11 "company" 3 (some .int) D ad cA A := ⟨B.exec, B.bytes, hml, findClass_of_methodNamed B.named, fun w h => hts w (List.mem_cons_of_mem _ h), B.returns, (name_of_methodNamed B.named B.method).1, B.notSynchronized, hk⟩
  have hS : va_S A s.heap s.heap [] := va_S.rf
  have hl0 := lv_entry ([.ref (ad this), .int a1, .int a2]) (n := 3) (Nat.le_of_ble_eq_true rfl)
  rw [lg_entry_eq]
  generalize (lg_sl ([.ref (ad this), .int a1, .int a2]) ++ List.replicate (3 - (lg_sl ([.ref (ad this), .int a1, .int a2])).length) Slot.unset).toArray = ls at hl0 ⊢
  have hl0 : lv_has ls 3 [(0, .ref (ad this)), (1, .int a1), (2, .int a2)] := hl0
  have hs := sa_gd_ok hf
  unfold f_X11_companyX sa_gd at hf
  rw [if_pos hs] at hf
  obtain ⟨v1, σ1, h1, hf1⟩ := sa_bnd_some hf
  clear hf
  obtain ⟨rfl, hn, -⟩ := sa_rdR_some h1
  obtain ⟨v2, σ2, h2, hf⟩ := sa_bnd_some hf1
  clear hf1
  have hsc : sa_sh v1 = some (.inl 0) := gd_X0_hasCompany v1 a1 _ v2 σ2 h2
  refine lv_aload_n C.1 C.2.1 d_X11_company_0 rfl (lv_at hl0 0 rfl) ?_
  refine sa_get0 C fd_X11_43 d_X11_company_1 hs hw ?_
  rw [show sa_val ad σ1 (.object "SaltArmy$Camp") this 6 = .ref (ad v1) from by simp only [sa_val, hn]; rfl]
  refine lv_iload_n C.1 C.2.1 d_X11_company_4 rfl (lv_at hl0 1 rfl) ?_
  refine sw_invV (ci := 0) (st := []) C (k_X0_hasCompany v1 a1) q797 dx_X0_hasCompany q121 rfl q795 q796 q1316 hsc rfl rfl rfl (Nat.le_of_ble_eq_true rfl) (by decide) (by decide) (Nat.zero_le _) (Nat.zero_le _) d_X11_company_5 h2 hw hS hl0 (fun H1 locs1 hw1 hS1 => ?_)
  have thr : o = none → τ = σ2 → W p l e (sa_rm 8 1 6) s m ([.ref (ad this), .int a1, .int a2] : List Value).toArray below meth c H1 locs1 0 0 (vx_MQ below (sx_Q D ad cA A o τ) (sx_X D ad cA A o τ) ([.ref (ad this), .int a1, .int a2] : List Value).toArray s 1 6 A) (F0 m 20 ls []) := by
    intro ho ht
    subst ho
    subst ht
    refine vx_throw0 (own := RX11) (cls := sa_NSE) (names := sx_names) (ik := 134) (ic := 136) (A := A) C.1 C.2.1 hlt C.2.2.2.1 (by decide) (by decide) (C.2.2.2.2.1 _ q1317) (C.2.2.2.2.1 _ q138) ?_ cx_ot C.2.2.2.2.2.2.2.2.2.2.2.2.2.2.2.2.2.2.2.1 C.2.2.2.2.2.2.2.2.2.2.2.2.2.2.2.2.2.2.2.2.1 hS1 (hl0.1.trans C.2.2.1.symm) d_X11_company_20 d_X11_company_23 d_X11_company_24 d_X11_company_27 (fun x hx => absurd hx (fun h => htab x h)) (by decide) (by decide) (by decide) (by decide) C.2.2.2.2.2.2.2.1 ?_ hS1.2.2 (by decide) (by decide)
    · exact vx_hat (B := Cond.castable sa_NSE sa_NSE :: sa_decl.map Cond.declares) (fun w hw9 => C.2.2.2.2.1 _ (sa_in (cx_words w hw9) (List.mem_filter.mp hw9).2)) cx_bad (vx_c (va_Nw.use rfl C.2.2.2.2.2.2.2.2.2.2.2.2.2.2.2.2.2.2.1) (fun w9 h9 => by obtain ⟨x9, hx9, rfl⟩ := List.mem_map.mp h9; exact va_Nw.use rfl (C.2.2.2.2.2.2.2.2.2.2.2.2.2.2.2.2.2.2.2.2.2 x9 hx9)))
    · intro t hvm hz hkp
      refine ⟨⟨rfl, rfl⟩, ⟨hw1.1.kept (fun k q hk9 => hkp q.1 (hw1.1 k q hk9).lt), hw1.2.1, sa_fin _⟩, Nat.le_trans hS1.1 hz, fun q g1 g2 => (hkp q (Nat.lt_of_lt_of_le g1 hS1.1)).trans (hS1.2.1 q g1 g2)⟩
  refine lv_if_eq (tgt := 20) C.1 C.2.1 d_X11_company_8 (by decide) (fun c0 => ?_) (fun c0 => ?_)
  · rw [if_pos c0] at hf
    cases hf
    exact thr rfl rfl
  rw [if_neg c0] at hf
  refine lv_iload_n C.1 C.2.1 d_X11_company_11 rfl (lv_at hl0 2 rfl) ?_
  refine lv_if_lt (tgt := 20) C.1 C.2.1 d_X11_company_12 (by decide) (fun c1 => ?_) (fun c1 => ?_)
  · rw [if_pos c1] at hf
    cases hf
    exact thr rfl rfl
  rw [if_neg c1] at hf
  refine lv_iload_n C.1 C.2.1 d_X11_company_15 rfl (lv_at hl0 2 rfl) ?_
  refine lv_iconst (v := 5) C.1 C.2.1 d_X11_company_16 (by decide) ?_
  refine lv_icmp_le (tgt := 28) C.1 C.2.1 d_X11_company_17 (by decide) (fun c2 => ?_) (fun c2 => ?_)
  rotate_left
  · rw [if_neg c2] at hf
    cases hf
    exact thr rfl rfl
  rw [if_pos c2] at hf
  obtain ⟨v3, σ3, h3, hf3⟩ := sa_bnd_some hf
  clear hf
  obtain ⟨rfl, hn3, -⟩ := sa_rdR_some h3
  obtain ⟨v4, σ4, h4, hf⟩ := sa_bnd_some hf3
  clear hf3
  cases hf
  have hsc3 : sa_sh v3 = some (.inl 0) := gd_X0_of v3 a1 a2 _ v4 _ h4
  refine lv_aload_n C.1 C.2.1 d_X11_company_28 rfl (lv_at hl0 0 rfl) ?_
  refine sa_get0 C fd_X11_43 d_X11_company_29 hs hw1 ?_
  rw [show sa_val ad σ3 (.object "SaltArmy$Camp") this 6 = .ref (ad v3) from by simp only [sa_val, hn3]; rfl]
  refine lv_iload_n C.1 C.2.1 d_X11_company_32 rfl (lv_at hl0 1 rfl) ?_
  refine lv_iload_n C.1 C.2.1 d_X11_company_33 rfl (lv_at hl0 2 rfl) ?_
  refine sw_invV (ci := 0) (st := []) C (k_X0_of v3 a1 a2) q801 dx_X0_of q121 rfl q799 q800 q1378 hsc3 rfl rfl rfl (Nat.le_of_ble_eq_true rfl) (by decide) (by decide) (Nat.zero_le _) (Nat.zero_le _) d_X11_company_34 h4 hw1 hS1 hl0 (fun H2 locs2 hw2 hS2 => ?_)
  refine W.widen (k := 1) (n := 6) (by decide) (by decide) ?_
  refine vx_ret ?_
  exact W.iret C.1 C.2.1 C.2.2.2.2.2.1 (fun t ht _ => ⟨⟨_, rfl, rfl⟩, by rw [ht]; exact hw2, hS2.F ht⟩) hS2.2.2 d_X11_company_37 C.2.2.2.2.2.2.2.1
theorem sx_after {p : Program} {l : Launch} {e : Env} {R : Room} {s : State} {m : MethodId} {args : Array Value} {below : List Frame} {meth : Method} {c : Code} {H : Heap} {locs : List Loc} {cells slots mc ms : Nat} {Q : State → Prop} {pc : Nat} {ls : Array Slot} {st0 rest : List Value} {D : va_G} {ad : Nat → Nat} {cA : FieldType → ClassId} {A : Nat → Prop} {o : Option Int32} {τ : sa_St} {a : Array Value} {H0 : Heap}
    (hr : vx_Run p l e R s m args below meth c H locs cells slots mc ms (F0 m pc ls st0) rest (sx_Q D ad cA A o τ a) (sx_X D ad cA A o τ) A) (hS : va_S A H0 H locs)
    (kx : o = none → ∀ (q9 : Addr) (ce : Cell) (H1 : Heap) (locs1 : List Loc), sa_W0 D ad cA A sa_all τ H1 → va_S A H0 H1 locs1 → H1[q9]? = some ce → ce.vm = .none → s.vm.findClass sa_NSE = some ce.cls → vx_W p l e R s m args below meth c H1 locs1 (cells + mc) (slots + ms) Q (F0 m pc ls rest) q9)
    (kk : ∀ v : Int32, o = some v → ∀ (H1 : Heap) (locs1 : List Loc), sa_W0 D ad cA A sa_all τ H1 → va_S A H0 H1 locs1 → W p l e R s m args below meth c H1 locs1 (cells + mc) (slots + ms) Q (F0 m (pc + 3) ls (.int v :: rest))) : W p l e R s m args below meth c H locs cells slots Q (F0 m pc ls st0) := by
  intro T hT X
  rcases hr T hT X with ⟨v, st₀, t, T', L, h0, X', hL, e1, e2, ⟨⟨w, ho, hv⟩, hw, hF⟩, st⟩ | ⟨q, st₀, t, T', L, E, ce, h0, X', hL, e1, e2, ⟨⟨hE, ho⟩, hw, hF⟩, hce, hcv, hcl, st⟩
  · have hv' := Outcome.returned.inj hv
    subst hv'
    obtain ⟨-, -, k3⟩ := vx_keep h0 e1 hS (fun _ _ h => h) (fun _ h => h) hL hF
    obtain ⟨t2, a1, b1⟩ := kk w ho T'.heap (locs ++ L) (by rw [e1]; exact hw) k3 T' rfl X'
    exact ⟨t2, st t2 a1, b1⟩
  · subst hE
    obtain ⟨-, -, k3⟩ := vx_keep h0 e1 hS (fun _ _ h => h) (fun _ h => h) hL hF
    obtain ⟨t2, a1, b1⟩ := kx ho q ce T'.heap (locs ++ L) (by rw [e1]; exact hw) k3 (by rw [e1]; exact hce) hcv hcl T' rfl X'
    exact ⟨t2, st.trans a1, b1⟩
def sx_k (o : Option Int32) : Int32 := match o with | some _ => 0 | none => 1
def sx_s (o : Option Int32) (τ : sa_St) (out : Nat) : sa_St := match o with | some v => sa_upL τ out 0 v.toInt64 | none => τ
set_option maxHeartbeats 1000000 in
theorem k_L_company (x : Nat) (a1 a2 : Int32) (out : Nat) (hso : sa_sh out = some (.inr (.long, 1))) (hsx : sa_sh x = some (.inl 11)) {σ τ : sa_St} {o : Option Int32} (hf : f_X11_companyX x a1 a2 σ = some (o, τ)) (l : Launch) (hlt : l.stackTraces = false) (D : va_G) (ad : Nat → Nat) (cA : FieldType → ClassId) (A : Nat → Prop) : Met l yL_company (.codeWith yL_company method_3_code 5 (some .int) [(0, 10, 13, 13)] :: sa_T) (sa_rm 9 1 6) (sa_Pc D ad cA A sa_all [.ref (ad x), .int a1, .int a2, .ref (ad out)] σ) (sa_Qc D ad cA A sa_all sa_eI (sx_k o) (sx_s o τ out)) 1 6 A := by
  refine va_MetW (cc := method_3_code) (maxL := 5) (ret := some .int) (hh := [(0, 10, 13, 13)]) (by decide) rfl ?_
  intro p e s m args below meth c s₁ B hml hv
  obtain ⟨rfl, hw, hk⟩ := hv
  have hts := atoms_spec (ws := .codeWith yL_company method_3_code 5 (some .int) [(0, 10, 13, 13)] :: sa_T) B.pre
  have C : sa_C p s m ([.ref (ad x), .int a1, .int a2, .ref (ad out)] : List Value).toArray meth c method_3_code R_law "company" 5 (some .int) D ad cA A := ⟨B.exec, B.bytes, hml, findClass_of_methodNamed B.named, fun w h => hts w (List.mem_cons_of_mem _ h), B.returns, (name_of_methodNamed B.named B.method).1, B.notSynchronized, hk⟩
  have htab : c.exceptionTable.toList = tableOf [(0, 10, 13, 13)] := vx_table (x := yL_company) B (hts _ List.mem_cons_self)
  have hS : va_S A s.heap s.heap [] := va_S.rf
  have hl0 := lv_entry ([.ref (ad x), .int a1, .int a2, .ref (ad out)]) (n := 5) (Nat.le_of_ble_eq_true rfl)
  rw [lg_entry_eq]
  generalize (lg_sl ([.ref (ad x), .int a1, .int a2, .ref (ad out)]) ++ List.replicate (5 - (lg_sl ([.ref (ad x), .int a1, .int a2, .ref (ad out)])).length) Slot.unset).toArray = ls at hl0 ⊢
  have hl0 : lv_has ls 5 [(0, .ref (ad x)), (1, .int a1), (2, .int a2), (3, .ref (ad out))] := hl0
  have hal : sa_al .long out = 1 := by unfold sa_al; rw [hso]; rfl
  refine lv_aload_n C.1 C.2.1 d_L_company_0 rfl (lv_at hl0 3 rfl) ?_
  refine lv_iconst (v := 0) C.1 C.2.1 d_L_company_1 (by decide) ?_
  refine lv_aload_n C.1 C.2.1 d_L_company_2 rfl (lv_at hl0 0 rfl) ?_
  refine lv_iload_n C.1 C.2.1 d_L_company_3 rfl (lv_at hl0 1 rfl) ?_
  refine lv_iload_n C.1 C.2.1 d_L_company_4 rfl (lv_at hl0 2 rfl) ?_
  have hM := kx_company x a1 a2 hf l hlt D ad cA A
  have cw : CallW (sa_rm 9 1 6) s ([.ref (ad x), .int a1, .int a2, .ref (ad out)] : List Value).toArray R_law RX11 7 yX11_company cX11_company 3 (some .int) (.code yX11_company cX11_company 3 (some .int) :: sa_T) (sa_rm 8 1 6) 1 6 2 :=
    ⟨callB_of 2 C.2.2.2.2.1 (sa_good q1315) rfl rfl rfl (C.2.2.2.2.1 _ q114) (C.2.2.2.2.1 _ q1312) dx_X11_company ⟨by decide, by decide⟩, C.2.2.2.2.1 _ q1313, C.2.2.2.2.1 _ q1314⟩
  refine sx_after (vx_runV (As := [.int a1, .int a2]) (rest := [.int 0, .ref (ad out)]) ⟨C.1, C.2.1, C.2.2.1, C.2.2.2.1, C.2.2.2.2.1⟩ hM cw ⟨sa_blind, va_recv (ci := 11) (q := (RX11, TX11, 13)) C.2.2.2.2.2.2.2.2.1 hw.1 rfl (hw.obj hsx), fun U hU hW => ⟨rfl, by rw [hU]; exact hw, by rw [hU]; exact C.2.2.2.2.2.2.2.2.into hW hS⟩⟩ rfl rfl hl0.1 rfl (lv_room (Nat.le_of_ble_eq_true rfl)) d_L_company_5 ⟨by decide, by decide⟩) hS (fun ho q9 ce H1 locs1 hw1 hS1 hce hcv hcl => ?_) (fun v ho H1 locs1 hw1 hS1 => ?_)
  · subst ho
    refine vx_catch (own := R_law) (name := sa_NSE) C.2.2.2.1 [] ⟨0, 10, 13, 13⟩ [] htab (fun z hz => by cases hz) (by decide) (by decide) (C.2.2.2.2.1 _ q1311) (va_Nw.use rfl C.2.2.2.2.2.2.2.2.2.2.2.2.2.2.2.2.2.2.1) hce hcv hcl ?_
    refine lv_astore (lv' := [(4, .ref q9), (0, .ref (ad x)), (1, .int a1), (2, .int a2), (3, .ref (ad out))]) C.1 C.2.1 d_L_company_13 hl0 (by decide) rfl (fun ls' hl' => ?_)
    refine lv_iconst (v := 1) C.1 C.2.1 d_L_company_15 (by decide) ?_
    exact W.iret C.1 C.2.1 C.2.2.2.2.2.1 (fun t ht _ => ⟨rfl, by rw [ht]; exact hw1, hS1.F ht⟩) hS1.2.2 d_L_company_16 C.2.2.2.2.2.2.2.1
  · subst ho
    refine lv_i2l C.1 C.2.1 d_L_company_8 rfl ?_
    have hj : ¬ ((0 : Int32) < 0 ∨ sa_al .long out ≤ (0 : Int32).toNatClampNeg) := by rw [hal]; decide
    refine va_last C.1 C.2.1 C.2.2.2.2.2.2.2.2.1 hw1.1 hw1.2.1 hS1 out 1 (hw1.arr (sa_in_al hj)) rfl hj d_L_company_9 (fun H2 locs2 hP hD hS2 => ?_)
    have hw2 : sa_W0 D ad cA A sa_all (sa_upL τ out 0 v.toInt64) H2 := by
      refine sa_W0.put (τ := sa_upL τ out 0 v.toInt64) hP hD ?_ sa_upL_other
      rw [sa_ent_arr (sa_in_al hj)]
      simp only [sa_arr, sa_upL, va_up_at]
      rfl
    refine lv_goto (tgt := 17) C.1 C.2.1 d_L_company_10 (by decide) ?_
    refine lv_iconst (v := 0) C.1 C.2.1 d_L_company_17 (by decide) ?_
    exact W.iret C.1 C.2.1 C.2.2.2.2.2.1 (fun t ht _ => ⟨rfl, by rw [ht]; exact hw2, hS2.F ht⟩) hS2.2.2 d_L_company_18 C.2.2.2.2.2.2.2.1
section SALAW3
variable {p : Program} {l : Launch} {e : Env} {s : State} {m : MethodId} {b : Nat} {below : List Frame} {meth : Method} {c : Code} {D : va_G} {ad : Nat → Nat} {cA : FieldType → ClassId} {K : Nat} {σ : sa_St} {pc : Nat} {lv : List (Nat × Value)}
theorem ls_company (C : sa_C p s m #[Value.ref b] meth c code R_law "law" 7 ret D ad cA (fun q : Nat => s.heap.size ≤ q)) {a1 a2 : Int32} {o : Option Int32} {τ : sa_St} (hf : f_X11_companyX 0 a1 a2 σ = some (o, τ)) (hlt : l.stackTraces = false) (hK : K ≤ 520) (hd : decode code pc = .ok (.invokestatic 46, 3)) (kk : lw_S p l e s m b below meth c D ad cA ((K + 1)) (sx_s o τ 192) (pc + 3) lv [.int (sx_k o)]) : lw_S p l e s m b below meth c D ad cA (K) σ pc lv [.ref (ad 192), .int a2, .int a1, .ref (ad 0)] := by
  intro H locs ls hw hS hl
  have hM := k_L_company 0 a1 a2 192 rfl rfl hf l hlt D ad cA (fun q : Nat => s.heap.size ≤ q)
  have hG : GoodIn sa_T (va_wsS R_law 46 yL_company (.codeWith yL_company method_3_code 5 (some .int) [(0, 10, 13, 13)] :: sa_T)) := by
    intro w9 hw9
    have hm : w9 ∈ sa_T := by
      rcases List.mem_append.mp hw9 with h | h
      · simp only [List.mem_cons, List.not_mem_nil, or_false] at h
        rcases h with rfl | rfl | rfl
        · exact q1308
        · exact q1309
        · exact q113
      · rcases List.mem_cons.mp h with rfl | h
        · exact q1310
        · exact h
    exact ⟨hm, good_of_word (sa_T_good hm)⟩
  have cw := vx_cwSW (R := room_1) (own := R_law) (index := 46) (ret := some .int) (hh := [(0, 10, 13, 13)]) (rm := sa_rm 9 1 6) 4 C.2.2.2.2.1 hG rfl rfl rfl dx_L_company ⟨by decide, by decide⟩
  refine sa_after (vx_runSW (As := [.ref (ad 0), .int a1, .int a2, .ref (ad 192)]) (rest := []) ⟨C.1, C.2.1, C.2.2.1, C.2.2.2.1, C.2.2.2.2.1⟩ hM cw ⟨sa_blind, fun U hU hW => ⟨rfl, by rw [hU]; exact hw, by rw [hU]; exact C.2.2.2.2.2.2.2.2.into hW hS⟩⟩ rfl rfl hl.1 rfl (lv_room (Nat.zero_le _)) hd ⟨by show 1000 + 10 * K + 1 ≤ 601024; omega, by show 100000 + 100 * K + 6 ≤ 7293034; omega⟩) hS (fun H1 locs1 hw1 hS1 => ?_)
  exact W.widen (k := 1000 + 10 * (K + 1)) (n := 100000 + 100 * (K + 1)) (by omega) (by omega) (kk H1 locs1 ls hw1 hS1 hl)
end SALAW3
/-- company: both throw, or both answer alike -/
def lc_6 (Inv Inv' : sa_St → Prop) : Prop := ∀ (σ : sa_St) (s1 s2 : Int32), Inv σ → ∃ (o : Option Int32) (σ1 σ2 σ3 : sa_St) (r : Int32), f_X11_companyX 0 s1 s2 σ = some (o, σ1) ∧ f_X12_company 159 s1 s2 (sx_s o σ1 192) = some (r, σ2) ∧ f_X12_thrown 159 σ2 = some (sx_k o, σ3) ∧ (∀ v, o = some v → σ3.2.2 192 0 = r.toInt64) ∧ Inv' σ3
set_option maxHeartbeats 1000000 in
theorem lcase_6 {Inv Inv' : sa_St → Prop} (F : lc_6 Inv Inv') {p : Program} {l : Launch} (hflags : l.flags = flags0) {e : Env} {s : State} {m : MethodId} {b : Nat} {below : List Frame} {meth : Method} {c : Code} {D : va_G} {ad : Nat → Nat} {cA : FieldType → ClassId} {K L i : Nat} {xs : Nat → Int32} (C : sa_C p s m #[Value.ref b] meth c code R_law "law" 7 ret D ad cA (fun q : Nat => s.heap.size ≤ q)) (hX : va_X b L xs s s.heap) (hbl : b < s.heap.size) (hi : i + 6 ≤ L ∧ L ≤ 3072) (hK0 : K ≤ 513) {σ : sa_St} (hI : Inv σ) (hn : ∀ σ2, Inv' σ2 → lw_S p l e s m b below meth c D ad cA ((K + 1)) σ2 1597 [(4, .int (nI i)), (3, .ref (ad 192)), (2, .ref (ad 159)), (1, .ref (ad 0)), (0, .ref b)] []) : lw_S p l e s m b below meth c D ad cA (K) σ 430 [(4, .int (nI i)), (3, .ref (ad 192)), (2, .ref (ad 159)), (1, .ref (ad 0)), (0, .ref b)] [] := by
  have hlt : l.stackTraces = false := by
    unfold Launch.stackTraces
    rw [hflags]
    decide +kernel
  obtain ⟨o, σ1, σ2, σ3, r, h1, h2, h3, h4, h5⟩ := F σ (xs (i + 1)) (xs (i + 2)) hI
  refine ls_aload_n C d_law_430 rfl 3 rfl ?_
  refine ls_aload_n C d_law_431 rfl 4 rfl ?_
  refine ls_iload C d_law_432 0 rfl ?_
  refine ls_iconst (v := 1) C d_law_434 (by decide) ?_
  refine ls_iadd C d_law_435 ?_
  refine ls_sld (w := xs (i + 1)) C hX hbl (lw_in hi (by decide)) (lw_at hi (by decide)) d_law_436 ?_
  refine ls_aload_n C d_law_437 rfl 4 rfl ?_
  refine ls_iload C d_law_438 0 rfl ?_
  refine ls_iconst (v := 2) C d_law_440 (by decide) ?_
  refine ls_iadd C d_law_441 ?_
  refine ls_sld (w := xs (i + 2)) C hX hbl (lw_in hi (by decide)) (lw_at hi (by decide)) d_law_442 ?_
  refine ls_aload_n C d_law_443 rfl 1 rfl ?_
  have hK : K + 1 ≤ 520 := by omega
  refine ls_company C h1 hlt (by omega) d_law_444 ?_
  refine ls_istore (lv' := [(5, .int (sx_k o)), (4, .int (nI i)), (3, .ref (ad 192)), (2, .ref (ad 159)), (1, .ref (ad 0)), (0, .ref b)]) C d_law_447 (by decide) rfl ?_
  refine ls_aload_n C d_law_449 rfl 3 rfl ?_
  refine ls_aload_n C d_law_450 rfl 5 rfl ?_
  refine ls_iload C d_law_451 1 rfl ?_
  refine ls_iconst (v := 1) C d_law_453 (by decide) ?_
  refine ls_iadd C d_law_454 ?_
  refine ls_sld (w := xs (i + 1)) C hX hbl (lw_in hi (by decide)) (lw_at hi (by decide)) d_law_455 ?_
  refine ls_aload_n C d_law_456 rfl 5 rfl ?_
  refine ls_iload C d_law_457 1 rfl ?_
  refine ls_iconst (v := 2) C d_law_459 (by decide) ?_
  refine ls_iadd C d_law_460 ?_
  refine ls_sld (w := xs (i + 2)) C hX hbl (lw_in hi (by decide)) (lw_at hi (by decide)) d_law_461 ?_
  refine ls_inv (ci := 12) C (k_X12_company 159 (xs (i + 1)) (xs (i + 2))) q1795 dx_X12_company q128 rfl q1793 q1794 q1792 rfl rfl rfl rfl (Nat.le_of_ble_eq_true rfl) (by decide) (by decide) hK d_law_462 h2 ?_
  refine ls_istore (lv' := [(6, .int r), (5, .int (sx_k o)), (4, .int (nI i)), (3, .ref (ad 192)), (2, .ref (ad 159)), (1, .ref (ad 0)), (0, .ref b)]) C d_law_465 (by decide) rfl ?_
  refine ls_aload_n C d_law_467 rfl 4 rfl ?_
  refine ls_inv (ci := 12) C (k_X12_thrown 159) q1614 dx_X12_thrown q128 rfl q1612 q1613 q1611 rfl rfl rfl rfl (Nat.le_of_ble_eq_true rfl) (by decide) (by decide) hK d_law_468 h3 ?_
  refine ls_iload C d_law_471 1 rfl ?_
  refine ls_icmp_eq (tgt := 478) C d_law_473 (by decide) (fun _ => ?_) (fun h => absurd rfl h)
  refine ls_iload C d_law_478 1 rfl ?_
  have fin : lw_S p l e s m b below meth c D ad cA ((K + 1)) σ3 1597 [(6, .int r), (5, .int (sx_k o)), (4, .int (nI i)), (3, .ref (ad 192)), (2, .ref (ad 159)), (1, .ref (ad 0)), (0, .ref b)] [] := ls_sub [2, 3, 4, 5, 6] rfl (hn _ h5)
  refine ls_if_ne (tgt := 495) C d_law_480 (by decide) (fun _ => ?_) (fun h0 => ?_)
  · refine ls_goto (tgt := 1597) C d_law_495 (by decide) ?_
    exact fin
  · have hv : ∃ v, o = some v := by
      cases o with
      | none => exact absurd h0 (by decide)
      | some v => exact ⟨v, rfl⟩
    obtain ⟨v, hv⟩ := hv
    refine ls_aload_n C d_law_483 rfl 3 rfl ?_
    refine ls_iconst (v := 0) C d_law_484 (by decide) ?_
    refine ls_lald C (by rw [show sa_al .long 192 = 1 from rfl]; decide) d_law_485 ?_
    refine ls_iload C d_law_486 0 rfl ?_
    refine ls_i2l C d_law_488 ?_
    refine ls_lcmp C d_law_489 ?_
    refine ls_if_eq (tgt := 495) C d_law_490 (by decide) (fun _ => ?_) (fun h => absurd ?_ h)
    · refine ls_goto (tgt := 1597) C d_law_495 (by decide) ?_
      exact fin
    · show lg_cmp (σ3.2.2 192 (0 : Int32).toNatClampNeg) r.toInt64 = 0
      rw [show (0 : Int32).toNatClampNeg = 0 from by decide, h4 v hv]
      simp [lg_cmp]
