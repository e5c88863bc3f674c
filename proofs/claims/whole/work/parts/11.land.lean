theorem d_X1_cell_0 : decode cX1_cell 0 = .ok (.aload_n 0, 1) := by decide +kernel
theorem d_X1_cell_1 : decode cX1_cell 1 = .ok (.getfield 15, 3) := by decide +kernel
theorem d_X1_cell_4 : decode cX1_cell 4 = .ok (.iload_n 1, 1) := by decide +kernel
theorem d_X1_cell_5 : decode cX1_cell 5 = .ok (.bipush 12, 2) := by decide +kernel
theorem d_X1_cell_7 : decode cX1_cell 7 = .ok (.imul, 1) := by decide +kernel
theorem d_X1_cell_8 : decode cX1_cell 8 = .ok (.iload_n 2, 1) := by decide +kernel
theorem d_X1_cell_9 : decode cX1_cell 9 = .ok (.iadd, 1) := by decide +kernel
theorem d_X1_cell_10 : decode cX1_cell 10 = .ok (.iconst 5, 1) := by decide +kernel
theorem d_X1_cell_11 : decode cX1_cell 11 = .ok (.imul, 1) := by decide +kernel
theorem d_X1_cell_12 : decode cX1_cell 12 = .ok (.iload_n 3, 1) := by decide +kernel
theorem d_X1_cell_13 : decode cX1_cell 13 = .ok (.iadd, 1) := by decide +kernel
theorem d_X1_cell_14 : decode cX1_cell 14 = .ok (.iaload, 1) := by decide +kernel
theorem d_X1_cell_15 : decode cX1_cell 15 = .ok (.ireturn, 1) := by decide +kernel
def f_X1_cell (this : Nat) (a1 : Int32) (a2 : Int32) (a3 : Int32) : sa_M Int32 :=
sa_gd 1 this (
sa_bnd (sa_rdR 1 this 1) fun v1 =>
sa_bnd (sa_ldI .int v1 ((((a1 * 12) + a2) * 5) + a3)) fun v2 =>
sa_ret (v2 : Int32))
set_option maxHeartbeats 1000000 in
set_option maxRecDepth 10000 in
theorem b_X1_cell {p : Program} {l : Launch} {e : Env} {s : State} {m : MethodId} {args : Array Value} {below : List Frame} {meth : Method} {c : Code} {D : va_G} {ad : Nat → Nat} {cA : FieldType → ClassId} {A : Nat → Prop} (this : Nat) (a1 : Int32) (a2 : Int32) (a3 : Int32) (C : sa_C p s m args meth c cX1_cell RX1 "cell" 4 (some .int) D ad cA A) : sa_Sg p l e s m args below meth c 4 1 D ad cA A sa_eI 0 [(0, .ref (ad this)), (1, .int a1), (2, .int a2), (3, .int a3)] [] (f_X1_cell this a1 a2 a3) := by
  unfold f_X1_cell
  refine sa_gdI ?_
  refine sa_aload_n C d_X1_cell_0 rfl 0 rfl ?_
  refine sa_getR C fd_X1_15 rfl d_X1_cell_1 (fun v1 => ?_)
  refine sa_iload_n C d_X1_cell_4 rfl 1 rfl ?_
  refine sa_bipush (v := 12) C d_X1_cell_5 (by decide) ?_
  refine sa_imul C d_X1_cell_7 ?_
  refine sa_iload_n C d_X1_cell_8 rfl 2 rfl ?_
  refine sa_iadd C d_X1_cell_9 ?_
  refine sa_iconst (v := 5) C d_X1_cell_10 (by decide) ?_
  refine sa_imul C d_X1_cell_11 ?_
  refine sa_iload_n C d_X1_cell_12 rfl 3 rfl ?_
  refine sa_iadd C d_X1_cell_13 ?_
  refine sa_iald C d_X1_cell_14 (fun v2 => ?_)
  exact sa_iret C d_X1_cell_15
theorem k_X1_cell (this : Nat) (a1 : Int32) (a2 : Int32) (a3 : Int32) : sa_Met 1 yX1_cell cX1_cell 4 (some .int) (fun ad => [.ref (ad this), .int a1, .int a2, .int a3]) sa_eI (f_X1_cell this a1 a2 a3) := sa_mk (by decide) (fun ad => Nat.le_of_ble_eq_true rfl) (fun p l e s m args below meth c D ad cA A C => b_X1_cell this a1 a2 a3 C)
theorem gd_X1_cell (this : Nat) (a1 : Int32) (a2 : Int32) (a3 : Int32) (σ : sa_St) (r : Int32) (τ : sa_St) (h : f_X1_cell this a1 a2 a3 σ = some (r, τ)) : sa_sh this = some (.inl 1) := sa_gd_ok h
theorem d_X1_hasPlace_0 : decode cX1_hasPlace 0 = .ok (.iload_n 1, 1) := by decide +kernel
theorem d_X1_hasPlace_1 : decode cX1_hasPlace 1 = .ok (.ifCond .lt 17, 3) := by decide +kernel
theorem d_X1_hasPlace_4 : decode cX1_hasPlace 4 = .ok (.iload_n 1, 1) := by decide +kernel
theorem d_X1_hasPlace_5 : decode cX1_hasPlace 5 = .ok (.aload_n 0, 1) := by decide +kernel
theorem d_X1_hasPlace_6 : decode cX1_hasPlace 6 = .ok (.getfield 11, 3) := by decide +kernel
theorem d_X1_hasPlace_9 : decode cX1_hasPlace 9 = .ok (.iconst 0, 1) := by decide +kernel
theorem d_X1_hasPlace_10 : decode cX1_hasPlace 10 = .ok (.iaload, 1) := by decide +kernel
theorem d_X1_hasPlace_11 : decode cX1_hasPlace 11 = .ok (.if_icmp .ge 7, 3) := by decide +kernel
theorem d_X1_hasPlace_14 : decode cX1_hasPlace 14 = .ok (.iconst 1, 1) := by decide +kernel
theorem d_X1_hasPlace_15 : decode cX1_hasPlace 15 = .ok (.goto 4, 3) := by decide +kernel
theorem d_X1_hasPlace_18 : decode cX1_hasPlace 18 = .ok (.iconst 0, 1) := by decide +kernel
theorem d_X1_hasPlace_19 : decode cX1_hasPlace 19 = .ok (.ireturn, 1) := by decide +kernel
def f_X1_hasPlace (this : Nat) (a1 : Int32) : sa_M Int32 :=
sa_gd 1 this (
sa_jn1 (fun (y1 : Int32) =>
sa_retZ y1) fun j19 =>
sa_jn0 (j19 0) fun j18 =>
if a1 < 0 then
j18
else
sa_bnd (sa_rdR 1 this 0) fun v2 =>
sa_bnd (sa_ldI .int v2 0) fun v3 =>
if v3 ≤ a1 then
j18
else
j19 1)
set_option maxHeartbeats 1000000 in
set_option maxRecDepth 10000 in
theorem b_X1_hasPlace {p : Program} {l : Launch} {e : Env} {s : State} {m : MethodId} {args : Array Value} {below : List Frame} {meth : Method} {c : Code} {D : va_G} {ad : Nat → Nat} {cA : FieldType → ClassId} {A : Nat → Prop} (this : Nat) (a1 : Int32) (C : sa_C p s m args meth c cX1_hasPlace RX1 "hasPlace" 2 (some .boolean) D ad cA A) : sa_Sg p l e s m args below meth c 2 1 D ad cA A sa_eI 0 [(0, .ref (ad this)), (1, .int a1)] [] (f_X1_hasPlace this a1) := by
  unfold f_X1_hasPlace
  refine sa_gdI ?_
  refine sa_iload_n C d_X1_hasPlace_0 rfl 1 rfl ?_
  refine sa_join1 19 (fun y1 => []) (fun y1 => [.int y1]) (fun y1 => ?_) (fun j19 hj19 => ?_)
  · exact sa_zret C d_X1_hasPlace_19
  refine sa_join0 18 ([]) ([]) (?_) (fun j18 hj18 => ?_)
  · refine sa_iconst (v := 0) C d_X1_hasPlace_18 (by decide) ?_
    exact sa_sub [] rfl (hj19 _)
  refine sa_if_lt (tgt := 18) C d_X1_hasPlace_1 (by decide) ?_ ?_
  · exact sa_sub [] rfl (hj18)
  refine sa_iload_n C d_X1_hasPlace_4 rfl 1 rfl ?_
  refine sa_aload_n C d_X1_hasPlace_5 rfl 0 rfl ?_
  refine sa_getR C fd_X1_11 rfl d_X1_hasPlace_6 (fun v2 => ?_)
  refine sa_iconst (v := 0) C d_X1_hasPlace_9 (by decide) ?_
  refine sa_iald C d_X1_hasPlace_10 (fun v3 => ?_)
  refine sa_icmp_ge (tgt := 18) C d_X1_hasPlace_11 (by decide) ?_ ?_
  · exact sa_sub [] rfl (hj18)
  refine sa_iconst (v := 1) C d_X1_hasPlace_14 (by decide) ?_
  refine sa_goto (tgt := 19) C d_X1_hasPlace_15 (by decide) ?_
  exact sa_sub [] rfl (hj19 _)
theorem k_X1_hasPlace (this : Nat) (a1 : Int32) : sa_Met 1 yX1_hasPlace cX1_hasPlace 2 (some .boolean) (fun ad => [.ref (ad this), .int a1]) sa_eI (f_X1_hasPlace this a1) := sa_mk (by decide) (fun ad => Nat.le_of_ble_eq_true rfl) (fun p l e s m args below meth c D ad cA A C => b_X1_hasPlace this a1 C)
theorem gd_X1_hasPlace (this : Nat) (a1 : Int32) (σ : sa_St) (r : Int32) (τ : sa_St) (h : f_X1_hasPlace this a1 σ = some (r, τ)) : sa_sh this = some (.inl 1) := sa_gd_ok h
theorem d_X1_lowestWay_0 : decode cX1_lowestWay 0 = .ok (.aload_n 0, 1) := by decide +kernel
theorem d_X1_lowestWay_1 : decode cX1_lowestWay 1 = .ok (.getfield 18, 3) := by decide +kernel
theorem d_X1_lowestWay_4 : decode cX1_lowestWay 4 = .ok (.iload_n 1, 1) := by decide +kernel
theorem d_X1_lowestWay_5 : decode cX1_lowestWay 5 = .ok (.bipush 8, 2) := by decide +kernel
theorem d_X1_lowestWay_7 : decode cX1_lowestWay 7 = .ok (.imul, 1) := by decide +kernel
theorem d_X1_lowestWay_8 : decode cX1_lowestWay 8 = .ok (.iload_n 2, 1) := by decide +kernel
theorem d_X1_lowestWay_9 : decode cX1_lowestWay 9 = .ok (.iadd, 1) := by decide +kernel
theorem d_X1_lowestWay_10 : decode cX1_lowestWay 10 = .ok (.iaload, 1) := by decide +kernel
theorem d_X1_lowestWay_11 : decode cX1_lowestWay 11 = .ok (.ireturn, 1) := by decide +kernel
def f_X1_lowestWay (this : Nat) (a1 : Int32) (a2 : Int32) : sa_M Int32 :=
sa_gd 1 this (
sa_bnd (sa_rdR 1 this 2) fun v1 =>
sa_bnd (sa_ldI .int v1 ((a1 * 8) + a2)) fun v2 =>
sa_ret (v2 : Int32))
set_option maxHeartbeats 1000000 in
set_option maxRecDepth 10000 in
theorem b_X1_lowestWay {p : Program} {l : Launch} {e : Env} {s : State} {m : MethodId} {args : Array Value} {below : List Frame} {meth : Method} {c : Code} {D : va_G} {ad : Nat → Nat} {cA : FieldType → ClassId} {A : Nat → Prop} (this : Nat) (a1 : Int32) (a2 : Int32) (C : sa_C p s m args meth c cX1_lowestWay RX1 "lowestWay" 3 (some .int) D ad cA A) : sa_Sg p l e s m args below meth c 3 1 D ad cA A sa_eI 0 [(0, .ref (ad this)), (1, .int a1), (2, .int a2)] [] (f_X1_lowestWay this a1 a2) := by
  unfold f_X1_lowestWay
  refine sa_gdI ?_
  refine sa_aload_n C d_X1_lowestWay_0 rfl 0 rfl ?_
  refine sa_getR C fd_X1_18 rfl d_X1_lowestWay_1 (fun v1 => ?_)
  refine sa_iload_n C d_X1_lowestWay_4 rfl 1 rfl ?_
  refine sa_bipush (v := 8) C d_X1_lowestWay_5 (by decide) ?_
  refine sa_imul C d_X1_lowestWay_7 ?_
  refine sa_iload_n C d_X1_lowestWay_8 rfl 2 rfl ?_
  refine sa_iadd C d_X1_lowestWay_9 ?_
  refine sa_iald C d_X1_lowestWay_10 (fun v2 => ?_)
  exact sa_iret C d_X1_lowestWay_11
theorem k_X1_lowestWay (this : Nat) (a1 : Int32) (a2 : Int32) : sa_Met 1 yX1_lowestWay cX1_lowestWay 3 (some .int) (fun ad => [.ref (ad this), .int a1, .int a2]) sa_eI (f_X1_lowestWay this a1 a2) := sa_mk (by decide) (fun ad => Nat.le_of_ble_eq_true rfl) (fun p l e s m args below meth c D ad cA A C => b_X1_lowestWay this a1 a2 C)
theorem gd_X1_lowestWay (this : Nat) (a1 : Int32) (a2 : Int32) (σ : sa_St) (r : Int32) (τ : sa_St) (h : f_X1_lowestWay this a1 a2 σ = some (r, τ)) : sa_sh this = some (.inl 1) := sa_gd_ok h
theorem d_X1_hasRoof_0 : decode cX1_hasRoof 0 = .ok (.aload_n 0, 1) := by decide +kernel
theorem d_X1_hasRoof_1 : decode cX1_hasRoof 1 = .ok (.iconst 0, 1) := by decide +kernel
theorem d_X1_hasRoof_2 : decode cX1_hasRoof 2 = .ok (.iload_n 1, 1) := by decide +kernel
theorem d_X1_hasRoof_3 : decode cX1_hasRoof 3 = .ok (.iconst 1, 1) := by decide +kernel
theorem d_X1_hasRoof_4 : decode cX1_hasRoof 4 = .ok (.invokevirtual 31, 3) := by decide +kernel
theorem d_X1_hasRoof_7 : decode cX1_hasRoof 7 = .ok (.iconst 1, 1) := by decide +kernel
theorem d_X1_hasRoof_8 : decode cX1_hasRoof 8 = .ok (.if_icmp .ne 7, 3) := by decide +kernel
theorem d_X1_hasRoof_11 : decode cX1_hasRoof 11 = .ok (.iconst 1, 1) := by decide +kernel
theorem d_X1_hasRoof_12 : decode cX1_hasRoof 12 = .ok (.goto 4, 3) := by decide +kernel
theorem d_X1_hasRoof_15 : decode cX1_hasRoof 15 = .ok (.iconst 0, 1) := by decide +kernel
theorem d_X1_hasRoof_16 : decode cX1_hasRoof 16 = .ok (.ireturn, 1) := by decide +kernel
def f_X1_hasRoof (this : Nat) (a1 : Int32) : sa_M Int32 :=
sa_gd 1 this (
sa_bnd (f_X1_cell this 0 a1 1) fun v1 =>
sa_jn1 (fun (y2 : Int32) =>
sa_retZ y2) fun j16 =>
if ¬ v1 = 1 then
j16 0
else
j16 1)
set_option maxHeartbeats 1000000 in
set_option maxRecDepth 10000 in
theorem b_X1_hasRoof {p : Program} {l : Launch} {e : Env} {s : State} {m : MethodId} {args : Array Value} {below : List Frame} {meth : Method} {c : Code} {D : va_G} {ad : Nat → Nat} {cA : FieldType → ClassId} {A : Nat → Prop} (this : Nat) (a1 : Int32) (C : sa_C p s m args meth c cX1_hasRoof RX1 "hasRoof" 2 (some .boolean) D ad cA A) : sa_Sg p l e s m args below meth c 2 2 D ad cA A sa_eI 0 [(0, .ref (ad this)), (1, .int a1)] [] (f_X1_hasRoof this a1) := by
  unfold f_X1_hasRoof
  refine sa_gdI ?_
  refine sa_aload_n C d_X1_hasRoof_0 rfl 0 rfl ?_
  refine sa_iconst (v := 0) C d_X1_hasRoof_1 (by decide) ?_
  refine sa_iload_n C d_X1_hasRoof_2 rfl 1 rfl ?_
  refine sa_iconst (v := 1) C d_X1_hasRoof_3 (by decide) ?_
  refine sa_invV (ci := 1) C (k_X1_cell this 0 a1 1) q644 ds_X1_cell q116 rfl q642 q643 q641 (gd_X1_cell this 0 a1 1) rfl rfl rfl (Nat.le_of_ble_eq_true rfl) (by decide) (by decide) d_X1_hasRoof_4 (fun v1 => ?_)
  refine sa_iconst (v := 1) C d_X1_hasRoof_7 (by decide) ?_
  refine sa_join1 16 (fun y2 => []) (fun y2 => [.int y2]) (fun y2 => ?_) (fun j16 hj16 => ?_)
  · exact sa_zret C d_X1_hasRoof_16
  refine sa_icmp_ne (tgt := 15) C d_X1_hasRoof_8 (by decide) ?_ ?_
  · refine sa_iconst (v := 0) C d_X1_hasRoof_15 (by decide) ?_
    exact sa_sub [] rfl (hj16 _)
  refine sa_iconst (v := 1) C d_X1_hasRoof_11 (by decide) ?_
  refine sa_goto (tgt := 16) C d_X1_hasRoof_12 (by decide) ?_
  exact sa_sub [] rfl (hj16 _)
theorem k_X1_hasRoof (this : Nat) (a1 : Int32) : sa_Met 2 yX1_hasRoof cX1_hasRoof 2 (some .boolean) (fun ad => [.ref (ad this), .int a1]) sa_eI (f_X1_hasRoof this a1) := sa_mk (by decide) (fun ad => Nat.le_of_ble_eq_true rfl) (fun p l e s m args below meth c D ad cA A C => b_X1_hasRoof this a1 C)
theorem gd_X1_hasRoof (this : Nat) (a1 : Int32) (σ : sa_St) (r : Int32) (τ : sa_St) (h : f_X1_hasRoof this a1 σ = some (r, τ)) : sa_sh this = some (.inl 1) := sa_gd_ok h
theorem d_X1_isWithin_0 : decode cX1_isWithin 0 = .ok (.aload_n 0, 1) := by decide +kernel
theorem d_X1_isWithin_1 : decode cX1_isWithin 1 = .ok (.getfield 24, 3) := by decide +kernel
theorem d_X1_isWithin_4 : decode cX1_isWithin 4 = .ok (.iload_n 1, 1) := by decide +kernel
theorem d_X1_isWithin_5 : decode cX1_isWithin 5 = .ok (.bipush 8, 2) := by decide +kernel
theorem d_X1_isWithin_7 : decode cX1_isWithin 7 = .ok (.imul, 1) := by decide +kernel
theorem d_X1_isWithin_8 : decode cX1_isWithin 8 = .ok (.iload_n 2, 1) := by decide +kernel
theorem d_X1_isWithin_9 : decode cX1_isWithin 9 = .ok (.iadd, 1) := by decide +kernel
theorem d_X1_isWithin_10 : decode cX1_isWithin 10 = .ok (.iaload, 1) := by decide +kernel
theorem d_X1_isWithin_11 : decode cX1_isWithin 11 = .ok (.iload_n 3, 1) := by decide +kernel
theorem d_X1_isWithin_12 : decode cX1_isWithin 12 = .ok (.if_icmp .gt 7, 3) := by decide +kernel
theorem d_X1_isWithin_15 : decode cX1_isWithin 15 = .ok (.iconst 1, 1) := by decide +kernel
theorem d_X1_isWithin_16 : decode cX1_isWithin 16 = .ok (.goto 4, 3) := by decide +kernel
theorem d_X1_isWithin_19 : decode cX1_isWithin 19 = .ok (.iconst 0, 1) := by decide +kernel
theorem d_X1_isWithin_20 : decode cX1_isWithin 20 = .ok (.ireturn, 1) := by decide +kernel
def f_X1_isWithin (this : Nat) (a1 : Int32) (a2 : Int32) (a3 : Int32) : sa_M Int32 :=
sa_gd 1 this (
sa_bnd (sa_rdR 1 this 4) fun v1 =>
sa_bnd (sa_ldI .int v1 ((a1 * 8) + a2)) fun v2 =>
sa_jn1 (fun (y3 : Int32) =>
sa_retZ y3) fun j20 =>
if a3 < v2 then
j20 0
else
j20 1)
set_option maxHeartbeats 1000000 in
set_option maxRecDepth 10000 in
theorem b_X1_isWithin {p : Program} {l : Launch} {e : Env} {s : State} {m : MethodId} {args : Array Value} {below : List Frame} {meth : Method} {c : Code} {D : va_G} {ad : Nat → Nat} {cA : FieldType → ClassId} {A : Nat → Prop} (this : Nat) (a1 : Int32) (a2 : Int32) (a3 : Int32) (C : sa_C p s m args meth c cX1_isWithin RX1 "isWithin" 4 (some .boolean) D ad cA A) : sa_Sg p l e s m args below meth c 4 1 D ad cA A sa_eI 0 [(0, .ref (ad this)), (1, .int a1), (2, .int a2), (3, .int a3)] [] (f_X1_isWithin this a1 a2 a3) := by
  unfold f_X1_isWithin
  refine sa_gdI ?_
  refine sa_aload_n C d_X1_isWithin_0 rfl 0 rfl ?_
  refine sa_getR C fd_X1_24 rfl d_X1_isWithin_1 (fun v1 => ?_)
  refine sa_iload_n C d_X1_isWithin_4 rfl 1 rfl ?_
  refine sa_bipush (v := 8) C d_X1_isWithin_5 (by decide) ?_
  refine sa_imul C d_X1_isWithin_7 ?_
  refine sa_iload_n C d_X1_isWithin_8 rfl 2 rfl ?_
  refine sa_iadd C d_X1_isWithin_9 ?_
  refine sa_iald C d_X1_isWithin_10 (fun v2 => ?_)
  refine sa_iload_n C d_X1_isWithin_11 rfl 3 rfl ?_
  refine sa_join1 20 (fun y3 => []) (fun y3 => [.int y3]) (fun y3 => ?_) (fun j20 hj20 => ?_)
  · exact sa_zret C d_X1_isWithin_20
  refine sa_icmp_gt (tgt := 19) C d_X1_isWithin_12 (by decide) ?_ ?_
  · refine sa_iconst (v := 0) C d_X1_isWithin_19 (by decide) ?_
    exact sa_sub [] rfl (hj20 _)
  refine sa_iconst (v := 1) C d_X1_isWithin_15 (by decide) ?_
  refine sa_goto (tgt := 20) C d_X1_isWithin_16 (by decide) ?_
  exact sa_sub [] rfl (hj20 _)
theorem k_X1_isWithin (this : Nat) (a1 : Int32) (a2 : Int32) (a3 : Int32) : sa_Met 1 yX1_isWithin cX1_isWithin 4 (some .boolean) (fun ad => [.ref (ad this), .int a1, .int a2, .int a3]) sa_eI (f_X1_isWithin this a1 a2 a3) := sa_mk (by decide) (fun ad => Nat.le_of_ble_eq_true rfl) (fun p l e s m args below meth c D ad cA A C => b_X1_isWithin this a1 a2 a3 C)
theorem gd_X1_isWithin (this : Nat) (a1 : Int32) (a2 : Int32) (a3 : Int32) (σ : sa_St) (r : Int32) (τ : sa_St) (h : f_X1_isWithin this a1 a2 a3 σ = some (r, τ)) : sa_sh this = some (.inl 1) := sa_gd_ok h
theorem d_X1_isEmpty_0 : decode cX1_isEmpty 0 = .ok (.aload_n 0, 1) := by decide +kernel
theorem d_X1_isEmpty_1 : decode cX1_isEmpty 1 = .ok (.getfield 11, 3) := by decide +kernel
theorem d_X1_isEmpty_4 : decode cX1_isEmpty 4 = .ok (.iconst 0, 1) := by decide +kernel
theorem d_X1_isEmpty_5 : decode cX1_isEmpty 5 = .ok (.iaload, 1) := by decide +kernel
theorem d_X1_isEmpty_6 : decode cX1_isEmpty 6 = .ok (.ifCond .ne 7, 3) := by decide +kernel
theorem d_X1_isEmpty_9 : decode cX1_isEmpty 9 = .ok (.iconst 1, 1) := by decide +kernel
theorem d_X1_isEmpty_10 : decode cX1_isEmpty 10 = .ok (.goto 4, 3) := by decide +kernel
theorem d_X1_isEmpty_13 : decode cX1_isEmpty 13 = .ok (.iconst 0, 1) := by decide +kernel
theorem d_X1_isEmpty_14 : decode cX1_isEmpty 14 = .ok (.ireturn, 1) := by decide +kernel
def f_X1_isEmpty (this : Nat) : sa_M Int32 :=
sa_gd 1 this (
sa_bnd (sa_rdR 1 this 0) fun v1 =>
sa_bnd (sa_ldI .int v1 0) fun v2 =>
sa_jn1 (fun (y3 : Int32) =>
sa_retZ y3) fun j14 =>
if ¬ v2 = 0 then
j14 0
else
j14 1)
set_option maxHeartbeats 1000000 in
set_option maxRecDepth 10000 in
theorem b_X1_isEmpty {p : Program} {l : Launch} {e : Env} {s : State} {m : MethodId} {args : Array Value} {below : List Frame} {meth : Method} {c : Code} {D : va_G} {ad : Nat → Nat} {cA : FieldType → ClassId} {A : Nat → Prop} (this : Nat) (C : sa_C p s m args meth c cX1_isEmpty RX1 "isEmpty" 1 (some .boolean) D ad cA A) : sa_Sg p l e s m args below meth c 1 1 D ad cA A sa_eI 0 [(0, .ref (ad this))] [] (f_X1_isEmpty this) := by
  unfold f_X1_isEmpty
  refine sa_gdI ?_
  refine sa_aload_n C d_X1_isEmpty_0 rfl 0 rfl ?_
  refine sa_getR C fd_X1_11 rfl d_X1_isEmpty_1 (fun v1 => ?_)
  refine sa_iconst (v := 0) C d_X1_isEmpty_4 (by decide) ?_
  refine sa_iald C d_X1_isEmpty_5 (fun v2 => ?_)
  refine sa_join1 14 (fun y3 => []) (fun y3 => [.int y3]) (fun y3 => ?_) (fun j14 hj14 => ?_)
  · exact sa_zret C d_X1_isEmpty_14
  refine sa_if_ne (tgt := 13) C d_X1_isEmpty_6 (by decide) ?_ ?_
  · refine sa_iconst (v := 0) C d_X1_isEmpty_13 (by decide) ?_
    exact sa_sub [] rfl (hj14 _)
  refine sa_iconst (v := 1) C d_X1_isEmpty_9 (by decide) ?_
  refine sa_goto (tgt := 14) C d_X1_isEmpty_10 (by decide) ?_
  exact sa_sub [] rfl (hj14 _)
theorem k_X1_isEmpty (this : Nat) : sa_Met 1 yX1_isEmpty cX1_isEmpty 1 (some .boolean) (fun ad => [.ref (ad this)]) sa_eI (f_X1_isEmpty this) := sa_mk (by decide) (fun ad => Nat.le_of_ble_eq_true rfl) (fun p l e s m args below meth c D ad cA A C => b_X1_isEmpty this C)
theorem gd_X1_isEmpty (this : Nat) (σ : sa_St) (r : Int32) (τ : sa_St) (h : f_X1_isEmpty this σ = some (r, τ)) : sa_sh this = some (.inl 1) := sa_gd_ok h
theorem d_X1_allPlaces_0 : decode cX1_allPlaces 0 = .ok (.aload_n 0, 1) := by decide +kernel
theorem d_X1_allPlaces_1 : decode cX1_allPlaces 1 = .ok (.invokevirtual 27, 3) := by decide +kernel
theorem d_X1_allPlaces_4 : decode cX1_allPlaces 4 = .ok (.ifCond .eq 7, 3) := by decide +kernel
theorem d_X1_allPlaces_7 : decode cX1_allPlaces 7 = .ok (.iconst (-1), 1) := by decide +kernel
theorem d_X1_allPlaces_8 : decode cX1_allPlaces 8 = .ok (.goto 13, 3) := by decide +kernel
theorem d_X1_allPlaces_11 : decode cX1_allPlaces 11 = .ok (.iconst 1, 1) := by decide +kernel
theorem d_X1_allPlaces_12 : decode cX1_allPlaces 12 = .ok (.aload_n 0, 1) := by decide +kernel
theorem d_X1_allPlaces_13 : decode cX1_allPlaces 13 = .ok (.getfield 11, 3) := by decide +kernel
theorem d_X1_allPlaces_16 : decode cX1_allPlaces 16 = .ok (.iconst 0, 1) := by decide +kernel
theorem d_X1_allPlaces_17 : decode cX1_allPlaces 17 = .ok (.iaload, 1) := by decide +kernel
theorem d_X1_allPlaces_18 : decode cX1_allPlaces 18 = .ok (.ishl, 1) := by decide +kernel
theorem d_X1_allPlaces_19 : decode cX1_allPlaces 19 = .ok (.iconst 1, 1) := by decide +kernel
theorem d_X1_allPlaces_20 : decode cX1_allPlaces 20 = .ok (.isub, 1) := by decide +kernel
theorem d_X1_allPlaces_21 : decode cX1_allPlaces 21 = .ok (.ireturn, 1) := by decide +kernel
def f_X1_allPlaces (this : Nat) : sa_M Int32 :=
sa_gd 1 this (
sa_bnd (f_X1_isEmpty this) fun v1 =>
sa_jn1 (fun (y2 : Int32) =>
sa_ret (y2 : Int32)) fun j21 =>
if v1 = 0 then
sa_bnd (sa_rdR 1 this 0) fun v3 =>
sa_bnd (sa_ldI .int v3 0) fun v4 =>
j21 ((1 <<< (v4 &&& 31)) - 1)
else
j21 (-1))
set_option maxHeartbeats 1000000 in
set_option maxRecDepth 10000 in
theorem b_X1_allPlaces {p : Program} {l : Launch} {e : Env} {s : State} {m : MethodId} {args : Array Value} {below : List Frame} {meth : Method} {c : Code} {D : va_G} {ad : Nat → Nat} {cA : FieldType → ClassId} {A : Nat → Prop} (this : Nat) (C : sa_C p s m args meth c cX1_allPlaces RX1 "allPlaces" 1 (some .int) D ad cA A) : sa_Sg p l e s m args below meth c 1 2 D ad cA A sa_eI 0 [(0, .ref (ad this))] [] (f_X1_allPlaces this) := by
  unfold f_X1_allPlaces
  refine sa_gdI ?_
  refine sa_aload_n C d_X1_allPlaces_0 rfl 0 rfl ?_
  refine sa_invV (ci := 1) C (k_X1_isEmpty this) q829 ds_X1_isEmpty q116 rfl q827 q828 q932 (gd_X1_isEmpty this) rfl rfl rfl (Nat.le_of_ble_eq_true rfl) (by decide) (by decide) d_X1_allPlaces_1 (fun v1 => ?_)
  refine sa_join1 21 (fun y2 => []) (fun y2 => [.int y2]) (fun y2 => ?_) (fun j21 hj21 => ?_)
  · exact sa_iret C d_X1_allPlaces_21
  refine sa_if_eq (tgt := 11) C d_X1_allPlaces_4 (by decide) ?_ ?_
  · refine sa_iconst (v := 1) C d_X1_allPlaces_11 (by decide) ?_
    refine sa_aload_n C d_X1_allPlaces_12 rfl 0 rfl ?_
    refine sa_getR C fd_X1_11 rfl d_X1_allPlaces_13 (fun v3 => ?_)
    refine sa_iconst (v := 0) C d_X1_allPlaces_16 (by decide) ?_
    refine sa_iald C d_X1_allPlaces_17 (fun v4 => ?_)
    refine sa_ishl C d_X1_allPlaces_18 ?_
    refine sa_iconst (v := 1) C d_X1_allPlaces_19 (by decide) ?_
    refine sa_isub C d_X1_allPlaces_20 ?_
    exact sa_sub [] rfl (hj21 _)
  refine sa_iconst (v := (-1)) C d_X1_allPlaces_7 (by decide) ?_
  refine sa_goto (tgt := 21) C d_X1_allPlaces_8 (by decide) ?_
  exact sa_sub [] rfl (hj21 _)
theorem k_X1_allPlaces (this : Nat) : sa_Met 2 yX1_allPlaces cX1_allPlaces 1 (some .int) (fun ad => [.ref (ad this)]) sa_eI (f_X1_allPlaces this) := sa_mk (by decide) (fun ad => Nat.le_of_ble_eq_true rfl) (fun p l e s m args below meth c D ad cA A C => b_X1_allPlaces this C)
theorem gd_X1_allPlaces (this : Nat) (σ : sa_St) (r : Int32) (τ : sa_St) (h : f_X1_allPlaces this σ = some (r, τ)) : sa_sh this = some (.inl 1) := sa_gd_ok h
theorem d_X1_hoursBetween_0 : decode cX1_hoursBetween 0 = .ok (.aload_n 0, 1) := by decide +kernel
theorem d_X1_hoursBetween_1 : decode cX1_hoursBetween 1 = .ok (.getfield 21, 3) := by decide +kernel
theorem d_X1_hoursBetween_4 : decode cX1_hoursBetween 4 = .ok (.iload_n 1, 1) := by decide +kernel
theorem d_X1_hoursBetween_5 : decode cX1_hoursBetween 5 = .ok (.bipush 8, 2) := by decide +kernel
theorem d_X1_hoursBetween_7 : decode cX1_hoursBetween 7 = .ok (.imul, 1) := by decide +kernel
theorem d_X1_hoursBetween_8 : decode cX1_hoursBetween 8 = .ok (.iload_n 2, 1) := by decide +kernel
theorem d_X1_hoursBetween_9 : decode cX1_hoursBetween 9 = .ok (.iadd, 1) := by decide +kernel
theorem d_X1_hoursBetween_10 : decode cX1_hoursBetween 10 = .ok (.iaload, 1) := by decide +kernel
theorem d_X1_hoursBetween_11 : decode cX1_hoursBetween 11 = .ok (.istore_n 3, 1) := by decide +kernel
theorem d_X1_hoursBetween_12 : decode cX1_hoursBetween 12 = .ok (.iload_n 3, 1) := by decide +kernel
theorem d_X1_hoursBetween_13 : decode cX1_hoursBetween 13 = .ok (.sipush 1000, 3) := by decide +kernel
theorem d_X1_hoursBetween_16 : decode cX1_hoursBetween 16 = .ok (.if_icmp .ge 7, 3) := by decide +kernel
theorem d_X1_hoursBetween_19 : decode cX1_hoursBetween 19 = .ok (.iload_n 3, 1) := by decide +kernel
theorem d_X1_hoursBetween_20 : decode cX1_hoursBetween 20 = .ok (.goto 4, 3) := by decide +kernel
theorem d_X1_hoursBetween_23 : decode cX1_hoursBetween 23 = .ok (.iconst (-1), 1) := by decide +kernel
theorem d_X1_hoursBetween_24 : decode cX1_hoursBetween 24 = .ok (.ireturn, 1) := by decide +kernel
def f_X1_hoursBetween (this : Nat) (a1 : Int32) (a2 : Int32) : sa_M Int32 :=
sa_gd 1 this (
sa_bnd (sa_rdR 1 this 3) fun v1 =>
sa_bnd (sa_ldI .int v1 ((a1 * 8) + a2)) fun v2 =>
sa_jn1 (fun (y3 : Int32) =>
sa_ret (y3 : Int32)) fun j24 =>
if 1000 ≤ v2 then
j24 (-1)
else
j24 v2)
set_option maxHeartbeats 1000000 in
set_option maxRecDepth 10000 in
theorem b_X1_hoursBetween {p : Program} {l : Launch} {e : Env} {s : State} {m : MethodId} {args : Array Value} {below : List Frame} {meth : Method} {c : Code} {D : va_G} {ad : Nat → Nat} {cA : FieldType → ClassId} {A : Nat → Prop} (this : Nat) (a1 : Int32) (a2 : Int32) (C : sa_C p s m args meth c cX1_hoursBetween RX1 "hoursBetween" 4 (some .int) D ad cA A) : sa_Sg p l e s m args below meth c 4 1 D ad cA A sa_eI 0 [(0, .ref (ad this)), (1, .int a1), (2, .int a2)] [] (f_X1_hoursBetween this a1 a2) := by
  unfold f_X1_hoursBetween
  refine sa_gdI ?_
  refine sa_aload_n C d_X1_hoursBetween_0 rfl 0 rfl ?_
  refine sa_getR C fd_X1_21 rfl d_X1_hoursBetween_1 (fun v1 => ?_)
  refine sa_iload_n C d_X1_hoursBetween_4 rfl 1 rfl ?_
  refine sa_bipush (v := 8) C d_X1_hoursBetween_5 (by decide) ?_
  refine sa_imul C d_X1_hoursBetween_7 ?_
  refine sa_iload_n C d_X1_hoursBetween_8 rfl 2 rfl ?_
  refine sa_iadd C d_X1_hoursBetween_9 ?_
  refine sa_iald C d_X1_hoursBetween_10 (fun v2 => ?_)
  refine sa_istore_n (lv' := [(3, .int v2), (0, .ref (ad this)), (1, .int a1), (2, .int a2)]) C d_X1_hoursBetween_11 rfl (by decide) rfl ?_
  refine sa_iload_n C d_X1_hoursBetween_12 rfl 0 rfl ?_
  refine sa_sipush (v := 1000) C d_X1_hoursBetween_13 (by decide) ?_
  refine sa_join1 24 (fun y3 => []) (fun y3 => [.int y3]) (fun y3 => ?_) (fun j24 hj24 => ?_)
  · exact sa_iret C d_X1_hoursBetween_24
  refine sa_icmp_ge (tgt := 23) C d_X1_hoursBetween_16 (by decide) ?_ ?_
  · refine sa_iconst (v := (-1)) C d_X1_hoursBetween_23 (by decide) ?_
    exact sa_sub [] rfl (hj24 _)
  refine sa_iload_n C d_X1_hoursBetween_19 rfl 0 rfl ?_
  refine sa_goto (tgt := 24) C d_X1_hoursBetween_20 (by decide) ?_
  exact sa_sub [] rfl (hj24 _)
theorem k_X1_hoursBetween (this : Nat) (a1 : Int32) (a2 : Int32) : sa_Met 1 yX1_hoursBetween cX1_hoursBetween 4 (some .int) (fun ad => [.ref (ad this), .int a1, .int a2]) sa_eI (f_X1_hoursBetween this a1 a2) := sa_mk (by decide) (fun ad => Nat.le_of_ble_eq_true rfl) (fun p l e s m args below meth c D ad cA A C => b_X1_hoursBetween this a1 a2 C)
theorem gd_X1_hoursBetween (this : Nat) (a1 : Int32) (a2 : Int32) (σ : sa_St) (r : Int32) (τ : sa_St) (h : f_X1_hoursBetween this a1 a2 σ = some (r, τ)) : sa_sh this = some (.inl 1) := sa_gd_ok h
theorem d_X1_hoursToRoof_0 : decode cX1_hoursToRoof 0 = .ok (.sipush 1000, 3) := by decide +kernel
theorem d_X1_hoursToRoof_3 : decode cX1_hoursToRoof 3 = .ok (.istore_n 2, 1) := by decide +kernel
theorem d_X1_hoursToRoof_4 : decode cX1_hoursToRoof 4 = .ok (.iconst 0, 1) := by decide +kernel
theorem d_X1_hoursToRoof_5 : decode cX1_hoursToRoof 5 = .ok (.istore_n 3, 1) := by decide +kernel
theorem d_X1_hoursToRoof_6 : decode cX1_hoursToRoof 6 = .ok (.iload_n 3, 1) := by decide +kernel
theorem d_X1_hoursToRoof_7 : decode cX1_hoursToRoof 7 = .ok (.aload_n 0, 1) := by decide +kernel
theorem d_X1_hoursToRoof_8 : decode cX1_hoursToRoof 8 = .ok (.getfield 11, 3) := by decide +kernel
theorem d_X1_hoursToRoof_11 : decode cX1_hoursToRoof 11 = .ok (.iconst 0, 1) := by decide +kernel
theorem d_X1_hoursToRoof_12 : decode cX1_hoursToRoof 12 = .ok (.iaload, 1) := by decide +kernel
theorem d_X1_hoursToRoof_13 : decode cX1_hoursToRoof 13 = .ok (.if_icmp .ge 33, 3) := by decide +kernel
theorem d_X1_hoursToRoof_16 : decode cX1_hoursToRoof 16 = .ok (.aload_n 0, 1) := by decide +kernel
theorem d_X1_hoursToRoof_17 : decode cX1_hoursToRoof 17 = .ok (.iload_n 3, 1) := by decide +kernel
theorem d_X1_hoursToRoof_18 : decode cX1_hoursToRoof 18 = .ok (.invokevirtual 35, 3) := by decide +kernel
theorem d_X1_hoursToRoof_21 : decode cX1_hoursToRoof 21 = .ok (.ifCond .eq 19, 3) := by decide +kernel
theorem d_X1_hoursToRoof_24 : decode cX1_hoursToRoof 24 = .ok (.iload_n 2, 1) := by decide +kernel
theorem d_X1_hoursToRoof_25 : decode cX1_hoursToRoof 25 = .ok (.aload_n 0, 1) := by decide +kernel
theorem d_X1_hoursToRoof_26 : decode cX1_hoursToRoof 26 = .ok (.getfield 21, 3) := by decide +kernel
theorem d_X1_hoursToRoof_29 : decode cX1_hoursToRoof 29 = .ok (.iload_n 1, 1) := by decide +kernel
theorem d_X1_hoursToRoof_30 : decode cX1_hoursToRoof 30 = .ok (.bipush 8, 2) := by decide +kernel
theorem d_X1_hoursToRoof_32 : decode cX1_hoursToRoof 32 = .ok (.imul, 1) := by decide +kernel
theorem d_X1_hoursToRoof_33 : decode cX1_hoursToRoof 33 = .ok (.iload_n 3, 1) := by decide +kernel
theorem d_X1_hoursToRoof_34 : decode cX1_hoursToRoof 34 = .ok (.iadd, 1) := by decide +kernel
theorem d_X1_hoursToRoof_35 : decode cX1_hoursToRoof 35 = .ok (.iaload, 1) := by decide +kernel
theorem d_X1_hoursToRoof_36 : decode cX1_hoursToRoof 36 = .ok (.invokestatic 39, 3) := by decide +kernel
theorem d_X1_hoursToRoof_39 : decode cX1_hoursToRoof 39 = .ok (.istore_n 2, 1) := by decide +kernel
theorem d_X1_hoursToRoof_40 : decode cX1_hoursToRoof 40 = .ok (.iinc 3 1, 3) := by decide +kernel
theorem d_X1_hoursToRoof_43 : decode cX1_hoursToRoof 43 = .ok (.goto (-37), 3) := by decide +kernel
theorem d_X1_hoursToRoof_46 : decode cX1_hoursToRoof 46 = .ok (.iload_n 2, 1) := by decide +kernel
theorem d_X1_hoursToRoof_47 : decode cX1_hoursToRoof 47 = .ok (.sipush 1000, 3) := by decide +kernel
theorem d_X1_hoursToRoof_50 : decode cX1_hoursToRoof 50 = .ok (.if_icmp .ge 7, 3) := by decide +kernel
theorem d_X1_hoursToRoof_53 : decode cX1_hoursToRoof 53 = .ok (.iload_n 2, 1) := by decide +kernel
theorem d_X1_hoursToRoof_54 : decode cX1_hoursToRoof 54 = .ok (.goto 4, 3) := by decide +kernel
theorem d_X1_hoursToRoof_57 : decode cX1_hoursToRoof 57 = .ok (.iconst (-1), 1) := by decide +kernel
theorem d_X1_hoursToRoof_58 : decode cX1_hoursToRoof 58 = .ok (.ireturn, 1) := by decide +kernel
def f_X1_hoursToRoof (this : Nat) (a1 : Int32) : sa_M Int32 :=
sa_gd 1 this (
sa_let (1000 : Int32) fun x1 =>
sa_let (0 : Int32) fun x2 =>
sa_wh2 (fun j6 (x3 : Int32) (x4 : Int32) =>
sa_bnd (sa_rdR 1 this 0) fun v5 =>
sa_bnd (sa_ldI .int v5 0) fun v6 =>
if v6 ≤ x4 then
sa_jn1 (fun (y7 : Int32) =>
sa_ret (y7 : Int32)) fun j58 =>
if 1000 ≤ x3 then
j58 (-1)
else
j58 x3
else
sa_bnd (f_X1_hasRoof this x4) fun v8 =>
sa_jn1 (fun (x9 : Int32) =>
sa_let ((x4 + 1) : Int32) fun x10 =>
j6 x9 x10) fun j40 =>
if v8 = 0 then
j40 x3
else
sa_bnd (sa_rdR 1 this 3) fun v11 =>
sa_bnd (sa_ldI .int v11 ((a1 * 8) + x4)) fun v12 =>
sa_let ((sa_min x3 v12) : Int32) fun x13 =>
j40 x13) sa_F x1 x2)
set_option maxHeartbeats 1000000 in
set_option maxRecDepth 10000 in
theorem b_X1_hoursToRoof {p : Program} {l : Launch} {e : Env} {s : State} {m : MethodId} {args : Array Value} {below : List Frame} {meth : Method} {c : Code} {D : va_G} {ad : Nat → Nat} {cA : FieldType → ClassId} {A : Nat → Prop} (this : Nat) (a1 : Int32) (C : sa_C p s m args meth c cX1_hoursToRoof RX1 "hoursToRoof" 4 (some .int) D ad cA A) : sa_Sg p l e s m args below meth c 4 3 D ad cA A sa_eI 0 [(0, .ref (ad this)), (1, .int a1)] [] (f_X1_hoursToRoof this a1) := by
  unfold f_X1_hoursToRoof
  refine sa_gdI ?_
  refine sa_sipush (v := 1000) C d_X1_hoursToRoof_0 (by decide) ?_
  refine sa_topi (fun x1 => ?_)
  refine sa_istore_n (lv' := [(2, .int x1), (0, .ref (ad this)), (1, .int a1)]) C d_X1_hoursToRoof_3 rfl (by decide) rfl ?_
  refine sa_iconst (v := 0) C d_X1_hoursToRoof_4 (by decide) ?_
  refine sa_topi (fun x2 => ?_)
  refine sa_istore_n (lv' := [(3, .int x2), (2, .int x1), (0, .ref (ad this)), (1, .int a1)]) C d_X1_hoursToRoof_5 rfl (by decide) rfl ?_
  refine sa_sub [2, 3, 1, 0] rfl (sa_loop2 (fun x3 x4 => [(0, .ref (ad this)), (1, .int a1), (2, .int x3), (3, .int x4)]) (fun x3 x4 => []) (fun j6 hj6 x3 x4 => ?_) _ _ _)
  refine sa_iload_n C d_X1_hoursToRoof_6 rfl 3 rfl ?_
  refine sa_aload_n C d_X1_hoursToRoof_7 rfl 0 rfl ?_
  refine sa_getR C fd_X1_11 rfl d_X1_hoursToRoof_8 (fun v5 => ?_)
  refine sa_iconst (v := 0) C d_X1_hoursToRoof_11 (by decide) ?_
  refine sa_iald C d_X1_hoursToRoof_12 (fun v6 => ?_)
  refine sa_icmp_ge (tgt := 46) C d_X1_hoursToRoof_13 (by decide) ?_ ?_
  · refine sa_iload_n C d_X1_hoursToRoof_46 rfl 2 rfl ?_
    refine sa_sipush (v := 1000) C d_X1_hoursToRoof_47 (by decide) ?_
    refine sa_join1 58 (fun y7 => []) (fun y7 => [.int y7]) (fun y7 => ?_) (fun j58 hj58 => ?_)
    · exact sa_iret C d_X1_hoursToRoof_58
    refine sa_icmp_ge (tgt := 57) C d_X1_hoursToRoof_50 (by decide) ?_ ?_
    · refine sa_iconst (v := (-1)) C d_X1_hoursToRoof_57 (by decide) ?_
      exact sa_sub [] rfl (hj58 _)
    refine sa_iload_n C d_X1_hoursToRoof_53 rfl 2 rfl ?_
    refine sa_goto (tgt := 58) C d_X1_hoursToRoof_54 (by decide) ?_
    exact sa_sub [] rfl (hj58 _)
  refine sa_aload_n C d_X1_hoursToRoof_16 rfl 0 rfl ?_
  refine sa_iload_n C d_X1_hoursToRoof_17 rfl 3 rfl ?_
  refine sa_invV (ci := 1) C (k_X1_hasRoof this x4) q885 ds_X1_hasRoof q116 rfl q883 q884 q1278 (gd_X1_hasRoof this x4) rfl rfl rfl (Nat.le_of_ble_eq_true rfl) (by decide) (by decide) d_X1_hoursToRoof_18 (fun v8 => ?_)
  refine sa_join1 40 (fun x9 => [(0, .ref (ad this)), (1, .int a1), (2, .int x9), (3, .int x4)]) (fun x9 => []) (fun x9 => ?_) (fun j40 hj40 => ?_)
  · refine sa_iinc C (fun zz => [(3, .int zz), (0, .ref (ad this)), (1, .int a1), (2, .int x9)]) d_X1_hoursToRoof_40 3 rfl rfl (by decide) (fun _ => rfl) (fun x10 => ?_)
    refine sa_goto (tgt := 6) C d_X1_hoursToRoof_43 (by decide) ?_
    exact sa_sub [1, 2, 3, 0] rfl (hj6 _ _)
  refine sa_if_eq (tgt := 40) C d_X1_hoursToRoof_21 (by decide) ?_ ?_
  · exact sa_sub [0, 1, 2, 3] rfl (hj40 _)
  refine sa_iload_n C d_X1_hoursToRoof_24 rfl 2 rfl ?_
  refine sa_aload_n C d_X1_hoursToRoof_25 rfl 0 rfl ?_
  refine sa_getR C fd_X1_21 rfl d_X1_hoursToRoof_26 (fun v11 => ?_)
  refine sa_iload_n C d_X1_hoursToRoof_29 rfl 1 rfl ?_
  refine sa_bipush (v := 8) C d_X1_hoursToRoof_30 (by decide) ?_
  refine sa_imul C d_X1_hoursToRoof_32 ?_
  refine sa_iload_n C d_X1_hoursToRoof_33 rfl 3 rfl ?_
  refine sa_iadd C d_X1_hoursToRoof_34 ?_
  refine sa_iald C d_X1_hoursToRoof_35 (fun v12 => ?_)
  refine sa_mmin C q746 (Nat.le_of_ble_eq_true rfl) (by decide) q530 q130 q531 d_X1_hoursToRoof_36 ?_
  refine sa_topi (fun x13 => ?_)
  refine sa_istore_n (lv' := [(2, .int x13), (0, .ref (ad this)), (1, .int a1), (3, .int x4)]) C d_X1_hoursToRoof_39 rfl (by decide) rfl ?_
  exact sa_sub [1, 2, 0, 3] rfl (hj40 _)
theorem k_X1_hoursToRoof (this : Nat) (a1 : Int32) : sa_Met 3 yX1_hoursToRoof cX1_hoursToRoof 4 (some .int) (fun ad => [.ref (ad this), .int a1]) sa_eI (f_X1_hoursToRoof this a1) := sa_mk (by decide) (fun ad => Nat.le_of_ble_eq_true rfl) (fun p l e s m args below meth c D ad cA A C => b_X1_hoursToRoof this a1 C)
theorem gd_X1_hoursToRoof (this : Nat) (a1 : Int32) (σ : sa_St) (r : Int32) (τ : sa_St) (h : f_X1_hoursToRoof this a1 σ = some (r, τ)) : sa_sh this = some (.inl 1) := sa_gd_ok h
theorem d_X1_itemOf_0 : decode cX1_itemOf 0 = .ok (.iconst 0, 1) := by decide +kernel
theorem d_X1_itemOf_1 : decode cX1_itemOf 1 = .ok (.istore_n 2, 1) := by decide +kernel
theorem d_X1_itemOf_2 : decode cX1_itemOf 2 = .ok (.iload_n 2, 1) := by decide +kernel
theorem d_X1_itemOf_3 : decode cX1_itemOf 3 = .ok (.getstatic 110, 3) := by decide +kernel
theorem d_X1_itemOf_6 : decode cX1_itemOf 6 = .ok (.iload_n 0, 1) := by decide +kernel
theorem d_X1_itemOf_7 : decode cX1_itemOf 7 = .ok (.iaload, 1) := by decide +kernel
theorem d_X1_itemOf_8 : decode cX1_itemOf 8 = .ok (.if_icmp .ge 25, 3) := by decide +kernel
theorem d_X1_itemOf_11 : decode cX1_itemOf 11 = .ok (.ldc 113, 2) := by decide +kernel
theorem d_X1_itemOf_13 : decode cX1_itemOf 13 = .ok (.iload_n 0, 1) := by decide +kernel
theorem d_X1_itemOf_14 : decode cX1_itemOf 14 = .ok (.iconst 5, 1) := by decide +kernel
theorem d_X1_itemOf_15 : decode cX1_itemOf 15 = .ok (.imul, 1) := by decide +kernel
theorem d_X1_itemOf_16 : decode cX1_itemOf 16 = .ok (.iload_n 2, 1) := by decide +kernel
theorem d_X1_itemOf_17 : decode cX1_itemOf 17 = .ok (.iadd, 1) := by decide +kernel
theorem d_X1_itemOf_18 : decode cX1_itemOf 18 = .ok (.invokevirtual 115, 3) := by decide +kernel
theorem d_X1_itemOf_21 : decode cX1_itemOf 21 = .ok (.iload_n 1, 1) := by decide +kernel
theorem d_X1_itemOf_22 : decode cX1_itemOf 22 = .ok (.if_icmp .ne 5, 3) := by decide +kernel
theorem d_X1_itemOf_25 : decode cX1_itemOf 25 = .ok (.iload_n 2, 1) := by decide +kernel
theorem d_X1_itemOf_26 : decode cX1_itemOf 26 = .ok (.ireturn, 1) := by decide +kernel
theorem d_X1_itemOf_27 : decode cX1_itemOf 27 = .ok (.iinc 2 1, 3) := by decide +kernel
theorem d_X1_itemOf_30 : decode cX1_itemOf 30 = .ok (.goto (-28), 3) := by decide +kernel
theorem d_X1_itemOf_33 : decode cX1_itemOf 33 = .ok (.iconst (-1), 1) := by decide +kernel
theorem d_X1_itemOf_34 : decode cX1_itemOf 34 = .ok (.ireturn, 1) := by decide +kernel
def f_X1_itemOf (a1 : Int32) (a2 : Int32) : sa_M Int32 :=
sa_let (0 : Int32) fun x1 =>
sa_wh1 (fun j2 (x2 : Int32) =>
sa_bnd (sa_tb 1 a1) fun v3 =>
if v3 ≤ x2 then
sa_ret ((-1) : Int32)
else
sa_bnd (f_J0_charAt_5068e (1000 + 2) ((a1 * 5) + x2)) fun v4 =>
if ¬ v4 = a2 then
sa_let ((x2 + 1) : Int32) fun x5 =>
j2 x5
else
sa_ret (x2 : Int32)) sa_F x1
set_option maxHeartbeats 1000000 in
set_option maxRecDepth 10000 in
theorem b_X1_itemOf {p : Program} {l : Launch} {e : Env} {s : State} {m : MethodId} {args : Array Value} {below : List Frame} {meth : Method} {c : Code} {D : va_G} {ad : Nat → Nat} {cA : FieldType → ClassId} {A : Nat → Prop} (a1 : Int32) (a2 : Int32) (C : sa_C p s m args meth c cX1_itemOf RX1 "itemOf" 3 (some .int) D ad cA A) : sa_Sg p l e s m args below meth c 3 5 D ad cA A sa_eI 0 [(0, .int a1), (1, .int a2)] [] (f_X1_itemOf a1 a2) := by
  unfold f_X1_itemOf
  refine sa_iconst (v := 0) C d_X1_itemOf_0 (by decide) ?_
  refine sa_topi (fun x1 => ?_)
  refine sa_istore_n (lv' := [(2, .int x1), (0, .int a1), (1, .int a2)]) C d_X1_itemOf_1 rfl (by decide) rfl ?_
  refine sa_sub [1, 2, 0] rfl (sa_loop1 (fun x2 => [(0, .int a1), (1, .int a2), (2, .int x2)]) (fun x2 => []) (fun j2 hj2 x2 => ?_) _ _)
  refine sa_iload_n C d_X1_itemOf_2 rfl 2 rfl ?_
  refine sa_gets (j := 1) C rfl q598 d_X1_itemOf_3 ?_
  refine sa_iload_n C d_X1_itemOf_6 rfl 0 rfl ?_
  refine sa_tld C rfl d_X1_itemOf_7 (fun v3 => ?_)
  refine sa_icmp_ge (tgt := 33) C d_X1_itemOf_8 (by decide) ?_ ?_
  · refine sa_iconst (v := (-1)) C d_X1_itemOf_33 (by decide) ?_
    exact sa_iret C d_X1_itemOf_34
  refine sa_ldcS C 2 rfl d_X1_itemOf_11 ?_
  refine sa_iload_n C d_X1_itemOf_13 rfl 0 rfl ?_
  refine sa_iconst (v := 5) C d_X1_itemOf_14 (by decide) ?_
  refine sa_imul C d_X1_itemOf_15 ?_
  refine sa_iload_n C d_X1_itemOf_16 rfl 2 rfl ?_
  refine sa_iadd C d_X1_itemOf_17 ?_
  refine sa_invK C (k_J0_charAt_5068e (1000 + 2) ((a1 * 5) + x2)) q604 ds_J0_charAt_5068e q118 rfl q602 q603 q601 (gd_J0_charAt_5068e (1000 + 2) ((a1 * 5) + x2)) rfl rfl rfl (Nat.le_of_ble_eq_true rfl) (by decide) (by decide) d_X1_itemOf_18 (fun v4 => ?_)
  refine sa_iload_n C d_X1_itemOf_21 rfl 1 rfl ?_
  refine sa_icmp_ne (tgt := 27) C d_X1_itemOf_22 (by decide) ?_ ?_
  · refine sa_iinc C (fun zz => [(2, .int zz), (0, .int a1), (1, .int a2)]) d_X1_itemOf_27 2 rfl rfl (by decide) (fun _ => rfl) (fun x5 => ?_)
    refine sa_goto (tgt := 2) C d_X1_itemOf_30 (by decide) ?_
    exact sa_sub [1, 2, 0] rfl (hj2 _)
  refine sa_iload_n C d_X1_itemOf_25 rfl 2 rfl ?_
  exact sa_iret C d_X1_itemOf_26
theorem k_X1_itemOf (a1 : Int32) (a2 : Int32) : sa_Met 5 yX1_itemOf cX1_itemOf 3 (some .int) (fun ad => [.int a1, .int a2]) sa_eI (f_X1_itemOf a1 a2) := sa_mk (by decide) (fun ad => Nat.le_of_ble_eq_true rfl) (fun p l e s m args below meth c D ad cA A C => b_X1_itemOf a1 a2 C)
theorem d_X1_readClause_0 : decode cX1_readClause 0 = .ok (.ldc 70, 2) := by decide +kernel
theorem d_X1_readClause_2 : decode cX1_readClause 2 = .ok (.aload_n 1, 1) := by decide +kernel
theorem d_X1_readClause_3 : decode cX1_readClause 3 = .ok (.invokevirtual 72, 3) := by decide +kernel
theorem d_X1_readClause_6 : decode cX1_readClause 6 = .ok (.invokevirtual 76, 3) := by decide +kernel
theorem d_X1_readClause_9 : decode cX1_readClause 9 = .ok (.istore_n 2, 1) := by decide +kernel
theorem d_X1_readClause_10 : decode cX1_readClause 10 = .ok (.iload_n 2, 1) := by decide +kernel
theorem d_X1_readClause_11 : decode cX1_readClause 11 = .ok (.ifCond .lt 17, 3) := by decide +kernel
theorem d_X1_readClause_14 : decode cX1_readClause 14 = .ok (.aload_n 0, 1) := by decide +kernel
theorem d_X1_readClause_15 : decode cX1_readClause 15 = .ok (.getfield 11, 3) := by decide +kernel
theorem d_X1_readClause_18 : decode cX1_readClause 18 = .ok (.iload_n 2, 1) := by decide +kernel
theorem d_X1_readClause_19 : decode cX1_readClause 19 = .ok (.iaload, 1) := by decide +kernel
theorem d_X1_readClause_20 : decode cX1_readClause 20 = .ok (.getstatic 82, 3) := by decide +kernel
theorem d_X1_readClause_23 : decode cX1_readClause 23 = .ok (.iload_n 2, 1) := by decide +kernel
theorem d_X1_readClause_24 : decode cX1_readClause 24 = .ok (.iaload, 1) := by decide +kernel
theorem d_X1_readClause_25 : decode cX1_readClause 25 = .ok (.if_icmp .lt 5, 3) := by decide +kernel
theorem d_X1_readClause_28 : decode cX1_readClause 28 = .ok (.iconst 0, 1) := by decide +kernel
theorem d_X1_readClause_29 : decode cX1_readClause 29 = .ok (.ireturn, 1) := by decide +kernel
theorem d_X1_readClause_30 : decode cX1_readClause 30 = .ok (.aload_n 1, 1) := by decide +kernel
theorem d_X1_readClause_31 : decode cX1_readClause 31 = .ok (.invokevirtual 85, 3) := by decide +kernel
theorem d_X1_readClause_34 : decode cX1_readClause 34 = .ok (.iload_n 2, 1) := by decide +kernel
theorem d_X1_readClause_35 : decode cX1_readClause 35 = .ok (.bipush 12, 2) := by decide +kernel
theorem d_X1_readClause_37 : decode cX1_readClause 37 = .ok (.imul, 1) := by decide +kernel
theorem d_X1_readClause_38 : decode cX1_readClause 38 = .ok (.aload_n 0, 1) := by decide +kernel
theorem d_X1_readClause_39 : decode cX1_readClause 39 = .ok (.getfield 11, 3) := by decide +kernel
theorem d_X1_readClause_42 : decode cX1_readClause 42 = .ok (.iload_n 2, 1) := by decide +kernel
theorem d_X1_readClause_43 : decode cX1_readClause 43 = .ok (.iaload, 1) := by decide +kernel
theorem d_X1_readClause_44 : decode cX1_readClause 44 = .ok (.iadd, 1) := by decide +kernel
theorem d_X1_readClause_45 : decode cX1_readClause 45 = .ok (.iconst 5, 1) := by decide +kernel
theorem d_X1_readClause_46 : decode cX1_readClause 46 = .ok (.imul, 1) := by decide +kernel
theorem d_X1_readClause_47 : decode cX1_readClause 47 = .ok (.istore_n 3, 1) := by decide +kernel
theorem d_X1_readClause_48 : decode cX1_readClause 48 = .ok (.getstatic 88, 3) := by decide +kernel
theorem d_X1_readClause_51 : decode cX1_readClause 51 = .ok (.iload_n 2, 1) := by decide +kernel
theorem d_X1_readClause_52 : decode cX1_readClause 52 = .ok (.iconst 5, 1) := by decide +kernel
theorem d_X1_readClause_53 : decode cX1_readClause 53 = .ok (.imul, 1) := by decide +kernel
theorem d_X1_readClause_54 : decode cX1_readClause 54 = .ok (.aload_n 0, 1) := by decide +kernel
theorem d_X1_readClause_55 : decode cX1_readClause 55 = .ok (.getfield 15, 3) := by decide +kernel
theorem d_X1_readClause_58 : decode cX1_readClause 58 = .ok (.iload_n 3, 1) := by decide +kernel
theorem d_X1_readClause_59 : decode cX1_readClause 59 = .ok (.iconst 5, 1) := by decide +kernel
theorem d_X1_readClause_60 : decode cX1_readClause 60 = .ok (.invokestatic 91, 3) := by decide +kernel
theorem d_X1_readClause_63 : decode cX1_readClause 63 = .ok (.aload_n 0, 1) := by decide +kernel
theorem d_X1_readClause_64 : decode cX1_readClause 64 = .ok (.getfield 11, 3) := by decide +kernel
theorem d_X1_readClause_67 : decode cX1_readClause 67 = .ok (.iload_n 2, 1) := by decide +kernel
theorem d_X1_readClause_68 : decode cX1_readClause 68 = .ok (.dup2, 1) := by decide +kernel
theorem d_X1_readClause_69 : decode cX1_readClause 69 = .ok (.iaload, 1) := by decide +kernel
theorem d_X1_readClause_70 : decode cX1_readClause 70 = .ok (.iconst 1, 1) := by decide +kernel
theorem d_X1_readClause_71 : decode cX1_readClause 71 = .ok (.iadd, 1) := by decide +kernel
theorem d_X1_readClause_72 : decode cX1_readClause 72 = .ok (.iastore, 1) := by decide +kernel
theorem d_X1_readClause_73 : decode cX1_readClause 73 = .ok (.iconst 0, 1) := by decide +kernel
theorem d_X1_readClause_74 : decode cX1_readClause 74 = .ok (.istore 4, 2) := by decide +kernel
theorem d_X1_readClause_76 : decode cX1_readClause 76 = .ok (.iconst 0, 1) := by decide +kernel
theorem d_X1_readClause_77 : decode cX1_readClause 77 = .ok (.istore 5, 2) := by decide +kernel
theorem d_X1_readClause_79 : decode cX1_readClause 79 = .ok (.iload 5, 2) := by decide +kernel
theorem d_X1_readClause_81 : decode cX1_readClause 81 = .ok (.iconst 5, 1) := by decide +kernel
theorem d_X1_readClause_82 : decode cX1_readClause 82 = .ok (.if_icmp .gt 104, 3) := by decide +kernel
theorem d_X1_readClause_85 : decode cX1_readClause 85 = .ok (.iload_n 2, 1) := by decide +kernel
theorem d_X1_readClause_86 : decode cX1_readClause 86 = .ok (.aload_n 1, 1) := by decide +kernel
theorem d_X1_readClause_87 : decode cX1_readClause 87 = .ok (.invokevirtual 72, 3) := by decide +kernel
theorem d_X1_readClause_90 : decode cX1_readClause 90 = .ok (.invokestatic 97, 3) := by decide +kernel
theorem d_X1_readClause_93 : decode cX1_readClause 93 = .ok (.istore 6, 2) := by decide +kernel
theorem d_X1_readClause_95 : decode cX1_readClause 95 = .ok (.iload 6, 2) := by decide +kernel
theorem d_X1_readClause_97 : decode cX1_readClause 97 = .ok (.ifCond .lt 14, 3) := by decide +kernel
theorem d_X1_readClause_100 : decode cX1_readClause 100 = .ok (.iload 4, 2) := by decide +kernel
theorem d_X1_readClause_102 : decode cX1_readClause 102 = .ok (.iload 6, 2) := by decide +kernel
theorem d_X1_readClause_104 : decode cX1_readClause 104 = .ok (.ishr, 1) := by decide +kernel
theorem d_X1_readClause_105 : decode cX1_readClause 105 = .ok (.iconst 1, 1) := by decide +kernel
theorem d_X1_readClause_106 : decode cX1_readClause 106 = .ok (.iand, 1) := by decide +kernel
theorem d_X1_readClause_107 : decode cX1_readClause 107 = .ok (.iconst 1, 1) := by decide +kernel
theorem d_X1_readClause_108 : decode cX1_readClause 108 = .ok (.if_icmp .ne 14, 3) := by decide +kernel
theorem d_X1_readClause_111 : decode cX1_readClause 111 = .ok (.iload 6, 2) := by decide +kernel
theorem d_X1_readClause_113 : decode cX1_readClause 113 = .ok (.ifCond .ge 7, 3) := by decide +kernel
theorem d_X1_readClause_116 : decode cX1_readClause 116 = .ok (.iconst 1, 1) := by decide +kernel
theorem d_X1_readClause_117 : decode cX1_readClause 117 = .ok (.goto 4, 3) := by decide +kernel
theorem d_X1_readClause_120 : decode cX1_readClause 120 = .ok (.iconst 0, 1) := by decide +kernel
theorem d_X1_readClause_121 : decode cX1_readClause 121 = .ok (.ireturn, 1) := by decide +kernel
theorem d_X1_readClause_122 : decode cX1_readClause 122 = .ok (.iload 4, 2) := by decide +kernel
theorem d_X1_readClause_124 : decode cX1_readClause 124 = .ok (.iconst 1, 1) := by decide +kernel
theorem d_X1_readClause_125 : decode cX1_readClause 125 = .ok (.iload 6, 2) := by decide +kernel
theorem d_X1_readClause_127 : decode cX1_readClause 127 = .ok (.ishl, 1) := by decide +kernel
theorem d_X1_readClause_128 : decode cX1_readClause 128 = .ok (.ior, 1) := by decide +kernel
theorem d_X1_readClause_129 : decode cX1_readClause 129 = .ok (.istore 4, 2) := by decide +kernel
theorem d_X1_readClause_131 : decode cX1_readClause 131 = .ok (.aload_n 1, 1) := by decide +kernel
theorem d_X1_readClause_132 : decode cX1_readClause 132 = .ok (.invokevirtual 85, 3) := by decide +kernel
theorem d_X1_readClause_135 : decode cX1_readClause 135 = .ok (.aload_n 1, 1) := by decide +kernel
theorem d_X1_readClause_136 : decode cX1_readClause 136 = .ok (.iconst 2, 1) := by decide +kernel
theorem d_X1_readClause_137 : decode cX1_readClause 137 = .ok (.getstatic 101, 3) := by decide +kernel
theorem d_X1_readClause_140 : decode cX1_readClause 140 = .ok (.iload_n 2, 1) := by decide +kernel
theorem d_X1_readClause_141 : decode cX1_readClause 141 = .ok (.iconst 5, 1) := by decide +kernel
theorem d_X1_readClause_142 : decode cX1_readClause 142 = .ok (.imul, 1) := by decide +kernel
theorem d_X1_readClause_143 : decode cX1_readClause 143 = .ok (.iload 6, 2) := by decide +kernel
theorem d_X1_readClause_145 : decode cX1_readClause 145 = .ok (.iadd, 1) := by decide +kernel
theorem d_X1_readClause_146 : decode cX1_readClause 146 = .ok (.iaload, 1) := by decide +kernel
theorem d_X1_readClause_147 : decode cX1_readClause 147 = .ok (.getstatic 104, 3) := by decide +kernel
theorem d_X1_readClause_150 : decode cX1_readClause 150 = .ok (.iload_n 2, 1) := by decide +kernel
theorem d_X1_readClause_151 : decode cX1_readClause 151 = .ok (.iconst 5, 1) := by decide +kernel
theorem d_X1_readClause_152 : decode cX1_readClause 152 = .ok (.imul, 1) := by decide +kernel
theorem d_X1_readClause_153 : decode cX1_readClause 153 = .ok (.iload 6, 2) := by decide +kernel
theorem d_X1_readClause_155 : decode cX1_readClause 155 = .ok (.iadd, 1) := by decide +kernel
theorem d_X1_readClause_156 : decode cX1_readClause 156 = .ok (.iaload, 1) := by decide +kernel
theorem d_X1_readClause_157 : decode cX1_readClause 157 = .ok (.invokevirtual 107, 3) := by decide +kernel
theorem d_X1_readClause_160 : decode cX1_readClause 160 = .ok (.istore 7, 2) := by decide +kernel
theorem d_X1_readClause_162 : decode cX1_readClause 162 = .ok (.iload 7, 2) := by decide +kernel
theorem d_X1_readClause_164 : decode cX1_readClause 164 = .ok (.ifCond .ge 5, 3) := by decide +kernel
theorem d_X1_readClause_167 : decode cX1_readClause 167 = .ok (.iconst 0, 1) := by decide +kernel
theorem d_X1_readClause_168 : decode cX1_readClause 168 = .ok (.ireturn, 1) := by decide +kernel
theorem d_X1_readClause_169 : decode cX1_readClause 169 = .ok (.aload_n 0, 1) := by decide +kernel
theorem d_X1_readClause_170 : decode cX1_readClause 170 = .ok (.getfield 15, 3) := by decide +kernel
theorem d_X1_readClause_173 : decode cX1_readClause 173 = .ok (.iload_n 3, 1) := by decide +kernel
theorem d_X1_readClause_174 : decode cX1_readClause 174 = .ok (.iload 6, 2) := by decide +kernel
theorem d_X1_readClause_176 : decode cX1_readClause 176 = .ok (.iadd, 1) := by decide +kernel
theorem d_X1_readClause_177 : decode cX1_readClause 177 = .ok (.iload 7, 2) := by decide +kernel
theorem d_X1_readClause_179 : decode cX1_readClause 179 = .ok (.iastore, 1) := by decide +kernel
theorem d_X1_readClause_180 : decode cX1_readClause 180 = .ok (.iinc 5 1, 3) := by decide +kernel
theorem d_X1_readClause_183 : decode cX1_readClause 183 = .ok (.goto (-104), 3) := by decide +kernel
theorem d_X1_readClause_186 : decode cX1_readClause 186 = .ok (.iconst 0, 1) := by decide +kernel
theorem d_X1_readClause_187 : decode cX1_readClause 187 = .ok (.ireturn, 1) := by decide +kernel
def f_X1_readClause (this : Nat) (a1 : Nat) : sa_M Int32 :=
sa_gd 1 this (
sa_bnd (f_X7_sign a1) fun v1 =>
sa_bnd (f_J0_indexOf_0f7a4 (1000 + 1) v1) fun v2 =>
sa_jn0 (sa_retZ 0) fun j28 =>
if v2 < 0 then
j28
else
sa_bnd (sa_rdR 1 this 0) fun v3 =>
sa_bnd (sa_ldI .int v3 v2) fun v4 =>
sa_bnd (sa_tb 0 v2) fun v5 =>
if v4 < v5 then
sa_bnd (f_X7_pass a1) fun _ =>
sa_bnd (sa_rdR 1 this 0) fun v6 =>
sa_bnd (sa_ldI .int v6 v2) fun v7 =>
sa_let ((((v2 * 12) + v7) * 5) : Int32) fun x8 =>
sa_bnd (sa_rdR 1 this 1) fun v9 =>
sa_bnd (sa_cpT 4 (v2 * 5) v9 x8 5) fun _ =>
sa_bnd (sa_rdR 1 this 0) fun v10 =>
sa_bnd (sa_ldI .int v10 v2) fun v11 =>
sa_bnd (sa_stI v10 v2 (v11 + 1)) fun _ =>
sa_let (0 : Int32) fun x12 =>
sa_let (0 : Int32) fun x13 =>
sa_wh2 (fun j79 (x14 : Int32) (x15 : Int32) =>
if 5 < x15 then
sa_retZ 0
else
sa_bnd (f_X7_sign a1) fun v16 =>
sa_bnd (f_X1_itemOf v2 v16) fun v17 =>
sa_jn0 (sa_jn1 (fun (y18 : Int32) =>
sa_retZ y18) fun j121 =>
if 0 ≤ v17 then
j121 0
else
j121 1) fun j111 =>
if v17 < 0 then
j111
else
if ¬ ((x14 >>> (v17 &&& 31)) &&& 1) = 1 then
sa_let ((x14 ||| (1 <<< (v17 &&& 31))) : Int32) fun x19 =>
sa_bnd (f_X7_pass a1) fun _ =>
sa_bnd (sa_tb 2 ((v2 * 5) + v17)) fun v20 =>
sa_bnd (sa_tb 3 ((v2 * 5) + v17)) fun v21 =>
sa_bnd (f_X7_takeNumber a1 2 v20 v21) fun v22 =>
if 0 ≤ v22 then
sa_bnd (sa_rdR 1 this 1) fun v23 =>
sa_bnd (sa_stI v23 (x8 + v17) v22) fun _ =>
sa_let ((x15 + 1) : Int32) fun x24 =>
j79 x19 x24
else
sa_retZ 0
else
j111) sa_F x12 x13
else
j28)
set_option maxHeartbeats 1000000 in
set_option maxRecDepth 10000 in
theorem b_X1_readClause {p : Program} {l : Launch} {e : Env} {s : State} {m : MethodId} {args : Array Value} {below : List Frame} {meth : Method} {c : Code} {D : va_G} {ad : Nat → Nat} {cA : FieldType → ClassId} {A : Nat → Prop} (this : Nat) (a1 : Nat) (C : sa_C p s m args meth c cX1_readClause RX1 "readClause" 8 (some .boolean) D ad cA A) : sa_Sg p l e s m args below meth c 8 6 D ad cA A sa_eI 0 [(0, .ref (ad this)), (1, .ref (ad a1))] [] (f_X1_readClause this a1) := by
  unfold f_X1_readClause
  refine sa_gdI ?_
  refine sa_ldcS C 1 rfl d_X1_readClause_0 ?_
  refine sa_aload_n C d_X1_readClause_2 rfl 1 rfl ?_
  refine sa_invV (ci := 7) C (k_X7_sign a1) q506 ds_X7_sign q115 rfl q504 q505 q503 (gd_X7_sign a1) rfl rfl rfl (Nat.le_of_ble_eq_true rfl) (by decide) (by decide) d_X1_readClause_3 (fun v1 => ?_)
  refine sa_invK C (k_J0_indexOf_0f7a4 (1000 + 1) v1) q510 ds_J0_indexOf_0f7a4 q118 rfl q508 q509 q507 (gd_J0_indexOf_0f7a4 (1000 + 1) v1) rfl rfl rfl (Nat.le_of_ble_eq_true rfl) (by decide) (by decide) d_X1_readClause_6 (fun v2 => ?_)
  refine sa_istore_n (lv' := [(2, .int v2), (0, .ref (ad this)), (1, .ref (ad a1))]) C d_X1_readClause_9 rfl (by decide) rfl ?_
  refine sa_iload_n C d_X1_readClause_10 rfl 0 rfl ?_
  refine sa_join0 28 ([]) ([]) (?_) (fun j28 hj28 => ?_)
  · refine sa_iconst (v := 0) C d_X1_readClause_28 (by decide) ?_
    exact sa_zret C d_X1_readClause_29
  refine sa_if_lt (tgt := 28) C d_X1_readClause_11 (by decide) ?_ ?_
  · exact sa_sub [] rfl (hj28)
  refine sa_aload_n C d_X1_readClause_14 rfl 1 rfl ?_
  refine sa_getR C fd_X1_11 rfl d_X1_readClause_15 (fun v3 => ?_)
  refine sa_iload_n C d_X1_readClause_18 rfl 0 rfl ?_
  refine sa_iald C d_X1_readClause_19 (fun v4 => ?_)
  refine sa_gets (j := 0) C rfl q584 d_X1_readClause_20 ?_
  refine sa_iload_n C d_X1_readClause_23 rfl 0 rfl ?_
  refine sa_tld C rfl d_X1_readClause_24 (fun v5 => ?_)
  refine sa_icmp_lt (tgt := 30) C d_X1_readClause_25 (by decide) ?_ ?_
  · refine sa_aload_n C d_X1_readClause_30 rfl 2 rfl ?_
    refine sa_invV (ci := 7) C (k_X7_pass a1) q589 ds_X7_pass q115 rfl q587 q588 q586 (gd_X7_pass a1) rfl rfl rfl (Nat.le_of_ble_eq_true rfl) (by decide) (by decide) d_X1_readClause_31 (fun _ => ?_)
    refine sa_iload_n C d_X1_readClause_34 rfl 0 rfl ?_
    refine sa_bipush (v := 12) C d_X1_readClause_35 (by decide) ?_
    refine sa_imul C d_X1_readClause_37 ?_
    refine sa_aload_n C d_X1_readClause_38 rfl 1 rfl ?_
    refine sa_getR C fd_X1_11 rfl d_X1_readClause_39 (fun v6 => ?_)
    refine sa_iload_n C d_X1_readClause_42 rfl 0 rfl ?_
    refine sa_iald C d_X1_readClause_43 (fun v7 => ?_)
    refine sa_iadd C d_X1_readClause_44 ?_
    refine sa_iconst (v := 5) C d_X1_readClause_45 (by decide) ?_
    refine sa_imul C d_X1_readClause_46 ?_
    refine sa_topi (fun x8 => ?_)
    refine sa_istore_n (lv' := [(3, .int x8), (2, .int v2), (0, .ref (ad this)), (1, .ref (ad a1))]) C d_X1_readClause_47 rfl (by decide) rfl ?_
    refine sa_gets (j := 4) C rfl q590 d_X1_readClause_48 ?_
    refine sa_iload_n C d_X1_readClause_51 rfl 1 rfl ?_
    refine sa_iconst (v := 5) C d_X1_readClause_52 (by decide) ?_
    refine sa_imul C d_X1_readClause_53 ?_
    refine sa_aload_n C d_X1_readClause_54 rfl 2 rfl ?_
    refine sa_getR C fd_X1_15 rfl d_X1_readClause_55 (fun v9 => ?_)
    refine sa_iload_n C d_X1_readClause_58 rfl 0 rfl ?_
    refine sa_iconst (v := 5) C d_X1_readClause_59 (by decide) ?_
    refine sa_cpyT C rfl q592 q594 q593 q134 (Nat.le_of_ble_eq_true rfl) (by decide) d_X1_readClause_60 ?_
    refine sa_aload_n C d_X1_readClause_63 rfl 2 rfl ?_
    refine sa_getR C fd_X1_11 rfl d_X1_readClause_64 (fun v10 => ?_)
    refine sa_iload_n C d_X1_readClause_67 rfl 1 rfl ?_
    refine sa_dup2_11 C d_X1_readClause_68 rfl rfl ?_
    refine sa_iald C d_X1_readClause_69 (fun v11 => ?_)
    refine sa_iconst (v := 1) C d_X1_readClause_70 (by decide) ?_
    refine sa_iadd C d_X1_readClause_71 ?_
    refine sa_iast C d_X1_readClause_72 ?_
    refine sa_iconst (v := 0) C d_X1_readClause_73 (by decide) ?_
    refine sa_topi (fun x12 => ?_)
    refine sa_istore (lv' := [(4, .int x12), (3, .int x8), (2, .int v2), (0, .ref (ad this)), (1, .ref (ad a1))]) C d_X1_readClause_74 (by decide) rfl ?_
    refine sa_iconst (v := 0) C d_X1_readClause_76 (by decide) ?_
    refine sa_topi (fun x13 => ?_)
    refine sa_istore (lv' := [(5, .int x13), (4, .int x12), (3, .int x8), (2, .int v2), (0, .ref (ad this)), (1, .ref (ad a1))]) C d_X1_readClause_77 (by decide) rfl ?_
    refine sa_sub [4, 5, 3, 2, 1, 0] rfl (sa_loop2 (fun x14 x15 => [(0, .ref (ad this)), (1, .ref (ad a1)), (2, .int v2), (3, .int x8), (4, .int x14), (5, .int x15)]) (fun x14 x15 => []) (fun j79 hj79 x14 x15 => ?_) _ _ _)
    refine sa_iload C d_X1_readClause_79 5 rfl ?_
    refine sa_iconst (v := 5) C d_X1_readClause_81 (by decide) ?_
    refine sa_icmp_gt (tgt := 186) C d_X1_readClause_82 (by decide) ?_ ?_
    · refine sa_iconst (v := 0) C d_X1_readClause_186 (by decide) ?_
      exact sa_zret C d_X1_readClause_187
    refine sa_iload_n C d_X1_readClause_85 rfl 2 rfl ?_
    refine sa_aload_n C d_X1_readClause_86 rfl 1 rfl ?_
    refine sa_invV (ci := 7) C (k_X7_sign a1) q506 ds_X7_sign q115 rfl q504 q505 q503 (gd_X7_sign a1) rfl rfl rfl (Nat.le_of_ble_eq_true rfl) (by decide) (by decide) d_X1_readClause_87 (fun v16 => ?_)
    refine sa_invS C (k_X1_itemOf v2 v16) q597 ds_X1_itemOf q116 q596 q595 rfl rfl rfl (Nat.le_of_ble_eq_true rfl) (by decide) (by decide) d_X1_readClause_90 (fun v17 => ?_)
    refine sa_istore (lv' := [(6, .int v17), (0, .ref (ad this)), (1, .ref (ad a1)), (2, .int v2), (3, .int x8), (4, .int x14), (5, .int x15)]) C d_X1_readClause_93 (by decide) rfl ?_
    refine sa_iload C d_X1_readClause_95 0 rfl ?_
    refine sa_join0 111 ([(6, .int v17)]) ([]) (?_) (fun j111 hj111 => ?_)
    · refine sa_iload C d_X1_readClause_111 0 rfl ?_
      refine sa_join1 121 (fun y18 => []) (fun y18 => [.int y18]) (fun y18 => ?_) (fun j121 hj121 => ?_)
      · exact sa_zret C d_X1_readClause_121
      refine sa_if_ge (tgt := 120) C d_X1_readClause_113 (by decide) ?_ ?_
      · refine sa_iconst (v := 0) C d_X1_readClause_120 (by decide) ?_
        exact sa_sub [] rfl (hj121 _)
      refine sa_iconst (v := 1) C d_X1_readClause_116 (by decide) ?_
      refine sa_goto (tgt := 121) C d_X1_readClause_117 (by decide) ?_
      exact sa_sub [] rfl (hj121 _)
    refine sa_if_lt (tgt := 111) C d_X1_readClause_97 (by decide) ?_ ?_
    · exact sa_sub [0] rfl (hj111)
    refine sa_iload C d_X1_readClause_100 5 rfl ?_
    refine sa_iload C d_X1_readClause_102 0 rfl ?_
    refine sa_ishr C d_X1_readClause_104 ?_
    refine sa_iconst (v := 1) C d_X1_readClause_105 (by decide) ?_
    refine sa_iand C d_X1_readClause_106 ?_
    refine sa_iconst (v := 1) C d_X1_readClause_107 (by decide) ?_
    refine sa_icmp_ne (tgt := 122) C d_X1_readClause_108 (by decide) ?_ ?_
    · refine sa_iload C d_X1_readClause_122 5 rfl ?_
      refine sa_iconst (v := 1) C d_X1_readClause_124 (by decide) ?_
      refine sa_iload C d_X1_readClause_125 0 rfl ?_
      refine sa_ishl C d_X1_readClause_127 ?_
      refine sa_ior C d_X1_readClause_128 ?_
      refine sa_topi (fun x19 => ?_)
      refine sa_istore (lv' := [(4, .int x19), (6, .int v17), (0, .ref (ad this)), (1, .ref (ad a1)), (2, .int v2), (3, .int x8), (5, .int x15)]) C d_X1_readClause_129 (by decide) rfl ?_
      refine sa_aload_n C d_X1_readClause_131 rfl 3 rfl ?_
      refine sa_invV (ci := 7) C (k_X7_pass a1) q589 ds_X7_pass q115 rfl q587 q588 q586 (gd_X7_pass a1) rfl rfl rfl (Nat.le_of_ble_eq_true rfl) (by decide) (by decide) d_X1_readClause_132 (fun _ => ?_)
      refine sa_aload_n C d_X1_readClause_135 rfl 3 rfl ?_
      refine sa_iconst (v := 2) C d_X1_readClause_136 (by decide) ?_
      refine sa_gets (j := 2) C rfl q621 d_X1_readClause_137 ?_
      refine sa_iload_n C d_X1_readClause_140 rfl 4 rfl ?_
      refine sa_iconst (v := 5) C d_X1_readClause_141 (by decide) ?_
      refine sa_imul C d_X1_readClause_142 ?_
      refine sa_iload C d_X1_readClause_143 1 rfl ?_
      refine sa_iadd C d_X1_readClause_145 ?_
      refine sa_tld C rfl d_X1_readClause_146 (fun v20 => ?_)
      refine sa_gets (j := 3) C rfl q623 d_X1_readClause_147 ?_
      refine sa_iload_n C d_X1_readClause_150 rfl 4 rfl ?_
      refine sa_iconst (v := 5) C d_X1_readClause_151 (by decide) ?_
      refine sa_imul C d_X1_readClause_152 ?_
      refine sa_iload C d_X1_readClause_153 1 rfl ?_
      refine sa_iadd C d_X1_readClause_155 ?_
      refine sa_tld C rfl d_X1_readClause_156 (fun v21 => ?_)
      refine sa_invV (ci := 7) C (k_X7_takeNumber a1 2 v20 v21) q628 ds_X7_takeNumber q115 rfl q626 q627 q625 (gd_X7_takeNumber a1 2 v20 v21) rfl rfl rfl (Nat.le_of_ble_eq_true rfl) (by decide) (by decide) d_X1_readClause_157 (fun v22 => ?_)
      refine sa_istore (lv' := [(7, .int v22), (4, .int x19), (6, .int v17), (0, .ref (ad this)), (1, .ref (ad a1)), (2, .int v2), (3, .int x8), (5, .int x15)]) C d_X1_readClause_160 (by decide) rfl ?_
      refine sa_iload C d_X1_readClause_162 0 rfl ?_
      refine sa_if_ge (tgt := 169) C d_X1_readClause_164 (by decide) ?_ ?_
      · refine sa_aload_n C d_X1_readClause_169 rfl 3 rfl ?_
        refine sa_getR C fd_X1_15 rfl d_X1_readClause_170 (fun v23 => ?_)
        refine sa_iload_n C d_X1_readClause_173 rfl 6 rfl ?_
        refine sa_iload C d_X1_readClause_174 2 rfl ?_
        refine sa_iadd C d_X1_readClause_176 ?_
        refine sa_iload C d_X1_readClause_177 0 rfl ?_
        refine sa_iast C d_X1_readClause_179 ?_
        refine sa_iinc C (fun zz => [(5, .int zz), (7, .int v22), (4, .int x19), (6, .int v17), (0, .ref (ad this)), (1, .ref (ad a1)), (2, .int v2), (3, .int x8)]) d_X1_readClause_180 7 rfl rfl (by decide) (fun _ => rfl) (fun x24 => ?_)
        refine sa_goto (tgt := 79) C d_X1_readClause_183 (by decide) ?_
        exact sa_sub [4, 5, 6, 7, 2, 0] rfl (hj79 _ _)
      refine sa_iconst (v := 0) C d_X1_readClause_167 (by decide) ?_
      exact sa_zret C d_X1_readClause_168
    exact sa_sub [0] rfl (hj111)
  exact sa_sub [] rfl (hj28)
theorem k_X1_readClause (this : Nat) (a1 : Nat) : sa_Met 6 yX1_readClause cX1_readClause 8 (some .boolean) (fun ad => [.ref (ad this), .ref (ad a1)]) sa_eI (f_X1_readClause this a1) := sa_mk (by decide) (fun ad => Nat.le_of_ble_eq_true rfl) (fun p l e s m args below meth c D ad cA A C => b_X1_readClause this a1 C)
theorem gd_X1_readClause (this : Nat) (a1 : Nat) (σ : sa_St) (r : Int32) (τ : sa_St) (h : f_X1_readClause this a1 σ = some (r, τ)) : sa_sh this = some (.inl 1) := sa_gd_ok h
theorem d_X1_areAtPlaces_0 : decode cX1_areAtPlaces 0 = .ok (.iconst 0, 1) := by decide +kernel
theorem d_X1_areAtPlaces_1 : decode cX1_areAtPlaces 1 = .ok (.istore_n 3, 1) := by decide +kernel
theorem d_X1_areAtPlaces_2 : decode cX1_areAtPlaces 2 = .ok (.iload_n 3, 1) := by decide +kernel
theorem d_X1_areAtPlaces_3 : decode cX1_areAtPlaces 3 = .ok (.aload_n 0, 1) := by decide +kernel
theorem d_X1_areAtPlaces_4 : decode cX1_areAtPlaces 4 = .ok (.getfield 11, 3) := by decide +kernel
theorem d_X1_areAtPlaces_7 : decode cX1_areAtPlaces 7 = .ok (.iload_n 1, 1) := by decide +kernel
theorem d_X1_areAtPlaces_8 : decode cX1_areAtPlaces 8 = .ok (.iaload, 1) := by decide +kernel
theorem d_X1_areAtPlaces_9 : decode cX1_areAtPlaces 9 = .ok (.if_icmp .ge 25, 3) := by decide +kernel
theorem d_X1_areAtPlaces_12 : decode cX1_areAtPlaces 12 = .ok (.aload_n 0, 1) := by decide +kernel
theorem d_X1_areAtPlaces_13 : decode cX1_areAtPlaces 13 = .ok (.aload_n 0, 1) := by decide +kernel
theorem d_X1_areAtPlaces_14 : decode cX1_areAtPlaces 14 = .ok (.iload_n 1, 1) := by decide +kernel
theorem d_X1_areAtPlaces_15 : decode cX1_areAtPlaces 15 = .ok (.iload_n 3, 1) := by decide +kernel
theorem d_X1_areAtPlaces_16 : decode cX1_areAtPlaces 16 = .ok (.iload_n 2, 1) := by decide +kernel
theorem d_X1_areAtPlaces_17 : decode cX1_areAtPlaces 17 = .ok (.invokevirtual 31, 3) := by decide +kernel
theorem d_X1_areAtPlaces_20 : decode cX1_areAtPlaces 20 = .ok (.invokevirtual 119, 3) := by decide +kernel
theorem d_X1_areAtPlaces_23 : decode cX1_areAtPlaces 23 = .ok (.ifCond .ne 5, 3) := by decide +kernel
theorem d_X1_areAtPlaces_26 : decode cX1_areAtPlaces 26 = .ok (.iconst 0, 1) := by decide +kernel
theorem d_X1_areAtPlaces_27 : decode cX1_areAtPlaces 27 = .ok (.ireturn, 1) := by decide +kernel
theorem d_X1_areAtPlaces_28 : decode cX1_areAtPlaces 28 = .ok (.iinc 3 1, 3) := by decide +kernel
theorem d_X1_areAtPlaces_31 : decode cX1_areAtPlaces 31 = .ok (.goto (-29), 3) := by decide +kernel
theorem d_X1_areAtPlaces_34 : decode cX1_areAtPlaces 34 = .ok (.iconst 1, 1) := by decide +kernel
theorem d_X1_areAtPlaces_35 : decode cX1_areAtPlaces 35 = .ok (.ireturn, 1) := by decide +kernel
def f_X1_areAtPlaces (this : Nat) (a1 : Int32) (a2 : Int32) : sa_M Int32 :=
sa_gd 1 this (
sa_let (0 : Int32) fun x1 =>
sa_wh1 (fun j2 (x2 : Int32) =>
sa_bnd (sa_rdR 1 this 0) fun v3 =>
sa_bnd (sa_ldI .int v3 a1) fun v4 =>
if v4 ≤ x2 then
sa_retZ 1
else
sa_bnd (f_X1_cell this a1 x2 a2) fun v5 =>
sa_bnd (f_X1_hasPlace this v5) fun v6 =>
if ¬ v6 = 0 then
sa_let ((x2 + 1) : Int32) fun x7 =>
j2 x7
else
sa_retZ 0) sa_F x1)
set_option maxHeartbeats 1000000 in
set_option maxRecDepth 10000 in
theorem b_X1_areAtPlaces {p : Program} {l : Launch} {e : Env} {s : State} {m : MethodId} {args : Array Value} {below : List Frame} {meth : Method} {c : Code} {D : va_G} {ad : Nat → Nat} {cA : FieldType → ClassId} {A : Nat → Prop} (this : Nat) (a1 : Int32) (a2 : Int32) (C : sa_C p s m args meth c cX1_areAtPlaces RX1 "areAtPlaces" 4 (some .boolean) D ad cA A) : sa_Sg p l e s m args below meth c 4 2 D ad cA A sa_eI 0 [(0, .ref (ad this)), (1, .int a1), (2, .int a2)] [] (f_X1_areAtPlaces this a1 a2) := by
  unfold f_X1_areAtPlaces
  refine sa_gdI ?_
  refine sa_iconst (v := 0) C d_X1_areAtPlaces_0 (by decide) ?_
  refine sa_topi (fun x1 => ?_)
  refine sa_istore_n (lv' := [(3, .int x1), (0, .ref (ad this)), (1, .int a1), (2, .int a2)]) C d_X1_areAtPlaces_1 rfl (by decide) rfl ?_
  refine sa_sub [1, 2, 3, 0] rfl (sa_loop1 (fun x2 => [(0, .ref (ad this)), (1, .int a1), (2, .int a2), (3, .int x2)]) (fun x2 => []) (fun j2 hj2 x2 => ?_) _ _)
  refine sa_iload_n C d_X1_areAtPlaces_2 rfl 3 rfl ?_
  refine sa_aload_n C d_X1_areAtPlaces_3 rfl 0 rfl ?_
  refine sa_getR C fd_X1_11 rfl d_X1_areAtPlaces_4 (fun v3 => ?_)
  refine sa_iload_n C d_X1_areAtPlaces_7 rfl 1 rfl ?_
  refine sa_iald C d_X1_areAtPlaces_8 (fun v4 => ?_)
  refine sa_icmp_ge (tgt := 34) C d_X1_areAtPlaces_9 (by decide) ?_ ?_
  · refine sa_iconst (v := 1) C d_X1_areAtPlaces_34 (by decide) ?_
    exact sa_zret C d_X1_areAtPlaces_35
  refine sa_aload_n C d_X1_areAtPlaces_12 rfl 0 rfl ?_
  refine sa_aload_n C d_X1_areAtPlaces_13 rfl 0 rfl ?_
  refine sa_iload_n C d_X1_areAtPlaces_14 rfl 1 rfl ?_
  refine sa_iload_n C d_X1_areAtPlaces_15 rfl 3 rfl ?_
  refine sa_iload_n C d_X1_areAtPlaces_16 rfl 2 rfl ?_
  refine sa_invV (ci := 1) C (k_X1_cell this a1 x2 a2) q644 ds_X1_cell q116 rfl q642 q643 q641 (gd_X1_cell this a1 x2 a2) rfl rfl rfl (Nat.le_of_ble_eq_true rfl) (by decide) (by decide) d_X1_areAtPlaces_17 (fun v5 => ?_)
  refine sa_invV (ci := 1) C (k_X1_hasPlace this v5) q648 ds_X1_hasPlace q116 rfl q646 q647 q645 (gd_X1_hasPlace this v5) rfl rfl rfl (Nat.le_of_ble_eq_true rfl) (by decide) (by decide) d_X1_areAtPlaces_20 (fun v6 => ?_)
  refine sa_if_ne (tgt := 28) C d_X1_areAtPlaces_23 (by decide) ?_ ?_
  · refine sa_iinc C (fun zz => [(3, .int zz), (0, .ref (ad this)), (1, .int a1), (2, .int a2)]) d_X1_areAtPlaces_28 3 rfl rfl (by decide) (fun _ => rfl) (fun x7 => ?_)
    refine sa_goto (tgt := 2) C d_X1_areAtPlaces_31 (by decide) ?_
    exact sa_sub [1, 2, 3, 0] rfl (hj2 _)
  refine sa_iconst (v := 0) C d_X1_areAtPlaces_26 (by decide) ?_
  exact sa_zret C d_X1_areAtPlaces_27
theorem k_X1_areAtPlaces (this : Nat) (a1 : Int32) (a2 : Int32) : sa_Met 2 yX1_areAtPlaces cX1_areAtPlaces 4 (some .boolean) (fun ad => [.ref (ad this), .int a1, .int a2]) sa_eI (f_X1_areAtPlaces this a1 a2) := sa_mk (by decide) (fun ad => Nat.le_of_ble_eq_true rfl) (fun p l e s m args below meth c D ad cA A C => b_X1_areAtPlaces this a1 a2 C)
theorem gd_X1_areAtPlaces (this : Nat) (a1 : Int32) (a2 : Int32) (σ : sa_St) (r : Int32) (τ : sa_St) (h : f_X1_areAtPlaces this a1 a2 σ = some (r, τ)) : sa_sh this = some (.inl 1) := sa_gd_ok h
theorem d_X1_isWhole_0 : decode cX1_isWhole 0 = .ok (.aload_n 0, 1) := by decide +kernel
theorem d_X1_isWhole_1 : decode cX1_isWhole 1 = .ok (.getfield 11, 3) := by decide +kernel
theorem d_X1_isWhole_4 : decode cX1_isWhole 4 = .ok (.iconst 0, 1) := by decide +kernel
theorem d_X1_isWhole_5 : decode cX1_isWhole 5 = .ok (.iaload, 1) := by decide +kernel
theorem d_X1_isWhole_6 : decode cX1_isWhole 6 = .ok (.iconst 2, 1) := by decide +kernel
theorem d_X1_isWhole_7 : decode cX1_isWhole 7 = .ok (.if_icmp .lt 13, 3) := by decide +kernel
theorem d_X1_isWhole_10 : decode cX1_isWhole 10 = .ok (.aload_n 0, 1) := by decide +kernel
theorem d_X1_isWhole_11 : decode cX1_isWhole 11 = .ok (.getfield 11, 3) := by decide +kernel
theorem d_X1_isWhole_14 : decode cX1_isWhole 14 = .ok (.iconst 2, 1) := by decide +kernel
theorem d_X1_isWhole_15 : decode cX1_isWhole 15 = .ok (.iaload, 1) := by decide +kernel
theorem d_X1_isWhole_16 : decode cX1_isWhole 16 = .ok (.iconst 1, 1) := by decide +kernel
theorem d_X1_isWhole_17 : decode cX1_isWhole 17 = .ok (.if_icmp .ge 5, 3) := by decide +kernel
theorem d_X1_isWhole_20 : decode cX1_isWhole 20 = .ok (.iconst 0, 1) := by decide +kernel
theorem d_X1_isWhole_21 : decode cX1_isWhole 21 = .ok (.ireturn, 1) := by decide +kernel
theorem d_X1_isWhole_22 : decode cX1_isWhole 22 = .ok (.iconst 0, 1) := by decide +kernel
theorem d_X1_isWhole_23 : decode cX1_isWhole 23 = .ok (.istore_n 1, 1) := by decide +kernel
theorem d_X1_isWhole_24 : decode cX1_isWhole 24 = .ok (.iload_n 1, 1) := by decide +kernel
theorem d_X1_isWhole_25 : decode cX1_isWhole 25 = .ok (.aload_n 0, 1) := by decide +kernel
theorem d_X1_isWhole_26 : decode cX1_isWhole 26 = .ok (.getfield 11, 3) := by decide +kernel
theorem d_X1_isWhole_29 : decode cX1_isWhole 29 = .ok (.iconst 1, 1) := by decide +kernel
theorem d_X1_isWhole_30 : decode cX1_isWhole 30 = .ok (.iaload, 1) := by decide +kernel
theorem d_X1_isWhole_31 : decode cX1_isWhole 31 = .ok (.if_icmp .ge 48, 3) := by decide +kernel
theorem d_X1_isWhole_34 : decode cX1_isWhole 34 = .ok (.aload_n 0, 1) := by decide +kernel
theorem d_X1_isWhole_35 : decode cX1_isWhole 35 = .ok (.iconst 1, 1) := by decide +kernel
theorem d_X1_isWhole_36 : decode cX1_isWhole 36 = .ok (.iload_n 1, 1) := by decide +kernel
theorem d_X1_isWhole_37 : decode cX1_isWhole 37 = .ok (.iconst 0, 1) := by decide +kernel
theorem d_X1_isWhole_38 : decode cX1_isWhole 38 = .ok (.invokevirtual 31, 3) := by decide +kernel
theorem d_X1_isWhole_41 : decode cX1_isWhole 41 = .ok (.istore_n 2, 1) := by decide +kernel
theorem d_X1_isWhole_42 : decode cX1_isWhole 42 = .ok (.aload_n 0, 1) := by decide +kernel
theorem d_X1_isWhole_43 : decode cX1_isWhole 43 = .ok (.iconst 1, 1) := by decide +kernel
theorem d_X1_isWhole_44 : decode cX1_isWhole 44 = .ok (.iload_n 1, 1) := by decide +kernel
theorem d_X1_isWhole_45 : decode cX1_isWhole 45 = .ok (.iconst 1, 1) := by decide +kernel
theorem d_X1_isWhole_46 : decode cX1_isWhole 46 = .ok (.invokevirtual 31, 3) := by decide +kernel
theorem d_X1_isWhole_49 : decode cX1_isWhole 49 = .ok (.istore_n 3, 1) := by decide +kernel
theorem d_X1_isWhole_50 : decode cX1_isWhole 50 = .ok (.iload_n 2, 1) := by decide +kernel
theorem d_X1_isWhole_51 : decode cX1_isWhole 51 = .ok (.iload_n 3, 1) := by decide +kernel
theorem d_X1_isWhole_52 : decode cX1_isWhole 52 = .ok (.if_icmp .eq 19, 3) := by decide +kernel
theorem d_X1_isWhole_55 : decode cX1_isWhole 55 = .ok (.aload_n 0, 1) := by decide +kernel
theorem d_X1_isWhole_56 : decode cX1_isWhole 56 = .ok (.iload_n 2, 1) := by decide +kernel
theorem d_X1_isWhole_57 : decode cX1_isWhole 57 = .ok (.invokevirtual 119, 3) := by decide +kernel
theorem d_X1_isWhole_60 : decode cX1_isWhole 60 = .ok (.ifCond .eq 11, 3) := by decide +kernel
theorem d_X1_isWhole_63 : decode cX1_isWhole 63 = .ok (.aload_n 0, 1) := by decide +kernel
theorem d_X1_isWhole_64 : decode cX1_isWhole 64 = .ok (.iload_n 3, 1) := by decide +kernel
theorem d_X1_isWhole_65 : decode cX1_isWhole 65 = .ok (.invokevirtual 119, 3) := by decide +kernel
theorem d_X1_isWhole_68 : decode cX1_isWhole 68 = .ok (.ifCond .ne 5, 3) := by decide +kernel
theorem d_X1_isWhole_71 : decode cX1_isWhole 71 = .ok (.iconst 0, 1) := by decide +kernel
theorem d_X1_isWhole_72 : decode cX1_isWhole 72 = .ok (.ireturn, 1) := by decide +kernel
theorem d_X1_isWhole_73 : decode cX1_isWhole 73 = .ok (.iinc 1 1, 3) := by decide +kernel
theorem d_X1_isWhole_76 : decode cX1_isWhole 76 = .ok (.goto (-52), 3) := by decide +kernel
theorem d_X1_isWhole_79 : decode cX1_isWhole 79 = .ok (.aload_n 0, 1) := by decide +kernel
theorem d_X1_isWhole_80 : decode cX1_isWhole 80 = .ok (.iconst 2, 1) := by decide +kernel
theorem d_X1_isWhole_81 : decode cX1_isWhole 81 = .ok (.iconst 0, 1) := by decide +kernel
theorem d_X1_isWhole_82 : decode cX1_isWhole 82 = .ok (.invokevirtual 122, 3) := by decide +kernel
theorem d_X1_isWhole_85 : decode cX1_isWhole 85 = .ok (.ifCond .eq 16, 3) := by decide +kernel
theorem d_X1_isWhole_88 : decode cX1_isWhole 88 = .ok (.aload_n 0, 1) := by decide +kernel
theorem d_X1_isWhole_89 : decode cX1_isWhole 89 = .ok (.iconst 3, 1) := by decide +kernel
theorem d_X1_isWhole_90 : decode cX1_isWhole 90 = .ok (.iconst 0, 1) := by decide +kernel
theorem d_X1_isWhole_91 : decode cX1_isWhole 91 = .ok (.invokevirtual 122, 3) := by decide +kernel
theorem d_X1_isWhole_94 : decode cX1_isWhole 94 = .ok (.ifCond .eq 7, 3) := by decide +kernel
theorem d_X1_isWhole_97 : decode cX1_isWhole 97 = .ok (.iconst 1, 1) := by decide +kernel
theorem d_X1_isWhole_98 : decode cX1_isWhole 98 = .ok (.goto 4, 3) := by decide +kernel
theorem d_X1_isWhole_101 : decode cX1_isWhole 101 = .ok (.iconst 0, 1) := by decide +kernel
theorem d_X1_isWhole_102 : decode cX1_isWhole 102 = .ok (.ireturn, 1) := by decide +kernel
def f_X1_isWhole (this : Nat) : sa_M Int32 :=
sa_gd 1 this (
sa_bnd (sa_rdR 1 this 0) fun v1 =>
sa_bnd (sa_ldI .int v1 0) fun v2 =>
sa_jn0 (sa_retZ 0) fun j20 =>
if v2 < 2 then
j20
else
sa_bnd (sa_rdR 1 this 0) fun v3 =>
sa_bnd (sa_ldI .int v3 2) fun v4 =>
if 1 ≤ v4 then
sa_let (0 : Int32) fun x5 =>
sa_wh1 (fun j24 (x6 : Int32) =>
sa_bnd (sa_rdR 1 this 0) fun v7 =>
sa_bnd (sa_ldI .int v7 1) fun v8 =>
if v8 ≤ x6 then
sa_bnd (f_X1_areAtPlaces this 2 0) fun v9 =>
sa_jn1 (fun (y10 : Int32) =>
sa_retZ y10) fun j102 =>
sa_jn0 (j102 0) fun j101 =>
if v9 = 0 then
j101
else
sa_bnd (f_X1_areAtPlaces this 3 0) fun v11 =>
if v11 = 0 then
j101
else
j102 1
else
sa_bnd (f_X1_cell this 1 x6 0) fun v12 =>
sa_bnd (f_X1_cell this 1 x6 1) fun v13 =>
sa_jn0 (sa_retZ 0) fun j71 =>
if v12 = v13 then
j71
else
sa_bnd (f_X1_hasPlace this v12) fun v14 =>
if v14 = 0 then
j71
else
sa_bnd (f_X1_hasPlace this v13) fun v15 =>
if ¬ v15 = 0 then
sa_let ((x6 + 1) : Int32) fun x16 =>
j24 x16
else
j71) sa_F x5
else
j20)
set_option maxHeartbeats 1000000 in
set_option maxRecDepth 10000 in
theorem b_X1_isWhole {p : Program} {l : Launch} {e : Env} {s : State} {m : MethodId} {args : Array Value} {below : List Frame} {meth : Method} {c : Code} {D : va_G} {ad : Nat → Nat} {cA : FieldType → ClassId} {A : Nat → Prop} (this : Nat) (C : sa_C p s m args meth c cX1_isWhole RX1 "isWhole" 4 (some .boolean) D ad cA A) : sa_Sg p l e s m args below meth c 4 3 D ad cA A sa_eI 0 [(0, .ref (ad this))] [] (f_X1_isWhole this) := by
  unfold f_X1_isWhole
  refine sa_gdI ?_
  refine sa_aload_n C d_X1_isWhole_0 rfl 0 rfl ?_
  refine sa_getR C fd_X1_11 rfl d_X1_isWhole_1 (fun v1 => ?_)
  refine sa_iconst (v := 0) C d_X1_isWhole_4 (by decide) ?_
  refine sa_iald C d_X1_isWhole_5 (fun v2 => ?_)
  refine sa_iconst (v := 2) C d_X1_isWhole_6 (by decide) ?_
  refine sa_join0 20 ([]) ([]) (?_) (fun j20 hj20 => ?_)
  · refine sa_iconst (v := 0) C d_X1_isWhole_20 (by decide) ?_
    exact sa_zret C d_X1_isWhole_21
  refine sa_icmp_lt (tgt := 20) C d_X1_isWhole_7 (by decide) ?_ ?_
  · exact sa_sub [] rfl (hj20)
  refine sa_aload_n C d_X1_isWhole_10 rfl 0 rfl ?_
  refine sa_getR C fd_X1_11 rfl d_X1_isWhole_11 (fun v3 => ?_)
  refine sa_iconst (v := 2) C d_X1_isWhole_14 (by decide) ?_
  refine sa_iald C d_X1_isWhole_15 (fun v4 => ?_)
  refine sa_iconst (v := 1) C d_X1_isWhole_16 (by decide) ?_
  refine sa_icmp_ge (tgt := 22) C d_X1_isWhole_17 (by decide) ?_ ?_
  · refine sa_iconst (v := 0) C d_X1_isWhole_22 (by decide) ?_
    refine sa_topi (fun x5 => ?_)
    refine sa_istore_n (lv' := [(1, .int x5), (0, .ref (ad this))]) C d_X1_isWhole_23 rfl (by decide) rfl ?_
    refine sa_sub [1, 0] rfl (sa_loop1 (fun x6 => [(0, .ref (ad this)), (1, .int x6)]) (fun x6 => []) (fun j24 hj24 x6 => ?_) _ _)
    refine sa_iload_n C d_X1_isWhole_24 rfl 1 rfl ?_
    refine sa_aload_n C d_X1_isWhole_25 rfl 0 rfl ?_
    refine sa_getR C fd_X1_11 rfl d_X1_isWhole_26 (fun v7 => ?_)
    refine sa_iconst (v := 1) C d_X1_isWhole_29 (by decide) ?_
    refine sa_iald C d_X1_isWhole_30 (fun v8 => ?_)
    refine sa_icmp_ge (tgt := 79) C d_X1_isWhole_31 (by decide) ?_ ?_
    · refine sa_aload_n C d_X1_isWhole_79 rfl 0 rfl ?_
      refine sa_iconst (v := 2) C d_X1_isWhole_80 (by decide) ?_
      refine sa_iconst (v := 0) C d_X1_isWhole_81 (by decide) ?_
      refine sa_invV (ci := 1) C (k_X1_areAtPlaces this 2 0) q652 ds_X1_areAtPlaces q116 rfl q651 q4 q649 (gd_X1_areAtPlaces this 2 0) rfl rfl rfl (Nat.le_of_ble_eq_true rfl) (by decide) (by decide) d_X1_isWhole_82 (fun v9 => ?_)
      refine sa_join1 102 (fun y10 => []) (fun y10 => [.int y10]) (fun y10 => ?_) (fun j102 hj102 => ?_)
      · exact sa_zret C d_X1_isWhole_102
      refine sa_join0 101 ([]) ([]) (?_) (fun j101 hj101 => ?_)
      · refine sa_iconst (v := 0) C d_X1_isWhole_101 (by decide) ?_
        exact sa_sub [] rfl (hj102 _)
      refine sa_if_eq (tgt := 101) C d_X1_isWhole_85 (by decide) ?_ ?_
      · exact sa_sub [] rfl (hj101)
      refine sa_aload_n C d_X1_isWhole_88 rfl 0 rfl ?_
      refine sa_iconst (v := 3) C d_X1_isWhole_89 (by decide) ?_
      refine sa_iconst (v := 0) C d_X1_isWhole_90 (by decide) ?_
      refine sa_invV (ci := 1) C (k_X1_areAtPlaces this 3 0) q652 ds_X1_areAtPlaces q116 rfl q651 q4 q649 (gd_X1_areAtPlaces this 3 0) rfl rfl rfl (Nat.le_of_ble_eq_true rfl) (by decide) (by decide) d_X1_isWhole_91 (fun v11 => ?_)
      refine sa_if_eq (tgt := 101) C d_X1_isWhole_94 (by decide) ?_ ?_
      · exact sa_sub [] rfl (hj101)
      refine sa_iconst (v := 1) C d_X1_isWhole_97 (by decide) ?_
      refine sa_goto (tgt := 102) C d_X1_isWhole_98 (by decide) ?_
      exact sa_sub [] rfl (hj102 _)
    refine sa_aload_n C d_X1_isWhole_34 rfl 0 rfl ?_
    refine sa_iconst (v := 1) C d_X1_isWhole_35 (by decide) ?_
    refine sa_iload_n C d_X1_isWhole_36 rfl 1 rfl ?_
    refine sa_iconst (v := 0) C d_X1_isWhole_37 (by decide) ?_
    refine sa_invV (ci := 1) C (k_X1_cell this 1 x6 0) q644 ds_X1_cell q116 rfl q642 q643 q641 (gd_X1_cell this 1 x6 0) rfl rfl rfl (Nat.le_of_ble_eq_true rfl) (by decide) (by decide) d_X1_isWhole_38 (fun v12 => ?_)
    refine sa_istore_n (lv' := [(2, .int v12), (0, .ref (ad this)), (1, .int x6)]) C d_X1_isWhole_41 rfl (by decide) rfl ?_
    refine sa_aload_n C d_X1_isWhole_42 rfl 1 rfl ?_
    refine sa_iconst (v := 1) C d_X1_isWhole_43 (by decide) ?_
    refine sa_iload_n C d_X1_isWhole_44 rfl 2 rfl ?_
    refine sa_iconst (v := 1) C d_X1_isWhole_45 (by decide) ?_
    refine sa_invV (ci := 1) C (k_X1_cell this 1 x6 1) q644 ds_X1_cell q116 rfl q642 q643 q641 (gd_X1_cell this 1 x6 1) rfl rfl rfl (Nat.le_of_ble_eq_true rfl) (by decide) (by decide) d_X1_isWhole_46 (fun v13 => ?_)
    refine sa_istore_n (lv' := [(3, .int v13), (2, .int v12), (0, .ref (ad this)), (1, .int x6)]) C d_X1_isWhole_49 rfl (by decide) rfl ?_
    refine sa_iload_n C d_X1_isWhole_50 rfl 1 rfl ?_
    refine sa_iload_n C d_X1_isWhole_51 rfl 0 rfl ?_
    refine sa_join0 71 ([]) ([]) (?_) (fun j71 hj71 => ?_)
    · refine sa_iconst (v := 0) C d_X1_isWhole_71 (by decide) ?_
      exact sa_zret C d_X1_isWhole_72
    refine sa_icmp_eq (tgt := 71) C d_X1_isWhole_52 (by decide) ?_ ?_
    · exact sa_sub [] rfl (hj71)
    refine sa_aload_n C d_X1_isWhole_55 rfl 2 rfl ?_
    refine sa_iload_n C d_X1_isWhole_56 rfl 1 rfl ?_
    refine sa_invV (ci := 1) C (k_X1_hasPlace this v12) q648 ds_X1_hasPlace q116 rfl q646 q647 q645 (gd_X1_hasPlace this v12) rfl rfl rfl (Nat.le_of_ble_eq_true rfl) (by decide) (by decide) d_X1_isWhole_57 (fun v14 => ?_)
    refine sa_if_eq (tgt := 71) C d_X1_isWhole_60 (by decide) ?_ ?_
    · exact sa_sub [] rfl (hj71)
    refine sa_aload_n C d_X1_isWhole_63 rfl 2 rfl ?_
    refine sa_iload_n C d_X1_isWhole_64 rfl 0 rfl ?_
    refine sa_invV (ci := 1) C (k_X1_hasPlace this v13) q648 ds_X1_hasPlace q116 rfl q646 q647 q645 (gd_X1_hasPlace this v13) rfl rfl rfl (Nat.le_of_ble_eq_true rfl) (by decide) (by decide) d_X1_isWhole_65 (fun v15 => ?_)
    refine sa_if_ne (tgt := 73) C d_X1_isWhole_68 (by decide) ?_ ?_
    · refine sa_iinc C (fun zz => [(1, .int zz), (3, .int v13), (2, .int v12), (0, .ref (ad this))]) d_X1_isWhole_73 3 rfl rfl (by decide) (fun _ => rfl) (fun x16 => ?_)
      refine sa_goto (tgt := 24) C d_X1_isWhole_76 (by decide) ?_
      exact sa_sub [3, 0] rfl (hj24 _)
    exact sa_sub [] rfl (hj71)
  exact sa_sub [] rfl (hj20)
theorem k_X1_isWhole (this : Nat) : sa_Met 3 yX1_isWhole cX1_isWhole 4 (some .boolean) (fun ad => [.ref (ad this)]) sa_eI (f_X1_isWhole this) := sa_mk (by decide) (fun ad => Nat.le_of_ble_eq_true rfl) (fun p l e s m args below meth c D ad cA A C => b_X1_isWhole this C)
theorem gd_X1_isWhole (this : Nat) (σ : sa_St) (r : Int32) (τ : sa_St) (h : f_X1_isWhole this σ = some (r, τ)) : sa_sh this = some (.inl 1) := sa_gd_ok h
theorem d_X1_readFrom_0 : decode cX1_readFrom 0 = .ok (.aload_n 0, 1) := by decide +kernel
theorem d_X1_readFrom_1 : decode cX1_readFrom 1 = .ok (.getfield 11, 3) := by decide +kernel
theorem d_X1_readFrom_4 : decode cX1_readFrom 4 = .ok (.iconst 0, 1) := by decide +kernel
theorem d_X1_readFrom_5 : decode cX1_readFrom 5 = .ok (.invokestatic 45, 3) := by decide +kernel
theorem d_X1_readFrom_8 : decode cX1_readFrom 8 = .ok (.aload_n 1, 1) := by decide +kernel
theorem d_X1_readFrom_9 : decode cX1_readFrom 9 = .ok (.invokevirtual 51, 3) := by decide +kernel
theorem d_X1_readFrom_12 : decode cX1_readFrom 12 = .ok (.iconst 0, 1) := by decide +kernel
theorem d_X1_readFrom_13 : decode cX1_readFrom 13 = .ok (.istore_n 2, 1) := by decide +kernel
theorem d_X1_readFrom_14 : decode cX1_readFrom 14 = .ok (.iload_n 2, 1) := by decide +kernel
theorem d_X1_readFrom_15 : decode cX1_readFrom 15 = .ok (.sipush 240, 3) := by decide +kernel
theorem d_X1_readFrom_18 : decode cX1_readFrom 18 = .ok (.if_icmp .ge 42, 3) := by decide +kernel
theorem d_X1_readFrom_21 : decode cX1_readFrom 21 = .ok (.aload_n 0, 1) := by decide +kernel
theorem d_X1_readFrom_22 : decode cX1_readFrom 22 = .ok (.aload_n 1, 1) := by decide +kernel
theorem d_X1_readFrom_23 : decode cX1_readFrom 23 = .ok (.invokevirtual 56, 3) := by decide +kernel
theorem d_X1_readFrom_26 : decode cX1_readFrom 26 = .ok (.ifCond .ne 5, 3) := by decide +kernel
theorem d_X1_readFrom_29 : decode cX1_readFrom 29 = .ok (.iconst 0, 1) := by decide +kernel
theorem d_X1_readFrom_30 : decode cX1_readFrom 30 = .ok (.ireturn, 1) := by decide +kernel
theorem d_X1_readFrom_31 : decode cX1_readFrom 31 = .ok (.aload_n 1, 1) := by decide +kernel
theorem d_X1_readFrom_32 : decode cX1_readFrom 32 = .ok (.invokevirtual 60, 3) := by decide +kernel
theorem d_X1_readFrom_35 : decode cX1_readFrom 35 = .ok (.ifCond .eq 8, 3) := by decide +kernel
theorem d_X1_readFrom_38 : decode cX1_readFrom 38 = .ok (.aload_n 0, 1) := by decide +kernel
theorem d_X1_readFrom_39 : decode cX1_readFrom 39 = .ok (.invokevirtual 63, 3) := by decide +kernel
theorem d_X1_readFrom_42 : decode cX1_readFrom 42 = .ok (.ireturn, 1) := by decide +kernel
theorem d_X1_readFrom_43 : decode cX1_readFrom 43 = .ok (.aload_n 1, 1) := by decide +kernel
theorem d_X1_readFrom_44 : decode cX1_readFrom 44 = .ok (.bipush 59, 2) := by decide +kernel
theorem d_X1_readFrom_46 : decode cX1_readFrom 46 = .ok (.invokevirtual 66, 3) := by decide +kernel
theorem d_X1_readFrom_49 : decode cX1_readFrom 49 = .ok (.ifCond .ne 5, 3) := by decide +kernel
theorem d_X1_readFrom_52 : decode cX1_readFrom 52 = .ok (.iconst 0, 1) := by decide +kernel
theorem d_X1_readFrom_53 : decode cX1_readFrom 53 = .ok (.ireturn, 1) := by decide +kernel
theorem d_X1_readFrom_54 : decode cX1_readFrom 54 = .ok (.iinc 2 1, 3) := by decide +kernel
theorem d_X1_readFrom_57 : decode cX1_readFrom 57 = .ok (.goto (-43), 3) := by decide +kernel
theorem d_X1_readFrom_60 : decode cX1_readFrom 60 = .ok (.iconst 0, 1) := by decide +kernel
theorem d_X1_readFrom_61 : decode cX1_readFrom 61 = .ok (.ireturn, 1) := by decide +kernel
def f_X1_readFrom (this : Nat) (a1 : Nat) : sa_M Int32 :=
sa_gd 1 this (
sa_bnd (sa_rdR 1 this 0) fun v1 =>
sa_bnd (f_J7_fill_53178 v1 0) fun _ =>
sa_bnd (f_X7_rewind a1) fun _ =>
sa_let (0 : Int32) fun x2 =>
sa_wh1 (fun j14 (x3 : Int32) =>
if 240 ≤ x3 then
sa_retZ 0
else
sa_bnd (f_X1_readClause this a1) fun v4 =>
if ¬ v4 = 0 then
sa_bnd (f_X7_isEnded a1) fun v5 =>
if v5 = 0 then
sa_bnd (f_X7_take a1 59) fun v6 =>
if ¬ v6 = 0 then
sa_let ((x3 + 1) : Int32) fun x7 =>
j14 x7
else
sa_retZ 0
else
sa_bnd (f_X1_isWhole this) fun v8 =>
sa_retZ v8
else
sa_retZ 0) sa_F x2)
set_option maxHeartbeats 1000000 in
set_option maxRecDepth 10000 in
theorem b_X1_readFrom {p : Program} {l : Launch} {e : Env} {s : State} {m : MethodId} {args : Array Value} {below : List Frame} {meth : Method} {c : Code} {D : va_G} {ad : Nat → Nat} {cA : FieldType → ClassId} {A : Nat → Prop} (this : Nat) (a1 : Nat) (C : sa_C p s m args meth c cX1_readFrom RX1 "readFrom" 3 (some .boolean) D ad cA A) : sa_Sg p l e s m args below meth c 3 7 D ad cA A sa_eI 0 [(0, .ref (ad this)), (1, .ref (ad a1))] [] (f_X1_readFrom this a1) := by
  unfold f_X1_readFrom
  refine sa_gdI ?_
  refine sa_aload_n C d_X1_readFrom_0 rfl 0 rfl ?_
  refine sa_getR C fd_X1_11 rfl d_X1_readFrom_1 (fun v1 => ?_)
  refine sa_iconst (v := 0) C d_X1_readFrom_4 (by decide) ?_
  refine sa_invS C (k_J7_fill_53178 v1 0) q309 ds_J7_fill_53178 q124 q308 q489 rfl rfl rfl (Nat.le_of_ble_eq_true rfl) (by decide) (by decide) d_X1_readFrom_5 (fun _ => ?_)
  refine sa_aload_n C d_X1_readFrom_8 rfl 1 rfl ?_
  refine sa_invV (ci := 7) C (k_X7_rewind a1) q493 ds_X7_rewind q115 rfl q491 q492 q490 (gd_X7_rewind a1) rfl rfl rfl (Nat.le_of_ble_eq_true rfl) (by decide) (by decide) d_X1_readFrom_9 (fun _ => ?_)
  refine sa_iconst (v := 0) C d_X1_readFrom_12 (by decide) ?_
  refine sa_topi (fun x2 => ?_)
  refine sa_istore_n (lv' := [(2, .int x2), (0, .ref (ad this)), (1, .ref (ad a1))]) C d_X1_readFrom_13 rfl (by decide) rfl ?_
  refine sa_sub [1, 2, 0] rfl (sa_loop1 (fun x3 => [(0, .ref (ad this)), (1, .ref (ad a1)), (2, .int x3)]) (fun x3 => []) (fun j14 hj14 x3 => ?_) _ _)
  refine sa_iload_n C d_X1_readFrom_14 rfl 2 rfl ?_
  refine sa_sipush (v := 240) C d_X1_readFrom_15 (by decide) ?_
  refine sa_icmp_ge (tgt := 60) C d_X1_readFrom_18 (by decide) ?_ ?_
  · refine sa_iconst (v := 0) C d_X1_readFrom_60 (by decide) ?_
    exact sa_zret C d_X1_readFrom_61
  refine sa_aload_n C d_X1_readFrom_21 rfl 0 rfl ?_
  refine sa_aload_n C d_X1_readFrom_22 rfl 1 rfl ?_
  refine sa_invV (ci := 1) C (k_X1_readClause this a1) q501 ds_X1_readClause q116 rfl q500 q2 q498 (gd_X1_readClause this a1) rfl rfl rfl (Nat.le_of_ble_eq_true rfl) (by decide) (by decide) d_X1_readFrom_23 (fun v4 => ?_)
  refine sa_if_ne (tgt := 31) C d_X1_readFrom_26 (by decide) ?_ ?_
  · refine sa_aload_n C d_X1_readFrom_31 rfl 1 rfl ?_
    refine sa_invV (ci := 7) C (k_X7_isEnded a1) q636 ds_X7_isEnded q115 rfl q634 q635 q633 (gd_X7_isEnded a1) rfl rfl rfl (Nat.le_of_ble_eq_true rfl) (by decide) (by decide) d_X1_readFrom_32 (fun v5 => ?_)
    refine sa_if_eq (tgt := 43) C d_X1_readFrom_35 (by decide) ?_ ?_
    · refine sa_aload_n C d_X1_readFrom_43 rfl 1 rfl ?_
      refine sa_bipush (v := 59) C d_X1_readFrom_44 (by decide) ?_
      refine sa_invV (ci := 7) C (k_X7_take a1 59) q656 ds_X7_take q115 rfl q654 q655 q653 (gd_X7_take a1 59) rfl rfl rfl (Nat.le_of_ble_eq_true rfl) (by decide) (by decide) d_X1_readFrom_46 (fun v6 => ?_)
      refine sa_if_ne (tgt := 54) C d_X1_readFrom_49 (by decide) ?_ ?_
      · refine sa_iinc C (fun zz => [(2, .int zz), (0, .ref (ad this)), (1, .ref (ad a1))]) d_X1_readFrom_54 2 rfl rfl (by decide) (fun _ => rfl) (fun x7 => ?_)
        refine sa_goto (tgt := 14) C d_X1_readFrom_57 (by decide) ?_
        exact sa_sub [1, 2, 0] rfl (hj14 _)
      refine sa_iconst (v := 0) C d_X1_readFrom_52 (by decide) ?_
      exact sa_zret C d_X1_readFrom_53
    refine sa_aload_n C d_X1_readFrom_38 rfl 0 rfl ?_
    refine sa_invV (ci := 1) C (k_X1_isWhole this) q640 ds_X1_isWhole q116 rfl q639 q3 q637 (gd_X1_isWhole this) rfl rfl rfl (Nat.le_of_ble_eq_true rfl) (by decide) (by decide) d_X1_readFrom_39 (fun v8 => ?_)
    exact sa_zret C d_X1_readFrom_42
  refine sa_iconst (v := 0) C d_X1_readFrom_29 (by decide) ?_
  exact sa_zret C d_X1_readFrom_30
theorem k_X1_readFrom (this : Nat) (a1 : Nat) : sa_Met 7 yX1_readFrom cX1_readFrom 3 (some .boolean) (fun ad => [.ref (ad this), .ref (ad a1)]) sa_eI (f_X1_readFrom this a1) := sa_mk (by decide) (fun ad => Nat.le_of_ble_eq_true rfl) (fun p l e s m args below meth c D ad cA A C => b_X1_readFrom this a1 C)
theorem gd_X1_readFrom (this : Nat) (a1 : Nat) (σ : sa_St) (r : Int32) (τ : sa_St) (h : f_X1_readFrom this a1 σ = some (r, τ)) : sa_sh this = some (.inl 1) := sa_gd_ok h
theorem d_X1_drawWay_0 : decode cX1_drawWay 0 = .ok (.aload_n 0, 1) := by decide +kernel
theorem d_X1_drawWay_1 : decode cX1_drawWay 1 = .ok (.getfield 18, 3) := by decide +kernel
theorem d_X1_drawWay_4 : decode cX1_drawWay 4 = .ok (.iload_n 2, 1) := by decide +kernel
theorem d_X1_drawWay_5 : decode cX1_drawWay 5 = .ok (.iload_n 1, 1) := by decide +kernel
theorem d_X1_drawWay_6 : decode cX1_drawWay 6 = .ok (.iastore, 1) := by decide +kernel
theorem d_X1_drawWay_7 : decode cX1_drawWay 7 = .ok (.aload_n 0, 1) := by decide +kernel
theorem d_X1_drawWay_8 : decode cX1_drawWay 8 = .ok (.getfield 21, 3) := by decide +kernel
theorem d_X1_drawWay_11 : decode cX1_drawWay 11 = .ok (.iload_n 2, 1) := by decide +kernel
theorem d_X1_drawWay_12 : decode cX1_drawWay 12 = .ok (.aload_n 0, 1) := by decide +kernel
theorem d_X1_drawWay_13 : decode cX1_drawWay 13 = .ok (.getfield 21, 3) := by decide +kernel
theorem d_X1_drawWay_16 : decode cX1_drawWay 16 = .ok (.iload_n 2, 1) := by decide +kernel
theorem d_X1_drawWay_17 : decode cX1_drawWay 17 = .ok (.iaload, 1) := by decide +kernel
theorem d_X1_drawWay_18 : decode cX1_drawWay 18 = .ok (.aload_n 0, 1) := by decide +kernel
theorem d_X1_drawWay_19 : decode cX1_drawWay 19 = .ok (.iconst 1, 1) := by decide +kernel
theorem d_X1_drawWay_20 : decode cX1_drawWay 20 = .ok (.iload_n 1, 1) := by decide +kernel
theorem d_X1_drawWay_21 : decode cX1_drawWay 21 = .ok (.iconst 2, 1) := by decide +kernel
theorem d_X1_drawWay_22 : decode cX1_drawWay 22 = .ok (.invokevirtual 31, 3) := by decide +kernel
theorem d_X1_drawWay_25 : decode cX1_drawWay 25 = .ok (.invokestatic 39, 3) := by decide +kernel
theorem d_X1_drawWay_28 : decode cX1_drawWay 28 = .ok (.iastore, 1) := by decide +kernel
theorem d_X1_drawWay_29 : decode cX1_drawWay 29 = .ok (.aload_n 0, 1) := by decide +kernel
theorem d_X1_drawWay_30 : decode cX1_drawWay 30 = .ok (.getfield 24, 3) := by decide +kernel
theorem d_X1_drawWay_33 : decode cX1_drawWay 33 = .ok (.iload_n 2, 1) := by decide +kernel
theorem d_X1_drawWay_34 : decode cX1_drawWay 34 = .ok (.iconst 1, 1) := by decide +kernel
theorem d_X1_drawWay_35 : decode cX1_drawWay 35 = .ok (.iastore, 1) := by decide +kernel
theorem d_X1_drawWay_36 : decode cX1_drawWay 36 = .ok (.return_, 1) := by decide +kernel
def f_X1_drawWay (this : Nat) (a1 : Int32) (a2 : Int32) : sa_M Unit :=
sa_gd 1 this (
sa_bnd (sa_rdR 1 this 2) fun v1 =>
sa_bnd (sa_stI v1 a2 a1) fun _ =>
sa_bnd (sa_rdR 1 this 3) fun v2 =>
sa_bnd (sa_rdR 1 this 3) fun v3 =>
sa_bnd (sa_ldI .int v3 a2) fun v4 =>
sa_bnd (f_X1_cell this 1 a1 2) fun v5 =>
sa_bnd (sa_stI v2 a2 (sa_min v4 v5)) fun _ =>
sa_bnd (sa_rdR 1 this 4) fun v6 =>
sa_bnd (sa_stI v6 a2 1) fun _ =>
sa_ret ())
set_option maxHeartbeats 1000000 in
set_option maxRecDepth 10000 in
theorem b_X1_drawWay {p : Program} {l : Launch} {e : Env} {s : State} {m : MethodId} {args : Array Value} {below : List Frame} {meth : Method} {c : Code} {D : va_G} {ad : Nat → Nat} {cA : FieldType → ClassId} {A : Nat → Prop} (this : Nat) (a1 : Int32) (a2 : Int32) (C : sa_C p s m args meth c cX1_drawWay RX1 "drawWay" 3 none D ad cA A) : sa_Sg p l e s m args below meth c 3 2 D ad cA A sa_eV 0 [(0, .ref (ad this)), (1, .int a1), (2, .int a2)] [] (f_X1_drawWay this a1 a2) := by
  unfold f_X1_drawWay
  refine sa_gdI ?_
  refine sa_aload_n C d_X1_drawWay_0 rfl 0 rfl ?_
  refine sa_getR C fd_X1_18 rfl d_X1_drawWay_1 (fun v1 => ?_)
  refine sa_iload_n C d_X1_drawWay_4 rfl 2 rfl ?_
  refine sa_iload_n C d_X1_drawWay_5 rfl 1 rfl ?_
  refine sa_iast C d_X1_drawWay_6 ?_
  refine sa_aload_n C d_X1_drawWay_7 rfl 0 rfl ?_
  refine sa_getR C fd_X1_21 rfl d_X1_drawWay_8 (fun v2 => ?_)
  refine sa_iload_n C d_X1_drawWay_11 rfl 2 rfl ?_
  refine sa_aload_n C d_X1_drawWay_12 rfl 0 rfl ?_
  refine sa_getR C fd_X1_21 rfl d_X1_drawWay_13 (fun v3 => ?_)
  refine sa_iload_n C d_X1_drawWay_16 rfl 2 rfl ?_
  refine sa_iald C d_X1_drawWay_17 (fun v4 => ?_)
  refine sa_aload_n C d_X1_drawWay_18 rfl 0 rfl ?_
  refine sa_iconst (v := 1) C d_X1_drawWay_19 (by decide) ?_
  refine sa_iload_n C d_X1_drawWay_20 rfl 1 rfl ?_
  refine sa_iconst (v := 2) C d_X1_drawWay_21 (by decide) ?_
  refine sa_invV (ci := 1) C (k_X1_cell this 1 a1 2) q644 ds_X1_cell q116 rfl q642 q643 q641 (gd_X1_cell this 1 a1 2) rfl rfl rfl (Nat.le_of_ble_eq_true rfl) (by decide) (by decide) d_X1_drawWay_22 (fun v5 => ?_)
  refine sa_mmin C q746 (Nat.le_of_ble_eq_true rfl) (by decide) q530 q130 q531 d_X1_drawWay_25 ?_
  refine sa_iast C d_X1_drawWay_28 ?_
  refine sa_aload_n C d_X1_drawWay_29 rfl 0 rfl ?_
  refine sa_getR C fd_X1_24 rfl d_X1_drawWay_30 (fun v6 => ?_)
  refine sa_iload_n C d_X1_drawWay_33 rfl 2 rfl ?_
  refine sa_iconst (v := 1) C d_X1_drawWay_34 (by decide) ?_
  refine sa_iast C d_X1_drawWay_35 ?_
  exact sa_vret C d_X1_drawWay_36
theorem k_X1_drawWay (this : Nat) (a1 : Int32) (a2 : Int32) : sa_Met 2 yX1_drawWay cX1_drawWay 3 none (fun ad => [.ref (ad this), .int a1, .int a2]) sa_eV (f_X1_drawWay this a1 a2) := sa_mk (by decide) (fun ad => Nat.le_of_ble_eq_true rfl) (fun p l e s m args below meth c D ad cA A C => b_X1_drawWay this a1 a2 C)
theorem gd_X1_drawWay (this : Nat) (a1 : Int32) (a2 : Int32) (σ : sa_St) (r : Unit) (τ : sa_St) (h : f_X1_drawWay this a1 a2 σ = some (r, τ)) : sa_sh this = some (.inl 1) := sa_gd_ok h
theorem d_X1_shorten_0 : decode cX1_shorten 0 = .ok (.iconst 0, 1) := by decide +kernel
theorem d_X1_shorten_1 : decode cX1_shorten 1 = .ok (.istore_n 1, 1) := by decide +kernel
theorem d_X1_shorten_2 : decode cX1_shorten 2 = .ok (.iload_n 1, 1) := by decide +kernel
theorem d_X1_shorten_3 : decode cX1_shorten 3 = .ok (.bipush 8, 2) := by decide +kernel
theorem d_X1_shorten_5 : decode cX1_shorten 5 = .ok (.if_icmp .ge 77, 3) := by decide +kernel
theorem d_X1_shorten_8 : decode cX1_shorten 8 = .ok (.iconst 0, 1) := by decide +kernel
theorem d_X1_shorten_9 : decode cX1_shorten 9 = .ok (.istore_n 2, 1) := by decide +kernel
theorem d_X1_shorten_10 : decode cX1_shorten 10 = .ok (.iload_n 2, 1) := by decide +kernel
theorem d_X1_shorten_11 : decode cX1_shorten 11 = .ok (.bipush 8, 2) := by decide +kernel
theorem d_X1_shorten_13 : decode cX1_shorten 13 = .ok (.if_icmp .ge 63, 3) := by decide +kernel
theorem d_X1_shorten_16 : decode cX1_shorten 16 = .ok (.iconst 0, 1) := by decide +kernel
theorem d_X1_shorten_17 : decode cX1_shorten 17 = .ok (.istore_n 3, 1) := by decide +kernel
theorem d_X1_shorten_18 : decode cX1_shorten 18 = .ok (.iload_n 3, 1) := by decide +kernel
theorem d_X1_shorten_19 : decode cX1_shorten 19 = .ok (.bipush 8, 2) := by decide +kernel
theorem d_X1_shorten_21 : decode cX1_shorten 21 = .ok (.if_icmp .ge 49, 3) := by decide +kernel
theorem d_X1_shorten_24 : decode cX1_shorten 24 = .ok (.aload_n 0, 1) := by decide +kernel
theorem d_X1_shorten_25 : decode cX1_shorten 25 = .ok (.iload_n 2, 1) := by decide +kernel
theorem d_X1_shorten_26 : decode cX1_shorten 26 = .ok (.bipush 8, 2) := by decide +kernel
theorem d_X1_shorten_28 : decode cX1_shorten 28 = .ok (.imul, 1) := by decide +kernel
theorem d_X1_shorten_29 : decode cX1_shorten 29 = .ok (.iload_n 1, 1) := by decide +kernel
theorem d_X1_shorten_30 : decode cX1_shorten 30 = .ok (.iadd, 1) := by decide +kernel
theorem d_X1_shorten_31 : decode cX1_shorten 31 = .ok (.iaload, 1) := by decide +kernel
theorem d_X1_shorten_32 : decode cX1_shorten 32 = .ok (.aload_n 0, 1) := by decide +kernel
theorem d_X1_shorten_33 : decode cX1_shorten 33 = .ok (.iload_n 1, 1) := by decide +kernel
theorem d_X1_shorten_34 : decode cX1_shorten 34 = .ok (.bipush 8, 2) := by decide +kernel
theorem d_X1_shorten_36 : decode cX1_shorten 36 = .ok (.imul, 1) := by decide +kernel
theorem d_X1_shorten_37 : decode cX1_shorten 37 = .ok (.iload_n 3, 1) := by decide +kernel
theorem d_X1_shorten_38 : decode cX1_shorten 38 = .ok (.iadd, 1) := by decide +kernel
theorem d_X1_shorten_39 : decode cX1_shorten 39 = .ok (.iaload, 1) := by decide +kernel
theorem d_X1_shorten_40 : decode cX1_shorten 40 = .ok (.iadd, 1) := by decide +kernel
theorem d_X1_shorten_41 : decode cX1_shorten 41 = .ok (.istore 4, 2) := by decide +kernel
theorem d_X1_shorten_43 : decode cX1_shorten 43 = .ok (.aload_n 0, 1) := by decide +kernel
theorem d_X1_shorten_44 : decode cX1_shorten 44 = .ok (.iload_n 2, 1) := by decide +kernel
theorem d_X1_shorten_45 : decode cX1_shorten 45 = .ok (.bipush 8, 2) := by decide +kernel
theorem d_X1_shorten_47 : decode cX1_shorten 47 = .ok (.imul, 1) := by decide +kernel
theorem d_X1_shorten_48 : decode cX1_shorten 48 = .ok (.iload_n 3, 1) := by decide +kernel
theorem d_X1_shorten_49 : decode cX1_shorten 49 = .ok (.iadd, 1) := by decide +kernel
theorem d_X1_shorten_50 : decode cX1_shorten 50 = .ok (.aload_n 0, 1) := by decide +kernel
theorem d_X1_shorten_51 : decode cX1_shorten 51 = .ok (.iload_n 2, 1) := by decide +kernel
theorem d_X1_shorten_52 : decode cX1_shorten 52 = .ok (.bipush 8, 2) := by decide +kernel
theorem d_X1_shorten_54 : decode cX1_shorten 54 = .ok (.imul, 1) := by decide +kernel
theorem d_X1_shorten_55 : decode cX1_shorten 55 = .ok (.iload_n 3, 1) := by decide +kernel
theorem d_X1_shorten_56 : decode cX1_shorten 56 = .ok (.iadd, 1) := by decide +kernel
theorem d_X1_shorten_57 : decode cX1_shorten 57 = .ok (.iaload, 1) := by decide +kernel
theorem d_X1_shorten_58 : decode cX1_shorten 58 = .ok (.iload 4, 2) := by decide +kernel
theorem d_X1_shorten_60 : decode cX1_shorten 60 = .ok (.invokestatic 39, 3) := by decide +kernel
theorem d_X1_shorten_63 : decode cX1_shorten 63 = .ok (.iastore, 1) := by decide +kernel
theorem d_X1_shorten_64 : decode cX1_shorten 64 = .ok (.iinc 3 1, 3) := by decide +kernel
theorem d_X1_shorten_67 : decode cX1_shorten 67 = .ok (.goto (-49), 3) := by decide +kernel
theorem d_X1_shorten_70 : decode cX1_shorten 70 = .ok (.iinc 2 1, 3) := by decide +kernel
theorem d_X1_shorten_73 : decode cX1_shorten 73 = .ok (.goto (-63), 3) := by decide +kernel
theorem d_X1_shorten_76 : decode cX1_shorten 76 = .ok (.iinc 1 1, 3) := by decide +kernel
theorem d_X1_shorten_79 : decode cX1_shorten 79 = .ok (.goto (-77), 3) := by decide +kernel
theorem d_X1_shorten_82 : decode cX1_shorten 82 = .ok (.return_, 1) := by decide +kernel
def f_X1_shorten (a1 : Nat) : sa_M Unit :=
sa_let (0 : Int32) fun x1 =>
sa_wh1 (fun j2 (x2 : Int32) =>
if 8 ≤ x2 then
sa_ret ()
else
sa_let (0 : Int32) fun x3 =>
sa_wh1 (fun j10 (x4 : Int32) =>
if 8 ≤ x4 then
sa_let ((x2 + 1) : Int32) fun x5 =>
j2 x5
else
sa_let (0 : Int32) fun x6 =>
sa_wh1 (fun j18 (x7 : Int32) =>
if 8 ≤ x7 then
sa_let ((x4 + 1) : Int32) fun x8 =>
j10 x8
else
sa_bnd (sa_ldI .int a1 ((x4 * 8) + x2)) fun v9 =>
sa_bnd (sa_ldI .int a1 ((x2 * 8) + x7)) fun v10 =>
sa_let ((v9 + v10) : Int32) fun x11 =>
sa_bnd (sa_ldI .int a1 ((x4 * 8) + x7)) fun v12 =>
sa_bnd (sa_stI a1 ((x4 * 8) + x7) (sa_min v12 x11)) fun _ =>
sa_let ((x7 + 1) : Int32) fun x13 =>
j18 x13) sa_F x6) sa_F x3) sa_F x1
set_option maxHeartbeats 1000000 in
set_option maxRecDepth 10000 in
theorem b_X1_shorten {p : Program} {l : Launch} {e : Env} {s : State} {m : MethodId} {args : Array Value} {below : List Frame} {meth : Method} {c : Code} {D : va_G} {ad : Nat → Nat} {cA : FieldType → ClassId} {A : Nat → Prop} (a1 : Nat) (C : sa_C p s m args meth c cX1_shorten RX1 "shorten" 5 none D ad cA A) : sa_Sg p l e s m args below meth c 5 1 D ad cA A sa_eV 0 [(0, .ref (ad a1))] [] (f_X1_shorten a1) := by
  unfold f_X1_shorten
  refine sa_iconst (v := 0) C d_X1_shorten_0 (by decide) ?_
  refine sa_topi (fun x1 => ?_)
  refine sa_istore_n (lv' := [(1, .int x1), (0, .ref (ad a1))]) C d_X1_shorten_1 rfl (by decide) rfl ?_
  refine sa_sub [1, 0] rfl (sa_loop1 (fun x2 => [(0, .ref (ad a1)), (1, .int x2)]) (fun x2 => []) (fun j2 hj2 x2 => ?_) _ _)
  refine sa_iload_n C d_X1_shorten_2 rfl 1 rfl ?_
  refine sa_bipush (v := 8) C d_X1_shorten_3 (by decide) ?_
  refine sa_icmp_ge (tgt := 82) C d_X1_shorten_5 (by decide) ?_ ?_
  · exact sa_vret C d_X1_shorten_82
  refine sa_iconst (v := 0) C d_X1_shorten_8 (by decide) ?_
  refine sa_topi (fun x3 => ?_)
  refine sa_istore_n (lv' := [(2, .int x3), (0, .ref (ad a1)), (1, .int x2)]) C d_X1_shorten_9 rfl (by decide) rfl ?_
  refine sa_sub [1, 2, 0] rfl (sa_loop1 (fun x4 => [(0, .ref (ad a1)), (1, .int x2), (2, .int x4)]) (fun x4 => []) (fun j10 hj10 x4 => ?_) _ _)
  refine sa_iload_n C d_X1_shorten_10 rfl 2 rfl ?_
  refine sa_bipush (v := 8) C d_X1_shorten_11 (by decide) ?_
  refine sa_icmp_ge (tgt := 76) C d_X1_shorten_13 (by decide) ?_ ?_
  · refine sa_iinc C (fun zz => [(1, .int zz), (0, .ref (ad a1)), (2, .int x4)]) d_X1_shorten_76 1 rfl rfl (by decide) (fun _ => rfl) (fun x5 => ?_)
    refine sa_goto (tgt := 2) C d_X1_shorten_79 (by decide) ?_
    exact sa_sub [1, 0] rfl (hj2 _)
  refine sa_iconst (v := 0) C d_X1_shorten_16 (by decide) ?_
  refine sa_topi (fun x6 => ?_)
  refine sa_istore_n (lv' := [(3, .int x6), (0, .ref (ad a1)), (1, .int x2), (2, .int x4)]) C d_X1_shorten_17 rfl (by decide) rfl ?_
  refine sa_sub [1, 2, 3, 0] rfl (sa_loop1 (fun x7 => [(0, .ref (ad a1)), (1, .int x2), (2, .int x4), (3, .int x7)]) (fun x7 => []) (fun j18 hj18 x7 => ?_) _ _)
  refine sa_iload_n C d_X1_shorten_18 rfl 3 rfl ?_
  refine sa_bipush (v := 8) C d_X1_shorten_19 (by decide) ?_
  refine sa_icmp_ge (tgt := 70) C d_X1_shorten_21 (by decide) ?_ ?_
  · refine sa_iinc C (fun zz => [(2, .int zz), (0, .ref (ad a1)), (1, .int x2), (3, .int x7)]) d_X1_shorten_70 2 rfl rfl (by decide) (fun _ => rfl) (fun x8 => ?_)
    refine sa_goto (tgt := 10) C d_X1_shorten_73 (by decide) ?_
    exact sa_sub [1, 2, 0] rfl (hj10 _)
  refine sa_aload_n C d_X1_shorten_24 rfl 0 rfl ?_
  refine sa_iload_n C d_X1_shorten_25 rfl 2 rfl ?_
  refine sa_bipush (v := 8) C d_X1_shorten_26 (by decide) ?_
  refine sa_imul C d_X1_shorten_28 ?_
  refine sa_iload_n C d_X1_shorten_29 rfl 1 rfl ?_
  refine sa_iadd C d_X1_shorten_30 ?_
  refine sa_iald C d_X1_shorten_31 (fun v9 => ?_)
  refine sa_aload_n C d_X1_shorten_32 rfl 0 rfl ?_
  refine sa_iload_n C d_X1_shorten_33 rfl 1 rfl ?_
  refine sa_bipush (v := 8) C d_X1_shorten_34 (by decide) ?_
  refine sa_imul C d_X1_shorten_36 ?_
  refine sa_iload_n C d_X1_shorten_37 rfl 3 rfl ?_
  refine sa_iadd C d_X1_shorten_38 ?_
  refine sa_iald C d_X1_shorten_39 (fun v10 => ?_)
  refine sa_iadd C d_X1_shorten_40 ?_
  refine sa_topi (fun x11 => ?_)
  refine sa_istore (lv' := [(4, .int x11), (0, .ref (ad a1)), (1, .int x2), (2, .int x4), (3, .int x7)]) C d_X1_shorten_41 (by decide) rfl ?_
  refine sa_aload_n C d_X1_shorten_43 rfl 1 rfl ?_
  refine sa_iload_n C d_X1_shorten_44 rfl 3 rfl ?_
  refine sa_bipush (v := 8) C d_X1_shorten_45 (by decide) ?_
  refine sa_imul C d_X1_shorten_47 ?_
  refine sa_iload_n C d_X1_shorten_48 rfl 4 rfl ?_
  refine sa_iadd C d_X1_shorten_49 ?_
  refine sa_aload_n C d_X1_shorten_50 rfl 1 rfl ?_
  refine sa_iload_n C d_X1_shorten_51 rfl 3 rfl ?_
  refine sa_bipush (v := 8) C d_X1_shorten_52 (by decide) ?_
  refine sa_imul C d_X1_shorten_54 ?_
  refine sa_iload_n C d_X1_shorten_55 rfl 4 rfl ?_
  refine sa_iadd C d_X1_shorten_56 ?_
  refine sa_iald C d_X1_shorten_57 (fun v12 => ?_)
  refine sa_iload C d_X1_shorten_58 0 rfl ?_
  refine sa_mmin C q746 (Nat.le_of_ble_eq_true rfl) (by decide) q530 q130 q531 d_X1_shorten_60 ?_
  refine sa_iast C d_X1_shorten_63 ?_
  refine sa_iinc C (fun zz => [(3, .int zz), (4, .int x11), (0, .ref (ad a1)), (1, .int x2), (2, .int x4)]) d_X1_shorten_64 4 rfl rfl (by decide) (fun _ => rfl) (fun x13 => ?_)
  refine sa_goto (tgt := 18) C d_X1_shorten_67 (by decide) ?_
  exact sa_sub [2, 3, 4, 0] rfl (hj18 _)
theorem k_X1_shorten (a1 : Nat) : sa_Met 1 yX1_shorten cX1_shorten 5 none (fun ad => [.ref (ad a1)]) sa_eV (f_X1_shorten a1) := sa_mk (by decide) (fun ad => Nat.le_of_ble_eq_true rfl) (fun p l e s m args below meth c D ad cA A C => b_X1_shorten a1 C)
theorem d_X1_drawMaps_0 : decode cX1_drawMaps 0 = .ok (.aload_n 0, 1) := by decide +kernel
theorem d_X1_drawMaps_1 : decode cX1_drawMaps 1 = .ok (.getfield 18, 3) := by decide +kernel
theorem d_X1_drawMaps_4 : decode cX1_drawMaps 4 = .ok (.iconst (-1), 1) := by decide +kernel
theorem d_X1_drawMaps_5 : decode cX1_drawMaps 5 = .ok (.invokestatic 45, 3) := by decide +kernel
theorem d_X1_drawMaps_8 : decode cX1_drawMaps 8 = .ok (.aload_n 0, 1) := by decide +kernel
theorem d_X1_drawMaps_9 : decode cX1_drawMaps 9 = .ok (.getfield 21, 3) := by decide +kernel
theorem d_X1_drawMaps_12 : decode cX1_drawMaps 12 = .ok (.sipush 1000, 3) := by decide +kernel
theorem d_X1_drawMaps_15 : decode cX1_drawMaps 15 = .ok (.invokestatic 45, 3) := by decide +kernel
theorem d_X1_drawMaps_18 : decode cX1_drawMaps 18 = .ok (.aload_n 0, 1) := by decide +kernel
theorem d_X1_drawMaps_19 : decode cX1_drawMaps 19 = .ok (.getfield 24, 3) := by decide +kernel
theorem d_X1_drawMaps_22 : decode cX1_drawMaps 22 = .ok (.sipush 1000, 3) := by decide +kernel
theorem d_X1_drawMaps_25 : decode cX1_drawMaps 25 = .ok (.invokestatic 45, 3) := by decide +kernel
theorem d_X1_drawMaps_28 : decode cX1_drawMaps 28 = .ok (.iconst 0, 1) := by decide +kernel
theorem d_X1_drawMaps_29 : decode cX1_drawMaps 29 = .ok (.istore_n 1, 1) := by decide +kernel
theorem d_X1_drawMaps_30 : decode cX1_drawMaps 30 = .ok (.iload_n 1, 1) := by decide +kernel
theorem d_X1_drawMaps_31 : decode cX1_drawMaps 31 = .ok (.bipush 8, 2) := by decide +kernel
theorem d_X1_drawMaps_33 : decode cX1_drawMaps 33 = .ok (.if_icmp .ge 33, 3) := by decide +kernel
theorem d_X1_drawMaps_36 : decode cX1_drawMaps 36 = .ok (.aload_n 0, 1) := by decide +kernel
theorem d_X1_drawMaps_37 : decode cX1_drawMaps 37 = .ok (.getfield 21, 3) := by decide +kernel
theorem d_X1_drawMaps_40 : decode cX1_drawMaps 40 = .ok (.iload_n 1, 1) := by decide +kernel
theorem d_X1_drawMaps_41 : decode cX1_drawMaps 41 = .ok (.bipush 8, 2) := by decide +kernel
theorem d_X1_drawMaps_43 : decode cX1_drawMaps 43 = .ok (.imul, 1) := by decide +kernel
theorem d_X1_drawMaps_44 : decode cX1_drawMaps 44 = .ok (.iload_n 1, 1) := by decide +kernel
theorem d_X1_drawMaps_45 : decode cX1_drawMaps 45 = .ok (.iadd, 1) := by decide +kernel
theorem d_X1_drawMaps_46 : decode cX1_drawMaps 46 = .ok (.iconst 0, 1) := by decide +kernel
theorem d_X1_drawMaps_47 : decode cX1_drawMaps 47 = .ok (.iastore, 1) := by decide +kernel
theorem d_X1_drawMaps_48 : decode cX1_drawMaps 48 = .ok (.aload_n 0, 1) := by decide +kernel
theorem d_X1_drawMaps_49 : decode cX1_drawMaps 49 = .ok (.getfield 24, 3) := by decide +kernel
theorem d_X1_drawMaps_52 : decode cX1_drawMaps 52 = .ok (.iload_n 1, 1) := by decide +kernel
theorem d_X1_drawMaps_53 : decode cX1_drawMaps 53 = .ok (.bipush 8, 2) := by decide +kernel
theorem d_X1_drawMaps_55 : decode cX1_drawMaps 55 = .ok (.imul, 1) := by decide +kernel
theorem d_X1_drawMaps_56 : decode cX1_drawMaps 56 = .ok (.iload_n 1, 1) := by decide +kernel
theorem d_X1_drawMaps_57 : decode cX1_drawMaps 57 = .ok (.iadd, 1) := by decide +kernel
theorem d_X1_drawMaps_58 : decode cX1_drawMaps 58 = .ok (.iconst 0, 1) := by decide +kernel
theorem d_X1_drawMaps_59 : decode cX1_drawMaps 59 = .ok (.iastore, 1) := by decide +kernel
theorem d_X1_drawMaps_60 : decode cX1_drawMaps 60 = .ok (.iinc 1 1, 3) := by decide +kernel
theorem d_X1_drawMaps_63 : decode cX1_drawMaps 63 = .ok (.goto (-33), 3) := by decide +kernel
theorem d_X1_drawMaps_66 : decode cX1_drawMaps 66 = .ok (.aload_n 0, 1) := by decide +kernel
theorem d_X1_drawMaps_67 : decode cX1_drawMaps 67 = .ok (.getfield 11, 3) := by decide +kernel
theorem d_X1_drawMaps_70 : decode cX1_drawMaps 70 = .ok (.iconst 1, 1) := by decide +kernel
theorem d_X1_drawMaps_71 : decode cX1_drawMaps 71 = .ok (.iaload, 1) := by decide +kernel
theorem d_X1_drawMaps_72 : decode cX1_drawMaps 72 = .ok (.iconst 1, 1) := by decide +kernel
theorem d_X1_drawMaps_73 : decode cX1_drawMaps 73 = .ok (.isub, 1) := by decide +kernel
theorem d_X1_drawMaps_74 : decode cX1_drawMaps 74 = .ok (.istore_n 1, 1) := by decide +kernel
theorem d_X1_drawMaps_75 : decode cX1_drawMaps 75 = .ok (.iload_n 1, 1) := by decide +kernel
theorem d_X1_drawMaps_76 : decode cX1_drawMaps 76 = .ok (.ifCond .lt 47, 3) := by decide +kernel
theorem d_X1_drawMaps_79 : decode cX1_drawMaps 79 = .ok (.aload_n 0, 1) := by decide +kernel
theorem d_X1_drawMaps_80 : decode cX1_drawMaps 80 = .ok (.iconst 1, 1) := by decide +kernel
theorem d_X1_drawMaps_81 : decode cX1_drawMaps 81 = .ok (.iload_n 1, 1) := by decide +kernel
theorem d_X1_drawMaps_82 : decode cX1_drawMaps 82 = .ok (.iconst 0, 1) := by decide +kernel
theorem d_X1_drawMaps_83 : decode cX1_drawMaps 83 = .ok (.invokevirtual 31, 3) := by decide +kernel
theorem d_X1_drawMaps_86 : decode cX1_drawMaps 86 = .ok (.istore_n 2, 1) := by decide +kernel
theorem d_X1_drawMaps_87 : decode cX1_drawMaps 87 = .ok (.aload_n 0, 1) := by decide +kernel
theorem d_X1_drawMaps_88 : decode cX1_drawMaps 88 = .ok (.iconst 1, 1) := by decide +kernel
theorem d_X1_drawMaps_89 : decode cX1_drawMaps 89 = .ok (.iload_n 1, 1) := by decide +kernel
theorem d_X1_drawMaps_90 : decode cX1_drawMaps 90 = .ok (.iconst 1, 1) := by decide +kernel
theorem d_X1_drawMaps_91 : decode cX1_drawMaps 91 = .ok (.invokevirtual 31, 3) := by decide +kernel
theorem d_X1_drawMaps_94 : decode cX1_drawMaps 94 = .ok (.istore_n 3, 1) := by decide +kernel
theorem d_X1_drawMaps_95 : decode cX1_drawMaps 95 = .ok (.aload_n 0, 1) := by decide +kernel
theorem d_X1_drawMaps_96 : decode cX1_drawMaps 96 = .ok (.iload_n 1, 1) := by decide +kernel
theorem d_X1_drawMaps_97 : decode cX1_drawMaps 97 = .ok (.iload_n 2, 1) := by decide +kernel
theorem d_X1_drawMaps_98 : decode cX1_drawMaps 98 = .ok (.bipush 8, 2) := by decide +kernel
theorem d_X1_drawMaps_100 : decode cX1_drawMaps 100 = .ok (.imul, 1) := by decide +kernel
theorem d_X1_drawMaps_101 : decode cX1_drawMaps 101 = .ok (.iload_n 3, 1) := by decide +kernel
theorem d_X1_drawMaps_102 : decode cX1_drawMaps 102 = .ok (.iadd, 1) := by decide +kernel
theorem d_X1_drawMaps_103 : decode cX1_drawMaps 103 = .ok (.invokevirtual 126, 3) := by decide +kernel
theorem d_X1_drawMaps_106 : decode cX1_drawMaps 106 = .ok (.aload_n 0, 1) := by decide +kernel
theorem d_X1_drawMaps_107 : decode cX1_drawMaps 107 = .ok (.iload_n 1, 1) := by decide +kernel
theorem d_X1_drawMaps_108 : decode cX1_drawMaps 108 = .ok (.iload_n 3, 1) := by decide +kernel
theorem d_X1_drawMaps_109 : decode cX1_drawMaps 109 = .ok (.bipush 8, 2) := by decide +kernel
theorem d_X1_drawMaps_111 : decode cX1_drawMaps 111 = .ok (.imul, 1) := by decide +kernel
theorem d_X1_drawMaps_112 : decode cX1_drawMaps 112 = .ok (.iload_n 2, 1) := by decide +kernel
theorem d_X1_drawMaps_113 : decode cX1_drawMaps 113 = .ok (.iadd, 1) := by decide +kernel
theorem d_X1_drawMaps_114 : decode cX1_drawMaps 114 = .ok (.invokevirtual 126, 3) := by decide +kernel
theorem d_X1_drawMaps_117 : decode cX1_drawMaps 117 = .ok (.iinc 1 (-1), 3) := by decide +kernel
theorem d_X1_drawMaps_120 : decode cX1_drawMaps 120 = .ok (.goto (-45), 3) := by decide +kernel
theorem d_X1_drawMaps_123 : decode cX1_drawMaps 123 = .ok (.aload_n 0, 1) := by decide +kernel
theorem d_X1_drawMaps_124 : decode cX1_drawMaps 124 = .ok (.getfield 21, 3) := by decide +kernel
theorem d_X1_drawMaps_127 : decode cX1_drawMaps 127 = .ok (.invokestatic 130, 3) := by decide +kernel
theorem d_X1_drawMaps_130 : decode cX1_drawMaps 130 = .ok (.aload_n 0, 1) := by decide +kernel
theorem d_X1_drawMaps_131 : decode cX1_drawMaps 131 = .ok (.getfield 24, 3) := by decide +kernel
theorem d_X1_drawMaps_134 : decode cX1_drawMaps 134 = .ok (.invokestatic 130, 3) := by decide +kernel
theorem d_X1_drawMaps_137 : decode cX1_drawMaps 137 = .ok (.return_, 1) := by decide +kernel
def f_X1_drawMaps (this : Nat) : sa_M Unit :=
sa_gd 1 this (
sa_bnd (sa_rdR 1 this 2) fun v1 =>
sa_bnd (f_J7_fill_53178 v1 (-1)) fun _ =>
sa_bnd (sa_rdR 1 this 3) fun v2 =>
sa_bnd (f_J7_fill_53178 v2 1000) fun _ =>
sa_bnd (sa_rdR 1 this 4) fun v3 =>
sa_bnd (f_J7_fill_53178 v3 1000) fun _ =>
sa_let (0 : Int32) fun x4 =>
sa_wh1 (fun j30 (x5 : Int32) =>
if 8 ≤ x5 then
sa_bnd (sa_rdR 1 this 0) fun v6 =>
sa_bnd (sa_ldI .int v6 1) fun v7 =>
sa_let ((v7 - 1) : Int32) fun x8 =>
sa_wh1 (fun j75 (x9 : Int32) =>
if x9 < 0 then
sa_bnd (sa_rdR 1 this 3) fun v10 =>
sa_bnd (f_X1_shorten v10) fun _ =>
sa_bnd (sa_rdR 1 this 4) fun v11 =>
sa_bnd (f_X1_shorten v11) fun _ =>
sa_ret ()
else
sa_bnd (f_X1_cell this 1 x9 0) fun v12 =>
sa_bnd (f_X1_cell this 1 x9 1) fun v13 =>
sa_bnd (f_X1_drawWay this x9 ((v12 * 8) + v13)) fun _ =>
sa_bnd (f_X1_drawWay this x9 ((v13 * 8) + v12)) fun _ =>
sa_let ((x9 + (-1)) : Int32) fun x14 =>
j75 x14) sa_F x8
else
sa_bnd (sa_rdR 1 this 3) fun v15 =>
sa_bnd (sa_stI v15 ((x5 * 8) + x5) 0) fun _ =>
sa_bnd (sa_rdR 1 this 4) fun v16 =>
sa_bnd (sa_stI v16 ((x5 * 8) + x5) 0) fun _ =>
sa_let ((x5 + 1) : Int32) fun x17 =>
j30 x17) sa_F x4)
set_option maxHeartbeats 1000000 in
set_option maxRecDepth 10000 in
theorem b_X1_drawMaps {p : Program} {l : Launch} {e : Env} {s : State} {m : MethodId} {args : Array Value} {below : List Frame} {meth : Method} {c : Code} {D : va_G} {ad : Nat → Nat} {cA : FieldType → ClassId} {A : Nat → Prop} (this : Nat) (C : sa_C p s m args meth c cX1_drawMaps RX1 "drawMaps" 4 none D ad cA A) : sa_Sg p l e s m args below meth c 4 3 D ad cA A sa_eV 0 [(0, .ref (ad this))] [] (f_X1_drawMaps this) := by
  unfold f_X1_drawMaps
  refine sa_gdI ?_
  refine sa_aload_n C d_X1_drawMaps_0 rfl 0 rfl ?_
  refine sa_getR C fd_X1_18 rfl d_X1_drawMaps_1 (fun v1 => ?_)
  refine sa_iconst (v := (-1)) C d_X1_drawMaps_4 (by decide) ?_
  refine sa_invS C (k_J7_fill_53178 v1 (-1)) q309 ds_J7_fill_53178 q124 q308 q489 rfl rfl rfl (Nat.le_of_ble_eq_true rfl) (by decide) (by decide) d_X1_drawMaps_5 (fun _ => ?_)
  refine sa_aload_n C d_X1_drawMaps_8 rfl 0 rfl ?_
  refine sa_getR C fd_X1_21 rfl d_X1_drawMaps_9 (fun v2 => ?_)
  refine sa_sipush (v := 1000) C d_X1_drawMaps_12 (by decide) ?_
  refine sa_invS C (k_J7_fill_53178 v2 1000) q309 ds_J7_fill_53178 q124 q308 q489 rfl rfl rfl (Nat.le_of_ble_eq_true rfl) (by decide) (by decide) d_X1_drawMaps_15 (fun _ => ?_)
  refine sa_aload_n C d_X1_drawMaps_18 rfl 0 rfl ?_
  refine sa_getR C fd_X1_24 rfl d_X1_drawMaps_19 (fun v3 => ?_)
  refine sa_sipush (v := 1000) C d_X1_drawMaps_22 (by decide) ?_
  refine sa_invS C (k_J7_fill_53178 v3 1000) q309 ds_J7_fill_53178 q124 q308 q489 rfl rfl rfl (Nat.le_of_ble_eq_true rfl) (by decide) (by decide) d_X1_drawMaps_25 (fun _ => ?_)
  refine sa_iconst (v := 0) C d_X1_drawMaps_28 (by decide) ?_
  refine sa_topi (fun x4 => ?_)
  refine sa_istore_n (lv' := [(1, .int x4), (0, .ref (ad this))]) C d_X1_drawMaps_29 rfl (by decide) rfl ?_
  refine sa_sub [1, 0] rfl (sa_loop1 (fun x5 => [(0, .ref (ad this)), (1, .int x5)]) (fun x5 => []) (fun j30 hj30 x5 => ?_) _ _)
  refine sa_iload_n C d_X1_drawMaps_30 rfl 1 rfl ?_
  refine sa_bipush (v := 8) C d_X1_drawMaps_31 (by decide) ?_
  refine sa_icmp_ge (tgt := 66) C d_X1_drawMaps_33 (by decide) ?_ ?_
  · refine sa_aload_n C d_X1_drawMaps_66 rfl 0 rfl ?_
    refine sa_getR C fd_X1_11 rfl d_X1_drawMaps_67 (fun v6 => ?_)
    refine sa_iconst (v := 1) C d_X1_drawMaps_70 (by decide) ?_
    refine sa_iald C d_X1_drawMaps_71 (fun v7 => ?_)
    refine sa_iconst (v := 1) C d_X1_drawMaps_72 (by decide) ?_
    refine sa_isub C d_X1_drawMaps_73 ?_
    refine sa_topi (fun x8 => ?_)
    refine sa_istore_n (lv' := [(1, .int x8), (0, .ref (ad this))]) C d_X1_drawMaps_74 rfl (by decide) rfl ?_
    refine sa_sub [1, 0] rfl (sa_loop1 (fun x9 => [(0, .ref (ad this)), (1, .int x9)]) (fun x9 => []) (fun j75 hj75 x9 => ?_) _ _)
    refine sa_iload_n C d_X1_drawMaps_75 rfl 1 rfl ?_
    refine sa_if_lt (tgt := 123) C d_X1_drawMaps_76 (by decide) ?_ ?_
    · refine sa_aload_n C d_X1_drawMaps_123 rfl 0 rfl ?_
      refine sa_getR C fd_X1_21 rfl d_X1_drawMaps_124 (fun v10 => ?_)
      refine sa_invS C (k_X1_shorten v10) q749 ds_X1_shorten q116 q748 q747 rfl rfl rfl (Nat.le_of_ble_eq_true rfl) (by decide) (by decide) d_X1_drawMaps_127 (fun _ => ?_)
      refine sa_aload_n C d_X1_drawMaps_130 rfl 0 rfl ?_
      refine sa_getR C fd_X1_24 rfl d_X1_drawMaps_131 (fun v11 => ?_)
      refine sa_invS C (k_X1_shorten v11) q749 ds_X1_shorten q116 q748 q747 rfl rfl rfl (Nat.le_of_ble_eq_true rfl) (by decide) (by decide) d_X1_drawMaps_134 (fun _ => ?_)
      exact sa_vret C d_X1_drawMaps_137
    refine sa_aload_n C d_X1_drawMaps_79 rfl 0 rfl ?_
    refine sa_iconst (v := 1) C d_X1_drawMaps_80 (by decide) ?_
    refine sa_iload_n C d_X1_drawMaps_81 rfl 1 rfl ?_
    refine sa_iconst (v := 0) C d_X1_drawMaps_82 (by decide) ?_
    refine sa_invV (ci := 1) C (k_X1_cell this 1 x9 0) q644 ds_X1_cell q116 rfl q642 q643 q641 (gd_X1_cell this 1 x9 0) rfl rfl rfl (Nat.le_of_ble_eq_true rfl) (by decide) (by decide) d_X1_drawMaps_83 (fun v12 => ?_)
    refine sa_istore_n (lv' := [(2, .int v12), (0, .ref (ad this)), (1, .int x9)]) C d_X1_drawMaps_86 rfl (by decide) rfl ?_
    refine sa_aload_n C d_X1_drawMaps_87 rfl 1 rfl ?_
    refine sa_iconst (v := 1) C d_X1_drawMaps_88 (by decide) ?_
    refine sa_iload_n C d_X1_drawMaps_89 rfl 2 rfl ?_
    refine sa_iconst (v := 1) C d_X1_drawMaps_90 (by decide) ?_
    refine sa_invV (ci := 1) C (k_X1_cell this 1 x9 1) q644 ds_X1_cell q116 rfl q642 q643 q641 (gd_X1_cell this 1 x9 1) rfl rfl rfl (Nat.le_of_ble_eq_true rfl) (by decide) (by decide) d_X1_drawMaps_91 (fun v13 => ?_)
    refine sa_istore_n (lv' := [(3, .int v13), (2, .int v12), (0, .ref (ad this)), (1, .int x9)]) C d_X1_drawMaps_94 rfl (by decide) rfl ?_
    refine sa_aload_n C d_X1_drawMaps_95 rfl 2 rfl ?_
    refine sa_iload_n C d_X1_drawMaps_96 rfl 3 rfl ?_
    refine sa_iload_n C d_X1_drawMaps_97 rfl 1 rfl ?_
    refine sa_bipush (v := 8) C d_X1_drawMaps_98 (by decide) ?_
    refine sa_imul C d_X1_drawMaps_100 ?_
    refine sa_iload_n C d_X1_drawMaps_101 rfl 0 rfl ?_
    refine sa_iadd C d_X1_drawMaps_102 ?_
    refine sa_invV (ci := 1) C (k_X1_drawWay this x9 ((v12 * 8) + v13)) q745 ds_X1_drawWay q116 rfl q744 q16 q742 (gd_X1_drawWay this x9 ((v12 * 8) + v13)) rfl rfl rfl (Nat.le_of_ble_eq_true rfl) (by decide) (by decide) d_X1_drawMaps_103 (fun _ => ?_)
    refine sa_aload_n C d_X1_drawMaps_106 rfl 2 rfl ?_
    refine sa_iload_n C d_X1_drawMaps_107 rfl 3 rfl ?_
    refine sa_iload_n C d_X1_drawMaps_108 rfl 0 rfl ?_
    refine sa_bipush (v := 8) C d_X1_drawMaps_109 (by decide) ?_
    refine sa_imul C d_X1_drawMaps_111 ?_
    refine sa_iload_n C d_X1_drawMaps_112 rfl 1 rfl ?_
    refine sa_iadd C d_X1_drawMaps_113 ?_
    refine sa_invV (ci := 1) C (k_X1_drawWay this x9 ((v13 * 8) + v12)) q745 ds_X1_drawWay q116 rfl q744 q16 q742 (gd_X1_drawWay this x9 ((v13 * 8) + v12)) rfl rfl rfl (Nat.le_of_ble_eq_true rfl) (by decide) (by decide) d_X1_drawMaps_114 (fun _ => ?_)
    refine sa_iinc C (fun zz => [(1, .int zz), (3, .int v13), (2, .int v12), (0, .ref (ad this))]) d_X1_drawMaps_117 3 rfl rfl (by decide) (fun _ => rfl) (fun x14 => ?_)
    refine sa_goto (tgt := 75) C d_X1_drawMaps_120 (by decide) ?_
    exact sa_sub [3, 0] rfl (hj75 _)
  refine sa_aload_n C d_X1_drawMaps_36 rfl 0 rfl ?_
  refine sa_getR C fd_X1_21 rfl d_X1_drawMaps_37 (fun v15 => ?_)
  refine sa_iload_n C d_X1_drawMaps_40 rfl 1 rfl ?_
  refine sa_bipush (v := 8) C d_X1_drawMaps_41 (by decide) ?_
  refine sa_imul C d_X1_drawMaps_43 ?_
  refine sa_iload_n C d_X1_drawMaps_44 rfl 1 rfl ?_
  refine sa_iadd C d_X1_drawMaps_45 ?_
  refine sa_iconst (v := 0) C d_X1_drawMaps_46 (by decide) ?_
  refine sa_iast C d_X1_drawMaps_47 ?_
  refine sa_aload_n C d_X1_drawMaps_48 rfl 0 rfl ?_
  refine sa_getR C fd_X1_24 rfl d_X1_drawMaps_49 (fun v16 => ?_)
  refine sa_iload_n C d_X1_drawMaps_52 rfl 1 rfl ?_
  refine sa_bipush (v := 8) C d_X1_drawMaps_53 (by decide) ?_
  refine sa_imul C d_X1_drawMaps_55 ?_
  refine sa_iload_n C d_X1_drawMaps_56 rfl 1 rfl ?_
  refine sa_iadd C d_X1_drawMaps_57 ?_
  refine sa_iconst (v := 0) C d_X1_drawMaps_58 (by decide) ?_
  refine sa_iast C d_X1_drawMaps_59 ?_
  refine sa_iinc C (fun zz => [(1, .int zz), (0, .ref (ad this))]) d_X1_drawMaps_60 1 rfl rfl (by decide) (fun _ => rfl) (fun x17 => ?_)
  refine sa_goto (tgt := 30) C d_X1_drawMaps_63 (by decide) ?_
  exact sa_sub [1, 0] rfl (hj30 _)
theorem k_X1_drawMaps (this : Nat) : sa_Met 3 yX1_drawMaps cX1_drawMaps 4 none (fun ad => [.ref (ad this)]) sa_eV (f_X1_drawMaps this) := sa_mk (by decide) (fun ad => Nat.le_of_ble_eq_true rfl) (fun p l e s m args below meth c D ad cA A C => b_X1_drawMaps this C)
theorem gd_X1_drawMaps (this : Nat) (σ : sa_St) (r : Unit) (τ : sa_St) (h : f_X1_drawMaps this σ = some (r, τ)) : sa_sh this = some (.inl 1) := sa_gd_ok h
