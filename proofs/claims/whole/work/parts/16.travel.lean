theorem d_X9_placesOf_0 : decode cX9_placesOf 0 = .ok (.aload_n 0, 1) := by decide +kernel
theorem d_X9_placesOf_1 : decode cX9_placesOf 1 = .ok (.getfield 15, 3) := by decide +kernel
theorem d_X9_placesOf_4 : decode cX9_placesOf 4 = .ok (.iload_n 1, 1) := by decide +kernel
theorem d_X9_placesOf_5 : decode cX9_placesOf 5 = .ok (.iaload, 1) := by decide +kernel
theorem d_X9_placesOf_6 : decode cX9_placesOf 6 = .ok (.ireturn, 1) := by decide +kernel
def f_X9_placesOf (this : Nat) (a1 : Int32) : sa_M Int32 :=
sa_gd 9 this (
sa_bnd (sa_rdR 9 this 11) fun v1 =>
sa_bnd (sa_ldI .int v1 a1) fun v2 =>
sa_ret (v2 : Int32))
set_option maxHeartbeats 1000000 in
set_option maxRecDepth 10000 in
theorem b_X9_placesOf {p : Program} {l : Launch} {e : Env} {s : State} {m : MethodId} {args : Array Value} {below : List Frame} {meth : Method} {c : Code} {D : va_G} {ad : Nat → Nat} {cA : FieldType → ClassId} {A : Nat → Prop} (this : Nat) (a1 : Int32) (C : sa_C p s m args meth c cX9_placesOf RX9 "placesOf" 2 (some .int) D ad cA A) : sa_Sg p l e s m args below meth c 2 1 D ad cA A sa_eI 0 [(0, .ref (ad this)), (1, .int a1)] [] (f_X9_placesOf this a1) := by
  unfold f_X9_placesOf
  refine sa_gdI ?_
  refine sa_aload_n C d_X9_placesOf_0 rfl 0 rfl ?_
  refine sa_getR C fd_X9_15 rfl d_X9_placesOf_1 (fun v1 => ?_)
  refine sa_iload_n C d_X9_placesOf_4 rfl 1 rfl ?_
  refine sa_iald C d_X9_placesOf_5 (fun v2 => ?_)
  exact sa_iret C d_X9_placesOf_6
theorem k_X9_placesOf (this : Nat) (a1 : Int32) : sa_Met 1 yX9_placesOf cX9_placesOf 2 (some .int) (fun ad => [.ref (ad this), .int a1]) sa_eI (f_X9_placesOf this a1) := sa_mk (by decide) (fun ad => Nat.le_of_ble_eq_true rfl) (fun p l e s m args below meth c D ad cA A C => b_X9_placesOf this a1 C)
theorem gd_X9_placesOf (this : Nat) (a1 : Int32) (σ : sa_St) (r : Int32) (τ : sa_St) (h : f_X9_placesOf this a1 σ = some (r, τ)) : sa_sh this = some (.inl 9) := sa_gd_ok h
theorem d_X9_placeOf_0 : decode cX9_placeOf 0 = .ok (.aload_n 0, 1) := by decide +kernel
theorem d_X9_placeOf_1 : decode cX9_placeOf 1 = .ok (.getfield 11, 3) := by decide +kernel
theorem d_X9_placeOf_4 : decode cX9_placeOf 4 = .ok (.iload_n 1, 1) := by decide +kernel
theorem d_X9_placeOf_5 : decode cX9_placeOf 5 = .ok (.bipush 8, 2) := by decide +kernel
theorem d_X9_placeOf_7 : decode cX9_placeOf 7 = .ok (.imul, 1) := by decide +kernel
theorem d_X9_placeOf_8 : decode cX9_placeOf 8 = .ok (.iload_n 2, 1) := by decide +kernel
theorem d_X9_placeOf_9 : decode cX9_placeOf 9 = .ok (.iadd, 1) := by decide +kernel
theorem d_X9_placeOf_10 : decode cX9_placeOf 10 = .ok (.iaload, 1) := by decide +kernel
theorem d_X9_placeOf_11 : decode cX9_placeOf 11 = .ok (.ireturn, 1) := by decide +kernel
def f_X9_placeOf (this : Nat) (a1 : Int32) (a2 : Int32) : sa_M Int32 :=
sa_gd 9 this (
sa_bnd (sa_rdR 9 this 10) fun v1 =>
sa_bnd (sa_ldI .int v1 ((a1 * 8) + a2)) fun v2 =>
sa_ret (v2 : Int32))
set_option maxHeartbeats 1000000 in
set_option maxRecDepth 10000 in
theorem b_X9_placeOf {p : Program} {l : Launch} {e : Env} {s : State} {m : MethodId} {args : Array Value} {below : List Frame} {meth : Method} {c : Code} {D : va_G} {ad : Nat → Nat} {cA : FieldType → ClassId} {A : Nat → Prop} (this : Nat) (a1 : Int32) (a2 : Int32) (C : sa_C p s m args meth c cX9_placeOf RX9 "placeOf" 3 (some .int) D ad cA A) : sa_Sg p l e s m args below meth c 3 1 D ad cA A sa_eI 0 [(0, .ref (ad this)), (1, .int a1), (2, .int a2)] [] (f_X9_placeOf this a1 a2) := by
  unfold f_X9_placeOf
  refine sa_gdI ?_
  refine sa_aload_n C d_X9_placeOf_0 rfl 0 rfl ?_
  refine sa_getR C fd_X9_11 rfl d_X9_placeOf_1 (fun v1 => ?_)
  refine sa_iload_n C d_X9_placeOf_4 rfl 1 rfl ?_
  refine sa_bipush (v := 8) C d_X9_placeOf_5 (by decide) ?_
  refine sa_imul C d_X9_placeOf_7 ?_
  refine sa_iload_n C d_X9_placeOf_8 rfl 2 rfl ?_
  refine sa_iadd C d_X9_placeOf_9 ?_
  refine sa_iald C d_X9_placeOf_10 (fun v2 => ?_)
  exact sa_iret C d_X9_placeOf_11
theorem k_X9_placeOf (this : Nat) (a1 : Int32) (a2 : Int32) : sa_Met 1 yX9_placeOf cX9_placeOf 3 (some .int) (fun ad => [.ref (ad this), .int a1, .int a2]) sa_eI (f_X9_placeOf this a1 a2) := sa_mk (by decide) (fun ad => Nat.le_of_ble_eq_true rfl) (fun p l e s m args below meth c D ad cA A C => b_X9_placeOf this a1 a2 C)
theorem gd_X9_placeOf (this : Nat) (a1 : Int32) (a2 : Int32) (σ : sa_St) (r : Int32) (τ : sa_St) (h : f_X9_placeOf this a1 a2 σ = some (r, τ)) : sa_sh this = some (.inl 9) := sa_gd_ok h
theorem d_X9_wayTo_0 : decode cX9_wayTo 0 = .ok (.aload_n 0, 1) := by decide +kernel
theorem d_X9_wayTo_1 : decode cX9_wayTo 1 = .ok (.getfield 60, 3) := by decide +kernel
theorem d_X9_wayTo_4 : decode cX9_wayTo 4 = .ok (.aload_n 0, 1) := by decide +kernel
theorem d_X9_wayTo_5 : decode cX9_wayTo 5 = .ok (.iload_n 1, 1) := by decide +kernel
theorem d_X9_wayTo_6 : decode cX9_wayTo 6 = .ok (.iload_n 2, 1) := by decide +kernel
theorem d_X9_wayTo_7 : decode cX9_wayTo 7 = .ok (.iconst 1, 1) := by decide +kernel
theorem d_X9_wayTo_8 : decode cX9_wayTo 8 = .ok (.isub, 1) := by decide +kernel
theorem d_X9_wayTo_9 : decode cX9_wayTo 9 = .ok (.invokevirtual 117, 3) := by decide +kernel
theorem d_X9_wayTo_12 : decode cX9_wayTo 12 = .ok (.aload_n 0, 1) := by decide +kernel
theorem d_X9_wayTo_13 : decode cX9_wayTo 13 = .ok (.iload_n 1, 1) := by decide +kernel
theorem d_X9_wayTo_14 : decode cX9_wayTo 14 = .ok (.iload_n 2, 1) := by decide +kernel
theorem d_X9_wayTo_15 : decode cX9_wayTo 15 = .ok (.invokevirtual 117, 3) := by decide +kernel
theorem d_X9_wayTo_18 : decode cX9_wayTo 18 = .ok (.invokevirtual 103, 3) := by decide +kernel
theorem d_X9_wayTo_21 : decode cX9_wayTo 21 = .ok (.ireturn, 1) := by decide +kernel
def f_X9_wayTo (this : Nat) (a1 : Int32) (a2 : Int32) : sa_M Int32 :=
sa_gd 9 this (
sa_bnd (sa_rdR 9 this 2) fun v1 =>
sa_bnd (f_X9_placeOf this a1 (a2 - 1)) fun v2 =>
sa_bnd (f_X9_placeOf this a1 a2) fun v3 =>
sa_bnd (f_X1_lowestWay v1 v2 v3) fun v4 =>
sa_ret (v4 : Int32))
set_option maxHeartbeats 1000000 in
set_option maxRecDepth 10000 in
theorem b_X9_wayTo {p : Program} {l : Launch} {e : Env} {s : State} {m : MethodId} {args : Array Value} {below : List Frame} {meth : Method} {c : Code} {D : va_G} {ad : Nat → Nat} {cA : FieldType → ClassId} {A : Nat → Prop} (this : Nat) (a1 : Int32) (a2 : Int32) (C : sa_C p s m args meth c cX9_wayTo RX9 "wayTo" 3 (some .int) D ad cA A) : sa_Sg p l e s m args below meth c 3 2 D ad cA A sa_eI 0 [(0, .ref (ad this)), (1, .int a1), (2, .int a2)] [] (f_X9_wayTo this a1 a2) := by
  unfold f_X9_wayTo
  refine sa_gdI ?_
  refine sa_aload_n C d_X9_wayTo_0 rfl 0 rfl ?_
  refine sa_getR C fd_X9_60 rfl d_X9_wayTo_1 (fun v1 => ?_)
  refine sa_aload_n C d_X9_wayTo_4 rfl 0 rfl ?_
  refine sa_iload_n C d_X9_wayTo_5 rfl 1 rfl ?_
  refine sa_iload_n C d_X9_wayTo_6 rfl 2 rfl ?_
  refine sa_iconst (v := 1) C d_X9_wayTo_7 (by decide) ?_
  refine sa_isub C d_X9_wayTo_8 ?_
  refine sa_invV (ci := 9) C (k_X9_placeOf this a1 (a2 - 1)) q1059 ds_X9_placeOf q125 rfl q1057 q1058 q1056 (gd_X9_placeOf this a1 (a2 - 1)) rfl rfl rfl (Nat.le_of_ble_eq_true rfl) (by decide) (by decide) d_X9_wayTo_9 (fun v2 => ?_)
  refine sa_aload_n C d_X9_wayTo_12 rfl 0 rfl ?_
  refine sa_iload_n C d_X9_wayTo_13 rfl 1 rfl ?_
  refine sa_iload_n C d_X9_wayTo_14 rfl 2 rfl ?_
  refine sa_invV (ci := 9) C (k_X9_placeOf this a1 a2) q1059 ds_X9_placeOf q125 rfl q1057 q1058 q1056 (gd_X9_placeOf this a1 a2) rfl rfl rfl (Nat.le_of_ble_eq_true rfl) (by decide) (by decide) d_X9_wayTo_15 (fun v3 => ?_)
  refine sa_invV (ci := 1) C (k_X1_lowestWay v1 v2 v3) q855 ds_X1_lowestWay q116 rfl q853 q854 q1031 (gd_X1_lowestWay v1 v2 v3) rfl rfl rfl (Nat.le_of_ble_eq_true rfl) (by decide) (by decide) d_X9_wayTo_18 (fun v4 => ?_)
  exact sa_iret C d_X9_wayTo_21
theorem k_X9_wayTo (this : Nat) (a1 : Int32) (a2 : Int32) : sa_Met 2 yX9_wayTo cX9_wayTo 3 (some .int) (fun ad => [.ref (ad this), .int a1, .int a2]) sa_eI (f_X9_wayTo this a1 a2) := sa_mk (by decide) (fun ad => Nat.le_of_ble_eq_true rfl) (fun p l e s m args below meth c D ad cA A C => b_X9_wayTo this a1 a2 C)
theorem gd_X9_wayTo (this : Nat) (a1 : Int32) (a2 : Int32) (σ : sa_St) (r : Int32) (τ : sa_St) (h : f_X9_wayTo this a1 a2 σ = some (r, τ)) : sa_sh this = some (.inl 9) := sa_gd_ok h
theorem d_X9_lossAt_0 : decode cX9_lossAt 0 = .ok (.aload_n 0, 1) := by decide +kernel
theorem d_X9_lossAt_1 : decode cX9_lossAt 1 = .ok (.getfield 33, 3) := by decide +kernel
theorem d_X9_lossAt_4 : decode cX9_lossAt 4 = .ok (.iload_n 1, 1) := by decide +kernel
theorem d_X9_lossAt_5 : decode cX9_lossAt 5 = .ok (.aload_n 0, 1) := by decide +kernel
theorem d_X9_lossAt_6 : decode cX9_lossAt 6 = .ok (.getfield 67, 3) := by decide +kernel
theorem d_X9_lossAt_9 : decode cX9_lossAt 9 = .ok (.aload_n 0, 1) := by decide +kernel
theorem d_X9_lossAt_10 : decode cX9_lossAt 10 = .ok (.getfield 60, 3) := by decide +kernel
theorem d_X9_lossAt_13 : decode cX9_lossAt 13 = .ok (.iconst 0, 1) := by decide +kernel
theorem d_X9_lossAt_14 : decode cX9_lossAt 14 = .ok (.iload_n 2, 1) := by decide +kernel
theorem d_X9_lossAt_15 : decode cX9_lossAt 15 = .ok (.iconst 0, 1) := by decide +kernel
theorem d_X9_lossAt_16 : decode cX9_lossAt 16 = .ok (.invokevirtual 124, 3) := by decide +kernel
theorem d_X9_lossAt_19 : decode cX9_lossAt 19 = .ok (.aload_n 0, 1) := by decide +kernel
theorem d_X9_lossAt_20 : decode cX9_lossAt 20 = .ok (.getfield 70, 3) := by decide +kernel
theorem d_X9_lossAt_23 : decode cX9_lossAt 23 = .ok (.aload_n 0, 1) := by decide +kernel
theorem d_X9_lossAt_24 : decode cX9_lossAt 24 = .ok (.getfield 76, 3) := by decide +kernel
theorem d_X9_lossAt_27 : decode cX9_lossAt 27 = .ok (.iload_n 3, 1) := by decide +kernel
theorem d_X9_lossAt_28 : decode cX9_lossAt 28 = .ok (.iadd, 1) := by decide +kernel
theorem d_X9_lossAt_29 : decode cX9_lossAt 29 = .ok (.invokevirtual 178, 3) := by decide +kernel
theorem d_X9_lossAt_32 : decode cX9_lossAt 32 = .ok (.ireturn, 1) := by decide +kernel
def f_X9_lossAt (this : Nat) (a1 : Int32) (a2 : Int32) (a3 : Int32) : sa_M Int32 :=
sa_gd 9 this (
sa_bnd (sa_rdR 9 this 0) fun v1 =>
sa_bnd (sa_rdI 9 this 6) fun v2 =>
sa_bnd (sa_rdR 9 this 2) fun v3 =>
sa_bnd (f_X1_cell v3 0 a2 0) fun v4 =>
sa_bnd (sa_rdI 9 this 7) fun v5 =>
sa_bnd (sa_rdI 9 this 8) fun v6 =>
sa_bnd (f_X3_loss v1 a1 v2 v4 v5 (v6 + a3)) fun v7 =>
sa_ret (v7 : Int32))
set_option maxHeartbeats 1000000 in
set_option maxRecDepth 10000 in
theorem b_X9_lossAt {p : Program} {l : Launch} {e : Env} {s : State} {m : MethodId} {args : Array Value} {below : List Frame} {meth : Method} {c : Code} {D : va_G} {ad : Nat → Nat} {cA : FieldType → ClassId} {A : Nat → Prop} (this : Nat) (a1 : Int32) (a2 : Int32) (a3 : Int32) (C : sa_C p s m args meth c cX9_lossAt RX9 "lossAt" 4 (some .int) D ad cA A) : sa_Sg p l e s m args below meth c 4 3 D ad cA A sa_eI 0 [(0, .ref (ad this)), (1, .int a1), (2, .int a2), (3, .int a3)] [] (f_X9_lossAt this a1 a2 a3) := by
  unfold f_X9_lossAt
  refine sa_gdI ?_
  refine sa_aload_n C d_X9_lossAt_0 rfl 0 rfl ?_
  refine sa_getR C fd_X9_33 rfl d_X9_lossAt_1 (fun v1 => ?_)
  refine sa_iload_n C d_X9_lossAt_4 rfl 1 rfl ?_
  refine sa_aload_n C d_X9_lossAt_5 rfl 0 rfl ?_
  refine sa_getI C fd_X9_67 d_X9_lossAt_6 (fun v2 => ?_)
  refine sa_aload_n C d_X9_lossAt_9 rfl 0 rfl ?_
  refine sa_getR C fd_X9_60 rfl d_X9_lossAt_10 (fun v3 => ?_)
  refine sa_iconst (v := 0) C d_X9_lossAt_13 (by decide) ?_
  refine sa_iload_n C d_X9_lossAt_14 rfl 2 rfl ?_
  refine sa_iconst (v := 0) C d_X9_lossAt_15 (by decide) ?_
  refine sa_invV (ci := 1) C (k_X1_cell v3 0 a2 0) q644 ds_X1_cell q116 rfl q642 q643 q1060 (gd_X1_cell v3 0 a2 0) rfl rfl rfl (Nat.le_of_ble_eq_true rfl) (by decide) (by decide) d_X9_lossAt_16 (fun v4 => ?_)
  refine sa_aload_n C d_X9_lossAt_19 rfl 0 rfl ?_
  refine sa_getI C fd_X9_70 d_X9_lossAt_20 (fun v5 => ?_)
  refine sa_aload_n C d_X9_lossAt_23 rfl 0 rfl ?_
  refine sa_getI C fd_X9_76 d_X9_lossAt_24 (fun v6 => ?_)
  refine sa_iload_n C d_X9_lossAt_27 rfl 3 rfl ?_
  refine sa_iadd C d_X9_lossAt_28 ?_
  refine sa_invV (ci := 3) C (k_X3_loss v1 a1 v2 v4 v5 (v6 + a3)) q809 ds_X3_loss q117 rfl q807 q808 q1088 (gd_X3_loss v1 a1 v2 v4 v5 (v6 + a3)) rfl rfl rfl (Nat.le_of_ble_eq_true rfl) (by decide) (by decide) d_X9_lossAt_29 (fun v7 => ?_)
  exact sa_iret C d_X9_lossAt_32
theorem k_X9_lossAt (this : Nat) (a1 : Int32) (a2 : Int32) (a3 : Int32) : sa_Met 3 yX9_lossAt cX9_lossAt 4 (some .int) (fun ad => [.ref (ad this), .int a1, .int a2, .int a3]) sa_eI (f_X9_lossAt this a1 a2 a3) := sa_mk (by decide) (fun ad => Nat.le_of_ble_eq_true rfl) (fun p l e s m args below meth c D ad cA A C => b_X9_lossAt this a1 a2 a3 C)
theorem gd_X9_lossAt (this : Nat) (a1 : Int32) (a2 : Int32) (a3 : Int32) (σ : sa_St) (r : Int32) (τ : sa_St) (h : f_X9_lossAt this a1 a2 a3 σ = some (r, τ)) : sa_sh this = some (.inl 9) := sa_gd_ok h
theorem d_X9_findFrom_0 : decode cX9_findFrom 0 = .ok (.aload_n 0, 1) := by decide +kernel
theorem d_X9_findFrom_1 : decode cX9_findFrom 1 = .ok (.getfield 18, 3) := by decide +kernel
theorem d_X9_findFrom_4 : decode cX9_findFrom 4 = .ok (.iload_n 1, 1) := by decide +kernel
theorem d_X9_findFrom_5 : decode cX9_findFrom 5 = .ok (.iconst 1, 1) := by decide +kernel
theorem d_X9_findFrom_6 : decode cX9_findFrom 6 = .ok (.isub, 1) := by decide +kernel
theorem d_X9_findFrom_7 : decode cX9_findFrom 7 = .ok (.iaload, 1) := by decide +kernel
theorem d_X9_findFrom_8 : decode cX9_findFrom 8 = .ok (.istore_n 3, 1) := by decide +kernel
theorem d_X9_findFrom_9 : decode cX9_findFrom 9 = .ok (.iload_n 3, 1) := by decide +kernel
theorem d_X9_findFrom_10 : decode cX9_findFrom 10 = .ok (.aload_n 0, 1) := by decide +kernel
theorem d_X9_findFrom_11 : decode cX9_findFrom 11 = .ok (.getfield 79, 3) := by decide +kernel
theorem d_X9_findFrom_14 : decode cX9_findFrom 14 = .ok (.if_icmp .ne 44, 3) := by decide +kernel
theorem d_X9_findFrom_17 : decode cX9_findFrom 17 = .ok (.aload_n 0, 1) := by decide +kernel
theorem d_X9_findFrom_18 : decode cX9_findFrom 18 = .ok (.getfield 18, 3) := by decide +kernel
theorem d_X9_findFrom_21 : decode cX9_findFrom 21 = .ok (.iconst 0, 1) := by decide +kernel
theorem d_X9_findFrom_22 : decode cX9_findFrom 22 = .ok (.aload_n 0, 1) := by decide +kernel
theorem d_X9_findFrom_23 : decode cX9_findFrom 23 = .ok (.getfield 11, 3) := by decide +kernel
theorem d_X9_findFrom_26 : decode cX9_findFrom 26 = .ok (.aload_n 0, 1) := by decide +kernel
theorem d_X9_findFrom_27 : decode cX9_findFrom 27 = .ok (.getfield 41, 3) := by decide +kernel
theorem d_X9_findFrom_30 : decode cX9_findFrom 30 = .ok (.bipush 8, 2) := by decide +kernel
theorem d_X9_findFrom_32 : decode cX9_findFrom 32 = .ok (.imul, 1) := by decide +kernel
theorem d_X9_findFrom_33 : decode cX9_findFrom 33 = .ok (.iload_n 1, 1) := by decide +kernel
theorem d_X9_findFrom_34 : decode cX9_findFrom 34 = .ok (.invokestatic 94, 3) := by decide +kernel
theorem d_X9_findFrom_37 : decode cX9_findFrom 37 = .ok (.aload_n 0, 1) := by decide +kernel
theorem d_X9_findFrom_38 : decode cX9_findFrom 38 = .ok (.getfield 15, 3) := by decide +kernel
theorem d_X9_findFrom_41 : decode cX9_findFrom 41 = .ok (.aload_n 0, 1) := by decide +kernel
theorem d_X9_findFrom_42 : decode cX9_findFrom 42 = .ok (.getfield 41, 3) := by decide +kernel
theorem d_X9_findFrom_45 : decode cX9_findFrom 45 = .ok (.iload_n 1, 1) := by decide +kernel
theorem d_X9_findFrom_46 : decode cX9_findFrom 46 = .ok (.iastore, 1) := by decide +kernel
theorem d_X9_findFrom_47 : decode cX9_findFrom 47 = .ok (.aload_n 0, 1) := by decide +kernel
theorem d_X9_findFrom_48 : decode cX9_findFrom 48 = .ok (.dup, 1) := by decide +kernel
theorem d_X9_findFrom_49 : decode cX9_findFrom 49 = .ok (.getfield 41, 3) := by decide +kernel
theorem d_X9_findFrom_52 : decode cX9_findFrom 52 = .ok (.iconst 1, 1) := by decide +kernel
theorem d_X9_findFrom_53 : decode cX9_findFrom 53 = .ok (.iadd, 1) := by decide +kernel
theorem d_X9_findFrom_54 : decode cX9_findFrom 54 = .ok (.putfield 41, 3) := by decide +kernel
theorem d_X9_findFrom_57 : decode cX9_findFrom 57 = .ok (.return_, 1) := by decide +kernel
theorem d_X9_findFrom_58 : decode cX9_findFrom 58 = .ok (.iconst 0, 1) := by decide +kernel
theorem d_X9_findFrom_59 : decode cX9_findFrom 59 = .ok (.istore 4, 2) := by decide +kernel
theorem d_X9_findFrom_61 : decode cX9_findFrom 61 = .ok (.iload 4, 2) := by decide +kernel
theorem d_X9_findFrom_63 : decode cX9_findFrom 63 = .ok (.aload_n 0, 1) := by decide +kernel
theorem d_X9_findFrom_64 : decode cX9_findFrom 64 = .ok (.getfield 60, 3) := by decide +kernel
theorem d_X9_findFrom_67 : decode cX9_findFrom 67 = .ok (.getfield 100, 3) := by decide +kernel
theorem d_X9_findFrom_70 : decode cX9_findFrom 70 = .ok (.iconst 0, 1) := by decide +kernel
theorem d_X9_findFrom_71 : decode cX9_findFrom 71 = .ok (.iaload, 1) := by decide +kernel
theorem d_X9_findFrom_72 : decode cX9_findFrom 72 = .ok (.if_icmp .ge 68, 3) := by decide +kernel
theorem d_X9_findFrom_75 : decode cX9_findFrom 75 = .ok (.iload_n 1, 1) := by decide +kernel
theorem d_X9_findFrom_76 : decode cX9_findFrom 76 = .ok (.bipush 8, 2) := by decide +kernel
theorem d_X9_findFrom_78 : decode cX9_findFrom 78 = .ok (.if_icmp .ge 62, 3) := by decide +kernel
theorem d_X9_findFrom_81 : decode cX9_findFrom 81 = .ok (.aload_n 0, 1) := by decide +kernel
theorem d_X9_findFrom_82 : decode cX9_findFrom 82 = .ok (.getfield 41, 3) := by decide +kernel
theorem d_X9_findFrom_85 : decode cX9_findFrom 85 = .ok (.sipush 200, 3) := by decide +kernel
theorem d_X9_findFrom_88 : decode cX9_findFrom 88 = .ok (.if_icmp .ge 52, 3) := by decide +kernel
theorem d_X9_findFrom_91 : decode cX9_findFrom 91 = .ok (.iload_n 2, 1) := by decide +kernel
theorem d_X9_findFrom_92 : decode cX9_findFrom 92 = .ok (.iload 4, 2) := by decide +kernel
theorem d_X9_findFrom_94 : decode cX9_findFrom 94 = .ok (.ishr, 1) := by decide +kernel
theorem d_X9_findFrom_95 : decode cX9_findFrom 95 = .ok (.iconst 1, 1) := by decide +kernel
theorem d_X9_findFrom_96 : decode cX9_findFrom 96 = .ok (.iand, 1) := by decide +kernel
theorem d_X9_findFrom_97 : decode cX9_findFrom 97 = .ok (.ifCond .ne 37, 3) := by decide +kernel
theorem d_X9_findFrom_100 : decode cX9_findFrom 100 = .ok (.aload_n 0, 1) := by decide +kernel
theorem d_X9_findFrom_101 : decode cX9_findFrom 101 = .ok (.getfield 60, 3) := by decide +kernel
theorem d_X9_findFrom_104 : decode cX9_findFrom 104 = .ok (.iload_n 3, 1) := by decide +kernel
theorem d_X9_findFrom_105 : decode cX9_findFrom 105 = .ok (.iload 4, 2) := by decide +kernel
theorem d_X9_findFrom_107 : decode cX9_findFrom 107 = .ok (.invokevirtual 103, 3) := by decide +kernel
theorem d_X9_findFrom_110 : decode cX9_findFrom 110 = .ok (.ifCond .lt 24, 3) := by decide +kernel
theorem d_X9_findFrom_113 : decode cX9_findFrom 113 = .ok (.aload_n 0, 1) := by decide +kernel
theorem d_X9_findFrom_114 : decode cX9_findFrom 114 = .ok (.getfield 18, 3) := by decide +kernel
theorem d_X9_findFrom_117 : decode cX9_findFrom 117 = .ok (.iload_n 1, 1) := by decide +kernel
theorem d_X9_findFrom_118 : decode cX9_findFrom 118 = .ok (.iload 4, 2) := by decide +kernel
theorem d_X9_findFrom_120 : decode cX9_findFrom 120 = .ok (.iastore, 1) := by decide +kernel
theorem d_X9_findFrom_121 : decode cX9_findFrom 121 = .ok (.aload_n 0, 1) := by decide +kernel
theorem d_X9_findFrom_122 : decode cX9_findFrom 122 = .ok (.iload_n 1, 1) := by decide +kernel
theorem d_X9_findFrom_123 : decode cX9_findFrom 123 = .ok (.iconst 1, 1) := by decide +kernel
theorem d_X9_findFrom_124 : decode cX9_findFrom 124 = .ok (.iadd, 1) := by decide +kernel
theorem d_X9_findFrom_125 : decode cX9_findFrom 125 = .ok (.iload_n 2, 1) := by decide +kernel
theorem d_X9_findFrom_126 : decode cX9_findFrom 126 = .ok (.iconst 1, 1) := by decide +kernel
theorem d_X9_findFrom_127 : decode cX9_findFrom 127 = .ok (.iload 4, 2) := by decide +kernel
theorem d_X9_findFrom_129 : decode cX9_findFrom 129 = .ok (.ishl, 1) := by decide +kernel
theorem d_X9_findFrom_130 : decode cX9_findFrom 130 = .ok (.ior, 1) := by decide +kernel
theorem d_X9_findFrom_131 : decode cX9_findFrom 131 = .ok (.invokevirtual 82, 3) := by decide +kernel
theorem d_X9_findFrom_134 : decode cX9_findFrom 134 = .ok (.iinc 4 1, 3) := by decide +kernel
theorem d_X9_findFrom_137 : decode cX9_findFrom 137 = .ok (.goto (-76), 3) := by decide +kernel
theorem d_X9_findFrom_140 : decode cX9_findFrom 140 = .ok (.return_, 1) := by decide +kernel
def fb_X9_findFrom (g_X9_findFrom : Nat → Int32 → Int32 → sa_M Unit) (this : Nat) (a1 : Int32) (a2 : Int32) : sa_M Unit :=
sa_gd 9 this (
sa_bnd (sa_rdR 9 this 12) fun v1 =>
sa_bnd (sa_ldI .int v1 (a1 - 1)) fun v2 =>
sa_bnd (sa_rdI 9 this 9) fun v3 =>
if ¬ v2 = v3 then
sa_let (0 : Int32) fun x4 =>
sa_wh1 (fun j61 (x5 : Int32) =>
sa_bnd (sa_rdR 9 this 2) fun v6 =>
sa_bnd (sa_rdR 1 v6 0) fun v7 =>
sa_bnd (sa_ldI .int v7 0) fun v8 =>
sa_jn0 (sa_ret ()) fun j140 =>
if v8 ≤ x5 then
j140
else
if 8 ≤ a1 then
j140
else
sa_bnd (sa_rdI 9 this 3) fun v9 =>
if 200 ≤ v9 then
j140
else
sa_jn0 (sa_let ((x5 + 1) : Int32) fun x10 =>
j61 x10) fun j134 =>
if ¬ ((a2 >>> (x5 &&& 31)) &&& 1) = 0 then
j134
else
sa_bnd (sa_rdR 9 this 2) fun v11 =>
sa_bnd (f_X1_lowestWay v11 v2 x5) fun v12 =>
if v12 < 0 then
j134
else
sa_bnd (sa_rdR 9 this 12) fun v13 =>
sa_bnd (sa_stI v13 a1 x5) fun _ =>
sa_bnd (g_X9_findFrom this (a1 + 1) (a2 ||| (1 <<< (x5 &&& 31)))) fun _ =>
j134) sa_F x4
else
sa_bnd (sa_rdR 9 this 12) fun v14 =>
sa_bnd (sa_rdR 9 this 10) fun v15 =>
sa_bnd (sa_rdI 9 this 3) fun v16 =>
sa_bnd (sa_cpI v14 0 v15 (v16 * 8) a1) fun _ =>
sa_bnd (sa_rdR 9 this 11) fun v17 =>
sa_bnd (sa_rdI 9 this 3) fun v18 =>
sa_bnd (sa_stI v17 v18 a1) fun _ =>
sa_bnd (sa_rdI 9 this 3) fun v19 =>
sa_bnd (sa_wrI 9 this 3 (v19 + 1)) fun _ =>
sa_ret ())
set_option maxHeartbeats 1000000 in
set_option maxRecDepth 10000 in
theorem b_X9_findFrom {d : Nat} (hd0 : 1 ≤ d) (g_X9_findFrom : Nat → Int32 → Int32 → sa_M Unit) (h_X9_findFrom : ∀ (this : Nat) (a1 : Int32) (a2 : Int32), sa_Met d yX9_findFrom cX9_findFrom 5 none (fun ad => [.ref (ad this), .int a1, .int a2]) sa_eV (g_X9_findFrom this a1 a2)) (e_X9_findFrom : ∀ (this : Nat) (a1 : Int32) (a2 : Int32) σ r τ, g_X9_findFrom this a1 a2 σ = some (r, τ) → sa_sh this = some (.inl 9)) {p : Program} {l : Launch} {e : Env} {s : State} {m : MethodId} {args : Array Value} {below : List Frame} {meth : Method} {c : Code} {D : va_G} {ad : Nat → Nat} {cA : FieldType → ClassId} {A : Nat → Prop} (this : Nat) (a1 : Int32) (a2 : Int32) (C : sa_C p s m args meth c cX9_findFrom RX9 "findFrom" 5 none D ad cA A) : sa_Sg p l e s m args below meth c 5 (d + 1) D ad cA A sa_eV 0 [(0, .ref (ad this)), (1, .int a1), (2, .int a2)] [] (fb_X9_findFrom g_X9_findFrom this a1 a2) := by
  unfold fb_X9_findFrom
  refine sa_gdI ?_
  refine sa_aload_n C d_X9_findFrom_0 rfl 0 rfl ?_
  refine sa_getR C fd_X9_18 rfl d_X9_findFrom_1 (fun v1 => ?_)
  refine sa_iload_n C d_X9_findFrom_4 rfl 1 rfl ?_
  refine sa_iconst (v := 1) C d_X9_findFrom_5 (by decide) ?_
  refine sa_isub C d_X9_findFrom_6 ?_
  refine sa_iald C d_X9_findFrom_7 (fun v2 => ?_)
  refine sa_istore_n (lv' := [(3, .int v2), (0, .ref (ad this)), (1, .int a1), (2, .int a2)]) C d_X9_findFrom_8 rfl (by decide) rfl ?_
  refine sa_iload_n C d_X9_findFrom_9 rfl 0 rfl ?_
  refine sa_aload_n C d_X9_findFrom_10 rfl 1 rfl ?_
  refine sa_getI C fd_X9_79 d_X9_findFrom_11 (fun v3 => ?_)
  refine sa_icmp_ne (tgt := 58) C d_X9_findFrom_14 (by decide) ?_ ?_
  · refine sa_iconst (v := 0) C d_X9_findFrom_58 (by decide) ?_
    refine sa_topi (fun x4 => ?_)
    refine sa_istore (lv' := [(4, .int x4), (3, .int v2), (0, .ref (ad this)), (1, .int a1), (2, .int a2)]) C d_X9_findFrom_59 (by decide) rfl ?_
    refine sa_sub [2, 3, 4, 1, 0] rfl (sa_loop1 (fun x5 => [(0, .ref (ad this)), (1, .int a1), (2, .int a2), (3, .int v2), (4, .int x5)]) (fun x5 => []) (fun j61 hj61 x5 => ?_) _ _)
    refine sa_iload C d_X9_findFrom_61 4 rfl ?_
    refine sa_aload_n C d_X9_findFrom_63 rfl 0 rfl ?_
    refine sa_getR C fd_X9_60 rfl d_X9_findFrom_64 (fun v6 => ?_)
    refine sa_getR C fd_X9_100 rfl d_X9_findFrom_67 (fun v7 => ?_)
    refine sa_iconst (v := 0) C d_X9_findFrom_70 (by decide) ?_
    refine sa_iald C d_X9_findFrom_71 (fun v8 => ?_)
    refine sa_join0 140 ([]) ([]) (?_) (fun j140 hj140 => ?_)
    · exact sa_vret C d_X9_findFrom_140
    refine sa_icmp_ge (tgt := 140) C d_X9_findFrom_72 (by decide) ?_ ?_
    · exact sa_sub [] rfl (hj140)
    refine sa_iload_n C d_X9_findFrom_75 rfl 1 rfl ?_
    refine sa_bipush (v := 8) C d_X9_findFrom_76 (by decide) ?_
    refine sa_icmp_ge (tgt := 140) C d_X9_findFrom_78 (by decide) ?_ ?_
    · exact sa_sub [] rfl (hj140)
    refine sa_aload_n C d_X9_findFrom_81 rfl 0 rfl ?_
    refine sa_getI C fd_X9_41 d_X9_findFrom_82 (fun v9 => ?_)
    refine sa_sipush (v := 200) C d_X9_findFrom_85 (by decide) ?_
    refine sa_icmp_ge (tgt := 140) C d_X9_findFrom_88 (by decide) ?_ ?_
    · exact sa_sub [] rfl (hj140)
    refine sa_iload_n C d_X9_findFrom_91 rfl 2 rfl ?_
    refine sa_iload C d_X9_findFrom_92 4 rfl ?_
    refine sa_ishr C d_X9_findFrom_94 ?_
    refine sa_iconst (v := 1) C d_X9_findFrom_95 (by decide) ?_
    refine sa_iand C d_X9_findFrom_96 ?_
    refine sa_join0 134 ([(0, .ref (ad this)), (1, .int a1), (2, .int a2), (3, .int v2), (4, .int x5)]) ([]) (?_) (fun j134 hj134 => ?_)
    · refine sa_iinc C (fun zz => [(4, .int zz), (0, .ref (ad this)), (1, .int a1), (2, .int a2), (3, .int v2)]) d_X9_findFrom_134 4 rfl rfl (by decide) (fun _ => rfl) (fun x10 => ?_)
      refine sa_goto (tgt := 61) C d_X9_findFrom_137 (by decide) ?_
      exact sa_sub [1, 2, 3, 4, 0] rfl (hj61 _)
    refine sa_if_ne (tgt := 134) C d_X9_findFrom_97 (by decide) ?_ ?_
    · exact sa_sub [0, 1, 2, 3, 4] rfl (hj134)
    refine sa_aload_n C d_X9_findFrom_100 rfl 0 rfl ?_
    refine sa_getR C fd_X9_60 rfl d_X9_findFrom_101 (fun v11 => ?_)
    refine sa_iload_n C d_X9_findFrom_104 rfl 3 rfl ?_
    refine sa_iload C d_X9_findFrom_105 4 rfl ?_
    refine sa_invV (ci := 1) C (k_X1_lowestWay v11 v2 x5) q855 ds_X1_lowestWay q116 rfl q853 q854 q1031 (gd_X1_lowestWay v11 v2 x5) rfl rfl rfl (Nat.le_of_ble_eq_true rfl) (by omega) (by decide) d_X9_findFrom_107 (fun v12 => ?_)
    refine sa_if_lt (tgt := 134) C d_X9_findFrom_110 (by decide) ?_ ?_
    · exact sa_sub [0, 1, 2, 3, 4] rfl (hj134)
    refine sa_aload_n C d_X9_findFrom_113 rfl 0 rfl ?_
    refine sa_getR C fd_X9_18 rfl d_X9_findFrom_114 (fun v13 => ?_)
    refine sa_iload_n C d_X9_findFrom_117 rfl 1 rfl ?_
    refine sa_iload C d_X9_findFrom_118 4 rfl ?_
    refine sa_iast C d_X9_findFrom_120 ?_
    refine sa_aload_n C d_X9_findFrom_121 rfl 0 rfl ?_
    refine sa_iload_n C d_X9_findFrom_122 rfl 1 rfl ?_
    refine sa_iconst (v := 1) C d_X9_findFrom_123 (by decide) ?_
    refine sa_iadd C d_X9_findFrom_124 ?_
    refine sa_iload_n C d_X9_findFrom_125 rfl 2 rfl ?_
    refine sa_iconst (v := 1) C d_X9_findFrom_126 (by decide) ?_
    refine sa_iload C d_X9_findFrom_127 4 rfl ?_
    refine sa_ishl C d_X9_findFrom_129 ?_
    refine sa_ior C d_X9_findFrom_130 ?_
    refine sa_invV (ci := 9) C (h_X9_findFrom this (a1 + 1) (a2 ||| (1 <<< (x5 &&& 31)))) q1029 ds_X9_findFrom q125 rfl q1028 q29 q1026 (e_X9_findFrom this (a1 + 1) (a2 ||| (1 <<< (x5 &&& 31)))) rfl rfl rfl (Nat.le_of_ble_eq_true rfl) (by omega) (by decide) d_X9_findFrom_131 (fun _ => ?_)
    exact sa_sub [0, 1, 2, 3, 4] rfl (hj134)
  refine sa_aload_n C d_X9_findFrom_17 rfl 1 rfl ?_
  refine sa_getR C fd_X9_18 rfl d_X9_findFrom_18 (fun v14 => ?_)
  refine sa_iconst (v := 0) C d_X9_findFrom_21 (by decide) ?_
  refine sa_aload_n C d_X9_findFrom_22 rfl 1 rfl ?_
  refine sa_getR C fd_X9_11 rfl d_X9_findFrom_23 (fun v15 => ?_)
  refine sa_aload_n C d_X9_findFrom_26 rfl 1 rfl ?_
  refine sa_getI C fd_X9_41 d_X9_findFrom_27 (fun v16 => ?_)
  refine sa_bipush (v := 8) C d_X9_findFrom_30 (by decide) ?_
  refine sa_imul C d_X9_findFrom_32 ?_
  refine sa_iload_n C d_X9_findFrom_33 rfl 2 rfl ?_
  refine sa_cpyI C q1030 q594 q593 q134 (Nat.le_of_ble_eq_true rfl) (by omega) d_X9_findFrom_34 ?_
  refine sa_aload_n C d_X9_findFrom_37 rfl 1 rfl ?_
  refine sa_getR C fd_X9_15 rfl d_X9_findFrom_38 (fun v17 => ?_)
  refine sa_aload_n C d_X9_findFrom_41 rfl 1 rfl ?_
  refine sa_getI C fd_X9_41 d_X9_findFrom_42 (fun v18 => ?_)
  refine sa_iload_n C d_X9_findFrom_45 rfl 2 rfl ?_
  refine sa_iast C d_X9_findFrom_46 ?_
  refine sa_aload_n C d_X9_findFrom_47 rfl 1 rfl ?_
  refine sa_dup C d_X9_findFrom_48 rfl ?_
  refine sa_getI C fd_X9_41 d_X9_findFrom_49 (fun v19 => ?_)
  refine sa_iconst (v := 1) C d_X9_findFrom_52 (by decide) ?_
  refine sa_iadd C d_X9_findFrom_53 ?_
  refine sa_putI C fd_X9_41 d_X9_findFrom_54 ?_
  exact sa_vret C d_X9_findFrom_57
def gr_X9_findFrom : Nat → (Nat → Int32 → Int32 → sa_M Unit)
  | 0 => ((fun _ _ _ => sa_fail))
  | n + 1 => (fb_X9_findFrom (gr_X9_findFrom n))
def f_X9_findFrom (n : Nat) (this : Nat) (a1 : Int32) (a2 : Int32) : sa_M Unit := (gr_X9_findFrom n) this a1 a2
theorem kg_X9_findFrom : ∀ n : Nat, (∀ (this : Nat) (a1 : Int32) (a2 : Int32), sa_Met (1 + n) yX9_findFrom cX9_findFrom 5 none (fun ad => [.ref (ad this), .int a1, .int a2]) sa_eV (f_X9_findFrom n this a1 a2)) ∧ (∀ (this : Nat) (a1 : Int32) (a2 : Int32) σ r τ, f_X9_findFrom n this a1 a2 σ = some (r, τ) → sa_sh this = some (.inl 9)) := by
  intro n
  induction n with
  | zero => exact ⟨(fun _ _ _ => fun _ _ _ _ _ _ _ _ h => by cases h), (fun _ _ _ => fun _ _ _ h => by cases h)⟩
  | succ n ih =>
    obtain ⟨h_X9_findFrom, e_X9_findFrom⟩ := ih
    exact ⟨(fun this a1 a2 => sa_mk (by decide) (fun ad => Nat.le_of_ble_eq_true rfl) (fun p l e s m args below meth c D ad cA A C => b_X9_findFrom (d := 1 + n) (by omega) _ h_X9_findFrom e_X9_findFrom this a1 a2 C)), (fun this a1 a2 => fun σ r τ h => sa_gd_ok h)⟩
theorem k_X9_findFrom (n : Nat) (this : Nat) (a1 : Int32) (a2 : Int32) : sa_Met (1 + n) yX9_findFrom cX9_findFrom 5 none (fun ad => [.ref (ad this), .int a1, .int a2]) sa_eV (f_X9_findFrom n this a1 a2) := (kg_X9_findFrom n).1 this a1 a2
theorem gd_X9_findFrom (n : Nat) (this : Nat) (a1 : Int32) (a2 : Int32) (σ : sa_St) (r : Unit) (τ : sa_St) (h : f_X9_findFrom n this a1 a2 σ = some (r, τ)) : sa_sh this = some (.inl 9) := (kg_X9_findFrom n).2 this a1 a2 σ r τ h
theorem d_X9_setOutWith_0 : decode cX9_setOutWith 0 = .ok (.aload_n 0, 1) := by decide +kernel
theorem d_X9_setOutWith_1 : decode cX9_setOutWith 1 = .ok (.getfield 26, 3) := by decide +kernel
theorem d_X9_setOutWith_4 : decode cX9_setOutWith 4 = .ok (.iconst 0, 1) := by decide +kernel
theorem d_X9_setOutWith_5 : decode cX9_setOutWith 5 = .ok (.iload_n 1, 1) := by decide +kernel
theorem d_X9_setOutWith_6 : decode cX9_setOutWith 6 = .ok (.iastore, 1) := by decide +kernel
theorem d_X9_setOutWith_7 : decode cX9_setOutWith 7 = .ok (.aload_n 0, 1) := by decide +kernel
theorem d_X9_setOutWith_8 : decode cX9_setOutWith 8 = .ok (.iconst (-1), 1) := by decide +kernel
theorem d_X9_setOutWith_9 : decode cX9_setOutWith 9 = .ok (.putfield 106, 3) := by decide +kernel
theorem d_X9_setOutWith_12 : decode cX9_setOutWith 12 = .ok (.return_, 1) := by decide +kernel
def f_X9_setOutWith (this : Nat) (a1 : Int32) : sa_M Unit :=
sa_gd 9 this (
sa_bnd (sa_rdR 9 this 14) fun v1 =>
sa_bnd (sa_stI v1 0 a1) fun _ =>
sa_bnd (sa_wrI 9 this 15 (-1)) fun _ =>
sa_ret ())
set_option maxHeartbeats 1000000 in
set_option maxRecDepth 10000 in
theorem b_X9_setOutWith {p : Program} {l : Launch} {e : Env} {s : State} {m : MethodId} {args : Array Value} {below : List Frame} {meth : Method} {c : Code} {D : va_G} {ad : Nat → Nat} {cA : FieldType → ClassId} {A : Nat → Prop} (this : Nat) (a1 : Int32) (C : sa_C p s m args meth c cX9_setOutWith RX9 "setOutWith" 2 none D ad cA A) : sa_Sg p l e s m args below meth c 2 1 D ad cA A sa_eV 0 [(0, .ref (ad this)), (1, .int a1)] [] (f_X9_setOutWith this a1) := by
  unfold f_X9_setOutWith
  refine sa_gdI ?_
  refine sa_aload_n C d_X9_setOutWith_0 rfl 0 rfl ?_
  refine sa_getR C fd_X9_26 rfl d_X9_setOutWith_1 (fun v1 => ?_)
  refine sa_iconst (v := 0) C d_X9_setOutWith_4 (by decide) ?_
  refine sa_iload_n C d_X9_setOutWith_5 rfl 1 rfl ?_
  refine sa_iast C d_X9_setOutWith_6 ?_
  refine sa_aload_n C d_X9_setOutWith_7 rfl 0 rfl ?_
  refine sa_iconst (v := (-1)) C d_X9_setOutWith_8 (by decide) ?_
  refine sa_putI C fd_X9_106 d_X9_setOutWith_9 ?_
  exact sa_vret C d_X9_setOutWith_12
theorem k_X9_setOutWith (this : Nat) (a1 : Int32) : sa_Met 1 yX9_setOutWith cX9_setOutWith 2 none (fun ad => [.ref (ad this), .int a1]) sa_eV (f_X9_setOutWith this a1) := sa_mk (by decide) (fun ad => Nat.le_of_ble_eq_true rfl) (fun p l e s m args below meth c D ad cA A C => b_X9_setOutWith this a1 C)
theorem gd_X9_setOutWith (this : Nat) (a1 : Int32) (σ : sa_St) (r : Unit) (τ : sa_St) (h : f_X9_setOutWith this a1 σ = some (r, τ)) : sa_sh this = some (.inl 9) := sa_gd_ok h
theorem d_X9_putAll_0 : decode cX9_putAll 0 = .ok (.aload_n 1, 1) := by decide +kernel
theorem d_X9_putAll_1 : decode cX9_putAll 1 = .ok (.lconst 0, 1) := by decide +kernel
theorem d_X9_putAll_2 : decode cX9_putAll 2 = .ok (.invokestatic 109, 3) := by decide +kernel
theorem d_X9_putAll_5 : decode cX9_putAll 5 = .ok (.aload_n 1, 1) := by decide +kernel
theorem d_X9_putAll_6 : decode cX9_putAll 6 = .ok (.aload_n 0, 1) := by decide +kernel
theorem d_X9_putAll_7 : decode cX9_putAll 7 = .ok (.getfield 64, 3) := by decide +kernel
theorem d_X9_putAll_10 : decode cX9_putAll 10 = .ok (.ldc2_w 115, 3) := by decide +kernel
theorem d_X9_putAll_13 : decode cX9_putAll 13 = .ok (.lastore, 1) := by decide +kernel
theorem d_X9_putAll_14 : decode cX9_putAll 14 = .ok (.return_, 1) := by decide +kernel
def f_X9_putAll (this : Nat) (a1 : Nat) : sa_M Unit :=
sa_gd 9 this (
sa_bnd (f_J7_fill_d0a16 a1 0) fun _ =>
sa_bnd (sa_rdI 9 this 5) fun v1 =>
sa_bnd (sa_stL a1 v1 1000000000) fun _ =>
sa_ret ())
set_option maxHeartbeats 1000000 in
set_option maxRecDepth 10000 in
theorem b_X9_putAll {p : Program} {l : Launch} {e : Env} {s : State} {m : MethodId} {args : Array Value} {below : List Frame} {meth : Method} {c : Code} {D : va_G} {ad : Nat → Nat} {cA : FieldType → ClassId} {A : Nat → Prop} (this : Nat) (a1 : Nat) (C : sa_C p s m args meth c cX9_putAll RX9 "putAll" 2 none D ad cA A) : sa_Sg p l e s m args below meth c 2 2 D ad cA A sa_eV 0 [(0, .ref (ad this)), (1, .ref (ad a1))] [] (f_X9_putAll this a1) := by
  unfold f_X9_putAll
  refine sa_gdI ?_
  refine sa_aload_n C d_X9_putAll_0 rfl 1 rfl ?_
  refine sa_lconst (v := 0) C d_X9_putAll_1 (by decide) ?_
  refine sa_invS C (k_J7_fill_d0a16 a1 0) q1042 ds_J7_fill_d0a16 q124 q1041 q1040 rfl rfl rfl (Nat.le_of_ble_eq_true rfl) (by decide) (by decide) d_X9_putAll_2 (fun _ => ?_)
  refine sa_aload_n C d_X9_putAll_5 rfl 1 rfl ?_
  refine sa_aload_n C d_X9_putAll_6 rfl 0 rfl ?_
  refine sa_getI C fd_X9_64 d_X9_putAll_7 (fun v1 => ?_)
  refine sa_ldc2 (v := 1000000000) C d_X9_putAll_10 q1043 ?_
  refine sa_last C d_X9_putAll_13 ?_
  exact sa_vret C d_X9_putAll_14
theorem k_X9_putAll (this : Nat) (a1 : Nat) : sa_Met 2 yX9_putAll cX9_putAll 2 none (fun ad => [.ref (ad this), .ref (ad a1)]) sa_eV (f_X9_putAll this a1) := sa_mk (by decide) (fun ad => Nat.le_of_ble_eq_true rfl) (fun p l e s m args below meth c D ad cA A C => b_X9_putAll this a1 C)
theorem gd_X9_putAll (this : Nat) (a1 : Nat) (σ : sa_St) (r : Unit) (τ : sa_St) (h : f_X9_putAll this a1 σ = some (r, τ)) : sa_sh this = some (.inl 9) := sa_gd_ok h
theorem d_X9_find_0 : decode cX9_find 0 = .ok (.aload_n 0, 1) := by decide +kernel
theorem d_X9_find_1 : decode cX9_find 1 = .ok (.iconst 0, 1) := by decide +kernel
theorem d_X9_find_2 : decode cX9_find 2 = .ok (.putfield 41, 3) := by decide +kernel
theorem d_X9_find_5 : decode cX9_find 5 = .ok (.aload_n 2, 1) := by decide +kernel
theorem d_X9_find_6 : decode cX9_find 6 = .ok (.iload_n 3, 1) := by decide +kernel
theorem d_X9_find_7 : decode cX9_find 7 = .ok (.invokevirtual 45, 3) := by decide +kernel
theorem d_X9_find_10 : decode cX9_find 10 = .ok (.ifCond .eq 23, 3) := by decide +kernel
theorem d_X9_find_13 : decode cX9_find 13 = .ok (.aload_n 1, 1) := by decide +kernel
theorem d_X9_find_14 : decode cX9_find 14 = .ok (.iload 4, 2) := by decide +kernel
theorem d_X9_find_16 : decode cX9_find 16 = .ok (.invokevirtual 51, 3) := by decide +kernel
theorem d_X9_find_19 : decode cX9_find 19 = .ok (.ifCond .eq 14, 3) := by decide +kernel
theorem d_X9_find_22 : decode cX9_find 22 = .ok (.aload_n 2, 1) := by decide +kernel
theorem d_X9_find_23 : decode cX9_find 23 = .ok (.iload_n 3, 1) := by decide +kernel
theorem d_X9_find_24 : decode cX9_find 24 = .ok (.iconst 0, 1) := by decide +kernel
theorem d_X9_find_25 : decode cX9_find 25 = .ok (.invokevirtual 56, 3) := by decide +kernel
theorem d_X9_find_28 : decode cX9_find 28 = .ok (.iload 4, 2) := by decide +kernel
theorem d_X9_find_30 : decode cX9_find 30 = .ok (.if_icmp .ne 5, 3) := by decide +kernel
theorem d_X9_find_33 : decode cX9_find 33 = .ok (.iconst 0, 1) := by decide +kernel
theorem d_X9_find_34 : decode cX9_find 34 = .ok (.ireturn, 1) := by decide +kernel
theorem d_X9_find_35 : decode cX9_find 35 = .ok (.aload_n 0, 1) := by decide +kernel
theorem d_X9_find_36 : decode cX9_find 36 = .ok (.aload_n 1, 1) := by decide +kernel
theorem d_X9_find_37 : decode cX9_find 37 = .ok (.putfield 60, 3) := by decide +kernel
theorem d_X9_find_40 : decode cX9_find 40 = .ok (.aload_n 0, 1) := by decide +kernel
theorem d_X9_find_41 : decode cX9_find 41 = .ok (.aload_n 2, 1) := by decide +kernel
theorem d_X9_find_42 : decode cX9_find 42 = .ok (.iload_n 3, 1) := by decide +kernel
theorem d_X9_find_43 : decode cX9_find 43 = .ok (.iconst 2, 1) := by decide +kernel
theorem d_X9_find_44 : decode cX9_find 44 = .ok (.invokevirtual 56, 3) := by decide +kernel
theorem d_X9_find_47 : decode cX9_find 47 = .ok (.putfield 64, 3) := by decide +kernel
theorem d_X9_find_50 : decode cX9_find 50 = .ok (.aload_n 0, 1) := by decide +kernel
theorem d_X9_find_51 : decode cX9_find 51 = .ok (.aload_n 2, 1) := by decide +kernel
theorem d_X9_find_52 : decode cX9_find 52 = .ok (.iload_n 3, 1) := by decide +kernel
theorem d_X9_find_53 : decode cX9_find 53 = .ok (.iconst 3, 1) := by decide +kernel
theorem d_X9_find_54 : decode cX9_find 54 = .ok (.invokevirtual 56, 3) := by decide +kernel
theorem d_X9_find_57 : decode cX9_find 57 = .ok (.putfield 67, 3) := by decide +kernel
theorem d_X9_find_60 : decode cX9_find 60 = .ok (.aload_n 0, 1) := by decide +kernel
theorem d_X9_find_61 : decode cX9_find 61 = .ok (.aload_n 2, 1) := by decide +kernel
theorem d_X9_find_62 : decode cX9_find 62 = .ok (.iload_n 3, 1) := by decide +kernel
theorem d_X9_find_63 : decode cX9_find 63 = .ok (.iconst 4, 1) := by decide +kernel
theorem d_X9_find_64 : decode cX9_find 64 = .ok (.invokevirtual 56, 3) := by decide +kernel
theorem d_X9_find_67 : decode cX9_find 67 = .ok (.putfield 70, 3) := by decide +kernel
theorem d_X9_find_70 : decode cX9_find 70 = .ok (.aload_n 0, 1) := by decide +kernel
theorem d_X9_find_71 : decode cX9_find 71 = .ok (.aload_n 2, 1) := by decide +kernel
theorem d_X9_find_72 : decode cX9_find 72 = .ok (.getfield 73, 3) := by decide +kernel
theorem d_X9_find_75 : decode cX9_find 75 = .ok (.bipush 21, 2) := by decide +kernel
theorem d_X9_find_77 : decode cX9_find 77 = .ok (.iaload, 1) := by decide +kernel
theorem d_X9_find_78 : decode cX9_find 78 = .ok (.putfield 76, 3) := by decide +kernel
theorem d_X9_find_81 : decode cX9_find 81 = .ok (.aload_n 0, 1) := by decide +kernel
theorem d_X9_find_82 : decode cX9_find 82 = .ok (.iload 4, 2) := by decide +kernel
theorem d_X9_find_84 : decode cX9_find 84 = .ok (.putfield 79, 3) := by decide +kernel
theorem d_X9_find_87 : decode cX9_find 87 = .ok (.aload_n 0, 1) := by decide +kernel
theorem d_X9_find_88 : decode cX9_find 88 = .ok (.getfield 18, 3) := by decide +kernel
theorem d_X9_find_91 : decode cX9_find 91 = .ok (.iconst 0, 1) := by decide +kernel
theorem d_X9_find_92 : decode cX9_find 92 = .ok (.aload_n 2, 1) := by decide +kernel
theorem d_X9_find_93 : decode cX9_find 93 = .ok (.iload_n 3, 1) := by decide +kernel
theorem d_X9_find_94 : decode cX9_find 94 = .ok (.iconst 0, 1) := by decide +kernel
theorem d_X9_find_95 : decode cX9_find 95 = .ok (.invokevirtual 56, 3) := by decide +kernel
theorem d_X9_find_98 : decode cX9_find 98 = .ok (.iastore, 1) := by decide +kernel
theorem d_X9_find_99 : decode cX9_find 99 = .ok (.aload_n 0, 1) := by decide +kernel
theorem d_X9_find_100 : decode cX9_find 100 = .ok (.iconst 1, 1) := by decide +kernel
theorem d_X9_find_101 : decode cX9_find 101 = .ok (.iconst 1, 1) := by decide +kernel
theorem d_X9_find_102 : decode cX9_find 102 = .ok (.aload_n 0, 1) := by decide +kernel
theorem d_X9_find_103 : decode cX9_find 103 = .ok (.getfield 18, 3) := by decide +kernel
theorem d_X9_find_106 : decode cX9_find 106 = .ok (.iconst 0, 1) := by decide +kernel
theorem d_X9_find_107 : decode cX9_find 107 = .ok (.iaload, 1) := by decide +kernel
theorem d_X9_find_108 : decode cX9_find 108 = .ok (.ishl, 1) := by decide +kernel
theorem d_X9_find_109 : decode cX9_find 109 = .ok (.invokevirtual 82, 3) := by decide +kernel
theorem d_X9_find_112 : decode cX9_find 112 = .ok (.aload_n 0, 1) := by decide +kernel
theorem d_X9_find_113 : decode cX9_find 113 = .ok (.iconst 0, 1) := by decide +kernel
theorem d_X9_find_114 : decode cX9_find 114 = .ok (.invokevirtual 86, 3) := by decide +kernel
theorem d_X9_find_117 : decode cX9_find 117 = .ok (.aload_n 0, 1) := by decide +kernel
theorem d_X9_find_118 : decode cX9_find 118 = .ok (.aload_n 0, 1) := by decide +kernel
theorem d_X9_find_119 : decode cX9_find 119 = .ok (.getfield 23, 3) := by decide +kernel
theorem d_X9_find_122 : decode cX9_find 122 = .ok (.iconst 0, 1) := by decide +kernel
theorem d_X9_find_123 : decode cX9_find 123 = .ok (.aaload, 1) := by decide +kernel
theorem d_X9_find_124 : decode cX9_find 124 = .ok (.invokevirtual 90, 3) := by decide +kernel
theorem d_X9_find_127 : decode cX9_find 127 = .ok (.iconst 1, 1) := by decide +kernel
theorem d_X9_find_128 : decode cX9_find 128 = .ok (.ireturn, 1) := by decide +kernel
def f_X9_find (this : Nat) (a1 : Nat) (a2 : Nat) (a3 : Int32) (a4 : Int32) : sa_M Int32 :=
sa_gd 9 this (
sa_bnd (sa_wrI 9 this 3 0) fun _ =>
sa_bnd (f_X0_isAtPlace a2 a3) fun v1 =>
sa_jn0 (sa_retZ 0) fun j33 =>
if v1 = 0 then
j33
else
sa_bnd (f_X1_hasPlace a1 a4) fun v2 =>
if v2 = 0 then
j33
else
sa_bnd (f_X0_of a2 a3 0) fun v3 =>
if ¬ v3 = a4 then
sa_bnd (sa_wrR 9 this 2 a1) fun _ =>
sa_bnd (f_X0_of a2 a3 2) fun v4 =>
sa_bnd (sa_wrI 9 this 5 v4) fun _ =>
sa_bnd (f_X0_of a2 a3 3) fun v5 =>
sa_bnd (sa_wrI 9 this 6 v5) fun _ =>
sa_bnd (f_X0_of a2 a3 4) fun v6 =>
sa_bnd (sa_wrI 9 this 7 v6) fun _ =>
sa_bnd (sa_rdR 0 a2 0) fun v7 =>
sa_bnd (sa_ldI .int v7 21) fun v8 =>
sa_bnd (sa_wrI 9 this 8 v8) fun _ =>
sa_bnd (sa_wrI 9 this 9 a4) fun _ =>
sa_bnd (sa_rdR 9 this 12) fun v9 =>
sa_bnd (f_X0_of a2 a3 0) fun v10 =>
sa_bnd (sa_stI v9 0 v10) fun _ =>
sa_bnd (sa_rdR 9 this 12) fun v11 =>
sa_bnd (sa_ldI .int v11 0) fun v12 =>
sa_bnd (f_X9_findFrom 60 this 1 (1 <<< (v12 &&& 31))) fun _ =>
sa_bnd (f_X9_setOutWith this 0) fun _ =>
sa_bnd (sa_rdR 9 this 13) fun v13 =>
sa_bnd (sa_ldR (.array .long) v13 0) fun v14 =>
sa_bnd (f_X9_putAll this v14) fun _ =>
sa_retZ 1
else
j33)
set_option maxHeartbeats 1000000 in
set_option maxRecDepth 10000 in
theorem b_X9_find {p : Program} {l : Launch} {e : Env} {s : State} {m : MethodId} {args : Array Value} {below : List Frame} {meth : Method} {c : Code} {D : va_G} {ad : Nat → Nat} {cA : FieldType → ClassId} {A : Nat → Prop} (this : Nat) (a1 : Nat) (a2 : Nat) (a3 : Int32) (a4 : Int32) (C : sa_C p s m args meth c cX9_find RX9 "find" 5 (some .boolean) D ad cA A) : sa_Sg p l e s m args below meth c 5 63 D ad cA A sa_eI 0 [(0, .ref (ad this)), (1, .ref (ad a1)), (2, .ref (ad a2)), (3, .int a3), (4, .int a4)] [] (f_X9_find this a1 a2 a3 a4) := by
  unfold f_X9_find
  refine sa_gdI ?_
  refine sa_aload_n C d_X9_find_0 rfl 0 rfl ?_
  refine sa_iconst (v := 0) C d_X9_find_1 (by decide) ?_
  refine sa_putI C fd_X9_41 d_X9_find_2 ?_
  refine sa_aload_n C d_X9_find_5 rfl 2 rfl ?_
  refine sa_iload_n C d_X9_find_6 rfl 3 rfl ?_
  refine sa_invV (ci := 0) C (k_X0_isAtPlace a2 a3) q850 ds_X0_isAtPlace q121 rfl q848 q849 q1023 (gd_X0_isAtPlace a2 a3) rfl rfl rfl (Nat.le_of_ble_eq_true rfl) (by decide) (by decide) d_X9_find_7 (fun v1 => ?_)
  refine sa_join0 33 ([]) ([]) (?_) (fun j33 hj33 => ?_)
  · refine sa_iconst (v := 0) C d_X9_find_33 (by decide) ?_
    exact sa_zret C d_X9_find_34
  refine sa_if_eq (tgt := 33) C d_X9_find_10 (by decide) ?_ ?_
  · exact sa_sub [] rfl (hj33)
  refine sa_aload_n C d_X9_find_13 rfl 1 rfl ?_
  refine sa_iload C d_X9_find_14 4 rfl ?_
  refine sa_invV (ci := 1) C (k_X1_hasPlace a1 a4) q648 ds_X1_hasPlace q116 rfl q646 q647 q1024 (gd_X1_hasPlace a1 a4) rfl rfl rfl (Nat.le_of_ble_eq_true rfl) (by decide) (by decide) d_X9_find_16 (fun v2 => ?_)
  refine sa_if_eq (tgt := 33) C d_X9_find_19 (by decide) ?_ ?_
  · exact sa_sub [] rfl (hj33)
  refine sa_aload_n C d_X9_find_22 rfl 2 rfl ?_
  refine sa_iload_n C d_X9_find_23 rfl 3 rfl ?_
  refine sa_iconst (v := 0) C d_X9_find_24 (by decide) ?_
  refine sa_invV (ci := 0) C (k_X0_of a2 a3 0) q801 ds_X0_of q121 rfl q799 q800 q1025 (gd_X0_of a2 a3 0) rfl rfl rfl (Nat.le_of_ble_eq_true rfl) (by decide) (by decide) d_X9_find_25 (fun v3 => ?_)
  refine sa_iload C d_X9_find_28 4 rfl ?_
  refine sa_icmp_ne (tgt := 35) C d_X9_find_30 (by decide) ?_ ?_
  · refine sa_aload_n C d_X9_find_35 rfl 0 rfl ?_
    refine sa_aload_n C d_X9_find_36 rfl 1 rfl ?_
    refine sa_putR C fd_X9_60 rfl d_X9_find_37 ?_
    refine sa_aload_n C d_X9_find_40 rfl 0 rfl ?_
    refine sa_aload_n C d_X9_find_41 rfl 2 rfl ?_
    refine sa_iload_n C d_X9_find_42 rfl 3 rfl ?_
    refine sa_iconst (v := 2) C d_X9_find_43 (by decide) ?_
    refine sa_invV (ci := 0) C (k_X0_of a2 a3 2) q801 ds_X0_of q121 rfl q799 q800 q1025 (gd_X0_of a2 a3 2) rfl rfl rfl (Nat.le_of_ble_eq_true rfl) (by decide) (by decide) d_X9_find_44 (fun v4 => ?_)
    refine sa_putI C fd_X9_64 d_X9_find_47 ?_
    refine sa_aload_n C d_X9_find_50 rfl 0 rfl ?_
    refine sa_aload_n C d_X9_find_51 rfl 2 rfl ?_
    refine sa_iload_n C d_X9_find_52 rfl 3 rfl ?_
    refine sa_iconst (v := 3) C d_X9_find_53 (by decide) ?_
    refine sa_invV (ci := 0) C (k_X0_of a2 a3 3) q801 ds_X0_of q121 rfl q799 q800 q1025 (gd_X0_of a2 a3 3) rfl rfl rfl (Nat.le_of_ble_eq_true rfl) (by decide) (by decide) d_X9_find_54 (fun v5 => ?_)
    refine sa_putI C fd_X9_67 d_X9_find_57 ?_
    refine sa_aload_n C d_X9_find_60 rfl 0 rfl ?_
    refine sa_aload_n C d_X9_find_61 rfl 2 rfl ?_
    refine sa_iload_n C d_X9_find_62 rfl 3 rfl ?_
    refine sa_iconst (v := 4) C d_X9_find_63 (by decide) ?_
    refine sa_invV (ci := 0) C (k_X0_of a2 a3 4) q801 ds_X0_of q121 rfl q799 q800 q1025 (gd_X0_of a2 a3 4) rfl rfl rfl (Nat.le_of_ble_eq_true rfl) (by decide) (by decide) d_X9_find_64 (fun v6 => ?_)
    refine sa_putI C fd_X9_70 d_X9_find_67 ?_
    refine sa_aload_n C d_X9_find_70 rfl 0 rfl ?_
    refine sa_aload_n C d_X9_find_71 rfl 2 rfl ?_
    refine sa_getR C fd_X9_73 rfl d_X9_find_72 (fun v7 => ?_)
    refine sa_bipush (v := 21) C d_X9_find_75 (by decide) ?_
    refine sa_iald C d_X9_find_77 (fun v8 => ?_)
    refine sa_putI C fd_X9_76 d_X9_find_78 ?_
    refine sa_aload_n C d_X9_find_81 rfl 0 rfl ?_
    refine sa_iload C d_X9_find_82 4 rfl ?_
    refine sa_putI C fd_X9_79 d_X9_find_84 ?_
    refine sa_aload_n C d_X9_find_87 rfl 0 rfl ?_
    refine sa_getR C fd_X9_18 rfl d_X9_find_88 (fun v9 => ?_)
    refine sa_iconst (v := 0) C d_X9_find_91 (by decide) ?_
    refine sa_aload_n C d_X9_find_92 rfl 2 rfl ?_
    refine sa_iload_n C d_X9_find_93 rfl 3 rfl ?_
    refine sa_iconst (v := 0) C d_X9_find_94 (by decide) ?_
    refine sa_invV (ci := 0) C (k_X0_of a2 a3 0) q801 ds_X0_of q121 rfl q799 q800 q1025 (gd_X0_of a2 a3 0) rfl rfl rfl (Nat.le_of_ble_eq_true rfl) (by decide) (by decide) d_X9_find_95 (fun v10 => ?_)
    refine sa_iast C d_X9_find_98 ?_
    refine sa_aload_n C d_X9_find_99 rfl 0 rfl ?_
    refine sa_iconst (v := 1) C d_X9_find_100 (by decide) ?_
    refine sa_iconst (v := 1) C d_X9_find_101 (by decide) ?_
    refine sa_aload_n C d_X9_find_102 rfl 0 rfl ?_
    refine sa_getR C fd_X9_18 rfl d_X9_find_103 (fun v11 => ?_)
    refine sa_iconst (v := 0) C d_X9_find_106 (by decide) ?_
    refine sa_iald C d_X9_find_107 (fun v12 => ?_)
    refine sa_ishl C d_X9_find_108 ?_
    refine sa_invV (ci := 9) C (k_X9_findFrom 60 this 1 (1 <<< (v12 &&& 31))) q1029 ds_X9_findFrom q125 rfl q1028 q29 q1026 (gd_X9_findFrom 60 this 1 (1 <<< (v12 &&& 31))) rfl rfl rfl (Nat.le_of_ble_eq_true rfl) (by decide) (by decide) d_X9_find_109 (fun _ => ?_)
    refine sa_aload_n C d_X9_find_112 rfl 0 rfl ?_
    refine sa_iconst (v := 0) C d_X9_find_113 (by decide) ?_
    refine sa_invV (ci := 9) C (k_X9_setOutWith this 0) q1035 ds_X9_setOutWith q125 rfl q1034 q30 q1032 (gd_X9_setOutWith this 0) rfl rfl rfl (Nat.le_of_ble_eq_true rfl) (by decide) (by decide) d_X9_find_114 (fun _ => ?_)
    refine sa_aload_n C d_X9_find_117 rfl 0 rfl ?_
    refine sa_aload_n C d_X9_find_118 rfl 0 rfl ?_
    refine sa_getR C fd_X9_23 rfl d_X9_find_119 (fun v13 => ?_)
    refine sa_iconst (v := 0) C d_X9_find_122 (by decide) ?_
    refine sa_aaldJ C d_X9_find_123 (fun v14 => ?_)
    refine sa_invV (ci := 9) C (k_X9_putAll this v14) q1039 ds_X9_putAll q125 rfl q1038 q31 q1036 (gd_X9_putAll this v14) rfl rfl rfl (Nat.le_of_ble_eq_true rfl) (by decide) (by decide) d_X9_find_124 (fun _ => ?_)
    refine sa_iconst (v := 1) C d_X9_find_127 (by decide) ?_
    exact sa_zret C d_X9_find_128
  exact sa_sub [] rfl (hj33)
theorem k_X9_find (this : Nat) (a1 : Nat) (a2 : Nat) (a3 : Int32) (a4 : Int32) : sa_Met 63 yX9_find cX9_find 5 (some .boolean) (fun ad => [.ref (ad this), .ref (ad a1), .ref (ad a2), .int a3, .int a4]) sa_eI (f_X9_find this a1 a2 a3 a4) := sa_mk (by decide) (fun ad => Nat.le_of_ble_eq_true rfl) (fun p l e s m args below meth c D ad cA A C => b_X9_find this a1 a2 a3 a4 C)
theorem gd_X9_find (this : Nat) (a1 : Nat) (a2 : Nat) (a3 : Int32) (a4 : Int32) (σ : sa_St) (r : Int32) (τ : sa_St) (h : f_X9_find this a1 a2 a3 a4 σ = some (r, τ)) : sa_sh this = some (.inl 9) := sa_gd_ok h
theorem d_X9_placeOrHidden_0 : decode cX9_placeOrHidden 0 = .ok (.iload_n 2, 1) := by decide +kernel
theorem d_X9_placeOrHidden_1 : decode cX9_placeOrHidden 1 = .ok (.ifCond .lt 22, 3) := by decide +kernel
theorem d_X9_placeOrHidden_4 : decode cX9_placeOrHidden 4 = .ok (.iload_n 2, 1) := by decide +kernel
theorem d_X9_placeOrHidden_5 : decode cX9_placeOrHidden 5 = .ok (.aload_n 0, 1) := by decide +kernel
theorem d_X9_placeOrHidden_6 : decode cX9_placeOrHidden 6 = .ok (.getfield 15, 3) := by decide +kernel
theorem d_X9_placeOrHidden_9 : decode cX9_placeOrHidden 9 = .ok (.iload_n 1, 1) := by decide +kernel
theorem d_X9_placeOrHidden_10 : decode cX9_placeOrHidden 10 = .ok (.iaload, 1) := by decide +kernel
theorem d_X9_placeOrHidden_11 : decode cX9_placeOrHidden 11 = .ok (.if_icmp .ge 12, 3) := by decide +kernel
theorem d_X9_placeOrHidden_14 : decode cX9_placeOrHidden 14 = .ok (.aload_n 0, 1) := by decide +kernel
theorem d_X9_placeOrHidden_15 : decode cX9_placeOrHidden 15 = .ok (.iload_n 1, 1) := by decide +kernel
theorem d_X9_placeOrHidden_16 : decode cX9_placeOrHidden 16 = .ok (.iload_n 2, 1) := by decide +kernel
theorem d_X9_placeOrHidden_17 : decode cX9_placeOrHidden 17 = .ok (.invokevirtual 117, 3) := by decide +kernel
theorem d_X9_placeOrHidden_20 : decode cX9_placeOrHidden 20 = .ok (.goto 5, 3) := by decide +kernel
theorem d_X9_placeOrHidden_23 : decode cX9_placeOrHidden 23 = .ok (.ldc 120, 2) := by decide +kernel
theorem d_X9_placeOrHidden_25 : decode cX9_placeOrHidden 25 = .ok (.ireturn, 1) := by decide +kernel
def f_X9_placeOrHidden (this : Nat) (a1 : Int32) (a2 : Int32) : sa_M Int32 :=
sa_gd 9 this (
sa_jn1 (fun (y1 : Int32) =>
sa_ret (y1 : Int32)) fun j25 =>
sa_jn0 (j25 (-1000000)) fun j23 =>
if a2 < 0 then
j23
else
sa_bnd (sa_rdR 9 this 11) fun v2 =>
sa_bnd (sa_ldI .int v2 a1) fun v3 =>
if v3 ≤ a2 then
j23
else
sa_bnd (f_X9_placeOf this a1 a2) fun v4 =>
j25 v4)
set_option maxHeartbeats 1000000 in
set_option maxRecDepth 10000 in
theorem b_X9_placeOrHidden {p : Program} {l : Launch} {e : Env} {s : State} {m : MethodId} {args : Array Value} {below : List Frame} {meth : Method} {c : Code} {D : va_G} {ad : Nat → Nat} {cA : FieldType → ClassId} {A : Nat → Prop} (this : Nat) (a1 : Int32) (a2 : Int32) (C : sa_C p s m args meth c cX9_placeOrHidden RX9 "placeOrHidden" 3 (some .int) D ad cA A) : sa_Sg p l e s m args below meth c 3 2 D ad cA A sa_eI 0 [(0, .ref (ad this)), (1, .int a1), (2, .int a2)] [] (f_X9_placeOrHidden this a1 a2) := by
  unfold f_X9_placeOrHidden
  refine sa_gdI ?_
  refine sa_iload_n C d_X9_placeOrHidden_0 rfl 2 rfl ?_
  refine sa_join1 25 (fun y1 => []) (fun y1 => [.int y1]) (fun y1 => ?_) (fun j25 hj25 => ?_)
  · exact sa_iret C d_X9_placeOrHidden_25
  refine sa_join0 23 ([]) ([]) (?_) (fun j23 hj23 => ?_)
  · refine sa_ldc (v := (-1000000)) C d_X9_placeOrHidden_23 q1116 ?_
    exact sa_sub [] rfl (hj25 _)
  refine sa_if_lt (tgt := 23) C d_X9_placeOrHidden_1 (by decide) ?_ ?_
  · exact sa_sub [] rfl (hj23)
  refine sa_iload_n C d_X9_placeOrHidden_4 rfl 2 rfl ?_
  refine sa_aload_n C d_X9_placeOrHidden_5 rfl 0 rfl ?_
  refine sa_getR C fd_X9_15 rfl d_X9_placeOrHidden_6 (fun v2 => ?_)
  refine sa_iload_n C d_X9_placeOrHidden_9 rfl 1 rfl ?_
  refine sa_iald C d_X9_placeOrHidden_10 (fun v3 => ?_)
  refine sa_icmp_ge (tgt := 23) C d_X9_placeOrHidden_11 (by decide) ?_ ?_
  · exact sa_sub [] rfl (hj23)
  refine sa_aload_n C d_X9_placeOrHidden_14 rfl 0 rfl ?_
  refine sa_iload_n C d_X9_placeOrHidden_15 rfl 1 rfl ?_
  refine sa_iload_n C d_X9_placeOrHidden_16 rfl 2 rfl ?_
  refine sa_invV (ci := 9) C (k_X9_placeOf this a1 a2) q1059 ds_X9_placeOf q125 rfl q1057 q1058 q1056 (gd_X9_placeOf this a1 a2) rfl rfl rfl (Nat.le_of_ble_eq_true rfl) (by decide) (by decide) d_X9_placeOrHidden_17 (fun v4 => ?_)
  refine sa_goto (tgt := 25) C d_X9_placeOrHidden_20 (by decide) ?_
  exact sa_sub [] rfl (hj25 _)
theorem k_X9_placeOrHidden (this : Nat) (a1 : Int32) (a2 : Int32) : sa_Met 2 yX9_placeOrHidden cX9_placeOrHidden 3 (some .int) (fun ad => [.ref (ad this), .int a1, .int a2]) sa_eI (f_X9_placeOrHidden this a1 a2) := sa_mk (by decide) (fun ad => Nat.le_of_ble_eq_true rfl) (fun p l e s m args below meth c D ad cA A C => b_X9_placeOrHidden this a1 a2 C)
theorem gd_X9_placeOrHidden (this : Nat) (a1 : Int32) (a2 : Int32) (σ : sa_St) (r : Int32) (τ : sa_St) (h : f_X9_placeOrHidden this a1 a2 σ = some (r, τ)) : sa_sh this = some (.inl 9) := sa_gd_ok h
theorem d_X9_hoursOf_0 : decode cX9_hoursOf 0 = .ok (.iconst 0, 1) := by decide +kernel
theorem d_X9_hoursOf_1 : decode cX9_hoursOf 1 = .ok (.istore_n 2, 1) := by decide +kernel
theorem d_X9_hoursOf_2 : decode cX9_hoursOf 2 = .ok (.iconst 1, 1) := by decide +kernel
theorem d_X9_hoursOf_3 : decode cX9_hoursOf 3 = .ok (.istore_n 3, 1) := by decide +kernel
theorem d_X9_hoursOf_4 : decode cX9_hoursOf 4 = .ok (.iload_n 3, 1) := by decide +kernel
theorem d_X9_hoursOf_5 : decode cX9_hoursOf 5 = .ok (.aload_n 0, 1) := by decide +kernel
theorem d_X9_hoursOf_6 : decode cX9_hoursOf 6 = .ok (.getfield 15, 3) := by decide +kernel
theorem d_X9_hoursOf_9 : decode cX9_hoursOf 9 = .ok (.iload_n 1, 1) := by decide +kernel
theorem d_X9_hoursOf_10 : decode cX9_hoursOf 10 = .ok (.iaload, 1) := by decide +kernel
theorem d_X9_hoursOf_11 : decode cX9_hoursOf 11 = .ok (.if_icmp .ge 27, 3) := by decide +kernel
theorem d_X9_hoursOf_14 : decode cX9_hoursOf 14 = .ok (.iload_n 2, 1) := by decide +kernel
theorem d_X9_hoursOf_15 : decode cX9_hoursOf 15 = .ok (.aload_n 0, 1) := by decide +kernel
theorem d_X9_hoursOf_16 : decode cX9_hoursOf 16 = .ok (.getfield 60, 3) := by decide +kernel
theorem d_X9_hoursOf_19 : decode cX9_hoursOf 19 = .ok (.iconst 1, 1) := by decide +kernel
theorem d_X9_hoursOf_20 : decode cX9_hoursOf 20 = .ok (.aload_n 0, 1) := by decide +kernel
theorem d_X9_hoursOf_21 : decode cX9_hoursOf 21 = .ok (.iload_n 1, 1) := by decide +kernel
theorem d_X9_hoursOf_22 : decode cX9_hoursOf 22 = .ok (.iload_n 3, 1) := by decide +kernel
theorem d_X9_hoursOf_23 : decode cX9_hoursOf 23 = .ok (.invokevirtual 121, 3) := by decide +kernel
theorem d_X9_hoursOf_26 : decode cX9_hoursOf 26 = .ok (.iconst 2, 1) := by decide +kernel
theorem d_X9_hoursOf_27 : decode cX9_hoursOf 27 = .ok (.invokevirtual 124, 3) := by decide +kernel
theorem d_X9_hoursOf_30 : decode cX9_hoursOf 30 = .ok (.iadd, 1) := by decide +kernel
theorem d_X9_hoursOf_31 : decode cX9_hoursOf 31 = .ok (.istore_n 2, 1) := by decide +kernel
theorem d_X9_hoursOf_32 : decode cX9_hoursOf 32 = .ok (.iinc 3 1, 3) := by decide +kernel
theorem d_X9_hoursOf_35 : decode cX9_hoursOf 35 = .ok (.goto (-31), 3) := by decide +kernel
theorem d_X9_hoursOf_38 : decode cX9_hoursOf 38 = .ok (.iload_n 2, 1) := by decide +kernel
theorem d_X9_hoursOf_39 : decode cX9_hoursOf 39 = .ok (.ireturn, 1) := by decide +kernel
def f_X9_hoursOf (this : Nat) (a1 : Int32) : sa_M Int32 :=
sa_gd 9 this (
sa_let (0 : Int32) fun x1 =>
sa_let (1 : Int32) fun x2 =>
sa_wh2 (fun j4 (x3 : Int32) (x4 : Int32) =>
sa_bnd (sa_rdR 9 this 11) fun v5 =>
sa_bnd (sa_ldI .int v5 a1) fun v6 =>
if v6 ≤ x4 then
sa_ret (x3 : Int32)
else
sa_bnd (sa_rdR 9 this 2) fun v7 =>
sa_bnd (f_X9_wayTo this a1 x4) fun v8 =>
sa_bnd (f_X1_cell v7 1 v8 2) fun v9 =>
sa_let ((x3 + v9) : Int32) fun x10 =>
sa_let ((x4 + 1) : Int32) fun x11 =>
j4 x10 x11) sa_F x1 x2)
set_option maxHeartbeats 1000000 in
set_option maxRecDepth 10000 in
theorem b_X9_hoursOf {p : Program} {l : Launch} {e : Env} {s : State} {m : MethodId} {args : Array Value} {below : List Frame} {meth : Method} {c : Code} {D : va_G} {ad : Nat → Nat} {cA : FieldType → ClassId} {A : Nat → Prop} (this : Nat) (a1 : Int32) (C : sa_C p s m args meth c cX9_hoursOf RX9 "hoursOf" 4 (some .int) D ad cA A) : sa_Sg p l e s m args below meth c 4 3 D ad cA A sa_eI 0 [(0, .ref (ad this)), (1, .int a1)] [] (f_X9_hoursOf this a1) := by
  unfold f_X9_hoursOf
  refine sa_gdI ?_
  refine sa_iconst (v := 0) C d_X9_hoursOf_0 (by decide) ?_
  refine sa_topi (fun x1 => ?_)
  refine sa_istore_n (lv' := [(2, .int x1), (0, .ref (ad this)), (1, .int a1)]) C d_X9_hoursOf_1 rfl (by decide) rfl ?_
  refine sa_iconst (v := 1) C d_X9_hoursOf_2 (by decide) ?_
  refine sa_topi (fun x2 => ?_)
  refine sa_istore_n (lv' := [(3, .int x2), (2, .int x1), (0, .ref (ad this)), (1, .int a1)]) C d_X9_hoursOf_3 rfl (by decide) rfl ?_
  refine sa_sub [2, 3, 1, 0] rfl (sa_loop2 (fun x3 x4 => [(0, .ref (ad this)), (1, .int a1), (2, .int x3), (3, .int x4)]) (fun x3 x4 => []) (fun j4 hj4 x3 x4 => ?_) _ _ _)
  refine sa_iload_n C d_X9_hoursOf_4 rfl 3 rfl ?_
  refine sa_aload_n C d_X9_hoursOf_5 rfl 0 rfl ?_
  refine sa_getR C fd_X9_15 rfl d_X9_hoursOf_6 (fun v5 => ?_)
  refine sa_iload_n C d_X9_hoursOf_9 rfl 1 rfl ?_
  refine sa_iald C d_X9_hoursOf_10 (fun v6 => ?_)
  refine sa_icmp_ge (tgt := 38) C d_X9_hoursOf_11 (by decide) ?_ ?_
  · refine sa_iload_n C d_X9_hoursOf_38 rfl 2 rfl ?_
    exact sa_iret C d_X9_hoursOf_39
  refine sa_iload_n C d_X9_hoursOf_14 rfl 2 rfl ?_
  refine sa_aload_n C d_X9_hoursOf_15 rfl 0 rfl ?_
  refine sa_getR C fd_X9_60 rfl d_X9_hoursOf_16 (fun v7 => ?_)
  refine sa_iconst (v := 1) C d_X9_hoursOf_19 (by decide) ?_
  refine sa_aload_n C d_X9_hoursOf_20 rfl 0 rfl ?_
  refine sa_iload_n C d_X9_hoursOf_21 rfl 1 rfl ?_
  refine sa_iload_n C d_X9_hoursOf_22 rfl 3 rfl ?_
  refine sa_invV (ci := 9) C (k_X9_wayTo this a1 x4) q1055 ds_X9_wayTo q125 rfl q1053 q1054 q1052 (gd_X9_wayTo this a1 x4) rfl rfl rfl (Nat.le_of_ble_eq_true rfl) (by decide) (by decide) d_X9_hoursOf_23 (fun v8 => ?_)
  refine sa_iconst (v := 2) C d_X9_hoursOf_26 (by decide) ?_
  refine sa_invV (ci := 1) C (k_X1_cell v7 1 v8 2) q644 ds_X1_cell q116 rfl q642 q643 q1060 (gd_X1_cell v7 1 v8 2) rfl rfl rfl (Nat.le_of_ble_eq_true rfl) (by decide) (by decide) d_X9_hoursOf_27 (fun v9 => ?_)
  refine sa_iadd C d_X9_hoursOf_30 ?_
  refine sa_topi (fun x10 => ?_)
  refine sa_istore_n (lv' := [(2, .int x10), (0, .ref (ad this)), (1, .int a1), (3, .int x4)]) C d_X9_hoursOf_31 rfl (by decide) rfl ?_
  refine sa_iinc C (fun zz => [(3, .int zz), (2, .int x10), (0, .ref (ad this)), (1, .int a1)]) d_X9_hoursOf_32 3 rfl rfl (by decide) (fun _ => rfl) (fun x11 => ?_)
  refine sa_goto (tgt := 4) C d_X9_hoursOf_35 (by decide) ?_
  exact sa_sub [2, 3, 1, 0] rfl (hj4 _ _)
theorem k_X9_hoursOf (this : Nat) (a1 : Int32) : sa_Met 3 yX9_hoursOf cX9_hoursOf 4 (some .int) (fun ad => [.ref (ad this), .int a1]) sa_eI (f_X9_hoursOf this a1) := sa_mk (by decide) (fun ad => Nat.le_of_ble_eq_true rfl) (fun p l e s m args below meth c D ad cA A C => b_X9_hoursOf this a1 C)
theorem gd_X9_hoursOf (this : Nat) (a1 : Int32) (σ : sa_St) (r : Int32) (τ : sa_St) (h : f_X9_hoursOf this a1 σ = some (r, τ)) : sa_sh this = some (.inl 9) := sa_gd_ok h
theorem d_X9_commonPlaces_0 : decode cX9_commonPlaces 0 = .ok (.aload_n 0, 1) := by decide +kernel
theorem d_X9_commonPlaces_1 : decode cX9_commonPlaces 1 = .ok (.getfield 15, 3) := by decide +kernel
theorem d_X9_commonPlaces_4 : decode cX9_commonPlaces 4 = .ok (.iload_n 1, 1) := by decide +kernel
theorem d_X9_commonPlaces_5 : decode cX9_commonPlaces 5 = .ok (.iaload, 1) := by decide +kernel
theorem d_X9_commonPlaces_6 : decode cX9_commonPlaces 6 = .ok (.aload_n 0, 1) := by decide +kernel
theorem d_X9_commonPlaces_7 : decode cX9_commonPlaces 7 = .ok (.getfield 15, 3) := by decide +kernel
theorem d_X9_commonPlaces_10 : decode cX9_commonPlaces 10 = .ok (.iload_n 2, 1) := by decide +kernel
theorem d_X9_commonPlaces_11 : decode cX9_commonPlaces 11 = .ok (.iaload, 1) := by decide +kernel
theorem d_X9_commonPlaces_12 : decode cX9_commonPlaces 12 = .ok (.invokestatic 157, 3) := by decide +kernel
theorem d_X9_commonPlaces_15 : decode cX9_commonPlaces 15 = .ok (.istore_n 3, 1) := by decide +kernel
theorem d_X9_commonPlaces_16 : decode cX9_commonPlaces 16 = .ok (.iconst 1, 1) := by decide +kernel
theorem d_X9_commonPlaces_17 : decode cX9_commonPlaces 17 = .ok (.istore 4, 2) := by decide +kernel
theorem d_X9_commonPlaces_19 : decode cX9_commonPlaces 19 = .ok (.iload 4, 2) := by decide +kernel
theorem d_X9_commonPlaces_21 : decode cX9_commonPlaces 21 = .ok (.iload_n 3, 1) := by decide +kernel
theorem d_X9_commonPlaces_22 : decode cX9_commonPlaces 22 = .ok (.if_icmp .ge 26, 3) := by decide +kernel
theorem d_X9_commonPlaces_25 : decode cX9_commonPlaces 25 = .ok (.aload_n 0, 1) := by decide +kernel
theorem d_X9_commonPlaces_26 : decode cX9_commonPlaces 26 = .ok (.iload_n 1, 1) := by decide +kernel
theorem d_X9_commonPlaces_27 : decode cX9_commonPlaces 27 = .ok (.iload 4, 2) := by decide +kernel
theorem d_X9_commonPlaces_29 : decode cX9_commonPlaces 29 = .ok (.invokevirtual 117, 3) := by decide +kernel
theorem d_X9_commonPlaces_32 : decode cX9_commonPlaces 32 = .ok (.aload_n 0, 1) := by decide +kernel
theorem d_X9_commonPlaces_33 : decode cX9_commonPlaces 33 = .ok (.iload_n 2, 1) := by decide +kernel
theorem d_X9_commonPlaces_34 : decode cX9_commonPlaces 34 = .ok (.iload 4, 2) := by decide +kernel
theorem d_X9_commonPlaces_36 : decode cX9_commonPlaces 36 = .ok (.invokevirtual 117, 3) := by decide +kernel
theorem d_X9_commonPlaces_39 : decode cX9_commonPlaces 39 = .ok (.if_icmp .ne 9, 3) := by decide +kernel
theorem d_X9_commonPlaces_42 : decode cX9_commonPlaces 42 = .ok (.iinc 4 1, 3) := by decide +kernel
theorem d_X9_commonPlaces_45 : decode cX9_commonPlaces 45 = .ok (.goto (-26), 3) := by decide +kernel
theorem d_X9_commonPlaces_48 : decode cX9_commonPlaces 48 = .ok (.iload 4, 2) := by decide +kernel
theorem d_X9_commonPlaces_50 : decode cX9_commonPlaces 50 = .ok (.ireturn, 1) := by decide +kernel
def f_X9_commonPlaces (this : Nat) (a1 : Int32) (a2 : Int32) : sa_M Int32 :=
sa_gd 9 this (
sa_bnd (sa_rdR 9 this 11) fun v1 =>
sa_bnd (sa_ldI .int v1 a1) fun v2 =>
sa_bnd (sa_rdR 9 this 11) fun v3 =>
sa_bnd (sa_ldI .int v3 a2) fun v4 =>
sa_let ((sa_min v2 v4) : Int32) fun x5 =>
sa_let (1 : Int32) fun x6 =>
sa_wh1 (fun j19 (x7 : Int32) =>
sa_jn0 (sa_ret (x7 : Int32)) fun j48 =>
if x5 ≤ x7 then
j48
else
sa_bnd (f_X9_placeOf this a1 x7) fun v8 =>
sa_bnd (f_X9_placeOf this a2 x7) fun v9 =>
if ¬ v8 = v9 then
j48
else
sa_let ((x7 + 1) : Int32) fun x10 =>
j19 x10) sa_F x6)
set_option maxHeartbeats 1000000 in
set_option maxRecDepth 10000 in
theorem b_X9_commonPlaces {p : Program} {l : Launch} {e : Env} {s : State} {m : MethodId} {args : Array Value} {below : List Frame} {meth : Method} {c : Code} {D : va_G} {ad : Nat → Nat} {cA : FieldType → ClassId} {A : Nat → Prop} (this : Nat) (a1 : Int32) (a2 : Int32) (C : sa_C p s m args meth c cX9_commonPlaces RX9 "commonPlaces" 5 (some .int) D ad cA A) : sa_Sg p l e s m args below meth c 5 2 D ad cA A sa_eI 0 [(0, .ref (ad this)), (1, .int a1), (2, .int a2)] [] (f_X9_commonPlaces this a1 a2) := by
  unfold f_X9_commonPlaces
  refine sa_gdI ?_
  refine sa_aload_n C d_X9_commonPlaces_0 rfl 0 rfl ?_
  refine sa_getR C fd_X9_15 rfl d_X9_commonPlaces_1 (fun v1 => ?_)
  refine sa_iload_n C d_X9_commonPlaces_4 rfl 1 rfl ?_
  refine sa_iald C d_X9_commonPlaces_5 (fun v2 => ?_)
  refine sa_aload_n C d_X9_commonPlaces_6 rfl 0 rfl ?_
  refine sa_getR C fd_X9_15 rfl d_X9_commonPlaces_7 (fun v3 => ?_)
  refine sa_iload_n C d_X9_commonPlaces_10 rfl 2 rfl ?_
  refine sa_iald C d_X9_commonPlaces_11 (fun v4 => ?_)
  refine sa_mmin C q1073 (Nat.le_of_ble_eq_true rfl) (by decide) q530 q130 q531 d_X9_commonPlaces_12 ?_
  refine sa_topi (fun x5 => ?_)
  refine sa_istore_n (lv' := [(3, .int x5), (0, .ref (ad this)), (1, .int a1), (2, .int a2)]) C d_X9_commonPlaces_15 rfl (by decide) rfl ?_
  refine sa_iconst (v := 1) C d_X9_commonPlaces_16 (by decide) ?_
  refine sa_topi (fun x6 => ?_)
  refine sa_istore (lv' := [(4, .int x6), (3, .int x5), (0, .ref (ad this)), (1, .int a1), (2, .int a2)]) C d_X9_commonPlaces_17 (by decide) rfl ?_
  refine sa_sub [2, 3, 4, 1, 0] rfl (sa_loop1 (fun x7 => [(0, .ref (ad this)), (1, .int a1), (2, .int a2), (3, .int x5), (4, .int x7)]) (fun x7 => []) (fun j19 hj19 x7 => ?_) _ _)
  refine sa_iload C d_X9_commonPlaces_19 4 rfl ?_
  refine sa_iload_n C d_X9_commonPlaces_21 rfl 3 rfl ?_
  refine sa_join0 48 ([(4, .int x7)]) ([]) (?_) (fun j48 hj48 => ?_)
  · refine sa_iload C d_X9_commonPlaces_48 0 rfl ?_
    exact sa_iret C d_X9_commonPlaces_50
  refine sa_icmp_ge (tgt := 48) C d_X9_commonPlaces_22 (by decide) ?_ ?_
  · exact sa_sub [4] rfl (hj48)
  refine sa_aload_n C d_X9_commonPlaces_25 rfl 0 rfl ?_
  refine sa_iload_n C d_X9_commonPlaces_26 rfl 1 rfl ?_
  refine sa_iload C d_X9_commonPlaces_27 4 rfl ?_
  refine sa_invV (ci := 9) C (k_X9_placeOf this a1 x7) q1059 ds_X9_placeOf q125 rfl q1057 q1058 q1056 (gd_X9_placeOf this a1 x7) rfl rfl rfl (Nat.le_of_ble_eq_true rfl) (by decide) (by decide) d_X9_commonPlaces_29 (fun v8 => ?_)
  refine sa_aload_n C d_X9_commonPlaces_32 rfl 0 rfl ?_
  refine sa_iload_n C d_X9_commonPlaces_33 rfl 2 rfl ?_
  refine sa_iload C d_X9_commonPlaces_34 4 rfl ?_
  refine sa_invV (ci := 9) C (k_X9_placeOf this a2 x7) q1059 ds_X9_placeOf q125 rfl q1057 q1058 q1056 (gd_X9_placeOf this a2 x7) rfl rfl rfl (Nat.le_of_ble_eq_true rfl) (by decide) (by decide) d_X9_commonPlaces_36 (fun v9 => ?_)
  refine sa_icmp_ne (tgt := 48) C d_X9_commonPlaces_39 (by decide) ?_ ?_
  · exact sa_sub [4] rfl (hj48)
  refine sa_iinc C (fun zz => [(4, .int zz), (0, .ref (ad this)), (1, .int a1), (2, .int a2), (3, .int x5)]) d_X9_commonPlaces_42 4 rfl rfl (by decide) (fun _ => rfl) (fun x10 => ?_)
  refine sa_goto (tgt := 19) C d_X9_commonPlaces_45 (by decide) ?_
  exact sa_sub [1, 2, 3, 4, 0] rfl (hj19 _)
theorem k_X9_commonPlaces (this : Nat) (a1 : Int32) (a2 : Int32) : sa_Met 2 yX9_commonPlaces cX9_commonPlaces 5 (some .int) (fun ad => [.ref (ad this), .int a1, .int a2]) sa_eI (f_X9_commonPlaces this a1 a2) := sa_mk (by decide) (fun ad => Nat.le_of_ble_eq_true rfl) (fun p l e s m args below meth c D ad cA A C => b_X9_commonPlaces this a1 a2 C)
theorem gd_X9_commonPlaces (this : Nat) (a1 : Int32) (a2 : Int32) (σ : sa_St) (r : Int32) (τ : sa_St) (h : f_X9_commonPlaces this a1 a2 σ = some (r, τ)) : sa_sh this = some (.inl 9) := sa_gd_ok h
theorem d_X9_letRain_0 : decode cX9_letRain 0 = .ok (.aload_n 0, 1) := by decide +kernel
theorem d_X9_letRain_1 : decode cX9_letRain 1 = .ok (.getfield 37, 3) := by decide +kernel
theorem d_X9_letRain_4 : decode cX9_letRain 4 = .ok (.aload_n 0, 1) := by decide +kernel
theorem d_X9_letRain_5 : decode cX9_letRain 5 = .ok (.getfield 60, 3) := by decide +kernel
theorem d_X9_letRain_8 : decode cX9_letRain 8 = .ok (.iload_n 2, 1) := by decide +kernel
theorem d_X9_letRain_9 : decode cX9_letRain 9 = .ok (.iload_n 3, 1) := by decide +kernel
theorem d_X9_letRain_10 : decode cX9_letRain 10 = .ok (.iconst 1, 1) := by decide +kernel
theorem d_X9_letRain_11 : decode cX9_letRain 11 = .ok (.iadd, 1) := by decide +kernel
theorem d_X9_letRain_12 : decode cX9_letRain 12 = .ok (.invokevirtual 170, 3) := by decide +kernel
theorem d_X9_letRain_15 : decode cX9_letRain 15 = .ok (.i2l, 1) := by decide +kernel
theorem d_X9_letRain_16 : decode cX9_letRain 16 = .ok (.lstore 4, 2) := by decide +kernel
theorem d_X9_letRain_18 : decode cX9_letRain 18 = .ok (.aload_n 0, 1) := by decide +kernel
theorem d_X9_letRain_19 : decode cX9_letRain 19 = .ok (.getfield 60, 3) := by decide +kernel
theorem d_X9_letRain_22 : decode cX9_letRain 22 = .ok (.iconst 0, 1) := by decide +kernel
theorem d_X9_letRain_23 : decode cX9_letRain 23 = .ok (.iload_n 2, 1) := by decide +kernel
theorem d_X9_letRain_24 : decode cX9_letRain 24 = .ok (.iconst 0, 1) := by decide +kernel
theorem d_X9_letRain_25 : decode cX9_letRain 25 = .ok (.invokevirtual 124, 3) := by decide +kernel
theorem d_X9_letRain_28 : decode cX9_letRain 28 = .ok (.istore 6, 2) := by decide +kernel
theorem d_X9_letRain_30 : decode cX9_letRain 30 = .ok (.iconst 1, 1) := by decide +kernel
theorem d_X9_letRain_31 : decode cX9_letRain 31 = .ok (.istore 7, 2) := by decide +kernel
theorem d_X9_letRain_33 : decode cX9_letRain 33 = .ok (.iload 7, 2) := by decide +kernel
theorem d_X9_letRain_35 : decode cX9_letRain 35 = .ok (.bipush 100, 2) := by decide +kernel
theorem d_X9_letRain_37 : decode cX9_letRain 37 = .ok (.if_icmp .ge 77, 3) := by decide +kernel
theorem d_X9_letRain_40 : decode cX9_letRain 40 = .ok (.aload_n 1, 1) := by decide +kernel
theorem d_X9_letRain_41 : decode cX9_letRain 41 = .ok (.iload 7, 2) := by decide +kernel
theorem d_X9_letRain_43 : decode cX9_letRain 43 = .ok (.laload, 1) := by decide +kernel
theorem d_X9_letRain_44 : decode cX9_letRain 44 = .ok (.lload 4, 2) := by decide +kernel
theorem d_X9_letRain_46 : decode cX9_letRain 46 = .ok (.lmul, 1) := by decide +kernel
theorem d_X9_letRain_47 : decode cX9_letRain 47 = .ok (.ldc2_w 176, 3) := by decide +kernel
theorem d_X9_letRain_50 : decode cX9_letRain 50 = .ok (.ldiv, 1) := by decide +kernel
theorem d_X9_letRain_51 : decode cX9_letRain 51 = .ok (.lstore 8, 2) := by decide +kernel
theorem d_X9_letRain_53 : decode cX9_letRain 53 = .ok (.lload 8, 2) := by decide +kernel
theorem d_X9_letRain_55 : decode cX9_letRain 55 = .ok (.lconst 0, 1) := by decide +kernel
theorem d_X9_letRain_56 : decode cX9_letRain 56 = .ok (.lcmp, 1) := by decide +kernel
theorem d_X9_letRain_57 : decode cX9_letRain 57 = .ok (.ifCond .le 51, 3) := by decide +kernel
theorem d_X9_letRain_60 : decode cX9_letRain 60 = .ok (.aload_n 0, 1) := by decide +kernel
theorem d_X9_letRain_61 : decode cX9_letRain 61 = .ok (.getfield 33, 3) := by decide +kernel
theorem d_X9_letRain_64 : decode cX9_letRain 64 = .ok (.iload 7, 2) := by decide +kernel
theorem d_X9_letRain_66 : decode cX9_letRain 66 = .ok (.aload_n 0, 1) := by decide +kernel
theorem d_X9_letRain_67 : decode cX9_letRain 67 = .ok (.getfield 67, 3) := by decide +kernel
theorem d_X9_letRain_70 : decode cX9_letRain 70 = .ok (.iload 6, 2) := by decide +kernel
theorem d_X9_letRain_72 : decode cX9_letRain 72 = .ok (.aload_n 0, 1) := by decide +kernel
theorem d_X9_letRain_73 : decode cX9_letRain 73 = .ok (.getfield 70, 3) := by decide +kernel
theorem d_X9_letRain_76 : decode cX9_letRain 76 = .ok (.aload_n 0, 1) := by decide +kernel
theorem d_X9_letRain_77 : decode cX9_letRain 77 = .ok (.getfield 76, 3) := by decide +kernel
theorem d_X9_letRain_80 : decode cX9_letRain 80 = .ok (.iload_n 3, 1) := by decide +kernel
theorem d_X9_letRain_81 : decode cX9_letRain 81 = .ok (.iadd, 1) := by decide +kernel
theorem d_X9_letRain_82 : decode cX9_letRain 82 = .ok (.invokevirtual 178, 3) := by decide +kernel
theorem d_X9_letRain_85 : decode cX9_letRain 85 = .ok (.istore 10, 2) := by decide +kernel
theorem d_X9_letRain_87 : decode cX9_letRain 87 = .ok (.aload_n 1, 1) := by decide +kernel
theorem d_X9_letRain_88 : decode cX9_letRain 88 = .ok (.iload 7, 2) := by decide +kernel
theorem d_X9_letRain_90 : decode cX9_letRain 90 = .ok (.dup2, 1) := by decide +kernel
theorem d_X9_letRain_91 : decode cX9_letRain 91 = .ok (.laload, 1) := by decide +kernel
theorem d_X9_letRain_92 : decode cX9_letRain 92 = .ok (.lload 8, 2) := by decide +kernel
theorem d_X9_letRain_94 : decode cX9_letRain 94 = .ok (.lsub, 1) := by decide +kernel
theorem d_X9_letRain_95 : decode cX9_letRain 95 = .ok (.lastore, 1) := by decide +kernel
theorem d_X9_letRain_96 : decode cX9_letRain 96 = .ok (.aload_n 1, 1) := by decide +kernel
theorem d_X9_letRain_97 : decode cX9_letRain 97 = .ok (.iload 7, 2) := by decide +kernel
theorem d_X9_letRain_99 : decode cX9_letRain 99 = .ok (.iload 10, 2) := by decide +kernel
theorem d_X9_letRain_101 : decode cX9_letRain 101 = .ok (.isub, 1) := by decide +kernel
theorem d_X9_letRain_102 : decode cX9_letRain 102 = .ok (.dup2, 1) := by decide +kernel
theorem d_X9_letRain_103 : decode cX9_letRain 103 = .ok (.laload, 1) := by decide +kernel
theorem d_X9_letRain_104 : decode cX9_letRain 104 = .ok (.lload 8, 2) := by decide +kernel
theorem d_X9_letRain_106 : decode cX9_letRain 106 = .ok (.ladd, 1) := by decide +kernel
theorem d_X9_letRain_107 : decode cX9_letRain 107 = .ok (.lastore, 1) := by decide +kernel
theorem d_X9_letRain_108 : decode cX9_letRain 108 = .ok (.iinc 7 1, 3) := by decide +kernel
theorem d_X9_letRain_111 : decode cX9_letRain 111 = .ok (.goto (-78), 3) := by decide +kernel
theorem d_X9_letRain_114 : decode cX9_letRain 114 = .ok (.return_, 1) := by decide +kernel
def f_X9_letRain (this : Nat) (a1 : Nat) (a2 : Int32) (a3 : Int32) : sa_M Unit :=
sa_gd 9 this (
sa_bnd (sa_rdR 9 this 1) fun v1 =>
sa_bnd (sa_rdR 9 this 2) fun v2 =>
sa_bnd (f_X6_chance v1 v2 a2 (a3 + 1)) fun v3 =>
sa_let ((v3.toInt64) : Int64) fun x4 =>
sa_bnd (sa_rdR 9 this 2) fun v5 =>
sa_bnd (f_X1_cell v5 0 a2 0) fun v6 =>
sa_let (1 : Int32) fun x7 =>
sa_wh1 (fun j33 (x8 : Int32) =>
if 100 ≤ x8 then
sa_ret ()
else
sa_bnd (sa_ldL a1 x8) fun v9 =>
sa_bnd (sa_dvL (v9 * x4) 100) fun v10 =>
sa_jn0 (sa_let ((x8 + 1) : Int32) fun x11 =>
j33 x11) fun j108 =>
if (lg_cmp v10 0) ≤ 0 then
j108
else
sa_bnd (sa_rdR 9 this 0) fun v12 =>
sa_bnd (sa_rdI 9 this 6) fun v13 =>
sa_bnd (sa_rdI 9 this 7) fun v14 =>
sa_bnd (sa_rdI 9 this 8) fun v15 =>
sa_bnd (f_X3_loss v12 x8 v13 v6 v14 (v15 + a3)) fun v16 =>
sa_bnd (sa_ldL a1 x8) fun v17 =>
sa_bnd (sa_stL a1 x8 (v17 - v10)) fun _ =>
sa_bnd (sa_ldL a1 (x8 - v16)) fun v18 =>
sa_bnd (sa_stL a1 (x8 - v16) (v18 + v10)) fun _ =>
j108) sa_F x7)
set_option maxHeartbeats 1000000 in
set_option maxRecDepth 10000 in
theorem b_X9_letRain {p : Program} {l : Launch} {e : Env} {s : State} {m : MethodId} {args : Array Value} {below : List Frame} {meth : Method} {c : Code} {D : va_G} {ad : Nat → Nat} {cA : FieldType → ClassId} {A : Nat → Prop} (this : Nat) (a1 : Nat) (a2 : Int32) (a3 : Int32) (C : sa_C p s m args meth c cX9_letRain RX9 "letRain" 11 none D ad cA A) : sa_Sg p l e s m args below meth c 11 3 D ad cA A sa_eV 0 [(0, .ref (ad this)), (1, .ref (ad a1)), (2, .int a2), (3, .int a3)] [] (f_X9_letRain this a1 a2 a3) := by
  unfold f_X9_letRain
  refine sa_gdI ?_
  refine sa_aload_n C d_X9_letRain_0 rfl 0 rfl ?_
  refine sa_getR C fd_X9_37 rfl d_X9_letRain_1 (fun v1 => ?_)
  refine sa_aload_n C d_X9_letRain_4 rfl 0 rfl ?_
  refine sa_getR C fd_X9_60 rfl d_X9_letRain_5 (fun v2 => ?_)
  refine sa_iload_n C d_X9_letRain_8 rfl 2 rfl ?_
  refine sa_iload_n C d_X9_letRain_9 rfl 3 rfl ?_
  refine sa_iconst (v := 1) C d_X9_letRain_10 (by decide) ?_
  refine sa_iadd C d_X9_letRain_11 ?_
  refine sa_invV (ci := 6) C (k_X6_chance v1 v2 a2 (a3 + 1)) q1085 ds_X6_chance q123 rfl q1083 q1084 q1082 (gd_X6_chance v1 v2 a2 (a3 + 1)) rfl rfl rfl (Nat.le_of_ble_eq_true rfl) (by decide) (by decide) d_X9_letRain_12 (fun v3 => ?_)
  refine sa_i2l C d_X9_letRain_15 ?_
  refine sa_topl (fun x4 => ?_)
  refine sa_lstore (lv' := [(4, .long x4), (0, .ref (ad this)), (1, .ref (ad a1)), (2, .int a2), (3, .int a3)]) C d_X9_letRain_16 (by decide) rfl ?_
  refine sa_aload_n C d_X9_letRain_18 rfl 1 rfl ?_
  refine sa_getR C fd_X9_60 rfl d_X9_letRain_19 (fun v5 => ?_)
  refine sa_iconst (v := 0) C d_X9_letRain_22 (by decide) ?_
  refine sa_iload_n C d_X9_letRain_23 rfl 3 rfl ?_
  refine sa_iconst (v := 0) C d_X9_letRain_24 (by decide) ?_
  refine sa_invV (ci := 1) C (k_X1_cell v5 0 a2 0) q644 ds_X1_cell q116 rfl q642 q643 q1060 (gd_X1_cell v5 0 a2 0) rfl rfl rfl (Nat.le_of_ble_eq_true rfl) (by decide) (by decide) d_X9_letRain_25 (fun v6 => ?_)
  refine sa_istore (lv' := [(6, .int v6), (4, .long x4), (0, .ref (ad this)), (1, .ref (ad a1)), (2, .int a2), (3, .int a3)]) C d_X9_letRain_28 (by decide) rfl ?_
  refine sa_iconst (v := 1) C d_X9_letRain_30 (by decide) ?_
  refine sa_topi (fun x7 => ?_)
  refine sa_istore (lv' := [(7, .int x7), (6, .int v6), (4, .long x4), (0, .ref (ad this)), (1, .ref (ad a1)), (2, .int a2), (3, .int a3)]) C d_X9_letRain_31 (by decide) rfl ?_
  refine sa_sub [3, 4, 6, 2, 1, 0] rfl (sa_loop1 (fun x8 => [(0, .ref (ad this)), (1, .ref (ad a1)), (3, .int a3), (4, .long x4), (6, .int v6), (7, .int x8)]) (fun x8 => []) (fun j33 hj33 x8 => ?_) _ _)
  refine sa_iload C d_X9_letRain_33 5 rfl ?_
  refine sa_bipush (v := 100) C d_X9_letRain_35 (by decide) ?_
  refine sa_icmp_ge (tgt := 114) C d_X9_letRain_37 (by decide) ?_ ?_
  · exact sa_vret C d_X9_letRain_114
  refine sa_aload_n C d_X9_letRain_40 rfl 1 rfl ?_
  refine sa_iload C d_X9_letRain_41 5 rfl ?_
  refine sa_lald C d_X9_letRain_43 (fun v9 => ?_)
  refine sa_lload C d_X9_letRain_44 3 rfl ?_
  refine sa_lmul C d_X9_letRain_46 ?_
  refine sa_ldc2 (v := 100) C d_X9_letRain_47 q1087 ?_
  refine sa_ldiv C d_X9_letRain_50 (fun v10 => ?_)
  refine sa_lstore (lv' := [(8, .long v10), (0, .ref (ad this)), (1, .ref (ad a1)), (3, .int a3), (4, .long x4), (6, .int v6), (7, .int x8)]) C d_X9_letRain_51 (by decide) rfl ?_
  refine sa_lload C d_X9_letRain_53 0 rfl ?_
  refine sa_lconst (v := 0) C d_X9_letRain_55 (by decide) ?_
  refine sa_lcmp C d_X9_letRain_56 ?_
  refine sa_join0 108 ([(0, .ref (ad this)), (1, .ref (ad a1)), (3, .int a3), (4, .long x4), (6, .int v6), (7, .int x8)]) ([]) (?_) (fun j108 hj108 => ?_)
  · refine sa_iinc C (fun zz => [(7, .int zz), (0, .ref (ad this)), (1, .ref (ad a1)), (3, .int a3), (4, .long x4), (6, .int v6)]) d_X9_letRain_108 5 rfl rfl (by decide) (fun _ => rfl) (fun x11 => ?_)
    refine sa_goto (tgt := 33) C d_X9_letRain_111 (by decide) ?_
    exact sa_sub [1, 2, 3, 4, 5, 0] rfl (hj33 _)
  refine sa_if_le (tgt := 108) C d_X9_letRain_57 (by decide) ?_ ?_
  · exact sa_sub [1, 2, 3, 4, 5, 6] rfl (hj108)
  refine sa_aload_n C d_X9_letRain_60 rfl 1 rfl ?_
  refine sa_getR C fd_X9_33 rfl d_X9_letRain_61 (fun v12 => ?_)
  refine sa_iload C d_X9_letRain_64 6 rfl ?_
  refine sa_aload_n C d_X9_letRain_66 rfl 1 rfl ?_
  refine sa_getI C fd_X9_67 d_X9_letRain_67 (fun v13 => ?_)
  refine sa_iload C d_X9_letRain_70 5 rfl ?_
  refine sa_aload_n C d_X9_letRain_72 rfl 1 rfl ?_
  refine sa_getI C fd_X9_70 d_X9_letRain_73 (fun v14 => ?_)
  refine sa_aload_n C d_X9_letRain_76 rfl 1 rfl ?_
  refine sa_getI C fd_X9_76 d_X9_letRain_77 (fun v15 => ?_)
  refine sa_iload_n C d_X9_letRain_80 rfl 3 rfl ?_
  refine sa_iadd C d_X9_letRain_81 ?_
  refine sa_invV (ci := 3) C (k_X3_loss v12 x8 v13 v6 v14 (v15 + a3)) q809 ds_X3_loss q117 rfl q807 q808 q1088 (gd_X3_loss v12 x8 v13 v6 v14 (v15 + a3)) rfl rfl rfl (Nat.le_of_ble_eq_true rfl) (by decide) (by decide) d_X9_letRain_82 (fun v16 => ?_)
  refine sa_istore (lv' := [(10, .int v16), (8, .long v10), (0, .ref (ad this)), (1, .ref (ad a1)), (3, .int a3), (4, .long x4), (6, .int v6), (7, .int x8)]) C d_X9_letRain_85 (by decide) rfl ?_
  refine sa_aload_n C d_X9_letRain_87 rfl 3 rfl ?_
  refine sa_iload C d_X9_letRain_88 7 rfl ?_
  refine sa_dup2_11 C d_X9_letRain_90 rfl rfl ?_
  refine sa_lald C d_X9_letRain_91 (fun v17 => ?_)
  refine sa_lload C d_X9_letRain_92 1 rfl ?_
  refine sa_lsub C d_X9_letRain_94 ?_
  refine sa_last C d_X9_letRain_95 ?_
  refine sa_aload_n C d_X9_letRain_96 rfl 3 rfl ?_
  refine sa_iload C d_X9_letRain_97 7 rfl ?_
  refine sa_iload C d_X9_letRain_99 0 rfl ?_
  refine sa_isub C d_X9_letRain_101 ?_
  refine sa_dup2_11 C d_X9_letRain_102 rfl rfl ?_
  refine sa_lald C d_X9_letRain_103 (fun v18 => ?_)
  refine sa_lload C d_X9_letRain_104 1 rfl ?_
  refine sa_ladd C d_X9_letRain_106 ?_
  refine sa_last C d_X9_letRain_107 ?_
  exact sa_sub [2, 3, 4, 5, 6, 7] rfl (hj108)
theorem k_X9_letRain (this : Nat) (a1 : Nat) (a2 : Int32) (a3 : Int32) : sa_Met 3 yX9_letRain cX9_letRain 11 none (fun ad => [.ref (ad this), .ref (ad a1), .int a2, .int a3]) sa_eV (f_X9_letRain this a1 a2 a3) := sa_mk (by decide) (fun ad => Nat.le_of_ble_eq_true rfl) (fun p l e s m args below meth c D ad cA A C => b_X9_letRain this a1 a2 a3 C)
theorem gd_X9_letRain (this : Nat) (a1 : Nat) (a2 : Int32) (a3 : Int32) (σ : sa_St) (r : Unit) (τ : sa_St) (h : f_X9_letRain this a1 a2 a3 σ = some (r, τ)) : sa_sh this = some (.inl 9) := sa_gd_ok h
theorem d_X9_pour_0 : decode cX9_pour 0 = .ok (.iconst 1, 1) := by decide +kernel
theorem d_X9_pour_1 : decode cX9_pour 1 = .ok (.istore_n 2, 1) := by decide +kernel
theorem d_X9_pour_2 : decode cX9_pour 2 = .ok (.iload_n 2, 1) := by decide +kernel
theorem d_X9_pour_3 : decode cX9_pour 3 = .ok (.bipush 100, 2) := by decide +kernel
theorem d_X9_pour_5 : decode cX9_pour 5 = .ok (.if_icmp .ge 34, 3) := by decide +kernel
theorem d_X9_pour_8 : decode cX9_pour 8 = .ok (.iload_n 1, 1) := by decide +kernel
theorem d_X9_pour_9 : decode cX9_pour 9 = .ok (.ifCond .le 30, 3) := by decide +kernel
theorem d_X9_pour_12 : decode cX9_pour 12 = .ok (.aload_n 0, 1) := by decide +kernel
theorem d_X9_pour_13 : decode cX9_pour 13 = .ok (.iload_n 2, 1) := by decide +kernel
theorem d_X9_pour_14 : decode cX9_pour 14 = .ok (.laload, 1) := by decide +kernel
theorem d_X9_pour_15 : decode cX9_pour 15 = .ok (.lstore_n 3, 1) := by decide +kernel
theorem d_X9_pour_16 : decode cX9_pour 16 = .ok (.aload_n 0, 1) := by decide +kernel
theorem d_X9_pour_17 : decode cX9_pour 17 = .ok (.iload_n 2, 1) := by decide +kernel
theorem d_X9_pour_18 : decode cX9_pour 18 = .ok (.lconst 0, 1) := by decide +kernel
theorem d_X9_pour_19 : decode cX9_pour 19 = .ok (.lastore, 1) := by decide +kernel
theorem d_X9_pour_20 : decode cX9_pour 20 = .ok (.aload_n 0, 1) := by decide +kernel
theorem d_X9_pour_21 : decode cX9_pour 21 = .ok (.iconst 0, 1) := by decide +kernel
theorem d_X9_pour_22 : decode cX9_pour 22 = .ok (.iload_n 2, 1) := by decide +kernel
theorem d_X9_pour_23 : decode cX9_pour 23 = .ok (.iload_n 1, 1) := by decide +kernel
theorem d_X9_pour_24 : decode cX9_pour 24 = .ok (.isub, 1) := by decide +kernel
theorem d_X9_pour_25 : decode cX9_pour 25 = .ok (.invokestatic 184, 3) := by decide +kernel
theorem d_X9_pour_28 : decode cX9_pour 28 = .ok (.dup2, 1) := by decide +kernel
theorem d_X9_pour_29 : decode cX9_pour 29 = .ok (.laload, 1) := by decide +kernel
theorem d_X9_pour_30 : decode cX9_pour 30 = .ok (.lload_n 3, 1) := by decide +kernel
theorem d_X9_pour_31 : decode cX9_pour 31 = .ok (.ladd, 1) := by decide +kernel
theorem d_X9_pour_32 : decode cX9_pour 32 = .ok (.lastore, 1) := by decide +kernel
theorem d_X9_pour_33 : decode cX9_pour 33 = .ok (.iinc 2 1, 3) := by decide +kernel
theorem d_X9_pour_36 : decode cX9_pour 36 = .ok (.goto (-34), 3) := by decide +kernel
theorem d_X9_pour_39 : decode cX9_pour 39 = .ok (.return_, 1) := by decide +kernel
def f_X9_pour (a1 : Nat) (a2 : Int32) : sa_M Unit :=
sa_let (1 : Int32) fun x1 =>
sa_wh1 (fun j2 (x2 : Int32) =>
sa_jn0 (sa_ret ()) fun j39 =>
if 100 ≤ x2 then
j39
else
if a2 ≤ 0 then
j39
else
sa_bnd (sa_ldL a1 x2) fun v3 =>
sa_bnd (sa_stL a1 x2 0) fun _ =>
sa_bnd (sa_ldL a1 (sa_max 0 (x2 - a2))) fun v4 =>
sa_bnd (sa_stL a1 (sa_max 0 (x2 - a2)) (v4 + v3)) fun _ =>
sa_let ((x2 + 1) : Int32) fun x5 =>
j2 x5) sa_F x1
set_option maxHeartbeats 1000000 in
set_option maxRecDepth 10000 in
theorem b_X9_pour {p : Program} {l : Launch} {e : Env} {s : State} {m : MethodId} {args : Array Value} {below : List Frame} {meth : Method} {c : Code} {D : va_G} {ad : Nat → Nat} {cA : FieldType → ClassId} {A : Nat → Prop} (a1 : Nat) (a2 : Int32) (C : sa_C p s m args meth c cX9_pour RX9 "pour" 5 none D ad cA A) : sa_Sg p l e s m args below meth c 5 1 D ad cA A sa_eV 0 [(0, .ref (ad a1)), (1, .int a2)] [] (f_X9_pour a1 a2) := by
  unfold f_X9_pour
  refine sa_iconst (v := 1) C d_X9_pour_0 (by decide) ?_
  refine sa_topi (fun x1 => ?_)
  refine sa_istore_n (lv' := [(2, .int x1), (0, .ref (ad a1)), (1, .int a2)]) C d_X9_pour_1 rfl (by decide) rfl ?_
  refine sa_sub [1, 2, 0] rfl (sa_loop1 (fun x2 => [(0, .ref (ad a1)), (1, .int a2), (2, .int x2)]) (fun x2 => []) (fun j2 hj2 x2 => ?_) _ _)
  refine sa_iload_n C d_X9_pour_2 rfl 2 rfl ?_
  refine sa_bipush (v := 100) C d_X9_pour_3 (by decide) ?_
  refine sa_join0 39 ([]) ([]) (?_) (fun j39 hj39 => ?_)
  · exact sa_vret C d_X9_pour_39
  refine sa_icmp_ge (tgt := 39) C d_X9_pour_5 (by decide) ?_ ?_
  · exact sa_sub [] rfl (hj39)
  refine sa_iload_n C d_X9_pour_8 rfl 1 rfl ?_
  refine sa_if_le (tgt := 39) C d_X9_pour_9 (by decide) ?_ ?_
  · exact sa_sub [] rfl (hj39)
  refine sa_aload_n C d_X9_pour_12 rfl 0 rfl ?_
  refine sa_iload_n C d_X9_pour_13 rfl 2 rfl ?_
  refine sa_lald C d_X9_pour_14 (fun v3 => ?_)
  refine sa_lstore_n (lv' := [(3, .long v3), (0, .ref (ad a1)), (1, .int a2), (2, .int x2)]) C d_X9_pour_15 rfl (by decide) rfl ?_
  refine sa_aload_n C d_X9_pour_16 rfl 1 rfl ?_
  refine sa_iload_n C d_X9_pour_17 rfl 3 rfl ?_
  refine sa_lconst (v := 0) C d_X9_pour_18 (by decide) ?_
  refine sa_last C d_X9_pour_19 ?_
  refine sa_aload_n C d_X9_pour_20 rfl 1 rfl ?_
  refine sa_iconst (v := 0) C d_X9_pour_21 (by decide) ?_
  refine sa_iload_n C d_X9_pour_22 rfl 3 rfl ?_
  refine sa_iload_n C d_X9_pour_23 rfl 2 rfl ?_
  refine sa_isub C d_X9_pour_24 ?_
  refine sa_mmax C q1092 (Nat.le_of_ble_eq_true rfl) (by decide) q527 q130 q528 d_X9_pour_25 ?_
  refine sa_dup2_11 C d_X9_pour_28 rfl rfl ?_
  refine sa_lald C d_X9_pour_29 (fun v4 => ?_)
  refine sa_lload_n C d_X9_pour_30 rfl 0 rfl ?_
  refine sa_ladd C d_X9_pour_31 ?_
  refine sa_last C d_X9_pour_32 ?_
  refine sa_iinc C (fun zz => [(2, .int zz), (3, .long v3), (0, .ref (ad a1)), (1, .int a2)]) d_X9_pour_33 3 rfl rfl (by decide) (fun _ => rfl) (fun x5 => ?_)
  refine sa_goto (tgt := 2) C d_X9_pour_36 (by decide) ?_
  exact sa_sub [2, 3, 0] rfl (hj2 _)
theorem k_X9_pour (a1 : Nat) (a2 : Int32) : sa_Met 1 yX9_pour cX9_pour 5 none (fun ad => [.ref (ad a1), .int a2]) sa_eV (f_X9_pour a1 a2) := sa_mk (by decide) (fun ad => Nat.le_of_ble_eq_true rfl) (fun p l e s m args below meth c D ad cA A C => b_X9_pour a1 a2 C)
theorem d_X9_walkWay_0 : decode cX9_walkWay 0 = .ok (.aload_n 0, 1) := by decide +kernel
theorem d_X9_walkWay_1 : decode cX9_walkWay 1 = .ok (.iload_n 2, 1) := by decide +kernel
theorem d_X9_walkWay_2 : decode cX9_walkWay 2 = .ok (.iload_n 3, 1) := by decide +kernel
theorem d_X9_walkWay_3 : decode cX9_walkWay 3 = .ok (.invokevirtual 121, 3) := by decide +kernel
theorem d_X9_walkWay_6 : decode cX9_walkWay 6 = .ok (.istore 5, 2) := by decide +kernel
theorem d_X9_walkWay_8 : decode cX9_walkWay 8 = .ok (.iload 4, 2) := by decide +kernel
theorem d_X9_walkWay_10 : decode cX9_walkWay 10 = .ok (.aload_n 0, 1) := by decide +kernel
theorem d_X9_walkWay_11 : decode cX9_walkWay 11 = .ok (.getfield 60, 3) := by decide +kernel
theorem d_X9_walkWay_14 : decode cX9_walkWay 14 = .ok (.iconst 1, 1) := by decide +kernel
theorem d_X9_walkWay_15 : decode cX9_walkWay 15 = .ok (.iload 5, 2) := by decide +kernel
theorem d_X9_walkWay_17 : decode cX9_walkWay 17 = .ok (.iconst 2, 1) := by decide +kernel
theorem d_X9_walkWay_18 : decode cX9_walkWay 18 = .ok (.invokevirtual 124, 3) := by decide +kernel
theorem d_X9_walkWay_21 : decode cX9_walkWay 21 = .ok (.iadd, 1) := by decide +kernel
theorem d_X9_walkWay_22 : decode cX9_walkWay 22 = .ok (.istore 6, 2) := by decide +kernel
theorem d_X9_walkWay_24 : decode cX9_walkWay 24 = .ok (.iload 4, 2) := by decide +kernel
theorem d_X9_walkWay_26 : decode cX9_walkWay 26 = .ok (.istore 7, 2) := by decide +kernel
theorem d_X9_walkWay_28 : decode cX9_walkWay 28 = .ok (.iload 7, 2) := by decide +kernel
theorem d_X9_walkWay_30 : decode cX9_walkWay 30 = .ok (.iload 6, 2) := by decide +kernel
theorem d_X9_walkWay_32 : decode cX9_walkWay 32 = .ok (.if_icmp .ge 22, 3) := by decide +kernel
theorem d_X9_walkWay_35 : decode cX9_walkWay 35 = .ok (.aload_n 0, 1) := by decide +kernel
theorem d_X9_walkWay_36 : decode cX9_walkWay 36 = .ok (.aload_n 1, 1) := by decide +kernel
theorem d_X9_walkWay_37 : decode cX9_walkWay 37 = .ok (.aload_n 0, 1) := by decide +kernel
theorem d_X9_walkWay_38 : decode cX9_walkWay 38 = .ok (.iload_n 2, 1) := by decide +kernel
theorem d_X9_walkWay_39 : decode cX9_walkWay 39 = .ok (.iload_n 3, 1) := by decide +kernel
theorem d_X9_walkWay_40 : decode cX9_walkWay 40 = .ok (.invokevirtual 117, 3) := by decide +kernel
theorem d_X9_walkWay_43 : decode cX9_walkWay 43 = .ok (.iload 7, 2) := by decide +kernel
theorem d_X9_walkWay_45 : decode cX9_walkWay 45 = .ok (.invokevirtual 162, 3) := by decide +kernel
theorem d_X9_walkWay_48 : decode cX9_walkWay 48 = .ok (.iinc 7 1, 3) := by decide +kernel
theorem d_X9_walkWay_51 : decode cX9_walkWay 51 = .ok (.goto (-23), 3) := by decide +kernel
theorem d_X9_walkWay_54 : decode cX9_walkWay 54 = .ok (.aload_n 1, 1) := by decide +kernel
theorem d_X9_walkWay_55 : decode cX9_walkWay 55 = .ok (.aload_n 0, 1) := by decide +kernel
theorem d_X9_walkWay_56 : decode cX9_walkWay 56 = .ok (.getfield 60, 3) := by decide +kernel
theorem d_X9_walkWay_59 : decode cX9_walkWay 59 = .ok (.iconst 1, 1) := by decide +kernel
theorem d_X9_walkWay_60 : decode cX9_walkWay 60 = .ok (.iload 5, 2) := by decide +kernel
theorem d_X9_walkWay_62 : decode cX9_walkWay 62 = .ok (.iconst 3, 1) := by decide +kernel
theorem d_X9_walkWay_63 : decode cX9_walkWay 63 = .ok (.invokevirtual 124, 3) := by decide +kernel
theorem d_X9_walkWay_66 : decode cX9_walkWay 66 = .ok (.invokestatic 166, 3) := by decide +kernel
theorem d_X9_walkWay_69 : decode cX9_walkWay 69 = .ok (.iload 6, 2) := by decide +kernel
theorem d_X9_walkWay_71 : decode cX9_walkWay 71 = .ok (.ireturn, 1) := by decide +kernel
def f_X9_walkWay (this : Nat) (a1 : Nat) (a2 : Int32) (a3 : Int32) (a4 : Int32) : sa_M Int32 :=
sa_gd 9 this (
sa_bnd (f_X9_wayTo this a2 a3) fun v1 =>
sa_bnd (sa_rdR 9 this 2) fun v2 =>
sa_bnd (f_X1_cell v2 1 v1 2) fun v3 =>
sa_let ((a4 + v3) : Int32) fun x4 =>
sa_wh1 (fun j28 (x5 : Int32) =>
if x4 ≤ x5 then
sa_bnd (sa_rdR 9 this 2) fun v6 =>
sa_bnd (f_X1_cell v6 1 v1 3) fun v7 =>
sa_bnd (f_X9_pour a1 v7) fun _ =>
sa_ret (x4 : Int32)
else
sa_bnd (f_X9_placeOf this a2 a3) fun v8 =>
sa_bnd (f_X9_letRain this a1 v8 x5) fun _ =>
sa_let ((x5 + 1) : Int32) fun x9 =>
j28 x9) sa_F a4)
set_option maxHeartbeats 1000000 in
set_option maxRecDepth 10000 in
theorem b_X9_walkWay {p : Program} {l : Launch} {e : Env} {s : State} {m : MethodId} {args : Array Value} {below : List Frame} {meth : Method} {c : Code} {D : va_G} {ad : Nat → Nat} {cA : FieldType → ClassId} {A : Nat → Prop} (this : Nat) (a1 : Nat) (a2 : Int32) (a3 : Int32) (a4 : Int32) (C : sa_C p s m args meth c cX9_walkWay RX9 "walkWay" 8 (some .int) D ad cA A) : sa_Sg p l e s m args below meth c 8 4 D ad cA A sa_eI 0 [(0, .ref (ad this)), (1, .ref (ad a1)), (2, .int a2), (3, .int a3), (4, .int a4)] [] (f_X9_walkWay this a1 a2 a3 a4) := by
  unfold f_X9_walkWay
  refine sa_gdI ?_
  refine sa_aload_n C d_X9_walkWay_0 rfl 0 rfl ?_
  refine sa_iload_n C d_X9_walkWay_1 rfl 2 rfl ?_
  refine sa_iload_n C d_X9_walkWay_2 rfl 3 rfl ?_
  refine sa_invV (ci := 9) C (k_X9_wayTo this a2 a3) q1055 ds_X9_wayTo q125 rfl q1053 q1054 q1052 (gd_X9_wayTo this a2 a3) rfl rfl rfl (Nat.le_of_ble_eq_true rfl) (by decide) (by decide) d_X9_walkWay_3 (fun v1 => ?_)
  refine sa_istore (lv' := [(5, .int v1), (0, .ref (ad this)), (1, .ref (ad a1)), (2, .int a2), (3, .int a3), (4, .int a4)]) C d_X9_walkWay_6 (by decide) rfl ?_
  refine sa_iload C d_X9_walkWay_8 5 rfl ?_
  refine sa_aload_n C d_X9_walkWay_10 rfl 1 rfl ?_
  refine sa_getR C fd_X9_60 rfl d_X9_walkWay_11 (fun v2 => ?_)
  refine sa_iconst (v := 1) C d_X9_walkWay_14 (by decide) ?_
  refine sa_iload C d_X9_walkWay_15 0 rfl ?_
  refine sa_iconst (v := 2) C d_X9_walkWay_17 (by decide) ?_
  refine sa_invV (ci := 1) C (k_X1_cell v2 1 v1 2) q644 ds_X1_cell q116 rfl q642 q643 q1060 (gd_X1_cell v2 1 v1 2) rfl rfl rfl (Nat.le_of_ble_eq_true rfl) (by decide) (by decide) d_X9_walkWay_18 (fun v3 => ?_)
  refine sa_iadd C d_X9_walkWay_21 ?_
  refine sa_topi (fun x4 => ?_)
  refine sa_istore (lv' := [(6, .int x4), (5, .int v1), (0, .ref (ad this)), (1, .ref (ad a1)), (2, .int a2), (3, .int a3), (4, .int a4)]) C d_X9_walkWay_22 (by decide) rfl ?_
  refine sa_iload C d_X9_walkWay_24 6 rfl ?_
  refine sa_istore (lv' := [(7, .int a4), (6, .int x4), (5, .int v1), (0, .ref (ad this)), (1, .ref (ad a1)), (2, .int a2), (3, .int a3), (4, .int a4)]) C d_X9_walkWay_26 (by decide) rfl ?_
  refine sa_sub [3, 4, 5, 6, 2, 1, 0] rfl (sa_loop1 (fun x5 => [(0, .ref (ad this)), (1, .ref (ad a1)), (2, .int a2), (3, .int a3), (5, .int v1), (6, .int x4), (7, .int x5)]) (fun x5 => []) (fun j28 hj28 x5 => ?_) _ _)
  refine sa_iload C d_X9_walkWay_28 6 rfl ?_
  refine sa_iload C d_X9_walkWay_30 5 rfl ?_
  refine sa_icmp_ge (tgt := 54) C d_X9_walkWay_32 (by decide) ?_ ?_
  · refine sa_aload_n C d_X9_walkWay_54 rfl 1 rfl ?_
    refine sa_aload_n C d_X9_walkWay_55 rfl 0 rfl ?_
    refine sa_getR C fd_X9_60 rfl d_X9_walkWay_56 (fun v6 => ?_)
    refine sa_iconst (v := 1) C d_X9_walkWay_59 (by decide) ?_
    refine sa_iload C d_X9_walkWay_60 4 rfl ?_
    refine sa_iconst (v := 3) C d_X9_walkWay_62 (by decide) ?_
    refine sa_invV (ci := 1) C (k_X1_cell v6 1 v1 3) q644 ds_X1_cell q116 rfl q642 q643 q1060 (gd_X1_cell v6 1 v1 3) rfl rfl rfl (Nat.le_of_ble_eq_true rfl) (by decide) (by decide) d_X9_walkWay_63 (fun v7 => ?_)
    refine sa_invS C (k_X9_pour a1 v7) q1091 ds_X9_pour q125 q1090 q1089 rfl rfl rfl (Nat.le_of_ble_eq_true rfl) (by decide) (by decide) d_X9_walkWay_66 (fun _ => ?_)
    refine sa_iload C d_X9_walkWay_69 5 rfl ?_
    exact sa_iret C d_X9_walkWay_71
  refine sa_aload_n C d_X9_walkWay_35 rfl 0 rfl ?_
  refine sa_aload_n C d_X9_walkWay_36 rfl 1 rfl ?_
  refine sa_aload_n C d_X9_walkWay_37 rfl 0 rfl ?_
  refine sa_iload_n C d_X9_walkWay_38 rfl 2 rfl ?_
  refine sa_iload_n C d_X9_walkWay_39 rfl 3 rfl ?_
  refine sa_invV (ci := 9) C (k_X9_placeOf this a2 a3) q1059 ds_X9_placeOf q125 rfl q1057 q1058 q1056 (gd_X9_placeOf this a2 a3) rfl rfl rfl (Nat.le_of_ble_eq_true rfl) (by decide) (by decide) d_X9_walkWay_40 (fun v8 => ?_)
  refine sa_iload C d_X9_walkWay_43 6 rfl ?_
  refine sa_invV (ci := 9) C (k_X9_letRain this a1 v8 x5) q1081 ds_X9_letRain q125 rfl q1080 q35 q1078 (gd_X9_letRain this a1 v8 x5) rfl rfl rfl (Nat.le_of_ble_eq_true rfl) (by decide) (by decide) d_X9_walkWay_45 (fun _ => ?_)
  refine sa_iinc C (fun zz => [(7, .int zz), (0, .ref (ad this)), (1, .ref (ad a1)), (2, .int a2), (3, .int a3), (5, .int v1), (6, .int x4)]) d_X9_walkWay_48 6 rfl rfl (by decide) (fun _ => rfl) (fun x9 => ?_)
  refine sa_goto (tgt := 28) C d_X9_walkWay_51 (by decide) ?_
  exact sa_sub [1, 2, 3, 4, 5, 6, 0] rfl (hj28 _)
theorem k_X9_walkWay (this : Nat) (a1 : Nat) (a2 : Int32) (a3 : Int32) (a4 : Int32) : sa_Met 4 yX9_walkWay cX9_walkWay 8 (some .int) (fun ad => [.ref (ad this), .ref (ad a1), .int a2, .int a3, .int a4]) sa_eI (f_X9_walkWay this a1 a2 a3 a4) := sa_mk (by decide) (fun ad => Nat.le_of_ble_eq_true rfl) (fun p l e s m args below meth c D ad cA A C => b_X9_walkWay this a1 a2 a3 a4 C)
theorem gd_X9_walkWay (this : Nat) (a1 : Nat) (a2 : Int32) (a3 : Int32) (a4 : Int32) (σ : sa_St) (r : Int32) (τ : sa_St) (h : f_X9_walkWay this a1 a2 a3 a4 σ = some (r, τ)) : sa_sh this = some (.inl 9) := sa_gd_ok h
theorem d_X9_walk_0 : decode cX9_walk 0 = .ok (.aload_n 0, 1) := by decide +kernel
theorem d_X9_walk_1 : decode cX9_walk 1 = .ok (.getfield 106, 3) := by decide +kernel
theorem d_X9_walk_4 : decode cX9_walk 4 = .ok (.ifCond .ge 7, 3) := by decide +kernel
theorem d_X9_walk_7 : decode cX9_walk 7 = .ok (.iconst 1, 1) := by decide +kernel
theorem d_X9_walk_8 : decode cX9_walk 8 = .ok (.goto 12, 3) := by decide +kernel
theorem d_X9_walk_11 : decode cX9_walk 11 = .ok (.aload_n 0, 1) := by decide +kernel
theorem d_X9_walk_12 : decode cX9_walk 12 = .ok (.aload_n 0, 1) := by decide +kernel
theorem d_X9_walk_13 : decode cX9_walk 13 = .ok (.getfield 106, 3) := by decide +kernel
theorem d_X9_walk_16 : decode cX9_walk 16 = .ok (.iload_n 1, 1) := by decide +kernel
theorem d_X9_walk_17 : decode cX9_walk 17 = .ok (.invokevirtual 150, 3) := by decide +kernel
theorem d_X9_walk_20 : decode cX9_walk 20 = .ok (.istore_n 2, 1) := by decide +kernel
theorem d_X9_walk_21 : decode cX9_walk 21 = .ok (.iload_n 2, 1) := by decide +kernel
theorem d_X9_walk_22 : decode cX9_walk 22 = .ok (.istore_n 3, 1) := by decide +kernel
theorem d_X9_walk_23 : decode cX9_walk 23 = .ok (.iload_n 3, 1) := by decide +kernel
theorem d_X9_walk_24 : decode cX9_walk 24 = .ok (.aload_n 0, 1) := by decide +kernel
theorem d_X9_walk_25 : decode cX9_walk 25 = .ok (.getfield 15, 3) := by decide +kernel
theorem d_X9_walk_28 : decode cX9_walk 28 = .ok (.iload_n 1, 1) := by decide +kernel
theorem d_X9_walk_29 : decode cX9_walk 29 = .ok (.iaload, 1) := by decide +kernel
theorem d_X9_walk_30 : decode cX9_walk 30 = .ok (.if_icmp .ge 56, 3) := by decide +kernel
theorem d_X9_walk_33 : decode cX9_walk 33 = .ok (.aload_n 0, 1) := by decide +kernel
theorem d_X9_walk_34 : decode cX9_walk 34 = .ok (.getfield 23, 3) := by decide +kernel
theorem d_X9_walk_37 : decode cX9_walk 37 = .ok (.iload_n 3, 1) := by decide +kernel
theorem d_X9_walk_38 : decode cX9_walk 38 = .ok (.iconst 1, 1) := by decide +kernel
theorem d_X9_walk_39 : decode cX9_walk 39 = .ok (.isub, 1) := by decide +kernel
theorem d_X9_walk_40 : decode cX9_walk 40 = .ok (.aaload, 1) := by decide +kernel
theorem d_X9_walk_41 : decode cX9_walk 41 = .ok (.iconst 0, 1) := by decide +kernel
theorem d_X9_walk_42 : decode cX9_walk 42 = .ok (.aload_n 0, 1) := by decide +kernel
theorem d_X9_walk_43 : decode cX9_walk 43 = .ok (.getfield 23, 3) := by decide +kernel
theorem d_X9_walk_46 : decode cX9_walk 46 = .ok (.iload_n 3, 1) := by decide +kernel
theorem d_X9_walk_47 : decode cX9_walk 47 = .ok (.aaload, 1) := by decide +kernel
theorem d_X9_walk_48 : decode cX9_walk 48 = .ok (.iconst 0, 1) := by decide +kernel
theorem d_X9_walk_49 : decode cX9_walk 49 = .ok (.bipush 100, 2) := by decide +kernel
theorem d_X9_walk_51 : decode cX9_walk 51 = .ok (.invokestatic 94, 3) := by decide +kernel
theorem d_X9_walk_54 : decode cX9_walk 54 = .ok (.aload_n 0, 1) := by decide +kernel
theorem d_X9_walk_55 : decode cX9_walk 55 = .ok (.getfield 26, 3) := by decide +kernel
theorem d_X9_walk_58 : decode cX9_walk 58 = .ok (.iload_n 3, 1) := by decide +kernel
theorem d_X9_walk_59 : decode cX9_walk 59 = .ok (.aload_n 0, 1) := by decide +kernel
theorem d_X9_walk_60 : decode cX9_walk 60 = .ok (.aload_n 0, 1) := by decide +kernel
theorem d_X9_walk_61 : decode cX9_walk 61 = .ok (.getfield 23, 3) := by decide +kernel
theorem d_X9_walk_64 : decode cX9_walk 64 = .ok (.iload_n 3, 1) := by decide +kernel
theorem d_X9_walk_65 : decode cX9_walk 65 = .ok (.aaload, 1) := by decide +kernel
theorem d_X9_walk_66 : decode cX9_walk 66 = .ok (.iload_n 1, 1) := by decide +kernel
theorem d_X9_walk_67 : decode cX9_walk 67 = .ok (.iload_n 3, 1) := by decide +kernel
theorem d_X9_walk_68 : decode cX9_walk 68 = .ok (.aload_n 0, 1) := by decide +kernel
theorem d_X9_walk_69 : decode cX9_walk 69 = .ok (.getfield 26, 3) := by decide +kernel
theorem d_X9_walk_72 : decode cX9_walk 72 = .ok (.iload_n 3, 1) := by decide +kernel
theorem d_X9_walk_73 : decode cX9_walk 73 = .ok (.iconst 1, 1) := by decide +kernel
theorem d_X9_walk_74 : decode cX9_walk 74 = .ok (.isub, 1) := by decide +kernel
theorem d_X9_walk_75 : decode cX9_walk 75 = .ok (.iaload, 1) := by decide +kernel
theorem d_X9_walk_76 : decode cX9_walk 76 = .ok (.invokevirtual 153, 3) := by decide +kernel
theorem d_X9_walk_79 : decode cX9_walk 79 = .ok (.iastore, 1) := by decide +kernel
theorem d_X9_walk_80 : decode cX9_walk 80 = .ok (.iinc 3 1, 3) := by decide +kernel
theorem d_X9_walk_83 : decode cX9_walk 83 = .ok (.goto (-60), 3) := by decide +kernel
theorem d_X9_walk_86 : decode cX9_walk 86 = .ok (.aload_n 0, 1) := by decide +kernel
theorem d_X9_walk_87 : decode cX9_walk 87 = .ok (.iload_n 1, 1) := by decide +kernel
theorem d_X9_walk_88 : decode cX9_walk 88 = .ok (.putfield 106, 3) := by decide +kernel
theorem d_X9_walk_91 : decode cX9_walk 91 = .ok (.return_, 1) := by decide +kernel
def f_X9_walk (this : Nat) (a1 : Int32) : sa_M Unit :=
sa_gd 9 this (
sa_bnd (sa_rdI 9 this 15) fun v1 =>
sa_jn1 (fun (y2 : Int32) =>
sa_wh1 (fun j23 (x3 : Int32) =>
sa_bnd (sa_rdR 9 this 11) fun v4 =>
sa_bnd (sa_ldI .int v4 a1) fun v5 =>
if v5 ≤ x3 then
sa_bnd (sa_wrI 9 this 15 a1) fun _ =>
sa_ret ()
else
sa_bnd (sa_rdR 9 this 13) fun v6 =>
sa_bnd (sa_ldR (.array .long) v6 (x3 - 1)) fun v7 =>
sa_bnd (sa_rdR 9 this 13) fun v8 =>
sa_bnd (sa_ldR (.array .long) v8 x3) fun v9 =>
sa_bnd (sa_cpL v7 0 v9 0 100) fun _ =>
sa_bnd (sa_rdR 9 this 14) fun v10 =>
sa_bnd (sa_rdR 9 this 13) fun v11 =>
sa_bnd (sa_ldR (.array .long) v11 x3) fun v12 =>
sa_bnd (sa_rdR 9 this 14) fun v13 =>
sa_bnd (sa_ldI .int v13 (x3 - 1)) fun v14 =>
sa_bnd (f_X9_walkWay this v12 a1 x3 v14) fun v15 =>
sa_bnd (sa_stI v10 x3 v15) fun _ =>
sa_let ((x3 + 1) : Int32) fun x16 =>
j23 x16) sa_F y2) fun j20 =>
if 0 ≤ v1 then
sa_bnd (sa_rdI 9 this 15) fun v17 =>
sa_bnd (f_X9_commonPlaces this v17 a1) fun v18 =>
j20 v18
else
j20 1)
set_option maxHeartbeats 1000000 in
set_option maxRecDepth 10000 in
theorem b_X9_walk {p : Program} {l : Launch} {e : Env} {s : State} {m : MethodId} {args : Array Value} {below : List Frame} {meth : Method} {c : Code} {D : va_G} {ad : Nat → Nat} {cA : FieldType → ClassId} {A : Nat → Prop} (this : Nat) (a1 : Int32) (C : sa_C p s m args meth c cX9_walk RX9 "walk" 4 none D ad cA A) : sa_Sg p l e s m args below meth c 4 5 D ad cA A sa_eV 0 [(0, .ref (ad this)), (1, .int a1)] [] (f_X9_walk this a1) := by
  unfold f_X9_walk
  refine sa_gdI ?_
  refine sa_aload_n C d_X9_walk_0 rfl 0 rfl ?_
  refine sa_getI C fd_X9_106 d_X9_walk_1 (fun v1 => ?_)
  refine sa_join1 20 (fun y2 => [(0, .ref (ad this)), (1, .int a1)]) (fun y2 => [.int y2]) (fun y2 => ?_) (fun j20 hj20 => ?_)
  · refine sa_istore_n (lv' := [(2, .int y2), (0, .ref (ad this)), (1, .int a1)]) C d_X9_walk_20 rfl (by decide) rfl ?_
    refine sa_iload_n C d_X9_walk_21 rfl 0 rfl ?_
    refine sa_istore_n (lv' := [(3, .int y2), (2, .int y2), (0, .ref (ad this)), (1, .int a1)]) C d_X9_walk_22 rfl (by decide) rfl ?_
    refine sa_sub [2, 3, 0] rfl (sa_loop1 (fun x3 => [(0, .ref (ad this)), (1, .int a1), (3, .int x3)]) (fun x3 => []) (fun j23 hj23 x3 => ?_) _ _)
    refine sa_iload_n C d_X9_walk_23 rfl 2 rfl ?_
    refine sa_aload_n C d_X9_walk_24 rfl 0 rfl ?_
    refine sa_getR C fd_X9_15 rfl d_X9_walk_25 (fun v4 => ?_)
    refine sa_iload_n C d_X9_walk_28 rfl 1 rfl ?_
    refine sa_iald C d_X9_walk_29 (fun v5 => ?_)
    refine sa_icmp_ge (tgt := 86) C d_X9_walk_30 (by decide) ?_ ?_
    · refine sa_aload_n C d_X9_walk_86 rfl 0 rfl ?_
      refine sa_iload_n C d_X9_walk_87 rfl 1 rfl ?_
      refine sa_putI C fd_X9_106 d_X9_walk_88 ?_
      exact sa_vret C d_X9_walk_91
    refine sa_aload_n C d_X9_walk_33 rfl 0 rfl ?_
    refine sa_getR C fd_X9_23 rfl d_X9_walk_34 (fun v6 => ?_)
    refine sa_iload_n C d_X9_walk_37 rfl 2 rfl ?_
    refine sa_iconst (v := 1) C d_X9_walk_38 (by decide) ?_
    refine sa_isub C d_X9_walk_39 ?_
    refine sa_aaldJ C d_X9_walk_40 (fun v7 => ?_)
    refine sa_iconst (v := 0) C d_X9_walk_41 (by decide) ?_
    refine sa_aload_n C d_X9_walk_42 rfl 0 rfl ?_
    refine sa_getR C fd_X9_23 rfl d_X9_walk_43 (fun v8 => ?_)
    refine sa_iload_n C d_X9_walk_46 rfl 2 rfl ?_
    refine sa_aaldJ C d_X9_walk_47 (fun v9 => ?_)
    refine sa_iconst (v := 0) C d_X9_walk_48 (by decide) ?_
    refine sa_bipush (v := 100) C d_X9_walk_49 (by decide) ?_
    refine sa_cpyL C q1030 q594 q593 q134 (Nat.le_of_ble_eq_true rfl) (by decide) d_X9_walk_51 ?_
    refine sa_aload_n C d_X9_walk_54 rfl 0 rfl ?_
    refine sa_getR C fd_X9_26 rfl d_X9_walk_55 (fun v10 => ?_)
    refine sa_iload_n C d_X9_walk_58 rfl 2 rfl ?_
    refine sa_aload_n C d_X9_walk_59 rfl 0 rfl ?_
    refine sa_aload_n C d_X9_walk_60 rfl 0 rfl ?_
    refine sa_getR C fd_X9_23 rfl d_X9_walk_61 (fun v11 => ?_)
    refine sa_iload_n C d_X9_walk_64 rfl 2 rfl ?_
    refine sa_aaldJ C d_X9_walk_65 (fun v12 => ?_)
    refine sa_iload_n C d_X9_walk_66 rfl 1 rfl ?_
    refine sa_iload_n C d_X9_walk_67 rfl 2 rfl ?_
    refine sa_aload_n C d_X9_walk_68 rfl 0 rfl ?_
    refine sa_getR C fd_X9_26 rfl d_X9_walk_69 (fun v13 => ?_)
    refine sa_iload_n C d_X9_walk_72 rfl 2 rfl ?_
    refine sa_iconst (v := 1) C d_X9_walk_73 (by decide) ?_
    refine sa_isub C d_X9_walk_74 ?_
    refine sa_iald C d_X9_walk_75 (fun v14 => ?_)
    refine sa_invV (ci := 9) C (k_X9_walkWay this v12 a1 x3 v14) q1077 ds_X9_walkWay q125 rfl q1076 q34 q1074 (gd_X9_walkWay this v12 a1 x3 v14) rfl rfl rfl (Nat.le_of_ble_eq_true rfl) (by decide) (by decide) d_X9_walk_76 (fun v15 => ?_)
    refine sa_iast C d_X9_walk_79 ?_
    refine sa_iinc C (fun zz => [(3, .int zz), (0, .ref (ad this)), (1, .int a1)]) d_X9_walk_80 2 rfl rfl (by decide) (fun _ => rfl) (fun x16 => ?_)
    refine sa_goto (tgt := 23) C d_X9_walk_83 (by decide) ?_
    exact sa_sub [1, 2, 0] rfl (hj23 _)
  refine sa_if_ge (tgt := 11) C d_X9_walk_4 (by decide) ?_ ?_
  · refine sa_aload_n C d_X9_walk_11 rfl 0 rfl ?_
    refine sa_aload_n C d_X9_walk_12 rfl 0 rfl ?_
    refine sa_getI C fd_X9_106 d_X9_walk_13 (fun v17 => ?_)
    refine sa_iload_n C d_X9_walk_16 rfl 1 rfl ?_
    refine sa_invV (ci := 9) C (k_X9_commonPlaces this v17 a1) q1072 ds_X9_commonPlaces q125 rfl q1071 q33 q1069 (gd_X9_commonPlaces this v17 a1) rfl rfl rfl (Nat.le_of_ble_eq_true rfl) (by decide) (by decide) d_X9_walk_17 (fun v18 => ?_)
    exact sa_sub [0, 1] rfl (hj20 _)
  refine sa_iconst (v := 1) C d_X9_walk_7 (by decide) ?_
  refine sa_goto (tgt := 20) C d_X9_walk_8 (by decide) ?_
  exact sa_sub [0, 1] rfl (hj20 _)
theorem k_X9_walk (this : Nat) (a1 : Int32) : sa_Met 5 yX9_walk cX9_walk 4 none (fun ad => [.ref (ad this), .int a1]) sa_eV (f_X9_walk this a1) := sa_mk (by decide) (fun ad => Nat.le_of_ble_eq_true rfl) (fun p l e s m args below meth c D ad cA A C => b_X9_walk this a1 C)
theorem gd_X9_walk (this : Nat) (a1 : Int32) (σ : sa_St) (r : Unit) (τ : sa_St) (h : f_X9_walk this a1 σ = some (r, τ)) : sa_sh this = some (.inl 9) := sa_gd_ok h
theorem d_X9_sureOf_0 : decode cX9_sureOf 0 = .ok (.aload_n 0, 1) := by decide +kernel
theorem d_X9_sureOf_1 : decode cX9_sureOf 1 = .ok (.iload_n 1, 1) := by decide +kernel
theorem d_X9_sureOf_2 : decode cX9_sureOf 2 = .ok (.invokevirtual 141, 3) := by decide +kernel
theorem d_X9_sureOf_5 : decode cX9_sureOf 5 = .ok (.aload_n 0, 1) := by decide +kernel
theorem d_X9_sureOf_6 : decode cX9_sureOf 6 = .ok (.getfield 23, 3) := by decide +kernel
theorem d_X9_sureOf_9 : decode cX9_sureOf 9 = .ok (.aload_n 0, 1) := by decide +kernel
theorem d_X9_sureOf_10 : decode cX9_sureOf 10 = .ok (.getfield 15, 3) := by decide +kernel
theorem d_X9_sureOf_13 : decode cX9_sureOf 13 = .ok (.iload_n 1, 1) := by decide +kernel
theorem d_X9_sureOf_14 : decode cX9_sureOf 14 = .ok (.iaload, 1) := by decide +kernel
theorem d_X9_sureOf_15 : decode cX9_sureOf 15 = .ok (.iconst 1, 1) := by decide +kernel
theorem d_X9_sureOf_16 : decode cX9_sureOf 16 = .ok (.isub, 1) := by decide +kernel
theorem d_X9_sureOf_17 : decode cX9_sureOf 17 = .ok (.aaload, 1) := by decide +kernel
theorem d_X9_sureOf_18 : decode cX9_sureOf 18 = .ok (.astore_n 2, 1) := by decide +kernel
theorem d_X9_sureOf_19 : decode cX9_sureOf 19 = .ok (.ldc2_w 115, 3) := by decide +kernel
theorem d_X9_sureOf_22 : decode cX9_sureOf 22 = .ok (.aload_n 2, 1) := by decide +kernel
theorem d_X9_sureOf_23 : decode cX9_sureOf 23 = .ok (.iconst 0, 1) := by decide +kernel
theorem d_X9_sureOf_24 : decode cX9_sureOf 24 = .ok (.laload, 1) := by decide +kernel
theorem d_X9_sureOf_25 : decode cX9_sureOf 25 = .ok (.lsub, 1) := by decide +kernel
theorem d_X9_sureOf_26 : decode cX9_sureOf 26 = .ok (.l2i, 1) := by decide +kernel
theorem d_X9_sureOf_27 : decode cX9_sureOf 27 = .ok (.ireturn, 1) := by decide +kernel
def f_X9_sureOf (this : Nat) (a1 : Int32) : sa_M Int32 :=
sa_gd 9 this (
sa_bnd (f_X9_walk this a1) fun _ =>
sa_bnd (sa_rdR 9 this 13) fun v1 =>
sa_bnd (sa_rdR 9 this 11) fun v2 =>
sa_bnd (sa_ldI .int v2 a1) fun v3 =>
sa_bnd (sa_ldR (.array .long) v1 (v3 - 1)) fun v4 =>
sa_bnd (sa_ldL v4 0) fun v5 =>
sa_ret (((1000000000 - v5).toInt32) : Int32))
set_option maxHeartbeats 1000000 in
set_option maxRecDepth 10000 in
theorem b_X9_sureOf {p : Program} {l : Launch} {e : Env} {s : State} {m : MethodId} {args : Array Value} {below : List Frame} {meth : Method} {c : Code} {D : va_G} {ad : Nat → Nat} {cA : FieldType → ClassId} {A : Nat → Prop} (this : Nat) (a1 : Int32) (C : sa_C p s m args meth c cX9_sureOf RX9 "sureOf" 3 (some .int) D ad cA A) : sa_Sg p l e s m args below meth c 3 6 D ad cA A sa_eI 0 [(0, .ref (ad this)), (1, .int a1)] [] (f_X9_sureOf this a1) := by
  unfold f_X9_sureOf
  refine sa_gdI ?_
  refine sa_aload_n C d_X9_sureOf_0 rfl 0 rfl ?_
  refine sa_iload_n C d_X9_sureOf_1 rfl 1 rfl ?_
  refine sa_invV (ci := 9) C (k_X9_walk this a1) q1068 ds_X9_walk q125 rfl q1067 q32 q1065 (gd_X9_walk this a1) rfl rfl rfl (Nat.le_of_ble_eq_true rfl) (by decide) (by decide) d_X9_sureOf_2 (fun _ => ?_)
  refine sa_aload_n C d_X9_sureOf_5 rfl 0 rfl ?_
  refine sa_getR C fd_X9_23 rfl d_X9_sureOf_6 (fun v1 => ?_)
  refine sa_aload_n C d_X9_sureOf_9 rfl 0 rfl ?_
  refine sa_getR C fd_X9_15 rfl d_X9_sureOf_10 (fun v2 => ?_)
  refine sa_iload_n C d_X9_sureOf_13 rfl 1 rfl ?_
  refine sa_iald C d_X9_sureOf_14 (fun v3 => ?_)
  refine sa_iconst (v := 1) C d_X9_sureOf_15 (by decide) ?_
  refine sa_isub C d_X9_sureOf_16 ?_
  refine sa_aaldJ C d_X9_sureOf_17 (fun v4 => ?_)
  refine sa_astore_n (lv' := [(2, .ref (ad v4)), (0, .ref (ad this)), (1, .int a1)]) C d_X9_sureOf_18 rfl (by decide) rfl ?_
  refine sa_ldc2 (v := 1000000000) C d_X9_sureOf_19 q1043 ?_
  refine sa_aload_n C d_X9_sureOf_22 rfl 0 rfl ?_
  refine sa_iconst (v := 0) C d_X9_sureOf_23 (by decide) ?_
  refine sa_lald C d_X9_sureOf_24 (fun v5 => ?_)
  refine sa_lsub C d_X9_sureOf_25 ?_
  refine sa_l2i C d_X9_sureOf_26 ?_
  exact sa_iret C d_X9_sureOf_27
theorem k_X9_sureOf (this : Nat) (a1 : Int32) : sa_Met 6 yX9_sureOf cX9_sureOf 3 (some .int) (fun ad => [.ref (ad this), .int a1]) sa_eI (f_X9_sureOf this a1) := sa_mk (by decide) (fun ad => Nat.le_of_ble_eq_true rfl) (fun p l e s m args below meth c D ad cA A C => b_X9_sureOf this a1 C)
theorem gd_X9_sureOf (this : Nat) (a1 : Int32) (σ : sa_St) (r : Int32) (τ : sa_St) (h : f_X9_sureOf this a1 σ = some (r, τ)) : sa_sh this = some (.inl 9) := sa_gd_ok h
theorem d_X9_mean_0 : decode cX9_mean 0 = .ok (.lconst 0, 1) := by decide +kernel
theorem d_X9_mean_1 : decode cX9_mean 1 = .ok (.lstore_n 1, 1) := by decide +kernel
theorem d_X9_mean_2 : decode cX9_mean 2 = .ok (.iconst 1, 1) := by decide +kernel
theorem d_X9_mean_3 : decode cX9_mean 3 = .ok (.istore_n 3, 1) := by decide +kernel
theorem d_X9_mean_4 : decode cX9_mean 4 = .ok (.iload_n 3, 1) := by decide +kernel
theorem d_X9_mean_5 : decode cX9_mean 5 = .ok (.bipush 100, 2) := by decide +kernel
theorem d_X9_mean_7 : decode cX9_mean 7 = .ok (.if_icmp .ge 18, 3) := by decide +kernel
theorem d_X9_mean_10 : decode cX9_mean 10 = .ok (.lload_n 1, 1) := by decide +kernel
theorem d_X9_mean_11 : decode cX9_mean 11 = .ok (.aload_n 0, 1) := by decide +kernel
theorem d_X9_mean_12 : decode cX9_mean 12 = .ok (.iload_n 3, 1) := by decide +kernel
theorem d_X9_mean_13 : decode cX9_mean 13 = .ok (.laload, 1) := by decide +kernel
theorem d_X9_mean_14 : decode cX9_mean 14 = .ok (.iload_n 3, 1) := by decide +kernel
theorem d_X9_mean_15 : decode cX9_mean 15 = .ok (.i2l, 1) := by decide +kernel
theorem d_X9_mean_16 : decode cX9_mean 16 = .ok (.lmul, 1) := by decide +kernel
theorem d_X9_mean_17 : decode cX9_mean 17 = .ok (.ladd, 1) := by decide +kernel
theorem d_X9_mean_18 : decode cX9_mean 18 = .ok (.lstore_n 1, 1) := by decide +kernel
theorem d_X9_mean_19 : decode cX9_mean 19 = .ok (.iinc 3 1, 3) := by decide +kernel
theorem d_X9_mean_22 : decode cX9_mean 22 = .ok (.goto (-18), 3) := by decide +kernel
theorem d_X9_mean_25 : decode cX9_mean 25 = .ok (.lload_n 1, 1) := by decide +kernel
theorem d_X9_mean_26 : decode cX9_mean 26 = .ok (.ldc2_w 148, 3) := by decide +kernel
theorem d_X9_mean_29 : decode cX9_mean 29 = .ok (.ldiv, 1) := by decide +kernel
theorem d_X9_mean_30 : decode cX9_mean 30 = .ok (.l2i, 1) := by decide +kernel
theorem d_X9_mean_31 : decode cX9_mean 31 = .ok (.ireturn, 1) := by decide +kernel
def f_X9_mean (a1 : Nat) : sa_M Int32 :=
sa_let (0 : Int64) fun x1 =>
sa_let (1 : Int32) fun x2 =>
sa_wh2 (fun j4 (x3 : Int64) (x4 : Int32) =>
if 100 ≤ x4 then
sa_bnd (sa_dvL x3 1000000) fun v5 =>
sa_ret ((v5.toInt32) : Int32)
else
sa_bnd (sa_ldL a1 x4) fun v6 =>
sa_let ((x3 + (v6 * (x4.toInt64))) : Int64) fun x7 =>
sa_let ((x4 + 1) : Int32) fun x8 =>
j4 x7 x8) sa_F x1 x2
set_option maxHeartbeats 1000000 in
set_option maxRecDepth 10000 in
theorem b_X9_mean {p : Program} {l : Launch} {e : Env} {s : State} {m : MethodId} {args : Array Value} {below : List Frame} {meth : Method} {c : Code} {D : va_G} {ad : Nat → Nat} {cA : FieldType → ClassId} {A : Nat → Prop} (a1 : Nat) (C : sa_C p s m args meth c cX9_mean RX9 "mean" 4 (some .int) D ad cA A) : sa_Sg p l e s m args below meth c 4 1 D ad cA A sa_eI 0 [(0, .ref (ad a1))] [] (f_X9_mean a1) := by
  unfold f_X9_mean
  refine sa_lconst (v := 0) C d_X9_mean_0 (by decide) ?_
  refine sa_topl (fun x1 => ?_)
  refine sa_lstore_n (lv' := [(1, .long x1), (0, .ref (ad a1))]) C d_X9_mean_1 rfl (by decide) rfl ?_
  refine sa_iconst (v := 1) C d_X9_mean_2 (by decide) ?_
  refine sa_topi (fun x2 => ?_)
  refine sa_istore_n (lv' := [(3, .int x2), (1, .long x1), (0, .ref (ad a1))]) C d_X9_mean_3 rfl (by decide) rfl ?_
  refine sa_sub [2, 1, 0] rfl (sa_loop2 (fun x3 x4 => [(0, .ref (ad a1)), (1, .long x3), (3, .int x4)]) (fun x3 x4 => []) (fun j4 hj4 x3 x4 => ?_) _ _ _)
  refine sa_iload_n C d_X9_mean_4 rfl 2 rfl ?_
  refine sa_bipush (v := 100) C d_X9_mean_5 (by decide) ?_
  refine sa_icmp_ge (tgt := 25) C d_X9_mean_7 (by decide) ?_ ?_
  · refine sa_lload_n C d_X9_mean_25 rfl 1 rfl ?_
    refine sa_ldc2 (v := 1000000) C d_X9_mean_26 q1100 ?_
    refine sa_ldiv C d_X9_mean_29 (fun v5 => ?_)
    refine sa_l2i C d_X9_mean_30 ?_
    exact sa_iret C d_X9_mean_31
  refine sa_lload_n C d_X9_mean_10 rfl 1 rfl ?_
  refine sa_aload_n C d_X9_mean_11 rfl 0 rfl ?_
  refine sa_iload_n C d_X9_mean_12 rfl 2 rfl ?_
  refine sa_lald C d_X9_mean_13 (fun v6 => ?_)
  refine sa_iload_n C d_X9_mean_14 rfl 2 rfl ?_
  refine sa_i2l C d_X9_mean_15 ?_
  refine sa_lmul C d_X9_mean_16 ?_
  refine sa_ladd C d_X9_mean_17 ?_
  refine sa_topl (fun x7 => ?_)
  refine sa_lstore_n (lv' := [(1, .long x7), (0, .ref (ad a1)), (3, .int x4)]) C d_X9_mean_18 rfl (by decide) rfl ?_
  refine sa_iinc C (fun zz => [(3, .int zz), (1, .long x7), (0, .ref (ad a1))]) d_X9_mean_19 2 rfl rfl (by decide) (fun _ => rfl) (fun x8 => ?_)
  refine sa_goto (tgt := 4) C d_X9_mean_22 (by decide) ?_
  exact sa_sub [2, 1, 0] rfl (hj4 _ _)
theorem k_X9_mean (a1 : Nat) : sa_Met 1 yX9_mean cX9_mean 4 (some .int) (fun ad => [.ref (ad a1)]) sa_eI (f_X9_mean a1) := sa_mk (by decide) (fun ad => Nat.le_of_ble_eq_true rfl) (fun p l e s m args below meth c D ad cA A C => b_X9_mean a1 C)
theorem d_X9_meanOf_0 : decode cX9_meanOf 0 = .ok (.aload_n 0, 1) := by decide +kernel
theorem d_X9_meanOf_1 : decode cX9_meanOf 1 = .ok (.iload_n 1, 1) := by decide +kernel
theorem d_X9_meanOf_2 : decode cX9_meanOf 2 = .ok (.invokevirtual 141, 3) := by decide +kernel
theorem d_X9_meanOf_5 : decode cX9_meanOf 5 = .ok (.aload_n 0, 1) := by decide +kernel
theorem d_X9_meanOf_6 : decode cX9_meanOf 6 = .ok (.getfield 23, 3) := by decide +kernel
theorem d_X9_meanOf_9 : decode cX9_meanOf 9 = .ok (.aload_n 0, 1) := by decide +kernel
theorem d_X9_meanOf_10 : decode cX9_meanOf 10 = .ok (.getfield 15, 3) := by decide +kernel
theorem d_X9_meanOf_13 : decode cX9_meanOf 13 = .ok (.iload_n 1, 1) := by decide +kernel
theorem d_X9_meanOf_14 : decode cX9_meanOf 14 = .ok (.iaload, 1) := by decide +kernel
theorem d_X9_meanOf_15 : decode cX9_meanOf 15 = .ok (.iconst 1, 1) := by decide +kernel
theorem d_X9_meanOf_16 : decode cX9_meanOf 16 = .ok (.isub, 1) := by decide +kernel
theorem d_X9_meanOf_17 : decode cX9_meanOf 17 = .ok (.aaload, 1) := by decide +kernel
theorem d_X9_meanOf_18 : decode cX9_meanOf 18 = .ok (.invokestatic 144, 3) := by decide +kernel
theorem d_X9_meanOf_21 : decode cX9_meanOf 21 = .ok (.ireturn, 1) := by decide +kernel
def f_X9_meanOf (this : Nat) (a1 : Int32) : sa_M Int32 :=
sa_gd 9 this (
sa_bnd (f_X9_walk this a1) fun _ =>
sa_bnd (sa_rdR 9 this 13) fun v1 =>
sa_bnd (sa_rdR 9 this 11) fun v2 =>
sa_bnd (sa_ldI .int v2 a1) fun v3 =>
sa_bnd (sa_ldR (.array .long) v1 (v3 - 1)) fun v4 =>
sa_bnd (f_X9_mean v4) fun v5 =>
sa_ret (v5 : Int32))
set_option maxHeartbeats 1000000 in
set_option maxRecDepth 10000 in
theorem b_X9_meanOf {p : Program} {l : Launch} {e : Env} {s : State} {m : MethodId} {args : Array Value} {below : List Frame} {meth : Method} {c : Code} {D : va_G} {ad : Nat → Nat} {cA : FieldType → ClassId} {A : Nat → Prop} (this : Nat) (a1 : Int32) (C : sa_C p s m args meth c cX9_meanOf RX9 "meanOf" 2 (some .int) D ad cA A) : sa_Sg p l e s m args below meth c 2 6 D ad cA A sa_eI 0 [(0, .ref (ad this)), (1, .int a1)] [] (f_X9_meanOf this a1) := by
  unfold f_X9_meanOf
  refine sa_gdI ?_
  refine sa_aload_n C d_X9_meanOf_0 rfl 0 rfl ?_
  refine sa_iload_n C d_X9_meanOf_1 rfl 1 rfl ?_
  refine sa_invV (ci := 9) C (k_X9_walk this a1) q1068 ds_X9_walk q125 rfl q1067 q32 q1065 (gd_X9_walk this a1) rfl rfl rfl (Nat.le_of_ble_eq_true rfl) (by decide) (by decide) d_X9_meanOf_2 (fun _ => ?_)
  refine sa_aload_n C d_X9_meanOf_5 rfl 0 rfl ?_
  refine sa_getR C fd_X9_23 rfl d_X9_meanOf_6 (fun v1 => ?_)
  refine sa_aload_n C d_X9_meanOf_9 rfl 0 rfl ?_
  refine sa_getR C fd_X9_15 rfl d_X9_meanOf_10 (fun v2 => ?_)
  refine sa_iload_n C d_X9_meanOf_13 rfl 1 rfl ?_
  refine sa_iald C d_X9_meanOf_14 (fun v3 => ?_)
  refine sa_iconst (v := 1) C d_X9_meanOf_15 (by decide) ?_
  refine sa_isub C d_X9_meanOf_16 ?_
  refine sa_aaldJ C d_X9_meanOf_17 (fun v4 => ?_)
  refine sa_invS C (k_X9_mean v4) q1099 ds_X9_mean q125 q1098 q1097 rfl rfl rfl (Nat.le_of_ble_eq_true rfl) (by decide) (by decide) d_X9_meanOf_18 (fun v5 => ?_)
  exact sa_iret C d_X9_meanOf_21
theorem k_X9_meanOf (this : Nat) (a1 : Int32) : sa_Met 6 yX9_meanOf cX9_meanOf 2 (some .int) (fun ad => [.ref (ad this), .int a1]) sa_eI (f_X9_meanOf this a1) := sa_mk (by decide) (fun ad => Nat.le_of_ble_eq_true rfl) (fun p l e s m args below meth c D ad cA A C => b_X9_meanOf this a1 C)
theorem gd_X9_meanOf (this : Nat) (a1 : Int32) (σ : sa_St) (r : Int32) (τ : sa_St) (h : f_X9_meanOf this a1 σ = some (r, τ)) : sa_sh this = some (.inl 9) := sa_gd_ok h
theorem d_X9_meanAmbushedAt_0 : decode cX9_meanAmbushedAt 0 = .ok (.aload_n 0, 1) := by decide +kernel
theorem d_X9_meanAmbushedAt_1 : decode cX9_meanAmbushedAt 1 = .ok (.getfield 23, 3) := by decide +kernel
theorem d_X9_meanAmbushedAt_4 : decode cX9_meanAmbushedAt 4 = .ok (.iload_n 2, 1) := by decide +kernel
theorem d_X9_meanAmbushedAt_5 : decode cX9_meanAmbushedAt 5 = .ok (.aaload, 1) := by decide +kernel
theorem d_X9_meanAmbushedAt_6 : decode cX9_meanAmbushedAt 6 = .ok (.iconst 0, 1) := by decide +kernel
theorem d_X9_meanAmbushedAt_7 : decode cX9_meanAmbushedAt 7 = .ok (.aload_n 0, 1) := by decide +kernel
theorem d_X9_meanAmbushedAt_8 : decode cX9_meanAmbushedAt 8 = .ok (.getfield 29, 3) := by decide +kernel
theorem d_X9_meanAmbushedAt_11 : decode cX9_meanAmbushedAt 11 = .ok (.iconst 0, 1) := by decide +kernel
theorem d_X9_meanAmbushedAt_12 : decode cX9_meanAmbushedAt 12 = .ok (.bipush 100, 2) := by decide +kernel
theorem d_X9_meanAmbushedAt_14 : decode cX9_meanAmbushedAt 14 = .ok (.invokestatic 94, 3) := by decide +kernel
theorem d_X9_meanAmbushedAt_17 : decode cX9_meanAmbushedAt 17 = .ok (.aload_n 0, 1) := by decide +kernel
theorem d_X9_meanAmbushedAt_18 : decode cX9_meanAmbushedAt 18 = .ok (.getfield 29, 3) := by decide +kernel
theorem d_X9_meanAmbushedAt_21 : decode cX9_meanAmbushedAt 21 = .ok (.bipush 10, 2) := by decide +kernel
theorem d_X9_meanAmbushedAt_23 : decode cX9_meanAmbushedAt 23 = .ok (.invokestatic 166, 3) := by decide +kernel
theorem d_X9_meanAmbushedAt_26 : decode cX9_meanAmbushedAt 26 = .ok (.aload_n 0, 1) := by decide +kernel
theorem d_X9_meanAmbushedAt_27 : decode cX9_meanAmbushedAt 27 = .ok (.getfield 26, 3) := by decide +kernel
theorem d_X9_meanAmbushedAt_30 : decode cX9_meanAmbushedAt 30 = .ok (.iload_n 2, 1) := by decide +kernel
theorem d_X9_meanAmbushedAt_31 : decode cX9_meanAmbushedAt 31 = .ok (.iaload, 1) := by decide +kernel
theorem d_X9_meanAmbushedAt_32 : decode cX9_meanAmbushedAt 32 = .ok (.istore_n 3, 1) := by decide +kernel
theorem d_X9_meanAmbushedAt_33 : decode cX9_meanAmbushedAt 33 = .ok (.iload_n 2, 1) := by decide +kernel
theorem d_X9_meanAmbushedAt_34 : decode cX9_meanAmbushedAt 34 = .ok (.iconst 1, 1) := by decide +kernel
theorem d_X9_meanAmbushedAt_35 : decode cX9_meanAmbushedAt 35 = .ok (.iadd, 1) := by decide +kernel
theorem d_X9_meanAmbushedAt_36 : decode cX9_meanAmbushedAt 36 = .ok (.istore 4, 2) := by decide +kernel
theorem d_X9_meanAmbushedAt_38 : decode cX9_meanAmbushedAt 38 = .ok (.iload 4, 2) := by decide +kernel
theorem d_X9_meanAmbushedAt_40 : decode cX9_meanAmbushedAt 40 = .ok (.aload_n 0, 1) := by decide +kernel
theorem d_X9_meanAmbushedAt_41 : decode cX9_meanAmbushedAt 41 = .ok (.getfield 15, 3) := by decide +kernel
theorem d_X9_meanAmbushedAt_44 : decode cX9_meanAmbushedAt 44 = .ok (.iload_n 1, 1) := by decide +kernel
theorem d_X9_meanAmbushedAt_45 : decode cX9_meanAmbushedAt 45 = .ok (.iaload, 1) := by decide +kernel
theorem d_X9_meanAmbushedAt_46 : decode cX9_meanAmbushedAt 46 = .ok (.if_icmp .ge 22, 3) := by decide +kernel
theorem d_X9_meanAmbushedAt_49 : decode cX9_meanAmbushedAt 49 = .ok (.aload_n 0, 1) := by decide +kernel
theorem d_X9_meanAmbushedAt_50 : decode cX9_meanAmbushedAt 50 = .ok (.aload_n 0, 1) := by decide +kernel
theorem d_X9_meanAmbushedAt_51 : decode cX9_meanAmbushedAt 51 = .ok (.getfield 29, 3) := by decide +kernel
theorem d_X9_meanAmbushedAt_54 : decode cX9_meanAmbushedAt 54 = .ok (.iload_n 1, 1) := by decide +kernel
theorem d_X9_meanAmbushedAt_55 : decode cX9_meanAmbushedAt 55 = .ok (.iload 4, 2) := by decide +kernel
theorem d_X9_meanAmbushedAt_57 : decode cX9_meanAmbushedAt 57 = .ok (.iload_n 3, 1) := by decide +kernel
theorem d_X9_meanAmbushedAt_58 : decode cX9_meanAmbushedAt 58 = .ok (.invokevirtual 153, 3) := by decide +kernel
theorem d_X9_meanAmbushedAt_61 : decode cX9_meanAmbushedAt 61 = .ok (.istore_n 3, 1) := by decide +kernel
theorem d_X9_meanAmbushedAt_62 : decode cX9_meanAmbushedAt 62 = .ok (.iinc 4 1, 3) := by decide +kernel
theorem d_X9_meanAmbushedAt_65 : decode cX9_meanAmbushedAt 65 = .ok (.goto (-27), 3) := by decide +kernel
theorem d_X9_meanAmbushedAt_68 : decode cX9_meanAmbushedAt 68 = .ok (.aload_n 0, 1) := by decide +kernel
theorem d_X9_meanAmbushedAt_69 : decode cX9_meanAmbushedAt 69 = .ok (.getfield 29, 3) := by decide +kernel
theorem d_X9_meanAmbushedAt_72 : decode cX9_meanAmbushedAt 72 = .ok (.invokestatic 144, 3) := by decide +kernel
theorem d_X9_meanAmbushedAt_75 : decode cX9_meanAmbushedAt 75 = .ok (.ireturn, 1) := by decide +kernel
def f_X9_meanAmbushedAt (this : Nat) (a1 : Int32) (a2 : Int32) : sa_M Int32 :=
sa_gd 9 this (
sa_bnd (sa_rdR 9 this 13) fun v1 =>
sa_bnd (sa_ldR (.array .long) v1 a2) fun v2 =>
sa_bnd (sa_rdR 9 this 16) fun v3 =>
sa_bnd (sa_cpL v2 0 v3 0 100) fun _ =>
sa_bnd (sa_rdR 9 this 16) fun v4 =>
sa_bnd (f_X9_pour v4 10) fun _ =>
sa_bnd (sa_rdR 9 this 14) fun v5 =>
sa_bnd (sa_ldI .int v5 a2) fun v6 =>
sa_let ((a2 + 1) : Int32) fun x7 =>
sa_wh2 (fun j38 (x8 : Int32) (x9 : Int32) =>
sa_bnd (sa_rdR 9 this 11) fun v10 =>
sa_bnd (sa_ldI .int v10 a1) fun v11 =>
if v11 ≤ x9 then
sa_bnd (sa_rdR 9 this 16) fun v12 =>
sa_bnd (f_X9_mean v12) fun v13 =>
sa_ret (v13 : Int32)
else
sa_bnd (sa_rdR 9 this 16) fun v14 =>
sa_bnd (f_X9_walkWay this v14 a1 x9 x8) fun v15 =>
sa_let ((x9 + 1) : Int32) fun x16 =>
j38 v15 x16) sa_F v6 x7)
set_option maxHeartbeats 1000000 in
set_option maxRecDepth 10000 in
theorem b_X9_meanAmbushedAt {p : Program} {l : Launch} {e : Env} {s : State} {m : MethodId} {args : Array Value} {below : List Frame} {meth : Method} {c : Code} {D : va_G} {ad : Nat → Nat} {cA : FieldType → ClassId} {A : Nat → Prop} (this : Nat) (a1 : Int32) (a2 : Int32) (C : sa_C p s m args meth c cX9_meanAmbushedAt RX9 "meanAmbushedAt" 5 (some .int) D ad cA A) : sa_Sg p l e s m args below meth c 5 5 D ad cA A sa_eI 0 [(0, .ref (ad this)), (1, .int a1), (2, .int a2)] [] (f_X9_meanAmbushedAt this a1 a2) := by
  unfold f_X9_meanAmbushedAt
  refine sa_gdI ?_
  refine sa_aload_n C d_X9_meanAmbushedAt_0 rfl 0 rfl ?_
  refine sa_getR C fd_X9_23 rfl d_X9_meanAmbushedAt_1 (fun v1 => ?_)
  refine sa_iload_n C d_X9_meanAmbushedAt_4 rfl 2 rfl ?_
  refine sa_aaldJ C d_X9_meanAmbushedAt_5 (fun v2 => ?_)
  refine sa_iconst (v := 0) C d_X9_meanAmbushedAt_6 (by decide) ?_
  refine sa_aload_n C d_X9_meanAmbushedAt_7 rfl 0 rfl ?_
  refine sa_getR C fd_X9_29 rfl d_X9_meanAmbushedAt_8 (fun v3 => ?_)
  refine sa_iconst (v := 0) C d_X9_meanAmbushedAt_11 (by decide) ?_
  refine sa_bipush (v := 100) C d_X9_meanAmbushedAt_12 (by decide) ?_
  refine sa_cpyL C q1030 q594 q593 q134 (Nat.le_of_ble_eq_true rfl) (by decide) d_X9_meanAmbushedAt_14 ?_
  refine sa_aload_n C d_X9_meanAmbushedAt_17 rfl 0 rfl ?_
  refine sa_getR C fd_X9_29 rfl d_X9_meanAmbushedAt_18 (fun v4 => ?_)
  refine sa_bipush (v := 10) C d_X9_meanAmbushedAt_21 (by decide) ?_
  refine sa_invS C (k_X9_pour v4 10) q1091 ds_X9_pour q125 q1090 q1089 rfl rfl rfl (Nat.le_of_ble_eq_true rfl) (by decide) (by decide) d_X9_meanAmbushedAt_23 (fun _ => ?_)
  refine sa_aload_n C d_X9_meanAmbushedAt_26 rfl 0 rfl ?_
  refine sa_getR C fd_X9_26 rfl d_X9_meanAmbushedAt_27 (fun v5 => ?_)
  refine sa_iload_n C d_X9_meanAmbushedAt_30 rfl 2 rfl ?_
  refine sa_iald C d_X9_meanAmbushedAt_31 (fun v6 => ?_)
  refine sa_istore_n (lv' := [(3, .int v6), (0, .ref (ad this)), (1, .int a1), (2, .int a2)]) C d_X9_meanAmbushedAt_32 rfl (by decide) rfl ?_
  refine sa_iload_n C d_X9_meanAmbushedAt_33 rfl 3 rfl ?_
  refine sa_iconst (v := 1) C d_X9_meanAmbushedAt_34 (by decide) ?_
  refine sa_iadd C d_X9_meanAmbushedAt_35 ?_
  refine sa_topi (fun x7 => ?_)
  refine sa_istore (lv' := [(4, .int x7), (3, .int v6), (0, .ref (ad this)), (1, .int a1), (2, .int a2)]) C d_X9_meanAmbushedAt_36 (by decide) rfl ?_
  refine sa_sub [2, 3, 1, 0] rfl (sa_loop2 (fun x8 x9 => [(0, .ref (ad this)), (1, .int a1), (3, .int x8), (4, .int x9)]) (fun x8 x9 => []) (fun j38 hj38 x8 x9 => ?_) _ _ _)
  refine sa_iload C d_X9_meanAmbushedAt_38 3 rfl ?_
  refine sa_aload_n C d_X9_meanAmbushedAt_40 rfl 0 rfl ?_
  refine sa_getR C fd_X9_15 rfl d_X9_meanAmbushedAt_41 (fun v10 => ?_)
  refine sa_iload_n C d_X9_meanAmbushedAt_44 rfl 1 rfl ?_
  refine sa_iald C d_X9_meanAmbushedAt_45 (fun v11 => ?_)
  refine sa_icmp_ge (tgt := 68) C d_X9_meanAmbushedAt_46 (by decide) ?_ ?_
  · refine sa_aload_n C d_X9_meanAmbushedAt_68 rfl 0 rfl ?_
    refine sa_getR C fd_X9_29 rfl d_X9_meanAmbushedAt_69 (fun v12 => ?_)
    refine sa_invS C (k_X9_mean v12) q1099 ds_X9_mean q125 q1098 q1097 rfl rfl rfl (Nat.le_of_ble_eq_true rfl) (by decide) (by decide) d_X9_meanAmbushedAt_72 (fun v13 => ?_)
    exact sa_iret C d_X9_meanAmbushedAt_75
  refine sa_aload_n C d_X9_meanAmbushedAt_49 rfl 0 rfl ?_
  refine sa_aload_n C d_X9_meanAmbushedAt_50 rfl 0 rfl ?_
  refine sa_getR C fd_X9_29 rfl d_X9_meanAmbushedAt_51 (fun v14 => ?_)
  refine sa_iload_n C d_X9_meanAmbushedAt_54 rfl 1 rfl ?_
  refine sa_iload C d_X9_meanAmbushedAt_55 3 rfl ?_
  refine sa_iload_n C d_X9_meanAmbushedAt_57 rfl 2 rfl ?_
  refine sa_invV (ci := 9) C (k_X9_walkWay this v14 a1 x9 x8) q1077 ds_X9_walkWay q125 rfl q1076 q34 q1074 (gd_X9_walkWay this v14 a1 x9 x8) rfl rfl rfl (Nat.le_of_ble_eq_true rfl) (by decide) (by decide) d_X9_meanAmbushedAt_58 (fun v15 => ?_)
  refine sa_istore_n (lv' := [(3, .int v15), (0, .ref (ad this)), (1, .int a1), (4, .int x9)]) C d_X9_meanAmbushedAt_61 rfl (by decide) rfl ?_
  refine sa_iinc C (fun zz => [(4, .int zz), (3, .int v15), (0, .ref (ad this)), (1, .int a1)]) d_X9_meanAmbushedAt_62 3 rfl rfl (by decide) (fun _ => rfl) (fun x16 => ?_)
  refine sa_goto (tgt := 38) C d_X9_meanAmbushedAt_65 (by decide) ?_
  exact sa_sub [2, 3, 1, 0] rfl (hj38 _ _)
theorem k_X9_meanAmbushedAt (this : Nat) (a1 : Int32) (a2 : Int32) : sa_Met 5 yX9_meanAmbushedAt cX9_meanAmbushedAt 5 (some .int) (fun ad => [.ref (ad this), .int a1, .int a2]) sa_eI (f_X9_meanAmbushedAt this a1 a2) := sa_mk (by decide) (fun ad => Nat.le_of_ble_eq_true rfl) (fun p l e s m args below meth c D ad cA A C => b_X9_meanAmbushedAt this a1 a2 C)
theorem gd_X9_meanAmbushedAt (this : Nat) (a1 : Int32) (a2 : Int32) (σ : sa_St) (r : Int32) (τ : sa_St) (h : f_X9_meanAmbushedAt this a1 a2 σ = some (r, τ)) : sa_sh this = some (.inl 9) := sa_gd_ok h
theorem d_X9_leastMeanOf_0 : decode cX9_leastMeanOf 0 = .ok (.aload_n 0, 1) := by decide +kernel
theorem d_X9_leastMeanOf_1 : decode cX9_leastMeanOf 1 = .ok (.iload_n 1, 1) := by decide +kernel
theorem d_X9_leastMeanOf_2 : decode cX9_leastMeanOf 2 = .ok (.invokevirtual 141, 3) := by decide +kernel
theorem d_X9_leastMeanOf_5 : decode cX9_leastMeanOf 5 = .ok (.aload_n 0, 1) := by decide +kernel
theorem d_X9_leastMeanOf_6 : decode cX9_leastMeanOf 6 = .ok (.getfield 23, 3) := by decide +kernel
theorem d_X9_leastMeanOf_9 : decode cX9_leastMeanOf 9 = .ok (.aload_n 0, 1) := by decide +kernel
theorem d_X9_leastMeanOf_10 : decode cX9_leastMeanOf 10 = .ok (.getfield 15, 3) := by decide +kernel
theorem d_X9_leastMeanOf_13 : decode cX9_leastMeanOf 13 = .ok (.iload_n 1, 1) := by decide +kernel
theorem d_X9_leastMeanOf_14 : decode cX9_leastMeanOf 14 = .ok (.iaload, 1) := by decide +kernel
theorem d_X9_leastMeanOf_15 : decode cX9_leastMeanOf 15 = .ok (.iconst 1, 1) := by decide +kernel
theorem d_X9_leastMeanOf_16 : decode cX9_leastMeanOf 16 = .ok (.isub, 1) := by decide +kernel
theorem d_X9_leastMeanOf_17 : decode cX9_leastMeanOf 17 = .ok (.aaload, 1) := by decide +kernel
theorem d_X9_leastMeanOf_18 : decode cX9_leastMeanOf 18 = .ok (.invokestatic 144, 3) := by decide +kernel
theorem d_X9_leastMeanOf_21 : decode cX9_leastMeanOf 21 = .ok (.istore_n 2, 1) := by decide +kernel
theorem d_X9_leastMeanOf_22 : decode cX9_leastMeanOf 22 = .ok (.iconst 1, 1) := by decide +kernel
theorem d_X9_leastMeanOf_23 : decode cX9_leastMeanOf 23 = .ok (.istore_n 3, 1) := by decide +kernel
theorem d_X9_leastMeanOf_24 : decode cX9_leastMeanOf 24 = .ok (.iload_n 3, 1) := by decide +kernel
theorem d_X9_leastMeanOf_25 : decode cX9_leastMeanOf 25 = .ok (.aload_n 0, 1) := by decide +kernel
theorem d_X9_leastMeanOf_26 : decode cX9_leastMeanOf 26 = .ok (.getfield 15, 3) := by decide +kernel
theorem d_X9_leastMeanOf_29 : decode cX9_leastMeanOf 29 = .ok (.iload_n 1, 1) := by decide +kernel
theorem d_X9_leastMeanOf_30 : decode cX9_leastMeanOf 30 = .ok (.iaload, 1) := by decide +kernel
theorem d_X9_leastMeanOf_31 : decode cX9_leastMeanOf 31 = .ok (.if_icmp .ge 20, 3) := by decide +kernel
theorem d_X9_leastMeanOf_34 : decode cX9_leastMeanOf 34 = .ok (.iload_n 2, 1) := by decide +kernel
theorem d_X9_leastMeanOf_35 : decode cX9_leastMeanOf 35 = .ok (.aload_n 0, 1) := by decide +kernel
theorem d_X9_leastMeanOf_36 : decode cX9_leastMeanOf 36 = .ok (.iload_n 1, 1) := by decide +kernel
theorem d_X9_leastMeanOf_37 : decode cX9_leastMeanOf 37 = .ok (.iload_n 3, 1) := by decide +kernel
theorem d_X9_leastMeanOf_38 : decode cX9_leastMeanOf 38 = .ok (.invokevirtual 187, 3) := by decide +kernel
theorem d_X9_leastMeanOf_41 : decode cX9_leastMeanOf 41 = .ok (.invokestatic 157, 3) := by decide +kernel
theorem d_X9_leastMeanOf_44 : decode cX9_leastMeanOf 44 = .ok (.istore_n 2, 1) := by decide +kernel
theorem d_X9_leastMeanOf_45 : decode cX9_leastMeanOf 45 = .ok (.iinc 3 1, 3) := by decide +kernel
theorem d_X9_leastMeanOf_48 : decode cX9_leastMeanOf 48 = .ok (.goto (-24), 3) := by decide +kernel
theorem d_X9_leastMeanOf_51 : decode cX9_leastMeanOf 51 = .ok (.iload_n 2, 1) := by decide +kernel
theorem d_X9_leastMeanOf_52 : decode cX9_leastMeanOf 52 = .ok (.ireturn, 1) := by decide +kernel
def f_X9_leastMeanOf (this : Nat) (a1 : Int32) : sa_M Int32 :=
sa_gd 9 this (
sa_bnd (f_X9_walk this a1) fun _ =>
sa_bnd (sa_rdR 9 this 13) fun v1 =>
sa_bnd (sa_rdR 9 this 11) fun v2 =>
sa_bnd (sa_ldI .int v2 a1) fun v3 =>
sa_bnd (sa_ldR (.array .long) v1 (v3 - 1)) fun v4 =>
sa_bnd (f_X9_mean v4) fun v5 =>
sa_let (1 : Int32) fun x6 =>
sa_wh2 (fun j24 (x7 : Int32) (x8 : Int32) =>
sa_bnd (sa_rdR 9 this 11) fun v9 =>
sa_bnd (sa_ldI .int v9 a1) fun v10 =>
if v10 ≤ x8 then
sa_ret (x7 : Int32)
else
sa_bnd (f_X9_meanAmbushedAt this a1 x8) fun v11 =>
sa_let ((sa_min x7 v11) : Int32) fun x12 =>
sa_let ((x8 + 1) : Int32) fun x13 =>
j24 x12 x13) sa_F v5 x6)
set_option maxHeartbeats 1000000 in
set_option maxRecDepth 10000 in
theorem b_X9_leastMeanOf {p : Program} {l : Launch} {e : Env} {s : State} {m : MethodId} {args : Array Value} {below : List Frame} {meth : Method} {c : Code} {D : va_G} {ad : Nat → Nat} {cA : FieldType → ClassId} {A : Nat → Prop} (this : Nat) (a1 : Int32) (C : sa_C p s m args meth c cX9_leastMeanOf RX9 "leastMeanOf" 4 (some .int) D ad cA A) : sa_Sg p l e s m args below meth c 4 6 D ad cA A sa_eI 0 [(0, .ref (ad this)), (1, .int a1)] [] (f_X9_leastMeanOf this a1) := by
  unfold f_X9_leastMeanOf
  refine sa_gdI ?_
  refine sa_aload_n C d_X9_leastMeanOf_0 rfl 0 rfl ?_
  refine sa_iload_n C d_X9_leastMeanOf_1 rfl 1 rfl ?_
  refine sa_invV (ci := 9) C (k_X9_walk this a1) q1068 ds_X9_walk q125 rfl q1067 q32 q1065 (gd_X9_walk this a1) rfl rfl rfl (Nat.le_of_ble_eq_true rfl) (by decide) (by decide) d_X9_leastMeanOf_2 (fun _ => ?_)
  refine sa_aload_n C d_X9_leastMeanOf_5 rfl 0 rfl ?_
  refine sa_getR C fd_X9_23 rfl d_X9_leastMeanOf_6 (fun v1 => ?_)
  refine sa_aload_n C d_X9_leastMeanOf_9 rfl 0 rfl ?_
  refine sa_getR C fd_X9_15 rfl d_X9_leastMeanOf_10 (fun v2 => ?_)
  refine sa_iload_n C d_X9_leastMeanOf_13 rfl 1 rfl ?_
  refine sa_iald C d_X9_leastMeanOf_14 (fun v3 => ?_)
  refine sa_iconst (v := 1) C d_X9_leastMeanOf_15 (by decide) ?_
  refine sa_isub C d_X9_leastMeanOf_16 ?_
  refine sa_aaldJ C d_X9_leastMeanOf_17 (fun v4 => ?_)
  refine sa_invS C (k_X9_mean v4) q1099 ds_X9_mean q125 q1098 q1097 rfl rfl rfl (Nat.le_of_ble_eq_true rfl) (by decide) (by decide) d_X9_leastMeanOf_18 (fun v5 => ?_)
  refine sa_istore_n (lv' := [(2, .int v5), (0, .ref (ad this)), (1, .int a1)]) C d_X9_leastMeanOf_21 rfl (by decide) rfl ?_
  refine sa_iconst (v := 1) C d_X9_leastMeanOf_22 (by decide) ?_
  refine sa_topi (fun x6 => ?_)
  refine sa_istore_n (lv' := [(3, .int x6), (2, .int v5), (0, .ref (ad this)), (1, .int a1)]) C d_X9_leastMeanOf_23 rfl (by decide) rfl ?_
  refine sa_sub [2, 3, 1, 0] rfl (sa_loop2 (fun x7 x8 => [(0, .ref (ad this)), (1, .int a1), (2, .int x7), (3, .int x8)]) (fun x7 x8 => []) (fun j24 hj24 x7 x8 => ?_) _ _ _)
  refine sa_iload_n C d_X9_leastMeanOf_24 rfl 3 rfl ?_
  refine sa_aload_n C d_X9_leastMeanOf_25 rfl 0 rfl ?_
  refine sa_getR C fd_X9_15 rfl d_X9_leastMeanOf_26 (fun v9 => ?_)
  refine sa_iload_n C d_X9_leastMeanOf_29 rfl 1 rfl ?_
  refine sa_iald C d_X9_leastMeanOf_30 (fun v10 => ?_)
  refine sa_icmp_ge (tgt := 51) C d_X9_leastMeanOf_31 (by decide) ?_ ?_
  · refine sa_iload_n C d_X9_leastMeanOf_51 rfl 2 rfl ?_
    exact sa_iret C d_X9_leastMeanOf_52
  refine sa_iload_n C d_X9_leastMeanOf_34 rfl 2 rfl ?_
  refine sa_aload_n C d_X9_leastMeanOf_35 rfl 0 rfl ?_
  refine sa_iload_n C d_X9_leastMeanOf_36 rfl 1 rfl ?_
  refine sa_iload_n C d_X9_leastMeanOf_37 rfl 3 rfl ?_
  refine sa_invV (ci := 9) C (k_X9_meanAmbushedAt this a1 x8) q1108 ds_X9_meanAmbushedAt q125 rfl q1107 q36 q1105 (gd_X9_meanAmbushedAt this a1 x8) rfl rfl rfl (Nat.le_of_ble_eq_true rfl) (by decide) (by decide) d_X9_leastMeanOf_38 (fun v11 => ?_)
  refine sa_mmin C q1073 (Nat.le_of_ble_eq_true rfl) (by decide) q530 q130 q531 d_X9_leastMeanOf_41 ?_
  refine sa_topi (fun x12 => ?_)
  refine sa_istore_n (lv' := [(2, .int x12), (0, .ref (ad this)), (1, .int a1), (3, .int x8)]) C d_X9_leastMeanOf_44 rfl (by decide) rfl ?_
  refine sa_iinc C (fun zz => [(3, .int zz), (2, .int x12), (0, .ref (ad this)), (1, .int a1)]) d_X9_leastMeanOf_45 3 rfl rfl (by decide) (fun _ => rfl) (fun x13 => ?_)
  refine sa_goto (tgt := 24) C d_X9_leastMeanOf_48 (by decide) ?_
  exact sa_sub [2, 3, 1, 0] rfl (hj24 _ _)
theorem k_X9_leastMeanOf (this : Nat) (a1 : Int32) : sa_Met 6 yX9_leastMeanOf cX9_leastMeanOf 4 (some .int) (fun ad => [.ref (ad this), .int a1]) sa_eI (f_X9_leastMeanOf this a1) := sa_mk (by decide) (fun ad => Nat.le_of_ble_eq_true rfl) (fun p l e s m args below meth c D ad cA A C => b_X9_leastMeanOf this a1 C)
theorem gd_X9_leastMeanOf (this : Nat) (a1 : Int32) (σ : sa_St) (r : Int32) (τ : sa_St) (h : f_X9_leastMeanOf this a1 σ = some (r, τ)) : sa_sh this = some (.inl 9) := sa_gd_ok h
theorem d_X9_bestRow_0 : decode cX9_bestRow 0 = .ok (.iconst 0, 1) := by decide +kernel
theorem d_X9_bestRow_1 : decode cX9_bestRow 1 = .ok (.istore_n 2, 1) := by decide +kernel
theorem d_X9_bestRow_2 : decode cX9_bestRow 2 = .ok (.iconst 0, 1) := by decide +kernel
theorem d_X9_bestRow_3 : decode cX9_bestRow 3 = .ok (.istore_n 3, 1) := by decide +kernel
theorem d_X9_bestRow_4 : decode cX9_bestRow 4 = .ok (.iconst 0, 1) := by decide +kernel
theorem d_X9_bestRow_5 : decode cX9_bestRow 5 = .ok (.istore 4, 2) := by decide +kernel
theorem d_X9_bestRow_7 : decode cX9_bestRow 7 = .ok (.iload 4, 2) := by decide +kernel
theorem d_X9_bestRow_9 : decode cX9_bestRow 9 = .ok (.aload_n 0, 1) := by decide +kernel
theorem d_X9_bestRow_10 : decode cX9_bestRow 10 = .ok (.getfield 41, 3) := by decide +kernel
theorem d_X9_bestRow_13 : decode cX9_bestRow 13 = .ok (.if_icmp .ge 76, 3) := by decide +kernel
theorem d_X9_bestRow_16 : decode cX9_bestRow 16 = .ok (.iload_n 1, 1) := by decide +kernel
theorem d_X9_bestRow_17 : decode cX9_bestRow 17 = .ok (.iconst 2, 1) := by decide +kernel
theorem d_X9_bestRow_18 : decode cX9_bestRow 18 = .ok (.if_icmp .ne 13, 3) := by decide +kernel
theorem d_X9_bestRow_21 : decode cX9_bestRow 21 = .ok (.aload_n 0, 1) := by decide +kernel
theorem d_X9_bestRow_22 : decode cX9_bestRow 22 = .ok (.iload 4, 2) := by decide +kernel
theorem d_X9_bestRow_24 : decode cX9_bestRow 24 = .ok (.invokevirtual 128, 3) := by decide +kernel
theorem d_X9_bestRow_27 : decode cX9_bestRow 27 = .ok (.ineg, 1) := by decide +kernel
theorem d_X9_bestRow_28 : decode cX9_bestRow 28 = .ok (.goto 36, 3) := by decide +kernel
theorem d_X9_bestRow_31 : decode cX9_bestRow 31 = .ok (.iload_n 1, 1) := by decide +kernel
theorem d_X9_bestRow_32 : decode cX9_bestRow 32 = .ok (.iconst 1, 1) := by decide +kernel
theorem d_X9_bestRow_33 : decode cX9_bestRow 33 = .ok (.if_icmp .ne 12, 3) := by decide +kernel
theorem d_X9_bestRow_36 : decode cX9_bestRow 36 = .ok (.aload_n 0, 1) := by decide +kernel
theorem d_X9_bestRow_37 : decode cX9_bestRow 37 = .ok (.iload 4, 2) := by decide +kernel
theorem d_X9_bestRow_39 : decode cX9_bestRow 39 = .ok (.invokevirtual 132, 3) := by decide +kernel
theorem d_X9_bestRow_42 : decode cX9_bestRow 42 = .ok (.goto 22, 3) := by decide +kernel
theorem d_X9_bestRow_45 : decode cX9_bestRow 45 = .ok (.iload_n 1, 1) := by decide +kernel
theorem d_X9_bestRow_46 : decode cX9_bestRow 46 = .ok (.ifCond .ne 12, 3) := by decide +kernel
theorem d_X9_bestRow_49 : decode cX9_bestRow 49 = .ok (.aload_n 0, 1) := by decide +kernel
theorem d_X9_bestRow_50 : decode cX9_bestRow 50 = .ok (.iload 4, 2) := by decide +kernel
theorem d_X9_bestRow_52 : decode cX9_bestRow 52 = .ok (.invokevirtual 135, 3) := by decide +kernel
theorem d_X9_bestRow_55 : decode cX9_bestRow 55 = .ok (.goto 9, 3) := by decide +kernel
theorem d_X9_bestRow_58 : decode cX9_bestRow 58 = .ok (.aload_n 0, 1) := by decide +kernel
theorem d_X9_bestRow_59 : decode cX9_bestRow 59 = .ok (.iload 4, 2) := by decide +kernel
theorem d_X9_bestRow_61 : decode cX9_bestRow 61 = .ok (.invokevirtual 138, 3) := by decide +kernel
theorem d_X9_bestRow_64 : decode cX9_bestRow 64 = .ok (.istore 5, 2) := by decide +kernel
theorem d_X9_bestRow_66 : decode cX9_bestRow 66 = .ok (.iload 4, 2) := by decide +kernel
theorem d_X9_bestRow_68 : decode cX9_bestRow 68 = .ok (.ifCond .eq 9, 3) := by decide +kernel
theorem d_X9_bestRow_71 : decode cX9_bestRow 71 = .ok (.iload 5, 2) := by decide +kernel
theorem d_X9_bestRow_73 : decode cX9_bestRow 73 = .ok (.iload_n 3, 1) := by decide +kernel
theorem d_X9_bestRow_74 : decode cX9_bestRow 74 = .ok (.if_icmp .le 9, 3) := by decide +kernel
theorem d_X9_bestRow_77 : decode cX9_bestRow 77 = .ok (.iload 4, 2) := by decide +kernel
theorem d_X9_bestRow_79 : decode cX9_bestRow 79 = .ok (.istore_n 2, 1) := by decide +kernel
theorem d_X9_bestRow_80 : decode cX9_bestRow 80 = .ok (.iload 5, 2) := by decide +kernel
theorem d_X9_bestRow_82 : decode cX9_bestRow 82 = .ok (.istore_n 3, 1) := by decide +kernel
theorem d_X9_bestRow_83 : decode cX9_bestRow 83 = .ok (.iinc 4 1, 3) := by decide +kernel
theorem d_X9_bestRow_86 : decode cX9_bestRow 86 = .ok (.goto (-79), 3) := by decide +kernel
theorem d_X9_bestRow_89 : decode cX9_bestRow 89 = .ok (.iload_n 2, 1) := by decide +kernel
theorem d_X9_bestRow_90 : decode cX9_bestRow 90 = .ok (.ireturn, 1) := by decide +kernel
def f_X9_bestRow (this : Nat) (a1 : Int32) : sa_M Int32 :=
sa_gd 9 this (
sa_let (0 : Int32) fun x1 =>
sa_let (0 : Int32) fun x2 =>
sa_let (0 : Int32) fun x3 =>
sa_wh3 (fun j7 (x4 : Int32) (x5 : Int32) (x6 : Int32) =>
sa_bnd (sa_rdI 9 this 3) fun v7 =>
if v7 ≤ x6 then
sa_ret (x4 : Int32)
else
sa_jn1 (fun (y8 : Int32) =>
sa_jn2 (fun (x9 : Int32) (x10 : Int32) =>
sa_let ((x6 + 1) : Int32) fun x11 =>
j7 x9 x10 x11) fun j83 =>
sa_jn0 (j83 x6 y8) fun j77 =>
if x6 = 0 then
j77
else
if y8 ≤ x5 then
j83 x4 x5
else
j77) fun j64 =>
if ¬ a1 = 2 then
if ¬ a1 = 1 then
if ¬ a1 = 0 then
sa_bnd (f_X9_leastMeanOf this x6) fun v12 =>
j64 v12
else
sa_bnd (f_X9_meanOf this x6) fun v13 =>
j64 v13
else
sa_bnd (f_X9_sureOf this x6) fun v14 =>
j64 v14
else
sa_bnd (f_X9_hoursOf this x6) fun v15 =>
j64 (-v15)) sa_F x1 x2 x3)
set_option maxHeartbeats 1000000 in
set_option maxRecDepth 10000 in
theorem b_X9_bestRow {p : Program} {l : Launch} {e : Env} {s : State} {m : MethodId} {args : Array Value} {below : List Frame} {meth : Method} {c : Code} {D : va_G} {ad : Nat → Nat} {cA : FieldType → ClassId} {A : Nat → Prop} (this : Nat) (a1 : Int32) (C : sa_C p s m args meth c cX9_bestRow RX9 "bestRow" 6 (some .int) D ad cA A) : sa_Sg p l e s m args below meth c 6 7 D ad cA A sa_eI 0 [(0, .ref (ad this)), (1, .int a1)] [] (f_X9_bestRow this a1) := by
  unfold f_X9_bestRow
  refine sa_gdI ?_
  refine sa_iconst (v := 0) C d_X9_bestRow_0 (by decide) ?_
  refine sa_topi (fun x1 => ?_)
  refine sa_istore_n (lv' := [(2, .int x1), (0, .ref (ad this)), (1, .int a1)]) C d_X9_bestRow_1 rfl (by decide) rfl ?_
  refine sa_iconst (v := 0) C d_X9_bestRow_2 (by decide) ?_
  refine sa_topi (fun x2 => ?_)
  refine sa_istore_n (lv' := [(3, .int x2), (2, .int x1), (0, .ref (ad this)), (1, .int a1)]) C d_X9_bestRow_3 rfl (by decide) rfl ?_
  refine sa_iconst (v := 0) C d_X9_bestRow_4 (by decide) ?_
  refine sa_topi (fun x3 => ?_)
  refine sa_istore (lv' := [(4, .int x3), (3, .int x2), (2, .int x1), (0, .ref (ad this)), (1, .int a1)]) C d_X9_bestRow_5 (by decide) rfl ?_
  refine sa_sub [3, 4, 2, 1, 0] rfl (sa_loop3 (fun x4 x5 x6 => [(0, .ref (ad this)), (1, .int a1), (2, .int x4), (3, .int x5), (4, .int x6)]) (fun x4 x5 x6 => []) (fun j7 hj7 x4 x5 x6 => ?_) _ _ _ _)
  refine sa_iload C d_X9_bestRow_7 4 rfl ?_
  refine sa_aload_n C d_X9_bestRow_9 rfl 0 rfl ?_
  refine sa_getI C fd_X9_41 d_X9_bestRow_10 (fun v7 => ?_)
  refine sa_icmp_ge (tgt := 89) C d_X9_bestRow_13 (by decide) ?_ ?_
  · refine sa_iload_n C d_X9_bestRow_89 rfl 2 rfl ?_
    exact sa_iret C d_X9_bestRow_90
  refine sa_iload_n C d_X9_bestRow_16 rfl 1 rfl ?_
  refine sa_iconst (v := 2) C d_X9_bestRow_17 (by decide) ?_
  refine sa_join1 64 (fun y8 => [(0, .ref (ad this)), (1, .int a1), (2, .int x4), (3, .int x5), (4, .int x6)]) (fun y8 => [.int y8]) (fun y8 => ?_) (fun j64 hj64 => ?_)
  · refine sa_istore (lv' := [(5, .int y8), (0, .ref (ad this)), (1, .int a1), (2, .int x4), (3, .int x5), (4, .int x6)]) C d_X9_bestRow_64 (by decide) rfl ?_
    refine sa_iload C d_X9_bestRow_66 5 rfl ?_
    refine sa_join2 83 (fun x9 x10 => [(0, .ref (ad this)), (1, .int a1), (2, .int x9), (3, .int x10), (4, .int x6)]) (fun x9 x10 => []) (fun x9 x10 => ?_) (fun j83 hj83 => ?_)
    · refine sa_iinc C (fun zz => [(4, .int zz), (0, .ref (ad this)), (1, .int a1), (2, .int x9), (3, .int x10)]) d_X9_bestRow_83 4 rfl rfl (by decide) (fun _ => rfl) (fun x11 => ?_)
      refine sa_goto (tgt := 7) C d_X9_bestRow_86 (by decide) ?_
      exact sa_sub [1, 2, 3, 4, 0] rfl (hj7 _ _ _)
    refine sa_join0 77 ([(0, .ref (ad this)), (1, .int a1), (4, .int x6), (5, .int y8)]) ([]) (?_) (fun j77 hj77 => ?_)
    · refine sa_iload C d_X9_bestRow_77 2 rfl ?_
      refine sa_istore_n (lv' := [(2, .int x6), (0, .ref (ad this)), (1, .int a1), (4, .int x6), (5, .int y8)]) C d_X9_bestRow_79 rfl (by decide) rfl ?_
      refine sa_iload C d_X9_bestRow_80 4 rfl ?_
      refine sa_istore_n (lv' := [(3, .int y8), (2, .int x6), (0, .ref (ad this)), (1, .int a1), (4, .int x6), (5, .int y8)]) C d_X9_bestRow_82 rfl (by decide) rfl ?_
      exact sa_sub [2, 3, 1, 0, 4] rfl (hj83 _ _)
    refine sa_if_eq (tgt := 77) C d_X9_bestRow_68 (by decide) ?_ ?_
    · exact sa_sub [1, 2, 5, 0] rfl (hj77)
    refine sa_iload C d_X9_bestRow_71 0 rfl ?_
    refine sa_iload_n C d_X9_bestRow_73 rfl 4 rfl ?_
    refine sa_icmp_le (tgt := 83) C d_X9_bestRow_74 (by decide) ?_ ?_
    · exact sa_sub [1, 2, 3, 4, 5] rfl (hj83 _ _)
    exact sa_sub [1, 2, 5, 0] rfl (hj77)
  refine sa_icmp_ne (tgt := 31) C d_X9_bestRow_18 (by decide) ?_ ?_
  · refine sa_iload_n C d_X9_bestRow_31 rfl 1 rfl ?_
    refine sa_iconst (v := 1) C d_X9_bestRow_32 (by decide) ?_
    refine sa_icmp_ne (tgt := 45) C d_X9_bestRow_33 (by decide) ?_ ?_
    · refine sa_iload_n C d_X9_bestRow_45 rfl 1 rfl ?_
      refine sa_if_ne (tgt := 58) C d_X9_bestRow_46 (by decide) ?_ ?_
      · refine sa_aload_n C d_X9_bestRow_58 rfl 0 rfl ?_
        refine sa_iload C d_X9_bestRow_59 4 rfl ?_
        refine sa_invV (ci := 9) C (k_X9_leastMeanOf this x6) q1104 ds_X9_leastMeanOf q125 rfl q1102 q1103 q1101 (gd_X9_leastMeanOf this x6) rfl rfl rfl (Nat.le_of_ble_eq_true rfl) (by decide) (by decide) d_X9_bestRow_61 (fun v12 => ?_)
        exact sa_sub [0, 1, 2, 3, 4] rfl (hj64 _)
      refine sa_aload_n C d_X9_bestRow_49 rfl 0 rfl ?_
      refine sa_iload C d_X9_bestRow_50 4 rfl ?_
      refine sa_invV (ci := 9) C (k_X9_meanOf this x6) q1096 ds_X9_meanOf q125 rfl q1094 q1095 q1093 (gd_X9_meanOf this x6) rfl rfl rfl (Nat.le_of_ble_eq_true rfl) (by decide) (by decide) d_X9_bestRow_52 (fun v13 => ?_)
      refine sa_goto (tgt := 64) C d_X9_bestRow_55 (by decide) ?_
      exact sa_sub [0, 1, 2, 3, 4] rfl (hj64 _)
    refine sa_aload_n C d_X9_bestRow_36 rfl 0 rfl ?_
    refine sa_iload C d_X9_bestRow_37 4 rfl ?_
    refine sa_invV (ci := 9) C (k_X9_sureOf this x6) q1064 ds_X9_sureOf q125 rfl q1062 q1063 q1061 (gd_X9_sureOf this x6) rfl rfl rfl (Nat.le_of_ble_eq_true rfl) (by decide) (by decide) d_X9_bestRow_39 (fun v14 => ?_)
    refine sa_goto (tgt := 64) C d_X9_bestRow_42 (by decide) ?_
    exact sa_sub [0, 1, 2, 3, 4] rfl (hj64 _)
  refine sa_aload_n C d_X9_bestRow_21 rfl 0 rfl ?_
  refine sa_iload C d_X9_bestRow_22 4 rfl ?_
  refine sa_invV (ci := 9) C (k_X9_hoursOf this x6) q1051 ds_X9_hoursOf q125 rfl q1049 q1050 q1048 (gd_X9_hoursOf this x6) rfl rfl rfl (Nat.le_of_ble_eq_true rfl) (by decide) (by decide) d_X9_bestRow_24 (fun v15 => ?_)
  refine sa_ineg C d_X9_bestRow_27 ?_
  refine sa_goto (tgt := 64) C d_X9_bestRow_28 (by decide) ?_
  exact sa_sub [0, 1, 2, 3, 4] rfl (hj64 _)
theorem k_X9_bestRow (this : Nat) (a1 : Int32) : sa_Met 7 yX9_bestRow cX9_bestRow 6 (some .int) (fun ad => [.ref (ad this), .int a1]) sa_eI (f_X9_bestRow this a1) := sa_mk (by decide) (fun ad => Nat.le_of_ble_eq_true rfl) (fun p l e s m args below meth c D ad cA A C => b_X9_bestRow this a1 C)
theorem gd_X9_bestRow (this : Nat) (a1 : Int32) (σ : sa_St) (r : Int32) (τ : sa_St) (h : f_X9_bestRow this a1 σ = some (r, τ)) : sa_sh this = some (.inl 9) := sa_gd_ok h
theorem d_X9_worstPlace_0 : decode cX9_worstPlace 0 = .ok (.aload_n 0, 1) := by decide +kernel
theorem d_X9_worstPlace_1 : decode cX9_worstPlace 1 = .ok (.iload_n 1, 1) := by decide +kernel
theorem d_X9_worstPlace_2 : decode cX9_worstPlace 2 = .ok (.invokevirtual 135, 3) := by decide +kernel
theorem d_X9_worstPlace_5 : decode cX9_worstPlace 5 = .ok (.istore_n 2, 1) := by decide +kernel
theorem d_X9_worstPlace_6 : decode cX9_worstPlace 6 = .ok (.iconst (-1), 1) := by decide +kernel
theorem d_X9_worstPlace_7 : decode cX9_worstPlace 7 = .ok (.istore_n 3, 1) := by decide +kernel
theorem d_X9_worstPlace_8 : decode cX9_worstPlace 8 = .ok (.iconst 1, 1) := by decide +kernel
theorem d_X9_worstPlace_9 : decode cX9_worstPlace 9 = .ok (.istore 4, 2) := by decide +kernel
theorem d_X9_worstPlace_11 : decode cX9_worstPlace 11 = .ok (.iload 4, 2) := by decide +kernel
theorem d_X9_worstPlace_13 : decode cX9_worstPlace 13 = .ok (.aload_n 0, 1) := by decide +kernel
theorem d_X9_worstPlace_14 : decode cX9_worstPlace 14 = .ok (.getfield 15, 3) := by decide +kernel
theorem d_X9_worstPlace_17 : decode cX9_worstPlace 17 = .ok (.iload_n 1, 1) := by decide +kernel
theorem d_X9_worstPlace_18 : decode cX9_worstPlace 18 = .ok (.iaload, 1) := by decide +kernel
theorem d_X9_worstPlace_19 : decode cX9_worstPlace 19 = .ok (.if_icmp .ge 51, 3) := by decide +kernel
theorem d_X9_worstPlace_22 : decode cX9_worstPlace 22 = .ok (.aload_n 0, 1) := by decide +kernel
theorem d_X9_worstPlace_23 : decode cX9_worstPlace 23 = .ok (.iload_n 1, 1) := by decide +kernel
theorem d_X9_worstPlace_24 : decode cX9_worstPlace 24 = .ok (.iload 4, 2) := by decide +kernel
theorem d_X9_worstPlace_26 : decode cX9_worstPlace 26 = .ok (.invokevirtual 187, 3) := by decide +kernel
theorem d_X9_worstPlace_29 : decode cX9_worstPlace 29 = .ok (.istore 5, 2) := by decide +kernel
theorem d_X9_worstPlace_31 : decode cX9_worstPlace 31 = .ok (.aload_n 0, 1) := by decide +kernel
theorem d_X9_worstPlace_32 : decode cX9_worstPlace 32 = .ok (.iload_n 1, 1) := by decide +kernel
theorem d_X9_worstPlace_33 : decode cX9_worstPlace 33 = .ok (.iload 4, 2) := by decide +kernel
theorem d_X9_worstPlace_35 : decode cX9_worstPlace 35 = .ok (.invokevirtual 117, 3) := by decide +kernel
theorem d_X9_worstPlace_38 : decode cX9_worstPlace 38 = .ok (.istore 6, 2) := by decide +kernel
theorem d_X9_worstPlace_40 : decode cX9_worstPlace 40 = .ok (.iload 5, 2) := by decide +kernel
theorem d_X9_worstPlace_42 : decode cX9_worstPlace 42 = .ok (.iload_n 2, 1) := by decide +kernel
theorem d_X9_worstPlace_43 : decode cX9_worstPlace 43 = .ok (.if_icmp .lt 15, 3) := by decide +kernel
theorem d_X9_worstPlace_46 : decode cX9_worstPlace 46 = .ok (.iload 5, 2) := by decide +kernel
theorem d_X9_worstPlace_48 : decode cX9_worstPlace 48 = .ok (.iload_n 2, 1) := by decide +kernel
theorem d_X9_worstPlace_49 : decode cX9_worstPlace 49 = .ok (.if_icmp .ne 15, 3) := by decide +kernel
theorem d_X9_worstPlace_52 : decode cX9_worstPlace 52 = .ok (.iload 6, 2) := by decide +kernel
theorem d_X9_worstPlace_54 : decode cX9_worstPlace 54 = .ok (.iload_n 3, 1) := by decide +kernel
theorem d_X9_worstPlace_55 : decode cX9_worstPlace 55 = .ok (.if_icmp .ge 9, 3) := by decide +kernel
theorem d_X9_worstPlace_58 : decode cX9_worstPlace 58 = .ok (.iload 5, 2) := by decide +kernel
theorem d_X9_worstPlace_60 : decode cX9_worstPlace 60 = .ok (.istore_n 2, 1) := by decide +kernel
theorem d_X9_worstPlace_61 : decode cX9_worstPlace 61 = .ok (.iload 6, 2) := by decide +kernel
theorem d_X9_worstPlace_63 : decode cX9_worstPlace 63 = .ok (.istore_n 3, 1) := by decide +kernel
theorem d_X9_worstPlace_64 : decode cX9_worstPlace 64 = .ok (.iinc 4 1, 3) := by decide +kernel
theorem d_X9_worstPlace_67 : decode cX9_worstPlace 67 = .ok (.goto (-56), 3) := by decide +kernel
theorem d_X9_worstPlace_70 : decode cX9_worstPlace 70 = .ok (.iload_n 3, 1) := by decide +kernel
theorem d_X9_worstPlace_71 : decode cX9_worstPlace 71 = .ok (.ireturn, 1) := by decide +kernel
def f_X9_worstPlace (this : Nat) (a1 : Int32) : sa_M Int32 :=
sa_gd 9 this (
sa_bnd (f_X9_meanOf this a1) fun v1 =>
sa_let ((-1) : Int32) fun x2 =>
sa_let (1 : Int32) fun x3 =>
sa_wh3 (fun j11 (x4 : Int32) (x5 : Int32) (x6 : Int32) =>
sa_bnd (sa_rdR 9 this 11) fun v7 =>
sa_bnd (sa_ldI .int v7 a1) fun v8 =>
if v8 ≤ x6 then
sa_ret (x5 : Int32)
else
sa_bnd (f_X9_meanAmbushedAt this a1 x6) fun v9 =>
sa_bnd (f_X9_placeOf this a1 x6) fun v10 =>
sa_jn2 (fun (x11 : Int32) (x12 : Int32) =>
sa_let ((x6 + 1) : Int32) fun x13 =>
j11 x11 x12 x13) fun j64 =>
sa_jn0 (j64 v9 v10) fun j58 =>
if v9 < x4 then
j58
else
if ¬ v9 = x4 then
j64 x4 x5
else
if x5 ≤ v10 then
j64 x4 x5
else
j58) sa_F v1 x2 x3)
set_option maxHeartbeats 1000000 in
set_option maxRecDepth 10000 in
theorem b_X9_worstPlace {p : Program} {l : Launch} {e : Env} {s : State} {m : MethodId} {args : Array Value} {below : List Frame} {meth : Method} {c : Code} {D : va_G} {ad : Nat → Nat} {cA : FieldType → ClassId} {A : Nat → Prop} (this : Nat) (a1 : Int32) (C : sa_C p s m args meth c cX9_worstPlace RX9 "worstPlace" 7 (some .int) D ad cA A) : sa_Sg p l e s m args below meth c 7 7 D ad cA A sa_eI 0 [(0, .ref (ad this)), (1, .int a1)] [] (f_X9_worstPlace this a1) := by
  unfold f_X9_worstPlace
  refine sa_gdI ?_
  refine sa_aload_n C d_X9_worstPlace_0 rfl 0 rfl ?_
  refine sa_iload_n C d_X9_worstPlace_1 rfl 1 rfl ?_
  refine sa_invV (ci := 9) C (k_X9_meanOf this a1) q1096 ds_X9_meanOf q125 rfl q1094 q1095 q1093 (gd_X9_meanOf this a1) rfl rfl rfl (Nat.le_of_ble_eq_true rfl) (by decide) (by decide) d_X9_worstPlace_2 (fun v1 => ?_)
  refine sa_istore_n (lv' := [(2, .int v1), (0, .ref (ad this)), (1, .int a1)]) C d_X9_worstPlace_5 rfl (by decide) rfl ?_
  refine sa_iconst (v := (-1)) C d_X9_worstPlace_6 (by decide) ?_
  refine sa_topi (fun x2 => ?_)
  refine sa_istore_n (lv' := [(3, .int x2), (2, .int v1), (0, .ref (ad this)), (1, .int a1)]) C d_X9_worstPlace_7 rfl (by decide) rfl ?_
  refine sa_iconst (v := 1) C d_X9_worstPlace_8 (by decide) ?_
  refine sa_topi (fun x3 => ?_)
  refine sa_istore (lv' := [(4, .int x3), (3, .int x2), (2, .int v1), (0, .ref (ad this)), (1, .int a1)]) C d_X9_worstPlace_9 (by decide) rfl ?_
  refine sa_sub [3, 4, 2, 1, 0] rfl (sa_loop3 (fun x4 x5 x6 => [(0, .ref (ad this)), (1, .int a1), (2, .int x4), (3, .int x5), (4, .int x6)]) (fun x4 x5 x6 => []) (fun j11 hj11 x4 x5 x6 => ?_) _ _ _ _)
  refine sa_iload C d_X9_worstPlace_11 4 rfl ?_
  refine sa_aload_n C d_X9_worstPlace_13 rfl 0 rfl ?_
  refine sa_getR C fd_X9_15 rfl d_X9_worstPlace_14 (fun v7 => ?_)
  refine sa_iload_n C d_X9_worstPlace_17 rfl 1 rfl ?_
  refine sa_iald C d_X9_worstPlace_18 (fun v8 => ?_)
  refine sa_icmp_ge (tgt := 70) C d_X9_worstPlace_19 (by decide) ?_ ?_
  · refine sa_iload_n C d_X9_worstPlace_70 rfl 3 rfl ?_
    exact sa_iret C d_X9_worstPlace_71
  refine sa_aload_n C d_X9_worstPlace_22 rfl 0 rfl ?_
  refine sa_iload_n C d_X9_worstPlace_23 rfl 1 rfl ?_
  refine sa_iload C d_X9_worstPlace_24 4 rfl ?_
  refine sa_invV (ci := 9) C (k_X9_meanAmbushedAt this a1 x6) q1108 ds_X9_meanAmbushedAt q125 rfl q1107 q36 q1105 (gd_X9_meanAmbushedAt this a1 x6) rfl rfl rfl (Nat.le_of_ble_eq_true rfl) (by decide) (by decide) d_X9_worstPlace_26 (fun v9 => ?_)
  refine sa_istore (lv' := [(5, .int v9), (0, .ref (ad this)), (1, .int a1), (2, .int x4), (3, .int x5), (4, .int x6)]) C d_X9_worstPlace_29 (by decide) rfl ?_
  refine sa_aload_n C d_X9_worstPlace_31 rfl 1 rfl ?_
  refine sa_iload_n C d_X9_worstPlace_32 rfl 2 rfl ?_
  refine sa_iload C d_X9_worstPlace_33 5 rfl ?_
  refine sa_invV (ci := 9) C (k_X9_placeOf this a1 x6) q1059 ds_X9_placeOf q125 rfl q1057 q1058 q1056 (gd_X9_placeOf this a1 x6) rfl rfl rfl (Nat.le_of_ble_eq_true rfl) (by decide) (by decide) d_X9_worstPlace_35 (fun v10 => ?_)
  refine sa_istore (lv' := [(6, .int v10), (5, .int v9), (0, .ref (ad this)), (1, .int a1), (2, .int x4), (3, .int x5), (4, .int x6)]) C d_X9_worstPlace_38 (by decide) rfl ?_
  refine sa_iload C d_X9_worstPlace_40 1 rfl ?_
  refine sa_iload_n C d_X9_worstPlace_42 rfl 4 rfl ?_
  refine sa_join2 64 (fun x11 x12 => [(0, .ref (ad this)), (1, .int a1), (2, .int x11), (3, .int x12), (4, .int x6)]) (fun x11 x12 => []) (fun x11 x12 => ?_) (fun j64 hj64 => ?_)
  · refine sa_iinc C (fun zz => [(4, .int zz), (0, .ref (ad this)), (1, .int a1), (2, .int x11), (3, .int x12)]) d_X9_worstPlace_64 4 rfl rfl (by decide) (fun _ => rfl) (fun x13 => ?_)
    refine sa_goto (tgt := 11) C d_X9_worstPlace_67 (by decide) ?_
    exact sa_sub [1, 2, 3, 4, 0] rfl (hj11 _ _ _)
  refine sa_join0 58 ([(0, .ref (ad this)), (1, .int a1), (4, .int x6), (5, .int v9), (6, .int v10)]) ([]) (?_) (fun j58 hj58 => ?_)
  · refine sa_iload C d_X9_worstPlace_58 3 rfl ?_
    refine sa_istore_n (lv' := [(2, .int v9), (0, .ref (ad this)), (1, .int a1), (4, .int x6), (5, .int v9), (6, .int v10)]) C d_X9_worstPlace_60 rfl (by decide) rfl ?_
    refine sa_iload C d_X9_worstPlace_61 5 rfl ?_
    refine sa_istore_n (lv' := [(3, .int v10), (2, .int v9), (0, .ref (ad this)), (1, .int a1), (4, .int x6), (5, .int v9), (6, .int v10)]) C d_X9_worstPlace_63 rfl (by decide) rfl ?_
    exact sa_sub [2, 3, 1, 0, 4] rfl (hj64 _ _)
  refine sa_icmp_lt (tgt := 58) C d_X9_worstPlace_43 (by decide) ?_ ?_
  · exact sa_sub [2, 3, 6, 1, 0] rfl (hj58)
  refine sa_iload C d_X9_worstPlace_46 1 rfl ?_
  refine sa_iload_n C d_X9_worstPlace_48 rfl 4 rfl ?_
  refine sa_icmp_ne (tgt := 64) C d_X9_worstPlace_49 (by decide) ?_ ?_
  · exact sa_sub [2, 3, 4, 5, 6] rfl (hj64 _ _)
  refine sa_iload C d_X9_worstPlace_52 0 rfl ?_
  refine sa_iload_n C d_X9_worstPlace_54 rfl 5 rfl ?_
  refine sa_icmp_ge (tgt := 64) C d_X9_worstPlace_55 (by decide) ?_ ?_
  · exact sa_sub [2, 3, 4, 5, 6] rfl (hj64 _ _)
  exact sa_sub [2, 3, 6, 1, 0] rfl (hj58)
theorem k_X9_worstPlace (this : Nat) (a1 : Int32) : sa_Met 7 yX9_worstPlace cX9_worstPlace 7 (some .int) (fun ad => [.ref (ad this), .int a1]) sa_eI (f_X9_worstPlace this a1) := sa_mk (by decide) (fun ad => Nat.le_of_ble_eq_true rfl) (fun p l e s m args below meth c D ad cA A C => b_X9_worstPlace this a1 C)
theorem gd_X9_worstPlace (this : Nat) (a1 : Int32) (σ : sa_St) (r : Int32) (τ : sa_St) (h : f_X9_worstPlace this a1 σ = some (r, τ)) : sa_sh this = some (.inl 9) := sa_gd_ok h
theorem d_X9_bestWait_0 : decode cX9_bestWait 0 = .ok (.iconst 0, 1) := by decide +kernel
theorem d_X9_bestWait_1 : decode cX9_bestWait 1 = .ok (.istore_n 2, 1) := by decide +kernel
theorem d_X9_bestWait_2 : decode cX9_bestWait 2 = .ok (.aload_n 0, 1) := by decide +kernel
theorem d_X9_bestWait_3 : decode cX9_bestWait 3 = .ok (.aload_n 0, 1) := by decide +kernel
theorem d_X9_bestWait_4 : decode cX9_bestWait 4 = .ok (.getfield 29, 3) := by decide +kernel
theorem d_X9_bestWait_7 : decode cX9_bestWait 7 = .ok (.invokevirtual 90, 3) := by decide +kernel
theorem d_X9_bestWait_10 : decode cX9_bestWait 10 = .ok (.iconst 0, 1) := by decide +kernel
theorem d_X9_bestWait_11 : decode cX9_bestWait 11 = .ok (.istore_n 3, 1) := by decide +kernel
theorem d_X9_bestWait_12 : decode cX9_bestWait 12 = .ok (.iload_n 3, 1) := by decide +kernel
theorem d_X9_bestWait_13 : decode cX9_bestWait 13 = .ok (.bipush 12, 2) := by decide +kernel
theorem d_X9_bestWait_15 : decode cX9_bestWait 15 = .ok (.if_icmp .gt 90, 3) := by decide +kernel
theorem d_X9_bestWait_18 : decode cX9_bestWait 18 = .ok (.aload_n 0, 1) := by decide +kernel
theorem d_X9_bestWait_19 : decode cX9_bestWait 19 = .ok (.iload_n 3, 1) := by decide +kernel
theorem d_X9_bestWait_20 : decode cX9_bestWait 20 = .ok (.invokevirtual 86, 3) := by decide +kernel
theorem d_X9_bestWait_23 : decode cX9_bestWait 23 = .ok (.aload_n 0, 1) := by decide +kernel
theorem d_X9_bestWait_24 : decode cX9_bestWait 24 = .ok (.getfield 29, 3) := by decide +kernel
theorem d_X9_bestWait_27 : decode cX9_bestWait 27 = .ok (.iconst 0, 1) := by decide +kernel
theorem d_X9_bestWait_28 : decode cX9_bestWait 28 = .ok (.aload_n 0, 1) := by decide +kernel
theorem d_X9_bestWait_29 : decode cX9_bestWait 29 = .ok (.getfield 23, 3) := by decide +kernel
theorem d_X9_bestWait_32 : decode cX9_bestWait 32 = .ok (.iconst 0, 1) := by decide +kernel
theorem d_X9_bestWait_33 : decode cX9_bestWait 33 = .ok (.aaload, 1) := by decide +kernel
theorem d_X9_bestWait_34 : decode cX9_bestWait 34 = .ok (.iconst 0, 1) := by decide +kernel
theorem d_X9_bestWait_35 : decode cX9_bestWait 35 = .ok (.bipush 100, 2) := by decide +kernel
theorem d_X9_bestWait_37 : decode cX9_bestWait 37 = .ok (.invokestatic 94, 3) := by decide +kernel
theorem d_X9_bestWait_40 : decode cX9_bestWait 40 = .ok (.aload_n 0, 1) := by decide +kernel
theorem d_X9_bestWait_41 : decode cX9_bestWait 41 = .ok (.iload_n 1, 1) := by decide +kernel
theorem d_X9_bestWait_42 : decode cX9_bestWait 42 = .ok (.invokevirtual 135, 3) := by decide +kernel
theorem d_X9_bestWait_45 : decode cX9_bestWait 45 = .ok (.istore 4, 2) := by decide +kernel
theorem d_X9_bestWait_47 : decode cX9_bestWait 47 = .ok (.iload_n 3, 1) := by decide +kernel
theorem d_X9_bestWait_48 : decode cX9_bestWait 48 = .ok (.ifCond .eq 12, 3) := by decide +kernel
theorem d_X9_bestWait_51 : decode cX9_bestWait 51 = .ok (.iload 4, 2) := by decide +kernel
theorem d_X9_bestWait_53 : decode cX9_bestWait 53 = .ok (.aload_n 0, 1) := by decide +kernel
theorem d_X9_bestWait_54 : decode cX9_bestWait 54 = .ok (.getfield 190, 3) := by decide +kernel
theorem d_X9_bestWait_57 : decode cX9_bestWait 57 = .ok (.if_icmp .le 11, 3) := by decide +kernel
theorem d_X9_bestWait_60 : decode cX9_bestWait 60 = .ok (.iload_n 3, 1) := by decide +kernel
theorem d_X9_bestWait_61 : decode cX9_bestWait 61 = .ok (.istore_n 2, 1) := by decide +kernel
theorem d_X9_bestWait_62 : decode cX9_bestWait 62 = .ok (.aload_n 0, 1) := by decide +kernel
theorem d_X9_bestWait_63 : decode cX9_bestWait 63 = .ok (.iload 4, 2) := by decide +kernel
theorem d_X9_bestWait_65 : decode cX9_bestWait 65 = .ok (.putfield 190, 3) := by decide +kernel
theorem d_X9_bestWait_68 : decode cX9_bestWait 68 = .ok (.aload_n 0, 1) := by decide +kernel
theorem d_X9_bestWait_69 : decode cX9_bestWait 69 = .ok (.getfield 60, 3) := by decide +kernel
theorem d_X9_bestWait_72 : decode cX9_bestWait 72 = .ok (.aload_n 0, 1) := by decide +kernel
theorem d_X9_bestWait_73 : decode cX9_bestWait 73 = .ok (.getfield 18, 3) := by decide +kernel
theorem d_X9_bestWait_76 : decode cX9_bestWait 76 = .ok (.iconst 0, 1) := by decide +kernel
theorem d_X9_bestWait_77 : decode cX9_bestWait 77 = .ok (.iaload, 1) := by decide +kernel
theorem d_X9_bestWait_78 : decode cX9_bestWait 78 = .ok (.invokevirtual 193, 3) := by decide +kernel
theorem d_X9_bestWait_81 : decode cX9_bestWait 81 = .ok (.ifCond .ne 18, 3) := by decide +kernel
theorem d_X9_bestWait_84 : decode cX9_bestWait 84 = .ok (.aload_n 0, 1) := by decide +kernel
theorem d_X9_bestWait_85 : decode cX9_bestWait 85 = .ok (.aload_n 0, 1) := by decide +kernel
theorem d_X9_bestWait_86 : decode cX9_bestWait 86 = .ok (.getfield 29, 3) := by decide +kernel
theorem d_X9_bestWait_89 : decode cX9_bestWait 89 = .ok (.aload_n 0, 1) := by decide +kernel
theorem d_X9_bestWait_90 : decode cX9_bestWait 90 = .ok (.getfield 18, 3) := by decide +kernel
theorem d_X9_bestWait_93 : decode cX9_bestWait 93 = .ok (.iconst 0, 1) := by decide +kernel
theorem d_X9_bestWait_94 : decode cX9_bestWait 94 = .ok (.iaload, 1) := by decide +kernel
theorem d_X9_bestWait_95 : decode cX9_bestWait 95 = .ok (.iload_n 3, 1) := by decide +kernel
theorem d_X9_bestWait_96 : decode cX9_bestWait 96 = .ok (.invokevirtual 162, 3) := by decide +kernel
theorem d_X9_bestWait_99 : decode cX9_bestWait 99 = .ok (.iinc 3 1, 3) := by decide +kernel
theorem d_X9_bestWait_102 : decode cX9_bestWait 102 = .ok (.goto (-90), 3) := by decide +kernel
theorem d_X9_bestWait_105 : decode cX9_bestWait 105 = .ok (.iload_n 2, 1) := by decide +kernel
theorem d_X9_bestWait_106 : decode cX9_bestWait 106 = .ok (.ireturn, 1) := by decide +kernel
def f_X9_bestWait (this : Nat) (a1 : Int32) : sa_M Int32 :=
sa_gd 9 this (
sa_let (0 : Int32) fun x1 =>
sa_bnd (sa_rdR 9 this 16) fun v2 =>
sa_bnd (f_X9_putAll this v2) fun _ =>
sa_let (0 : Int32) fun x3 =>
sa_wh2 (fun j12 (x4 : Int32) (x5 : Int32) =>
if 12 < x5 then
sa_ret (x4 : Int32)
else
sa_bnd (f_X9_setOutWith this x5) fun _ =>
sa_bnd (sa_rdR 9 this 16) fun v6 =>
sa_bnd (sa_rdR 9 this 13) fun v7 =>
sa_bnd (sa_ldR (.array .long) v7 0) fun v8 =>
sa_bnd (sa_cpL v6 0 v8 0 100) fun _ =>
sa_bnd (f_X9_meanOf this a1) fun v9 =>
sa_jn1 (fun (x10 : Int32) =>
sa_bnd (sa_rdR 9 this 2) fun v11 =>
sa_bnd (sa_rdR 9 this 12) fun v12 =>
sa_bnd (sa_ldI .int v12 0) fun v13 =>
sa_bnd (f_X1_hasRoof v11 v13) fun v14 =>
sa_jn0 (sa_let ((x5 + 1) : Int32) fun x15 =>
j12 x10 x15) fun j99 =>
if ¬ v14 = 0 then
j99
else
sa_bnd (sa_rdR 9 this 16) fun v16 =>
sa_bnd (sa_rdR 9 this 12) fun v17 =>
sa_bnd (sa_ldI .int v17 0) fun v18 =>
sa_bnd (f_X9_letRain this v16 v18 x5) fun _ =>
j99) fun j68 =>
sa_jn0 (sa_bnd (sa_wrI 9 this 4 v9) fun _ =>
j68 x5) fun j60 =>
if x5 = 0 then
j60
else
sa_bnd (sa_rdI 9 this 4) fun v19 =>
if v9 ≤ v19 then
j68 x4
else
j60) sa_F x1 x3)
set_option maxHeartbeats 1000000 in
set_option maxRecDepth 10000 in
theorem b_X9_bestWait {p : Program} {l : Launch} {e : Env} {s : State} {m : MethodId} {args : Array Value} {below : List Frame} {meth : Method} {c : Code} {D : va_G} {ad : Nat → Nat} {cA : FieldType → ClassId} {A : Nat → Prop} (this : Nat) (a1 : Int32) (C : sa_C p s m args meth c cX9_bestWait RX9 "bestWait" 5 (some .int) D ad cA A) : sa_Sg p l e s m args below meth c 5 7 D ad cA A sa_eI 0 [(0, .ref (ad this)), (1, .int a1)] [] (f_X9_bestWait this a1) := by
  unfold f_X9_bestWait
  refine sa_gdI ?_
  refine sa_iconst (v := 0) C d_X9_bestWait_0 (by decide) ?_
  refine sa_topi (fun x1 => ?_)
  refine sa_istore_n (lv' := [(2, .int x1), (0, .ref (ad this)), (1, .int a1)]) C d_X9_bestWait_1 rfl (by decide) rfl ?_
  refine sa_aload_n C d_X9_bestWait_2 rfl 1 rfl ?_
  refine sa_aload_n C d_X9_bestWait_3 rfl 1 rfl ?_
  refine sa_getR C fd_X9_29 rfl d_X9_bestWait_4 (fun v2 => ?_)
  refine sa_invV (ci := 9) C (k_X9_putAll this v2) q1039 ds_X9_putAll q125 rfl q1038 q31 q1036 (gd_X9_putAll this v2) rfl rfl rfl (Nat.le_of_ble_eq_true rfl) (by decide) (by decide) d_X9_bestWait_7 (fun _ => ?_)
  refine sa_iconst (v := 0) C d_X9_bestWait_10 (by decide) ?_
  refine sa_topi (fun x3 => ?_)
  refine sa_istore_n (lv' := [(3, .int x3), (2, .int x1), (0, .ref (ad this)), (1, .int a1)]) C d_X9_bestWait_11 rfl (by decide) rfl ?_
  refine sa_sub [2, 3, 1, 0] rfl (sa_loop2 (fun x4 x5 => [(0, .ref (ad this)), (1, .int a1), (2, .int x4), (3, .int x5)]) (fun x4 x5 => []) (fun j12 hj12 x4 x5 => ?_) _ _ _)
  refine sa_iload_n C d_X9_bestWait_12 rfl 3 rfl ?_
  refine sa_bipush (v := 12) C d_X9_bestWait_13 (by decide) ?_
  refine sa_icmp_gt (tgt := 105) C d_X9_bestWait_15 (by decide) ?_ ?_
  · refine sa_iload_n C d_X9_bestWait_105 rfl 2 rfl ?_
    exact sa_iret C d_X9_bestWait_106
  refine sa_aload_n C d_X9_bestWait_18 rfl 0 rfl ?_
  refine sa_iload_n C d_X9_bestWait_19 rfl 3 rfl ?_
  refine sa_invV (ci := 9) C (k_X9_setOutWith this x5) q1035 ds_X9_setOutWith q125 rfl q1034 q30 q1032 (gd_X9_setOutWith this x5) rfl rfl rfl (Nat.le_of_ble_eq_true rfl) (by decide) (by decide) d_X9_bestWait_20 (fun _ => ?_)
  refine sa_aload_n C d_X9_bestWait_23 rfl 0 rfl ?_
  refine sa_getR C fd_X9_29 rfl d_X9_bestWait_24 (fun v6 => ?_)
  refine sa_iconst (v := 0) C d_X9_bestWait_27 (by decide) ?_
  refine sa_aload_n C d_X9_bestWait_28 rfl 0 rfl ?_
  refine sa_getR C fd_X9_23 rfl d_X9_bestWait_29 (fun v7 => ?_)
  refine sa_iconst (v := 0) C d_X9_bestWait_32 (by decide) ?_
  refine sa_aaldJ C d_X9_bestWait_33 (fun v8 => ?_)
  refine sa_iconst (v := 0) C d_X9_bestWait_34 (by decide) ?_
  refine sa_bipush (v := 100) C d_X9_bestWait_35 (by decide) ?_
  refine sa_cpyL C q1030 q594 q593 q134 (Nat.le_of_ble_eq_true rfl) (by decide) d_X9_bestWait_37 ?_
  refine sa_aload_n C d_X9_bestWait_40 rfl 0 rfl ?_
  refine sa_iload_n C d_X9_bestWait_41 rfl 1 rfl ?_
  refine sa_invV (ci := 9) C (k_X9_meanOf this a1) q1096 ds_X9_meanOf q125 rfl q1094 q1095 q1093 (gd_X9_meanOf this a1) rfl rfl rfl (Nat.le_of_ble_eq_true rfl) (by decide) (by decide) d_X9_bestWait_42 (fun v9 => ?_)
  refine sa_istore (lv' := [(4, .int v9), (0, .ref (ad this)), (1, .int a1), (2, .int x4), (3, .int x5)]) C d_X9_bestWait_45 (by decide) rfl ?_
  refine sa_iload_n C d_X9_bestWait_47 rfl 4 rfl ?_
  refine sa_join1 68 (fun x10 => [(0, .ref (ad this)), (1, .int a1), (2, .int x10), (3, .int x5)]) (fun x10 => []) (fun x10 => ?_) (fun j68 hj68 => ?_)
  · refine sa_aload_n C d_X9_bestWait_68 rfl 0 rfl ?_
    refine sa_getR C fd_X9_60 rfl d_X9_bestWait_69 (fun v11 => ?_)
    refine sa_aload_n C d_X9_bestWait_72 rfl 0 rfl ?_
    refine sa_getR C fd_X9_18 rfl d_X9_bestWait_73 (fun v12 => ?_)
    refine sa_iconst (v := 0) C d_X9_bestWait_76 (by decide) ?_
    refine sa_iald C d_X9_bestWait_77 (fun v13 => ?_)
    refine sa_invV (ci := 1) C (k_X1_hasRoof v11 v13) q885 ds_X1_hasRoof q116 rfl q883 q884 q1129 (gd_X1_hasRoof v11 v13) rfl rfl rfl (Nat.le_of_ble_eq_true rfl) (by decide) (by decide) d_X9_bestWait_78 (fun v14 => ?_)
    refine sa_join0 99 ([(0, .ref (ad this)), (1, .int a1), (2, .int x10), (3, .int x5)]) ([]) (?_) (fun j99 hj99 => ?_)
    · refine sa_iinc C (fun zz => [(3, .int zz), (0, .ref (ad this)), (1, .int a1), (2, .int x10)]) d_X9_bestWait_99 3 rfl rfl (by decide) (fun _ => rfl) (fun x15 => ?_)
      refine sa_goto (tgt := 12) C d_X9_bestWait_102 (by decide) ?_
      exact sa_sub [1, 2, 3, 0] rfl (hj12 _ _)
    refine sa_if_ne (tgt := 99) C d_X9_bestWait_81 (by decide) ?_ ?_
    · exact sa_sub [0, 1, 2, 3] rfl (hj99)
    refine sa_aload_n C d_X9_bestWait_84 rfl 0 rfl ?_
    refine sa_aload_n C d_X9_bestWait_85 rfl 0 rfl ?_
    refine sa_getR C fd_X9_29 rfl d_X9_bestWait_86 (fun v16 => ?_)
    refine sa_aload_n C d_X9_bestWait_89 rfl 0 rfl ?_
    refine sa_getR C fd_X9_18 rfl d_X9_bestWait_90 (fun v17 => ?_)
    refine sa_iconst (v := 0) C d_X9_bestWait_93 (by decide) ?_
    refine sa_iald C d_X9_bestWait_94 (fun v18 => ?_)
    refine sa_iload_n C d_X9_bestWait_95 rfl 3 rfl ?_
    refine sa_invV (ci := 9) C (k_X9_letRain this v16 v18 x5) q1081 ds_X9_letRain q125 rfl q1080 q35 q1078 (gd_X9_letRain this v16 v18 x5) rfl rfl rfl (Nat.le_of_ble_eq_true rfl) (by decide) (by decide) d_X9_bestWait_96 (fun _ => ?_)
    exact sa_sub [0, 1, 2, 3] rfl (hj99)
  refine sa_join0 60 ([(0, .ref (ad this)), (1, .int a1), (3, .int x5), (4, .int v9)]) ([]) (?_) (fun j60 hj60 => ?_)
  · refine sa_iload_n C d_X9_bestWait_60 rfl 2 rfl ?_
    refine sa_istore_n (lv' := [(2, .int x5), (0, .ref (ad this)), (1, .int a1), (3, .int x5), (4, .int v9)]) C d_X9_bestWait_61 rfl (by decide) rfl ?_
    refine sa_aload_n C d_X9_bestWait_62 rfl 1 rfl ?_
    refine sa_iload C d_X9_bestWait_63 4 rfl ?_
    refine sa_putI C fd_X9_190 d_X9_bestWait_65 ?_
    exact sa_sub [1, 2, 0, 3] rfl (hj68 _)
  refine sa_if_eq (tgt := 60) C d_X9_bestWait_48 (by decide) ?_ ?_
  · exact sa_sub [1, 2, 4, 0] rfl (hj60)
  refine sa_iload C d_X9_bestWait_51 0 rfl ?_
  refine sa_aload_n C d_X9_bestWait_53 rfl 1 rfl ?_
  refine sa_getI C fd_X9_190 d_X9_bestWait_54 (fun v19 => ?_)
  refine sa_icmp_le (tgt := 68) C d_X9_bestWait_57 (by decide) ?_ ?_
  · exact sa_sub [1, 2, 3, 4] rfl (hj68 _)
  exact sa_sub [1, 2, 4, 0] rfl (hj60)
theorem k_X9_bestWait (this : Nat) (a1 : Int32) : sa_Met 7 yX9_bestWait cX9_bestWait 5 (some .int) (fun ad => [.ref (ad this), .int a1]) sa_eI (f_X9_bestWait this a1) := sa_mk (by decide) (fun ad => Nat.le_of_ble_eq_true rfl) (fun p l e s m args below meth c D ad cA A C => b_X9_bestWait this a1 C)
theorem gd_X9_bestWait (this : Nat) (a1 : Int32) (σ : sa_St) (r : Int32) (τ : sa_St) (h : f_X9_bestWait this a1 σ = some (r, τ)) : sa_sh this = some (.inl 9) := sa_gd_ok h
