theorem d_X0_copyFrom_0 : decode cX0_copyFrom 0 = .ok (.aload_n 1, 1) := by decide +kernel
theorem d_X0_copyFrom_1 : decode cX0_copyFrom 1 = .ok (.getfield 11, 3) := by decide +kernel
theorem d_X0_copyFrom_4 : decode cX0_copyFrom 4 = .ok (.iconst 0, 1) := by decide +kernel
theorem d_X0_copyFrom_5 : decode cX0_copyFrom 5 = .ok (.aload_n 0, 1) := by decide +kernel
theorem d_X0_copyFrom_6 : decode cX0_copyFrom 6 = .ok (.getfield 11, 3) := by decide +kernel
theorem d_X0_copyFrom_9 : decode cX0_copyFrom 9 = .ok (.iconst 0, 1) := by decide +kernel
theorem d_X0_copyFrom_10 : decode cX0_copyFrom 10 = .ok (.sipush 259, 3) := by decide +kernel
theorem d_X0_copyFrom_13 : decode cX0_copyFrom 13 = .ok (.invokestatic 15, 3) := by decide +kernel
theorem d_X0_copyFrom_16 : decode cX0_copyFrom 16 = .ok (.return_, 1) := by decide +kernel
def f_X0_copyFrom (this : Nat) (a1 : Nat) : sa_M Unit :=
sa_gd 0 this (
sa_bnd (sa_rdR 0 a1 0) fun v1 =>
sa_bnd (sa_rdR 0 this 0) fun v2 =>
sa_bnd (sa_cpI v1 0 v2 0 259) fun _ =>
sa_ret ())
set_option maxHeartbeats 1000000 in
set_option maxRecDepth 10000 in
theorem b_X0_copyFrom {p : Program} {l : Launch} {e : Env} {s : State} {m : MethodId} {args : Array Value} {below : List Frame} {meth : Method} {c : Code} {D : va_G} {ad : Nat → Nat} {cA : FieldType → ClassId} {A : Nat → Prop} (this : Nat) (a1 : Nat) (C : sa_C p s m args meth c cX0_copyFrom RX0 "copyFrom" 2 none D ad cA A) : sa_Sg p l e s m args below meth c 2 1 D ad cA A sa_eV 0 [(0, .ref (ad this)), (1, .ref (ad a1))] [] (f_X0_copyFrom this a1) := by
  unfold f_X0_copyFrom
  refine sa_gdI ?_
  refine sa_aload_n C d_X0_copyFrom_0 rfl 1 rfl ?_
  refine sa_getR C fd_X0_11 rfl d_X0_copyFrom_1 (fun v1 => ?_)
  refine sa_iconst (v := 0) C d_X0_copyFrom_4 (by decide) ?_
  refine sa_aload_n C d_X0_copyFrom_5 rfl 0 rfl ?_
  refine sa_getR C fd_X0_11 rfl d_X0_copyFrom_6 (fun v2 => ?_)
  refine sa_iconst (v := 0) C d_X0_copyFrom_9 (by decide) ?_
  refine sa_sipush (v := 259) C d_X0_copyFrom_10 (by decide) ?_
  refine sa_cpyI C q838 q594 q593 q134 (Nat.le_of_ble_eq_true rfl) (by decide) d_X0_copyFrom_13 ?_
  exact sa_vret C d_X0_copyFrom_16
theorem k_X0_copyFrom (this : Nat) (a1 : Nat) : sa_Met 1 yX0_copyFrom cX0_copyFrom 2 none (fun ad => [.ref (ad this), .ref (ad a1)]) sa_eV (f_X0_copyFrom this a1) := sa_mk (by decide) (fun ad => Nat.le_of_ble_eq_true rfl) (fun p l e s m args below meth c D ad cA A C => b_X0_copyFrom this a1 C)
theorem gd_X0_copyFrom (this : Nat) (a1 : Nat) (σ : sa_St) (r : Unit) (τ : sa_St) (h : f_X0_copyFrom this a1 σ = some (r, τ)) : sa_sh this = some (.inl 0) := sa_gd_ok h
theorem d_X0_set_0 : decode cX0_set 0 = .ok (.aload_n 0, 1) := by decide +kernel
theorem d_X0_set_1 : decode cX0_set 1 = .ok (.getfield 11, 3) := by decide +kernel
theorem d_X0_set_4 : decode cX0_set 4 = .ok (.bipush 23, 2) := by decide +kernel
theorem d_X0_set_6 : decode cX0_set 6 = .ok (.iload_n 1, 1) := by decide +kernel
theorem d_X0_set_7 : decode cX0_set 7 = .ok (.bipush 7, 2) := by decide +kernel
theorem d_X0_set_9 : decode cX0_set 9 = .ok (.imul, 1) := by decide +kernel
theorem d_X0_set_10 : decode cX0_set 10 = .ok (.iadd, 1) := by decide +kernel
theorem d_X0_set_11 : decode cX0_set 11 = .ok (.iload_n 2, 1) := by decide +kernel
theorem d_X0_set_12 : decode cX0_set 12 = .ok (.iadd, 1) := by decide +kernel
theorem d_X0_set_13 : decode cX0_set 13 = .ok (.iload_n 3, 1) := by decide +kernel
theorem d_X0_set_14 : decode cX0_set 14 = .ok (.iastore, 1) := by decide +kernel
theorem d_X0_set_15 : decode cX0_set 15 = .ok (.return_, 1) := by decide +kernel
def f_X0_set (this : Nat) (a1 : Int32) (a2 : Int32) (a3 : Int32) : sa_M Unit :=
sa_gd 0 this (
sa_bnd (sa_rdR 0 this 0) fun v1 =>
sa_bnd (sa_stI v1 ((23 + (a1 * 7)) + a2) a3) fun _ =>
sa_ret ())
set_option maxHeartbeats 1000000 in
set_option maxRecDepth 10000 in
theorem b_X0_set {p : Program} {l : Launch} {e : Env} {s : State} {m : MethodId} {args : Array Value} {below : List Frame} {meth : Method} {c : Code} {D : va_G} {ad : Nat → Nat} {cA : FieldType → ClassId} {A : Nat → Prop} (this : Nat) (a1 : Int32) (a2 : Int32) (a3 : Int32) (C : sa_C p s m args meth c cX0_set RX0 "set" 4 none D ad cA A) : sa_Sg p l e s m args below meth c 4 1 D ad cA A sa_eV 0 [(0, .ref (ad this)), (1, .int a1), (2, .int a2), (3, .int a3)] [] (f_X0_set this a1 a2 a3) := by
  unfold f_X0_set
  refine sa_gdI ?_
  refine sa_aload_n C d_X0_set_0 rfl 0 rfl ?_
  refine sa_getR C fd_X0_11 rfl d_X0_set_1 (fun v1 => ?_)
  refine sa_bipush (v := 23) C d_X0_set_4 (by decide) ?_
  refine sa_iload_n C d_X0_set_6 rfl 1 rfl ?_
  refine sa_bipush (v := 7) C d_X0_set_7 (by decide) ?_
  refine sa_imul C d_X0_set_9 ?_
  refine sa_iadd C d_X0_set_10 ?_
  refine sa_iload_n C d_X0_set_11 rfl 2 rfl ?_
  refine sa_iadd C d_X0_set_12 ?_
  refine sa_iload_n C d_X0_set_13 rfl 3 rfl ?_
  refine sa_iast C d_X0_set_14 ?_
  exact sa_vret C d_X0_set_15
theorem k_X0_set (this : Nat) (a1 : Int32) (a2 : Int32) (a3 : Int32) : sa_Met 1 yX0_set cX0_set 4 none (fun ad => [.ref (ad this), .int a1, .int a2, .int a3]) sa_eV (f_X0_set this a1 a2 a3) := sa_mk (by decide) (fun ad => Nat.le_of_ble_eq_true rfl) (fun p l e s m args below meth c D ad cA A C => b_X0_set this a1 a2 a3 C)
theorem gd_X0_set (this : Nat) (a1 : Int32) (a2 : Int32) (a3 : Int32) (σ : sa_St) (r : Unit) (τ : sa_St) (h : f_X0_set this a1 a2 a3 σ = some (r, τ)) : sa_sh this = some (.inl 0) := sa_gd_ok h
theorem d_X0_settleIn_0 : decode cX0_settleIn 0 = .ok (.aload_n 0, 1) := by decide +kernel
theorem d_X0_settleIn_1 : decode cX0_settleIn 1 = .ok (.getfield 11, 3) := by decide +kernel
theorem d_X0_settleIn_4 : decode cX0_settleIn 4 = .ok (.iconst 0, 1) := by decide +kernel
theorem d_X0_settleIn_5 : decode cX0_settleIn 5 = .ok (.invokestatic 21, 3) := by decide +kernel
theorem d_X0_settleIn_8 : decode cX0_settleIn 8 = .ok (.aload_n 0, 1) := by decide +kernel
theorem d_X0_settleIn_9 : decode cX0_settleIn 9 = .ok (.getfield 11, 3) := by decide +kernel
theorem d_X0_settleIn_12 : decode cX0_settleIn 12 = .ok (.bipush 22, 2) := by decide +kernel
theorem d_X0_settleIn_14 : decode cX0_settleIn 14 = .ok (.aload_n 1, 1) := by decide +kernel
theorem d_X0_settleIn_15 : decode cX0_settleIn 15 = .ok (.getfield 27, 3) := by decide +kernel
theorem d_X0_settleIn_18 : decode cX0_settleIn 18 = .ok (.iconst 2, 1) := by decide +kernel
theorem d_X0_settleIn_19 : decode cX0_settleIn 19 = .ok (.iaload, 1) := by decide +kernel
theorem d_X0_settleIn_20 : decode cX0_settleIn 20 = .ok (.iastore, 1) := by decide +kernel
theorem d_X0_settleIn_21 : decode cX0_settleIn 21 = .ok (.iconst 0, 1) := by decide +kernel
theorem d_X0_settleIn_22 : decode cX0_settleIn 22 = .ok (.istore_n 2, 1) := by decide +kernel
theorem d_X0_settleIn_23 : decode cX0_settleIn 23 = .ok (.iload_n 2, 1) := by decide +kernel
theorem d_X0_settleIn_24 : decode cX0_settleIn 24 = .ok (.aload_n 0, 1) := by decide +kernel
theorem d_X0_settleIn_25 : decode cX0_settleIn 25 = .ok (.getfield 11, 3) := by decide +kernel
theorem d_X0_settleIn_28 : decode cX0_settleIn 28 = .ok (.bipush 22, 2) := by decide +kernel
theorem d_X0_settleIn_30 : decode cX0_settleIn 30 = .ok (.iaload, 1) := by decide +kernel
theorem d_X0_settleIn_31 : decode cX0_settleIn 31 = .ok (.if_icmp .ge 50, 3) := by decide +kernel
theorem d_X0_settleIn_34 : decode cX0_settleIn 34 = .ok (.aload_n 0, 1) := by decide +kernel
theorem d_X0_settleIn_35 : decode cX0_settleIn 35 = .ok (.iload_n 2, 1) := by decide +kernel
theorem d_X0_settleIn_36 : decode cX0_settleIn 36 = .ok (.iconst 0, 1) := by decide +kernel
theorem d_X0_settleIn_37 : decode cX0_settleIn 37 = .ok (.aload_n 1, 1) := by decide +kernel
theorem d_X0_settleIn_38 : decode cX0_settleIn 38 = .ok (.iconst 2, 1) := by decide +kernel
theorem d_X0_settleIn_39 : decode cX0_settleIn 39 = .ok (.iload_n 2, 1) := by decide +kernel
theorem d_X0_settleIn_40 : decode cX0_settleIn 40 = .ok (.iconst 0, 1) := by decide +kernel
theorem d_X0_settleIn_41 : decode cX0_settleIn 41 = .ok (.invokevirtual 32, 3) := by decide +kernel
theorem d_X0_settleIn_44 : decode cX0_settleIn 44 = .ok (.invokevirtual 36, 3) := by decide +kernel
theorem d_X0_settleIn_47 : decode cX0_settleIn 47 = .ok (.iconst 1, 1) := by decide +kernel
theorem d_X0_settleIn_48 : decode cX0_settleIn 48 = .ok (.istore_n 3, 1) := by decide +kernel
theorem d_X0_settleIn_49 : decode cX0_settleIn 49 = .ok (.iload_n 3, 1) := by decide +kernel
theorem d_X0_settleIn_50 : decode cX0_settleIn 50 = .ok (.iconst 5, 1) := by decide +kernel
theorem d_X0_settleIn_51 : decode cX0_settleIn 51 = .ok (.if_icmp .ge 24, 3) := by decide +kernel
theorem d_X0_settleIn_54 : decode cX0_settleIn 54 = .ok (.aload_n 0, 1) := by decide +kernel
theorem d_X0_settleIn_55 : decode cX0_settleIn 55 = .ok (.iload_n 2, 1) := by decide +kernel
theorem d_X0_settleIn_56 : decode cX0_settleIn 56 = .ok (.iload_n 3, 1) := by decide +kernel
theorem d_X0_settleIn_57 : decode cX0_settleIn 57 = .ok (.iconst 1, 1) := by decide +kernel
theorem d_X0_settleIn_58 : decode cX0_settleIn 58 = .ok (.iadd, 1) := by decide +kernel
theorem d_X0_settleIn_59 : decode cX0_settleIn 59 = .ok (.aload_n 1, 1) := by decide +kernel
theorem d_X0_settleIn_60 : decode cX0_settleIn 60 = .ok (.iconst 2, 1) := by decide +kernel
theorem d_X0_settleIn_61 : decode cX0_settleIn 61 = .ok (.iload_n 2, 1) := by decide +kernel
theorem d_X0_settleIn_62 : decode cX0_settleIn 62 = .ok (.iload_n 3, 1) := by decide +kernel
theorem d_X0_settleIn_63 : decode cX0_settleIn 63 = .ok (.invokevirtual 32, 3) := by decide +kernel
theorem d_X0_settleIn_66 : decode cX0_settleIn 66 = .ok (.invokevirtual 36, 3) := by decide +kernel
theorem d_X0_settleIn_69 : decode cX0_settleIn 69 = .ok (.iinc 3 1, 3) := by decide +kernel
theorem d_X0_settleIn_72 : decode cX0_settleIn 72 = .ok (.goto (-23), 3) := by decide +kernel
theorem d_X0_settleIn_75 : decode cX0_settleIn 75 = .ok (.iinc 2 1, 3) := by decide +kernel
theorem d_X0_settleIn_78 : decode cX0_settleIn 78 = .ok (.goto (-55), 3) := by decide +kernel
theorem d_X0_settleIn_81 : decode cX0_settleIn 81 = .ok (.iconst 0, 1) := by decide +kernel
theorem d_X0_settleIn_82 : decode cX0_settleIn 82 = .ok (.istore_n 2, 1) := by decide +kernel
theorem d_X0_settleIn_83 : decode cX0_settleIn 83 = .ok (.iload_n 2, 1) := by decide +kernel
theorem d_X0_settleIn_84 : decode cX0_settleIn 84 = .ok (.aload_n 1, 1) := by decide +kernel
theorem d_X0_settleIn_85 : decode cX0_settleIn 85 = .ok (.getfield 27, 3) := by decide +kernel
theorem d_X0_settleIn_88 : decode cX0_settleIn 88 = .ok (.iconst 3, 1) := by decide +kernel
theorem d_X0_settleIn_89 : decode cX0_settleIn 89 = .ok (.iaload, 1) := by decide +kernel
theorem d_X0_settleIn_90 : decode cX0_settleIn 90 = .ok (.if_icmp .ge 25, 3) := by decide +kernel
theorem d_X0_settleIn_93 : decode cX0_settleIn 93 = .ok (.aload_n 0, 1) := by decide +kernel
theorem d_X0_settleIn_94 : decode cX0_settleIn 94 = .ok (.getfield 11, 3) := by decide +kernel
theorem d_X0_settleIn_97 : decode cX0_settleIn 97 = .ok (.bipush 16, 2) := by decide +kernel
theorem d_X0_settleIn_99 : decode cX0_settleIn 99 = .ok (.iload_n 2, 1) := by decide +kernel
theorem d_X0_settleIn_100 : decode cX0_settleIn 100 = .ok (.iadd, 1) := by decide +kernel
theorem d_X0_settleIn_101 : decode cX0_settleIn 101 = .ok (.aload_n 1, 1) := by decide +kernel
theorem d_X0_settleIn_102 : decode cX0_settleIn 102 = .ok (.iconst 3, 1) := by decide +kernel
theorem d_X0_settleIn_103 : decode cX0_settleIn 103 = .ok (.iload_n 2, 1) := by decide +kernel
theorem d_X0_settleIn_104 : decode cX0_settleIn 104 = .ok (.iconst 1, 1) := by decide +kernel
theorem d_X0_settleIn_105 : decode cX0_settleIn 105 = .ok (.invokevirtual 32, 3) := by decide +kernel
theorem d_X0_settleIn_108 : decode cX0_settleIn 108 = .ok (.iastore, 1) := by decide +kernel
theorem d_X0_settleIn_109 : decode cX0_settleIn 109 = .ok (.iinc 2 1, 3) := by decide +kernel
theorem d_X0_settleIn_112 : decode cX0_settleIn 112 = .ok (.goto (-29), 3) := by decide +kernel
theorem d_X0_settleIn_115 : decode cX0_settleIn 115 = .ok (.return_, 1) := by decide +kernel
def f_X0_settleIn (this : Nat) (a1 : Nat) : sa_M Unit :=
sa_gd 0 this (
sa_bnd (sa_rdR 0 this 0) fun v1 =>
sa_bnd (f_J7_fill_53178 v1 0) fun _ =>
sa_bnd (sa_rdR 0 this 0) fun v2 =>
sa_bnd (sa_rdR 1 a1 0) fun v3 =>
sa_bnd (sa_ldI .int v3 2) fun v4 =>
sa_bnd (sa_stI v2 22 v4) fun _ =>
sa_let (0 : Int32) fun x5 =>
sa_wh1 (fun j23 (x6 : Int32) =>
sa_bnd (sa_rdR 0 this 0) fun v7 =>
sa_bnd (sa_ldI .int v7 22) fun v8 =>
if v8 ≤ x6 then
sa_let (0 : Int32) fun x9 =>
sa_wh1 (fun j83 (x10 : Int32) =>
sa_bnd (sa_rdR 1 a1 0) fun v11 =>
sa_bnd (sa_ldI .int v11 3) fun v12 =>
if v12 ≤ x10 then
sa_ret ()
else
sa_bnd (sa_rdR 0 this 0) fun v13 =>
sa_bnd (f_X1_cell a1 3 x10 1) fun v14 =>
sa_bnd (sa_stI v13 (16 + x10) v14) fun _ =>
sa_let ((x10 + 1) : Int32) fun x15 =>
j83 x15) sa_F x9
else
sa_bnd (f_X1_cell a1 2 x6 0) fun v16 =>
sa_bnd (f_X0_set this x6 0 v16) fun _ =>
sa_let (1 : Int32) fun x17 =>
sa_wh1 (fun j49 (x18 : Int32) =>
if 5 ≤ x18 then
sa_let ((x6 + 1) : Int32) fun x19 =>
j23 x19
else
sa_bnd (f_X1_cell a1 2 x6 x18) fun v20 =>
sa_bnd (f_X0_set this x6 (x18 + 1) v20) fun _ =>
sa_let ((x18 + 1) : Int32) fun x21 =>
j49 x21) sa_F x17) sa_F x5)
set_option maxHeartbeats 1000000 in
set_option maxRecDepth 10000 in
theorem b_X0_settleIn {p : Program} {l : Launch} {e : Env} {s : State} {m : MethodId} {args : Array Value} {below : List Frame} {meth : Method} {c : Code} {D : va_G} {ad : Nat → Nat} {cA : FieldType → ClassId} {A : Nat → Prop} (this : Nat) (a1 : Nat) (C : sa_C p s m args meth c cX0_settleIn RX0 "settleIn" 4 none D ad cA A) : sa_Sg p l e s m args below meth c 4 2 D ad cA A sa_eV 0 [(0, .ref (ad this)), (1, .ref (ad a1))] [] (f_X0_settleIn this a1) := by
  unfold f_X0_settleIn
  refine sa_gdI ?_
  refine sa_aload_n C d_X0_settleIn_0 rfl 0 rfl ?_
  refine sa_getR C fd_X0_11 rfl d_X0_settleIn_1 (fun v1 => ?_)
  refine sa_iconst (v := 0) C d_X0_settleIn_4 (by decide) ?_
  refine sa_invS C (k_J7_fill_53178 v1 0) q309 ds_J7_fill_53178 q124 q308 q754 rfl rfl rfl (Nat.le_of_ble_eq_true rfl) (by decide) (by decide) d_X0_settleIn_5 (fun _ => ?_)
  refine sa_aload_n C d_X0_settleIn_8 rfl 0 rfl ?_
  refine sa_getR C fd_X0_11 rfl d_X0_settleIn_9 (fun v2 => ?_)
  refine sa_bipush (v := 22) C d_X0_settleIn_12 (by decide) ?_
  refine sa_aload_n C d_X0_settleIn_14 rfl 1 rfl ?_
  refine sa_getR C fd_X0_27 rfl d_X0_settleIn_15 (fun v3 => ?_)
  refine sa_iconst (v := 2) C d_X0_settleIn_18 (by decide) ?_
  refine sa_iald C d_X0_settleIn_19 (fun v4 => ?_)
  refine sa_iast C d_X0_settleIn_20 ?_
  refine sa_iconst (v := 0) C d_X0_settleIn_21 (by decide) ?_
  refine sa_topi (fun x5 => ?_)
  refine sa_istore_n (lv' := [(2, .int x5), (0, .ref (ad this)), (1, .ref (ad a1))]) C d_X0_settleIn_22 rfl (by decide) rfl ?_
  refine sa_sub [1, 2, 0] rfl (sa_loop1 (fun x6 => [(0, .ref (ad this)), (1, .ref (ad a1)), (2, .int x6)]) (fun x6 => []) (fun j23 hj23 x6 => ?_) _ _)
  refine sa_iload_n C d_X0_settleIn_23 rfl 2 rfl ?_
  refine sa_aload_n C d_X0_settleIn_24 rfl 0 rfl ?_
  refine sa_getR C fd_X0_11 rfl d_X0_settleIn_25 (fun v7 => ?_)
  refine sa_bipush (v := 22) C d_X0_settleIn_28 (by decide) ?_
  refine sa_iald C d_X0_settleIn_30 (fun v8 => ?_)
  refine sa_icmp_ge (tgt := 81) C d_X0_settleIn_31 (by decide) ?_ ?_
  · refine sa_iconst (v := 0) C d_X0_settleIn_81 (by decide) ?_
    refine sa_topi (fun x9 => ?_)
    refine sa_istore_n (lv' := [(2, .int x9), (0, .ref (ad this)), (1, .ref (ad a1))]) C d_X0_settleIn_82 rfl (by decide) rfl ?_
    refine sa_sub [1, 2, 0] rfl (sa_loop1 (fun x10 => [(0, .ref (ad this)), (1, .ref (ad a1)), (2, .int x10)]) (fun x10 => []) (fun j83 hj83 x10 => ?_) _ _)
    refine sa_iload_n C d_X0_settleIn_83 rfl 2 rfl ?_
    refine sa_aload_n C d_X0_settleIn_84 rfl 1 rfl ?_
    refine sa_getR C fd_X0_27 rfl d_X0_settleIn_85 (fun v11 => ?_)
    refine sa_iconst (v := 3) C d_X0_settleIn_88 (by decide) ?_
    refine sa_iald C d_X0_settleIn_89 (fun v12 => ?_)
    refine sa_icmp_ge (tgt := 115) C d_X0_settleIn_90 (by decide) ?_ ?_
    · exact sa_vret C d_X0_settleIn_115
    refine sa_aload_n C d_X0_settleIn_93 rfl 0 rfl ?_
    refine sa_getR C fd_X0_11 rfl d_X0_settleIn_94 (fun v13 => ?_)
    refine sa_bipush (v := 16) C d_X0_settleIn_97 (by decide) ?_
    refine sa_iload_n C d_X0_settleIn_99 rfl 2 rfl ?_
    refine sa_iadd C d_X0_settleIn_100 ?_
    refine sa_aload_n C d_X0_settleIn_101 rfl 1 rfl ?_
    refine sa_iconst (v := 3) C d_X0_settleIn_102 (by decide) ?_
    refine sa_iload_n C d_X0_settleIn_103 rfl 2 rfl ?_
    refine sa_iconst (v := 1) C d_X0_settleIn_104 (by decide) ?_
    refine sa_invV (ci := 1) C (k_X1_cell a1 3 x10 1) q644 ds_X1_cell q116 rfl q642 q643 q755 (gd_X1_cell a1 3 x10 1) rfl rfl rfl (Nat.le_of_ble_eq_true rfl) (by decide) (by decide) d_X0_settleIn_105 (fun v14 => ?_)
    refine sa_iast C d_X0_settleIn_108 ?_
    refine sa_iinc C (fun zz => [(2, .int zz), (0, .ref (ad this)), (1, .ref (ad a1))]) d_X0_settleIn_109 2 rfl rfl (by decide) (fun _ => rfl) (fun x15 => ?_)
    refine sa_goto (tgt := 83) C d_X0_settleIn_112 (by decide) ?_
    exact sa_sub [1, 2, 0] rfl (hj83 _)
  refine sa_aload_n C d_X0_settleIn_34 rfl 0 rfl ?_
  refine sa_iload_n C d_X0_settleIn_35 rfl 2 rfl ?_
  refine sa_iconst (v := 0) C d_X0_settleIn_36 (by decide) ?_
  refine sa_aload_n C d_X0_settleIn_37 rfl 1 rfl ?_
  refine sa_iconst (v := 2) C d_X0_settleIn_38 (by decide) ?_
  refine sa_iload_n C d_X0_settleIn_39 rfl 2 rfl ?_
  refine sa_iconst (v := 0) C d_X0_settleIn_40 (by decide) ?_
  refine sa_invV (ci := 1) C (k_X1_cell a1 2 x6 0) q644 ds_X1_cell q116 rfl q642 q643 q755 (gd_X1_cell a1 2 x6 0) rfl rfl rfl (Nat.le_of_ble_eq_true rfl) (by decide) (by decide) d_X0_settleIn_41 (fun v16 => ?_)
  refine sa_invV (ci := 0) C (k_X0_set this x6 0 v16) q759 ds_X0_set q121 rfl q758 q17 q756 (gd_X0_set this x6 0 v16) rfl rfl rfl (Nat.le_of_ble_eq_true rfl) (by decide) (by decide) d_X0_settleIn_44 (fun _ => ?_)
  refine sa_iconst (v := 1) C d_X0_settleIn_47 (by decide) ?_
  refine sa_topi (fun x17 => ?_)
  refine sa_istore_n (lv' := [(3, .int x17), (0, .ref (ad this)), (1, .ref (ad a1)), (2, .int x6)]) C d_X0_settleIn_48 rfl (by decide) rfl ?_
  refine sa_sub [1, 2, 3, 0] rfl (sa_loop1 (fun x18 => [(0, .ref (ad this)), (1, .ref (ad a1)), (2, .int x6), (3, .int x18)]) (fun x18 => []) (fun j49 hj49 x18 => ?_) _ _)
  refine sa_iload_n C d_X0_settleIn_49 rfl 3 rfl ?_
  refine sa_iconst (v := 5) C d_X0_settleIn_50 (by decide) ?_
  refine sa_icmp_ge (tgt := 75) C d_X0_settleIn_51 (by decide) ?_ ?_
  · refine sa_iinc C (fun zz => [(2, .int zz), (0, .ref (ad this)), (1, .ref (ad a1)), (3, .int x18)]) d_X0_settleIn_75 2 rfl rfl (by decide) (fun _ => rfl) (fun x19 => ?_)
    refine sa_goto (tgt := 23) C d_X0_settleIn_78 (by decide) ?_
    exact sa_sub [1, 2, 0] rfl (hj23 _)
  refine sa_aload_n C d_X0_settleIn_54 rfl 0 rfl ?_
  refine sa_iload_n C d_X0_settleIn_55 rfl 2 rfl ?_
  refine sa_iload_n C d_X0_settleIn_56 rfl 3 rfl ?_
  refine sa_iconst (v := 1) C d_X0_settleIn_57 (by decide) ?_
  refine sa_iadd C d_X0_settleIn_58 ?_
  refine sa_aload_n C d_X0_settleIn_59 rfl 1 rfl ?_
  refine sa_iconst (v := 2) C d_X0_settleIn_60 (by decide) ?_
  refine sa_iload_n C d_X0_settleIn_61 rfl 2 rfl ?_
  refine sa_iload_n C d_X0_settleIn_62 rfl 3 rfl ?_
  refine sa_invV (ci := 1) C (k_X1_cell a1 2 x6 x18) q644 ds_X1_cell q116 rfl q642 q643 q755 (gd_X1_cell a1 2 x6 x18) rfl rfl rfl (Nat.le_of_ble_eq_true rfl) (by decide) (by decide) d_X0_settleIn_63 (fun v20 => ?_)
  refine sa_invV (ci := 0) C (k_X0_set this x6 (x18 + 1) v20) q759 ds_X0_set q121 rfl q758 q17 q756 (gd_X0_set this x6 (x18 + 1) v20) rfl rfl rfl (Nat.le_of_ble_eq_true rfl) (by decide) (by decide) d_X0_settleIn_66 (fun _ => ?_)
  refine sa_iinc C (fun zz => [(3, .int zz), (0, .ref (ad this)), (1, .ref (ad a1)), (2, .int x6)]) d_X0_settleIn_69 3 rfl rfl (by decide) (fun _ => rfl) (fun x21 => ?_)
  refine sa_goto (tgt := 49) C d_X0_settleIn_72 (by decide) ?_
  exact sa_sub [1, 2, 3, 0] rfl (hj49 _)
theorem k_X0_settleIn (this : Nat) (a1 : Nat) : sa_Met 2 yX0_settleIn cX0_settleIn 4 none (fun ad => [.ref (ad this), .ref (ad a1)]) sa_eV (f_X0_settleIn this a1) := sa_mk (by decide) (fun ad => Nat.le_of_ble_eq_true rfl) (fun p l e s m args below meth c D ad cA A C => b_X0_settleIn this a1 C)
theorem gd_X0_settleIn (this : Nat) (a1 : Nat) (σ : sa_St) (r : Unit) (τ : sa_St) (h : f_X0_settleIn this a1 σ = some (r, τ)) : sa_sh this = some (.inl 0) := sa_gd_ok h
theorem d_X0_of_0 : decode cX0_of 0 = .ok (.aload_n 0, 1) := by decide +kernel
theorem d_X0_of_1 : decode cX0_of 1 = .ok (.getfield 11, 3) := by decide +kernel
theorem d_X0_of_4 : decode cX0_of 4 = .ok (.bipush 23, 2) := by decide +kernel
theorem d_X0_of_6 : decode cX0_of 6 = .ok (.iload_n 1, 1) := by decide +kernel
theorem d_X0_of_7 : decode cX0_of 7 = .ok (.bipush 7, 2) := by decide +kernel
theorem d_X0_of_9 : decode cX0_of 9 = .ok (.imul, 1) := by decide +kernel
theorem d_X0_of_10 : decode cX0_of 10 = .ok (.iadd, 1) := by decide +kernel
theorem d_X0_of_11 : decode cX0_of 11 = .ok (.iload_n 2, 1) := by decide +kernel
theorem d_X0_of_12 : decode cX0_of 12 = .ok (.iadd, 1) := by decide +kernel
theorem d_X0_of_13 : decode cX0_of 13 = .ok (.iaload, 1) := by decide +kernel
theorem d_X0_of_14 : decode cX0_of 14 = .ok (.ireturn, 1) := by decide +kernel
def f_X0_of (this : Nat) (a1 : Int32) (a2 : Int32) : sa_M Int32 :=
sa_gd 0 this (
sa_bnd (sa_rdR 0 this 0) fun v1 =>
sa_bnd (sa_ldI .int v1 ((23 + (a1 * 7)) + a2)) fun v2 =>
sa_ret (v2 : Int32))
set_option maxHeartbeats 1000000 in
set_option maxRecDepth 10000 in
theorem b_X0_of {p : Program} {l : Launch} {e : Env} {s : State} {m : MethodId} {args : Array Value} {below : List Frame} {meth : Method} {c : Code} {D : va_G} {ad : Nat → Nat} {cA : FieldType → ClassId} {A : Nat → Prop} (this : Nat) (a1 : Int32) (a2 : Int32) (C : sa_C p s m args meth c cX0_of RX0 "of" 3 (some .int) D ad cA A) : sa_Sg p l e s m args below meth c 3 1 D ad cA A sa_eI 0 [(0, .ref (ad this)), (1, .int a1), (2, .int a2)] [] (f_X0_of this a1 a2) := by
  unfold f_X0_of
  refine sa_gdI ?_
  refine sa_aload_n C d_X0_of_0 rfl 0 rfl ?_
  refine sa_getR C fd_X0_11 rfl d_X0_of_1 (fun v1 => ?_)
  refine sa_bipush (v := 23) C d_X0_of_4 (by decide) ?_
  refine sa_iload_n C d_X0_of_6 rfl 1 rfl ?_
  refine sa_bipush (v := 7) C d_X0_of_7 (by decide) ?_
  refine sa_imul C d_X0_of_9 ?_
  refine sa_iadd C d_X0_of_10 ?_
  refine sa_iload_n C d_X0_of_11 rfl 2 rfl ?_
  refine sa_iadd C d_X0_of_12 ?_
  refine sa_iald C d_X0_of_13 (fun v2 => ?_)
  exact sa_iret C d_X0_of_14
theorem k_X0_of (this : Nat) (a1 : Int32) (a2 : Int32) : sa_Met 1 yX0_of cX0_of 3 (some .int) (fun ad => [.ref (ad this), .int a1, .int a2]) sa_eI (f_X0_of this a1 a2) := sa_mk (by decide) (fun ad => Nat.le_of_ble_eq_true rfl) (fun p l e s m args below meth c D ad cA A C => b_X0_of this a1 a2 C)
theorem gd_X0_of (this : Nat) (a1 : Int32) (a2 : Int32) (σ : sa_St) (r : Int32) (τ : sa_St) (h : f_X0_of this a1 a2 σ = some (r, τ)) : sa_sh this = some (.inl 0) := sa_gd_ok h
theorem d_X0_hasCompany_0 : decode cX0_hasCompany 0 = .ok (.iload_n 1, 1) := by decide +kernel
theorem d_X0_hasCompany_1 : decode cX0_hasCompany 1 = .ok (.ifCond .lt 18, 3) := by decide +kernel
theorem d_X0_hasCompany_4 : decode cX0_hasCompany 4 = .ok (.iload_n 1, 1) := by decide +kernel
theorem d_X0_hasCompany_5 : decode cX0_hasCompany 5 = .ok (.aload_n 0, 1) := by decide +kernel
theorem d_X0_hasCompany_6 : decode cX0_hasCompany 6 = .ok (.getfield 11, 3) := by decide +kernel
theorem d_X0_hasCompany_9 : decode cX0_hasCompany 9 = .ok (.bipush 22, 2) := by decide +kernel
theorem d_X0_hasCompany_11 : decode cX0_hasCompany 11 = .ok (.iaload, 1) := by decide +kernel
theorem d_X0_hasCompany_12 : decode cX0_hasCompany 12 = .ok (.if_icmp .ge 7, 3) := by decide +kernel
theorem d_X0_hasCompany_15 : decode cX0_hasCompany 15 = .ok (.iconst 1, 1) := by decide +kernel
theorem d_X0_hasCompany_16 : decode cX0_hasCompany 16 = .ok (.goto 4, 3) := by decide +kernel
theorem d_X0_hasCompany_19 : decode cX0_hasCompany 19 = .ok (.iconst 0, 1) := by decide +kernel
theorem d_X0_hasCompany_20 : decode cX0_hasCompany 20 = .ok (.ireturn, 1) := by decide +kernel
def f_X0_hasCompany (this : Nat) (a1 : Int32) : sa_M Int32 :=
sa_gd 0 this (
sa_jn1 (fun (y1 : Int32) =>
sa_retZ y1) fun j20 =>
sa_jn0 (j20 0) fun j19 =>
if a1 < 0 then
j19
else
sa_bnd (sa_rdR 0 this 0) fun v2 =>
sa_bnd (sa_ldI .int v2 22) fun v3 =>
if v3 ≤ a1 then
j19
else
j20 1)
set_option maxHeartbeats 1000000 in
set_option maxRecDepth 10000 in
theorem b_X0_hasCompany {p : Program} {l : Launch} {e : Env} {s : State} {m : MethodId} {args : Array Value} {below : List Frame} {meth : Method} {c : Code} {D : va_G} {ad : Nat → Nat} {cA : FieldType → ClassId} {A : Nat → Prop} (this : Nat) (a1 : Int32) (C : sa_C p s m args meth c cX0_hasCompany RX0 "hasCompany" 2 (some .boolean) D ad cA A) : sa_Sg p l e s m args below meth c 2 1 D ad cA A sa_eI 0 [(0, .ref (ad this)), (1, .int a1)] [] (f_X0_hasCompany this a1) := by
  unfold f_X0_hasCompany
  refine sa_gdI ?_
  refine sa_iload_n C d_X0_hasCompany_0 rfl 1 rfl ?_
  refine sa_join1 20 (fun y1 => []) (fun y1 => [.int y1]) (fun y1 => ?_) (fun j20 hj20 => ?_)
  · exact sa_zret C d_X0_hasCompany_20
  refine sa_join0 19 ([]) ([]) (?_) (fun j19 hj19 => ?_)
  · refine sa_iconst (v := 0) C d_X0_hasCompany_19 (by decide) ?_
    exact sa_sub [] rfl (hj20 _)
  refine sa_if_lt (tgt := 19) C d_X0_hasCompany_1 (by decide) ?_ ?_
  · exact sa_sub [] rfl (hj19)
  refine sa_iload_n C d_X0_hasCompany_4 rfl 1 rfl ?_
  refine sa_aload_n C d_X0_hasCompany_5 rfl 0 rfl ?_
  refine sa_getR C fd_X0_11 rfl d_X0_hasCompany_6 (fun v2 => ?_)
  refine sa_bipush (v := 22) C d_X0_hasCompany_9 (by decide) ?_
  refine sa_iald C d_X0_hasCompany_11 (fun v3 => ?_)
  refine sa_icmp_ge (tgt := 19) C d_X0_hasCompany_12 (by decide) ?_ ?_
  · exact sa_sub [] rfl (hj19)
  refine sa_iconst (v := 1) C d_X0_hasCompany_15 (by decide) ?_
  refine sa_goto (tgt := 20) C d_X0_hasCompany_16 (by decide) ?_
  exact sa_sub [] rfl (hj20 _)
theorem k_X0_hasCompany (this : Nat) (a1 : Int32) : sa_Met 1 yX0_hasCompany cX0_hasCompany 2 (some .boolean) (fun ad => [.ref (ad this), .int a1]) sa_eI (f_X0_hasCompany this a1) := sa_mk (by decide) (fun ad => Nat.le_of_ble_eq_true rfl) (fun p l e s m args below meth c D ad cA A C => b_X0_hasCompany this a1 C)
theorem gd_X0_hasCompany (this : Nat) (a1 : Int32) (σ : sa_St) (r : Int32) (τ : sa_St) (h : f_X0_hasCompany this a1 σ = some (r, τ)) : sa_sh this = some (.inl 0) := sa_gd_ok h
theorem d_X0_lives_0 : decode cX0_lives 0 = .ok (.aload_n 0, 1) := by decide +kernel
theorem d_X0_lives_1 : decode cX0_lives 1 = .ok (.iload_n 1, 1) := by decide +kernel
theorem d_X0_lives_2 : decode cX0_lives 2 = .ok (.invokevirtual 40, 3) := by decide +kernel
theorem d_X0_lives_5 : decode cX0_lives 5 = .ok (.ifCond .eq 16, 3) := by decide +kernel
theorem d_X0_lives_8 : decode cX0_lives 8 = .ok (.aload_n 0, 1) := by decide +kernel
theorem d_X0_lives_9 : decode cX0_lives 9 = .ok (.iload_n 1, 1) := by decide +kernel
theorem d_X0_lives_10 : decode cX0_lives 10 = .ok (.iconst 2, 1) := by decide +kernel
theorem d_X0_lives_11 : decode cX0_lives 11 = .ok (.invokevirtual 44, 3) := by decide +kernel
theorem d_X0_lives_14 : decode cX0_lives 14 = .ok (.ifCond .le 7, 3) := by decide +kernel
theorem d_X0_lives_17 : decode cX0_lives 17 = .ok (.iconst 1, 1) := by decide +kernel
theorem d_X0_lives_18 : decode cX0_lives 18 = .ok (.goto 4, 3) := by decide +kernel
theorem d_X0_lives_21 : decode cX0_lives 21 = .ok (.iconst 0, 1) := by decide +kernel
theorem d_X0_lives_22 : decode cX0_lives 22 = .ok (.ireturn, 1) := by decide +kernel
def f_X0_lives (this : Nat) (a1 : Int32) : sa_M Int32 :=
sa_gd 0 this (
sa_bnd (f_X0_hasCompany this a1) fun v1 =>
sa_jn1 (fun (y2 : Int32) =>
sa_retZ y2) fun j22 =>
sa_jn0 (j22 0) fun j21 =>
if v1 = 0 then
j21
else
sa_bnd (f_X0_of this a1 2) fun v3 =>
if v3 ≤ 0 then
j21
else
j22 1)
set_option maxHeartbeats 1000000 in
set_option maxRecDepth 10000 in
theorem b_X0_lives {p : Program} {l : Launch} {e : Env} {s : State} {m : MethodId} {args : Array Value} {below : List Frame} {meth : Method} {c : Code} {D : va_G} {ad : Nat → Nat} {cA : FieldType → ClassId} {A : Nat → Prop} (this : Nat) (a1 : Int32) (C : sa_C p s m args meth c cX0_lives RX0 "lives" 2 (some .boolean) D ad cA A) : sa_Sg p l e s m args below meth c 2 2 D ad cA A sa_eI 0 [(0, .ref (ad this)), (1, .int a1)] [] (f_X0_lives this a1) := by
  unfold f_X0_lives
  refine sa_gdI ?_
  refine sa_aload_n C d_X0_lives_0 rfl 0 rfl ?_
  refine sa_iload_n C d_X0_lives_1 rfl 1 rfl ?_
  refine sa_invV (ci := 0) C (k_X0_hasCompany this a1) q797 ds_X0_hasCompany q121 rfl q795 q796 q794 (gd_X0_hasCompany this a1) rfl rfl rfl (Nat.le_of_ble_eq_true rfl) (by decide) (by decide) d_X0_lives_2 (fun v1 => ?_)
  refine sa_join1 22 (fun y2 => []) (fun y2 => [.int y2]) (fun y2 => ?_) (fun j22 hj22 => ?_)
  · exact sa_zret C d_X0_lives_22
  refine sa_join0 21 ([]) ([]) (?_) (fun j21 hj21 => ?_)
  · refine sa_iconst (v := 0) C d_X0_lives_21 (by decide) ?_
    exact sa_sub [] rfl (hj22 _)
  refine sa_if_eq (tgt := 21) C d_X0_lives_5 (by decide) ?_ ?_
  · exact sa_sub [] rfl (hj21)
  refine sa_aload_n C d_X0_lives_8 rfl 0 rfl ?_
  refine sa_iload_n C d_X0_lives_9 rfl 1 rfl ?_
  refine sa_iconst (v := 2) C d_X0_lives_10 (by decide) ?_
  refine sa_invV (ci := 0) C (k_X0_of this a1 2) q801 ds_X0_of q121 rfl q799 q800 q798 (gd_X0_of this a1 2) rfl rfl rfl (Nat.le_of_ble_eq_true rfl) (by decide) (by decide) d_X0_lives_11 (fun v3 => ?_)
  refine sa_if_le (tgt := 21) C d_X0_lives_14 (by decide) ?_ ?_
  · exact sa_sub [] rfl (hj21)
  refine sa_iconst (v := 1) C d_X0_lives_17 (by decide) ?_
  refine sa_goto (tgt := 22) C d_X0_lives_18 (by decide) ?_
  exact sa_sub [] rfl (hj22 _)
theorem k_X0_lives (this : Nat) (a1 : Int32) : sa_Met 2 yX0_lives cX0_lives 2 (some .boolean) (fun ad => [.ref (ad this), .int a1]) sa_eI (f_X0_lives this a1) := sa_mk (by decide) (fun ad => Nat.le_of_ble_eq_true rfl) (fun p l e s m args below meth c D ad cA A C => b_X0_lives this a1 C)
theorem gd_X0_lives (this : Nat) (a1 : Int32) (σ : sa_St) (r : Int32) (τ : sa_St) (h : f_X0_lives this a1 σ = some (r, τ)) : sa_sh this = some (.inl 0) := sa_gd_ok h
theorem d_X0_isAtPlace_0 : decode cX0_isAtPlace 0 = .ok (.aload_n 0, 1) := by decide +kernel
theorem d_X0_isAtPlace_1 : decode cX0_isAtPlace 1 = .ok (.iload_n 1, 1) := by decide +kernel
theorem d_X0_isAtPlace_2 : decode cX0_isAtPlace 2 = .ok (.invokevirtual 40, 3) := by decide +kernel
theorem d_X0_isAtPlace_5 : decode cX0_isAtPlace 5 = .ok (.ifCond .eq 25, 3) := by decide +kernel
theorem d_X0_isAtPlace_8 : decode cX0_isAtPlace 8 = .ok (.aload_n 0, 1) := by decide +kernel
theorem d_X0_isAtPlace_9 : decode cX0_isAtPlace 9 = .ok (.iload_n 1, 1) := by decide +kernel
theorem d_X0_isAtPlace_10 : decode cX0_isAtPlace 10 = .ok (.iconst 2, 1) := by decide +kernel
theorem d_X0_isAtPlace_11 : decode cX0_isAtPlace 11 = .ok (.invokevirtual 44, 3) := by decide +kernel
theorem d_X0_isAtPlace_14 : decode cX0_isAtPlace 14 = .ok (.ifCond .le 16, 3) := by decide +kernel
theorem d_X0_isAtPlace_17 : decode cX0_isAtPlace 17 = .ok (.aload_n 0, 1) := by decide +kernel
theorem d_X0_isAtPlace_18 : decode cX0_isAtPlace 18 = .ok (.iload_n 1, 1) := by decide +kernel
theorem d_X0_isAtPlace_19 : decode cX0_isAtPlace 19 = .ok (.iconst 1, 1) := by decide +kernel
theorem d_X0_isAtPlace_20 : decode cX0_isAtPlace 20 = .ok (.invokevirtual 44, 3) := by decide +kernel
theorem d_X0_isAtPlace_23 : decode cX0_isAtPlace 23 = .ok (.ifCond .ne 7, 3) := by decide +kernel
theorem d_X0_isAtPlace_26 : decode cX0_isAtPlace 26 = .ok (.iconst 1, 1) := by decide +kernel
theorem d_X0_isAtPlace_27 : decode cX0_isAtPlace 27 = .ok (.goto 4, 3) := by decide +kernel
theorem d_X0_isAtPlace_30 : decode cX0_isAtPlace 30 = .ok (.iconst 0, 1) := by decide +kernel
theorem d_X0_isAtPlace_31 : decode cX0_isAtPlace 31 = .ok (.ireturn, 1) := by decide +kernel
def f_X0_isAtPlace (this : Nat) (a1 : Int32) : sa_M Int32 :=
sa_gd 0 this (
sa_bnd (f_X0_hasCompany this a1) fun v1 =>
sa_jn1 (fun (y2 : Int32) =>
sa_retZ y2) fun j31 =>
sa_jn0 (j31 0) fun j30 =>
if v1 = 0 then
j30
else
sa_bnd (f_X0_of this a1 2) fun v3 =>
if v3 ≤ 0 then
j30
else
sa_bnd (f_X0_of this a1 1) fun v4 =>
if ¬ v4 = 0 then
j30
else
j31 1)
set_option maxHeartbeats 1000000 in
set_option maxRecDepth 10000 in
theorem b_X0_isAtPlace {p : Program} {l : Launch} {e : Env} {s : State} {m : MethodId} {args : Array Value} {below : List Frame} {meth : Method} {c : Code} {D : va_G} {ad : Nat → Nat} {cA : FieldType → ClassId} {A : Nat → Prop} (this : Nat) (a1 : Int32) (C : sa_C p s m args meth c cX0_isAtPlace RX0 "isAtPlace" 2 (some .boolean) D ad cA A) : sa_Sg p l e s m args below meth c 2 2 D ad cA A sa_eI 0 [(0, .ref (ad this)), (1, .int a1)] [] (f_X0_isAtPlace this a1) := by
  unfold f_X0_isAtPlace
  refine sa_gdI ?_
  refine sa_aload_n C d_X0_isAtPlace_0 rfl 0 rfl ?_
  refine sa_iload_n C d_X0_isAtPlace_1 rfl 1 rfl ?_
  refine sa_invV (ci := 0) C (k_X0_hasCompany this a1) q797 ds_X0_hasCompany q121 rfl q795 q796 q794 (gd_X0_hasCompany this a1) rfl rfl rfl (Nat.le_of_ble_eq_true rfl) (by decide) (by decide) d_X0_isAtPlace_2 (fun v1 => ?_)
  refine sa_join1 31 (fun y2 => []) (fun y2 => [.int y2]) (fun y2 => ?_) (fun j31 hj31 => ?_)
  · exact sa_zret C d_X0_isAtPlace_31
  refine sa_join0 30 ([]) ([]) (?_) (fun j30 hj30 => ?_)
  · refine sa_iconst (v := 0) C d_X0_isAtPlace_30 (by decide) ?_
    exact sa_sub [] rfl (hj31 _)
  refine sa_if_eq (tgt := 30) C d_X0_isAtPlace_5 (by decide) ?_ ?_
  · exact sa_sub [] rfl (hj30)
  refine sa_aload_n C d_X0_isAtPlace_8 rfl 0 rfl ?_
  refine sa_iload_n C d_X0_isAtPlace_9 rfl 1 rfl ?_
  refine sa_iconst (v := 2) C d_X0_isAtPlace_10 (by decide) ?_
  refine sa_invV (ci := 0) C (k_X0_of this a1 2) q801 ds_X0_of q121 rfl q799 q800 q798 (gd_X0_of this a1 2) rfl rfl rfl (Nat.le_of_ble_eq_true rfl) (by decide) (by decide) d_X0_isAtPlace_11 (fun v3 => ?_)
  refine sa_if_le (tgt := 30) C d_X0_isAtPlace_14 (by decide) ?_ ?_
  · exact sa_sub [] rfl (hj30)
  refine sa_aload_n C d_X0_isAtPlace_17 rfl 0 rfl ?_
  refine sa_iload_n C d_X0_isAtPlace_18 rfl 1 rfl ?_
  refine sa_iconst (v := 1) C d_X0_isAtPlace_19 (by decide) ?_
  refine sa_invV (ci := 0) C (k_X0_of this a1 1) q801 ds_X0_of q121 rfl q799 q800 q798 (gd_X0_of this a1 1) rfl rfl rfl (Nat.le_of_ble_eq_true rfl) (by decide) (by decide) d_X0_isAtPlace_20 (fun v4 => ?_)
  refine sa_if_ne (tgt := 30) C d_X0_isAtPlace_23 (by decide) ?_ ?_
  · exact sa_sub [] rfl (hj30)
  refine sa_iconst (v := 1) C d_X0_isAtPlace_26 (by decide) ?_
  refine sa_goto (tgt := 31) C d_X0_isAtPlace_27 (by decide) ?_
  exact sa_sub [] rfl (hj31 _)
theorem k_X0_isAtPlace (this : Nat) (a1 : Int32) : sa_Met 2 yX0_isAtPlace cX0_isAtPlace 2 (some .boolean) (fun ad => [.ref (ad this), .int a1]) sa_eI (f_X0_isAtPlace this a1) := sa_mk (by decide) (fun ad => Nat.le_of_ble_eq_true rfl) (fun p l e s m args below meth c D ad cA A C => b_X0_isAtPlace this a1 C)
theorem gd_X0_isAtPlace (this : Nat) (a1 : Int32) (σ : sa_St) (r : Int32) (τ : sa_St) (h : f_X0_isAtPlace this a1 σ = some (r, τ)) : sa_sh this = some (.inl 0) := sa_gd_ok h
theorem d_X0_lossByRain_0 : decode cX0_lossByRain 0 = .ok (.aload_n 1, 1) := by decide +kernel
theorem d_X0_lossByRain_1 : decode cX0_lossByRain 1 = .ok (.iconst 0, 1) := by decide +kernel
theorem d_X0_lossByRain_2 : decode cX0_lossByRain 2 = .ok (.aload_n 0, 1) := by decide +kernel
theorem d_X0_lossByRain_3 : decode cX0_lossByRain 3 = .ok (.iload_n 3, 1) := by decide +kernel
theorem d_X0_lossByRain_4 : decode cX0_lossByRain 4 = .ok (.iconst 0, 1) := by decide +kernel
theorem d_X0_lossByRain_5 : decode cX0_lossByRain 5 = .ok (.invokevirtual 44, 3) := by decide +kernel
theorem d_X0_lossByRain_8 : decode cX0_lossByRain 8 = .ok (.iconst 0, 1) := by decide +kernel
theorem d_X0_lossByRain_9 : decode cX0_lossByRain 9 = .ok (.invokevirtual 32, 3) := by decide +kernel
theorem d_X0_lossByRain_12 : decode cX0_lossByRain 12 = .ok (.istore 4, 2) := by decide +kernel
theorem d_X0_lossByRain_14 : decode cX0_lossByRain 14 = .ok (.aload_n 2, 1) := by decide +kernel
theorem d_X0_lossByRain_15 : decode cX0_lossByRain 15 = .ok (.aload_n 0, 1) := by decide +kernel
theorem d_X0_lossByRain_16 : decode cX0_lossByRain 16 = .ok (.iload_n 3, 1) := by decide +kernel
theorem d_X0_lossByRain_17 : decode cX0_lossByRain 17 = .ok (.iconst 2, 1) := by decide +kernel
theorem d_X0_lossByRain_18 : decode cX0_lossByRain 18 = .ok (.invokevirtual 44, 3) := by decide +kernel
theorem d_X0_lossByRain_21 : decode cX0_lossByRain 21 = .ok (.aload_n 0, 1) := by decide +kernel
theorem d_X0_lossByRain_22 : decode cX0_lossByRain 22 = .ok (.iload_n 3, 1) := by decide +kernel
theorem d_X0_lossByRain_23 : decode cX0_lossByRain 23 = .ok (.iconst 3, 1) := by decide +kernel
theorem d_X0_lossByRain_24 : decode cX0_lossByRain 24 = .ok (.invokevirtual 44, 3) := by decide +kernel
theorem d_X0_lossByRain_27 : decode cX0_lossByRain 27 = .ok (.iload 4, 2) := by decide +kernel
theorem d_X0_lossByRain_29 : decode cX0_lossByRain 29 = .ok (.aload_n 0, 1) := by decide +kernel
theorem d_X0_lossByRain_30 : decode cX0_lossByRain 30 = .ok (.iload_n 3, 1) := by decide +kernel
theorem d_X0_lossByRain_31 : decode cX0_lossByRain 31 = .ok (.iconst 4, 1) := by decide +kernel
theorem d_X0_lossByRain_32 : decode cX0_lossByRain 32 = .ok (.invokevirtual 44, 3) := by decide +kernel
theorem d_X0_lossByRain_35 : decode cX0_lossByRain 35 = .ok (.aload_n 0, 1) := by decide +kernel
theorem d_X0_lossByRain_36 : decode cX0_lossByRain 36 = .ok (.getfield 11, 3) := by decide +kernel
theorem d_X0_lossByRain_39 : decode cX0_lossByRain 39 = .ok (.bipush 21, 2) := by decide +kernel
theorem d_X0_lossByRain_41 : decode cX0_lossByRain 41 = .ok (.iaload, 1) := by decide +kernel
theorem d_X0_lossByRain_42 : decode cX0_lossByRain 42 = .ok (.invokevirtual 48, 3) := by decide +kernel
theorem d_X0_lossByRain_45 : decode cX0_lossByRain 45 = .ok (.ireturn, 1) := by decide +kernel
def f_X0_lossByRain (this : Nat) (a1 : Nat) (a2 : Nat) (a3 : Int32) : sa_M Int32 :=
sa_gd 0 this (
sa_bnd (f_X0_of this a3 0) fun v1 =>
sa_bnd (f_X1_cell a1 0 v1 0) fun v2 =>
sa_bnd (f_X0_of this a3 2) fun v3 =>
sa_bnd (f_X0_of this a3 3) fun v4 =>
sa_bnd (f_X0_of this a3 4) fun v5 =>
sa_bnd (sa_rdR 0 this 0) fun v6 =>
sa_bnd (sa_ldI .int v6 21) fun v7 =>
sa_bnd (f_X3_loss a2 v3 v4 v2 v5 v7) fun v8 =>
sa_ret (v8 : Int32))
set_option maxHeartbeats 1000000 in
set_option maxRecDepth 10000 in
theorem b_X0_lossByRain {p : Program} {l : Launch} {e : Env} {s : State} {m : MethodId} {args : Array Value} {below : List Frame} {meth : Method} {c : Code} {D : va_G} {ad : Nat → Nat} {cA : FieldType → ClassId} {A : Nat → Prop} (this : Nat) (a1 : Nat) (a2 : Nat) (a3 : Int32) (C : sa_C p s m args meth c cX0_lossByRain RX0 "lossByRain" 5 (some .int) D ad cA A) : sa_Sg p l e s m args below meth c 5 3 D ad cA A sa_eI 0 [(0, .ref (ad this)), (1, .ref (ad a1)), (2, .ref (ad a2)), (3, .int a3)] [] (f_X0_lossByRain this a1 a2 a3) := by
  unfold f_X0_lossByRain
  refine sa_gdI ?_
  refine sa_aload_n C d_X0_lossByRain_0 rfl 1 rfl ?_
  refine sa_iconst (v := 0) C d_X0_lossByRain_1 (by decide) ?_
  refine sa_aload_n C d_X0_lossByRain_2 rfl 0 rfl ?_
  refine sa_iload_n C d_X0_lossByRain_3 rfl 3 rfl ?_
  refine sa_iconst (v := 0) C d_X0_lossByRain_4 (by decide) ?_
  refine sa_invV (ci := 0) C (k_X0_of this a3 0) q801 ds_X0_of q121 rfl q799 q800 q798 (gd_X0_of this a3 0) rfl rfl rfl (Nat.le_of_ble_eq_true rfl) (by decide) (by decide) d_X0_lossByRain_5 (fun v1 => ?_)
  refine sa_iconst (v := 0) C d_X0_lossByRain_8 (by decide) ?_
  refine sa_invV (ci := 1) C (k_X1_cell a1 0 v1 0) q644 ds_X1_cell q116 rfl q642 q643 q755 (gd_X1_cell a1 0 v1 0) rfl rfl rfl (Nat.le_of_ble_eq_true rfl) (by decide) (by decide) d_X0_lossByRain_9 (fun v2 => ?_)
  refine sa_istore (lv' := [(4, .int v2), (0, .ref (ad this)), (1, .ref (ad a1)), (2, .ref (ad a2)), (3, .int a3)]) C d_X0_lossByRain_12 (by decide) rfl ?_
  refine sa_aload_n C d_X0_lossByRain_14 rfl 3 rfl ?_
  refine sa_aload_n C d_X0_lossByRain_15 rfl 1 rfl ?_
  refine sa_iload_n C d_X0_lossByRain_16 rfl 4 rfl ?_
  refine sa_iconst (v := 2) C d_X0_lossByRain_17 (by decide) ?_
  refine sa_invV (ci := 0) C (k_X0_of this a3 2) q801 ds_X0_of q121 rfl q799 q800 q798 (gd_X0_of this a3 2) rfl rfl rfl (Nat.le_of_ble_eq_true rfl) (by decide) (by decide) d_X0_lossByRain_18 (fun v3 => ?_)
  refine sa_aload_n C d_X0_lossByRain_21 rfl 1 rfl ?_
  refine sa_iload_n C d_X0_lossByRain_22 rfl 4 rfl ?_
  refine sa_iconst (v := 3) C d_X0_lossByRain_23 (by decide) ?_
  refine sa_invV (ci := 0) C (k_X0_of this a3 3) q801 ds_X0_of q121 rfl q799 q800 q798 (gd_X0_of this a3 3) rfl rfl rfl (Nat.le_of_ble_eq_true rfl) (by decide) (by decide) d_X0_lossByRain_24 (fun v4 => ?_)
  refine sa_iload C d_X0_lossByRain_27 0 rfl ?_
  refine sa_aload_n C d_X0_lossByRain_29 rfl 1 rfl ?_
  refine sa_iload_n C d_X0_lossByRain_30 rfl 4 rfl ?_
  refine sa_iconst (v := 4) C d_X0_lossByRain_31 (by decide) ?_
  refine sa_invV (ci := 0) C (k_X0_of this a3 4) q801 ds_X0_of q121 rfl q799 q800 q798 (gd_X0_of this a3 4) rfl rfl rfl (Nat.le_of_ble_eq_true rfl) (by decide) (by decide) d_X0_lossByRain_32 (fun v5 => ?_)
  refine sa_aload_n C d_X0_lossByRain_35 rfl 1 rfl ?_
  refine sa_getR C fd_X0_11 rfl d_X0_lossByRain_36 (fun v6 => ?_)
  refine sa_bipush (v := 21) C d_X0_lossByRain_39 (by decide) ?_
  refine sa_iald C d_X0_lossByRain_41 (fun v7 => ?_)
  refine sa_invV (ci := 3) C (k_X3_loss a2 v3 v4 v2 v5 v7) q809 ds_X3_loss q117 rfl q807 q808 q806 (gd_X3_loss a2 v3 v4 v2 v5 v7) rfl rfl rfl (Nat.le_of_ble_eq_true rfl) (by decide) (by decide) d_X0_lossByRain_42 (fun v8 => ?_)
  exact sa_iret C d_X0_lossByRain_45
theorem k_X0_lossByRain (this : Nat) (a1 : Nat) (a2 : Nat) (a3 : Int32) : sa_Met 3 yX0_lossByRain cX0_lossByRain 5 (some .int) (fun ad => [.ref (ad this), .ref (ad a1), .ref (ad a2), .int a3]) sa_eI (f_X0_lossByRain this a1 a2 a3) := sa_mk (by decide) (fun ad => Nat.le_of_ble_eq_true rfl) (fun p l e s m args below meth c D ad cA A C => b_X0_lossByRain this a1 a2 a3 C)
theorem gd_X0_lossByRain (this : Nat) (a1 : Nat) (a2 : Nat) (a3 : Int32) (σ : sa_St) (r : Int32) (τ : sa_St) (h : f_X0_lossByRain this a1 a2 a3 σ = some (r, τ)) : sa_sh this = some (.inl 0) := sa_gd_ok h
theorem d_X0_setOut_0 : decode cX0_setOut 0 = .ok (.aload_n 0, 1) := by decide +kernel
theorem d_X0_setOut_1 : decode cX0_setOut 1 = .ok (.iload_n 2, 1) := by decide +kernel
theorem d_X0_setOut_2 : decode cX0_setOut 2 = .ok (.invokevirtual 54, 3) := by decide +kernel
theorem d_X0_setOut_5 : decode cX0_setOut 5 = .ok (.ifCond .eq 11, 3) := by decide +kernel
theorem d_X0_setOut_8 : decode cX0_setOut 8 = .ok (.aload_n 1, 1) := by decide +kernel
theorem d_X0_setOut_9 : decode cX0_setOut 9 = .ok (.iload_n 3, 1) := by decide +kernel
theorem d_X0_setOut_10 : decode cX0_setOut 10 = .ok (.invokevirtual 57, 3) := by decide +kernel
theorem d_X0_setOut_13 : decode cX0_setOut 13 = .ok (.ifCond .ne 5, 3) := by decide +kernel
theorem d_X0_setOut_16 : decode cX0_setOut 16 = .ok (.iconst (-1), 1) := by decide +kernel
theorem d_X0_setOut_17 : decode cX0_setOut 17 = .ok (.ireturn, 1) := by decide +kernel
theorem d_X0_setOut_18 : decode cX0_setOut 18 = .ok (.aload_n 1, 1) := by decide +kernel
theorem d_X0_setOut_19 : decode cX0_setOut 19 = .ok (.aload_n 0, 1) := by decide +kernel
theorem d_X0_setOut_20 : decode cX0_setOut 20 = .ok (.iload_n 2, 1) := by decide +kernel
theorem d_X0_setOut_21 : decode cX0_setOut 21 = .ok (.iconst 0, 1) := by decide +kernel
theorem d_X0_setOut_22 : decode cX0_setOut 22 = .ok (.invokevirtual 44, 3) := by decide +kernel
theorem d_X0_setOut_25 : decode cX0_setOut 25 = .ok (.iload_n 3, 1) := by decide +kernel
theorem d_X0_setOut_26 : decode cX0_setOut 26 = .ok (.invokevirtual 60, 3) := by decide +kernel
theorem d_X0_setOut_29 : decode cX0_setOut 29 = .ok (.istore 4, 2) := by decide +kernel
theorem d_X0_setOut_31 : decode cX0_setOut 31 = .ok (.iload 4, 2) := by decide +kernel
theorem d_X0_setOut_33 : decode cX0_setOut 33 = .ok (.ifCond .ge 5, 3) := by decide +kernel
theorem d_X0_setOut_36 : decode cX0_setOut 36 = .ok (.iconst (-1), 1) := by decide +kernel
theorem d_X0_setOut_37 : decode cX0_setOut 37 = .ok (.ireturn, 1) := by decide +kernel
theorem d_X0_setOut_38 : decode cX0_setOut 38 = .ok (.aload_n 1, 1) := by decide +kernel
theorem d_X0_setOut_39 : decode cX0_setOut 39 = .ok (.iconst 1, 1) := by decide +kernel
theorem d_X0_setOut_40 : decode cX0_setOut 40 = .ok (.iload 4, 2) := by decide +kernel
theorem d_X0_setOut_42 : decode cX0_setOut 42 = .ok (.iconst 2, 1) := by decide +kernel
theorem d_X0_setOut_43 : decode cX0_setOut 43 = .ok (.invokevirtual 32, 3) := by decide +kernel
theorem d_X0_setOut_46 : decode cX0_setOut 46 = .ok (.istore 5, 2) := by decide +kernel
theorem d_X0_setOut_48 : decode cX0_setOut 48 = .ok (.aload_n 0, 1) := by decide +kernel
theorem d_X0_setOut_49 : decode cX0_setOut 49 = .ok (.iload_n 2, 1) := by decide +kernel
theorem d_X0_setOut_50 : decode cX0_setOut 50 = .ok (.iconst 0, 1) := by decide +kernel
theorem d_X0_setOut_51 : decode cX0_setOut 51 = .ok (.iload_n 3, 1) := by decide +kernel
theorem d_X0_setOut_52 : decode cX0_setOut 52 = .ok (.invokevirtual 36, 3) := by decide +kernel
theorem d_X0_setOut_55 : decode cX0_setOut 55 = .ok (.aload_n 0, 1) := by decide +kernel
theorem d_X0_setOut_56 : decode cX0_setOut 56 = .ok (.iload_n 2, 1) := by decide +kernel
theorem d_X0_setOut_57 : decode cX0_setOut 57 = .ok (.iconst 1, 1) := by decide +kernel
theorem d_X0_setOut_58 : decode cX0_setOut 58 = .ok (.iload 5, 2) := by decide +kernel
theorem d_X0_setOut_60 : decode cX0_setOut 60 = .ok (.invokevirtual 36, 3) := by decide +kernel
theorem d_X0_setOut_63 : decode cX0_setOut 63 = .ok (.aload_n 0, 1) := by decide +kernel
theorem d_X0_setOut_64 : decode cX0_setOut 64 = .ok (.iload_n 2, 1) := by decide +kernel
theorem d_X0_setOut_65 : decode cX0_setOut 65 = .ok (.bipush 6, 2) := by decide +kernel
theorem d_X0_setOut_67 : decode cX0_setOut 67 = .ok (.iload 4, 2) := by decide +kernel
theorem d_X0_setOut_69 : decode cX0_setOut 69 = .ok (.invokevirtual 36, 3) := by decide +kernel
theorem d_X0_setOut_72 : decode cX0_setOut 72 = .ok (.iload 5, 2) := by decide +kernel
theorem d_X0_setOut_74 : decode cX0_setOut 74 = .ok (.ireturn, 1) := by decide +kernel
def f_X0_setOut (this : Nat) (a1 : Nat) (a2 : Int32) (a3 : Int32) : sa_M Int32 :=
sa_gd 0 this (
sa_bnd (f_X0_isAtPlace this a2) fun v1 =>
sa_jn0 (sa_ret ((-1) : Int32)) fun j16 =>
if v1 = 0 then
j16
else
sa_bnd (f_X1_hasPlace a1 a3) fun v2 =>
if ¬ v2 = 0 then
sa_bnd (f_X0_of this a2 0) fun v3 =>
sa_bnd (f_X1_lowestWay a1 v3 a3) fun v4 =>
if 0 ≤ v4 then
sa_bnd (f_X1_cell a1 1 v4 2) fun v5 =>
sa_bnd (f_X0_set this a2 0 a3) fun _ =>
sa_bnd (f_X0_set this a2 1 v5) fun _ =>
sa_bnd (f_X0_set this a2 6 v4) fun _ =>
sa_ret (v5 : Int32)
else
sa_ret ((-1) : Int32)
else
j16)
set_option maxHeartbeats 1000000 in
set_option maxRecDepth 10000 in
theorem b_X0_setOut {p : Program} {l : Launch} {e : Env} {s : State} {m : MethodId} {args : Array Value} {below : List Frame} {meth : Method} {c : Code} {D : va_G} {ad : Nat → Nat} {cA : FieldType → ClassId} {A : Nat → Prop} (this : Nat) (a1 : Nat) (a2 : Int32) (a3 : Int32) (C : sa_C p s m args meth c cX0_setOut RX0 "setOut" 6 (some .int) D ad cA A) : sa_Sg p l e s m args below meth c 6 3 D ad cA A sa_eI 0 [(0, .ref (ad this)), (1, .ref (ad a1)), (2, .int a2), (3, .int a3)] [] (f_X0_setOut this a1 a2 a3) := by
  unfold f_X0_setOut
  refine sa_gdI ?_
  refine sa_aload_n C d_X0_setOut_0 rfl 0 rfl ?_
  refine sa_iload_n C d_X0_setOut_1 rfl 2 rfl ?_
  refine sa_invV (ci := 0) C (k_X0_isAtPlace this a2) q850 ds_X0_isAtPlace q121 rfl q848 q849 q847 (gd_X0_isAtPlace this a2) rfl rfl rfl (Nat.le_of_ble_eq_true rfl) (by decide) (by decide) d_X0_setOut_2 (fun v1 => ?_)
  refine sa_join0 16 ([]) ([]) (?_) (fun j16 hj16 => ?_)
  · refine sa_iconst (v := (-1)) C d_X0_setOut_16 (by decide) ?_
    exact sa_iret C d_X0_setOut_17
  refine sa_if_eq (tgt := 16) C d_X0_setOut_5 (by decide) ?_ ?_
  · exact sa_sub [] rfl (hj16)
  refine sa_aload_n C d_X0_setOut_8 rfl 1 rfl ?_
  refine sa_iload_n C d_X0_setOut_9 rfl 3 rfl ?_
  refine sa_invV (ci := 1) C (k_X1_hasPlace a1 a3) q648 ds_X1_hasPlace q116 rfl q646 q647 q851 (gd_X1_hasPlace a1 a3) rfl rfl rfl (Nat.le_of_ble_eq_true rfl) (by decide) (by decide) d_X0_setOut_10 (fun v2 => ?_)
  refine sa_if_ne (tgt := 18) C d_X0_setOut_13 (by decide) ?_ ?_
  · refine sa_aload_n C d_X0_setOut_18 rfl 1 rfl ?_
    refine sa_aload_n C d_X0_setOut_19 rfl 0 rfl ?_
    refine sa_iload_n C d_X0_setOut_20 rfl 2 rfl ?_
    refine sa_iconst (v := 0) C d_X0_setOut_21 (by decide) ?_
    refine sa_invV (ci := 0) C (k_X0_of this a2 0) q801 ds_X0_of q121 rfl q799 q800 q798 (gd_X0_of this a2 0) rfl rfl rfl (Nat.le_of_ble_eq_true rfl) (by decide) (by decide) d_X0_setOut_22 (fun v3 => ?_)
    refine sa_iload_n C d_X0_setOut_25 rfl 3 rfl ?_
    refine sa_invV (ci := 1) C (k_X1_lowestWay a1 v3 a3) q855 ds_X1_lowestWay q116 rfl q853 q854 q852 (gd_X1_lowestWay a1 v3 a3) rfl rfl rfl (Nat.le_of_ble_eq_true rfl) (by decide) (by decide) d_X0_setOut_26 (fun v4 => ?_)
    refine sa_istore (lv' := [(4, .int v4), (0, .ref (ad this)), (1, .ref (ad a1)), (2, .int a2), (3, .int a3)]) C d_X0_setOut_29 (by decide) rfl ?_
    refine sa_iload C d_X0_setOut_31 0 rfl ?_
    refine sa_if_ge (tgt := 38) C d_X0_setOut_33 (by decide) ?_ ?_
    · refine sa_aload_n C d_X0_setOut_38 rfl 2 rfl ?_
      refine sa_iconst (v := 1) C d_X0_setOut_39 (by decide) ?_
      refine sa_iload C d_X0_setOut_40 0 rfl ?_
      refine sa_iconst (v := 2) C d_X0_setOut_42 (by decide) ?_
      refine sa_invV (ci := 1) C (k_X1_cell a1 1 v4 2) q644 ds_X1_cell q116 rfl q642 q643 q755 (gd_X1_cell a1 1 v4 2) rfl rfl rfl (Nat.le_of_ble_eq_true rfl) (by decide) (by decide) d_X0_setOut_43 (fun v5 => ?_)
      refine sa_istore (lv' := [(5, .int v5), (4, .int v4), (0, .ref (ad this)), (1, .ref (ad a1)), (2, .int a2), (3, .int a3)]) C d_X0_setOut_46 (by decide) rfl ?_
      refine sa_aload_n C d_X0_setOut_48 rfl 2 rfl ?_
      refine sa_iload_n C d_X0_setOut_49 rfl 4 rfl ?_
      refine sa_iconst (v := 0) C d_X0_setOut_50 (by decide) ?_
      refine sa_iload_n C d_X0_setOut_51 rfl 5 rfl ?_
      refine sa_invV (ci := 0) C (k_X0_set this a2 0 a3) q759 ds_X0_set q121 rfl q758 q17 q756 (gd_X0_set this a2 0 a3) rfl rfl rfl (Nat.le_of_ble_eq_true rfl) (by decide) (by decide) d_X0_setOut_52 (fun _ => ?_)
      refine sa_aload_n C d_X0_setOut_55 rfl 2 rfl ?_
      refine sa_iload_n C d_X0_setOut_56 rfl 4 rfl ?_
      refine sa_iconst (v := 1) C d_X0_setOut_57 (by decide) ?_
      refine sa_iload C d_X0_setOut_58 0 rfl ?_
      refine sa_invV (ci := 0) C (k_X0_set this a2 1 v5) q759 ds_X0_set q121 rfl q758 q17 q756 (gd_X0_set this a2 1 v5) rfl rfl rfl (Nat.le_of_ble_eq_true rfl) (by decide) (by decide) d_X0_setOut_60 (fun _ => ?_)
      refine sa_aload_n C d_X0_setOut_63 rfl 2 rfl ?_
      refine sa_iload_n C d_X0_setOut_64 rfl 4 rfl ?_
      refine sa_bipush (v := 6) C d_X0_setOut_65 (by decide) ?_
      refine sa_iload C d_X0_setOut_67 1 rfl ?_
      refine sa_invV (ci := 0) C (k_X0_set this a2 6 v4) q759 ds_X0_set q121 rfl q758 q17 q756 (gd_X0_set this a2 6 v4) rfl rfl rfl (Nat.le_of_ble_eq_true rfl) (by decide) (by decide) d_X0_setOut_69 (fun _ => ?_)
      refine sa_iload C d_X0_setOut_72 0 rfl ?_
      exact sa_iret C d_X0_setOut_74
    refine sa_iconst (v := (-1)) C d_X0_setOut_36 (by decide) ?_
    exact sa_iret C d_X0_setOut_37
  exact sa_sub [] rfl (hj16)
theorem k_X0_setOut (this : Nat) (a1 : Nat) (a2 : Int32) (a3 : Int32) : sa_Met 3 yX0_setOut cX0_setOut 6 (some .int) (fun ad => [.ref (ad this), .ref (ad a1), .int a2, .int a3]) sa_eI (f_X0_setOut this a1 a2 a3) := sa_mk (by decide) (fun ad => Nat.le_of_ble_eq_true rfl) (fun p l e s m args below meth c D ad cA A C => b_X0_setOut this a1 a2 a3 C)
theorem gd_X0_setOut (this : Nat) (a1 : Nat) (a2 : Int32) (a3 : Int32) (σ : sa_St) (r : Int32) (τ : sa_St) (h : f_X0_setOut this a1 a2 a3 σ = some (r, τ)) : sa_sh this = some (.inl 0) := sa_gd_ok h
theorem d_X0_unite_0 : decode cX0_unite 0 = .ok (.iload_n 1, 1) := by decide +kernel
theorem d_X0_unite_1 : decode cX0_unite 1 = .ok (.iload_n 2, 1) := by decide +kernel
theorem d_X0_unite_2 : decode cX0_unite 2 = .ok (.if_icmp .eq 34, 3) := by decide +kernel
theorem d_X0_unite_5 : decode cX0_unite 5 = .ok (.aload_n 0, 1) := by decide +kernel
theorem d_X0_unite_6 : decode cX0_unite 6 = .ok (.iload_n 1, 1) := by decide +kernel
theorem d_X0_unite_7 : decode cX0_unite 7 = .ok (.invokevirtual 54, 3) := by decide +kernel
theorem d_X0_unite_10 : decode cX0_unite 10 = .ok (.ifCond .eq 26, 3) := by decide +kernel
theorem d_X0_unite_13 : decode cX0_unite 13 = .ok (.aload_n 0, 1) := by decide +kernel
theorem d_X0_unite_14 : decode cX0_unite 14 = .ok (.iload_n 2, 1) := by decide +kernel
theorem d_X0_unite_15 : decode cX0_unite 15 = .ok (.invokevirtual 54, 3) := by decide +kernel
theorem d_X0_unite_18 : decode cX0_unite 18 = .ok (.ifCond .eq 18, 3) := by decide +kernel
theorem d_X0_unite_21 : decode cX0_unite 21 = .ok (.aload_n 0, 1) := by decide +kernel
theorem d_X0_unite_22 : decode cX0_unite 22 = .ok (.iload_n 1, 1) := by decide +kernel
theorem d_X0_unite_23 : decode cX0_unite 23 = .ok (.iconst 0, 1) := by decide +kernel
theorem d_X0_unite_24 : decode cX0_unite 24 = .ok (.invokevirtual 44, 3) := by decide +kernel
theorem d_X0_unite_27 : decode cX0_unite 27 = .ok (.aload_n 0, 1) := by decide +kernel
theorem d_X0_unite_28 : decode cX0_unite 28 = .ok (.iload_n 2, 1) := by decide +kernel
theorem d_X0_unite_29 : decode cX0_unite 29 = .ok (.iconst 0, 1) := by decide +kernel
theorem d_X0_unite_30 : decode cX0_unite 30 = .ok (.invokevirtual 44, 3) := by decide +kernel
theorem d_X0_unite_33 : decode cX0_unite 33 = .ok (.if_icmp .eq 5, 3) := by decide +kernel
theorem d_X0_unite_36 : decode cX0_unite 36 = .ok (.iconst (-1), 1) := by decide +kernel
theorem d_X0_unite_37 : decode cX0_unite 37 = .ok (.ireturn, 1) := by decide +kernel
theorem d_X0_unite_38 : decode cX0_unite 38 = .ok (.aload_n 0, 1) := by decide +kernel
theorem d_X0_unite_39 : decode cX0_unite 39 = .ok (.iload_n 1, 1) := by decide +kernel
theorem d_X0_unite_40 : decode cX0_unite 40 = .ok (.iconst 2, 1) := by decide +kernel
theorem d_X0_unite_41 : decode cX0_unite 41 = .ok (.invokevirtual 44, 3) := by decide +kernel
theorem d_X0_unite_44 : decode cX0_unite 44 = .ok (.aload_n 0, 1) := by decide +kernel
theorem d_X0_unite_45 : decode cX0_unite 45 = .ok (.iload_n 2, 1) := by decide +kernel
theorem d_X0_unite_46 : decode cX0_unite 46 = .ok (.iconst 2, 1) := by decide +kernel
theorem d_X0_unite_47 : decode cX0_unite 47 = .ok (.invokevirtual 44, 3) := by decide +kernel
theorem d_X0_unite_50 : decode cX0_unite 50 = .ok (.iadd, 1) := by decide +kernel
theorem d_X0_unite_51 : decode cX0_unite 51 = .ok (.istore_n 3, 1) := by decide +kernel
theorem d_X0_unite_52 : decode cX0_unite 52 = .ok (.bipush 99, 2) := by decide +kernel
theorem d_X0_unite_54 : decode cX0_unite 54 = .ok (.iload_n 3, 1) := by decide +kernel
theorem d_X0_unite_55 : decode cX0_unite 55 = .ok (.invokestatic 63, 3) := by decide +kernel
theorem d_X0_unite_58 : decode cX0_unite 58 = .ok (.istore 4, 2) := by decide +kernel
theorem d_X0_unite_60 : decode cX0_unite 60 = .ok (.aload_n 0, 1) := by decide +kernel
theorem d_X0_unite_61 : decode cX0_unite 61 = .ok (.iload_n 1, 1) := by decide +kernel
theorem d_X0_unite_62 : decode cX0_unite 62 = .ok (.iconst 2, 1) := by decide +kernel
theorem d_X0_unite_63 : decode cX0_unite 63 = .ok (.iload 4, 2) := by decide +kernel
theorem d_X0_unite_65 : decode cX0_unite 65 = .ok (.invokevirtual 36, 3) := by decide +kernel
theorem d_X0_unite_68 : decode cX0_unite 68 = .ok (.aload_n 0, 1) := by decide +kernel
theorem d_X0_unite_69 : decode cX0_unite 69 = .ok (.iload_n 1, 1) := by decide +kernel
theorem d_X0_unite_70 : decode cX0_unite 70 = .ok (.iconst 5, 1) := by decide +kernel
theorem d_X0_unite_71 : decode cX0_unite 71 = .ok (.aload_n 0, 1) := by decide +kernel
theorem d_X0_unite_72 : decode cX0_unite 72 = .ok (.iload_n 1, 1) := by decide +kernel
theorem d_X0_unite_73 : decode cX0_unite 73 = .ok (.iconst 5, 1) := by decide +kernel
theorem d_X0_unite_74 : decode cX0_unite 74 = .ok (.invokevirtual 44, 3) := by decide +kernel
theorem d_X0_unite_77 : decode cX0_unite 77 = .ok (.aload_n 0, 1) := by decide +kernel
theorem d_X0_unite_78 : decode cX0_unite 78 = .ok (.iload_n 2, 1) := by decide +kernel
theorem d_X0_unite_79 : decode cX0_unite 79 = .ok (.iconst 5, 1) := by decide +kernel
theorem d_X0_unite_80 : decode cX0_unite 80 = .ok (.invokevirtual 44, 3) := by decide +kernel
theorem d_X0_unite_83 : decode cX0_unite 83 = .ok (.ior, 1) := by decide +kernel
theorem d_X0_unite_84 : decode cX0_unite 84 = .ok (.invokevirtual 36, 3) := by decide +kernel
theorem d_X0_unite_87 : decode cX0_unite 87 = .ok (.aload_n 0, 1) := by decide +kernel
theorem d_X0_unite_88 : decode cX0_unite 88 = .ok (.getfield 11, 3) := by decide +kernel
theorem d_X0_unite_91 : decode cX0_unite 91 = .ok (.iconst 0, 1) := by decide +kernel
theorem d_X0_unite_92 : decode cX0_unite 92 = .ok (.aload_n 0, 1) := by decide +kernel
theorem d_X0_unite_93 : decode cX0_unite 93 = .ok (.iload_n 1, 1) := by decide +kernel
theorem d_X0_unite_94 : decode cX0_unite 94 = .ok (.iconst 0, 1) := by decide +kernel
theorem d_X0_unite_95 : decode cX0_unite 95 = .ok (.invokevirtual 44, 3) := by decide +kernel
theorem d_X0_unite_98 : decode cX0_unite 98 = .ok (.iadd, 1) := by decide +kernel
theorem d_X0_unite_99 : decode cX0_unite 99 = .ok (.dup2, 1) := by decide +kernel
theorem d_X0_unite_100 : decode cX0_unite 100 = .ok (.iaload, 1) := by decide +kernel
theorem d_X0_unite_101 : decode cX0_unite 101 = .ok (.iload_n 3, 1) := by decide +kernel
theorem d_X0_unite_102 : decode cX0_unite 102 = .ok (.iload 4, 2) := by decide +kernel
theorem d_X0_unite_104 : decode cX0_unite 104 = .ok (.isub, 1) := by decide +kernel
theorem d_X0_unite_105 : decode cX0_unite 105 = .ok (.iadd, 1) := by decide +kernel
theorem d_X0_unite_106 : decode cX0_unite 106 = .ok (.iastore, 1) := by decide +kernel
theorem d_X0_unite_107 : decode cX0_unite 107 = .ok (.aload_n 0, 1) := by decide +kernel
theorem d_X0_unite_108 : decode cX0_unite 108 = .ok (.iload_n 2, 1) := by decide +kernel
theorem d_X0_unite_109 : decode cX0_unite 109 = .ok (.iconst 2, 1) := by decide +kernel
theorem d_X0_unite_110 : decode cX0_unite 110 = .ok (.iconst 0, 1) := by decide +kernel
theorem d_X0_unite_111 : decode cX0_unite 111 = .ok (.invokevirtual 36, 3) := by decide +kernel
theorem d_X0_unite_114 : decode cX0_unite 114 = .ok (.aload_n 0, 1) := by decide +kernel
theorem d_X0_unite_115 : decode cX0_unite 115 = .ok (.iload_n 2, 1) := by decide +kernel
theorem d_X0_unite_116 : decode cX0_unite 116 = .ok (.iconst 5, 1) := by decide +kernel
theorem d_X0_unite_117 : decode cX0_unite 117 = .ok (.iconst 0, 1) := by decide +kernel
theorem d_X0_unite_118 : decode cX0_unite 118 = .ok (.invokevirtual 36, 3) := by decide +kernel
theorem d_X0_unite_121 : decode cX0_unite 121 = .ok (.iload 4, 2) := by decide +kernel
theorem d_X0_unite_123 : decode cX0_unite 123 = .ok (.ireturn, 1) := by decide +kernel
def f_X0_unite (this : Nat) (a1 : Int32) (a2 : Int32) : sa_M Int32 :=
sa_gd 0 this (
sa_jn0 (sa_ret ((-1) : Int32)) fun j36 =>
if a1 = a2 then
j36
else
sa_bnd (f_X0_isAtPlace this a1) fun v1 =>
if v1 = 0 then
j36
else
sa_bnd (f_X0_isAtPlace this a2) fun v2 =>
if v2 = 0 then
j36
else
sa_bnd (f_X0_of this a1 0) fun v3 =>
sa_bnd (f_X0_of this a2 0) fun v4 =>
if v3 = v4 then
sa_bnd (f_X0_of this a1 2) fun v5 =>
sa_bnd (f_X0_of this a2 2) fun v6 =>
sa_let ((v5 + v6) : Int32) fun x7 =>
sa_let ((sa_min 99 x7) : Int32) fun x8 =>
sa_bnd (f_X0_set this a1 2 x8) fun _ =>
sa_bnd (f_X0_of this a1 5) fun v9 =>
sa_bnd (f_X0_of this a2 5) fun v10 =>
sa_bnd (f_X0_set this a1 5 (v9 ||| v10)) fun _ =>
sa_bnd (sa_rdR 0 this 0) fun v11 =>
sa_bnd (f_X0_of this a1 0) fun v12 =>
sa_bnd (sa_ldI .int v11 (0 + v12)) fun v13 =>
sa_bnd (sa_stI v11 (0 + v12) (v13 + (x7 - x8))) fun _ =>
sa_bnd (f_X0_set this a2 2 0) fun _ =>
sa_bnd (f_X0_set this a2 5 0) fun _ =>
sa_ret (x8 : Int32)
else
j36)
set_option maxHeartbeats 1000000 in
set_option maxRecDepth 10000 in
theorem b_X0_unite {p : Program} {l : Launch} {e : Env} {s : State} {m : MethodId} {args : Array Value} {below : List Frame} {meth : Method} {c : Code} {D : va_G} {ad : Nat → Nat} {cA : FieldType → ClassId} {A : Nat → Prop} (this : Nat) (a1 : Int32) (a2 : Int32) (C : sa_C p s m args meth c cX0_unite RX0 "unite" 5 (some .int) D ad cA A) : sa_Sg p l e s m args below meth c 5 3 D ad cA A sa_eI 0 [(0, .ref (ad this)), (1, .int a1), (2, .int a2)] [] (f_X0_unite this a1 a2) := by
  unfold f_X0_unite
  refine sa_gdI ?_
  refine sa_iload_n C d_X0_unite_0 rfl 1 rfl ?_
  refine sa_iload_n C d_X0_unite_1 rfl 2 rfl ?_
  refine sa_join0 36 ([]) ([]) (?_) (fun j36 hj36 => ?_)
  · refine sa_iconst (v := (-1)) C d_X0_unite_36 (by decide) ?_
    exact sa_iret C d_X0_unite_37
  refine sa_icmp_eq (tgt := 36) C d_X0_unite_2 (by decide) ?_ ?_
  · exact sa_sub [] rfl (hj36)
  refine sa_aload_n C d_X0_unite_5 rfl 0 rfl ?_
  refine sa_iload_n C d_X0_unite_6 rfl 1 rfl ?_
  refine sa_invV (ci := 0) C (k_X0_isAtPlace this a1) q850 ds_X0_isAtPlace q121 rfl q848 q849 q847 (gd_X0_isAtPlace this a1) rfl rfl rfl (Nat.le_of_ble_eq_true rfl) (by decide) (by decide) d_X0_unite_7 (fun v1 => ?_)
  refine sa_if_eq (tgt := 36) C d_X0_unite_10 (by decide) ?_ ?_
  · exact sa_sub [] rfl (hj36)
  refine sa_aload_n C d_X0_unite_13 rfl 0 rfl ?_
  refine sa_iload_n C d_X0_unite_14 rfl 2 rfl ?_
  refine sa_invV (ci := 0) C (k_X0_isAtPlace this a2) q850 ds_X0_isAtPlace q121 rfl q848 q849 q847 (gd_X0_isAtPlace this a2) rfl rfl rfl (Nat.le_of_ble_eq_true rfl) (by decide) (by decide) d_X0_unite_15 (fun v2 => ?_)
  refine sa_if_eq (tgt := 36) C d_X0_unite_18 (by decide) ?_ ?_
  · exact sa_sub [] rfl (hj36)
  refine sa_aload_n C d_X0_unite_21 rfl 0 rfl ?_
  refine sa_iload_n C d_X0_unite_22 rfl 1 rfl ?_
  refine sa_iconst (v := 0) C d_X0_unite_23 (by decide) ?_
  refine sa_invV (ci := 0) C (k_X0_of this a1 0) q801 ds_X0_of q121 rfl q799 q800 q798 (gd_X0_of this a1 0) rfl rfl rfl (Nat.le_of_ble_eq_true rfl) (by decide) (by decide) d_X0_unite_24 (fun v3 => ?_)
  refine sa_aload_n C d_X0_unite_27 rfl 0 rfl ?_
  refine sa_iload_n C d_X0_unite_28 rfl 2 rfl ?_
  refine sa_iconst (v := 0) C d_X0_unite_29 (by decide) ?_
  refine sa_invV (ci := 0) C (k_X0_of this a2 0) q801 ds_X0_of q121 rfl q799 q800 q798 (gd_X0_of this a2 0) rfl rfl rfl (Nat.le_of_ble_eq_true rfl) (by decide) (by decide) d_X0_unite_30 (fun v4 => ?_)
  refine sa_icmp_eq (tgt := 38) C d_X0_unite_33 (by decide) ?_ ?_
  · refine sa_aload_n C d_X0_unite_38 rfl 0 rfl ?_
    refine sa_iload_n C d_X0_unite_39 rfl 1 rfl ?_
    refine sa_iconst (v := 2) C d_X0_unite_40 (by decide) ?_
    refine sa_invV (ci := 0) C (k_X0_of this a1 2) q801 ds_X0_of q121 rfl q799 q800 q798 (gd_X0_of this a1 2) rfl rfl rfl (Nat.le_of_ble_eq_true rfl) (by decide) (by decide) d_X0_unite_41 (fun v5 => ?_)
    refine sa_aload_n C d_X0_unite_44 rfl 0 rfl ?_
    refine sa_iload_n C d_X0_unite_45 rfl 2 rfl ?_
    refine sa_iconst (v := 2) C d_X0_unite_46 (by decide) ?_
    refine sa_invV (ci := 0) C (k_X0_of this a2 2) q801 ds_X0_of q121 rfl q799 q800 q798 (gd_X0_of this a2 2) rfl rfl rfl (Nat.le_of_ble_eq_true rfl) (by decide) (by decide) d_X0_unite_47 (fun v6 => ?_)
    refine sa_iadd C d_X0_unite_50 ?_
    refine sa_topi (fun x7 => ?_)
    refine sa_istore_n (lv' := [(3, .int x7), (0, .ref (ad this)), (1, .int a1), (2, .int a2)]) C d_X0_unite_51 rfl (by decide) rfl ?_
    refine sa_bipush (v := 99) C d_X0_unite_52 (by decide) ?_
    refine sa_iload_n C d_X0_unite_54 rfl 0 rfl ?_
    refine sa_mmin C q860 (Nat.le_of_ble_eq_true rfl) (by decide) q530 q130 q531 d_X0_unite_55 ?_
    refine sa_topi (fun x8 => ?_)
    refine sa_istore (lv' := [(4, .int x8), (3, .int x7), (0, .ref (ad this)), (1, .int a1), (2, .int a2)]) C d_X0_unite_58 (by decide) rfl ?_
    refine sa_aload_n C d_X0_unite_60 rfl 2 rfl ?_
    refine sa_iload_n C d_X0_unite_61 rfl 3 rfl ?_
    refine sa_iconst (v := 2) C d_X0_unite_62 (by decide) ?_
    refine sa_iload C d_X0_unite_63 0 rfl ?_
    refine sa_invV (ci := 0) C (k_X0_set this a1 2 x8) q759 ds_X0_set q121 rfl q758 q17 q756 (gd_X0_set this a1 2 x8) rfl rfl rfl (Nat.le_of_ble_eq_true rfl) (by decide) (by decide) d_X0_unite_65 (fun _ => ?_)
    refine sa_aload_n C d_X0_unite_68 rfl 2 rfl ?_
    refine sa_iload_n C d_X0_unite_69 rfl 3 rfl ?_
    refine sa_iconst (v := 5) C d_X0_unite_70 (by decide) ?_
    refine sa_aload_n C d_X0_unite_71 rfl 2 rfl ?_
    refine sa_iload_n C d_X0_unite_72 rfl 3 rfl ?_
    refine sa_iconst (v := 5) C d_X0_unite_73 (by decide) ?_
    refine sa_invV (ci := 0) C (k_X0_of this a1 5) q801 ds_X0_of q121 rfl q799 q800 q798 (gd_X0_of this a1 5) rfl rfl rfl (Nat.le_of_ble_eq_true rfl) (by decide) (by decide) d_X0_unite_74 (fun v9 => ?_)
    refine sa_aload_n C d_X0_unite_77 rfl 2 rfl ?_
    refine sa_iload_n C d_X0_unite_78 rfl 4 rfl ?_
    refine sa_iconst (v := 5) C d_X0_unite_79 (by decide) ?_
    refine sa_invV (ci := 0) C (k_X0_of this a2 5) q801 ds_X0_of q121 rfl q799 q800 q798 (gd_X0_of this a2 5) rfl rfl rfl (Nat.le_of_ble_eq_true rfl) (by decide) (by decide) d_X0_unite_80 (fun v10 => ?_)
    refine sa_ior C d_X0_unite_83 ?_
    refine sa_invV (ci := 0) C (k_X0_set this a1 5 (v9 ||| v10)) q759 ds_X0_set q121 rfl q758 q17 q756 (gd_X0_set this a1 5 (v9 ||| v10)) rfl rfl rfl (Nat.le_of_ble_eq_true rfl) (by decide) (by decide) d_X0_unite_84 (fun _ => ?_)
    refine sa_aload_n C d_X0_unite_87 rfl 2 rfl ?_
    refine sa_getR C fd_X0_11 rfl d_X0_unite_88 (fun v11 => ?_)
    refine sa_iconst (v := 0) C d_X0_unite_91 (by decide) ?_
    refine sa_aload_n C d_X0_unite_92 rfl 2 rfl ?_
    refine sa_iload_n C d_X0_unite_93 rfl 3 rfl ?_
    refine sa_iconst (v := 0) C d_X0_unite_94 (by decide) ?_
    refine sa_invV (ci := 0) C (k_X0_of this a1 0) q801 ds_X0_of q121 rfl q799 q800 q798 (gd_X0_of this a1 0) rfl rfl rfl (Nat.le_of_ble_eq_true rfl) (by decide) (by decide) d_X0_unite_95 (fun v12 => ?_)
    refine sa_iadd C d_X0_unite_98 ?_
    refine sa_dup2_11 C d_X0_unite_99 rfl rfl ?_
    refine sa_iald C d_X0_unite_100 (fun v13 => ?_)
    refine sa_iload_n C d_X0_unite_101 rfl 1 rfl ?_
    refine sa_iload C d_X0_unite_102 0 rfl ?_
    refine sa_isub C d_X0_unite_104 ?_
    refine sa_iadd C d_X0_unite_105 ?_
    refine sa_iast C d_X0_unite_106 ?_
    refine sa_aload_n C d_X0_unite_107 rfl 2 rfl ?_
    refine sa_iload_n C d_X0_unite_108 rfl 4 rfl ?_
    refine sa_iconst (v := 2) C d_X0_unite_109 (by decide) ?_
    refine sa_iconst (v := 0) C d_X0_unite_110 (by decide) ?_
    refine sa_invV (ci := 0) C (k_X0_set this a2 2 0) q759 ds_X0_set q121 rfl q758 q17 q756 (gd_X0_set this a2 2 0) rfl rfl rfl (Nat.le_of_ble_eq_true rfl) (by decide) (by decide) d_X0_unite_111 (fun _ => ?_)
    refine sa_aload_n C d_X0_unite_114 rfl 2 rfl ?_
    refine sa_iload_n C d_X0_unite_115 rfl 4 rfl ?_
    refine sa_iconst (v := 5) C d_X0_unite_116 (by decide) ?_
    refine sa_iconst (v := 0) C d_X0_unite_117 (by decide) ?_
    refine sa_invV (ci := 0) C (k_X0_set this a2 5 0) q759 ds_X0_set q121 rfl q758 q17 q756 (gd_X0_set this a2 5 0) rfl rfl rfl (Nat.le_of_ble_eq_true rfl) (by decide) (by decide) d_X0_unite_118 (fun _ => ?_)
    refine sa_iload C d_X0_unite_121 0 rfl ?_
    exact sa_iret C d_X0_unite_123
  exact sa_sub [] rfl (hj36)
theorem k_X0_unite (this : Nat) (a1 : Int32) (a2 : Int32) : sa_Met 3 yX0_unite cX0_unite 5 (some .int) (fun ad => [.ref (ad this), .int a1, .int a2]) sa_eI (f_X0_unite this a1 a2) := sa_mk (by decide) (fun ad => Nat.le_of_ble_eq_true rfl) (fun p l e s m args below meth c D ad cA A C => b_X0_unite this a1 a2 C)
theorem gd_X0_unite (this : Nat) (a1 : Int32) (a2 : Int32) (σ : sa_St) (r : Int32) (τ : sa_St) (h : f_X0_unite this a1 a2 σ = some (r, τ)) : sa_sh this = some (.inl 0) := sa_gd_ok h
theorem d_X0_mine_0 : decode cX0_mine 0 = .ok (.aload_n 0, 1) := by decide +kernel
theorem d_X0_mine_1 : decode cX0_mine 1 = .ok (.iload_n 2, 1) := by decide +kernel
theorem d_X0_mine_2 : decode cX0_mine 2 = .ok (.invokevirtual 54, 3) := by decide +kernel
theorem d_X0_mine_5 : decode cX0_mine 5 = .ok (.ifCond .ne 5, 3) := by decide +kernel
theorem d_X0_mine_8 : decode cX0_mine 8 = .ok (.iconst (-1), 1) := by decide +kernel
theorem d_X0_mine_9 : decode cX0_mine 9 = .ok (.ireturn, 1) := by decide +kernel
theorem d_X0_mine_10 : decode cX0_mine 10 = .ok (.aload_n 0, 1) := by decide +kernel
theorem d_X0_mine_11 : decode cX0_mine 11 = .ok (.iload_n 2, 1) := by decide +kernel
theorem d_X0_mine_12 : decode cX0_mine 12 = .ok (.iconst 2, 1) := by decide +kernel
theorem d_X0_mine_13 : decode cX0_mine 13 = .ok (.invokevirtual 44, 3) := by decide +kernel
theorem d_X0_mine_16 : decode cX0_mine 16 = .ok (.istore_n 3, 1) := by decide +kernel
theorem d_X0_mine_17 : decode cX0_mine 17 = .ok (.aload_n 1, 1) := by decide +kernel
theorem d_X0_mine_18 : decode cX0_mine 18 = .ok (.iconst 0, 1) := by decide +kernel
theorem d_X0_mine_19 : decode cX0_mine 19 = .ok (.aload_n 0, 1) := by decide +kernel
theorem d_X0_mine_20 : decode cX0_mine 20 = .ok (.iload_n 2, 1) := by decide +kernel
theorem d_X0_mine_21 : decode cX0_mine 21 = .ok (.iconst 0, 1) := by decide +kernel
theorem d_X0_mine_22 : decode cX0_mine 22 = .ok (.invokevirtual 44, 3) := by decide +kernel
theorem d_X0_mine_25 : decode cX0_mine 25 = .ok (.iconst 3, 1) := by decide +kernel
theorem d_X0_mine_26 : decode cX0_mine 26 = .ok (.invokevirtual 32, 3) := by decide +kernel
theorem d_X0_mine_29 : decode cX0_mine 29 = .ok (.bipush 99, 2) := by decide +kernel
theorem d_X0_mine_31 : decode cX0_mine 31 = .ok (.iload_n 3, 1) := by decide +kernel
theorem d_X0_mine_32 : decode cX0_mine 32 = .ok (.isub, 1) := by decide +kernel
theorem d_X0_mine_33 : decode cX0_mine 33 = .ok (.invokestatic 63, 3) := by decide +kernel
theorem d_X0_mine_36 : decode cX0_mine 36 = .ok (.istore 4, 2) := by decide +kernel
theorem d_X0_mine_38 : decode cX0_mine 38 = .ok (.iload 4, 2) := by decide +kernel
theorem d_X0_mine_40 : decode cX0_mine 40 = .ok (.ifCond .gt 5, 3) := by decide +kernel
theorem d_X0_mine_43 : decode cX0_mine 43 = .ok (.iconst (-1), 1) := by decide +kernel
theorem d_X0_mine_44 : decode cX0_mine 44 = .ok (.ireturn, 1) := by decide +kernel
theorem d_X0_mine_45 : decode cX0_mine 45 = .ok (.aload_n 0, 1) := by decide +kernel
theorem d_X0_mine_46 : decode cX0_mine 46 = .ok (.iload_n 2, 1) := by decide +kernel
theorem d_X0_mine_47 : decode cX0_mine 47 = .ok (.iconst 2, 1) := by decide +kernel
theorem d_X0_mine_48 : decode cX0_mine 48 = .ok (.iload_n 3, 1) := by decide +kernel
theorem d_X0_mine_49 : decode cX0_mine 49 = .ok (.iload 4, 2) := by decide +kernel
theorem d_X0_mine_51 : decode cX0_mine 51 = .ok (.iadd, 1) := by decide +kernel
theorem d_X0_mine_52 : decode cX0_mine 52 = .ok (.invokevirtual 36, 3) := by decide +kernel
theorem d_X0_mine_55 : decode cX0_mine 55 = .ok (.aload_n 0, 1) := by decide +kernel
theorem d_X0_mine_56 : decode cX0_mine 56 = .ok (.getfield 11, 3) := by decide +kernel
theorem d_X0_mine_59 : decode cX0_mine 59 = .ok (.bipush 20, 2) := by decide +kernel
theorem d_X0_mine_61 : decode cX0_mine 61 = .ok (.dup2, 1) := by decide +kernel
theorem d_X0_mine_62 : decode cX0_mine 62 = .ok (.iaload, 1) := by decide +kernel
theorem d_X0_mine_63 : decode cX0_mine 63 = .ok (.iload 4, 2) := by decide +kernel
theorem d_X0_mine_65 : decode cX0_mine 65 = .ok (.iadd, 1) := by decide +kernel
theorem d_X0_mine_66 : decode cX0_mine 66 = .ok (.iastore, 1) := by decide +kernel
theorem d_X0_mine_67 : decode cX0_mine 67 = .ok (.iload_n 3, 1) := by decide +kernel
theorem d_X0_mine_68 : decode cX0_mine 68 = .ok (.iload 4, 2) := by decide +kernel
theorem d_X0_mine_70 : decode cX0_mine 70 = .ok (.iadd, 1) := by decide +kernel
theorem d_X0_mine_71 : decode cX0_mine 71 = .ok (.ireturn, 1) := by decide +kernel
def f_X0_mine (this : Nat) (a1 : Nat) (a2 : Int32) : sa_M Int32 :=
sa_gd 0 this (
sa_bnd (f_X0_isAtPlace this a2) fun v1 =>
if ¬ v1 = 0 then
sa_bnd (f_X0_of this a2 2) fun v2 =>
sa_bnd (f_X0_of this a2 0) fun v3 =>
sa_bnd (f_X1_cell a1 0 v3 3) fun v4 =>
sa_let ((sa_min v4 (99 - v2)) : Int32) fun x5 =>
if 0 < x5 then
sa_bnd (f_X0_set this a2 2 (v2 + x5)) fun _ =>
sa_bnd (sa_rdR 0 this 0) fun v6 =>
sa_bnd (sa_ldI .int v6 20) fun v7 =>
sa_bnd (sa_stI v6 20 (v7 + x5)) fun _ =>
sa_ret ((v2 + x5) : Int32)
else
sa_ret ((-1) : Int32)
else
sa_ret ((-1) : Int32))
set_option maxHeartbeats 1000000 in
set_option maxRecDepth 10000 in
theorem b_X0_mine {p : Program} {l : Launch} {e : Env} {s : State} {m : MethodId} {args : Array Value} {below : List Frame} {meth : Method} {c : Code} {D : va_G} {ad : Nat → Nat} {cA : FieldType → ClassId} {A : Nat → Prop} (this : Nat) (a1 : Nat) (a2 : Int32) (C : sa_C p s m args meth c cX0_mine RX0 "mine" 5 (some .int) D ad cA A) : sa_Sg p l e s m args below meth c 5 3 D ad cA A sa_eI 0 [(0, .ref (ad this)), (1, .ref (ad a1)), (2, .int a2)] [] (f_X0_mine this a1 a2) := by
  unfold f_X0_mine
  refine sa_gdI ?_
  refine sa_aload_n C d_X0_mine_0 rfl 0 rfl ?_
  refine sa_iload_n C d_X0_mine_1 rfl 2 rfl ?_
  refine sa_invV (ci := 0) C (k_X0_isAtPlace this a2) q850 ds_X0_isAtPlace q121 rfl q848 q849 q847 (gd_X0_isAtPlace this a2) rfl rfl rfl (Nat.le_of_ble_eq_true rfl) (by decide) (by decide) d_X0_mine_2 (fun v1 => ?_)
  refine sa_if_ne (tgt := 10) C d_X0_mine_5 (by decide) ?_ ?_
  · refine sa_aload_n C d_X0_mine_10 rfl 0 rfl ?_
    refine sa_iload_n C d_X0_mine_11 rfl 2 rfl ?_
    refine sa_iconst (v := 2) C d_X0_mine_12 (by decide) ?_
    refine sa_invV (ci := 0) C (k_X0_of this a2 2) q801 ds_X0_of q121 rfl q799 q800 q798 (gd_X0_of this a2 2) rfl rfl rfl (Nat.le_of_ble_eq_true rfl) (by decide) (by decide) d_X0_mine_13 (fun v2 => ?_)
    refine sa_istore_n (lv' := [(3, .int v2), (0, .ref (ad this)), (1, .ref (ad a1)), (2, .int a2)]) C d_X0_mine_16 rfl (by decide) rfl ?_
    refine sa_aload_n C d_X0_mine_17 rfl 2 rfl ?_
    refine sa_iconst (v := 0) C d_X0_mine_18 (by decide) ?_
    refine sa_aload_n C d_X0_mine_19 rfl 1 rfl ?_
    refine sa_iload_n C d_X0_mine_20 rfl 3 rfl ?_
    refine sa_iconst (v := 0) C d_X0_mine_21 (by decide) ?_
    refine sa_invV (ci := 0) C (k_X0_of this a2 0) q801 ds_X0_of q121 rfl q799 q800 q798 (gd_X0_of this a2 0) rfl rfl rfl (Nat.le_of_ble_eq_true rfl) (by decide) (by decide) d_X0_mine_22 (fun v3 => ?_)
    refine sa_iconst (v := 3) C d_X0_mine_25 (by decide) ?_
    refine sa_invV (ci := 1) C (k_X1_cell a1 0 v3 3) q644 ds_X1_cell q116 rfl q642 q643 q755 (gd_X1_cell a1 0 v3 3) rfl rfl rfl (Nat.le_of_ble_eq_true rfl) (by decide) (by decide) d_X0_mine_26 (fun v4 => ?_)
    refine sa_bipush (v := 99) C d_X0_mine_29 (by decide) ?_
    refine sa_iload_n C d_X0_mine_31 rfl 0 rfl ?_
    refine sa_isub C d_X0_mine_32 ?_
    refine sa_mmin C q860 (Nat.le_of_ble_eq_true rfl) (by decide) q530 q130 q531 d_X0_mine_33 ?_
    refine sa_topi (fun x5 => ?_)
    refine sa_istore (lv' := [(4, .int x5), (3, .int v2), (0, .ref (ad this)), (1, .ref (ad a1)), (2, .int a2)]) C d_X0_mine_36 (by decide) rfl ?_
    refine sa_iload C d_X0_mine_38 0 rfl ?_
    refine sa_if_gt (tgt := 45) C d_X0_mine_40 (by decide) ?_ ?_
    · refine sa_aload_n C d_X0_mine_45 rfl 2 rfl ?_
      refine sa_iload_n C d_X0_mine_46 rfl 4 rfl ?_
      refine sa_iconst (v := 2) C d_X0_mine_47 (by decide) ?_
      refine sa_iload_n C d_X0_mine_48 rfl 1 rfl ?_
      refine sa_iload C d_X0_mine_49 0 rfl ?_
      refine sa_iadd C d_X0_mine_51 ?_
      refine sa_invV (ci := 0) C (k_X0_set this a2 2 (v2 + x5)) q759 ds_X0_set q121 rfl q758 q17 q756 (gd_X0_set this a2 2 (v2 + x5)) rfl rfl rfl (Nat.le_of_ble_eq_true rfl) (by decide) (by decide) d_X0_mine_52 (fun _ => ?_)
      refine sa_aload_n C d_X0_mine_55 rfl 2 rfl ?_
      refine sa_getR C fd_X0_11 rfl d_X0_mine_56 (fun v6 => ?_)
      refine sa_bipush (v := 20) C d_X0_mine_59 (by decide) ?_
      refine sa_dup2_11 C d_X0_mine_61 rfl rfl ?_
      refine sa_iald C d_X0_mine_62 (fun v7 => ?_)
      refine sa_iload C d_X0_mine_63 0 rfl ?_
      refine sa_iadd C d_X0_mine_65 ?_
      refine sa_iast C d_X0_mine_66 ?_
      refine sa_iload_n C d_X0_mine_67 rfl 1 rfl ?_
      refine sa_iload C d_X0_mine_68 0 rfl ?_
      refine sa_iadd C d_X0_mine_70 ?_
      exact sa_iret C d_X0_mine_71
    refine sa_iconst (v := (-1)) C d_X0_mine_43 (by decide) ?_
    exact sa_iret C d_X0_mine_44
  refine sa_iconst (v := (-1)) C d_X0_mine_8 (by decide) ?_
  exact sa_iret C d_X0_mine_9
theorem k_X0_mine (this : Nat) (a1 : Nat) (a2 : Int32) : sa_Met 3 yX0_mine cX0_mine 5 (some .int) (fun ad => [.ref (ad this), .ref (ad a1), .int a2]) sa_eI (f_X0_mine this a1 a2) := sa_mk (by decide) (fun ad => Nat.le_of_ble_eq_true rfl) (fun p l e s m args below meth c D ad cA A C => b_X0_mine this a1 a2 C)
theorem gd_X0_mine (this : Nat) (a1 : Nat) (a2 : Int32) (σ : sa_St) (r : Int32) (τ : sa_St) (h : f_X0_mine this a1 a2 σ = some (r, τ)) : sa_sh this = some (.inl 0) := sa_gd_ok h
theorem d_X0_castAnew_0 : decode cX0_castAnew 0 = .ok (.aload_n 0, 1) := by decide +kernel
theorem d_X0_castAnew_1 : decode cX0_castAnew 1 = .ok (.getfield 11, 3) := by decide +kernel
theorem d_X0_castAnew_4 : decode cX0_castAnew 4 = .ok (.bipush 22, 2) := by decide +kernel
theorem d_X0_castAnew_6 : decode cX0_castAnew 6 = .ok (.iaload, 1) := by decide +kernel
theorem d_X0_castAnew_7 : decode cX0_castAnew 7 = .ok (.istore 4, 2) := by decide +kernel
theorem d_X0_castAnew_9 : decode cX0_castAnew 9 = .ok (.aload_n 1, 1) := by decide +kernel
theorem d_X0_castAnew_10 : decode cX0_castAnew 10 = .ok (.iload_n 2, 1) := by decide +kernel
theorem d_X0_castAnew_11 : decode cX0_castAnew 11 = .ok (.invokevirtual 57, 3) := by decide +kernel
theorem d_X0_castAnew_14 : decode cX0_castAnew 14 = .ok (.ifCond .eq 30, 3) := by decide +kernel
theorem d_X0_castAnew_17 : decode cX0_castAnew 17 = .ok (.iload_n 3, 1) := by decide +kernel
theorem d_X0_castAnew_18 : decode cX0_castAnew 18 = .ok (.ifCond .lt 26, 3) := by decide +kernel
theorem d_X0_castAnew_21 : decode cX0_castAnew 21 = .ok (.iload_n 3, 1) := by decide +kernel
theorem d_X0_castAnew_22 : decode cX0_castAnew 22 = .ok (.iconst 3, 1) := by decide +kernel
theorem d_X0_castAnew_23 : decode cX0_castAnew 23 = .ok (.if_icmp .gt 21, 3) := by decide +kernel
theorem d_X0_castAnew_26 : decode cX0_castAnew 26 = .ok (.iload 4, 2) := by decide +kernel
theorem d_X0_castAnew_28 : decode cX0_castAnew 28 = .ok (.bipush 8, 2) := by decide +kernel
theorem d_X0_castAnew_30 : decode cX0_castAnew 30 = .ok (.if_icmp .ge 14, 3) := by decide +kernel
theorem d_X0_castAnew_33 : decode cX0_castAnew 33 = .ok (.aload_n 0, 1) := by decide +kernel
theorem d_X0_castAnew_34 : decode cX0_castAnew 34 = .ok (.getfield 11, 3) := by decide +kernel
theorem d_X0_castAnew_37 : decode cX0_castAnew 37 = .ok (.iconst 0, 1) := by decide +kernel
theorem d_X0_castAnew_38 : decode cX0_castAnew 38 = .ok (.iload_n 2, 1) := by decide +kernel
theorem d_X0_castAnew_39 : decode cX0_castAnew 39 = .ok (.iadd, 1) := by decide +kernel
theorem d_X0_castAnew_40 : decode cX0_castAnew 40 = .ok (.iaload, 1) := by decide +kernel
theorem d_X0_castAnew_41 : decode cX0_castAnew 41 = .ok (.ifCond .ne 5, 3) := by decide +kernel
theorem d_X0_castAnew_44 : decode cX0_castAnew 44 = .ok (.iconst (-1), 1) := by decide +kernel
theorem d_X0_castAnew_45 : decode cX0_castAnew 45 = .ok (.ireturn, 1) := by decide +kernel
theorem d_X0_castAnew_46 : decode cX0_castAnew 46 = .ok (.bipush 99, 2) := by decide +kernel
theorem d_X0_castAnew_48 : decode cX0_castAnew 48 = .ok (.aload_n 0, 1) := by decide +kernel
theorem d_X0_castAnew_49 : decode cX0_castAnew 49 = .ok (.getfield 11, 3) := by decide +kernel
theorem d_X0_castAnew_52 : decode cX0_castAnew 52 = .ok (.iconst 0, 1) := by decide +kernel
theorem d_X0_castAnew_53 : decode cX0_castAnew 53 = .ok (.iload_n 2, 1) := by decide +kernel
theorem d_X0_castAnew_54 : decode cX0_castAnew 54 = .ok (.iadd, 1) := by decide +kernel
theorem d_X0_castAnew_55 : decode cX0_castAnew 55 = .ok (.iaload, 1) := by decide +kernel
theorem d_X0_castAnew_56 : decode cX0_castAnew 56 = .ok (.invokestatic 63, 3) := by decide +kernel
theorem d_X0_castAnew_59 : decode cX0_castAnew 59 = .ok (.istore 5, 2) := by decide +kernel
theorem d_X0_castAnew_61 : decode cX0_castAnew 61 = .ok (.aload_n 0, 1) := by decide +kernel
theorem d_X0_castAnew_62 : decode cX0_castAnew 62 = .ok (.getfield 11, 3) := by decide +kernel
theorem d_X0_castAnew_65 : decode cX0_castAnew 65 = .ok (.bipush 22, 2) := by decide +kernel
theorem d_X0_castAnew_67 : decode cX0_castAnew 67 = .ok (.iload 4, 2) := by decide +kernel
theorem d_X0_castAnew_69 : decode cX0_castAnew 69 = .ok (.iconst 1, 1) := by decide +kernel
theorem d_X0_castAnew_70 : decode cX0_castAnew 70 = .ok (.iadd, 1) := by decide +kernel
theorem d_X0_castAnew_71 : decode cX0_castAnew 71 = .ok (.iastore, 1) := by decide +kernel
theorem d_X0_castAnew_72 : decode cX0_castAnew 72 = .ok (.aload_n 0, 1) := by decide +kernel
theorem d_X0_castAnew_73 : decode cX0_castAnew 73 = .ok (.iload 4, 2) := by decide +kernel
theorem d_X0_castAnew_75 : decode cX0_castAnew 75 = .ok (.iconst 0, 1) := by decide +kernel
theorem d_X0_castAnew_76 : decode cX0_castAnew 76 = .ok (.iload_n 2, 1) := by decide +kernel
theorem d_X0_castAnew_77 : decode cX0_castAnew 77 = .ok (.invokevirtual 36, 3) := by decide +kernel
theorem d_X0_castAnew_80 : decode cX0_castAnew 80 = .ok (.aload_n 0, 1) := by decide +kernel
theorem d_X0_castAnew_81 : decode cX0_castAnew 81 = .ok (.iload 4, 2) := by decide +kernel
theorem d_X0_castAnew_83 : decode cX0_castAnew 83 = .ok (.iconst 1, 1) := by decide +kernel
theorem d_X0_castAnew_84 : decode cX0_castAnew 84 = .ok (.iconst 0, 1) := by decide +kernel
theorem d_X0_castAnew_85 : decode cX0_castAnew 85 = .ok (.invokevirtual 36, 3) := by decide +kernel
theorem d_X0_castAnew_88 : decode cX0_castAnew 88 = .ok (.aload_n 0, 1) := by decide +kernel
theorem d_X0_castAnew_89 : decode cX0_castAnew 89 = .ok (.iload 4, 2) := by decide +kernel
theorem d_X0_castAnew_91 : decode cX0_castAnew 91 = .ok (.iconst 2, 1) := by decide +kernel
theorem d_X0_castAnew_92 : decode cX0_castAnew 92 = .ok (.iload 5, 2) := by decide +kernel
theorem d_X0_castAnew_94 : decode cX0_castAnew 94 = .ok (.invokevirtual 36, 3) := by decide +kernel
theorem d_X0_castAnew_97 : decode cX0_castAnew 97 = .ok (.aload_n 0, 1) := by decide +kernel
theorem d_X0_castAnew_98 : decode cX0_castAnew 98 = .ok (.iload 4, 2) := by decide +kernel
theorem d_X0_castAnew_100 : decode cX0_castAnew 100 = .ok (.iconst 3, 1) := by decide +kernel
theorem d_X0_castAnew_101 : decode cX0_castAnew 101 = .ok (.iconst 5, 1) := by decide +kernel
theorem d_X0_castAnew_102 : decode cX0_castAnew 102 = .ok (.invokevirtual 36, 3) := by decide +kernel
theorem d_X0_castAnew_105 : decode cX0_castAnew 105 = .ok (.aload_n 0, 1) := by decide +kernel
theorem d_X0_castAnew_106 : decode cX0_castAnew 106 = .ok (.iload 4, 2) := by decide +kernel
theorem d_X0_castAnew_108 : decode cX0_castAnew 108 = .ok (.iconst 4, 1) := by decide +kernel
theorem d_X0_castAnew_109 : decode cX0_castAnew 109 = .ok (.iload_n 3, 1) := by decide +kernel
theorem d_X0_castAnew_110 : decode cX0_castAnew 110 = .ok (.invokevirtual 36, 3) := by decide +kernel
theorem d_X0_castAnew_113 : decode cX0_castAnew 113 = .ok (.aload_n 0, 1) := by decide +kernel
theorem d_X0_castAnew_114 : decode cX0_castAnew 114 = .ok (.iload 4, 2) := by decide +kernel
theorem d_X0_castAnew_116 : decode cX0_castAnew 116 = .ok (.iconst 5, 1) := by decide +kernel
theorem d_X0_castAnew_117 : decode cX0_castAnew 117 = .ok (.aload_n 0, 1) := by decide +kernel
theorem d_X0_castAnew_118 : decode cX0_castAnew 118 = .ok (.getfield 11, 3) := by decide +kernel
theorem d_X0_castAnew_121 : decode cX0_castAnew 121 = .ok (.bipush 8, 2) := by decide +kernel
theorem d_X0_castAnew_123 : decode cX0_castAnew 123 = .ok (.iload_n 2, 1) := by decide +kernel
theorem d_X0_castAnew_124 : decode cX0_castAnew 124 = .ok (.iadd, 1) := by decide +kernel
theorem d_X0_castAnew_125 : decode cX0_castAnew 125 = .ok (.iaload, 1) := by decide +kernel
theorem d_X0_castAnew_126 : decode cX0_castAnew 126 = .ok (.invokevirtual 36, 3) := by decide +kernel
theorem d_X0_castAnew_129 : decode cX0_castAnew 129 = .ok (.aload_n 0, 1) := by decide +kernel
theorem d_X0_castAnew_130 : decode cX0_castAnew 130 = .ok (.getfield 11, 3) := by decide +kernel
theorem d_X0_castAnew_133 : decode cX0_castAnew 133 = .ok (.iconst 0, 1) := by decide +kernel
theorem d_X0_castAnew_134 : decode cX0_castAnew 134 = .ok (.iload_n 2, 1) := by decide +kernel
theorem d_X0_castAnew_135 : decode cX0_castAnew 135 = .ok (.iadd, 1) := by decide +kernel
theorem d_X0_castAnew_136 : decode cX0_castAnew 136 = .ok (.dup2, 1) := by decide +kernel
theorem d_X0_castAnew_137 : decode cX0_castAnew 137 = .ok (.iaload, 1) := by decide +kernel
theorem d_X0_castAnew_138 : decode cX0_castAnew 138 = .ok (.iload 5, 2) := by decide +kernel
theorem d_X0_castAnew_140 : decode cX0_castAnew 140 = .ok (.isub, 1) := by decide +kernel
theorem d_X0_castAnew_141 : decode cX0_castAnew 141 = .ok (.iastore, 1) := by decide +kernel
theorem d_X0_castAnew_142 : decode cX0_castAnew 142 = .ok (.aload_n 0, 1) := by decide +kernel
theorem d_X0_castAnew_143 : decode cX0_castAnew 143 = .ok (.getfield 11, 3) := by decide +kernel
theorem d_X0_castAnew_146 : decode cX0_castAnew 146 = .ok (.bipush 8, 2) := by decide +kernel
theorem d_X0_castAnew_148 : decode cX0_castAnew 148 = .ok (.iload_n 2, 1) := by decide +kernel
theorem d_X0_castAnew_149 : decode cX0_castAnew 149 = .ok (.iadd, 1) := by decide +kernel
theorem d_X0_castAnew_150 : decode cX0_castAnew 150 = .ok (.iconst 0, 1) := by decide +kernel
theorem d_X0_castAnew_151 : decode cX0_castAnew 151 = .ok (.iastore, 1) := by decide +kernel
theorem d_X0_castAnew_152 : decode cX0_castAnew 152 = .ok (.iload 4, 2) := by decide +kernel
theorem d_X0_castAnew_154 : decode cX0_castAnew 154 = .ok (.ireturn, 1) := by decide +kernel
def f_X0_castAnew (this : Nat) (a1 : Nat) (a2 : Int32) (a3 : Int32) : sa_M Int32 :=
sa_gd 0 this (
sa_bnd (sa_rdR 0 this 0) fun v1 =>
sa_bnd (sa_ldI .int v1 22) fun v2 =>
sa_bnd (f_X1_hasPlace a1 a2) fun v3 =>
sa_jn0 (sa_ret ((-1) : Int32)) fun j44 =>
if v3 = 0 then
j44
else
if a3 < 0 then
j44
else
if 3 < a3 then
j44
else
if 8 ≤ v2 then
j44
else
sa_bnd (sa_rdR 0 this 0) fun v4 =>
sa_bnd (sa_ldI .int v4 (0 + a2)) fun v5 =>
if ¬ v5 = 0 then
sa_bnd (sa_rdR 0 this 0) fun v6 =>
sa_bnd (sa_ldI .int v6 (0 + a2)) fun v7 =>
sa_let ((sa_min 99 v7) : Int32) fun x8 =>
sa_bnd (sa_rdR 0 this 0) fun v9 =>
sa_bnd (sa_stI v9 22 (v2 + 1)) fun _ =>
sa_bnd (f_X0_set this v2 0 a2) fun _ =>
sa_bnd (f_X0_set this v2 1 0) fun _ =>
sa_bnd (f_X0_set this v2 2 x8) fun _ =>
sa_bnd (f_X0_set this v2 3 5) fun _ =>
sa_bnd (f_X0_set this v2 4 a3) fun _ =>
sa_bnd (sa_rdR 0 this 0) fun v10 =>
sa_bnd (sa_ldI .int v10 (8 + a2)) fun v11 =>
sa_bnd (f_X0_set this v2 5 v11) fun _ =>
sa_bnd (sa_rdR 0 this 0) fun v12 =>
sa_bnd (sa_ldI .int v12 (0 + a2)) fun v13 =>
sa_bnd (sa_stI v12 (0 + a2) (v13 - x8)) fun _ =>
sa_bnd (sa_rdR 0 this 0) fun v14 =>
sa_bnd (sa_stI v14 (8 + a2) 0) fun _ =>
sa_ret (v2 : Int32)
else
j44)
set_option maxHeartbeats 1000000 in
set_option maxRecDepth 10000 in
theorem b_X0_castAnew {p : Program} {l : Launch} {e : Env} {s : State} {m : MethodId} {args : Array Value} {below : List Frame} {meth : Method} {c : Code} {D : va_G} {ad : Nat → Nat} {cA : FieldType → ClassId} {A : Nat → Prop} (this : Nat) (a1 : Nat) (a2 : Int32) (a3 : Int32) (C : sa_C p s m args meth c cX0_castAnew RX0 "castAnew" 6 (some .int) D ad cA A) : sa_Sg p l e s m args below meth c 6 2 D ad cA A sa_eI 0 [(0, .ref (ad this)), (1, .ref (ad a1)), (2, .int a2), (3, .int a3)] [] (f_X0_castAnew this a1 a2 a3) := by
  unfold f_X0_castAnew
  refine sa_gdI ?_
  refine sa_aload_n C d_X0_castAnew_0 rfl 0 rfl ?_
  refine sa_getR C fd_X0_11 rfl d_X0_castAnew_1 (fun v1 => ?_)
  refine sa_bipush (v := 22) C d_X0_castAnew_4 (by decide) ?_
  refine sa_iald C d_X0_castAnew_6 (fun v2 => ?_)
  refine sa_istore (lv' := [(4, .int v2), (0, .ref (ad this)), (1, .ref (ad a1)), (2, .int a2), (3, .int a3)]) C d_X0_castAnew_7 (by decide) rfl ?_
  refine sa_aload_n C d_X0_castAnew_9 rfl 2 rfl ?_
  refine sa_iload_n C d_X0_castAnew_10 rfl 3 rfl ?_
  refine sa_invV (ci := 1) C (k_X1_hasPlace a1 a2) q648 ds_X1_hasPlace q116 rfl q646 q647 q851 (gd_X1_hasPlace a1 a2) rfl rfl rfl (Nat.le_of_ble_eq_true rfl) (by decide) (by decide) d_X0_castAnew_11 (fun v3 => ?_)
  refine sa_join0 44 ([]) ([]) (?_) (fun j44 hj44 => ?_)
  · refine sa_iconst (v := (-1)) C d_X0_castAnew_44 (by decide) ?_
    exact sa_iret C d_X0_castAnew_45
  refine sa_if_eq (tgt := 44) C d_X0_castAnew_14 (by decide) ?_ ?_
  · exact sa_sub [] rfl (hj44)
  refine sa_iload_n C d_X0_castAnew_17 rfl 4 rfl ?_
  refine sa_if_lt (tgt := 44) C d_X0_castAnew_18 (by decide) ?_ ?_
  · exact sa_sub [] rfl (hj44)
  refine sa_iload_n C d_X0_castAnew_21 rfl 4 rfl ?_
  refine sa_iconst (v := 3) C d_X0_castAnew_22 (by decide) ?_
  refine sa_icmp_gt (tgt := 44) C d_X0_castAnew_23 (by decide) ?_ ?_
  · exact sa_sub [] rfl (hj44)
  refine sa_iload C d_X0_castAnew_26 0 rfl ?_
  refine sa_bipush (v := 8) C d_X0_castAnew_28 (by decide) ?_
  refine sa_icmp_ge (tgt := 44) C d_X0_castAnew_30 (by decide) ?_ ?_
  · exact sa_sub [] rfl (hj44)
  refine sa_aload_n C d_X0_castAnew_33 rfl 1 rfl ?_
  refine sa_getR C fd_X0_11 rfl d_X0_castAnew_34 (fun v4 => ?_)
  refine sa_iconst (v := 0) C d_X0_castAnew_37 (by decide) ?_
  refine sa_iload_n C d_X0_castAnew_38 rfl 3 rfl ?_
  refine sa_iadd C d_X0_castAnew_39 ?_
  refine sa_iald C d_X0_castAnew_40 (fun v5 => ?_)
  refine sa_if_ne (tgt := 46) C d_X0_castAnew_41 (by decide) ?_ ?_
  · refine sa_bipush (v := 99) C d_X0_castAnew_46 (by decide) ?_
    refine sa_aload_n C d_X0_castAnew_48 rfl 1 rfl ?_
    refine sa_getR C fd_X0_11 rfl d_X0_castAnew_49 (fun v6 => ?_)
    refine sa_iconst (v := 0) C d_X0_castAnew_52 (by decide) ?_
    refine sa_iload_n C d_X0_castAnew_53 rfl 3 rfl ?_
    refine sa_iadd C d_X0_castAnew_54 ?_
    refine sa_iald C d_X0_castAnew_55 (fun v7 => ?_)
    refine sa_mmin C q860 (Nat.le_of_ble_eq_true rfl) (by decide) q530 q130 q531 d_X0_castAnew_56 ?_
    refine sa_topi (fun x8 => ?_)
    refine sa_istore (lv' := [(5, .int x8), (4, .int v2), (0, .ref (ad this)), (1, .ref (ad a1)), (2, .int a2), (3, .int a3)]) C d_X0_castAnew_59 (by decide) rfl ?_
    refine sa_aload_n C d_X0_castAnew_61 rfl 2 rfl ?_
    refine sa_getR C fd_X0_11 rfl d_X0_castAnew_62 (fun v9 => ?_)
    refine sa_bipush (v := 22) C d_X0_castAnew_65 (by decide) ?_
    refine sa_iload C d_X0_castAnew_67 1 rfl ?_
    refine sa_iconst (v := 1) C d_X0_castAnew_69 (by decide) ?_
    refine sa_iadd C d_X0_castAnew_70 ?_
    refine sa_iast C d_X0_castAnew_71 ?_
    refine sa_aload_n C d_X0_castAnew_72 rfl 2 rfl ?_
    refine sa_iload C d_X0_castAnew_73 1 rfl ?_
    refine sa_iconst (v := 0) C d_X0_castAnew_75 (by decide) ?_
    refine sa_iload_n C d_X0_castAnew_76 rfl 4 rfl ?_
    refine sa_invV (ci := 0) C (k_X0_set this v2 0 a2) q759 ds_X0_set q121 rfl q758 q17 q756 (gd_X0_set this v2 0 a2) rfl rfl rfl (Nat.le_of_ble_eq_true rfl) (by decide) (by decide) d_X0_castAnew_77 (fun _ => ?_)
    refine sa_aload_n C d_X0_castAnew_80 rfl 2 rfl ?_
    refine sa_iload C d_X0_castAnew_81 1 rfl ?_
    refine sa_iconst (v := 1) C d_X0_castAnew_83 (by decide) ?_
    refine sa_iconst (v := 0) C d_X0_castAnew_84 (by decide) ?_
    refine sa_invV (ci := 0) C (k_X0_set this v2 1 0) q759 ds_X0_set q121 rfl q758 q17 q756 (gd_X0_set this v2 1 0) rfl rfl rfl (Nat.le_of_ble_eq_true rfl) (by decide) (by decide) d_X0_castAnew_85 (fun _ => ?_)
    refine sa_aload_n C d_X0_castAnew_88 rfl 2 rfl ?_
    refine sa_iload C d_X0_castAnew_89 1 rfl ?_
    refine sa_iconst (v := 2) C d_X0_castAnew_91 (by decide) ?_
    refine sa_iload C d_X0_castAnew_92 0 rfl ?_
    refine sa_invV (ci := 0) C (k_X0_set this v2 2 x8) q759 ds_X0_set q121 rfl q758 q17 q756 (gd_X0_set this v2 2 x8) rfl rfl rfl (Nat.le_of_ble_eq_true rfl) (by decide) (by decide) d_X0_castAnew_94 (fun _ => ?_)
    refine sa_aload_n C d_X0_castAnew_97 rfl 2 rfl ?_
    refine sa_iload C d_X0_castAnew_98 1 rfl ?_
    refine sa_iconst (v := 3) C d_X0_castAnew_100 (by decide) ?_
    refine sa_iconst (v := 5) C d_X0_castAnew_101 (by decide) ?_
    refine sa_invV (ci := 0) C (k_X0_set this v2 3 5) q759 ds_X0_set q121 rfl q758 q17 q756 (gd_X0_set this v2 3 5) rfl rfl rfl (Nat.le_of_ble_eq_true rfl) (by decide) (by decide) d_X0_castAnew_102 (fun _ => ?_)
    refine sa_aload_n C d_X0_castAnew_105 rfl 2 rfl ?_
    refine sa_iload C d_X0_castAnew_106 1 rfl ?_
    refine sa_iconst (v := 4) C d_X0_castAnew_108 (by decide) ?_
    refine sa_iload_n C d_X0_castAnew_109 rfl 5 rfl ?_
    refine sa_invV (ci := 0) C (k_X0_set this v2 4 a3) q759 ds_X0_set q121 rfl q758 q17 q756 (gd_X0_set this v2 4 a3) rfl rfl rfl (Nat.le_of_ble_eq_true rfl) (by decide) (by decide) d_X0_castAnew_110 (fun _ => ?_)
    refine sa_aload_n C d_X0_castAnew_113 rfl 2 rfl ?_
    refine sa_iload C d_X0_castAnew_114 1 rfl ?_
    refine sa_iconst (v := 5) C d_X0_castAnew_116 (by decide) ?_
    refine sa_aload_n C d_X0_castAnew_117 rfl 2 rfl ?_
    refine sa_getR C fd_X0_11 rfl d_X0_castAnew_118 (fun v10 => ?_)
    refine sa_bipush (v := 8) C d_X0_castAnew_121 (by decide) ?_
    refine sa_iload_n C d_X0_castAnew_123 rfl 4 rfl ?_
    refine sa_iadd C d_X0_castAnew_124 ?_
    refine sa_iald C d_X0_castAnew_125 (fun v11 => ?_)
    refine sa_invV (ci := 0) C (k_X0_set this v2 5 v11) q759 ds_X0_set q121 rfl q758 q17 q756 (gd_X0_set this v2 5 v11) rfl rfl rfl (Nat.le_of_ble_eq_true rfl) (by decide) (by decide) d_X0_castAnew_126 (fun _ => ?_)
    refine sa_aload_n C d_X0_castAnew_129 rfl 2 rfl ?_
    refine sa_getR C fd_X0_11 rfl d_X0_castAnew_130 (fun v12 => ?_)
    refine sa_iconst (v := 0) C d_X0_castAnew_133 (by decide) ?_
    refine sa_iload_n C d_X0_castAnew_134 rfl 4 rfl ?_
    refine sa_iadd C d_X0_castAnew_135 ?_
    refine sa_dup2_11 C d_X0_castAnew_136 rfl rfl ?_
    refine sa_iald C d_X0_castAnew_137 (fun v13 => ?_)
    refine sa_iload C d_X0_castAnew_138 0 rfl ?_
    refine sa_isub C d_X0_castAnew_140 ?_
    refine sa_iast C d_X0_castAnew_141 ?_
    refine sa_aload_n C d_X0_castAnew_142 rfl 2 rfl ?_
    refine sa_getR C fd_X0_11 rfl d_X0_castAnew_143 (fun v14 => ?_)
    refine sa_bipush (v := 8) C d_X0_castAnew_146 (by decide) ?_
    refine sa_iload_n C d_X0_castAnew_148 rfl 4 rfl ?_
    refine sa_iadd C d_X0_castAnew_149 ?_
    refine sa_iconst (v := 0) C d_X0_castAnew_150 (by decide) ?_
    refine sa_iast C d_X0_castAnew_151 ?_
    refine sa_iload C d_X0_castAnew_152 1 rfl ?_
    exact sa_iret C d_X0_castAnew_154
  exact sa_sub [] rfl (hj44)
theorem k_X0_castAnew (this : Nat) (a1 : Nat) (a2 : Int32) (a3 : Int32) : sa_Met 2 yX0_castAnew cX0_castAnew 6 (some .int) (fun ad => [.ref (ad this), .ref (ad a1), .int a2, .int a3]) sa_eI (f_X0_castAnew this a1 a2 a3) := sa_mk (by decide) (fun ad => Nat.le_of_ble_eq_true rfl) (fun p l e s m args below meth c D ad cA A C => b_X0_castAnew this a1 a2 a3 C)
theorem gd_X0_castAnew (this : Nat) (a1 : Nat) (a2 : Int32) (a3 : Int32) (σ : sa_St) (r : Int32) (τ : sa_St) (h : f_X0_castAnew this a1 a2 a3 σ = some (r, τ)) : sa_sh this = some (.inl 0) := sa_gd_ok h
theorem d_X0_isUnderRoof_0 : decode cX0_isUnderRoof 0 = .ok (.aload_n 0, 1) := by decide +kernel
theorem d_X0_isUnderRoof_1 : decode cX0_isUnderRoof 1 = .ok (.iload_n 2, 1) := by decide +kernel
theorem d_X0_isUnderRoof_2 : decode cX0_isUnderRoof 2 = .ok (.iconst 1, 1) := by decide +kernel
theorem d_X0_isUnderRoof_3 : decode cX0_isUnderRoof 3 = .ok (.invokevirtual 44, 3) := by decide +kernel
theorem d_X0_isUnderRoof_6 : decode cX0_isUnderRoof 6 = .ok (.ifCond .ne 20, 3) := by decide +kernel
theorem d_X0_isUnderRoof_9 : decode cX0_isUnderRoof 9 = .ok (.aload_n 1, 1) := by decide +kernel
theorem d_X0_isUnderRoof_10 : decode cX0_isUnderRoof 10 = .ok (.aload_n 0, 1) := by decide +kernel
theorem d_X0_isUnderRoof_11 : decode cX0_isUnderRoof 11 = .ok (.iload_n 2, 1) := by decide +kernel
theorem d_X0_isUnderRoof_12 : decode cX0_isUnderRoof 12 = .ok (.iconst 0, 1) := by decide +kernel
theorem d_X0_isUnderRoof_13 : decode cX0_isUnderRoof 13 = .ok (.invokevirtual 44, 3) := by decide +kernel
theorem d_X0_isUnderRoof_16 : decode cX0_isUnderRoof 16 = .ok (.invokevirtual 107, 3) := by decide +kernel
theorem d_X0_isUnderRoof_19 : decode cX0_isUnderRoof 19 = .ok (.ifCond .eq 7, 3) := by decide +kernel
theorem d_X0_isUnderRoof_22 : decode cX0_isUnderRoof 22 = .ok (.iconst 1, 1) := by decide +kernel
theorem d_X0_isUnderRoof_23 : decode cX0_isUnderRoof 23 = .ok (.goto 4, 3) := by decide +kernel
theorem d_X0_isUnderRoof_26 : decode cX0_isUnderRoof 26 = .ok (.iconst 0, 1) := by decide +kernel
theorem d_X0_isUnderRoof_27 : decode cX0_isUnderRoof 27 = .ok (.ireturn, 1) := by decide +kernel
def f_X0_isUnderRoof (this : Nat) (a1 : Nat) (a2 : Int32) : sa_M Int32 :=
sa_gd 0 this (
sa_bnd (f_X0_of this a2 1) fun v1 =>
sa_jn1 (fun (y2 : Int32) =>
sa_retZ y2) fun j27 =>
sa_jn0 (j27 0) fun j26 =>
if ¬ v1 = 0 then
j26
else
sa_bnd (f_X0_of this a2 0) fun v3 =>
sa_bnd (f_X1_hasRoof a1 v3) fun v4 =>
if v4 = 0 then
j26
else
j27 1)
set_option maxHeartbeats 1000000 in
set_option maxRecDepth 10000 in
theorem b_X0_isUnderRoof {p : Program} {l : Launch} {e : Env} {s : State} {m : MethodId} {args : Array Value} {below : List Frame} {meth : Method} {c : Code} {D : va_G} {ad : Nat → Nat} {cA : FieldType → ClassId} {A : Nat → Prop} (this : Nat) (a1 : Nat) (a2 : Int32) (C : sa_C p s m args meth c cX0_isUnderRoof RX0 "isUnderRoof" 3 (some .boolean) D ad cA A) : sa_Sg p l e s m args below meth c 3 3 D ad cA A sa_eI 0 [(0, .ref (ad this)), (1, .ref (ad a1)), (2, .int a2)] [] (f_X0_isUnderRoof this a1 a2) := by
  unfold f_X0_isUnderRoof
  refine sa_gdI ?_
  refine sa_aload_n C d_X0_isUnderRoof_0 rfl 0 rfl ?_
  refine sa_iload_n C d_X0_isUnderRoof_1 rfl 2 rfl ?_
  refine sa_iconst (v := 1) C d_X0_isUnderRoof_2 (by decide) ?_
  refine sa_invV (ci := 0) C (k_X0_of this a2 1) q801 ds_X0_of q121 rfl q799 q800 q798 (gd_X0_of this a2 1) rfl rfl rfl (Nat.le_of_ble_eq_true rfl) (by decide) (by decide) d_X0_isUnderRoof_3 (fun v1 => ?_)
  refine sa_join1 27 (fun y2 => []) (fun y2 => [.int y2]) (fun y2 => ?_) (fun j27 hj27 => ?_)
  · exact sa_zret C d_X0_isUnderRoof_27
  refine sa_join0 26 ([]) ([]) (?_) (fun j26 hj26 => ?_)
  · refine sa_iconst (v := 0) C d_X0_isUnderRoof_26 (by decide) ?_
    exact sa_sub [] rfl (hj27 _)
  refine sa_if_ne (tgt := 26) C d_X0_isUnderRoof_6 (by decide) ?_ ?_
  · exact sa_sub [] rfl (hj26)
  refine sa_aload_n C d_X0_isUnderRoof_9 rfl 1 rfl ?_
  refine sa_aload_n C d_X0_isUnderRoof_10 rfl 0 rfl ?_
  refine sa_iload_n C d_X0_isUnderRoof_11 rfl 2 rfl ?_
  refine sa_iconst (v := 0) C d_X0_isUnderRoof_12 (by decide) ?_
  refine sa_invV (ci := 0) C (k_X0_of this a2 0) q801 ds_X0_of q121 rfl q799 q800 q798 (gd_X0_of this a2 0) rfl rfl rfl (Nat.le_of_ble_eq_true rfl) (by decide) (by decide) d_X0_isUnderRoof_13 (fun v3 => ?_)
  refine sa_invV (ci := 1) C (k_X1_hasRoof a1 v3) q885 ds_X1_hasRoof q116 rfl q883 q884 q882 (gd_X1_hasRoof a1 v3) rfl rfl rfl (Nat.le_of_ble_eq_true rfl) (by decide) (by decide) d_X0_isUnderRoof_16 (fun v4 => ?_)
  refine sa_if_eq (tgt := 26) C d_X0_isUnderRoof_19 (by decide) ?_ ?_
  · exact sa_sub [] rfl (hj26)
  refine sa_iconst (v := 1) C d_X0_isUnderRoof_22 (by decide) ?_
  refine sa_goto (tgt := 27) C d_X0_isUnderRoof_23 (by decide) ?_
  exact sa_sub [] rfl (hj27 _)
theorem k_X0_isUnderRoof (this : Nat) (a1 : Nat) (a2 : Int32) : sa_Met 3 yX0_isUnderRoof cX0_isUnderRoof 3 (some .boolean) (fun ad => [.ref (ad this), .ref (ad a1), .int a2]) sa_eI (f_X0_isUnderRoof this a1 a2) := sa_mk (by decide) (fun ad => Nat.le_of_ble_eq_true rfl) (fun p l e s m args below meth c D ad cA A C => b_X0_isUnderRoof this a1 a2 C)
theorem gd_X0_isUnderRoof (this : Nat) (a1 : Nat) (a2 : Int32) (σ : sa_St) (r : Int32) (τ : sa_St) (h : f_X0_isUnderRoof this a1 a2 σ = some (r, τ)) : sa_sh this = some (.inl 0) := sa_gd_ok h
theorem d_X0_lose_0 : decode cX0_lose 0 = .ok (.iload_n 2, 1) := by decide +kernel
theorem d_X0_lose_1 : decode cX0_lose 1 = .ok (.aload_n 0, 1) := by decide +kernel
theorem d_X0_lose_2 : decode cX0_lose 2 = .ok (.iload_n 1, 1) := by decide +kernel
theorem d_X0_lose_3 : decode cX0_lose 3 = .ok (.iconst 2, 1) := by decide +kernel
theorem d_X0_lose_4 : decode cX0_lose 4 = .ok (.invokevirtual 44, 3) := by decide +kernel
theorem d_X0_lose_7 : decode cX0_lose 7 = .ok (.invokestatic 63, 3) := by decide +kernel
theorem d_X0_lose_10 : decode cX0_lose 10 = .ok (.istore 4, 2) := by decide +kernel
theorem d_X0_lose_12 : decode cX0_lose 12 = .ok (.aload_n 0, 1) := by decide +kernel
theorem d_X0_lose_13 : decode cX0_lose 13 = .ok (.iload_n 1, 1) := by decide +kernel
theorem d_X0_lose_14 : decode cX0_lose 14 = .ok (.iconst 2, 1) := by decide +kernel
theorem d_X0_lose_15 : decode cX0_lose 15 = .ok (.aload_n 0, 1) := by decide +kernel
theorem d_X0_lose_16 : decode cX0_lose 16 = .ok (.iload_n 1, 1) := by decide +kernel
theorem d_X0_lose_17 : decode cX0_lose 17 = .ok (.iconst 2, 1) := by decide +kernel
theorem d_X0_lose_18 : decode cX0_lose 18 = .ok (.invokevirtual 44, 3) := by decide +kernel
theorem d_X0_lose_21 : decode cX0_lose 21 = .ok (.iload 4, 2) := by decide +kernel
theorem d_X0_lose_23 : decode cX0_lose 23 = .ok (.isub, 1) := by decide +kernel
theorem d_X0_lose_24 : decode cX0_lose 24 = .ok (.invokevirtual 36, 3) := by decide +kernel
theorem d_X0_lose_27 : decode cX0_lose 27 = .ok (.aload_n 0, 1) := by decide +kernel
theorem d_X0_lose_28 : decode cX0_lose 28 = .ok (.getfield 11, 3) := by decide +kernel
theorem d_X0_lose_31 : decode cX0_lose 31 = .ok (.iload_n 3, 1) := by decide +kernel
theorem d_X0_lose_32 : decode cX0_lose 32 = .ok (.ifCond .ge 8, 3) := by decide +kernel
theorem d_X0_lose_35 : decode cX0_lose 35 = .ok (.bipush 19, 2) := by decide +kernel
theorem d_X0_lose_37 : decode cX0_lose 37 = .ok (.goto 6, 3) := by decide +kernel
theorem d_X0_lose_40 : decode cX0_lose 40 = .ok (.iconst 0, 1) := by decide +kernel
theorem d_X0_lose_41 : decode cX0_lose 41 = .ok (.iload_n 3, 1) := by decide +kernel
theorem d_X0_lose_42 : decode cX0_lose 42 = .ok (.iadd, 1) := by decide +kernel
theorem d_X0_lose_43 : decode cX0_lose 43 = .ok (.dup2, 1) := by decide +kernel
theorem d_X0_lose_44 : decode cX0_lose 44 = .ok (.iaload, 1) := by decide +kernel
theorem d_X0_lose_45 : decode cX0_lose 45 = .ok (.iload 4, 2) := by decide +kernel
theorem d_X0_lose_47 : decode cX0_lose 47 = .ok (.iadd, 1) := by decide +kernel
theorem d_X0_lose_48 : decode cX0_lose 48 = .ok (.iastore, 1) := by decide +kernel
theorem d_X0_lose_49 : decode cX0_lose 49 = .ok (.aload_n 0, 1) := by decide +kernel
theorem d_X0_lose_50 : decode cX0_lose 50 = .ok (.dup, 1) := by decide +kernel
theorem d_X0_lose_51 : decode cX0_lose 51 = .ok (.getfield 68, 3) := by decide +kernel
theorem d_X0_lose_54 : decode cX0_lose 54 = .ok (.iload 4, 2) := by decide +kernel
theorem d_X0_lose_56 : decode cX0_lose 56 = .ok (.iadd, 1) := by decide +kernel
theorem d_X0_lose_57 : decode cX0_lose 57 = .ok (.putfield 68, 3) := by decide +kernel
theorem d_X0_lose_60 : decode cX0_lose 60 = .ok (.aload_n 0, 1) := by decide +kernel
theorem d_X0_lose_61 : decode cX0_lose 61 = .ok (.iload_n 1, 1) := by decide +kernel
theorem d_X0_lose_62 : decode cX0_lose 62 = .ok (.iconst 2, 1) := by decide +kernel
theorem d_X0_lose_63 : decode cX0_lose 63 = .ok (.invokevirtual 44, 3) := by decide +kernel
theorem d_X0_lose_66 : decode cX0_lose 66 = .ok (.ifCond .ne 42, 3) := by decide +kernel
theorem d_X0_lose_69 : decode cX0_lose 69 = .ok (.aload_n 0, 1) := by decide +kernel
theorem d_X0_lose_70 : decode cX0_lose 70 = .ok (.dup, 1) := by decide +kernel
theorem d_X0_lose_71 : decode cX0_lose 71 = .ok (.getfield 72, 3) := by decide +kernel
theorem d_X0_lose_74 : decode cX0_lose 74 = .ok (.iconst 1, 1) := by decide +kernel
theorem d_X0_lose_75 : decode cX0_lose 75 = .ok (.iadd, 1) := by decide +kernel
theorem d_X0_lose_76 : decode cX0_lose 76 = .ok (.putfield 72, 3) := by decide +kernel
theorem d_X0_lose_79 : decode cX0_lose 79 = .ok (.iload_n 3, 1) := by decide +kernel
theorem d_X0_lose_80 : decode cX0_lose 80 = .ok (.ifCond .lt 21, 3) := by decide +kernel
theorem d_X0_lose_83 : decode cX0_lose 83 = .ok (.aload_n 0, 1) := by decide +kernel
theorem d_X0_lose_84 : decode cX0_lose 84 = .ok (.getfield 11, 3) := by decide +kernel
theorem d_X0_lose_87 : decode cX0_lose 87 = .ok (.bipush 8, 2) := by decide +kernel
theorem d_X0_lose_89 : decode cX0_lose 89 = .ok (.iload_n 3, 1) := by decide +kernel
theorem d_X0_lose_90 : decode cX0_lose 90 = .ok (.iadd, 1) := by decide +kernel
theorem d_X0_lose_91 : decode cX0_lose 91 = .ok (.dup2, 1) := by decide +kernel
theorem d_X0_lose_92 : decode cX0_lose 92 = .ok (.iaload, 1) := by decide +kernel
theorem d_X0_lose_93 : decode cX0_lose 93 = .ok (.aload_n 0, 1) := by decide +kernel
theorem d_X0_lose_94 : decode cX0_lose 94 = .ok (.iload_n 1, 1) := by decide +kernel
theorem d_X0_lose_95 : decode cX0_lose 95 = .ok (.iconst 5, 1) := by decide +kernel
theorem d_X0_lose_96 : decode cX0_lose 96 = .ok (.invokevirtual 44, 3) := by decide +kernel
theorem d_X0_lose_99 : decode cX0_lose 99 = .ok (.ior, 1) := by decide +kernel
theorem d_X0_lose_100 : decode cX0_lose 100 = .ok (.iastore, 1) := by decide +kernel
theorem d_X0_lose_101 : decode cX0_lose 101 = .ok (.aload_n 0, 1) := by decide +kernel
theorem d_X0_lose_102 : decode cX0_lose 102 = .ok (.iload_n 1, 1) := by decide +kernel
theorem d_X0_lose_103 : decode cX0_lose 103 = .ok (.iconst 5, 1) := by decide +kernel
theorem d_X0_lose_104 : decode cX0_lose 104 = .ok (.iconst 0, 1) := by decide +kernel
theorem d_X0_lose_105 : decode cX0_lose 105 = .ok (.invokevirtual 36, 3) := by decide +kernel
theorem d_X0_lose_108 : decode cX0_lose 108 = .ok (.return_, 1) := by decide +kernel
def f_X0_lose (this : Nat) (a1 : Int32) (a2 : Int32) (a3 : Int32) : sa_M Unit :=
sa_gd 0 this (
sa_bnd (f_X0_of this a1 2) fun v1 =>
sa_let ((sa_min a2 v1) : Int32) fun x2 =>
sa_bnd (f_X0_of this a1 2) fun v3 =>
sa_bnd (f_X0_set this a1 2 (v3 - x2)) fun _ =>
sa_bnd (sa_rdR 0 this 0) fun v4 =>
sa_jn1 (fun (y5 : Int32) =>
sa_bnd (sa_ldI .int v4 y5) fun v6 =>
sa_bnd (sa_stI v4 y5 (v6 + x2)) fun _ =>
sa_bnd (sa_rdI 0 this 1) fun v7 =>
sa_bnd (sa_wrI 0 this 1 (v7 + x2)) fun _ =>
sa_bnd (f_X0_of this a1 2) fun v8 =>
sa_jn0 (sa_ret ()) fun j108 =>
if ¬ v8 = 0 then
j108
else
sa_bnd (sa_rdI 0 this 2) fun v9 =>
sa_bnd (sa_wrI 0 this 2 (v9 + 1)) fun _ =>
sa_jn0 (sa_bnd (f_X0_set this a1 5 0) fun _ =>
j108) fun j101 =>
if a3 < 0 then
j101
else
sa_bnd (sa_rdR 0 this 0) fun v10 =>
sa_bnd (sa_ldI .int v10 (8 + a3)) fun v11 =>
sa_bnd (f_X0_of this a1 5) fun v12 =>
sa_bnd (sa_stI v10 (8 + a3) (v11 ||| v12)) fun _ =>
j101) fun j43 =>
if 0 ≤ a3 then
j43 (0 + a3)
else
j43 19)
set_option maxHeartbeats 1000000 in
set_option maxRecDepth 10000 in
theorem b_X0_lose {p : Program} {l : Launch} {e : Env} {s : State} {m : MethodId} {args : Array Value} {below : List Frame} {meth : Method} {c : Code} {D : va_G} {ad : Nat → Nat} {cA : FieldType → ClassId} {A : Nat → Prop} (this : Nat) (a1 : Int32) (a2 : Int32) (a3 : Int32) (C : sa_C p s m args meth c cX0_lose RX0 "lose" 5 none D ad cA A) : sa_Sg p l e s m args below meth c 5 2 D ad cA A sa_eV 0 [(0, .ref (ad this)), (1, .int a1), (2, .int a2), (3, .int a3)] [] (f_X0_lose this a1 a2 a3) := by
  unfold f_X0_lose
  refine sa_gdI ?_
  refine sa_iload_n C d_X0_lose_0 rfl 2 rfl ?_
  refine sa_aload_n C d_X0_lose_1 rfl 0 rfl ?_
  refine sa_iload_n C d_X0_lose_2 rfl 1 rfl ?_
  refine sa_iconst (v := 2) C d_X0_lose_3 (by decide) ?_
  refine sa_invV (ci := 0) C (k_X0_of this a1 2) q801 ds_X0_of q121 rfl q799 q800 q798 (gd_X0_of this a1 2) rfl rfl rfl (Nat.le_of_ble_eq_true rfl) (by decide) (by decide) d_X0_lose_4 (fun v1 => ?_)
  refine sa_mmin C q860 (Nat.le_of_ble_eq_true rfl) (by decide) q530 q130 q531 d_X0_lose_7 ?_
  refine sa_topi (fun x2 => ?_)
  refine sa_istore (lv' := [(4, .int x2), (0, .ref (ad this)), (1, .int a1), (2, .int a2), (3, .int a3)]) C d_X0_lose_10 (by decide) rfl ?_
  refine sa_aload_n C d_X0_lose_12 rfl 1 rfl ?_
  refine sa_iload_n C d_X0_lose_13 rfl 2 rfl ?_
  refine sa_iconst (v := 2) C d_X0_lose_14 (by decide) ?_
  refine sa_aload_n C d_X0_lose_15 rfl 1 rfl ?_
  refine sa_iload_n C d_X0_lose_16 rfl 2 rfl ?_
  refine sa_iconst (v := 2) C d_X0_lose_17 (by decide) ?_
  refine sa_invV (ci := 0) C (k_X0_of this a1 2) q801 ds_X0_of q121 rfl q799 q800 q798 (gd_X0_of this a1 2) rfl rfl rfl (Nat.le_of_ble_eq_true rfl) (by decide) (by decide) d_X0_lose_18 (fun v3 => ?_)
  refine sa_iload C d_X0_lose_21 0 rfl ?_
  refine sa_isub C d_X0_lose_23 ?_
  refine sa_invV (ci := 0) C (k_X0_set this a1 2 (v3 - x2)) q759 ds_X0_set q121 rfl q758 q17 q756 (gd_X0_set this a1 2 (v3 - x2)) rfl rfl rfl (Nat.le_of_ble_eq_true rfl) (by decide) (by decide) d_X0_lose_24 (fun _ => ?_)
  refine sa_aload_n C d_X0_lose_27 rfl 1 rfl ?_
  refine sa_getR C fd_X0_11 rfl d_X0_lose_28 (fun v4 => ?_)
  refine sa_iload_n C d_X0_lose_31 rfl 4 rfl ?_
  refine sa_join1 43 (fun y5 => [(0, .ref (ad this)), (1, .int a1), (3, .int a3), (4, .int x2)]) (fun y5 => [.int y5, .ref (ad v4)]) (fun y5 => ?_) (fun j43 hj43 => ?_)
  · refine sa_dup2_11 C d_X0_lose_43 rfl rfl ?_
    refine sa_iald C d_X0_lose_44 (fun v6 => ?_)
    refine sa_iload C d_X0_lose_45 3 rfl ?_
    refine sa_iadd C d_X0_lose_47 ?_
    refine sa_iast C d_X0_lose_48 ?_
    refine sa_aload_n C d_X0_lose_49 rfl 0 rfl ?_
    refine sa_dup C d_X0_lose_50 rfl ?_
    refine sa_getI C fd_X0_68 d_X0_lose_51 (fun v7 => ?_)
    refine sa_iload C d_X0_lose_54 3 rfl ?_
    refine sa_iadd C d_X0_lose_56 ?_
    refine sa_putI C fd_X0_68 d_X0_lose_57 ?_
    refine sa_aload_n C d_X0_lose_60 rfl 0 rfl ?_
    refine sa_iload_n C d_X0_lose_61 rfl 1 rfl ?_
    refine sa_iconst (v := 2) C d_X0_lose_62 (by decide) ?_
    refine sa_invV (ci := 0) C (k_X0_of this a1 2) q801 ds_X0_of q121 rfl q799 q800 q798 (gd_X0_of this a1 2) rfl rfl rfl (Nat.le_of_ble_eq_true rfl) (by decide) (by decide) d_X0_lose_63 (fun v8 => ?_)
    refine sa_join0 108 ([]) ([]) (?_) (fun j108 hj108 => ?_)
    · exact sa_vret C d_X0_lose_108
    refine sa_if_ne (tgt := 108) C d_X0_lose_66 (by decide) ?_ ?_
    · exact sa_sub [] rfl (hj108)
    refine sa_aload_n C d_X0_lose_69 rfl 0 rfl ?_
    refine sa_dup C d_X0_lose_70 rfl ?_
    refine sa_getI C fd_X0_72 d_X0_lose_71 (fun v9 => ?_)
    refine sa_iconst (v := 1) C d_X0_lose_74 (by decide) ?_
    refine sa_iadd C d_X0_lose_75 ?_
    refine sa_putI C fd_X0_72 d_X0_lose_76 ?_
    refine sa_iload_n C d_X0_lose_79 rfl 2 rfl ?_
    refine sa_join0 101 ([(0, .ref (ad this)), (1, .int a1)]) ([]) (?_) (fun j101 hj101 => ?_)
    · refine sa_aload_n C d_X0_lose_101 rfl 0 rfl ?_
      refine sa_iload_n C d_X0_lose_102 rfl 1 rfl ?_
      refine sa_iconst (v := 5) C d_X0_lose_103 (by decide) ?_
      refine sa_iconst (v := 0) C d_X0_lose_104 (by decide) ?_
      refine sa_invV (ci := 0) C (k_X0_set this a1 5 0) q759 ds_X0_set q121 rfl q758 q17 q756 (gd_X0_set this a1 5 0) rfl rfl rfl (Nat.le_of_ble_eq_true rfl) (by decide) (by decide) d_X0_lose_105 (fun _ => ?_)
      exact sa_sub [] rfl (hj108)
    refine sa_if_lt (tgt := 101) C d_X0_lose_80 (by decide) ?_ ?_
    · exact sa_sub [0, 1] rfl (hj101)
    refine sa_aload_n C d_X0_lose_83 rfl 0 rfl ?_
    refine sa_getR C fd_X0_11 rfl d_X0_lose_84 (fun v10 => ?_)
    refine sa_bipush (v := 8) C d_X0_lose_87 (by decide) ?_
    refine sa_iload_n C d_X0_lose_89 rfl 2 rfl ?_
    refine sa_iadd C d_X0_lose_90 ?_
    refine sa_dup2_11 C d_X0_lose_91 rfl rfl ?_
    refine sa_iald C d_X0_lose_92 (fun v11 => ?_)
    refine sa_aload_n C d_X0_lose_93 rfl 0 rfl ?_
    refine sa_iload_n C d_X0_lose_94 rfl 1 rfl ?_
    refine sa_iconst (v := 5) C d_X0_lose_95 (by decide) ?_
    refine sa_invV (ci := 0) C (k_X0_of this a1 5) q801 ds_X0_of q121 rfl q799 q800 q798 (gd_X0_of this a1 5) rfl rfl rfl (Nat.le_of_ble_eq_true rfl) (by decide) (by decide) d_X0_lose_96 (fun v12 => ?_)
    refine sa_ior C d_X0_lose_99 ?_
    refine sa_iast C d_X0_lose_100 ?_
    exact sa_sub [0, 1] rfl (hj101)
  refine sa_if_ge (tgt := 40) C d_X0_lose_32 (by decide) ?_ ?_
  · refine sa_iconst (v := 0) C d_X0_lose_40 (by decide) ?_
    refine sa_iload_n C d_X0_lose_41 rfl 4 rfl ?_
    refine sa_iadd C d_X0_lose_42 ?_
    exact sa_sub [1, 2, 4, 0] rfl (hj43 _)
  refine sa_bipush (v := 19) C d_X0_lose_35 (by decide) ?_
  refine sa_goto (tgt := 43) C d_X0_lose_37 (by decide) ?_
  exact sa_sub [1, 2, 4, 0] rfl (hj43 _)
theorem k_X0_lose (this : Nat) (a1 : Int32) (a2 : Int32) (a3 : Int32) : sa_Met 2 yX0_lose cX0_lose 5 none (fun ad => [.ref (ad this), .int a1, .int a2, .int a3]) sa_eV (f_X0_lose this a1 a2 a3) := sa_mk (by decide) (fun ad => Nat.le_of_ble_eq_true rfl) (fun p l e s m args below meth c D ad cA A C => b_X0_lose this a1 a2 a3 C)
theorem gd_X0_lose (this : Nat) (a1 : Int32) (a2 : Int32) (a3 : Int32) (σ : sa_St) (r : Unit) (τ : sa_St) (h : f_X0_lose this a1 a2 a3 σ = some (r, τ)) : sa_sh this = some (.inl 0) := sa_gd_ok h
theorem d_X0_letRain_0 : decode cX0_letRain 0 = .ok (.iconst 0, 1) := by decide +kernel
theorem d_X0_letRain_1 : decode cX0_letRain 1 = .ok (.istore 4, 2) := by decide +kernel
theorem d_X0_letRain_3 : decode cX0_letRain 3 = .ok (.iload 4, 2) := by decide +kernel
theorem d_X0_letRain_5 : decode cX0_letRain 5 = .ok (.aload_n 0, 1) := by decide +kernel
theorem d_X0_letRain_6 : decode cX0_letRain 6 = .ok (.getfield 11, 3) := by decide +kernel
theorem d_X0_letRain_9 : decode cX0_letRain 9 = .ok (.bipush 22, 2) := by decide +kernel
theorem d_X0_letRain_11 : decode cX0_letRain 11 = .ok (.iaload, 1) := by decide +kernel
theorem d_X0_letRain_12 : decode cX0_letRain 12 = .ok (.if_icmp .ge 64, 3) := by decide +kernel
theorem d_X0_letRain_15 : decode cX0_letRain 15 = .ok (.aload_n 0, 1) := by decide +kernel
theorem d_X0_letRain_16 : decode cX0_letRain 16 = .ok (.iload 4, 2) := by decide +kernel
theorem d_X0_letRain_18 : decode cX0_letRain 18 = .ok (.invokevirtual 89, 3) := by decide +kernel
theorem d_X0_letRain_21 : decode cX0_letRain 21 = .ok (.ifCond .eq 49, 3) := by decide +kernel
theorem d_X0_letRain_24 : decode cX0_letRain 24 = .ok (.iload_n 3, 1) := by decide +kernel
theorem d_X0_letRain_25 : decode cX0_letRain 25 = .ok (.aload_n 0, 1) := by decide +kernel
theorem d_X0_letRain_26 : decode cX0_letRain 26 = .ok (.iload 4, 2) := by decide +kernel
theorem d_X0_letRain_28 : decode cX0_letRain 28 = .ok (.iconst 0, 1) := by decide +kernel
theorem d_X0_letRain_29 : decode cX0_letRain 29 = .ok (.invokevirtual 44, 3) := by decide +kernel
theorem d_X0_letRain_32 : decode cX0_letRain 32 = .ok (.ishr, 1) := by decide +kernel
theorem d_X0_letRain_33 : decode cX0_letRain 33 = .ok (.iconst 1, 1) := by decide +kernel
theorem d_X0_letRain_34 : decode cX0_letRain 34 = .ok (.iand, 1) := by decide +kernel
theorem d_X0_letRain_35 : decode cX0_letRain 35 = .ok (.iconst 1, 1) := by decide +kernel
theorem d_X0_letRain_36 : decode cX0_letRain 36 = .ok (.if_icmp .ne 34, 3) := by decide +kernel
theorem d_X0_letRain_39 : decode cX0_letRain 39 = .ok (.aload_n 0, 1) := by decide +kernel
theorem d_X0_letRain_40 : decode cX0_letRain 40 = .ok (.aload_n 1, 1) := by decide +kernel
theorem d_X0_letRain_41 : decode cX0_letRain 41 = .ok (.iload 4, 2) := by decide +kernel
theorem d_X0_letRain_43 : decode cX0_letRain 43 = .ok (.invokevirtual 92, 3) := by decide +kernel
theorem d_X0_letRain_46 : decode cX0_letRain 46 = .ok (.ifCond .ne 24, 3) := by decide +kernel
theorem d_X0_letRain_49 : decode cX0_letRain 49 = .ok (.aload_n 0, 1) := by decide +kernel
theorem d_X0_letRain_50 : decode cX0_letRain 50 = .ok (.iload 4, 2) := by decide +kernel
theorem d_X0_letRain_52 : decode cX0_letRain 52 = .ok (.aload_n 0, 1) := by decide +kernel
theorem d_X0_letRain_53 : decode cX0_letRain 53 = .ok (.aload_n 1, 1) := by decide +kernel
theorem d_X0_letRain_54 : decode cX0_letRain 54 = .ok (.aload_n 2, 1) := by decide +kernel
theorem d_X0_letRain_55 : decode cX0_letRain 55 = .ok (.iload 4, 2) := by decide +kernel
theorem d_X0_letRain_57 : decode cX0_letRain 57 = .ok (.invokevirtual 96, 3) := by decide +kernel
theorem d_X0_letRain_60 : decode cX0_letRain 60 = .ok (.aload_n 0, 1) := by decide +kernel
theorem d_X0_letRain_61 : decode cX0_letRain 61 = .ok (.iload 4, 2) := by decide +kernel
theorem d_X0_letRain_63 : decode cX0_letRain 63 = .ok (.iconst 0, 1) := by decide +kernel
theorem d_X0_letRain_64 : decode cX0_letRain 64 = .ok (.invokevirtual 44, 3) := by decide +kernel
theorem d_X0_letRain_67 : decode cX0_letRain 67 = .ok (.invokevirtual 100, 3) := by decide +kernel
theorem d_X0_letRain_70 : decode cX0_letRain 70 = .ok (.iinc 4 1, 3) := by decide +kernel
theorem d_X0_letRain_73 : decode cX0_letRain 73 = .ok (.goto (-70), 3) := by decide +kernel
theorem d_X0_letRain_76 : decode cX0_letRain 76 = .ok (.return_, 1) := by decide +kernel
def f_X0_letRain (this : Nat) (a1 : Nat) (a2 : Nat) (a3 : Int32) : sa_M Unit :=
sa_gd 0 this (
sa_let (0 : Int32) fun x1 =>
sa_wh1 (fun j3 (x2 : Int32) =>
sa_bnd (sa_rdR 0 this 0) fun v3 =>
sa_bnd (sa_ldI .int v3 22) fun v4 =>
if v4 ≤ x2 then
sa_ret ()
else
sa_bnd (f_X0_lives this x2) fun v5 =>
sa_jn0 (sa_let ((x2 + 1) : Int32) fun x6 =>
j3 x6) fun j70 =>
if v5 = 0 then
j70
else
sa_bnd (f_X0_of this x2 0) fun v7 =>
if ¬ ((a3 >>> (v7 &&& 31)) &&& 1) = 1 then
j70
else
sa_bnd (f_X0_isUnderRoof this a1 x2) fun v8 =>
if ¬ v8 = 0 then
j70
else
sa_bnd (f_X0_lossByRain this a1 a2 x2) fun v9 =>
sa_bnd (f_X0_of this x2 0) fun v10 =>
sa_bnd (f_X0_lose this x2 v9 v10) fun _ =>
j70) sa_F x1)
set_option maxHeartbeats 1000000 in
set_option maxRecDepth 10000 in
theorem b_X0_letRain {p : Program} {l : Launch} {e : Env} {s : State} {m : MethodId} {args : Array Value} {below : List Frame} {meth : Method} {c : Code} {D : va_G} {ad : Nat → Nat} {cA : FieldType → ClassId} {A : Nat → Prop} (this : Nat) (a1 : Nat) (a2 : Nat) (a3 : Int32) (C : sa_C p s m args meth c cX0_letRain RX0 "letRain" 5 none D ad cA A) : sa_Sg p l e s m args below meth c 5 4 D ad cA A sa_eV 0 [(0, .ref (ad this)), (1, .ref (ad a1)), (2, .ref (ad a2)), (3, .int a3)] [] (f_X0_letRain this a1 a2 a3) := by
  unfold f_X0_letRain
  refine sa_gdI ?_
  refine sa_iconst (v := 0) C d_X0_letRain_0 (by decide) ?_
  refine sa_topi (fun x1 => ?_)
  refine sa_istore (lv' := [(4, .int x1), (0, .ref (ad this)), (1, .ref (ad a1)), (2, .ref (ad a2)), (3, .int a3)]) C d_X0_letRain_1 (by decide) rfl ?_
  refine sa_sub [1, 2, 3, 4, 0] rfl (sa_loop1 (fun x2 => [(0, .ref (ad this)), (1, .ref (ad a1)), (2, .ref (ad a2)), (3, .int a3), (4, .int x2)]) (fun x2 => []) (fun j3 hj3 x2 => ?_) _ _)
  refine sa_iload C d_X0_letRain_3 4 rfl ?_
  refine sa_aload_n C d_X0_letRain_5 rfl 0 rfl ?_
  refine sa_getR C fd_X0_11 rfl d_X0_letRain_6 (fun v3 => ?_)
  refine sa_bipush (v := 22) C d_X0_letRain_9 (by decide) ?_
  refine sa_iald C d_X0_letRain_11 (fun v4 => ?_)
  refine sa_icmp_ge (tgt := 76) C d_X0_letRain_12 (by decide) ?_ ?_
  · exact sa_vret C d_X0_letRain_76
  refine sa_aload_n C d_X0_letRain_15 rfl 0 rfl ?_
  refine sa_iload C d_X0_letRain_16 4 rfl ?_
  refine sa_invV (ci := 0) C (k_X0_lives this x2) q793 ds_X0_lives q121 rfl q791 q792 q877 (gd_X0_lives this x2) rfl rfl rfl (Nat.le_of_ble_eq_true rfl) (by decide) (by decide) d_X0_letRain_18 (fun v5 => ?_)
  refine sa_join0 70 ([(0, .ref (ad this)), (1, .ref (ad a1)), (2, .ref (ad a2)), (3, .int a3), (4, .int x2)]) ([]) (?_) (fun j70 hj70 => ?_)
  · refine sa_iinc C (fun zz => [(4, .int zz), (0, .ref (ad this)), (1, .ref (ad a1)), (2, .ref (ad a2)), (3, .int a3)]) d_X0_letRain_70 4 rfl rfl (by decide) (fun _ => rfl) (fun x6 => ?_)
    refine sa_goto (tgt := 3) C d_X0_letRain_73 (by decide) ?_
    exact sa_sub [1, 2, 3, 4, 0] rfl (hj3 _)
  refine sa_if_eq (tgt := 70) C d_X0_letRain_21 (by decide) ?_ ?_
  · exact sa_sub [0, 1, 2, 3, 4] rfl (hj70)
  refine sa_iload_n C d_X0_letRain_24 rfl 3 rfl ?_
  refine sa_aload_n C d_X0_letRain_25 rfl 0 rfl ?_
  refine sa_iload C d_X0_letRain_26 4 rfl ?_
  refine sa_iconst (v := 0) C d_X0_letRain_28 (by decide) ?_
  refine sa_invV (ci := 0) C (k_X0_of this x2 0) q801 ds_X0_of q121 rfl q799 q800 q798 (gd_X0_of this x2 0) rfl rfl rfl (Nat.le_of_ble_eq_true rfl) (by decide) (by decide) d_X0_letRain_29 (fun v7 => ?_)
  refine sa_ishr C d_X0_letRain_32 ?_
  refine sa_iconst (v := 1) C d_X0_letRain_33 (by decide) ?_
  refine sa_iand C d_X0_letRain_34 ?_
  refine sa_iconst (v := 1) C d_X0_letRain_35 (by decide) ?_
  refine sa_icmp_ne (tgt := 70) C d_X0_letRain_36 (by decide) ?_ ?_
  · exact sa_sub [0, 1, 2, 3, 4] rfl (hj70)
  refine sa_aload_n C d_X0_letRain_39 rfl 0 rfl ?_
  refine sa_aload_n C d_X0_letRain_40 rfl 1 rfl ?_
  refine sa_iload C d_X0_letRain_41 4 rfl ?_
  refine sa_invV (ci := 0) C (k_X0_isUnderRoof this a1 x2) q881 ds_X0_isUnderRoof q121 rfl q880 q21 q878 (gd_X0_isUnderRoof this a1 x2) rfl rfl rfl (Nat.le_of_ble_eq_true rfl) (by decide) (by decide) d_X0_letRain_43 (fun v8 => ?_)
  refine sa_if_ne (tgt := 70) C d_X0_letRain_46 (by decide) ?_ ?_
  · exact sa_sub [0, 1, 2, 3, 4] rfl (hj70)
  refine sa_aload_n C d_X0_letRain_49 rfl 0 rfl ?_
  refine sa_iload C d_X0_letRain_50 4 rfl ?_
  refine sa_aload_n C d_X0_letRain_52 rfl 0 rfl ?_
  refine sa_aload_n C d_X0_letRain_53 rfl 1 rfl ?_
  refine sa_aload_n C d_X0_letRain_54 rfl 2 rfl ?_
  refine sa_iload C d_X0_letRain_55 4 rfl ?_
  refine sa_invV (ci := 0) C (k_X0_lossByRain this a1 a2 x2) q805 ds_X0_lossByRain q121 rfl q803 q804 q886 (gd_X0_lossByRain this a1 a2 x2) rfl rfl rfl (Nat.le_of_ble_eq_true rfl) (by decide) (by decide) d_X0_letRain_57 (fun v9 => ?_)
  refine sa_aload_n C d_X0_letRain_60 rfl 0 rfl ?_
  refine sa_iload C d_X0_letRain_61 4 rfl ?_
  refine sa_iconst (v := 0) C d_X0_letRain_63 (by decide) ?_
  refine sa_invV (ci := 0) C (k_X0_of this x2 0) q801 ds_X0_of q121 rfl q799 q800 q798 (gd_X0_of this x2 0) rfl rfl rfl (Nat.le_of_ble_eq_true rfl) (by decide) (by decide) d_X0_letRain_64 (fun v10 => ?_)
  refine sa_invV (ci := 0) C (k_X0_lose this x2 v9 v10) q890 ds_X0_lose q121 rfl q889 q22 q887 (gd_X0_lose this x2 v9 v10) rfl rfl rfl (Nat.le_of_ble_eq_true rfl) (by decide) (by decide) d_X0_letRain_67 (fun _ => ?_)
  exact sa_sub [0, 1, 2, 3, 4] rfl (hj70)
theorem k_X0_letRain (this : Nat) (a1 : Nat) (a2 : Nat) (a3 : Int32) : sa_Met 4 yX0_letRain cX0_letRain 5 none (fun ad => [.ref (ad this), .ref (ad a1), .ref (ad a2), .int a3]) sa_eV (f_X0_letRain this a1 a2 a3) := sa_mk (by decide) (fun ad => Nat.le_of_ble_eq_true rfl) (fun p l e s m args below meth c D ad cA A C => b_X0_letRain this a1 a2 a3 C)
theorem gd_X0_letRain (this : Nat) (a1 : Nat) (a2 : Nat) (a3 : Int32) (σ : sa_St) (r : Unit) (τ : sa_St) (h : f_X0_letRain this a1 a2 a3 σ = some (r, τ)) : sa_sh this = some (.inl 0) := sa_gd_ok h
theorem d_X0_letWalk_0 : decode cX0_letWalk 0 = .ok (.iconst 0, 1) := by decide +kernel
theorem d_X0_letWalk_1 : decode cX0_letWalk 1 = .ok (.istore_n 2, 1) := by decide +kernel
theorem d_X0_letWalk_2 : decode cX0_letWalk 2 = .ok (.iload_n 2, 1) := by decide +kernel
theorem d_X0_letWalk_3 : decode cX0_letWalk 3 = .ok (.aload_n 0, 1) := by decide +kernel
theorem d_X0_letWalk_4 : decode cX0_letWalk 4 = .ok (.getfield 11, 3) := by decide +kernel
theorem d_X0_letWalk_7 : decode cX0_letWalk 7 = .ok (.bipush 22, 2) := by decide +kernel
theorem d_X0_letWalk_9 : decode cX0_letWalk 9 = .ok (.iaload, 1) := by decide +kernel
theorem d_X0_letWalk_10 : decode cX0_letWalk 10 = .ok (.if_icmp .ge 68, 3) := by decide +kernel
theorem d_X0_letWalk_13 : decode cX0_letWalk 13 = .ok (.aload_n 0, 1) := by decide +kernel
theorem d_X0_letWalk_14 : decode cX0_letWalk 14 = .ok (.iload_n 2, 1) := by decide +kernel
theorem d_X0_letWalk_15 : decode cX0_letWalk 15 = .ok (.invokevirtual 89, 3) := by decide +kernel
theorem d_X0_letWalk_18 : decode cX0_letWalk 18 = .ok (.ifCond .eq 54, 3) := by decide +kernel
theorem d_X0_letWalk_21 : decode cX0_letWalk 21 = .ok (.aload_n 0, 1) := by decide +kernel
theorem d_X0_letWalk_22 : decode cX0_letWalk 22 = .ok (.iload_n 2, 1) := by decide +kernel
theorem d_X0_letWalk_23 : decode cX0_letWalk 23 = .ok (.iconst 1, 1) := by decide +kernel
theorem d_X0_letWalk_24 : decode cX0_letWalk 24 = .ok (.invokevirtual 44, 3) := by decide +kernel
theorem d_X0_letWalk_27 : decode cX0_letWalk 27 = .ok (.ifCond .le 45, 3) := by decide +kernel
theorem d_X0_letWalk_30 : decode cX0_letWalk 30 = .ok (.aload_n 0, 1) := by decide +kernel
theorem d_X0_letWalk_31 : decode cX0_letWalk 31 = .ok (.iload_n 2, 1) := by decide +kernel
theorem d_X0_letWalk_32 : decode cX0_letWalk 32 = .ok (.iconst 1, 1) := by decide +kernel
theorem d_X0_letWalk_33 : decode cX0_letWalk 33 = .ok (.aload_n 0, 1) := by decide +kernel
theorem d_X0_letWalk_34 : decode cX0_letWalk 34 = .ok (.iload_n 2, 1) := by decide +kernel
theorem d_X0_letWalk_35 : decode cX0_letWalk 35 = .ok (.iconst 1, 1) := by decide +kernel
theorem d_X0_letWalk_36 : decode cX0_letWalk 36 = .ok (.invokevirtual 44, 3) := by decide +kernel
theorem d_X0_letWalk_39 : decode cX0_letWalk 39 = .ok (.iconst 1, 1) := by decide +kernel
theorem d_X0_letWalk_40 : decode cX0_letWalk 40 = .ok (.isub, 1) := by decide +kernel
theorem d_X0_letWalk_41 : decode cX0_letWalk 41 = .ok (.invokevirtual 36, 3) := by decide +kernel
theorem d_X0_letWalk_44 : decode cX0_letWalk 44 = .ok (.aload_n 0, 1) := by decide +kernel
theorem d_X0_letWalk_45 : decode cX0_letWalk 45 = .ok (.iload_n 2, 1) := by decide +kernel
theorem d_X0_letWalk_46 : decode cX0_letWalk 46 = .ok (.iconst 1, 1) := by decide +kernel
theorem d_X0_letWalk_47 : decode cX0_letWalk 47 = .ok (.invokevirtual 44, 3) := by decide +kernel
theorem d_X0_letWalk_50 : decode cX0_letWalk 50 = .ok (.ifCond .ne 22, 3) := by decide +kernel
theorem d_X0_letWalk_53 : decode cX0_letWalk 53 = .ok (.aload_n 0, 1) := by decide +kernel
theorem d_X0_letWalk_54 : decode cX0_letWalk 54 = .ok (.iload_n 2, 1) := by decide +kernel
theorem d_X0_letWalk_55 : decode cX0_letWalk 55 = .ok (.aload_n 1, 1) := by decide +kernel
theorem d_X0_letWalk_56 : decode cX0_letWalk 56 = .ok (.iconst 1, 1) := by decide +kernel
theorem d_X0_letWalk_57 : decode cX0_letWalk 57 = .ok (.aload_n 0, 1) := by decide +kernel
theorem d_X0_letWalk_58 : decode cX0_letWalk 58 = .ok (.iload_n 2, 1) := by decide +kernel
theorem d_X0_letWalk_59 : decode cX0_letWalk 59 = .ok (.bipush 6, 2) := by decide +kernel
theorem d_X0_letWalk_61 : decode cX0_letWalk 61 = .ok (.invokevirtual 44, 3) := by decide +kernel
theorem d_X0_letWalk_64 : decode cX0_letWalk 64 = .ok (.iconst 3, 1) := by decide +kernel
theorem d_X0_letWalk_65 : decode cX0_letWalk 65 = .ok (.invokevirtual 32, 3) := by decide +kernel
theorem d_X0_letWalk_68 : decode cX0_letWalk 68 = .ok (.iconst (-1), 1) := by decide +kernel
theorem d_X0_letWalk_69 : decode cX0_letWalk 69 = .ok (.invokevirtual 100, 3) := by decide +kernel
theorem d_X0_letWalk_72 : decode cX0_letWalk 72 = .ok (.iinc 2 1, 3) := by decide +kernel
theorem d_X0_letWalk_75 : decode cX0_letWalk 75 = .ok (.goto (-73), 3) := by decide +kernel
theorem d_X0_letWalk_78 : decode cX0_letWalk 78 = .ok (.return_, 1) := by decide +kernel
def f_X0_letWalk (this : Nat) (a1 : Nat) : sa_M Unit :=
sa_gd 0 this (
sa_let (0 : Int32) fun x1 =>
sa_wh1 (fun j2 (x2 : Int32) =>
sa_bnd (sa_rdR 0 this 0) fun v3 =>
sa_bnd (sa_ldI .int v3 22) fun v4 =>
if v4 ≤ x2 then
sa_ret ()
else
sa_bnd (f_X0_lives this x2) fun v5 =>
sa_jn0 (sa_let ((x2 + 1) : Int32) fun x6 =>
j2 x6) fun j72 =>
if v5 = 0 then
j72
else
sa_bnd (f_X0_of this x2 1) fun v7 =>
if v7 ≤ 0 then
j72
else
sa_bnd (f_X0_of this x2 1) fun v8 =>
sa_bnd (f_X0_set this x2 1 (v8 - 1)) fun _ =>
sa_bnd (f_X0_of this x2 1) fun v9 =>
if ¬ v9 = 0 then
j72
else
sa_bnd (f_X0_of this x2 6) fun v10 =>
sa_bnd (f_X1_cell a1 1 v10 3) fun v11 =>
sa_bnd (f_X0_lose this x2 v11 (-1)) fun _ =>
j72) sa_F x1)
set_option maxHeartbeats 1000000 in
set_option maxRecDepth 10000 in
theorem b_X0_letWalk {p : Program} {l : Launch} {e : Env} {s : State} {m : MethodId} {args : Array Value} {below : List Frame} {meth : Method} {c : Code} {D : va_G} {ad : Nat → Nat} {cA : FieldType → ClassId} {A : Nat → Prop} (this : Nat) (a1 : Nat) (C : sa_C p s m args meth c cX0_letWalk RX0 "letWalk" 3 none D ad cA A) : sa_Sg p l e s m args below meth c 3 3 D ad cA A sa_eV 0 [(0, .ref (ad this)), (1, .ref (ad a1))] [] (f_X0_letWalk this a1) := by
  unfold f_X0_letWalk
  refine sa_gdI ?_
  refine sa_iconst (v := 0) C d_X0_letWalk_0 (by decide) ?_
  refine sa_topi (fun x1 => ?_)
  refine sa_istore_n (lv' := [(2, .int x1), (0, .ref (ad this)), (1, .ref (ad a1))]) C d_X0_letWalk_1 rfl (by decide) rfl ?_
  refine sa_sub [1, 2, 0] rfl (sa_loop1 (fun x2 => [(0, .ref (ad this)), (1, .ref (ad a1)), (2, .int x2)]) (fun x2 => []) (fun j2 hj2 x2 => ?_) _ _)
  refine sa_iload_n C d_X0_letWalk_2 rfl 2 rfl ?_
  refine sa_aload_n C d_X0_letWalk_3 rfl 0 rfl ?_
  refine sa_getR C fd_X0_11 rfl d_X0_letWalk_4 (fun v3 => ?_)
  refine sa_bipush (v := 22) C d_X0_letWalk_7 (by decide) ?_
  refine sa_iald C d_X0_letWalk_9 (fun v4 => ?_)
  refine sa_icmp_ge (tgt := 78) C d_X0_letWalk_10 (by decide) ?_ ?_
  · exact sa_vret C d_X0_letWalk_78
  refine sa_aload_n C d_X0_letWalk_13 rfl 0 rfl ?_
  refine sa_iload_n C d_X0_letWalk_14 rfl 2 rfl ?_
  refine sa_invV (ci := 0) C (k_X0_lives this x2) q793 ds_X0_lives q121 rfl q791 q792 q877 (gd_X0_lives this x2) rfl rfl rfl (Nat.le_of_ble_eq_true rfl) (by decide) (by decide) d_X0_letWalk_15 (fun v5 => ?_)
  refine sa_join0 72 ([(0, .ref (ad this)), (1, .ref (ad a1)), (2, .int x2)]) ([]) (?_) (fun j72 hj72 => ?_)
  · refine sa_iinc C (fun zz => [(2, .int zz), (0, .ref (ad this)), (1, .ref (ad a1))]) d_X0_letWalk_72 2 rfl rfl (by decide) (fun _ => rfl) (fun x6 => ?_)
    refine sa_goto (tgt := 2) C d_X0_letWalk_75 (by decide) ?_
    exact sa_sub [1, 2, 0] rfl (hj2 _)
  refine sa_if_eq (tgt := 72) C d_X0_letWalk_18 (by decide) ?_ ?_
  · exact sa_sub [0, 1, 2] rfl (hj72)
  refine sa_aload_n C d_X0_letWalk_21 rfl 0 rfl ?_
  refine sa_iload_n C d_X0_letWalk_22 rfl 2 rfl ?_
  refine sa_iconst (v := 1) C d_X0_letWalk_23 (by decide) ?_
  refine sa_invV (ci := 0) C (k_X0_of this x2 1) q801 ds_X0_of q121 rfl q799 q800 q798 (gd_X0_of this x2 1) rfl rfl rfl (Nat.le_of_ble_eq_true rfl) (by decide) (by decide) d_X0_letWalk_24 (fun v7 => ?_)
  refine sa_if_le (tgt := 72) C d_X0_letWalk_27 (by decide) ?_ ?_
  · exact sa_sub [0, 1, 2] rfl (hj72)
  refine sa_aload_n C d_X0_letWalk_30 rfl 0 rfl ?_
  refine sa_iload_n C d_X0_letWalk_31 rfl 2 rfl ?_
  refine sa_iconst (v := 1) C d_X0_letWalk_32 (by decide) ?_
  refine sa_aload_n C d_X0_letWalk_33 rfl 0 rfl ?_
  refine sa_iload_n C d_X0_letWalk_34 rfl 2 rfl ?_
  refine sa_iconst (v := 1) C d_X0_letWalk_35 (by decide) ?_
  refine sa_invV (ci := 0) C (k_X0_of this x2 1) q801 ds_X0_of q121 rfl q799 q800 q798 (gd_X0_of this x2 1) rfl rfl rfl (Nat.le_of_ble_eq_true rfl) (by decide) (by decide) d_X0_letWalk_36 (fun v8 => ?_)
  refine sa_iconst (v := 1) C d_X0_letWalk_39 (by decide) ?_
  refine sa_isub C d_X0_letWalk_40 ?_
  refine sa_invV (ci := 0) C (k_X0_set this x2 1 (v8 - 1)) q759 ds_X0_set q121 rfl q758 q17 q756 (gd_X0_set this x2 1 (v8 - 1)) rfl rfl rfl (Nat.le_of_ble_eq_true rfl) (by decide) (by decide) d_X0_letWalk_41 (fun _ => ?_)
  refine sa_aload_n C d_X0_letWalk_44 rfl 0 rfl ?_
  refine sa_iload_n C d_X0_letWalk_45 rfl 2 rfl ?_
  refine sa_iconst (v := 1) C d_X0_letWalk_46 (by decide) ?_
  refine sa_invV (ci := 0) C (k_X0_of this x2 1) q801 ds_X0_of q121 rfl q799 q800 q798 (gd_X0_of this x2 1) rfl rfl rfl (Nat.le_of_ble_eq_true rfl) (by decide) (by decide) d_X0_letWalk_47 (fun v9 => ?_)
  refine sa_if_ne (tgt := 72) C d_X0_letWalk_50 (by decide) ?_ ?_
  · exact sa_sub [0, 1, 2] rfl (hj72)
  refine sa_aload_n C d_X0_letWalk_53 rfl 0 rfl ?_
  refine sa_iload_n C d_X0_letWalk_54 rfl 2 rfl ?_
  refine sa_aload_n C d_X0_letWalk_55 rfl 1 rfl ?_
  refine sa_iconst (v := 1) C d_X0_letWalk_56 (by decide) ?_
  refine sa_aload_n C d_X0_letWalk_57 rfl 0 rfl ?_
  refine sa_iload_n C d_X0_letWalk_58 rfl 2 rfl ?_
  refine sa_bipush (v := 6) C d_X0_letWalk_59 (by decide) ?_
  refine sa_invV (ci := 0) C (k_X0_of this x2 6) q801 ds_X0_of q121 rfl q799 q800 q798 (gd_X0_of this x2 6) rfl rfl rfl (Nat.le_of_ble_eq_true rfl) (by decide) (by decide) d_X0_letWalk_61 (fun v10 => ?_)
  refine sa_iconst (v := 3) C d_X0_letWalk_64 (by decide) ?_
  refine sa_invV (ci := 1) C (k_X1_cell a1 1 v10 3) q644 ds_X1_cell q116 rfl q642 q643 q755 (gd_X1_cell a1 1 v10 3) rfl rfl rfl (Nat.le_of_ble_eq_true rfl) (by decide) (by decide) d_X0_letWalk_65 (fun v11 => ?_)
  refine sa_iconst (v := (-1)) C d_X0_letWalk_68 (by decide) ?_
  refine sa_invV (ci := 0) C (k_X0_lose this x2 v11 (-1)) q890 ds_X0_lose q121 rfl q889 q22 q887 (gd_X0_lose this x2 v11 (-1)) rfl rfl rfl (Nat.le_of_ble_eq_true rfl) (by decide) (by decide) d_X0_letWalk_69 (fun _ => ?_)
  exact sa_sub [0, 1, 2] rfl (hj72)
theorem k_X0_letWalk (this : Nat) (a1 : Nat) : sa_Met 3 yX0_letWalk cX0_letWalk 3 none (fun ad => [.ref (ad this), .ref (ad a1)]) sa_eV (f_X0_letWalk this a1) := sa_mk (by decide) (fun ad => Nat.le_of_ble_eq_true rfl) (fun p l e s m args below meth c D ad cA A C => b_X0_letWalk this a1 C)
theorem gd_X0_letWalk (this : Nat) (a1 : Nat) (σ : sa_St) (r : Unit) (τ : sa_St) (h : f_X0_letWalk this a1 σ = some (r, τ)) : sa_sh this = some (.inl 0) := sa_gd_ok h
theorem d_X0_lowestAt_0 : decode cX0_lowestAt 0 = .ok (.iconst 0, 1) := by decide +kernel
theorem d_X0_lowestAt_1 : decode cX0_lowestAt 1 = .ok (.istore_n 2, 1) := by decide +kernel
theorem d_X0_lowestAt_2 : decode cX0_lowestAt 2 = .ok (.iload_n 2, 1) := by decide +kernel
theorem d_X0_lowestAt_3 : decode cX0_lowestAt 3 = .ok (.aload_n 0, 1) := by decide +kernel
theorem d_X0_lowestAt_4 : decode cX0_lowestAt 4 = .ok (.getfield 11, 3) := by decide +kernel
theorem d_X0_lowestAt_7 : decode cX0_lowestAt 7 = .ok (.bipush 22, 2) := by decide +kernel
theorem d_X0_lowestAt_9 : decode cX0_lowestAt 9 = .ok (.iaload, 1) := by decide +kernel
theorem d_X0_lowestAt_10 : decode cX0_lowestAt 10 = .ok (.if_icmp .ge 29, 3) := by decide +kernel
theorem d_X0_lowestAt_13 : decode cX0_lowestAt 13 = .ok (.aload_n 0, 1) := by decide +kernel
theorem d_X0_lowestAt_14 : decode cX0_lowestAt 14 = .ok (.iload_n 2, 1) := by decide +kernel
theorem d_X0_lowestAt_15 : decode cX0_lowestAt 15 = .ok (.invokevirtual 54, 3) := by decide +kernel
theorem d_X0_lowestAt_18 : decode cX0_lowestAt 18 = .ok (.ifCond .eq 15, 3) := by decide +kernel
theorem d_X0_lowestAt_21 : decode cX0_lowestAt 21 = .ok (.aload_n 0, 1) := by decide +kernel
theorem d_X0_lowestAt_22 : decode cX0_lowestAt 22 = .ok (.iload_n 2, 1) := by decide +kernel
theorem d_X0_lowestAt_23 : decode cX0_lowestAt 23 = .ok (.iconst 0, 1) := by decide +kernel
theorem d_X0_lowestAt_24 : decode cX0_lowestAt 24 = .ok (.invokevirtual 44, 3) := by decide +kernel
theorem d_X0_lowestAt_27 : decode cX0_lowestAt 27 = .ok (.iload_n 1, 1) := by decide +kernel
theorem d_X0_lowestAt_28 : decode cX0_lowestAt 28 = .ok (.if_icmp .ne 5, 3) := by decide +kernel
theorem d_X0_lowestAt_31 : decode cX0_lowestAt 31 = .ok (.iload_n 2, 1) := by decide +kernel
theorem d_X0_lowestAt_32 : decode cX0_lowestAt 32 = .ok (.ireturn, 1) := by decide +kernel
theorem d_X0_lowestAt_33 : decode cX0_lowestAt 33 = .ok (.iinc 2 1, 3) := by decide +kernel
theorem d_X0_lowestAt_36 : decode cX0_lowestAt 36 = .ok (.goto (-34), 3) := by decide +kernel
theorem d_X0_lowestAt_39 : decode cX0_lowestAt 39 = .ok (.iconst (-1), 1) := by decide +kernel
theorem d_X0_lowestAt_40 : decode cX0_lowestAt 40 = .ok (.ireturn, 1) := by decide +kernel
def f_X0_lowestAt (this : Nat) (a1 : Int32) : sa_M Int32 :=
sa_gd 0 this (
sa_let (0 : Int32) fun x1 =>
sa_wh1 (fun j2 (x2 : Int32) =>
sa_bnd (sa_rdR 0 this 0) fun v3 =>
sa_bnd (sa_ldI .int v3 22) fun v4 =>
if v4 ≤ x2 then
sa_ret ((-1) : Int32)
else
sa_bnd (f_X0_isAtPlace this x2) fun v5 =>
sa_jn0 (sa_let ((x2 + 1) : Int32) fun x6 =>
j2 x6) fun j33 =>
if v5 = 0 then
j33
else
sa_bnd (f_X0_of this x2 0) fun v7 =>
if ¬ v7 = a1 then
j33
else
sa_ret (x2 : Int32)) sa_F x1)
set_option maxHeartbeats 1000000 in
set_option maxRecDepth 10000 in
theorem b_X0_lowestAt {p : Program} {l : Launch} {e : Env} {s : State} {m : MethodId} {args : Array Value} {below : List Frame} {meth : Method} {c : Code} {D : va_G} {ad : Nat → Nat} {cA : FieldType → ClassId} {A : Nat → Prop} (this : Nat) (a1 : Int32) (C : sa_C p s m args meth c cX0_lowestAt RX0 "lowestAt" 3 (some .int) D ad cA A) : sa_Sg p l e s m args below meth c 3 3 D ad cA A sa_eI 0 [(0, .ref (ad this)), (1, .int a1)] [] (f_X0_lowestAt this a1) := by
  unfold f_X0_lowestAt
  refine sa_gdI ?_
  refine sa_iconst (v := 0) C d_X0_lowestAt_0 (by decide) ?_
  refine sa_topi (fun x1 => ?_)
  refine sa_istore_n (lv' := [(2, .int x1), (0, .ref (ad this)), (1, .int a1)]) C d_X0_lowestAt_1 rfl (by decide) rfl ?_
  refine sa_sub [1, 2, 0] rfl (sa_loop1 (fun x2 => [(0, .ref (ad this)), (1, .int a1), (2, .int x2)]) (fun x2 => []) (fun j2 hj2 x2 => ?_) _ _)
  refine sa_iload_n C d_X0_lowestAt_2 rfl 2 rfl ?_
  refine sa_aload_n C d_X0_lowestAt_3 rfl 0 rfl ?_
  refine sa_getR C fd_X0_11 rfl d_X0_lowestAt_4 (fun v3 => ?_)
  refine sa_bipush (v := 22) C d_X0_lowestAt_7 (by decide) ?_
  refine sa_iald C d_X0_lowestAt_9 (fun v4 => ?_)
  refine sa_icmp_ge (tgt := 39) C d_X0_lowestAt_10 (by decide) ?_ ?_
  · refine sa_iconst (v := (-1)) C d_X0_lowestAt_39 (by decide) ?_
    exact sa_iret C d_X0_lowestAt_40
  refine sa_aload_n C d_X0_lowestAt_13 rfl 0 rfl ?_
  refine sa_iload_n C d_X0_lowestAt_14 rfl 2 rfl ?_
  refine sa_invV (ci := 0) C (k_X0_isAtPlace this x2) q850 ds_X0_isAtPlace q121 rfl q848 q849 q847 (gd_X0_isAtPlace this x2) rfl rfl rfl (Nat.le_of_ble_eq_true rfl) (by decide) (by decide) d_X0_lowestAt_15 (fun v5 => ?_)
  refine sa_join0 33 ([(0, .ref (ad this)), (1, .int a1), (2, .int x2)]) ([]) (?_) (fun j33 hj33 => ?_)
  · refine sa_iinc C (fun zz => [(2, .int zz), (0, .ref (ad this)), (1, .int a1)]) d_X0_lowestAt_33 2 rfl rfl (by decide) (fun _ => rfl) (fun x6 => ?_)
    refine sa_goto (tgt := 2) C d_X0_lowestAt_36 (by decide) ?_
    exact sa_sub [1, 2, 0] rfl (hj2 _)
  refine sa_if_eq (tgt := 33) C d_X0_lowestAt_18 (by decide) ?_ ?_
  · exact sa_sub [0, 1, 2] rfl (hj33)
  refine sa_aload_n C d_X0_lowestAt_21 rfl 0 rfl ?_
  refine sa_iload_n C d_X0_lowestAt_22 rfl 2 rfl ?_
  refine sa_iconst (v := 0) C d_X0_lowestAt_23 (by decide) ?_
  refine sa_invV (ci := 0) C (k_X0_of this x2 0) q801 ds_X0_of q121 rfl q799 q800 q798 (gd_X0_of this x2 0) rfl rfl rfl (Nat.le_of_ble_eq_true rfl) (by decide) (by decide) d_X0_lowestAt_24 (fun v7 => ?_)
  refine sa_iload_n C d_X0_lowestAt_27 rfl 1 rfl ?_
  refine sa_icmp_ne (tgt := 33) C d_X0_lowestAt_28 (by decide) ?_ ?_
  · exact sa_sub [0, 1, 2] rfl (hj33)
  refine sa_iload_n C d_X0_lowestAt_31 rfl 2 rfl ?_
  exact sa_iret C d_X0_lowestAt_32
theorem k_X0_lowestAt (this : Nat) (a1 : Int32) : sa_Met 3 yX0_lowestAt cX0_lowestAt 3 (some .int) (fun ad => [.ref (ad this), .int a1]) sa_eI (f_X0_lowestAt this a1) := sa_mk (by decide) (fun ad => Nat.le_of_ble_eq_true rfl) (fun p l e s m args below meth c D ad cA A C => b_X0_lowestAt this a1 C)
theorem gd_X0_lowestAt (this : Nat) (a1 : Int32) (σ : sa_St) (r : Int32) (τ : sa_St) (h : f_X0_lowestAt this a1 σ = some (r, τ)) : sa_sh this = some (.inl 0) := sa_gd_ok h
theorem d_X0_throwBuckets_0 : decode cX0_throwBuckets 0 = .ok (.iconst 0, 1) := by decide +kernel
theorem d_X0_throwBuckets_1 : decode cX0_throwBuckets 1 = .ok (.istore_n 2, 1) := by decide +kernel
theorem d_X0_throwBuckets_2 : decode cX0_throwBuckets 2 = .ok (.iload_n 2, 1) := by decide +kernel
theorem d_X0_throwBuckets_3 : decode cX0_throwBuckets 3 = .ok (.aload_n 1, 1) := by decide +kernel
theorem d_X0_throwBuckets_4 : decode cX0_throwBuckets 4 = .ok (.getfield 27, 3) := by decide +kernel
theorem d_X0_throwBuckets_7 : decode cX0_throwBuckets 7 = .ok (.iconst 3, 1) := by decide +kernel
theorem d_X0_throwBuckets_8 : decode cX0_throwBuckets 8 = .ok (.iaload, 1) := by decide +kernel
theorem d_X0_throwBuckets_9 : decode cX0_throwBuckets 9 = .ok (.if_icmp .ge 66, 3) := by decide +kernel
theorem d_X0_throwBuckets_12 : decode cX0_throwBuckets 12 = .ok (.aload_n 1, 1) := by decide +kernel
theorem d_X0_throwBuckets_13 : decode cX0_throwBuckets 13 = .ok (.iconst 3, 1) := by decide +kernel
theorem d_X0_throwBuckets_14 : decode cX0_throwBuckets 14 = .ok (.iload_n 2, 1) := by decide +kernel
theorem d_X0_throwBuckets_15 : decode cX0_throwBuckets 15 = .ok (.iconst 0, 1) := by decide +kernel
theorem d_X0_throwBuckets_16 : decode cX0_throwBuckets 16 = .ok (.invokevirtual 32, 3) := by decide +kernel
theorem d_X0_throwBuckets_19 : decode cX0_throwBuckets 19 = .ok (.istore_n 3, 1) := by decide +kernel
theorem d_X0_throwBuckets_20 : decode cX0_throwBuckets 20 = .ok (.aload_n 0, 1) := by decide +kernel
theorem d_X0_throwBuckets_21 : decode cX0_throwBuckets 21 = .ok (.getfield 11, 3) := by decide +kernel
theorem d_X0_throwBuckets_24 : decode cX0_throwBuckets 24 = .ok (.bipush 16, 2) := by decide +kernel
theorem d_X0_throwBuckets_26 : decode cX0_throwBuckets 26 = .ok (.iload_n 2, 1) := by decide +kernel
theorem d_X0_throwBuckets_27 : decode cX0_throwBuckets 27 = .ok (.iadd, 1) := by decide +kernel
theorem d_X0_throwBuckets_28 : decode cX0_throwBuckets 28 = .ok (.iaload, 1) := by decide +kernel
theorem d_X0_throwBuckets_29 : decode cX0_throwBuckets 29 = .ok (.ifCond .le 11, 3) := by decide +kernel
theorem d_X0_throwBuckets_32 : decode cX0_throwBuckets 32 = .ok (.aload_n 0, 1) := by decide +kernel
theorem d_X0_throwBuckets_33 : decode cX0_throwBuckets 33 = .ok (.iload_n 3, 1) := by decide +kernel
theorem d_X0_throwBuckets_34 : decode cX0_throwBuckets 34 = .ok (.invokevirtual 103, 3) := by decide +kernel
theorem d_X0_throwBuckets_37 : decode cX0_throwBuckets 37 = .ok (.goto 4, 3) := by decide +kernel
theorem d_X0_throwBuckets_40 : decode cX0_throwBuckets 40 = .ok (.iconst (-1), 1) := by decide +kernel
theorem d_X0_throwBuckets_41 : decode cX0_throwBuckets 41 = .ok (.istore 4, 2) := by decide +kernel
theorem d_X0_throwBuckets_43 : decode cX0_throwBuckets 43 = .ok (.iload 4, 2) := by decide +kernel
theorem d_X0_throwBuckets_45 : decode cX0_throwBuckets 45 = .ok (.ifCond .lt 24, 3) := by decide +kernel
theorem d_X0_throwBuckets_48 : decode cX0_throwBuckets 48 = .ok (.aload_n 0, 1) := by decide +kernel
theorem d_X0_throwBuckets_49 : decode cX0_throwBuckets 49 = .ok (.getfield 11, 3) := by decide +kernel
theorem d_X0_throwBuckets_52 : decode cX0_throwBuckets 52 = .ok (.bipush 16, 2) := by decide +kernel
theorem d_X0_throwBuckets_54 : decode cX0_throwBuckets 54 = .ok (.iload_n 2, 1) := by decide +kernel
theorem d_X0_throwBuckets_55 : decode cX0_throwBuckets 55 = .ok (.iadd, 1) := by decide +kernel
theorem d_X0_throwBuckets_56 : decode cX0_throwBuckets 56 = .ok (.dup2, 1) := by decide +kernel
theorem d_X0_throwBuckets_57 : decode cX0_throwBuckets 57 = .ok (.iaload, 1) := by decide +kernel
theorem d_X0_throwBuckets_58 : decode cX0_throwBuckets 58 = .ok (.iconst 1, 1) := by decide +kernel
theorem d_X0_throwBuckets_59 : decode cX0_throwBuckets 59 = .ok (.isub, 1) := by decide +kernel
theorem d_X0_throwBuckets_60 : decode cX0_throwBuckets 60 = .ok (.iastore, 1) := by decide +kernel
theorem d_X0_throwBuckets_61 : decode cX0_throwBuckets 61 = .ok (.aload_n 0, 1) := by decide +kernel
theorem d_X0_throwBuckets_62 : decode cX0_throwBuckets 62 = .ok (.iload 4, 2) := by decide +kernel
theorem d_X0_throwBuckets_64 : decode cX0_throwBuckets 64 = .ok (.iconst 5, 1) := by decide +kernel
theorem d_X0_throwBuckets_65 : decode cX0_throwBuckets 65 = .ok (.iload_n 3, 1) := by decide +kernel
theorem d_X0_throwBuckets_66 : decode cX0_throwBuckets 66 = .ok (.invokevirtual 100, 3) := by decide +kernel
theorem d_X0_throwBuckets_69 : decode cX0_throwBuckets 69 = .ok (.iinc 2 1, 3) := by decide +kernel
theorem d_X0_throwBuckets_72 : decode cX0_throwBuckets 72 = .ok (.goto (-70), 3) := by decide +kernel
theorem d_X0_throwBuckets_75 : decode cX0_throwBuckets 75 = .ok (.return_, 1) := by decide +kernel
def f_X0_throwBuckets (this : Nat) (a1 : Nat) : sa_M Unit :=
sa_gd 0 this (
sa_let (0 : Int32) fun x1 =>
sa_wh1 (fun j2 (x2 : Int32) =>
sa_bnd (sa_rdR 1 a1 0) fun v3 =>
sa_bnd (sa_ldI .int v3 3) fun v4 =>
if v4 ≤ x2 then
sa_ret ()
else
sa_bnd (f_X1_cell a1 3 x2 0) fun v5 =>
sa_bnd (sa_rdR 0 this 0) fun v6 =>
sa_bnd (sa_ldI .int v6 (16 + x2)) fun v7 =>
sa_jn1 (fun (y8 : Int32) =>
sa_jn0 (sa_let ((x2 + 1) : Int32) fun x9 =>
j2 x9) fun j69 =>
if y8 < 0 then
j69
else
sa_bnd (sa_rdR 0 this 0) fun v10 =>
sa_bnd (sa_ldI .int v10 (16 + x2)) fun v11 =>
sa_bnd (sa_stI v10 (16 + x2) (v11 - 1)) fun _ =>
sa_bnd (f_X0_lose this y8 5 v5) fun _ =>
j69) fun j41 =>
if v7 ≤ 0 then
j41 (-1)
else
sa_bnd (f_X0_lowestAt this v5) fun v12 =>
j41 v12) sa_F x1)
set_option maxHeartbeats 1000000 in
set_option maxRecDepth 10000 in
theorem b_X0_throwBuckets {p : Program} {l : Launch} {e : Env} {s : State} {m : MethodId} {args : Array Value} {below : List Frame} {meth : Method} {c : Code} {D : va_G} {ad : Nat → Nat} {cA : FieldType → ClassId} {A : Nat → Prop} (this : Nat) (a1 : Nat) (C : sa_C p s m args meth c cX0_throwBuckets RX0 "throwBuckets" 5 none D ad cA A) : sa_Sg p l e s m args below meth c 5 4 D ad cA A sa_eV 0 [(0, .ref (ad this)), (1, .ref (ad a1))] [] (f_X0_throwBuckets this a1) := by
  unfold f_X0_throwBuckets
  refine sa_gdI ?_
  refine sa_iconst (v := 0) C d_X0_throwBuckets_0 (by decide) ?_
  refine sa_topi (fun x1 => ?_)
  refine sa_istore_n (lv' := [(2, .int x1), (0, .ref (ad this)), (1, .ref (ad a1))]) C d_X0_throwBuckets_1 rfl (by decide) rfl ?_
  refine sa_sub [1, 2, 0] rfl (sa_loop1 (fun x2 => [(0, .ref (ad this)), (1, .ref (ad a1)), (2, .int x2)]) (fun x2 => []) (fun j2 hj2 x2 => ?_) _ _)
  refine sa_iload_n C d_X0_throwBuckets_2 rfl 2 rfl ?_
  refine sa_aload_n C d_X0_throwBuckets_3 rfl 1 rfl ?_
  refine sa_getR C fd_X0_27 rfl d_X0_throwBuckets_4 (fun v3 => ?_)
  refine sa_iconst (v := 3) C d_X0_throwBuckets_7 (by decide) ?_
  refine sa_iald C d_X0_throwBuckets_8 (fun v4 => ?_)
  refine sa_icmp_ge (tgt := 75) C d_X0_throwBuckets_9 (by decide) ?_ ?_
  · exact sa_vret C d_X0_throwBuckets_75
  refine sa_aload_n C d_X0_throwBuckets_12 rfl 1 rfl ?_
  refine sa_iconst (v := 3) C d_X0_throwBuckets_13 (by decide) ?_
  refine sa_iload_n C d_X0_throwBuckets_14 rfl 2 rfl ?_
  refine sa_iconst (v := 0) C d_X0_throwBuckets_15 (by decide) ?_
  refine sa_invV (ci := 1) C (k_X1_cell a1 3 x2 0) q644 ds_X1_cell q116 rfl q642 q643 q755 (gd_X1_cell a1 3 x2 0) rfl rfl rfl (Nat.le_of_ble_eq_true rfl) (by decide) (by decide) d_X0_throwBuckets_16 (fun v5 => ?_)
  refine sa_istore_n (lv' := [(3, .int v5), (0, .ref (ad this)), (1, .ref (ad a1)), (2, .int x2)]) C d_X0_throwBuckets_19 rfl (by decide) rfl ?_
  refine sa_aload_n C d_X0_throwBuckets_20 rfl 1 rfl ?_
  refine sa_getR C fd_X0_11 rfl d_X0_throwBuckets_21 (fun v6 => ?_)
  refine sa_bipush (v := 16) C d_X0_throwBuckets_24 (by decide) ?_
  refine sa_iload_n C d_X0_throwBuckets_26 rfl 3 rfl ?_
  refine sa_iadd C d_X0_throwBuckets_27 ?_
  refine sa_iald C d_X0_throwBuckets_28 (fun v7 => ?_)
  refine sa_join1 41 (fun y8 => [(0, .ref (ad this)), (1, .ref (ad a1)), (2, .int x2), (3, .int v5)]) (fun y8 => [.int y8]) (fun y8 => ?_) (fun j41 hj41 => ?_)
  · refine sa_istore (lv' := [(4, .int y8), (0, .ref (ad this)), (1, .ref (ad a1)), (2, .int x2), (3, .int v5)]) C d_X0_throwBuckets_41 (by decide) rfl ?_
    refine sa_iload C d_X0_throwBuckets_43 0 rfl ?_
    refine sa_join0 69 ([(0, .ref (ad this)), (1, .ref (ad a1)), (2, .int x2)]) ([]) (?_) (fun j69 hj69 => ?_)
    · refine sa_iinc C (fun zz => [(2, .int zz), (0, .ref (ad this)), (1, .ref (ad a1))]) d_X0_throwBuckets_69 2 rfl rfl (by decide) (fun _ => rfl) (fun x9 => ?_)
      refine sa_goto (tgt := 2) C d_X0_throwBuckets_72 (by decide) ?_
      exact sa_sub [1, 2, 0] rfl (hj2 _)
    refine sa_if_lt (tgt := 69) C d_X0_throwBuckets_45 (by decide) ?_ ?_
    · exact sa_sub [1, 2, 3] rfl (hj69)
    refine sa_aload_n C d_X0_throwBuckets_48 rfl 1 rfl ?_
    refine sa_getR C fd_X0_11 rfl d_X0_throwBuckets_49 (fun v10 => ?_)
    refine sa_bipush (v := 16) C d_X0_throwBuckets_52 (by decide) ?_
    refine sa_iload_n C d_X0_throwBuckets_54 rfl 3 rfl ?_
    refine sa_iadd C d_X0_throwBuckets_55 ?_
    refine sa_dup2_11 C d_X0_throwBuckets_56 rfl rfl ?_
    refine sa_iald C d_X0_throwBuckets_57 (fun v11 => ?_)
    refine sa_iconst (v := 1) C d_X0_throwBuckets_58 (by decide) ?_
    refine sa_isub C d_X0_throwBuckets_59 ?_
    refine sa_iast C d_X0_throwBuckets_60 ?_
    refine sa_aload_n C d_X0_throwBuckets_61 rfl 1 rfl ?_
    refine sa_iload C d_X0_throwBuckets_62 0 rfl ?_
    refine sa_iconst (v := 5) C d_X0_throwBuckets_64 (by decide) ?_
    refine sa_iload_n C d_X0_throwBuckets_65 rfl 4 rfl ?_
    refine sa_invV (ci := 0) C (k_X0_lose this y8 5 v5) q890 ds_X0_lose q121 rfl q889 q22 q887 (gd_X0_lose this y8 5 v5) rfl rfl rfl (Nat.le_of_ble_eq_true rfl) (by decide) (by decide) d_X0_throwBuckets_66 (fun _ => ?_)
    exact sa_sub [1, 2, 3] rfl (hj69)
  refine sa_if_le (tgt := 40) C d_X0_throwBuckets_29 (by decide) ?_ ?_
  · refine sa_iconst (v := (-1)) C d_X0_throwBuckets_40 (by decide) ?_
    exact sa_sub [1, 2, 3, 0] rfl (hj41 _)
  refine sa_aload_n C d_X0_throwBuckets_32 rfl 1 rfl ?_
  refine sa_iload_n C d_X0_throwBuckets_33 rfl 0 rfl ?_
  refine sa_invV (ci := 0) C (k_X0_lowestAt this v5) q902 ds_X0_lowestAt q121 rfl q901 q25 q899 (gd_X0_lowestAt this v5) rfl rfl rfl (Nat.le_of_ble_eq_true rfl) (by decide) (by decide) d_X0_throwBuckets_34 (fun v12 => ?_)
  refine sa_goto (tgt := 41) C d_X0_throwBuckets_37 (by decide) ?_
  exact sa_sub [1, 2, 3, 0] rfl (hj41 _)
theorem k_X0_throwBuckets (this : Nat) (a1 : Nat) : sa_Met 4 yX0_throwBuckets cX0_throwBuckets 5 none (fun ad => [.ref (ad this), .ref (ad a1)]) sa_eV (f_X0_throwBuckets this a1) := sa_mk (by decide) (fun ad => Nat.le_of_ble_eq_true rfl) (fun p l e s m args below meth c D ad cA A C => b_X0_throwBuckets this a1 C)
theorem gd_X0_throwBuckets (this : Nat) (a1 : Nat) (σ : sa_St) (r : Unit) (τ : sa_St) (h : f_X0_throwBuckets this a1 σ = some (r, τ)) : sa_sh this = some (.inl 0) := sa_gd_ok h
theorem d_X0_letDewFall_0 : decode cX0_letDewFall 0 = .ok (.iconst 0, 1) := by decide +kernel
theorem d_X0_letDewFall_1 : decode cX0_letDewFall 1 = .ok (.istore_n 2, 1) := by decide +kernel
theorem d_X0_letDewFall_2 : decode cX0_letDewFall 2 = .ok (.iload_n 2, 1) := by decide +kernel
theorem d_X0_letDewFall_3 : decode cX0_letDewFall 3 = .ok (.aload_n 0, 1) := by decide +kernel
theorem d_X0_letDewFall_4 : decode cX0_letDewFall 4 = .ok (.getfield 11, 3) := by decide +kernel
theorem d_X0_letDewFall_7 : decode cX0_letDewFall 7 = .ok (.bipush 22, 2) := by decide +kernel
theorem d_X0_letDewFall_9 : decode cX0_letDewFall 9 = .ok (.iaload, 1) := by decide +kernel
theorem d_X0_letDewFall_10 : decode cX0_letDewFall 10 = .ok (.if_icmp .ge 38, 3) := by decide +kernel
theorem d_X0_letDewFall_13 : decode cX0_letDewFall 13 = .ok (.aload_n 0, 1) := by decide +kernel
theorem d_X0_letDewFall_14 : decode cX0_letDewFall 14 = .ok (.iload_n 2, 1) := by decide +kernel
theorem d_X0_letDewFall_15 : decode cX0_letDewFall 15 = .ok (.invokevirtual 89, 3) := by decide +kernel
theorem d_X0_letDewFall_18 : decode cX0_letDewFall 18 = .ok (.ifCond .eq 24, 3) := by decide +kernel
theorem d_X0_letDewFall_21 : decode cX0_letDewFall 21 = .ok (.aload_n 0, 1) := by decide +kernel
theorem d_X0_letDewFall_22 : decode cX0_letDewFall 22 = .ok (.aload_n 1, 1) := by decide +kernel
theorem d_X0_letDewFall_23 : decode cX0_letDewFall 23 = .ok (.iload_n 2, 1) := by decide +kernel
theorem d_X0_letDewFall_24 : decode cX0_letDewFall 24 = .ok (.invokevirtual 92, 3) := by decide +kernel
theorem d_X0_letDewFall_27 : decode cX0_letDewFall 27 = .ok (.ifCond .ne 15, 3) := by decide +kernel
theorem d_X0_letDewFall_30 : decode cX0_letDewFall 30 = .ok (.aload_n 0, 1) := by decide +kernel
theorem d_X0_letDewFall_31 : decode cX0_letDewFall 31 = .ok (.iload_n 2, 1) := by decide +kernel
theorem d_X0_letDewFall_32 : decode cX0_letDewFall 32 = .ok (.iconst 1, 1) := by decide +kernel
theorem d_X0_letDewFall_33 : decode cX0_letDewFall 33 = .ok (.aload_n 0, 1) := by decide +kernel
theorem d_X0_letDewFall_34 : decode cX0_letDewFall 34 = .ok (.iload_n 2, 1) := by decide +kernel
theorem d_X0_letDewFall_35 : decode cX0_letDewFall 35 = .ok (.iconst 0, 1) := by decide +kernel
theorem d_X0_letDewFall_36 : decode cX0_letDewFall 36 = .ok (.invokevirtual 44, 3) := by decide +kernel
theorem d_X0_letDewFall_39 : decode cX0_letDewFall 39 = .ok (.invokevirtual 100, 3) := by decide +kernel
theorem d_X0_letDewFall_42 : decode cX0_letDewFall 42 = .ok (.iinc 2 1, 3) := by decide +kernel
theorem d_X0_letDewFall_45 : decode cX0_letDewFall 45 = .ok (.goto (-43), 3) := by decide +kernel
theorem d_X0_letDewFall_48 : decode cX0_letDewFall 48 = .ok (.return_, 1) := by decide +kernel
def f_X0_letDewFall (this : Nat) (a1 : Nat) : sa_M Unit :=
sa_gd 0 this (
sa_let (0 : Int32) fun x1 =>
sa_wh1 (fun j2 (x2 : Int32) =>
sa_bnd (sa_rdR 0 this 0) fun v3 =>
sa_bnd (sa_ldI .int v3 22) fun v4 =>
if v4 ≤ x2 then
sa_ret ()
else
sa_bnd (f_X0_lives this x2) fun v5 =>
sa_jn0 (sa_let ((x2 + 1) : Int32) fun x6 =>
j2 x6) fun j42 =>
if v5 = 0 then
j42
else
sa_bnd (f_X0_isUnderRoof this a1 x2) fun v7 =>
if ¬ v7 = 0 then
j42
else
sa_bnd (f_X0_of this x2 0) fun v8 =>
sa_bnd (f_X0_lose this x2 1 v8) fun _ =>
j42) sa_F x1)
set_option maxHeartbeats 1000000 in
set_option maxRecDepth 10000 in
theorem b_X0_letDewFall {p : Program} {l : Launch} {e : Env} {s : State} {m : MethodId} {args : Array Value} {below : List Frame} {meth : Method} {c : Code} {D : va_G} {ad : Nat → Nat} {cA : FieldType → ClassId} {A : Nat → Prop} (this : Nat) (a1 : Nat) (C : sa_C p s m args meth c cX0_letDewFall RX0 "letDewFall" 3 none D ad cA A) : sa_Sg p l e s m args below meth c 3 4 D ad cA A sa_eV 0 [(0, .ref (ad this)), (1, .ref (ad a1))] [] (f_X0_letDewFall this a1) := by
  unfold f_X0_letDewFall
  refine sa_gdI ?_
  refine sa_iconst (v := 0) C d_X0_letDewFall_0 (by decide) ?_
  refine sa_topi (fun x1 => ?_)
  refine sa_istore_n (lv' := [(2, .int x1), (0, .ref (ad this)), (1, .ref (ad a1))]) C d_X0_letDewFall_1 rfl (by decide) rfl ?_
  refine sa_sub [1, 2, 0] rfl (sa_loop1 (fun x2 => [(0, .ref (ad this)), (1, .ref (ad a1)), (2, .int x2)]) (fun x2 => []) (fun j2 hj2 x2 => ?_) _ _)
  refine sa_iload_n C d_X0_letDewFall_2 rfl 2 rfl ?_
  refine sa_aload_n C d_X0_letDewFall_3 rfl 0 rfl ?_
  refine sa_getR C fd_X0_11 rfl d_X0_letDewFall_4 (fun v3 => ?_)
  refine sa_bipush (v := 22) C d_X0_letDewFall_7 (by decide) ?_
  refine sa_iald C d_X0_letDewFall_9 (fun v4 => ?_)
  refine sa_icmp_ge (tgt := 48) C d_X0_letDewFall_10 (by decide) ?_ ?_
  · exact sa_vret C d_X0_letDewFall_48
  refine sa_aload_n C d_X0_letDewFall_13 rfl 0 rfl ?_
  refine sa_iload_n C d_X0_letDewFall_14 rfl 2 rfl ?_
  refine sa_invV (ci := 0) C (k_X0_lives this x2) q793 ds_X0_lives q121 rfl q791 q792 q877 (gd_X0_lives this x2) rfl rfl rfl (Nat.le_of_ble_eq_true rfl) (by decide) (by decide) d_X0_letDewFall_15 (fun v5 => ?_)
  refine sa_join0 42 ([(0, .ref (ad this)), (1, .ref (ad a1)), (2, .int x2)]) ([]) (?_) (fun j42 hj42 => ?_)
  · refine sa_iinc C (fun zz => [(2, .int zz), (0, .ref (ad this)), (1, .ref (ad a1))]) d_X0_letDewFall_42 2 rfl rfl (by decide) (fun _ => rfl) (fun x6 => ?_)
    refine sa_goto (tgt := 2) C d_X0_letDewFall_45 (by decide) ?_
    exact sa_sub [1, 2, 0] rfl (hj2 _)
  refine sa_if_eq (tgt := 42) C d_X0_letDewFall_18 (by decide) ?_ ?_
  · exact sa_sub [0, 1, 2] rfl (hj42)
  refine sa_aload_n C d_X0_letDewFall_21 rfl 0 rfl ?_
  refine sa_aload_n C d_X0_letDewFall_22 rfl 1 rfl ?_
  refine sa_iload_n C d_X0_letDewFall_23 rfl 2 rfl ?_
  refine sa_invV (ci := 0) C (k_X0_isUnderRoof this a1 x2) q881 ds_X0_isUnderRoof q121 rfl q880 q21 q878 (gd_X0_isUnderRoof this a1 x2) rfl rfl rfl (Nat.le_of_ble_eq_true rfl) (by decide) (by decide) d_X0_letDewFall_24 (fun v7 => ?_)
  refine sa_if_ne (tgt := 42) C d_X0_letDewFall_27 (by decide) ?_ ?_
  · exact sa_sub [0, 1, 2] rfl (hj42)
  refine sa_aload_n C d_X0_letDewFall_30 rfl 0 rfl ?_
  refine sa_iload_n C d_X0_letDewFall_31 rfl 2 rfl ?_
  refine sa_iconst (v := 1) C d_X0_letDewFall_32 (by decide) ?_
  refine sa_aload_n C d_X0_letDewFall_33 rfl 0 rfl ?_
  refine sa_iload_n C d_X0_letDewFall_34 rfl 2 rfl ?_
  refine sa_iconst (v := 0) C d_X0_letDewFall_35 (by decide) ?_
  refine sa_invV (ci := 0) C (k_X0_of this x2 0) q801 ds_X0_of q121 rfl q799 q800 q798 (gd_X0_of this x2 0) rfl rfl rfl (Nat.le_of_ble_eq_true rfl) (by decide) (by decide) d_X0_letDewFall_36 (fun v8 => ?_)
  refine sa_invV (ci := 0) C (k_X0_lose this x2 1 v8) q890 ds_X0_lose q121 rfl q889 q22 q887 (gd_X0_lose this x2 1 v8) rfl rfl rfl (Nat.le_of_ble_eq_true rfl) (by decide) (by decide) d_X0_letDewFall_39 (fun _ => ?_)
  exact sa_sub [0, 1, 2] rfl (hj42)
theorem k_X0_letDewFall (this : Nat) (a1 : Nat) : sa_Met 4 yX0_letDewFall cX0_letDewFall 3 none (fun ad => [.ref (ad this), .ref (ad a1)]) sa_eV (f_X0_letDewFall this a1) := sa_mk (by decide) (fun ad => Nat.le_of_ble_eq_true rfl) (fun p l e s m args below meth c D ad cA A C => b_X0_letDewFall this a1 C)
theorem gd_X0_letDewFall (this : Nat) (a1 : Nat) (σ : sa_St) (r : Unit) (τ : sa_St) (h : f_X0_letDewFall this a1 σ = some (r, τ)) : sa_sh this = some (.inl 0) := sa_gd_ok h
theorem d_X0_passHour_0 : decode cX0_passHour 0 = .ok (.aload_n 0, 1) := by decide +kernel
theorem d_X0_passHour_1 : decode cX0_passHour 1 = .ok (.iconst 0, 1) := by decide +kernel
theorem d_X0_passHour_2 : decode cX0_passHour 2 = .ok (.putfield 68, 3) := by decide +kernel
theorem d_X0_passHour_5 : decode cX0_passHour 5 = .ok (.aload_n 0, 1) := by decide +kernel
theorem d_X0_passHour_6 : decode cX0_passHour 6 = .ok (.iconst 0, 1) := by decide +kernel
theorem d_X0_passHour_7 : decode cX0_passHour 7 = .ok (.putfield 72, 3) := by decide +kernel
theorem d_X0_passHour_10 : decode cX0_passHour 10 = .ok (.aload_n 0, 1) := by decide +kernel
theorem d_X0_passHour_11 : decode cX0_passHour 11 = .ok (.aload_n 1, 1) := by decide +kernel
theorem d_X0_passHour_12 : decode cX0_passHour 12 = .ok (.aload_n 2, 1) := by decide +kernel
theorem d_X0_passHour_13 : decode cX0_passHour 13 = .ok (.iload_n 3, 1) := by decide +kernel
theorem d_X0_passHour_14 : decode cX0_passHour 14 = .ok (.invokevirtual 75, 3) := by decide +kernel
theorem d_X0_passHour_17 : decode cX0_passHour 17 = .ok (.aload_n 0, 1) := by decide +kernel
theorem d_X0_passHour_18 : decode cX0_passHour 18 = .ok (.aload_n 1, 1) := by decide +kernel
theorem d_X0_passHour_19 : decode cX0_passHour 19 = .ok (.invokevirtual 79, 3) := by decide +kernel
theorem d_X0_passHour_22 : decode cX0_passHour 22 = .ok (.aload_n 0, 1) := by decide +kernel
theorem d_X0_passHour_23 : decode cX0_passHour 23 = .ok (.aload_n 1, 1) := by decide +kernel
theorem d_X0_passHour_24 : decode cX0_passHour 24 = .ok (.invokevirtual 83, 3) := by decide +kernel
theorem d_X0_passHour_27 : decode cX0_passHour 27 = .ok (.aload_n 0, 1) := by decide +kernel
theorem d_X0_passHour_28 : decode cX0_passHour 28 = .ok (.getfield 11, 3) := by decide +kernel
theorem d_X0_passHour_31 : decode cX0_passHour 31 = .ok (.bipush 21, 2) := by decide +kernel
theorem d_X0_passHour_33 : decode cX0_passHour 33 = .ok (.iaload, 1) := by decide +kernel
theorem d_X0_passHour_34 : decode cX0_passHour 34 = .ok (.iconst 1, 1) := by decide +kernel
theorem d_X0_passHour_35 : decode cX0_passHour 35 = .ok (.iadd, 1) := by decide +kernel
theorem d_X0_passHour_36 : decode cX0_passHour 36 = .ok (.bipush 6, 2) := by decide +kernel
theorem d_X0_passHour_38 : decode cX0_passHour 38 = .ok (.irem, 1) := by decide +kernel
theorem d_X0_passHour_39 : decode cX0_passHour 39 = .ok (.ifCond .ne 8, 3) := by decide +kernel
theorem d_X0_passHour_42 : decode cX0_passHour 42 = .ok (.aload_n 0, 1) := by decide +kernel
theorem d_X0_passHour_43 : decode cX0_passHour 43 = .ok (.aload_n 1, 1) := by decide +kernel
theorem d_X0_passHour_44 : decode cX0_passHour 44 = .ok (.invokevirtual 86, 3) := by decide +kernel
theorem d_X0_passHour_47 : decode cX0_passHour 47 = .ok (.bipush 79, 2) := by decide +kernel
theorem d_X0_passHour_49 : decode cX0_passHour 49 = .ok (.aload_n 0, 1) := by decide +kernel
theorem d_X0_passHour_50 : decode cX0_passHour 50 = .ok (.getfield 11, 3) := by decide +kernel
theorem d_X0_passHour_53 : decode cX0_passHour 53 = .ok (.bipush 21, 2) := by decide +kernel
theorem d_X0_passHour_55 : decode cX0_passHour 55 = .ok (.iaload, 1) := by decide +kernel
theorem d_X0_passHour_56 : decode cX0_passHour 56 = .ok (.bipush 60, 2) := by decide +kernel
theorem d_X0_passHour_58 : decode cX0_passHour 58 = .ok (.irem, 1) := by decide +kernel
theorem d_X0_passHour_59 : decode cX0_passHour 59 = .ok (.iconst 3, 1) := by decide +kernel
theorem d_X0_passHour_60 : decode cX0_passHour 60 = .ok (.imul, 1) := by decide +kernel
theorem d_X0_passHour_61 : decode cX0_passHour 61 = .ok (.iadd, 1) := by decide +kernel
theorem d_X0_passHour_62 : decode cX0_passHour 62 = .ok (.istore 4, 2) := by decide +kernel
theorem d_X0_passHour_64 : decode cX0_passHour 64 = .ok (.aload_n 0, 1) := by decide +kernel
theorem d_X0_passHour_65 : decode cX0_passHour 65 = .ok (.getfield 11, 3) := by decide +kernel
theorem d_X0_passHour_68 : decode cX0_passHour 68 = .ok (.iload 4, 2) := by decide +kernel
theorem d_X0_passHour_70 : decode cX0_passHour 70 = .ok (.iload_n 3, 1) := by decide +kernel
theorem d_X0_passHour_71 : decode cX0_passHour 71 = .ok (.iastore, 1) := by decide +kernel
theorem d_X0_passHour_72 : decode cX0_passHour 72 = .ok (.aload_n 0, 1) := by decide +kernel
theorem d_X0_passHour_73 : decode cX0_passHour 73 = .ok (.getfield 11, 3) := by decide +kernel
theorem d_X0_passHour_76 : decode cX0_passHour 76 = .ok (.iload 4, 2) := by decide +kernel
theorem d_X0_passHour_78 : decode cX0_passHour 78 = .ok (.iconst 1, 1) := by decide +kernel
theorem d_X0_passHour_79 : decode cX0_passHour 79 = .ok (.iadd, 1) := by decide +kernel
theorem d_X0_passHour_80 : decode cX0_passHour 80 = .ok (.aload_n 0, 1) := by decide +kernel
theorem d_X0_passHour_81 : decode cX0_passHour 81 = .ok (.getfield 68, 3) := by decide +kernel
theorem d_X0_passHour_84 : decode cX0_passHour 84 = .ok (.iastore, 1) := by decide +kernel
theorem d_X0_passHour_85 : decode cX0_passHour 85 = .ok (.aload_n 0, 1) := by decide +kernel
theorem d_X0_passHour_86 : decode cX0_passHour 86 = .ok (.getfield 11, 3) := by decide +kernel
theorem d_X0_passHour_89 : decode cX0_passHour 89 = .ok (.iload 4, 2) := by decide +kernel
theorem d_X0_passHour_91 : decode cX0_passHour 91 = .ok (.iconst 2, 1) := by decide +kernel
theorem d_X0_passHour_92 : decode cX0_passHour 92 = .ok (.iadd, 1) := by decide +kernel
theorem d_X0_passHour_93 : decode cX0_passHour 93 = .ok (.aload_n 0, 1) := by decide +kernel
theorem d_X0_passHour_94 : decode cX0_passHour 94 = .ok (.getfield 72, 3) := by decide +kernel
theorem d_X0_passHour_97 : decode cX0_passHour 97 = .ok (.iastore, 1) := by decide +kernel
theorem d_X0_passHour_98 : decode cX0_passHour 98 = .ok (.aload_n 0, 1) := by decide +kernel
theorem d_X0_passHour_99 : decode cX0_passHour 99 = .ok (.getfield 11, 3) := by decide +kernel
theorem d_X0_passHour_102 : decode cX0_passHour 102 = .ok (.bipush 21, 2) := by decide +kernel
theorem d_X0_passHour_104 : decode cX0_passHour 104 = .ok (.dup2, 1) := by decide +kernel
theorem d_X0_passHour_105 : decode cX0_passHour 105 = .ok (.iaload, 1) := by decide +kernel
theorem d_X0_passHour_106 : decode cX0_passHour 106 = .ok (.iconst 1, 1) := by decide +kernel
theorem d_X0_passHour_107 : decode cX0_passHour 107 = .ok (.iadd, 1) := by decide +kernel
theorem d_X0_passHour_108 : decode cX0_passHour 108 = .ok (.iastore, 1) := by decide +kernel
theorem d_X0_passHour_109 : decode cX0_passHour 109 = .ok (.aload_n 0, 1) := by decide +kernel
theorem d_X0_passHour_110 : decode cX0_passHour 110 = .ok (.getfield 11, 3) := by decide +kernel
theorem d_X0_passHour_113 : decode cX0_passHour 113 = .ok (.bipush 21, 2) := by decide +kernel
theorem d_X0_passHour_115 : decode cX0_passHour 115 = .ok (.iaload, 1) := by decide +kernel
theorem d_X0_passHour_116 : decode cX0_passHour 116 = .ok (.ireturn, 1) := by decide +kernel
def f_X0_passHour (this : Nat) (a1 : Nat) (a2 : Nat) (a3 : Int32) : sa_M Int32 :=
sa_gd 0 this (
sa_bnd (sa_wrI 0 this 1 0) fun _ =>
sa_bnd (sa_wrI 0 this 2 0) fun _ =>
sa_bnd (f_X0_letRain this a1 a2 a3) fun _ =>
sa_bnd (f_X0_letWalk this a1) fun _ =>
sa_bnd (f_X0_throwBuckets this a1) fun _ =>
sa_bnd (sa_rdR 0 this 0) fun v1 =>
sa_bnd (sa_ldI .int v1 21) fun v2 =>
sa_bnd (sa_md (v2 + 1) 6) fun v3 =>
sa_jn0 (sa_bnd (sa_rdR 0 this 0) fun v4 =>
sa_bnd (sa_ldI .int v4 21) fun v5 =>
sa_bnd (sa_md v5 60) fun v6 =>
sa_let ((79 + (v6 * 3)) : Int32) fun x7 =>
sa_bnd (sa_rdR 0 this 0) fun v8 =>
sa_bnd (sa_stI v8 x7 a3) fun _ =>
sa_bnd (sa_rdR 0 this 0) fun v9 =>
sa_bnd (sa_rdI 0 this 1) fun v10 =>
sa_bnd (sa_stI v9 (x7 + 1) v10) fun _ =>
sa_bnd (sa_rdR 0 this 0) fun v11 =>
sa_bnd (sa_rdI 0 this 2) fun v12 =>
sa_bnd (sa_stI v11 (x7 + 2) v12) fun _ =>
sa_bnd (sa_rdR 0 this 0) fun v13 =>
sa_bnd (sa_ldI .int v13 21) fun v14 =>
sa_bnd (sa_stI v13 21 (v14 + 1)) fun _ =>
sa_bnd (sa_rdR 0 this 0) fun v15 =>
sa_bnd (sa_ldI .int v15 21) fun v16 =>
sa_ret (v16 : Int32)) fun j47 =>
if ¬ v3 = 0 then
j47
else
sa_bnd (f_X0_letDewFall this a1) fun _ =>
j47)
set_option maxHeartbeats 1000000 in
set_option maxRecDepth 10000 in
theorem b_X0_passHour {p : Program} {l : Launch} {e : Env} {s : State} {m : MethodId} {args : Array Value} {below : List Frame} {meth : Method} {c : Code} {D : va_G} {ad : Nat → Nat} {cA : FieldType → ClassId} {A : Nat → Prop} (this : Nat) (a1 : Nat) (a2 : Nat) (a3 : Int32) (C : sa_C p s m args meth c cX0_passHour RX0 "passHour" 5 (some .int) D ad cA A) : sa_Sg p l e s m args below meth c 5 5 D ad cA A sa_eI 0 [(0, .ref (ad this)), (1, .ref (ad a1)), (2, .ref (ad a2)), (3, .int a3)] [] (f_X0_passHour this a1 a2 a3) := by
  unfold f_X0_passHour
  refine sa_gdI ?_
  refine sa_aload_n C d_X0_passHour_0 rfl 0 rfl ?_
  refine sa_iconst (v := 0) C d_X0_passHour_1 (by decide) ?_
  refine sa_putI C fd_X0_68 d_X0_passHour_2 ?_
  refine sa_aload_n C d_X0_passHour_5 rfl 0 rfl ?_
  refine sa_iconst (v := 0) C d_X0_passHour_6 (by decide) ?_
  refine sa_putI C fd_X0_72 d_X0_passHour_7 ?_
  refine sa_aload_n C d_X0_passHour_10 rfl 0 rfl ?_
  refine sa_aload_n C d_X0_passHour_11 rfl 1 rfl ?_
  refine sa_aload_n C d_X0_passHour_12 rfl 2 rfl ?_
  refine sa_iload_n C d_X0_passHour_13 rfl 3 rfl ?_
  refine sa_invV (ci := 0) C (k_X0_letRain this a1 a2 a3) q876 ds_X0_letRain q121 rfl q875 q20 q873 (gd_X0_letRain this a1 a2 a3) rfl rfl rfl (Nat.le_of_ble_eq_true rfl) (by decide) (by decide) d_X0_passHour_14 (fun _ => ?_)
  refine sa_aload_n C d_X0_passHour_17 rfl 0 rfl ?_
  refine sa_aload_n C d_X0_passHour_18 rfl 1 rfl ?_
  refine sa_invV (ci := 0) C (k_X0_letWalk this a1) q894 ds_X0_letWalk q121 rfl q893 q23 q891 (gd_X0_letWalk this a1) rfl rfl rfl (Nat.le_of_ble_eq_true rfl) (by decide) (by decide) d_X0_passHour_19 (fun _ => ?_)
  refine sa_aload_n C d_X0_passHour_22 rfl 0 rfl ?_
  refine sa_aload_n C d_X0_passHour_23 rfl 1 rfl ?_
  refine sa_invV (ci := 0) C (k_X0_throwBuckets this a1) q898 ds_X0_throwBuckets q121 rfl q897 q24 q895 (gd_X0_throwBuckets this a1) rfl rfl rfl (Nat.le_of_ble_eq_true rfl) (by decide) (by decide) d_X0_passHour_24 (fun _ => ?_)
  refine sa_aload_n C d_X0_passHour_27 rfl 0 rfl ?_
  refine sa_getR C fd_X0_11 rfl d_X0_passHour_28 (fun v1 => ?_)
  refine sa_bipush (v := 21) C d_X0_passHour_31 (by decide) ?_
  refine sa_iald C d_X0_passHour_33 (fun v2 => ?_)
  refine sa_iconst (v := 1) C d_X0_passHour_34 (by decide) ?_
  refine sa_iadd C d_X0_passHour_35 ?_
  refine sa_bipush (v := 6) C d_X0_passHour_36 (by decide) ?_
  refine sa_irem C d_X0_passHour_38 (fun v3 => ?_)
  refine sa_join0 47 ([(0, .ref (ad this)), (3, .int a3)]) ([]) (?_) (fun j47 hj47 => ?_)
  · refine sa_bipush (v := 79) C d_X0_passHour_47 (by decide) ?_
    refine sa_aload_n C d_X0_passHour_49 rfl 0 rfl ?_
    refine sa_getR C fd_X0_11 rfl d_X0_passHour_50 (fun v4 => ?_)
    refine sa_bipush (v := 21) C d_X0_passHour_53 (by decide) ?_
    refine sa_iald C d_X0_passHour_55 (fun v5 => ?_)
    refine sa_bipush (v := 60) C d_X0_passHour_56 (by decide) ?_
    refine sa_irem C d_X0_passHour_58 (fun v6 => ?_)
    refine sa_iconst (v := 3) C d_X0_passHour_59 (by decide) ?_
    refine sa_imul C d_X0_passHour_60 ?_
    refine sa_iadd C d_X0_passHour_61 ?_
    refine sa_topi (fun x7 => ?_)
    refine sa_istore (lv' := [(4, .int x7), (0, .ref (ad this)), (3, .int a3)]) C d_X0_passHour_62 (by decide) rfl ?_
    refine sa_aload_n C d_X0_passHour_64 rfl 1 rfl ?_
    refine sa_getR C fd_X0_11 rfl d_X0_passHour_65 (fun v8 => ?_)
    refine sa_iload C d_X0_passHour_68 0 rfl ?_
    refine sa_iload_n C d_X0_passHour_70 rfl 2 rfl ?_
    refine sa_iast C d_X0_passHour_71 ?_
    refine sa_aload_n C d_X0_passHour_72 rfl 1 rfl ?_
    refine sa_getR C fd_X0_11 rfl d_X0_passHour_73 (fun v9 => ?_)
    refine sa_iload C d_X0_passHour_76 0 rfl ?_
    refine sa_iconst (v := 1) C d_X0_passHour_78 (by decide) ?_
    refine sa_iadd C d_X0_passHour_79 ?_
    refine sa_aload_n C d_X0_passHour_80 rfl 1 rfl ?_
    refine sa_getI C fd_X0_68 d_X0_passHour_81 (fun v10 => ?_)
    refine sa_iast C d_X0_passHour_84 ?_
    refine sa_aload_n C d_X0_passHour_85 rfl 1 rfl ?_
    refine sa_getR C fd_X0_11 rfl d_X0_passHour_86 (fun v11 => ?_)
    refine sa_iload C d_X0_passHour_89 0 rfl ?_
    refine sa_iconst (v := 2) C d_X0_passHour_91 (by decide) ?_
    refine sa_iadd C d_X0_passHour_92 ?_
    refine sa_aload_n C d_X0_passHour_93 rfl 1 rfl ?_
    refine sa_getI C fd_X0_72 d_X0_passHour_94 (fun v12 => ?_)
    refine sa_iast C d_X0_passHour_97 ?_
    refine sa_aload_n C d_X0_passHour_98 rfl 1 rfl ?_
    refine sa_getR C fd_X0_11 rfl d_X0_passHour_99 (fun v13 => ?_)
    refine sa_bipush (v := 21) C d_X0_passHour_102 (by decide) ?_
    refine sa_dup2_11 C d_X0_passHour_104 rfl rfl ?_
    refine sa_iald C d_X0_passHour_105 (fun v14 => ?_)
    refine sa_iconst (v := 1) C d_X0_passHour_106 (by decide) ?_
    refine sa_iadd C d_X0_passHour_107 ?_
    refine sa_iast C d_X0_passHour_108 ?_
    refine sa_aload_n C d_X0_passHour_109 rfl 1 rfl ?_
    refine sa_getR C fd_X0_11 rfl d_X0_passHour_110 (fun v15 => ?_)
    refine sa_bipush (v := 21) C d_X0_passHour_113 (by decide) ?_
    refine sa_iald C d_X0_passHour_115 (fun v16 => ?_)
    exact sa_iret C d_X0_passHour_116
  refine sa_if_ne (tgt := 47) C d_X0_passHour_39 (by decide) ?_ ?_
  · exact sa_sub [0, 3] rfl (hj47)
  refine sa_aload_n C d_X0_passHour_42 rfl 0 rfl ?_
  refine sa_aload_n C d_X0_passHour_43 rfl 1 rfl ?_
  refine sa_invV (ci := 0) C (k_X0_letDewFall this a1) q906 ds_X0_letDewFall q121 rfl q905 q26 q903 (gd_X0_letDewFall this a1) rfl rfl rfl (Nat.le_of_ble_eq_true rfl) (by decide) (by decide) d_X0_passHour_44 (fun _ => ?_)
  exact sa_sub [0, 3] rfl (hj47)
theorem k_X0_passHour (this : Nat) (a1 : Nat) (a2 : Nat) (a3 : Int32) : sa_Met 5 yX0_passHour cX0_passHour 5 (some .int) (fun ad => [.ref (ad this), .ref (ad a1), .ref (ad a2), .int a3]) sa_eI (f_X0_passHour this a1 a2 a3) := sa_mk (by decide) (fun ad => Nat.le_of_ble_eq_true rfl) (fun p l e s m args below meth c D ad cA A C => b_X0_passHour this a1 a2 a3 C)
theorem gd_X0_passHour (this : Nat) (a1 : Nat) (a2 : Nat) (a3 : Int32) (σ : sa_St) (r : Int32) (τ : sa_St) (h : f_X0_passHour this a1 a2 a3 σ = some (r, τ)) : sa_sh this = some (.inl 0) := sa_gd_ok h
theorem d_X0_logSize_0 : decode cX0_logSize 0 = .ok (.aload_n 0, 1) := by decide +kernel
theorem d_X0_logSize_1 : decode cX0_logSize 1 = .ok (.getfield 11, 3) := by decide +kernel
theorem d_X0_logSize_4 : decode cX0_logSize 4 = .ok (.bipush 21, 2) := by decide +kernel
theorem d_X0_logSize_6 : decode cX0_logSize 6 = .ok (.iaload, 1) := by decide +kernel
theorem d_X0_logSize_7 : decode cX0_logSize 7 = .ok (.bipush 60, 2) := by decide +kernel
theorem d_X0_logSize_9 : decode cX0_logSize 9 = .ok (.invokestatic 63, 3) := by decide +kernel
theorem d_X0_logSize_12 : decode cX0_logSize 12 = .ok (.ireturn, 1) := by decide +kernel
def f_X0_logSize (this : Nat) : sa_M Int32 :=
sa_gd 0 this (
sa_bnd (sa_rdR 0 this 0) fun v1 =>
sa_bnd (sa_ldI .int v1 21) fun v2 =>
sa_ret ((sa_min v2 60) : Int32))
set_option maxHeartbeats 1000000 in
set_option maxRecDepth 10000 in
theorem b_X0_logSize {p : Program} {l : Launch} {e : Env} {s : State} {m : MethodId} {args : Array Value} {below : List Frame} {meth : Method} {c : Code} {D : va_G} {ad : Nat → Nat} {cA : FieldType → ClassId} {A : Nat → Prop} (this : Nat) (C : sa_C p s m args meth c cX0_logSize RX0 "logSize" 1 (some .int) D ad cA A) : sa_Sg p l e s m args below meth c 1 1 D ad cA A sa_eI 0 [(0, .ref (ad this))] [] (f_X0_logSize this) := by
  unfold f_X0_logSize
  refine sa_gdI ?_
  refine sa_aload_n C d_X0_logSize_0 rfl 0 rfl ?_
  refine sa_getR C fd_X0_11 rfl d_X0_logSize_1 (fun v1 => ?_)
  refine sa_bipush (v := 21) C d_X0_logSize_4 (by decide) ?_
  refine sa_iald C d_X0_logSize_6 (fun v2 => ?_)
  refine sa_bipush (v := 60) C d_X0_logSize_7 (by decide) ?_
  refine sa_mmin C q860 (Nat.le_of_ble_eq_true rfl) (by decide) q530 q130 q531 d_X0_logSize_9 ?_
  exact sa_iret C d_X0_logSize_12
theorem k_X0_logSize (this : Nat) : sa_Met 1 yX0_logSize cX0_logSize 1 (some .int) (fun ad => [.ref (ad this)]) sa_eI (f_X0_logSize this) := sa_mk (by decide) (fun ad => Nat.le_of_ble_eq_true rfl) (fun p l e s m args below meth c D ad cA A C => b_X0_logSize this C)
theorem gd_X0_logSize (this : Nat) (σ : sa_St) (r : Int32) (τ : sa_St) (h : f_X0_logSize this σ = some (r, τ)) : sa_sh this = some (.inl 0) := sa_gd_ok h
theorem d_X0_logged_0 : decode cX0_logged 0 = .ok (.aload_n 0, 1) := by decide +kernel
theorem d_X0_logged_1 : decode cX0_logged 1 = .ok (.getfield 11, 3) := by decide +kernel
theorem d_X0_logged_4 : decode cX0_logged 4 = .ok (.bipush 79, 2) := by decide +kernel
theorem d_X0_logged_6 : decode cX0_logged 6 = .ok (.aload_n 0, 1) := by decide +kernel
theorem d_X0_logged_7 : decode cX0_logged 7 = .ok (.getfield 11, 3) := by decide +kernel
theorem d_X0_logged_10 : decode cX0_logged 10 = .ok (.bipush 21, 2) := by decide +kernel
theorem d_X0_logged_12 : decode cX0_logged 12 = .ok (.iaload, 1) := by decide +kernel
theorem d_X0_logged_13 : decode cX0_logged 13 = .ok (.iconst 1, 1) := by decide +kernel
theorem d_X0_logged_14 : decode cX0_logged 14 = .ok (.isub, 1) := by decide +kernel
theorem d_X0_logged_15 : decode cX0_logged 15 = .ok (.iload_n 1, 1) := by decide +kernel
theorem d_X0_logged_16 : decode cX0_logged 16 = .ok (.isub, 1) := by decide +kernel
theorem d_X0_logged_17 : decode cX0_logged 17 = .ok (.bipush 60, 2) := by decide +kernel
theorem d_X0_logged_19 : decode cX0_logged 19 = .ok (.irem, 1) := by decide +kernel
theorem d_X0_logged_20 : decode cX0_logged 20 = .ok (.iconst 3, 1) := by decide +kernel
theorem d_X0_logged_21 : decode cX0_logged 21 = .ok (.imul, 1) := by decide +kernel
theorem d_X0_logged_22 : decode cX0_logged 22 = .ok (.iadd, 1) := by decide +kernel
theorem d_X0_logged_23 : decode cX0_logged 23 = .ok (.iload_n 2, 1) := by decide +kernel
theorem d_X0_logged_24 : decode cX0_logged 24 = .ok (.iadd, 1) := by decide +kernel
theorem d_X0_logged_25 : decode cX0_logged 25 = .ok (.iaload, 1) := by decide +kernel
theorem d_X0_logged_26 : decode cX0_logged 26 = .ok (.ireturn, 1) := by decide +kernel
def f_X0_logged (this : Nat) (a1 : Int32) (a2 : Int32) : sa_M Int32 :=
sa_gd 0 this (
sa_bnd (sa_rdR 0 this 0) fun v1 =>
sa_bnd (sa_rdR 0 this 0) fun v2 =>
sa_bnd (sa_ldI .int v2 21) fun v3 =>
sa_bnd (sa_md ((v3 - 1) - a1) 60) fun v4 =>
sa_bnd (sa_ldI .int v1 ((79 + (v4 * 3)) + a2)) fun v5 =>
sa_ret (v5 : Int32))
set_option maxHeartbeats 1000000 in
set_option maxRecDepth 10000 in
theorem b_X0_logged {p : Program} {l : Launch} {e : Env} {s : State} {m : MethodId} {args : Array Value} {below : List Frame} {meth : Method} {c : Code} {D : va_G} {ad : Nat → Nat} {cA : FieldType → ClassId} {A : Nat → Prop} (this : Nat) (a1 : Int32) (a2 : Int32) (C : sa_C p s m args meth c cX0_logged RX0 "logged" 3 (some .int) D ad cA A) : sa_Sg p l e s m args below meth c 3 1 D ad cA A sa_eI 0 [(0, .ref (ad this)), (1, .int a1), (2, .int a2)] [] (f_X0_logged this a1 a2) := by
  unfold f_X0_logged
  refine sa_gdI ?_
  refine sa_aload_n C d_X0_logged_0 rfl 0 rfl ?_
  refine sa_getR C fd_X0_11 rfl d_X0_logged_1 (fun v1 => ?_)
  refine sa_bipush (v := 79) C d_X0_logged_4 (by decide) ?_
  refine sa_aload_n C d_X0_logged_6 rfl 0 rfl ?_
  refine sa_getR C fd_X0_11 rfl d_X0_logged_7 (fun v2 => ?_)
  refine sa_bipush (v := 21) C d_X0_logged_10 (by decide) ?_
  refine sa_iald C d_X0_logged_12 (fun v3 => ?_)
  refine sa_iconst (v := 1) C d_X0_logged_13 (by decide) ?_
  refine sa_isub C d_X0_logged_14 ?_
  refine sa_iload_n C d_X0_logged_15 rfl 1 rfl ?_
  refine sa_isub C d_X0_logged_16 ?_
  refine sa_bipush (v := 60) C d_X0_logged_17 (by decide) ?_
  refine sa_irem C d_X0_logged_19 (fun v4 => ?_)
  refine sa_iconst (v := 3) C d_X0_logged_20 (by decide) ?_
  refine sa_imul C d_X0_logged_21 ?_
  refine sa_iadd C d_X0_logged_22 ?_
  refine sa_iload_n C d_X0_logged_23 rfl 2 rfl ?_
  refine sa_iadd C d_X0_logged_24 ?_
  refine sa_iald C d_X0_logged_25 (fun v5 => ?_)
  exact sa_iret C d_X0_logged_26
theorem k_X0_logged (this : Nat) (a1 : Int32) (a2 : Int32) : sa_Met 1 yX0_logged cX0_logged 3 (some .int) (fun ad => [.ref (ad this), .int a1, .int a2]) sa_eI (f_X0_logged this a1 a2) := sa_mk (by decide) (fun ad => Nat.le_of_ble_eq_true rfl) (fun p l e s m args below meth c D ad cA A C => b_X0_logged this a1 a2 C)
theorem gd_X0_logged (this : Nat) (a1 : Int32) (a2 : Int32) (σ : sa_St) (r : Int32) (τ : sa_St) (h : f_X0_logged this a1 a2 σ = some (r, τ)) : sa_sh this = some (.inl 0) := sa_gd_ok h
theorem d_X0_living_0 : decode cX0_living 0 = .ok (.iconst 0, 1) := by decide +kernel
theorem d_X0_living_1 : decode cX0_living 1 = .ok (.istore_n 1, 1) := by decide +kernel
theorem d_X0_living_2 : decode cX0_living 2 = .ok (.iconst 0, 1) := by decide +kernel
theorem d_X0_living_3 : decode cX0_living 3 = .ok (.istore_n 2, 1) := by decide +kernel
theorem d_X0_living_4 : decode cX0_living 4 = .ok (.iload_n 2, 1) := by decide +kernel
theorem d_X0_living_5 : decode cX0_living 5 = .ok (.aload_n 0, 1) := by decide +kernel
theorem d_X0_living_6 : decode cX0_living 6 = .ok (.getfield 11, 3) := by decide +kernel
theorem d_X0_living_9 : decode cX0_living 9 = .ok (.bipush 22, 2) := by decide +kernel
theorem d_X0_living_11 : decode cX0_living 11 = .ok (.iaload, 1) := by decide +kernel
theorem d_X0_living_12 : decode cX0_living 12 = .ok (.if_icmp .ge 20, 3) := by decide +kernel
theorem d_X0_living_15 : decode cX0_living 15 = .ok (.aload_n 0, 1) := by decide +kernel
theorem d_X0_living_16 : decode cX0_living 16 = .ok (.iload_n 2, 1) := by decide +kernel
theorem d_X0_living_17 : decode cX0_living 17 = .ok (.invokevirtual 89, 3) := by decide +kernel
theorem d_X0_living_20 : decode cX0_living 20 = .ok (.ifCond .eq 6, 3) := by decide +kernel
theorem d_X0_living_23 : decode cX0_living 23 = .ok (.iinc 1 1, 3) := by decide +kernel
theorem d_X0_living_26 : decode cX0_living 26 = .ok (.iinc 2 1, 3) := by decide +kernel
theorem d_X0_living_29 : decode cX0_living 29 = .ok (.goto (-25), 3) := by decide +kernel
theorem d_X0_living_32 : decode cX0_living 32 = .ok (.iload_n 1, 1) := by decide +kernel
theorem d_X0_living_33 : decode cX0_living 33 = .ok (.ireturn, 1) := by decide +kernel
def f_X0_living (this : Nat) : sa_M Int32 :=
sa_gd 0 this (
sa_let (0 : Int32) fun x1 =>
sa_let (0 : Int32) fun x2 =>
sa_wh2 (fun j4 (x3 : Int32) (x4 : Int32) =>
sa_bnd (sa_rdR 0 this 0) fun v5 =>
sa_bnd (sa_ldI .int v5 22) fun v6 =>
if v6 ≤ x4 then
sa_ret (x3 : Int32)
else
sa_bnd (f_X0_lives this x4) fun v7 =>
sa_jn1 (fun (x8 : Int32) =>
sa_let ((x4 + 1) : Int32) fun x9 =>
j4 x8 x9) fun j26 =>
if v7 = 0 then
j26 x3
else
sa_let ((x3 + 1) : Int32) fun x10 =>
j26 x10) sa_F x1 x2)
set_option maxHeartbeats 1000000 in
set_option maxRecDepth 10000 in
theorem b_X0_living {p : Program} {l : Launch} {e : Env} {s : State} {m : MethodId} {args : Array Value} {below : List Frame} {meth : Method} {c : Code} {D : va_G} {ad : Nat → Nat} {cA : FieldType → ClassId} {A : Nat → Prop} (this : Nat) (C : sa_C p s m args meth c cX0_living RX0 "living" 3 (some .int) D ad cA A) : sa_Sg p l e s m args below meth c 3 3 D ad cA A sa_eI 0 [(0, .ref (ad this))] [] (f_X0_living this) := by
  unfold f_X0_living
  refine sa_gdI ?_
  refine sa_iconst (v := 0) C d_X0_living_0 (by decide) ?_
  refine sa_topi (fun x1 => ?_)
  refine sa_istore_n (lv' := [(1, .int x1), (0, .ref (ad this))]) C d_X0_living_1 rfl (by decide) rfl ?_
  refine sa_iconst (v := 0) C d_X0_living_2 (by decide) ?_
  refine sa_topi (fun x2 => ?_)
  refine sa_istore_n (lv' := [(2, .int x2), (1, .int x1), (0, .ref (ad this))]) C d_X0_living_3 rfl (by decide) rfl ?_
  refine sa_sub [2, 1, 0] rfl (sa_loop2 (fun x3 x4 => [(0, .ref (ad this)), (1, .int x3), (2, .int x4)]) (fun x3 x4 => []) (fun j4 hj4 x3 x4 => ?_) _ _ _)
  refine sa_iload_n C d_X0_living_4 rfl 2 rfl ?_
  refine sa_aload_n C d_X0_living_5 rfl 0 rfl ?_
  refine sa_getR C fd_X0_11 rfl d_X0_living_6 (fun v5 => ?_)
  refine sa_bipush (v := 22) C d_X0_living_9 (by decide) ?_
  refine sa_iald C d_X0_living_11 (fun v6 => ?_)
  refine sa_icmp_ge (tgt := 32) C d_X0_living_12 (by decide) ?_ ?_
  · refine sa_iload_n C d_X0_living_32 rfl 1 rfl ?_
    exact sa_iret C d_X0_living_33
  refine sa_aload_n C d_X0_living_15 rfl 0 rfl ?_
  refine sa_iload_n C d_X0_living_16 rfl 2 rfl ?_
  refine sa_invV (ci := 0) C (k_X0_lives this x4) q793 ds_X0_lives q121 rfl q791 q792 q877 (gd_X0_lives this x4) rfl rfl rfl (Nat.le_of_ble_eq_true rfl) (by decide) (by decide) d_X0_living_17 (fun v7 => ?_)
  refine sa_join1 26 (fun x8 => [(0, .ref (ad this)), (1, .int x8), (2, .int x4)]) (fun x8 => []) (fun x8 => ?_) (fun j26 hj26 => ?_)
  · refine sa_iinc C (fun zz => [(2, .int zz), (0, .ref (ad this)), (1, .int x8)]) d_X0_living_26 2 rfl rfl (by decide) (fun _ => rfl) (fun x9 => ?_)
    refine sa_goto (tgt := 4) C d_X0_living_29 (by decide) ?_
    exact sa_sub [1, 2, 0] rfl (hj4 _ _)
  refine sa_if_eq (tgt := 26) C d_X0_living_20 (by decide) ?_ ?_
  · exact sa_sub [0, 1, 2] rfl (hj26 _)
  refine sa_iinc C (fun zz => [(1, .int zz), (0, .ref (ad this)), (2, .int x4)]) d_X0_living_23 1 rfl rfl (by decide) (fun _ => rfl) (fun x10 => ?_)
  exact sa_sub [1, 0, 2] rfl (hj26 _)
theorem k_X0_living (this : Nat) : sa_Met 3 yX0_living cX0_living 3 (some .int) (fun ad => [.ref (ad this)]) sa_eI (f_X0_living this) := sa_mk (by decide) (fun ad => Nat.le_of_ble_eq_true rfl) (fun p l e s m args below meth c D ad cA A C => b_X0_living this C)
theorem gd_X0_living (this : Nat) (σ : sa_St) (r : Int32) (τ : sa_St) (h : f_X0_living this σ = some (r, τ)) : sa_sh this = some (.inl 0) := sa_gd_ok h
theorem d_X0_livingGrains_0 : decode cX0_livingGrains 0 = .ok (.iconst 0, 1) := by decide +kernel
theorem d_X0_livingGrains_1 : decode cX0_livingGrains 1 = .ok (.istore_n 1, 1) := by decide +kernel
theorem d_X0_livingGrains_2 : decode cX0_livingGrains 2 = .ok (.iconst 0, 1) := by decide +kernel
theorem d_X0_livingGrains_3 : decode cX0_livingGrains 3 = .ok (.istore_n 2, 1) := by decide +kernel
theorem d_X0_livingGrains_4 : decode cX0_livingGrains 4 = .ok (.iload_n 2, 1) := by decide +kernel
theorem d_X0_livingGrains_5 : decode cX0_livingGrains 5 = .ok (.aload_n 0, 1) := by decide +kernel
theorem d_X0_livingGrains_6 : decode cX0_livingGrains 6 = .ok (.getfield 11, 3) := by decide +kernel
theorem d_X0_livingGrains_9 : decode cX0_livingGrains 9 = .ok (.bipush 22, 2) := by decide +kernel
theorem d_X0_livingGrains_11 : decode cX0_livingGrains 11 = .ok (.iaload, 1) := by decide +kernel
theorem d_X0_livingGrains_12 : decode cX0_livingGrains 12 = .ok (.if_icmp .ge 18, 3) := by decide +kernel
theorem d_X0_livingGrains_15 : decode cX0_livingGrains 15 = .ok (.iload_n 1, 1) := by decide +kernel
theorem d_X0_livingGrains_16 : decode cX0_livingGrains 16 = .ok (.aload_n 0, 1) := by decide +kernel
theorem d_X0_livingGrains_17 : decode cX0_livingGrains 17 = .ok (.iload_n 2, 1) := by decide +kernel
theorem d_X0_livingGrains_18 : decode cX0_livingGrains 18 = .ok (.iconst 2, 1) := by decide +kernel
theorem d_X0_livingGrains_19 : decode cX0_livingGrains 19 = .ok (.invokevirtual 44, 3) := by decide +kernel
theorem d_X0_livingGrains_22 : decode cX0_livingGrains 22 = .ok (.iadd, 1) := by decide +kernel
theorem d_X0_livingGrains_23 : decode cX0_livingGrains 23 = .ok (.istore_n 1, 1) := by decide +kernel
theorem d_X0_livingGrains_24 : decode cX0_livingGrains 24 = .ok (.iinc 2 1, 3) := by decide +kernel
theorem d_X0_livingGrains_27 : decode cX0_livingGrains 27 = .ok (.goto (-23), 3) := by decide +kernel
theorem d_X0_livingGrains_30 : decode cX0_livingGrains 30 = .ok (.iload_n 1, 1) := by decide +kernel
theorem d_X0_livingGrains_31 : decode cX0_livingGrains 31 = .ok (.ireturn, 1) := by decide +kernel
def f_X0_livingGrains (this : Nat) : sa_M Int32 :=
sa_gd 0 this (
sa_let (0 : Int32) fun x1 =>
sa_let (0 : Int32) fun x2 =>
sa_wh2 (fun j4 (x3 : Int32) (x4 : Int32) =>
sa_bnd (sa_rdR 0 this 0) fun v5 =>
sa_bnd (sa_ldI .int v5 22) fun v6 =>
if v6 ≤ x4 then
sa_ret (x3 : Int32)
else
sa_bnd (f_X0_of this x4 2) fun v7 =>
sa_let ((x3 + v7) : Int32) fun x8 =>
sa_let ((x4 + 1) : Int32) fun x9 =>
j4 x8 x9) sa_F x1 x2)
set_option maxHeartbeats 1000000 in
set_option maxRecDepth 10000 in
theorem b_X0_livingGrains {p : Program} {l : Launch} {e : Env} {s : State} {m : MethodId} {args : Array Value} {below : List Frame} {meth : Method} {c : Code} {D : va_G} {ad : Nat → Nat} {cA : FieldType → ClassId} {A : Nat → Prop} (this : Nat) (C : sa_C p s m args meth c cX0_livingGrains RX0 "livingGrains" 3 (some .int) D ad cA A) : sa_Sg p l e s m args below meth c 3 2 D ad cA A sa_eI 0 [(0, .ref (ad this))] [] (f_X0_livingGrains this) := by
  unfold f_X0_livingGrains
  refine sa_gdI ?_
  refine sa_iconst (v := 0) C d_X0_livingGrains_0 (by decide) ?_
  refine sa_topi (fun x1 => ?_)
  refine sa_istore_n (lv' := [(1, .int x1), (0, .ref (ad this))]) C d_X0_livingGrains_1 rfl (by decide) rfl ?_
  refine sa_iconst (v := 0) C d_X0_livingGrains_2 (by decide) ?_
  refine sa_topi (fun x2 => ?_)
  refine sa_istore_n (lv' := [(2, .int x2), (1, .int x1), (0, .ref (ad this))]) C d_X0_livingGrains_3 rfl (by decide) rfl ?_
  refine sa_sub [2, 1, 0] rfl (sa_loop2 (fun x3 x4 => [(0, .ref (ad this)), (1, .int x3), (2, .int x4)]) (fun x3 x4 => []) (fun j4 hj4 x3 x4 => ?_) _ _ _)
  refine sa_iload_n C d_X0_livingGrains_4 rfl 2 rfl ?_
  refine sa_aload_n C d_X0_livingGrains_5 rfl 0 rfl ?_
  refine sa_getR C fd_X0_11 rfl d_X0_livingGrains_6 (fun v5 => ?_)
  refine sa_bipush (v := 22) C d_X0_livingGrains_9 (by decide) ?_
  refine sa_iald C d_X0_livingGrains_11 (fun v6 => ?_)
  refine sa_icmp_ge (tgt := 30) C d_X0_livingGrains_12 (by decide) ?_ ?_
  · refine sa_iload_n C d_X0_livingGrains_30 rfl 1 rfl ?_
    exact sa_iret C d_X0_livingGrains_31
  refine sa_iload_n C d_X0_livingGrains_15 rfl 1 rfl ?_
  refine sa_aload_n C d_X0_livingGrains_16 rfl 0 rfl ?_
  refine sa_iload_n C d_X0_livingGrains_17 rfl 2 rfl ?_
  refine sa_iconst (v := 2) C d_X0_livingGrains_18 (by decide) ?_
  refine sa_invV (ci := 0) C (k_X0_of this x4 2) q801 ds_X0_of q121 rfl q799 q800 q798 (gd_X0_of this x4 2) rfl rfl rfl (Nat.le_of_ble_eq_true rfl) (by decide) (by decide) d_X0_livingGrains_19 (fun v7 => ?_)
  refine sa_iadd C d_X0_livingGrains_22 ?_
  refine sa_topi (fun x8 => ?_)
  refine sa_istore_n (lv' := [(1, .int x8), (0, .ref (ad this)), (2, .int x4)]) C d_X0_livingGrains_23 rfl (by decide) rfl ?_
  refine sa_iinc C (fun zz => [(2, .int zz), (1, .int x8), (0, .ref (ad this))]) d_X0_livingGrains_24 2 rfl rfl (by decide) (fun _ => rfl) (fun x9 => ?_)
  refine sa_goto (tgt := 4) C d_X0_livingGrains_27 (by decide) ?_
  exact sa_sub [2, 1, 0] rfl (hj4 _ _)
theorem k_X0_livingGrains (this : Nat) : sa_Met 2 yX0_livingGrains cX0_livingGrains 3 (some .int) (fun ad => [.ref (ad this)]) sa_eI (f_X0_livingGrains this) := sa_mk (by decide) (fun ad => Nat.le_of_ble_eq_true rfl) (fun p l e s m args below meth c D ad cA A C => b_X0_livingGrains this C)
theorem gd_X0_livingGrains (this : Nat) (σ : sa_St) (r : Int32) (τ : sa_St) (h : f_X0_livingGrains this σ = some (r, τ)) : sa_sh this = some (.inl 0) := sa_gd_ok h
theorem d_X0_allGrains_0 : decode cX0_allGrains 0 = .ok (.aload_n 0, 1) := by decide +kernel
theorem d_X0_allGrains_1 : decode cX0_allGrains 1 = .ok (.invokevirtual 110, 3) := by decide +kernel
theorem d_X0_allGrains_4 : decode cX0_allGrains 4 = .ok (.aload_n 0, 1) := by decide +kernel
theorem d_X0_allGrains_5 : decode cX0_allGrains 5 = .ok (.getfield 11, 3) := by decide +kernel
theorem d_X0_allGrains_8 : decode cX0_allGrains 8 = .ok (.bipush 19, 2) := by decide +kernel
theorem d_X0_allGrains_10 : decode cX0_allGrains 10 = .ok (.iaload, 1) := by decide +kernel
theorem d_X0_allGrains_11 : decode cX0_allGrains 11 = .ok (.iadd, 1) := by decide +kernel
theorem d_X0_allGrains_12 : decode cX0_allGrains 12 = .ok (.istore_n 1, 1) := by decide +kernel
theorem d_X0_allGrains_13 : decode cX0_allGrains 13 = .ok (.iconst 0, 1) := by decide +kernel
theorem d_X0_allGrains_14 : decode cX0_allGrains 14 = .ok (.istore_n 2, 1) := by decide +kernel
theorem d_X0_allGrains_15 : decode cX0_allGrains 15 = .ok (.iload_n 2, 1) := by decide +kernel
theorem d_X0_allGrains_16 : decode cX0_allGrains 16 = .ok (.bipush 8, 2) := by decide +kernel
theorem d_X0_allGrains_18 : decode cX0_allGrains 18 = .ok (.if_icmp .ge 18, 3) := by decide +kernel
theorem d_X0_allGrains_21 : decode cX0_allGrains 21 = .ok (.iload_n 1, 1) := by decide +kernel
theorem d_X0_allGrains_22 : decode cX0_allGrains 22 = .ok (.aload_n 0, 1) := by decide +kernel
theorem d_X0_allGrains_23 : decode cX0_allGrains 23 = .ok (.getfield 11, 3) := by decide +kernel
theorem d_X0_allGrains_26 : decode cX0_allGrains 26 = .ok (.iload_n 2, 1) := by decide +kernel
theorem d_X0_allGrains_27 : decode cX0_allGrains 27 = .ok (.iaload, 1) := by decide +kernel
theorem d_X0_allGrains_28 : decode cX0_allGrains 28 = .ok (.iadd, 1) := by decide +kernel
theorem d_X0_allGrains_29 : decode cX0_allGrains 29 = .ok (.istore_n 1, 1) := by decide +kernel
theorem d_X0_allGrains_30 : decode cX0_allGrains 30 = .ok (.iinc 2 1, 3) := by decide +kernel
theorem d_X0_allGrains_33 : decode cX0_allGrains 33 = .ok (.goto (-18), 3) := by decide +kernel
theorem d_X0_allGrains_36 : decode cX0_allGrains 36 = .ok (.iload_n 1, 1) := by decide +kernel
theorem d_X0_allGrains_37 : decode cX0_allGrains 37 = .ok (.ireturn, 1) := by decide +kernel
def f_X0_allGrains (this : Nat) : sa_M Int32 :=
sa_gd 0 this (
sa_bnd (f_X0_livingGrains this) fun v1 =>
sa_bnd (sa_rdR 0 this 0) fun v2 =>
sa_bnd (sa_ldI .int v2 19) fun v3 =>
sa_let ((v1 + v3) : Int32) fun x4 =>
sa_let (0 : Int32) fun x5 =>
sa_wh2 (fun j15 (x6 : Int32) (x7 : Int32) =>
if 8 ≤ x7 then
sa_ret (x6 : Int32)
else
sa_bnd (sa_rdR 0 this 0) fun v8 =>
sa_bnd (sa_ldI .int v8 x7) fun v9 =>
sa_let ((x6 + v9) : Int32) fun x10 =>
sa_let ((x7 + 1) : Int32) fun x11 =>
j15 x10 x11) sa_F x4 x5)
set_option maxHeartbeats 1000000 in
set_option maxRecDepth 10000 in
theorem b_X0_allGrains {p : Program} {l : Launch} {e : Env} {s : State} {m : MethodId} {args : Array Value} {below : List Frame} {meth : Method} {c : Code} {D : va_G} {ad : Nat → Nat} {cA : FieldType → ClassId} {A : Nat → Prop} (this : Nat) (C : sa_C p s m args meth c cX0_allGrains RX0 "allGrains" 3 (some .int) D ad cA A) : sa_Sg p l e s m args below meth c 3 3 D ad cA A sa_eI 0 [(0, .ref (ad this))] [] (f_X0_allGrains this) := by
  unfold f_X0_allGrains
  refine sa_gdI ?_
  refine sa_aload_n C d_X0_allGrains_0 rfl 0 rfl ?_
  refine sa_invV (ci := 0) C (k_X0_livingGrains this) q998 ds_X0_livingGrains q121 rfl q996 q997 q1307 (gd_X0_livingGrains this) rfl rfl rfl (Nat.le_of_ble_eq_true rfl) (by decide) (by decide) d_X0_allGrains_1 (fun v1 => ?_)
  refine sa_aload_n C d_X0_allGrains_4 rfl 0 rfl ?_
  refine sa_getR C fd_X0_11 rfl d_X0_allGrains_5 (fun v2 => ?_)
  refine sa_bipush (v := 19) C d_X0_allGrains_8 (by decide) ?_
  refine sa_iald C d_X0_allGrains_10 (fun v3 => ?_)
  refine sa_iadd C d_X0_allGrains_11 ?_
  refine sa_topi (fun x4 => ?_)
  refine sa_istore_n (lv' := [(1, .int x4), (0, .ref (ad this))]) C d_X0_allGrains_12 rfl (by decide) rfl ?_
  refine sa_iconst (v := 0) C d_X0_allGrains_13 (by decide) ?_
  refine sa_topi (fun x5 => ?_)
  refine sa_istore_n (lv' := [(2, .int x5), (1, .int x4), (0, .ref (ad this))]) C d_X0_allGrains_14 rfl (by decide) rfl ?_
  refine sa_sub [2, 1, 0] rfl (sa_loop2 (fun x6 x7 => [(0, .ref (ad this)), (1, .int x6), (2, .int x7)]) (fun x6 x7 => []) (fun j15 hj15 x6 x7 => ?_) _ _ _)
  refine sa_iload_n C d_X0_allGrains_15 rfl 2 rfl ?_
  refine sa_bipush (v := 8) C d_X0_allGrains_16 (by decide) ?_
  refine sa_icmp_ge (tgt := 36) C d_X0_allGrains_18 (by decide) ?_ ?_
  · refine sa_iload_n C d_X0_allGrains_36 rfl 1 rfl ?_
    exact sa_iret C d_X0_allGrains_37
  refine sa_iload_n C d_X0_allGrains_21 rfl 1 rfl ?_
  refine sa_aload_n C d_X0_allGrains_22 rfl 0 rfl ?_
  refine sa_getR C fd_X0_11 rfl d_X0_allGrains_23 (fun v8 => ?_)
  refine sa_iload_n C d_X0_allGrains_26 rfl 2 rfl ?_
  refine sa_iald C d_X0_allGrains_27 (fun v9 => ?_)
  refine sa_iadd C d_X0_allGrains_28 ?_
  refine sa_topi (fun x10 => ?_)
  refine sa_istore_n (lv' := [(1, .int x10), (0, .ref (ad this)), (2, .int x7)]) C d_X0_allGrains_29 rfl (by decide) rfl ?_
  refine sa_iinc C (fun zz => [(2, .int zz), (1, .int x10), (0, .ref (ad this))]) d_X0_allGrains_30 2 rfl rfl (by decide) (fun _ => rfl) (fun x11 => ?_)
  refine sa_goto (tgt := 15) C d_X0_allGrains_33 (by decide) ?_
  exact sa_sub [2, 1, 0] rfl (hj15 _ _)
theorem k_X0_allGrains (this : Nat) : sa_Met 3 yX0_allGrains cX0_allGrains 3 (some .int) (fun ad => [.ref (ad this)]) sa_eI (f_X0_allGrains this) := sa_mk (by decide) (fun ad => Nat.le_of_ble_eq_true rfl) (fun p l e s m args below meth c D ad cA A C => b_X0_allGrains this C)
theorem gd_X0_allGrains (this : Nat) (σ : sa_St) (r : Int32) (τ : sa_St) (h : f_X0_allGrains this σ = some (r, τ)) : sa_sh this = some (.inl 0) := sa_gd_ok h
theorem d_X0_weakestOne_0 : decode cX0_weakestOne 0 = .ok (.iconst (-1), 1) := by decide +kernel
theorem d_X0_weakestOne_1 : decode cX0_weakestOne 1 = .ok (.istore_n 1, 1) := by decide +kernel
theorem d_X0_weakestOne_2 : decode cX0_weakestOne 2 = .ok (.iconst 0, 1) := by decide +kernel
theorem d_X0_weakestOne_3 : decode cX0_weakestOne 3 = .ok (.istore_n 2, 1) := by decide +kernel
theorem d_X0_weakestOne_4 : decode cX0_weakestOne 4 = .ok (.iload_n 2, 1) := by decide +kernel
theorem d_X0_weakestOne_5 : decode cX0_weakestOne 5 = .ok (.aload_n 0, 1) := by decide +kernel
theorem d_X0_weakestOne_6 : decode cX0_weakestOne 6 = .ok (.getfield 11, 3) := by decide +kernel
theorem d_X0_weakestOne_9 : decode cX0_weakestOne 9 = .ok (.bipush 22, 2) := by decide +kernel
theorem d_X0_weakestOne_11 : decode cX0_weakestOne 11 = .ok (.iaload, 1) := by decide +kernel
theorem d_X0_weakestOne_12 : decode cX0_weakestOne 12 = .ok (.if_icmp .ge 38, 3) := by decide +kernel
theorem d_X0_weakestOne_15 : decode cX0_weakestOne 15 = .ok (.aload_n 0, 1) := by decide +kernel
theorem d_X0_weakestOne_16 : decode cX0_weakestOne 16 = .ok (.iload_n 2, 1) := by decide +kernel
theorem d_X0_weakestOne_17 : decode cX0_weakestOne 17 = .ok (.invokevirtual 89, 3) := by decide +kernel
theorem d_X0_weakestOne_20 : decode cX0_weakestOne 20 = .ok (.ifCond .eq 24, 3) := by decide +kernel
theorem d_X0_weakestOne_23 : decode cX0_weakestOne 23 = .ok (.iload_n 1, 1) := by decide +kernel
theorem d_X0_weakestOne_24 : decode cX0_weakestOne 24 = .ok (.ifCond .lt 18, 3) := by decide +kernel
theorem d_X0_weakestOne_27 : decode cX0_weakestOne 27 = .ok (.aload_n 0, 1) := by decide +kernel
theorem d_X0_weakestOne_28 : decode cX0_weakestOne 28 = .ok (.iload_n 2, 1) := by decide +kernel
theorem d_X0_weakestOne_29 : decode cX0_weakestOne 29 = .ok (.iconst 2, 1) := by decide +kernel
theorem d_X0_weakestOne_30 : decode cX0_weakestOne 30 = .ok (.invokevirtual 44, 3) := by decide +kernel
theorem d_X0_weakestOne_33 : decode cX0_weakestOne 33 = .ok (.aload_n 0, 1) := by decide +kernel
theorem d_X0_weakestOne_34 : decode cX0_weakestOne 34 = .ok (.iload_n 1, 1) := by decide +kernel
theorem d_X0_weakestOne_35 : decode cX0_weakestOne 35 = .ok (.iconst 2, 1) := by decide +kernel
theorem d_X0_weakestOne_36 : decode cX0_weakestOne 36 = .ok (.invokevirtual 44, 3) := by decide +kernel
theorem d_X0_weakestOne_39 : decode cX0_weakestOne 39 = .ok (.if_icmp .ge 5, 3) := by decide +kernel
theorem d_X0_weakestOne_42 : decode cX0_weakestOne 42 = .ok (.iload_n 2, 1) := by decide +kernel
theorem d_X0_weakestOne_43 : decode cX0_weakestOne 43 = .ok (.istore_n 1, 1) := by decide +kernel
theorem d_X0_weakestOne_44 : decode cX0_weakestOne 44 = .ok (.iinc 2 1, 3) := by decide +kernel
theorem d_X0_weakestOne_47 : decode cX0_weakestOne 47 = .ok (.goto (-43), 3) := by decide +kernel
theorem d_X0_weakestOne_50 : decode cX0_weakestOne 50 = .ok (.iload_n 1, 1) := by decide +kernel
theorem d_X0_weakestOne_51 : decode cX0_weakestOne 51 = .ok (.ireturn, 1) := by decide +kernel
def f_X0_weakestOne (this : Nat) : sa_M Int32 :=
sa_gd 0 this (
sa_let ((-1) : Int32) fun x1 =>
sa_let (0 : Int32) fun x2 =>
sa_wh2 (fun j4 (x3 : Int32) (x4 : Int32) =>
sa_bnd (sa_rdR 0 this 0) fun v5 =>
sa_bnd (sa_ldI .int v5 22) fun v6 =>
if v6 ≤ x4 then
sa_ret (x3 : Int32)
else
sa_bnd (f_X0_lives this x4) fun v7 =>
sa_jn1 (fun (x8 : Int32) =>
sa_let ((x4 + 1) : Int32) fun x9 =>
j4 x8 x9) fun j44 =>
if v7 = 0 then
j44 x3
else
sa_jn0 (j44 x4) fun j42 =>
if x3 < 0 then
j42
else
sa_bnd (f_X0_of this x4 2) fun v10 =>
sa_bnd (f_X0_of this x3 2) fun v11 =>
if v11 ≤ v10 then
j44 x3
else
j42) sa_F x1 x2)
set_option maxHeartbeats 1000000 in
set_option maxRecDepth 10000 in
theorem b_X0_weakestOne {p : Program} {l : Launch} {e : Env} {s : State} {m : MethodId} {args : Array Value} {below : List Frame} {meth : Method} {c : Code} {D : va_G} {ad : Nat → Nat} {cA : FieldType → ClassId} {A : Nat → Prop} (this : Nat) (C : sa_C p s m args meth c cX0_weakestOne RX0 "weakestOne" 3 (some .int) D ad cA A) : sa_Sg p l e s m args below meth c 3 3 D ad cA A sa_eI 0 [(0, .ref (ad this))] [] (f_X0_weakestOne this) := by
  unfold f_X0_weakestOne
  refine sa_gdI ?_
  refine sa_iconst (v := (-1)) C d_X0_weakestOne_0 (by decide) ?_
  refine sa_topi (fun x1 => ?_)
  refine sa_istore_n (lv' := [(1, .int x1), (0, .ref (ad this))]) C d_X0_weakestOne_1 rfl (by decide) rfl ?_
  refine sa_iconst (v := 0) C d_X0_weakestOne_2 (by decide) ?_
  refine sa_topi (fun x2 => ?_)
  refine sa_istore_n (lv' := [(2, .int x2), (1, .int x1), (0, .ref (ad this))]) C d_X0_weakestOne_3 rfl (by decide) rfl ?_
  refine sa_sub [2, 1, 0] rfl (sa_loop2 (fun x3 x4 => [(0, .ref (ad this)), (1, .int x3), (2, .int x4)]) (fun x3 x4 => []) (fun j4 hj4 x3 x4 => ?_) _ _ _)
  refine sa_iload_n C d_X0_weakestOne_4 rfl 2 rfl ?_
  refine sa_aload_n C d_X0_weakestOne_5 rfl 0 rfl ?_
  refine sa_getR C fd_X0_11 rfl d_X0_weakestOne_6 (fun v5 => ?_)
  refine sa_bipush (v := 22) C d_X0_weakestOne_9 (by decide) ?_
  refine sa_iald C d_X0_weakestOne_11 (fun v6 => ?_)
  refine sa_icmp_ge (tgt := 50) C d_X0_weakestOne_12 (by decide) ?_ ?_
  · refine sa_iload_n C d_X0_weakestOne_50 rfl 1 rfl ?_
    exact sa_iret C d_X0_weakestOne_51
  refine sa_aload_n C d_X0_weakestOne_15 rfl 0 rfl ?_
  refine sa_iload_n C d_X0_weakestOne_16 rfl 2 rfl ?_
  refine sa_invV (ci := 0) C (k_X0_lives this x4) q793 ds_X0_lives q121 rfl q791 q792 q877 (gd_X0_lives this x4) rfl rfl rfl (Nat.le_of_ble_eq_true rfl) (by decide) (by decide) d_X0_weakestOne_17 (fun v7 => ?_)
  refine sa_join1 44 (fun x8 => [(0, .ref (ad this)), (1, .int x8), (2, .int x4)]) (fun x8 => []) (fun x8 => ?_) (fun j44 hj44 => ?_)
  · refine sa_iinc C (fun zz => [(2, .int zz), (0, .ref (ad this)), (1, .int x8)]) d_X0_weakestOne_44 2 rfl rfl (by decide) (fun _ => rfl) (fun x9 => ?_)
    refine sa_goto (tgt := 4) C d_X0_weakestOne_47 (by decide) ?_
    exact sa_sub [1, 2, 0] rfl (hj4 _ _)
  refine sa_if_eq (tgt := 44) C d_X0_weakestOne_20 (by decide) ?_ ?_
  · exact sa_sub [0, 1, 2] rfl (hj44 _)
  refine sa_iload_n C d_X0_weakestOne_23 rfl 1 rfl ?_
  refine sa_join0 42 ([(0, .ref (ad this)), (2, .int x4)]) ([]) (?_) (fun j42 hj42 => ?_)
  · refine sa_iload_n C d_X0_weakestOne_42 rfl 1 rfl ?_
    refine sa_istore_n (lv' := [(1, .int x4), (0, .ref (ad this)), (2, .int x4)]) C d_X0_weakestOne_43 rfl (by decide) rfl ?_
    exact sa_sub [1, 0, 2] rfl (hj44 _)
  refine sa_if_lt (tgt := 42) C d_X0_weakestOne_24 (by decide) ?_ ?_
  · exact sa_sub [0, 2] rfl (hj42)
  refine sa_aload_n C d_X0_weakestOne_27 rfl 0 rfl ?_
  refine sa_iload_n C d_X0_weakestOne_28 rfl 2 rfl ?_
  refine sa_iconst (v := 2) C d_X0_weakestOne_29 (by decide) ?_
  refine sa_invV (ci := 0) C (k_X0_of this x4 2) q801 ds_X0_of q121 rfl q799 q800 q798 (gd_X0_of this x4 2) rfl rfl rfl (Nat.le_of_ble_eq_true rfl) (by decide) (by decide) d_X0_weakestOne_30 (fun v10 => ?_)
  refine sa_aload_n C d_X0_weakestOne_33 rfl 0 rfl ?_
  refine sa_iload_n C d_X0_weakestOne_34 rfl 1 rfl ?_
  refine sa_iconst (v := 2) C d_X0_weakestOne_35 (by decide) ?_
  refine sa_invV (ci := 0) C (k_X0_of this x3 2) q801 ds_X0_of q121 rfl q799 q800 q798 (gd_X0_of this x3 2) rfl rfl rfl (Nat.le_of_ble_eq_true rfl) (by decide) (by decide) d_X0_weakestOne_36 (fun v11 => ?_)
  refine sa_icmp_ge (tgt := 44) C d_X0_weakestOne_39 (by decide) ?_ ?_
  · exact sa_sub [0, 1, 2] rfl (hj44 _)
  exact sa_sub [0, 2] rfl (hj42)
theorem k_X0_weakestOne (this : Nat) : sa_Met 3 yX0_weakestOne cX0_weakestOne 3 (some .int) (fun ad => [.ref (ad this)]) sa_eI (f_X0_weakestOne this) := sa_mk (by decide) (fun ad => Nat.le_of_ble_eq_true rfl) (fun p l e s m args below meth c D ad cA A C => b_X0_weakestOne this C)
theorem gd_X0_weakestOne (this : Nat) (σ : sa_St) (r : Int32) (τ : sa_St) (h : f_X0_weakestOne this σ = some (r, τ)) : sa_sh this = some (.inl 0) := sa_gd_ok h
theorem d_X0_whoKnows_0 : decode cX0_whoKnows 0 = .ok (.iconst 0, 1) := by decide +kernel
theorem d_X0_whoKnows_1 : decode cX0_whoKnows 1 = .ok (.istore_n 2, 1) := by decide +kernel
theorem d_X0_whoKnows_2 : decode cX0_whoKnows 2 = .ok (.iconst 0, 1) := by decide +kernel
theorem d_X0_whoKnows_3 : decode cX0_whoKnows 3 = .ok (.istore_n 3, 1) := by decide +kernel
theorem d_X0_whoKnows_4 : decode cX0_whoKnows 4 = .ok (.iload_n 3, 1) := by decide +kernel
theorem d_X0_whoKnows_5 : decode cX0_whoKnows 5 = .ok (.aload_n 0, 1) := by decide +kernel
theorem d_X0_whoKnows_6 : decode cX0_whoKnows 6 = .ok (.getfield 11, 3) := by decide +kernel
theorem d_X0_whoKnows_9 : decode cX0_whoKnows 9 = .ok (.bipush 22, 2) := by decide +kernel
theorem d_X0_whoKnows_11 : decode cX0_whoKnows 11 = .ok (.iaload, 1) := by decide +kernel
theorem d_X0_whoKnows_12 : decode cX0_whoKnows 12 = .ok (.if_icmp .ge 37, 3) := by decide +kernel
theorem d_X0_whoKnows_15 : decode cX0_whoKnows 15 = .ok (.aload_n 0, 1) := by decide +kernel
theorem d_X0_whoKnows_16 : decode cX0_whoKnows 16 = .ok (.iload_n 3, 1) := by decide +kernel
theorem d_X0_whoKnows_17 : decode cX0_whoKnows 17 = .ok (.invokevirtual 89, 3) := by decide +kernel
theorem d_X0_whoKnows_20 : decode cX0_whoKnows 20 = .ok (.ifCond .eq 23, 3) := by decide +kernel
theorem d_X0_whoKnows_23 : decode cX0_whoKnows 23 = .ok (.aload_n 0, 1) := by decide +kernel
theorem d_X0_whoKnows_24 : decode cX0_whoKnows 24 = .ok (.iload_n 3, 1) := by decide +kernel
theorem d_X0_whoKnows_25 : decode cX0_whoKnows 25 = .ok (.iconst 5, 1) := by decide +kernel
theorem d_X0_whoKnows_26 : decode cX0_whoKnows 26 = .ok (.invokevirtual 44, 3) := by decide +kernel
theorem d_X0_whoKnows_29 : decode cX0_whoKnows 29 = .ok (.iload_n 1, 1) := by decide +kernel
theorem d_X0_whoKnows_30 : decode cX0_whoKnows 30 = .ok (.ishr, 1) := by decide +kernel
theorem d_X0_whoKnows_31 : decode cX0_whoKnows 31 = .ok (.iconst 1, 1) := by decide +kernel
theorem d_X0_whoKnows_32 : decode cX0_whoKnows 32 = .ok (.iand, 1) := by decide +kernel
theorem d_X0_whoKnows_33 : decode cX0_whoKnows 33 = .ok (.iconst 1, 1) := by decide +kernel
theorem d_X0_whoKnows_34 : decode cX0_whoKnows 34 = .ok (.if_icmp .ne 9, 3) := by decide +kernel
theorem d_X0_whoKnows_37 : decode cX0_whoKnows 37 = .ok (.iload_n 2, 1) := by decide +kernel
theorem d_X0_whoKnows_38 : decode cX0_whoKnows 38 = .ok (.iconst 1, 1) := by decide +kernel
theorem d_X0_whoKnows_39 : decode cX0_whoKnows 39 = .ok (.iload_n 3, 1) := by decide +kernel
theorem d_X0_whoKnows_40 : decode cX0_whoKnows 40 = .ok (.ishl, 1) := by decide +kernel
theorem d_X0_whoKnows_41 : decode cX0_whoKnows 41 = .ok (.ior, 1) := by decide +kernel
theorem d_X0_whoKnows_42 : decode cX0_whoKnows 42 = .ok (.istore_n 2, 1) := by decide +kernel
theorem d_X0_whoKnows_43 : decode cX0_whoKnows 43 = .ok (.iinc 3 1, 3) := by decide +kernel
theorem d_X0_whoKnows_46 : decode cX0_whoKnows 46 = .ok (.goto (-42), 3) := by decide +kernel
theorem d_X0_whoKnows_49 : decode cX0_whoKnows 49 = .ok (.iload_n 2, 1) := by decide +kernel
theorem d_X0_whoKnows_50 : decode cX0_whoKnows 50 = .ok (.ireturn, 1) := by decide +kernel
def f_X0_whoKnows (this : Nat) (a1 : Int32) : sa_M Int32 :=
sa_gd 0 this (
sa_let (0 : Int32) fun x1 =>
sa_let (0 : Int32) fun x2 =>
sa_wh2 (fun j4 (x3 : Int32) (x4 : Int32) =>
sa_bnd (sa_rdR 0 this 0) fun v5 =>
sa_bnd (sa_ldI .int v5 22) fun v6 =>
if v6 ≤ x4 then
sa_ret (x3 : Int32)
else
sa_bnd (f_X0_lives this x4) fun v7 =>
sa_jn1 (fun (x8 : Int32) =>
sa_let ((x4 + 1) : Int32) fun x9 =>
j4 x8 x9) fun j43 =>
if v7 = 0 then
j43 x3
else
sa_bnd (f_X0_of this x4 5) fun v10 =>
if ¬ ((v10 >>> (a1 &&& 31)) &&& 1) = 1 then
j43 x3
else
sa_let ((x3 ||| (1 <<< (x4 &&& 31))) : Int32) fun x11 =>
j43 x11) sa_F x1 x2)
set_option maxHeartbeats 1000000 in
set_option maxRecDepth 10000 in
theorem b_X0_whoKnows {p : Program} {l : Launch} {e : Env} {s : State} {m : MethodId} {args : Array Value} {below : List Frame} {meth : Method} {c : Code} {D : va_G} {ad : Nat → Nat} {cA : FieldType → ClassId} {A : Nat → Prop} (this : Nat) (a1 : Int32) (C : sa_C p s m args meth c cX0_whoKnows RX0 "whoKnows" 4 (some .int) D ad cA A) : sa_Sg p l e s m args below meth c 4 3 D ad cA A sa_eI 0 [(0, .ref (ad this)), (1, .int a1)] [] (f_X0_whoKnows this a1) := by
  unfold f_X0_whoKnows
  refine sa_gdI ?_
  refine sa_iconst (v := 0) C d_X0_whoKnows_0 (by decide) ?_
  refine sa_topi (fun x1 => ?_)
  refine sa_istore_n (lv' := [(2, .int x1), (0, .ref (ad this)), (1, .int a1)]) C d_X0_whoKnows_1 rfl (by decide) rfl ?_
  refine sa_iconst (v := 0) C d_X0_whoKnows_2 (by decide) ?_
  refine sa_topi (fun x2 => ?_)
  refine sa_istore_n (lv' := [(3, .int x2), (2, .int x1), (0, .ref (ad this)), (1, .int a1)]) C d_X0_whoKnows_3 rfl (by decide) rfl ?_
  refine sa_sub [2, 3, 1, 0] rfl (sa_loop2 (fun x3 x4 => [(0, .ref (ad this)), (1, .int a1), (2, .int x3), (3, .int x4)]) (fun x3 x4 => []) (fun j4 hj4 x3 x4 => ?_) _ _ _)
  refine sa_iload_n C d_X0_whoKnows_4 rfl 3 rfl ?_
  refine sa_aload_n C d_X0_whoKnows_5 rfl 0 rfl ?_
  refine sa_getR C fd_X0_11 rfl d_X0_whoKnows_6 (fun v5 => ?_)
  refine sa_bipush (v := 22) C d_X0_whoKnows_9 (by decide) ?_
  refine sa_iald C d_X0_whoKnows_11 (fun v6 => ?_)
  refine sa_icmp_ge (tgt := 49) C d_X0_whoKnows_12 (by decide) ?_ ?_
  · refine sa_iload_n C d_X0_whoKnows_49 rfl 2 rfl ?_
    exact sa_iret C d_X0_whoKnows_50
  refine sa_aload_n C d_X0_whoKnows_15 rfl 0 rfl ?_
  refine sa_iload_n C d_X0_whoKnows_16 rfl 3 rfl ?_
  refine sa_invV (ci := 0) C (k_X0_lives this x4) q793 ds_X0_lives q121 rfl q791 q792 q877 (gd_X0_lives this x4) rfl rfl rfl (Nat.le_of_ble_eq_true rfl) (by decide) (by decide) d_X0_whoKnows_17 (fun v7 => ?_)
  refine sa_join1 43 (fun x8 => [(0, .ref (ad this)), (1, .int a1), (2, .int x8), (3, .int x4)]) (fun x8 => []) (fun x8 => ?_) (fun j43 hj43 => ?_)
  · refine sa_iinc C (fun zz => [(3, .int zz), (0, .ref (ad this)), (1, .int a1), (2, .int x8)]) d_X0_whoKnows_43 3 rfl rfl (by decide) (fun _ => rfl) (fun x9 => ?_)
    refine sa_goto (tgt := 4) C d_X0_whoKnows_46 (by decide) ?_
    exact sa_sub [1, 2, 3, 0] rfl (hj4 _ _)
  refine sa_if_eq (tgt := 43) C d_X0_whoKnows_20 (by decide) ?_ ?_
  · exact sa_sub [0, 1, 2, 3] rfl (hj43 _)
  refine sa_aload_n C d_X0_whoKnows_23 rfl 0 rfl ?_
  refine sa_iload_n C d_X0_whoKnows_24 rfl 3 rfl ?_
  refine sa_iconst (v := 5) C d_X0_whoKnows_25 (by decide) ?_
  refine sa_invV (ci := 0) C (k_X0_of this x4 5) q801 ds_X0_of q121 rfl q799 q800 q798 (gd_X0_of this x4 5) rfl rfl rfl (Nat.le_of_ble_eq_true rfl) (by decide) (by decide) d_X0_whoKnows_26 (fun v10 => ?_)
  refine sa_iload_n C d_X0_whoKnows_29 rfl 1 rfl ?_
  refine sa_ishr C d_X0_whoKnows_30 ?_
  refine sa_iconst (v := 1) C d_X0_whoKnows_31 (by decide) ?_
  refine sa_iand C d_X0_whoKnows_32 ?_
  refine sa_iconst (v := 1) C d_X0_whoKnows_33 (by decide) ?_
  refine sa_icmp_ne (tgt := 43) C d_X0_whoKnows_34 (by decide) ?_ ?_
  · exact sa_sub [0, 1, 2, 3] rfl (hj43 _)
  refine sa_iload_n C d_X0_whoKnows_37 rfl 2 rfl ?_
  refine sa_iconst (v := 1) C d_X0_whoKnows_38 (by decide) ?_
  refine sa_iload_n C d_X0_whoKnows_39 rfl 3 rfl ?_
  refine sa_ishl C d_X0_whoKnows_40 ?_
  refine sa_ior C d_X0_whoKnows_41 ?_
  refine sa_topi (fun x11 => ?_)
  refine sa_istore_n (lv' := [(2, .int x11), (0, .ref (ad this)), (1, .int a1), (3, .int x4)]) C d_X0_whoKnows_42 rfl (by decide) rfl ?_
  exact sa_sub [1, 2, 0, 3] rfl (hj43 _)
theorem k_X0_whoKnows (this : Nat) (a1 : Int32) : sa_Met 3 yX0_whoKnows cX0_whoKnows 4 (some .int) (fun ad => [.ref (ad this), .int a1]) sa_eI (f_X0_whoKnows this a1) := sa_mk (by decide) (fun ad => Nat.le_of_ble_eq_true rfl) (fun p l e s m args below meth c D ad cA A C => b_X0_whoKnows this a1 C)
theorem gd_X0_whoKnows (this : Nat) (a1 : Int32) (σ : sa_St) (r : Int32) (τ : sa_St) (h : f_X0_whoKnows this a1 σ = some (r, τ)) : sa_sh this = some (.inl 0) := sa_gd_ok h
theorem d_X0_knownBy_0 : decode cX0_knownBy 0 = .ok (.iconst 0, 1) := by decide +kernel
theorem d_X0_knownBy_1 : decode cX0_knownBy 1 = .ok (.istore_n 2, 1) := by decide +kernel
theorem d_X0_knownBy_2 : decode cX0_knownBy 2 = .ok (.iconst 0, 1) := by decide +kernel
theorem d_X0_knownBy_3 : decode cX0_knownBy 3 = .ok (.istore_n 3, 1) := by decide +kernel
theorem d_X0_knownBy_4 : decode cX0_knownBy 4 = .ok (.iload_n 3, 1) := by decide +kernel
theorem d_X0_knownBy_5 : decode cX0_knownBy 5 = .ok (.aload_n 0, 1) := by decide +kernel
theorem d_X0_knownBy_6 : decode cX0_knownBy 6 = .ok (.getfield 11, 3) := by decide +kernel
theorem d_X0_knownBy_9 : decode cX0_knownBy 9 = .ok (.bipush 22, 2) := by decide +kernel
theorem d_X0_knownBy_11 : decode cX0_knownBy 11 = .ok (.iaload, 1) := by decide +kernel
theorem d_X0_knownBy_12 : decode cX0_knownBy 12 = .ok (.if_icmp .ge 35, 3) := by decide +kernel
theorem d_X0_knownBy_15 : decode cX0_knownBy 15 = .ok (.iload_n 1, 1) := by decide +kernel
theorem d_X0_knownBy_16 : decode cX0_knownBy 16 = .ok (.iload_n 3, 1) := by decide +kernel
theorem d_X0_knownBy_17 : decode cX0_knownBy 17 = .ok (.ishr, 1) := by decide +kernel
theorem d_X0_knownBy_18 : decode cX0_knownBy 18 = .ok (.iconst 1, 1) := by decide +kernel
theorem d_X0_knownBy_19 : decode cX0_knownBy 19 = .ok (.iand, 1) := by decide +kernel
theorem d_X0_knownBy_20 : decode cX0_knownBy 20 = .ok (.iconst 1, 1) := by decide +kernel
theorem d_X0_knownBy_21 : decode cX0_knownBy 21 = .ok (.if_icmp .ne 20, 3) := by decide +kernel
theorem d_X0_knownBy_24 : decode cX0_knownBy 24 = .ok (.aload_n 0, 1) := by decide +kernel
theorem d_X0_knownBy_25 : decode cX0_knownBy 25 = .ok (.iload_n 3, 1) := by decide +kernel
theorem d_X0_knownBy_26 : decode cX0_knownBy 26 = .ok (.invokevirtual 89, 3) := by decide +kernel
theorem d_X0_knownBy_29 : decode cX0_knownBy 29 = .ok (.ifCond .eq 12, 3) := by decide +kernel
theorem d_X0_knownBy_32 : decode cX0_knownBy 32 = .ok (.iload_n 2, 1) := by decide +kernel
theorem d_X0_knownBy_33 : decode cX0_knownBy 33 = .ok (.aload_n 0, 1) := by decide +kernel
theorem d_X0_knownBy_34 : decode cX0_knownBy 34 = .ok (.iload_n 3, 1) := by decide +kernel
theorem d_X0_knownBy_35 : decode cX0_knownBy 35 = .ok (.iconst 5, 1) := by decide +kernel
theorem d_X0_knownBy_36 : decode cX0_knownBy 36 = .ok (.invokevirtual 44, 3) := by decide +kernel
theorem d_X0_knownBy_39 : decode cX0_knownBy 39 = .ok (.ior, 1) := by decide +kernel
theorem d_X0_knownBy_40 : decode cX0_knownBy 40 = .ok (.istore_n 2, 1) := by decide +kernel
theorem d_X0_knownBy_41 : decode cX0_knownBy 41 = .ok (.iinc 3 1, 3) := by decide +kernel
theorem d_X0_knownBy_44 : decode cX0_knownBy 44 = .ok (.goto (-40), 3) := by decide +kernel
theorem d_X0_knownBy_47 : decode cX0_knownBy 47 = .ok (.iload_n 2, 1) := by decide +kernel
theorem d_X0_knownBy_48 : decode cX0_knownBy 48 = .ok (.ireturn, 1) := by decide +kernel
def f_X0_knownBy (this : Nat) (a1 : Int32) : sa_M Int32 :=
sa_gd 0 this (
sa_let (0 : Int32) fun x1 =>
sa_let (0 : Int32) fun x2 =>
sa_wh2 (fun j4 (x3 : Int32) (x4 : Int32) =>
sa_bnd (sa_rdR 0 this 0) fun v5 =>
sa_bnd (sa_ldI .int v5 22) fun v6 =>
if v6 ≤ x4 then
sa_ret (x3 : Int32)
else
sa_jn1 (fun (x7 : Int32) =>
sa_let ((x4 + 1) : Int32) fun x8 =>
j4 x7 x8) fun j41 =>
if ¬ ((a1 >>> (x4 &&& 31)) &&& 1) = 1 then
j41 x3
else
sa_bnd (f_X0_lives this x4) fun v9 =>
if v9 = 0 then
j41 x3
else
sa_bnd (f_X0_of this x4 5) fun v10 =>
sa_let ((x3 ||| v10) : Int32) fun x11 =>
j41 x11) sa_F x1 x2)
set_option maxHeartbeats 1000000 in
set_option maxRecDepth 10000 in
theorem b_X0_knownBy {p : Program} {l : Launch} {e : Env} {s : State} {m : MethodId} {args : Array Value} {below : List Frame} {meth : Method} {c : Code} {D : va_G} {ad : Nat → Nat} {cA : FieldType → ClassId} {A : Nat → Prop} (this : Nat) (a1 : Int32) (C : sa_C p s m args meth c cX0_knownBy RX0 "knownBy" 4 (some .int) D ad cA A) : sa_Sg p l e s m args below meth c 4 3 D ad cA A sa_eI 0 [(0, .ref (ad this)), (1, .int a1)] [] (f_X0_knownBy this a1) := by
  unfold f_X0_knownBy
  refine sa_gdI ?_
  refine sa_iconst (v := 0) C d_X0_knownBy_0 (by decide) ?_
  refine sa_topi (fun x1 => ?_)
  refine sa_istore_n (lv' := [(2, .int x1), (0, .ref (ad this)), (1, .int a1)]) C d_X0_knownBy_1 rfl (by decide) rfl ?_
  refine sa_iconst (v := 0) C d_X0_knownBy_2 (by decide) ?_
  refine sa_topi (fun x2 => ?_)
  refine sa_istore_n (lv' := [(3, .int x2), (2, .int x1), (0, .ref (ad this)), (1, .int a1)]) C d_X0_knownBy_3 rfl (by decide) rfl ?_
  refine sa_sub [2, 3, 1, 0] rfl (sa_loop2 (fun x3 x4 => [(0, .ref (ad this)), (1, .int a1), (2, .int x3), (3, .int x4)]) (fun x3 x4 => []) (fun j4 hj4 x3 x4 => ?_) _ _ _)
  refine sa_iload_n C d_X0_knownBy_4 rfl 3 rfl ?_
  refine sa_aload_n C d_X0_knownBy_5 rfl 0 rfl ?_
  refine sa_getR C fd_X0_11 rfl d_X0_knownBy_6 (fun v5 => ?_)
  refine sa_bipush (v := 22) C d_X0_knownBy_9 (by decide) ?_
  refine sa_iald C d_X0_knownBy_11 (fun v6 => ?_)
  refine sa_icmp_ge (tgt := 47) C d_X0_knownBy_12 (by decide) ?_ ?_
  · refine sa_iload_n C d_X0_knownBy_47 rfl 2 rfl ?_
    exact sa_iret C d_X0_knownBy_48
  refine sa_iload_n C d_X0_knownBy_15 rfl 1 rfl ?_
  refine sa_iload_n C d_X0_knownBy_16 rfl 3 rfl ?_
  refine sa_ishr C d_X0_knownBy_17 ?_
  refine sa_iconst (v := 1) C d_X0_knownBy_18 (by decide) ?_
  refine sa_iand C d_X0_knownBy_19 ?_
  refine sa_iconst (v := 1) C d_X0_knownBy_20 (by decide) ?_
  refine sa_join1 41 (fun x7 => [(0, .ref (ad this)), (1, .int a1), (2, .int x7), (3, .int x4)]) (fun x7 => []) (fun x7 => ?_) (fun j41 hj41 => ?_)
  · refine sa_iinc C (fun zz => [(3, .int zz), (0, .ref (ad this)), (1, .int a1), (2, .int x7)]) d_X0_knownBy_41 3 rfl rfl (by decide) (fun _ => rfl) (fun x8 => ?_)
    refine sa_goto (tgt := 4) C d_X0_knownBy_44 (by decide) ?_
    exact sa_sub [1, 2, 3, 0] rfl (hj4 _ _)
  refine sa_icmp_ne (tgt := 41) C d_X0_knownBy_21 (by decide) ?_ ?_
  · exact sa_sub [0, 1, 2, 3] rfl (hj41 _)
  refine sa_aload_n C d_X0_knownBy_24 rfl 0 rfl ?_
  refine sa_iload_n C d_X0_knownBy_25 rfl 3 rfl ?_
  refine sa_invV (ci := 0) C (k_X0_lives this x4) q793 ds_X0_lives q121 rfl q791 q792 q877 (gd_X0_lives this x4) rfl rfl rfl (Nat.le_of_ble_eq_true rfl) (by decide) (by decide) d_X0_knownBy_26 (fun v9 => ?_)
  refine sa_if_eq (tgt := 41) C d_X0_knownBy_29 (by decide) ?_ ?_
  · exact sa_sub [0, 1, 2, 3] rfl (hj41 _)
  refine sa_iload_n C d_X0_knownBy_32 rfl 2 rfl ?_
  refine sa_aload_n C d_X0_knownBy_33 rfl 0 rfl ?_
  refine sa_iload_n C d_X0_knownBy_34 rfl 3 rfl ?_
  refine sa_iconst (v := 5) C d_X0_knownBy_35 (by decide) ?_
  refine sa_invV (ci := 0) C (k_X0_of this x4 5) q801 ds_X0_of q121 rfl q799 q800 q798 (gd_X0_of this x4 5) rfl rfl rfl (Nat.le_of_ble_eq_true rfl) (by decide) (by decide) d_X0_knownBy_36 (fun v10 => ?_)
  refine sa_ior C d_X0_knownBy_39 ?_
  refine sa_topi (fun x11 => ?_)
  refine sa_istore_n (lv' := [(2, .int x11), (0, .ref (ad this)), (1, .int a1), (3, .int x4)]) C d_X0_knownBy_40 rfl (by decide) rfl ?_
  exact sa_sub [1, 2, 0, 3] rfl (hj41 _)
theorem k_X0_knownBy (this : Nat) (a1 : Int32) : sa_Met 3 yX0_knownBy cX0_knownBy 4 (some .int) (fun ad => [.ref (ad this), .int a1]) sa_eI (f_X0_knownBy this a1) := sa_mk (by decide) (fun ad => Nat.le_of_ble_eq_true rfl) (fun p l e s m args below meth c D ad cA A C => b_X0_knownBy this a1 C)
theorem gd_X0_knownBy (this : Nat) (a1 : Int32) (σ : sa_St) (r : Int32) (τ : sa_St) (h : f_X0_knownBy this a1 σ = some (r, τ)) : sa_sh this = some (.inl 0) := sa_gd_ok h
theorem d_X0_isNearOne_0 : decode cX0_isNearOne 0 = .ok (.iconst 0, 1) := by decide +kernel
theorem d_X0_isNearOne_1 : decode cX0_isNearOne 1 = .ok (.istore 5, 2) := by decide +kernel
theorem d_X0_isNearOne_3 : decode cX0_isNearOne 3 = .ok (.iload 5, 2) := by decide +kernel
theorem d_X0_isNearOne_5 : decode cX0_isNearOne 5 = .ok (.aload_n 0, 1) := by decide +kernel
theorem d_X0_isNearOne_6 : decode cX0_isNearOne 6 = .ok (.getfield 11, 3) := by decide +kernel
theorem d_X0_isNearOne_9 : decode cX0_isNearOne 9 = .ok (.bipush 22, 2) := by decide +kernel
theorem d_X0_isNearOne_11 : decode cX0_isNearOne 11 = .ok (.iaload, 1) := by decide +kernel
theorem d_X0_isNearOne_12 : decode cX0_isNearOne 12 = .ok (.if_icmp .ge 43, 3) := by decide +kernel
theorem d_X0_isNearOne_15 : decode cX0_isNearOne 15 = .ok (.iload 4, 2) := by decide +kernel
theorem d_X0_isNearOne_17 : decode cX0_isNearOne 17 = .ok (.iload 5, 2) := by decide +kernel
theorem d_X0_isNearOne_19 : decode cX0_isNearOne 19 = .ok (.ishr, 1) := by decide +kernel
theorem d_X0_isNearOne_20 : decode cX0_isNearOne 20 = .ok (.iconst 1, 1) := by decide +kernel
theorem d_X0_isNearOne_21 : decode cX0_isNearOne 21 = .ok (.iand, 1) := by decide +kernel
theorem d_X0_isNearOne_22 : decode cX0_isNearOne 22 = .ok (.iconst 1, 1) := by decide +kernel
theorem d_X0_isNearOne_23 : decode cX0_isNearOne 23 = .ok (.if_icmp .ne 26, 3) := by decide +kernel
theorem d_X0_isNearOne_26 : decode cX0_isNearOne 26 = .ok (.aload_n 1, 1) := by decide +kernel
theorem d_X0_isNearOne_27 : decode cX0_isNearOne 27 = .ok (.aload_n 0, 1) := by decide +kernel
theorem d_X0_isNearOne_28 : decode cX0_isNearOne 28 = .ok (.iload_n 3, 1) := by decide +kernel
theorem d_X0_isNearOne_29 : decode cX0_isNearOne 29 = .ok (.iconst 0, 1) := by decide +kernel
theorem d_X0_isNearOne_30 : decode cX0_isNearOne 30 = .ok (.invokevirtual 44, 3) := by decide +kernel
theorem d_X0_isNearOne_33 : decode cX0_isNearOne 33 = .ok (.aload_n 0, 1) := by decide +kernel
theorem d_X0_isNearOne_34 : decode cX0_isNearOne 34 = .ok (.iload 5, 2) := by decide +kernel
theorem d_X0_isNearOne_36 : decode cX0_isNearOne 36 = .ok (.iconst 0, 1) := by decide +kernel
theorem d_X0_isNearOne_37 : decode cX0_isNearOne 37 = .ok (.invokevirtual 44, 3) := by decide +kernel
theorem d_X0_isNearOne_40 : decode cX0_isNearOne 40 = .ok (.iload_n 2, 1) := by decide +kernel
theorem d_X0_isNearOne_41 : decode cX0_isNearOne 41 = .ok (.invokevirtual 125, 3) := by decide +kernel
theorem d_X0_isNearOne_44 : decode cX0_isNearOne 44 = .ok (.ifCond .eq 5, 3) := by decide +kernel
theorem d_X0_isNearOne_47 : decode cX0_isNearOne 47 = .ok (.iconst 1, 1) := by decide +kernel
theorem d_X0_isNearOne_48 : decode cX0_isNearOne 48 = .ok (.ireturn, 1) := by decide +kernel
theorem d_X0_isNearOne_49 : decode cX0_isNearOne 49 = .ok (.iinc 5 1, 3) := by decide +kernel
theorem d_X0_isNearOne_52 : decode cX0_isNearOne 52 = .ok (.goto (-49), 3) := by decide +kernel
theorem d_X0_isNearOne_55 : decode cX0_isNearOne 55 = .ok (.iconst 0, 1) := by decide +kernel
theorem d_X0_isNearOne_56 : decode cX0_isNearOne 56 = .ok (.ireturn, 1) := by decide +kernel
def f_X0_isNearOne (this : Nat) (a1 : Nat) (a2 : Int32) (a3 : Int32) (a4 : Int32) : sa_M Int32 :=
sa_gd 0 this (
sa_let (0 : Int32) fun x1 =>
sa_wh1 (fun j3 (x2 : Int32) =>
sa_bnd (sa_rdR 0 this 0) fun v3 =>
sa_bnd (sa_ldI .int v3 22) fun v4 =>
if v4 ≤ x2 then
sa_retZ 0
else
sa_jn0 (sa_let ((x2 + 1) : Int32) fun x5 =>
j3 x5) fun j49 =>
if ¬ ((a4 >>> (x2 &&& 31)) &&& 1) = 1 then
j49
else
sa_bnd (f_X0_of this a3 0) fun v6 =>
sa_bnd (f_X0_of this x2 0) fun v7 =>
sa_bnd (f_X1_isWithin a1 v6 v7 a2) fun v8 =>
if v8 = 0 then
j49
else
sa_retZ 1) sa_F x1)
set_option maxHeartbeats 1000000 in
set_option maxRecDepth 10000 in
theorem b_X0_isNearOne {p : Program} {l : Launch} {e : Env} {s : State} {m : MethodId} {args : Array Value} {below : List Frame} {meth : Method} {c : Code} {D : va_G} {ad : Nat → Nat} {cA : FieldType → ClassId} {A : Nat → Prop} (this : Nat) (a1 : Nat) (a2 : Int32) (a3 : Int32) (a4 : Int32) (C : sa_C p s m args meth c cX0_isNearOne RX0 "isNearOne" 6 (some .boolean) D ad cA A) : sa_Sg p l e s m args below meth c 6 2 D ad cA A sa_eI 0 [(0, .ref (ad this)), (1, .ref (ad a1)), (2, .int a2), (3, .int a3), (4, .int a4)] [] (f_X0_isNearOne this a1 a2 a3 a4) := by
  unfold f_X0_isNearOne
  refine sa_gdI ?_
  refine sa_iconst (v := 0) C d_X0_isNearOne_0 (by decide) ?_
  refine sa_topi (fun x1 => ?_)
  refine sa_istore (lv' := [(5, .int x1), (0, .ref (ad this)), (1, .ref (ad a1)), (2, .int a2), (3, .int a3), (4, .int a4)]) C d_X0_isNearOne_1 (by decide) rfl ?_
  refine sa_sub [1, 2, 3, 4, 5, 0] rfl (sa_loop1 (fun x2 => [(0, .ref (ad this)), (1, .ref (ad a1)), (2, .int a2), (3, .int a3), (4, .int a4), (5, .int x2)]) (fun x2 => []) (fun j3 hj3 x2 => ?_) _ _)
  refine sa_iload C d_X0_isNearOne_3 5 rfl ?_
  refine sa_aload_n C d_X0_isNearOne_5 rfl 0 rfl ?_
  refine sa_getR C fd_X0_11 rfl d_X0_isNearOne_6 (fun v3 => ?_)
  refine sa_bipush (v := 22) C d_X0_isNearOne_9 (by decide) ?_
  refine sa_iald C d_X0_isNearOne_11 (fun v4 => ?_)
  refine sa_icmp_ge (tgt := 55) C d_X0_isNearOne_12 (by decide) ?_ ?_
  · refine sa_iconst (v := 0) C d_X0_isNearOne_55 (by decide) ?_
    exact sa_zret C d_X0_isNearOne_56
  refine sa_iload C d_X0_isNearOne_15 4 rfl ?_
  refine sa_iload C d_X0_isNearOne_17 5 rfl ?_
  refine sa_ishr C d_X0_isNearOne_19 ?_
  refine sa_iconst (v := 1) C d_X0_isNearOne_20 (by decide) ?_
  refine sa_iand C d_X0_isNearOne_21 ?_
  refine sa_iconst (v := 1) C d_X0_isNearOne_22 (by decide) ?_
  refine sa_join0 49 ([(0, .ref (ad this)), (1, .ref (ad a1)), (2, .int a2), (3, .int a3), (4, .int a4), (5, .int x2)]) ([]) (?_) (fun j49 hj49 => ?_)
  · refine sa_iinc C (fun zz => [(5, .int zz), (0, .ref (ad this)), (1, .ref (ad a1)), (2, .int a2), (3, .int a3), (4, .int a4)]) d_X0_isNearOne_49 5 rfl rfl (by decide) (fun _ => rfl) (fun x5 => ?_)
    refine sa_goto (tgt := 3) C d_X0_isNearOne_52 (by decide) ?_
    exact sa_sub [1, 2, 3, 4, 5, 0] rfl (hj3 _)
  refine sa_icmp_ne (tgt := 49) C d_X0_isNearOne_23 (by decide) ?_ ?_
  · exact sa_sub [0, 1, 2, 3, 4, 5] rfl (hj49)
  refine sa_aload_n C d_X0_isNearOne_26 rfl 1 rfl ?_
  refine sa_aload_n C d_X0_isNearOne_27 rfl 0 rfl ?_
  refine sa_iload_n C d_X0_isNearOne_28 rfl 3 rfl ?_
  refine sa_iconst (v := 0) C d_X0_isNearOne_29 (by decide) ?_
  refine sa_invV (ci := 0) C (k_X0_of this a3 0) q801 ds_X0_of q121 rfl q799 q800 q798 (gd_X0_of this a3 0) rfl rfl rfl (Nat.le_of_ble_eq_true rfl) (by decide) (by decide) d_X0_isNearOne_30 (fun v6 => ?_)
  refine sa_aload_n C d_X0_isNearOne_33 rfl 0 rfl ?_
  refine sa_iload C d_X0_isNearOne_34 5 rfl ?_
  refine sa_iconst (v := 0) C d_X0_isNearOne_36 (by decide) ?_
  refine sa_invV (ci := 0) C (k_X0_of this x2 0) q801 ds_X0_of q121 rfl q799 q800 q798 (gd_X0_of this x2 0) rfl rfl rfl (Nat.le_of_ble_eq_true rfl) (by decide) (by decide) d_X0_isNearOne_37 (fun v7 => ?_)
  refine sa_iload_n C d_X0_isNearOne_40 rfl 2 rfl ?_
  refine sa_invV (ci := 1) C (k_X1_isWithin a1 v6 v7 a2) q1253 ds_X1_isWithin q116 rfl q1251 q1252 q1250 (gd_X1_isWithin a1 v6 v7 a2) rfl rfl rfl (Nat.le_of_ble_eq_true rfl) (by decide) (by decide) d_X0_isNearOne_41 (fun v8 => ?_)
  refine sa_if_eq (tgt := 49) C d_X0_isNearOne_44 (by decide) ?_ ?_
  · exact sa_sub [0, 1, 2, 3, 4, 5] rfl (hj49)
  refine sa_iconst (v := 1) C d_X0_isNearOne_47 (by decide) ?_
  exact sa_zret C d_X0_isNearOne_48
theorem k_X0_isNearOne (this : Nat) (a1 : Nat) (a2 : Int32) (a3 : Int32) (a4 : Int32) : sa_Met 2 yX0_isNearOne cX0_isNearOne 6 (some .boolean) (fun ad => [.ref (ad this), .ref (ad a1), .int a2, .int a3, .int a4]) sa_eI (f_X0_isNearOne this a1 a2 a3 a4) := sa_mk (by decide) (fun ad => Nat.le_of_ble_eq_true rfl) (fun p l e s m args below meth c D ad cA A C => b_X0_isNearOne this a1 a2 a3 a4 C)
theorem gd_X0_isNearOne (this : Nat) (a1 : Nat) (a2 : Int32) (a3 : Int32) (a4 : Int32) (σ : sa_St) (r : Int32) (τ : sa_St) (h : f_X0_isNearOne this a1 a2 a3 a4 σ = some (r, τ)) : sa_sh this = some (.inl 0) := sa_gd_ok h
theorem d_X0_talkingWith_0 : decode cX0_talkingWith 0 = .ok (.iconst 1, 1) := by decide +kernel
theorem d_X0_talkingWith_1 : decode cX0_talkingWith 1 = .ok (.iload_n 3, 1) := by decide +kernel
theorem d_X0_talkingWith_2 : decode cX0_talkingWith 2 = .ok (.ishl, 1) := by decide +kernel
theorem d_X0_talkingWith_3 : decode cX0_talkingWith 3 = .ok (.istore 4, 2) := by decide +kernel
theorem d_X0_talkingWith_5 : decode cX0_talkingWith 5 = .ok (.iconst 0, 1) := by decide +kernel
theorem d_X0_talkingWith_6 : decode cX0_talkingWith 6 = .ok (.istore 5, 2) := by decide +kernel
theorem d_X0_talkingWith_8 : decode cX0_talkingWith 8 = .ok (.iload 5, 2) := by decide +kernel
theorem d_X0_talkingWith_10 : decode cX0_talkingWith 10 = .ok (.bipush 8, 2) := by decide +kernel
theorem d_X0_talkingWith_12 : decode cX0_talkingWith 12 = .ok (.if_icmp .ge 61, 3) := by decide +kernel
theorem d_X0_talkingWith_15 : decode cX0_talkingWith 15 = .ok (.iconst 0, 1) := by decide +kernel
theorem d_X0_talkingWith_16 : decode cX0_talkingWith 16 = .ok (.istore 6, 2) := by decide +kernel
theorem d_X0_talkingWith_18 : decode cX0_talkingWith 18 = .ok (.iload 6, 2) := by decide +kernel
theorem d_X0_talkingWith_20 : decode cX0_talkingWith 20 = .ok (.aload_n 0, 1) := by decide +kernel
theorem d_X0_talkingWith_21 : decode cX0_talkingWith 21 = .ok (.getfield 11, 3) := by decide +kernel
theorem d_X0_talkingWith_24 : decode cX0_talkingWith 24 = .ok (.bipush 22, 2) := by decide +kernel
theorem d_X0_talkingWith_26 : decode cX0_talkingWith 26 = .ok (.iaload, 1) := by decide +kernel
theorem d_X0_talkingWith_27 : decode cX0_talkingWith 27 = .ok (.if_icmp .ge 40, 3) := by decide +kernel
theorem d_X0_talkingWith_30 : decode cX0_talkingWith 30 = .ok (.aload_n 0, 1) := by decide +kernel
theorem d_X0_talkingWith_31 : decode cX0_talkingWith 31 = .ok (.iload 6, 2) := by decide +kernel
theorem d_X0_talkingWith_33 : decode cX0_talkingWith 33 = .ok (.invokevirtual 89, 3) := by decide +kernel
theorem d_X0_talkingWith_36 : decode cX0_talkingWith 36 = .ok (.ifCond .eq 25, 3) := by decide +kernel
theorem d_X0_talkingWith_39 : decode cX0_talkingWith 39 = .ok (.aload_n 0, 1) := by decide +kernel
theorem d_X0_talkingWith_40 : decode cX0_talkingWith 40 = .ok (.aload_n 1, 1) := by decide +kernel
theorem d_X0_talkingWith_41 : decode cX0_talkingWith 41 = .ok (.iload_n 2, 1) := by decide +kernel
theorem d_X0_talkingWith_42 : decode cX0_talkingWith 42 = .ok (.iload 6, 2) := by decide +kernel
theorem d_X0_talkingWith_44 : decode cX0_talkingWith 44 = .ok (.iload 4, 2) := by decide +kernel
theorem d_X0_talkingWith_46 : decode cX0_talkingWith 46 = .ok (.invokevirtual 121, 3) := by decide +kernel
theorem d_X0_talkingWith_49 : decode cX0_talkingWith 49 = .ok (.ifCond .eq 12, 3) := by decide +kernel
theorem d_X0_talkingWith_52 : decode cX0_talkingWith 52 = .ok (.iload 4, 2) := by decide +kernel
theorem d_X0_talkingWith_54 : decode cX0_talkingWith 54 = .ok (.iconst 1, 1) := by decide +kernel
theorem d_X0_talkingWith_55 : decode cX0_talkingWith 55 = .ok (.iload 6, 2) := by decide +kernel
theorem d_X0_talkingWith_57 : decode cX0_talkingWith 57 = .ok (.ishl, 1) := by decide +kernel
theorem d_X0_talkingWith_58 : decode cX0_talkingWith 58 = .ok (.ior, 1) := by decide +kernel
theorem d_X0_talkingWith_59 : decode cX0_talkingWith 59 = .ok (.istore 4, 2) := by decide +kernel
theorem d_X0_talkingWith_61 : decode cX0_talkingWith 61 = .ok (.iinc 6 1, 3) := by decide +kernel
theorem d_X0_talkingWith_64 : decode cX0_talkingWith 64 = .ok (.goto (-46), 3) := by decide +kernel
theorem d_X0_talkingWith_67 : decode cX0_talkingWith 67 = .ok (.iinc 5 1, 3) := by decide +kernel
theorem d_X0_talkingWith_70 : decode cX0_talkingWith 70 = .ok (.goto (-62), 3) := by decide +kernel
theorem d_X0_talkingWith_73 : decode cX0_talkingWith 73 = .ok (.iload 4, 2) := by decide +kernel
theorem d_X0_talkingWith_75 : decode cX0_talkingWith 75 = .ok (.ireturn, 1) := by decide +kernel
def f_X0_talkingWith (this : Nat) (a1 : Nat) (a2 : Int32) (a3 : Int32) : sa_M Int32 :=
sa_gd 0 this (
sa_let ((1 <<< (a3 &&& 31)) : Int32) fun x1 =>
sa_let (0 : Int32) fun x2 =>
sa_wh2 (fun j8 (x3 : Int32) (x4 : Int32) =>
if 8 ≤ x4 then
sa_ret (x3 : Int32)
else
sa_let (0 : Int32) fun x5 =>
sa_wh2 (fun j18 (x6 : Int32) (x7 : Int32) =>
sa_bnd (sa_rdR 0 this 0) fun v8 =>
sa_bnd (sa_ldI .int v8 22) fun v9 =>
if v9 ≤ x7 then
sa_let ((x4 + 1) : Int32) fun x10 =>
j8 x6 x10
else
sa_bnd (f_X0_lives this x7) fun v11 =>
sa_jn1 (fun (x12 : Int32) =>
sa_let ((x7 + 1) : Int32) fun x13 =>
j18 x12 x13) fun j61 =>
if v11 = 0 then
j61 x6
else
sa_bnd (f_X0_isNearOne this a1 a2 x7 x6) fun v14 =>
if v14 = 0 then
j61 x6
else
sa_let ((x6 ||| (1 <<< (x7 &&& 31))) : Int32) fun x15 =>
j61 x15) sa_F x3 x5) sa_F x1 x2)
set_option maxHeartbeats 1000000 in
set_option maxRecDepth 10000 in
theorem b_X0_talkingWith {p : Program} {l : Launch} {e : Env} {s : State} {m : MethodId} {args : Array Value} {below : List Frame} {meth : Method} {c : Code} {D : va_G} {ad : Nat → Nat} {cA : FieldType → ClassId} {A : Nat → Prop} (this : Nat) (a1 : Nat) (a2 : Int32) (a3 : Int32) (C : sa_C p s m args meth c cX0_talkingWith RX0 "talkingWith" 7 (some .int) D ad cA A) : sa_Sg p l e s m args below meth c 7 3 D ad cA A sa_eI 0 [(0, .ref (ad this)), (1, .ref (ad a1)), (2, .int a2), (3, .int a3)] [] (f_X0_talkingWith this a1 a2 a3) := by
  unfold f_X0_talkingWith
  refine sa_gdI ?_
  refine sa_iconst (v := 1) C d_X0_talkingWith_0 (by decide) ?_
  refine sa_iload_n C d_X0_talkingWith_1 rfl 3 rfl ?_
  refine sa_ishl C d_X0_talkingWith_2 ?_
  refine sa_topi (fun x1 => ?_)
  refine sa_istore (lv' := [(4, .int x1), (0, .ref (ad this)), (1, .ref (ad a1)), (2, .int a2), (3, .int a3)]) C d_X0_talkingWith_3 (by decide) rfl ?_
  refine sa_iconst (v := 0) C d_X0_talkingWith_5 (by decide) ?_
  refine sa_topi (fun x2 => ?_)
  refine sa_istore (lv' := [(5, .int x2), (4, .int x1), (0, .ref (ad this)), (1, .ref (ad a1)), (2, .int a2), (3, .int a3)]) C d_X0_talkingWith_6 (by decide) rfl ?_
  refine sa_sub [2, 3, 4, 1, 0] rfl (sa_loop2 (fun x3 x4 => [(0, .ref (ad this)), (1, .ref (ad a1)), (2, .int a2), (4, .int x3), (5, .int x4)]) (fun x3 x4 => []) (fun j8 hj8 x3 x4 => ?_) _ _ _)
  refine sa_iload C d_X0_talkingWith_8 4 rfl ?_
  refine sa_bipush (v := 8) C d_X0_talkingWith_10 (by decide) ?_
  refine sa_icmp_ge (tgt := 73) C d_X0_talkingWith_12 (by decide) ?_ ?_
  · refine sa_iload C d_X0_talkingWith_73 3 rfl ?_
    exact sa_iret C d_X0_talkingWith_75
  refine sa_iconst (v := 0) C d_X0_talkingWith_15 (by decide) ?_
  refine sa_topi (fun x5 => ?_)
  refine sa_istore (lv' := [(6, .int x5), (0, .ref (ad this)), (1, .ref (ad a1)), (2, .int a2), (4, .int x3), (5, .int x4)]) C d_X0_talkingWith_16 (by decide) rfl ?_
  refine sa_sub [1, 2, 3, 4, 5, 0] rfl (sa_loop2 (fun x6 x7 => [(0, .ref (ad this)), (1, .ref (ad a1)), (2, .int a2), (4, .int x6), (5, .int x4), (6, .int x7)]) (fun x6 x7 => []) (fun j18 hj18 x6 x7 => ?_) _ _ _)
  refine sa_iload C d_X0_talkingWith_18 5 rfl ?_
  refine sa_aload_n C d_X0_talkingWith_20 rfl 0 rfl ?_
  refine sa_getR C fd_X0_11 rfl d_X0_talkingWith_21 (fun v8 => ?_)
  refine sa_bipush (v := 22) C d_X0_talkingWith_24 (by decide) ?_
  refine sa_iald C d_X0_talkingWith_26 (fun v9 => ?_)
  refine sa_icmp_ge (tgt := 67) C d_X0_talkingWith_27 (by decide) ?_ ?_
  · refine sa_iinc C (fun zz => [(5, .int zz), (0, .ref (ad this)), (1, .ref (ad a1)), (2, .int a2), (4, .int x6), (6, .int x7)]) d_X0_talkingWith_67 4 rfl rfl (by decide) (fun _ => rfl) (fun x10 => ?_)
    refine sa_goto (tgt := 8) C d_X0_talkingWith_70 (by decide) ?_
    exact sa_sub [1, 2, 3, 4, 0] rfl (hj8 _ _)
  refine sa_aload_n C d_X0_talkingWith_30 rfl 0 rfl ?_
  refine sa_iload C d_X0_talkingWith_31 5 rfl ?_
  refine sa_invV (ci := 0) C (k_X0_lives this x7) q793 ds_X0_lives q121 rfl q791 q792 q877 (gd_X0_lives this x7) rfl rfl rfl (Nat.le_of_ble_eq_true rfl) (by decide) (by decide) d_X0_talkingWith_33 (fun v11 => ?_)
  refine sa_join1 61 (fun x12 => [(0, .ref (ad this)), (1, .ref (ad a1)), (2, .int a2), (4, .int x12), (5, .int x4), (6, .int x7)]) (fun x12 => []) (fun x12 => ?_) (fun j61 hj61 => ?_)
  · refine sa_iinc C (fun zz => [(6, .int zz), (0, .ref (ad this)), (1, .ref (ad a1)), (2, .int a2), (4, .int x12), (5, .int x4)]) d_X0_talkingWith_61 5 rfl rfl (by decide) (fun _ => rfl) (fun x13 => ?_)
    refine sa_goto (tgt := 18) C d_X0_talkingWith_64 (by decide) ?_
    exact sa_sub [1, 2, 3, 4, 5, 0] rfl (hj18 _ _)
  refine sa_if_eq (tgt := 61) C d_X0_talkingWith_36 (by decide) ?_ ?_
  · exact sa_sub [0, 1, 2, 3, 4, 5] rfl (hj61 _)
  refine sa_aload_n C d_X0_talkingWith_39 rfl 0 rfl ?_
  refine sa_aload_n C d_X0_talkingWith_40 rfl 1 rfl ?_
  refine sa_iload_n C d_X0_talkingWith_41 rfl 2 rfl ?_
  refine sa_iload C d_X0_talkingWith_42 5 rfl ?_
  refine sa_iload C d_X0_talkingWith_44 3 rfl ?_
  refine sa_invV (ci := 0) C (k_X0_isNearOne this a1 a2 x7 x6) q1249 ds_X0_isNearOne q121 rfl q1248 q43 q1246 (gd_X0_isNearOne this a1 a2 x7 x6) rfl rfl rfl (Nat.le_of_ble_eq_true rfl) (by decide) (by decide) d_X0_talkingWith_46 (fun v14 => ?_)
  refine sa_if_eq (tgt := 61) C d_X0_talkingWith_49 (by decide) ?_ ?_
  · exact sa_sub [0, 1, 2, 3, 4, 5] rfl (hj61 _)
  refine sa_iload C d_X0_talkingWith_52 3 rfl ?_
  refine sa_iconst (v := 1) C d_X0_talkingWith_54 (by decide) ?_
  refine sa_iload C d_X0_talkingWith_55 5 rfl ?_
  refine sa_ishl C d_X0_talkingWith_57 ?_
  refine sa_ior C d_X0_talkingWith_58 ?_
  refine sa_topi (fun x15 => ?_)
  refine sa_istore (lv' := [(4, .int x15), (0, .ref (ad this)), (1, .ref (ad a1)), (2, .int a2), (5, .int x4), (6, .int x7)]) C d_X0_talkingWith_59 (by decide) rfl ?_
  exact sa_sub [1, 2, 3, 0, 4, 5] rfl (hj61 _)
theorem k_X0_talkingWith (this : Nat) (a1 : Nat) (a2 : Int32) (a3 : Int32) : sa_Met 3 yX0_talkingWith cX0_talkingWith 7 (some .int) (fun ad => [.ref (ad this), .ref (ad a1), .int a2, .int a3]) sa_eI (f_X0_talkingWith this a1 a2 a3) := sa_mk (by decide) (fun ad => Nat.le_of_ble_eq_true rfl) (fun p l e s m args below meth c D ad cA A C => b_X0_talkingWith this a1 a2 a3 C)
theorem gd_X0_talkingWith (this : Nat) (a1 : Nat) (a2 : Int32) (a3 : Int32) (σ : sa_St) (r : Int32) (τ : sa_St) (h : f_X0_talkingWith this a1 a2 a3 σ = some (r, τ)) : sa_sh this = some (.inl 0) := sa_gd_ok h
theorem d_X0_howManyHear_0 : decode cX0_howManyHear 0 = .ok (.aload_n 0, 1) := by decide +kernel
theorem d_X0_howManyHear_1 : decode cX0_howManyHear 1 = .ok (.iconst 1, 1) := by decide +kernel
theorem d_X0_howManyHear_2 : decode cX0_howManyHear 2 = .ok (.aload_n 0, 1) := by decide +kernel
theorem d_X0_howManyHear_3 : decode cX0_howManyHear 3 = .ok (.getfield 11, 3) := by decide +kernel
theorem d_X0_howManyHear_6 : decode cX0_howManyHear 6 = .ok (.bipush 22, 2) := by decide +kernel
theorem d_X0_howManyHear_8 : decode cX0_howManyHear 8 = .ok (.iaload, 1) := by decide +kernel
theorem d_X0_howManyHear_9 : decode cX0_howManyHear 9 = .ok (.ishl, 1) := by decide +kernel
theorem d_X0_howManyHear_10 : decode cX0_howManyHear 10 = .ok (.iconst 1, 1) := by decide +kernel
theorem d_X0_howManyHear_11 : decode cX0_howManyHear 11 = .ok (.isub, 1) := by decide +kernel
theorem d_X0_howManyHear_12 : decode cX0_howManyHear 12 = .ok (.invokevirtual 114, 3) := by decide +kernel
theorem d_X0_howManyHear_15 : decode cX0_howManyHear 15 = .ok (.istore_n 3, 1) := by decide +kernel
theorem d_X0_howManyHear_16 : decode cX0_howManyHear 16 = .ok (.iconst 0, 1) := by decide +kernel
theorem d_X0_howManyHear_17 : decode cX0_howManyHear 17 = .ok (.istore 4, 2) := by decide +kernel
theorem d_X0_howManyHear_19 : decode cX0_howManyHear 19 = .ok (.iconst 0, 1) := by decide +kernel
theorem d_X0_howManyHear_20 : decode cX0_howManyHear 20 = .ok (.istore 5, 2) := by decide +kernel
theorem d_X0_howManyHear_22 : decode cX0_howManyHear 22 = .ok (.iload 5, 2) := by decide +kernel
theorem d_X0_howManyHear_24 : decode cX0_howManyHear 24 = .ok (.aload_n 0, 1) := by decide +kernel
theorem d_X0_howManyHear_25 : decode cX0_howManyHear 25 = .ok (.getfield 11, 3) := by decide +kernel
theorem d_X0_howManyHear_28 : decode cX0_howManyHear 28 = .ok (.bipush 22, 2) := by decide +kernel
theorem d_X0_howManyHear_30 : decode cX0_howManyHear 30 = .ok (.iaload, 1) := by decide +kernel
theorem d_X0_howManyHear_31 : decode cX0_howManyHear 31 = .ok (.if_icmp .ge 37, 3) := by decide +kernel
theorem d_X0_howManyHear_34 : decode cX0_howManyHear 34 = .ok (.aload_n 0, 1) := by decide +kernel
theorem d_X0_howManyHear_35 : decode cX0_howManyHear 35 = .ok (.iload 5, 2) := by decide +kernel
theorem d_X0_howManyHear_37 : decode cX0_howManyHear 37 = .ok (.invokevirtual 89, 3) := by decide +kernel
theorem d_X0_howManyHear_40 : decode cX0_howManyHear 40 = .ok (.ifCond .eq 22, 3) := by decide +kernel
theorem d_X0_howManyHear_43 : decode cX0_howManyHear 43 = .ok (.aload_n 0, 1) := by decide +kernel
theorem d_X0_howManyHear_44 : decode cX0_howManyHear 44 = .ok (.aload_n 0, 1) := by decide +kernel
theorem d_X0_howManyHear_45 : decode cX0_howManyHear 45 = .ok (.aload_n 1, 1) := by decide +kernel
theorem d_X0_howManyHear_46 : decode cX0_howManyHear 46 = .ok (.iload_n 2, 1) := by decide +kernel
theorem d_X0_howManyHear_47 : decode cX0_howManyHear 47 = .ok (.iload 5, 2) := by decide +kernel
theorem d_X0_howManyHear_49 : decode cX0_howManyHear 49 = .ok (.invokevirtual 117, 3) := by decide +kernel
theorem d_X0_howManyHear_52 : decode cX0_howManyHear 52 = .ok (.invokevirtual 114, 3) := by decide +kernel
theorem d_X0_howManyHear_55 : decode cX0_howManyHear 55 = .ok (.iload_n 3, 1) := by decide +kernel
theorem d_X0_howManyHear_56 : decode cX0_howManyHear 56 = .ok (.if_icmp .ne 6, 3) := by decide +kernel
theorem d_X0_howManyHear_59 : decode cX0_howManyHear 59 = .ok (.iinc 4 1, 3) := by decide +kernel
theorem d_X0_howManyHear_62 : decode cX0_howManyHear 62 = .ok (.iinc 5 1, 3) := by decide +kernel
theorem d_X0_howManyHear_65 : decode cX0_howManyHear 65 = .ok (.goto (-43), 3) := by decide +kernel
theorem d_X0_howManyHear_68 : decode cX0_howManyHear 68 = .ok (.iload 4, 2) := by decide +kernel
theorem d_X0_howManyHear_70 : decode cX0_howManyHear 70 = .ok (.ireturn, 1) := by decide +kernel
def f_X0_howManyHear (this : Nat) (a1 : Nat) (a2 : Int32) : sa_M Int32 :=
sa_gd 0 this (
sa_bnd (sa_rdR 0 this 0) fun v1 =>
sa_bnd (sa_ldI .int v1 22) fun v2 =>
sa_bnd (f_X0_knownBy this ((1 <<< (v2 &&& 31)) - 1)) fun v3 =>
sa_let (0 : Int32) fun x4 =>
sa_let (0 : Int32) fun x5 =>
sa_wh2 (fun j22 (x6 : Int32) (x7 : Int32) =>
sa_bnd (sa_rdR 0 this 0) fun v8 =>
sa_bnd (sa_ldI .int v8 22) fun v9 =>
if v9 ≤ x7 then
sa_ret (x6 : Int32)
else
sa_bnd (f_X0_lives this x7) fun v10 =>
sa_jn1 (fun (x11 : Int32) =>
sa_let ((x7 + 1) : Int32) fun x12 =>
j22 x11 x12) fun j62 =>
if v10 = 0 then
j62 x6
else
sa_bnd (f_X0_talkingWith this a1 a2 x7) fun v13 =>
sa_bnd (f_X0_knownBy this v13) fun v14 =>
if ¬ v14 = v3 then
j62 x6
else
sa_let ((x6 + 1) : Int32) fun x15 =>
j62 x15) sa_F x4 x5)
set_option maxHeartbeats 1000000 in
set_option maxRecDepth 10000 in
theorem b_X0_howManyHear {p : Program} {l : Launch} {e : Env} {s : State} {m : MethodId} {args : Array Value} {below : List Frame} {meth : Method} {c : Code} {D : va_G} {ad : Nat → Nat} {cA : FieldType → ClassId} {A : Nat → Prop} (this : Nat) (a1 : Nat) (a2 : Int32) (C : sa_C p s m args meth c cX0_howManyHear RX0 "howManyHear" 6 (some .int) D ad cA A) : sa_Sg p l e s m args below meth c 6 4 D ad cA A sa_eI 0 [(0, .ref (ad this)), (1, .ref (ad a1)), (2, .int a2)] [] (f_X0_howManyHear this a1 a2) := by
  unfold f_X0_howManyHear
  refine sa_gdI ?_
  refine sa_aload_n C d_X0_howManyHear_0 rfl 0 rfl ?_
  refine sa_iconst (v := 1) C d_X0_howManyHear_1 (by decide) ?_
  refine sa_aload_n C d_X0_howManyHear_2 rfl 0 rfl ?_
  refine sa_getR C fd_X0_11 rfl d_X0_howManyHear_3 (fun v1 => ?_)
  refine sa_bipush (v := 22) C d_X0_howManyHear_6 (by decide) ?_
  refine sa_iald C d_X0_howManyHear_8 (fun v2 => ?_)
  refine sa_ishl C d_X0_howManyHear_9 ?_
  refine sa_iconst (v := 1) C d_X0_howManyHear_10 (by decide) ?_
  refine sa_isub C d_X0_howManyHear_11 ?_
  refine sa_invV (ci := 0) C (k_X0_knownBy this ((1 <<< (v2 &&& 31)) - 1)) q1241 ds_X0_knownBy q121 rfl q1240 q41 q1238 (gd_X0_knownBy this ((1 <<< (v2 &&& 31)) - 1)) rfl rfl rfl (Nat.le_of_ble_eq_true rfl) (by decide) (by decide) d_X0_howManyHear_12 (fun v3 => ?_)
  refine sa_istore_n (lv' := [(3, .int v3), (0, .ref (ad this)), (1, .ref (ad a1)), (2, .int a2)]) C d_X0_howManyHear_15 rfl (by decide) rfl ?_
  refine sa_iconst (v := 0) C d_X0_howManyHear_16 (by decide) ?_
  refine sa_topi (fun x4 => ?_)
  refine sa_istore (lv' := [(4, .int x4), (3, .int v3), (0, .ref (ad this)), (1, .ref (ad a1)), (2, .int a2)]) C d_X0_howManyHear_17 (by decide) rfl ?_
  refine sa_iconst (v := 0) C d_X0_howManyHear_19 (by decide) ?_
  refine sa_topi (fun x5 => ?_)
  refine sa_istore (lv' := [(5, .int x5), (4, .int x4), (3, .int v3), (0, .ref (ad this)), (1, .ref (ad a1)), (2, .int a2)]) C d_X0_howManyHear_20 (by decide) rfl ?_
  refine sa_sub [3, 4, 5, 2, 1, 0] rfl (sa_loop2 (fun x6 x7 => [(0, .ref (ad this)), (1, .ref (ad a1)), (2, .int a2), (3, .int v3), (4, .int x6), (5, .int x7)]) (fun x6 x7 => []) (fun j22 hj22 x6 x7 => ?_) _ _ _)
  refine sa_iload C d_X0_howManyHear_22 5 rfl ?_
  refine sa_aload_n C d_X0_howManyHear_24 rfl 0 rfl ?_
  refine sa_getR C fd_X0_11 rfl d_X0_howManyHear_25 (fun v8 => ?_)
  refine sa_bipush (v := 22) C d_X0_howManyHear_28 (by decide) ?_
  refine sa_iald C d_X0_howManyHear_30 (fun v9 => ?_)
  refine sa_icmp_ge (tgt := 68) C d_X0_howManyHear_31 (by decide) ?_ ?_
  · refine sa_iload C d_X0_howManyHear_68 4 rfl ?_
    exact sa_iret C d_X0_howManyHear_70
  refine sa_aload_n C d_X0_howManyHear_34 rfl 0 rfl ?_
  refine sa_iload C d_X0_howManyHear_35 5 rfl ?_
  refine sa_invV (ci := 0) C (k_X0_lives this x7) q793 ds_X0_lives q121 rfl q791 q792 q877 (gd_X0_lives this x7) rfl rfl rfl (Nat.le_of_ble_eq_true rfl) (by decide) (by decide) d_X0_howManyHear_37 (fun v10 => ?_)
  refine sa_join1 62 (fun x11 => [(0, .ref (ad this)), (1, .ref (ad a1)), (2, .int a2), (3, .int v3), (4, .int x11), (5, .int x7)]) (fun x11 => []) (fun x11 => ?_) (fun j62 hj62 => ?_)
  · refine sa_iinc C (fun zz => [(5, .int zz), (0, .ref (ad this)), (1, .ref (ad a1)), (2, .int a2), (3, .int v3), (4, .int x11)]) d_X0_howManyHear_62 5 rfl rfl (by decide) (fun _ => rfl) (fun x12 => ?_)
    refine sa_goto (tgt := 22) C d_X0_howManyHear_65 (by decide) ?_
    exact sa_sub [1, 2, 3, 4, 5, 0] rfl (hj22 _ _)
  refine sa_if_eq (tgt := 62) C d_X0_howManyHear_40 (by decide) ?_ ?_
  · exact sa_sub [0, 1, 2, 3, 4, 5] rfl (hj62 _)
  refine sa_aload_n C d_X0_howManyHear_43 rfl 0 rfl ?_
  refine sa_aload_n C d_X0_howManyHear_44 rfl 0 rfl ?_
  refine sa_aload_n C d_X0_howManyHear_45 rfl 1 rfl ?_
  refine sa_iload_n C d_X0_howManyHear_46 rfl 2 rfl ?_
  refine sa_iload C d_X0_howManyHear_47 5 rfl ?_
  refine sa_invV (ci := 0) C (k_X0_talkingWith this a1 a2 x7) q1245 ds_X0_talkingWith q121 rfl q1244 q42 q1242 (gd_X0_talkingWith this a1 a2 x7) rfl rfl rfl (Nat.le_of_ble_eq_true rfl) (by decide) (by decide) d_X0_howManyHear_49 (fun v13 => ?_)
  refine sa_invV (ci := 0) C (k_X0_knownBy this v13) q1241 ds_X0_knownBy q121 rfl q1240 q41 q1238 (gd_X0_knownBy this v13) rfl rfl rfl (Nat.le_of_ble_eq_true rfl) (by decide) (by decide) d_X0_howManyHear_52 (fun v14 => ?_)
  refine sa_iload_n C d_X0_howManyHear_55 rfl 3 rfl ?_
  refine sa_icmp_ne (tgt := 62) C d_X0_howManyHear_56 (by decide) ?_ ?_
  · exact sa_sub [0, 1, 2, 3, 4, 5] rfl (hj62 _)
  refine sa_iinc C (fun zz => [(4, .int zz), (0, .ref (ad this)), (1, .ref (ad a1)), (2, .int a2), (3, .int v3), (5, .int x7)]) d_X0_howManyHear_59 4 rfl rfl (by decide) (fun _ => rfl) (fun x15 => ?_)
  exact sa_sub [1, 2, 3, 4, 0, 5] rfl (hj62 _)
theorem k_X0_howManyHear (this : Nat) (a1 : Nat) (a2 : Int32) : sa_Met 4 yX0_howManyHear cX0_howManyHear 6 (some .int) (fun ad => [.ref (ad this), .ref (ad a1), .int a2]) sa_eI (f_X0_howManyHear this a1 a2) := sa_mk (by decide) (fun ad => Nat.le_of_ble_eq_true rfl) (fun p l e s m args below meth c D ad cA A C => b_X0_howManyHear this a1 a2 C)
theorem gd_X0_howManyHear (this : Nat) (a1 : Nat) (a2 : Int32) (σ : sa_St) (r : Int32) (τ : sa_St) (h : f_X0_howManyHear this a1 a2 σ = some (r, τ)) : sa_sh this = some (.inl 0) := sa_gd_ok h
