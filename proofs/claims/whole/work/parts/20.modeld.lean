theorem d_X12_perform_0 : decode cX12_perform 0 = .ok (.aload_n 0, 1) := by decide +kernel
theorem d_X12_perform_1 : decode cX12_perform 1 = .ok (.iconst 0, 1) := by decide +kernel
theorem d_X12_perform_2 : decode cX12_perform 2 = .ok (.putfield 127, 3) := by decide +kernel
theorem d_X12_perform_5 : decode cX12_perform 5 = .ok (.aload_n 0, 1) := by decide +kernel
theorem d_X12_perform_6 : decode cX12_perform 6 = .ok (.getfield 331, 3) := by decide +kernel
theorem d_X12_perform_9 : decode cX12_perform 9 = .ok (.ifCond .eq 19, 3) := by decide +kernel
theorem d_X12_perform_12 : decode cX12_perform 12 = .ok (.iload_n 1, 1) := by decide +kernel
theorem d_X12_perform_13 : decode cX12_perform 13 = .ok (.i2l, 1) := by decide +kernel
theorem d_X12_perform_14 : decode cX12_perform 14 = .ok (.lconst 0, 1) := by decide +kernel
theorem d_X12_perform_15 : decode cX12_perform 15 = .ok (.aload_n 0, 1) := by decide +kernel
theorem d_X12_perform_16 : decode cX12_perform 16 = .ok (.getfield 326, 3) := by decide +kernel
theorem d_X12_perform_19 : decode cX12_perform 19 = .ok (.iconst 1, 1) := by decide +kernel
theorem d_X12_perform_20 : decode cX12_perform 20 = .ok (.isub, 1) := by decide +kernel
theorem d_X12_perform_21 : decode cX12_perform 21 = .ok (.i2l, 1) := by decide +kernel
theorem d_X12_perform_22 : decode cX12_perform 22 = .ok (.invokestatic 248, 3) := by decide +kernel
theorem d_X12_perform_25 : decode cX12_perform 25 = .ok (.ifCond .ne 5, 3) := by decide +kernel
theorem d_X12_perform_28 : decode cX12_perform 28 = .ok (.iconst (-1), 1) := by decide +kernel
theorem d_X12_perform_29 : decode cX12_perform 29 = .ok (.ireturn, 1) := by decide +kernel
theorem d_X12_perform_30 : decode cX12_perform 30 = .ok (.iconst 0, 1) := by decide +kernel
theorem d_X12_perform_31 : decode cX12_perform 31 = .ok (.istore_n 2, 1) := by decide +kernel
theorem d_X12_perform_32 : decode cX12_perform 32 = .ok (.iload_n 2, 1) := by decide +kernel
theorem d_X12_perform_33 : decode cX12_perform 33 = .ok (.aload_n 0, 1) := by decide +kernel
theorem d_X12_perform_34 : decode cX12_perform 34 = .ok (.getfield 61, 3) := by decide +kernel
theorem d_X12_perform_37 : decode cX12_perform 37 = .ok (.iload_n 1, 1) := by decide +kernel
theorem d_X12_perform_38 : decode cX12_perform 38 = .ok (.iaload, 1) := by decide +kernel
theorem d_X12_perform_39 : decode cX12_perform 39 = .ok (.if_icmp .ge 48, 3) := by decide +kernel
theorem d_X12_perform_42 : decode cX12_perform 42 = .ok (.aload_n 0, 1) := by decide +kernel
theorem d_X12_perform_43 : decode cX12_perform 43 = .ok (.aload_n 0, 1) := by decide +kernel
theorem d_X12_perform_44 : decode cX12_perform 44 = .ok (.getfield 64, 3) := by decide +kernel
theorem d_X12_perform_47 : decode cX12_perform 47 = .ok (.iconst 3, 1) := by decide +kernel
theorem d_X12_perform_48 : decode cX12_perform 48 = .ok (.bipush 16, 2) := by decide +kernel
theorem d_X12_perform_50 : decode cX12_perform 50 = .ok (.iload_n 1, 1) := by decide +kernel
theorem d_X12_perform_51 : decode cX12_perform 51 = .ok (.imul, 1) := by decide +kernel
theorem d_X12_perform_52 : decode cX12_perform 52 = .ok (.iload_n 2, 1) := by decide +kernel
theorem d_X12_perform_53 : decode cX12_perform 53 = .ok (.iadd, 1) := by decide +kernel
theorem d_X12_perform_54 : decode cX12_perform 54 = .ok (.imul, 1) := by decide +kernel
theorem d_X12_perform_55 : decode cX12_perform 55 = .ok (.invokevirtual 459, 3) := by decide +kernel
theorem d_X12_perform_58 : decode cX12_perform 58 = .ok (.ifCond .eq 29, 3) := by decide +kernel
theorem d_X12_perform_61 : decode cX12_perform 61 = .ok (.aload_n 0, 1) := by decide +kernel
theorem d_X12_perform_62 : decode cX12_perform 62 = .ok (.invokevirtual 413, 3) := by decide +kernel
theorem d_X12_perform_65 : decode cX12_perform 65 = .ok (.aload_n 0, 1) := by decide +kernel
theorem d_X12_perform_66 : decode cX12_perform 66 = .ok (.aload_n 0, 1) := by decide +kernel
theorem d_X12_perform_67 : decode cX12_perform 67 = .ok (.getfield 64, 3) := by decide +kernel
theorem d_X12_perform_70 : decode cX12_perform 70 = .ok (.iconst 3, 1) := by decide +kernel
theorem d_X12_perform_71 : decode cX12_perform 71 = .ok (.bipush 16, 2) := by decide +kernel
theorem d_X12_perform_73 : decode cX12_perform 73 = .ok (.iload_n 1, 1) := by decide +kernel
theorem d_X12_perform_74 : decode cX12_perform 74 = .ok (.imul, 1) := by decide +kernel
theorem d_X12_perform_75 : decode cX12_perform 75 = .ok (.iload_n 2, 1) := by decide +kernel
theorem d_X12_perform_76 : decode cX12_perform 76 = .ok (.iadd, 1) := by decide +kernel
theorem d_X12_perform_77 : decode cX12_perform 77 = .ok (.imul, 1) := by decide +kernel
theorem d_X12_perform_78 : decode cX12_perform 78 = .ok (.invokevirtual 462, 3) := by decide +kernel
theorem d_X12_perform_81 : decode cX12_perform 81 = .ok (.iinc 2 1, 3) := by decide +kernel
theorem d_X12_perform_84 : decode cX12_perform 84 = .ok (.goto (-52), 3) := by decide +kernel
theorem d_X12_perform_87 : decode cX12_perform 87 = .ok (.iload_n 2, 1) := by decide +kernel
theorem d_X12_perform_88 : decode cX12_perform 88 = .ok (.ireturn, 1) := by decide +kernel
def f_X12_perform (this : Nat) (a1 : Int32) : sa_M Int32 :=
sa_gd 12 this (
sa_bnd (sa_wrI 12 this 0 0) fun _ =>
sa_bnd (sa_rdI 12 this 25) fun v1 =>
sa_jn0 (sa_ret ((-1) : Int32)) fun j28 =>
if v1 = 0 then
j28
else
sa_bnd (sa_rdI 12 this 34) fun v2 =>
sa_bnd (f_X12_isIn (a1.toInt64) 0 ((v2 - 1).toInt64)) fun v3 =>
if ¬ v3 = 0 then
sa_let (0 : Int32) fun x4 =>
sa_wh1 (fun j32 (x5 : Int32) =>
sa_bnd (sa_rdR 12 this 33) fun v6 =>
sa_bnd (sa_ldI .int v6 a1) fun v7 =>
sa_jn0 (sa_ret (x5 : Int32)) fun j87 =>
if v7 ≤ x5 then
j87
else
sa_bnd (sa_rdR 12 this 35) fun v8 =>
sa_bnd (f_X12_canStep this v8 (3 * ((16 * a1) + x5))) fun v9 =>
if v9 = 0 then
j87
else
sa_bnd (f_X12_remember this) fun _ =>
sa_bnd (sa_rdR 12 this 35) fun v10 =>
sa_bnd (f_X12_does this v10 (3 * ((16 * a1) + x5))) fun _ =>
sa_let ((x5 + 1) : Int32) fun x11 =>
j32 x11) sa_F x4
else
j28)
set_option maxHeartbeats 1000000 in
set_option maxRecDepth 10000 in
theorem b_X12_perform {p : Program} {l : Launch} {e : Env} {s : State} {m : MethodId} {args : Array Value} {below : List Frame} {meth : Method} {c : Code} {D : va_G} {ad : Nat → Nat} {cA : FieldType → ClassId} {A : Nat → Prop} (this : Nat) (a1 : Int32) (C : sa_C p s m args meth c cX12_perform RX12 "perform" 3 (some .int) D ad cA A) : sa_Sg p l e s m args below meth c 3 135 D ad cA A sa_eI 0 [(0, .ref (ad this)), (1, .int a1)] [] (f_X12_perform this a1) := by
  unfold f_X12_perform
  refine sa_gdI ?_
  refine sa_aload_n C d_X12_perform_0 rfl 0 rfl ?_
  refine sa_iconst (v := 0) C d_X12_perform_1 (by decide) ?_
  refine sa_putI C fd_X12_127 d_X12_perform_2 ?_
  refine sa_aload_n C d_X12_perform_5 rfl 0 rfl ?_
  refine sa_getI C fd_X12_331 d_X12_perform_6 (fun v1 => ?_)
  refine sa_join0 28 ([]) ([]) (?_) (fun j28 hj28 => ?_)
  · refine sa_iconst (v := (-1)) C d_X12_perform_28 (by decide) ?_
    exact sa_iret C d_X12_perform_29
  refine sa_if_eq (tgt := 28) C d_X12_perform_9 (by decide) ?_ ?_
  · exact sa_sub [] rfl (hj28)
  refine sa_iload_n C d_X12_perform_12 rfl 1 rfl ?_
  refine sa_i2l C d_X12_perform_13 ?_
  refine sa_lconst (v := 0) C d_X12_perform_14 (by decide) ?_
  refine sa_aload_n C d_X12_perform_15 rfl 0 rfl ?_
  refine sa_getI C fd_X12_326 d_X12_perform_16 (fun v2 => ?_)
  refine sa_iconst (v := 1) C d_X12_perform_19 (by decide) ?_
  refine sa_isub C d_X12_perform_20 ?_
  refine sa_i2l C d_X12_perform_21 ?_
  refine sa_invS C (k_X12_isIn (a1.toInt64) 0 ((v2 - 1).toInt64)) q1637 ds_X12_isIn q128 q1636 q1635 rfl rfl rfl (Nat.le_of_ble_eq_true rfl) (by decide) (by decide) d_X12_perform_22 (fun v3 => ?_)
  refine sa_if_ne (tgt := 30) C d_X12_perform_25 (by decide) ?_ ?_
  · refine sa_iconst (v := 0) C d_X12_perform_30 (by decide) ?_
    refine sa_topi (fun x4 => ?_)
    refine sa_istore_n (lv' := [(2, .int x4), (0, .ref (ad this)), (1, .int a1)]) C d_X12_perform_31 rfl (by decide) rfl ?_
    refine sa_sub [1, 2, 0] rfl (sa_loop1 (fun x5 => [(0, .ref (ad this)), (1, .int a1), (2, .int x5)]) (fun x5 => []) (fun j32 hj32 x5 => ?_) _ _)
    refine sa_iload_n C d_X12_perform_32 rfl 2 rfl ?_
    refine sa_aload_n C d_X12_perform_33 rfl 0 rfl ?_
    refine sa_getR C fd_X12_61 rfl d_X12_perform_34 (fun v6 => ?_)
    refine sa_iload_n C d_X12_perform_37 rfl 1 rfl ?_
    refine sa_iald C d_X12_perform_38 (fun v7 => ?_)
    refine sa_join0 87 ([(2, .int x5)]) ([]) (?_) (fun j87 hj87 => ?_)
    · refine sa_iload_n C d_X12_perform_87 rfl 0 rfl ?_
      exact sa_iret C d_X12_perform_88
    refine sa_icmp_ge (tgt := 87) C d_X12_perform_39 (by decide) ?_ ?_
    · exact sa_sub [2] rfl (hj87)
    refine sa_aload_n C d_X12_perform_42 rfl 0 rfl ?_
    refine sa_aload_n C d_X12_perform_43 rfl 0 rfl ?_
    refine sa_getR C fd_X12_64 rfl d_X12_perform_44 (fun v8 => ?_)
    refine sa_iconst (v := 3) C d_X12_perform_47 (by decide) ?_
    refine sa_bipush (v := 16) C d_X12_perform_48 (by decide) ?_
    refine sa_iload_n C d_X12_perform_50 rfl 1 rfl ?_
    refine sa_imul C d_X12_perform_51 ?_
    refine sa_iload_n C d_X12_perform_52 rfl 2 rfl ?_
    refine sa_iadd C d_X12_perform_53 ?_
    refine sa_imul C d_X12_perform_54 ?_
    refine sa_invV (ci := 12) C (k_X12_canStep this v8 (3 * ((16 * a1) + x5))) q1942 ds_X12_canStep q128 rfl q1941 q89 q1939 (gd_X12_canStep this v8 (3 * ((16 * a1) + x5))) rfl rfl rfl (Nat.le_of_ble_eq_true rfl) (by decide) (by decide) d_X12_perform_55 (fun v9 => ?_)
    refine sa_if_eq (tgt := 87) C d_X12_perform_58 (by decide) ?_ ?_
    · exact sa_sub [2] rfl (hj87)
    refine sa_aload_n C d_X12_perform_61 rfl 0 rfl ?_
    refine sa_invV (ci := 12) C (k_X12_remember this) q1843 ds_X12_remember q128 rfl q1842 q75 q1840 (gd_X12_remember this) rfl rfl rfl (Nat.le_of_ble_eq_true rfl) (by decide) (by decide) d_X12_perform_62 (fun _ => ?_)
    refine sa_aload_n C d_X12_perform_65 rfl 0 rfl ?_
    refine sa_aload_n C d_X12_perform_66 rfl 0 rfl ?_
    refine sa_getR C fd_X12_64 rfl d_X12_perform_67 (fun v10 => ?_)
    refine sa_iconst (v := 3) C d_X12_perform_70 (by decide) ?_
    refine sa_bipush (v := 16) C d_X12_perform_71 (by decide) ?_
    refine sa_iload_n C d_X12_perform_73 rfl 1 rfl ?_
    refine sa_imul C d_X12_perform_74 ?_
    refine sa_iload_n C d_X12_perform_75 rfl 2 rfl ?_
    refine sa_iadd C d_X12_perform_76 ?_
    refine sa_imul C d_X12_perform_77 ?_
    refine sa_invV (ci := 12) C (k_X12_does this v10 (3 * ((16 * a1) + x5))) q1946 ds_X12_does q128 rfl q1945 q90 q1943 (gd_X12_does this v10 (3 * ((16 * a1) + x5))) rfl rfl rfl (Nat.le_of_ble_eq_true rfl) (by decide) (by decide) d_X12_perform_78 (fun _ => ?_)
    refine sa_iinc C (fun zz => [(2, .int zz), (0, .ref (ad this)), (1, .int a1)]) d_X12_perform_81 2 rfl rfl (by decide) (fun _ => rfl) (fun x11 => ?_)
    refine sa_goto (tgt := 32) C d_X12_perform_84 (by decide) ?_
    exact sa_sub [1, 2, 0] rfl (hj32 _)
  exact sa_sub [] rfl (hj28)
theorem k_X12_perform (this : Nat) (a1 : Int32) : sa_Met 135 yX12_perform cX12_perform 3 (some .int) (fun ad => [.ref (ad this), .int a1]) sa_eI (f_X12_perform this a1) := sa_mk (by decide) (fun ad => Nat.le_of_ble_eq_true rfl) (fun p l e s m args below meth c D ad cA A C => b_X12_perform this a1 C)
theorem gd_X12_perform (this : Nat) (a1 : Int32) (σ : sa_St) (r : Int32) (τ : sa_St) (h : f_X12_perform this a1 σ = some (r, τ)) : sa_sh this = some (.inl 12) := sa_gd_ok h
theorem d_X12_sky_0 : decode cX12_sky 0 = .ok (.aload_n 0, 1) := by decide +kernel
theorem d_X12_sky_1 : decode cX12_sky 1 = .ok (.iconst 0, 1) := by decide +kernel
theorem d_X12_sky_2 : decode cX12_sky 2 = .ok (.putfield 127, 3) := by decide +kernel
theorem d_X12_sky_5 : decode cX12_sky 5 = .ok (.aload_n 0, 1) := by decide +kernel
theorem d_X12_sky_6 : decode cX12_sky 6 = .ok (.iload_n 1, 1) := by decide +kernel
theorem d_X12_sky_7 : decode cX12_sky 7 = .ok (.invokevirtual 372, 3) := by decide +kernel
theorem d_X12_sky_10 : decode cX12_sky 10 = .ok (.ifCond .eq 24, 3) := by decide +kernel
theorem d_X12_sky_13 : decode cX12_sky 13 = .ok (.iload_n 2, 1) := by decide +kernel
theorem d_X12_sky_14 : decode cX12_sky 14 = .ok (.i2l, 1) := by decide +kernel
theorem d_X12_sky_15 : decode cX12_sky 15 = .ok (.lconst 1, 1) := by decide +kernel
theorem d_X12_sky_16 : decode cX12_sky 16 = .ok (.ldc2_w 469, 3) := by decide +kernel
theorem d_X12_sky_19 : decode cX12_sky 19 = .ok (.invokestatic 248, 3) := by decide +kernel
theorem d_X12_sky_22 : decode cX12_sky 22 = .ok (.ifCond .eq 12, 3) := by decide +kernel
theorem d_X12_sky_25 : decode cX12_sky 25 = .ok (.aload_n 0, 1) := by decide +kernel
theorem d_X12_sky_26 : decode cX12_sky 26 = .ok (.getfield 340, 3) := by decide +kernel
theorem d_X12_sky_29 : decode cX12_sky 29 = .ok (.bipush 16, 2) := by decide +kernel
theorem d_X12_sky_31 : decode cX12_sky 31 = .ok (.if_icmp .ne 5, 3) := by decide +kernel
theorem d_X12_sky_34 : decode cX12_sky 34 = .ok (.iconst (-1), 1) := by decide +kernel
theorem d_X12_sky_35 : decode cX12_sky 35 = .ok (.ireturn, 1) := by decide +kernel
theorem d_X12_sky_36 : decode cX12_sky 36 = .ok (.aload_n 0, 1) := by decide +kernel
theorem d_X12_sky_37 : decode cX12_sky 37 = .ok (.getfield 84, 3) := by decide +kernel
theorem d_X12_sky_40 : decode cX12_sky 40 = .ok (.aload_n 0, 1) := by decide +kernel
theorem d_X12_sky_41 : decode cX12_sky 41 = .ok (.getfield 340, 3) := by decide +kernel
theorem d_X12_sky_44 : decode cX12_sky 44 = .ok (.iload_n 1, 1) := by decide +kernel
theorem d_X12_sky_45 : decode cX12_sky 45 = .ok (.iastore, 1) := by decide +kernel
theorem d_X12_sky_46 : decode cX12_sky 46 = .ok (.aload_n 0, 1) := by decide +kernel
theorem d_X12_sky_47 : decode cX12_sky 47 = .ok (.getfield 87, 3) := by decide +kernel
theorem d_X12_sky_50 : decode cX12_sky 50 = .ok (.aload_n 0, 1) := by decide +kernel
theorem d_X12_sky_51 : decode cX12_sky 51 = .ok (.getfield 340, 3) := by decide +kernel
theorem d_X12_sky_54 : decode cX12_sky 54 = .ok (.iload_n 2, 1) := by decide +kernel
theorem d_X12_sky_55 : decode cX12_sky 55 = .ok (.iastore, 1) := by decide +kernel
theorem d_X12_sky_56 : decode cX12_sky 56 = .ok (.aload_n 0, 1) := by decide +kernel
theorem d_X12_sky_57 : decode cX12_sky 57 = .ok (.getfield 90, 3) := by decide +kernel
theorem d_X12_sky_60 : decode cX12_sky 60 = .ok (.aload_n 0, 1) := by decide +kernel
theorem d_X12_sky_61 : decode cX12_sky 61 = .ok (.getfield 340, 3) := by decide +kernel
theorem d_X12_sky_64 : decode cX12_sky 64 = .ok (.iload_n 3, 1) := by decide +kernel
theorem d_X12_sky_65 : decode cX12_sky 65 = .ok (.bastore, 1) := by decide +kernel
theorem d_X12_sky_66 : decode cX12_sky 66 = .ok (.aload_n 0, 1) := by decide +kernel
theorem d_X12_sky_67 : decode cX12_sky 67 = .ok (.dup, 1) := by decide +kernel
theorem d_X12_sky_68 : decode cX12_sky 68 = .ok (.getfield 340, 3) := by decide +kernel
theorem d_X12_sky_71 : decode cX12_sky 71 = .ok (.iconst 1, 1) := by decide +kernel
theorem d_X12_sky_72 : decode cX12_sky 72 = .ok (.iadd, 1) := by decide +kernel
theorem d_X12_sky_73 : decode cX12_sky 73 = .ok (.putfield 340, 3) := by decide +kernel
theorem d_X12_sky_76 : decode cX12_sky 76 = .ok (.aload_n 0, 1) := by decide +kernel
theorem d_X12_sky_77 : decode cX12_sky 77 = .ok (.getfield 340, 3) := by decide +kernel
theorem d_X12_sky_80 : decode cX12_sky 80 = .ok (.ireturn, 1) := by decide +kernel
def f_X12_sky (this : Nat) (a1 : Int32) (a2 : Int32) (a3 : Int32) : sa_M Int32 :=
sa_gd 12 this (
sa_bnd (sa_wrI 12 this 0 0) fun _ =>
sa_bnd (f_X12_isPlace this a1) fun v1 =>
sa_jn0 (sa_ret ((-1) : Int32)) fun j34 =>
if v1 = 0 then
j34
else
sa_bnd (f_X12_isIn (a2.toInt64) 1 24) fun v2 =>
if v2 = 0 then
j34
else
sa_bnd (sa_rdI 12 this 48) fun v3 =>
if ¬ v3 = 16 then
sa_bnd (sa_rdR 12 this 45) fun v4 =>
sa_bnd (sa_rdI 12 this 48) fun v5 =>
sa_bnd (sa_stI v4 v5 a1) fun _ =>
sa_bnd (sa_rdR 12 this 46) fun v6 =>
sa_bnd (sa_rdI 12 this 48) fun v7 =>
sa_bnd (sa_stI v6 v7 a2) fun _ =>
sa_bnd (sa_rdR 12 this 47) fun v8 =>
sa_bnd (sa_rdI 12 this 48) fun v9 =>
sa_bnd (sa_stZ v8 v9 a3) fun _ =>
sa_bnd (sa_rdI 12 this 48) fun v10 =>
sa_bnd (sa_wrI 12 this 48 (v10 + 1)) fun _ =>
sa_bnd (sa_rdI 12 this 48) fun v11 =>
sa_ret (v11 : Int32)
else
j34)
set_option maxHeartbeats 1000000 in
set_option maxRecDepth 10000 in
theorem b_X12_sky {p : Program} {l : Launch} {e : Env} {s : State} {m : MethodId} {args : Array Value} {below : List Frame} {meth : Method} {c : Code} {D : va_G} {ad : Nat → Nat} {cA : FieldType → ClassId} {A : Nat → Prop} (this : Nat) (a1 : Int32) (a2 : Int32) (a3 : Int32) (C : sa_C p s m args meth c cX12_sky RX12 "sky" 4 (some .int) D ad cA A) : sa_Sg p l e s m args below meth c 4 2 D ad cA A sa_eI 0 [(0, .ref (ad this)), (1, .int a1), (2, .int a2), (3, .int a3)] [] (f_X12_sky this a1 a2 a3) := by
  unfold f_X12_sky
  refine sa_gdI ?_
  refine sa_aload_n C d_X12_sky_0 rfl 0 rfl ?_
  refine sa_iconst (v := 0) C d_X12_sky_1 (by decide) ?_
  refine sa_putI C fd_X12_127 d_X12_sky_2 ?_
  refine sa_aload_n C d_X12_sky_5 rfl 0 rfl ?_
  refine sa_iload_n C d_X12_sky_6 rfl 1 rfl ?_
  refine sa_invV (ci := 12) C (k_X12_isPlace this a1) q1785 ds_X12_isPlace q128 rfl q1784 q70 q1782 (gd_X12_isPlace this a1) rfl rfl rfl (Nat.le_of_ble_eq_true rfl) (by decide) (by decide) d_X12_sky_7 (fun v1 => ?_)
  refine sa_join0 34 ([]) ([]) (?_) (fun j34 hj34 => ?_)
  · refine sa_iconst (v := (-1)) C d_X12_sky_34 (by decide) ?_
    exact sa_iret C d_X12_sky_35
  refine sa_if_eq (tgt := 34) C d_X12_sky_10 (by decide) ?_ ?_
  · exact sa_sub [] rfl (hj34)
  refine sa_iload_n C d_X12_sky_13 rfl 2 rfl ?_
  refine sa_i2l C d_X12_sky_14 ?_
  refine sa_lconst (v := 1) C d_X12_sky_15 (by decide) ?_
  refine sa_ldc2 (v := 24) C d_X12_sky_16 q1958 ?_
  refine sa_invS C (k_X12_isIn (a2.toInt64) 1 24) q1637 ds_X12_isIn q128 q1636 q1635 rfl rfl rfl (Nat.le_of_ble_eq_true rfl) (by decide) (by decide) d_X12_sky_19 (fun v2 => ?_)
  refine sa_if_eq (tgt := 34) C d_X12_sky_22 (by decide) ?_ ?_
  · exact sa_sub [] rfl (hj34)
  refine sa_aload_n C d_X12_sky_25 rfl 0 rfl ?_
  refine sa_getI C fd_X12_340 d_X12_sky_26 (fun v3 => ?_)
  refine sa_bipush (v := 16) C d_X12_sky_29 (by decide) ?_
  refine sa_icmp_ne (tgt := 36) C d_X12_sky_31 (by decide) ?_ ?_
  · refine sa_aload_n C d_X12_sky_36 rfl 0 rfl ?_
    refine sa_getR C fd_X12_84 rfl d_X12_sky_37 (fun v4 => ?_)
    refine sa_aload_n C d_X12_sky_40 rfl 0 rfl ?_
    refine sa_getI C fd_X12_340 d_X12_sky_41 (fun v5 => ?_)
    refine sa_iload_n C d_X12_sky_44 rfl 1 rfl ?_
    refine sa_iast C d_X12_sky_45 ?_
    refine sa_aload_n C d_X12_sky_46 rfl 0 rfl ?_
    refine sa_getR C fd_X12_87 rfl d_X12_sky_47 (fun v6 => ?_)
    refine sa_aload_n C d_X12_sky_50 rfl 0 rfl ?_
    refine sa_getI C fd_X12_340 d_X12_sky_51 (fun v7 => ?_)
    refine sa_iload_n C d_X12_sky_54 rfl 2 rfl ?_
    refine sa_iast C d_X12_sky_55 ?_
    refine sa_aload_n C d_X12_sky_56 rfl 0 rfl ?_
    refine sa_getR C fd_X12_90 rfl d_X12_sky_57 (fun v8 => ?_)
    refine sa_aload_n C d_X12_sky_60 rfl 0 rfl ?_
    refine sa_getI C fd_X12_340 d_X12_sky_61 (fun v9 => ?_)
    refine sa_iload_n C d_X12_sky_64 rfl 3 rfl ?_
    refine sa_zast C d_X12_sky_65 ?_
    refine sa_aload_n C d_X12_sky_66 rfl 0 rfl ?_
    refine sa_dup C d_X12_sky_67 rfl ?_
    refine sa_getI C fd_X12_340 d_X12_sky_68 (fun v10 => ?_)
    refine sa_iconst (v := 1) C d_X12_sky_71 (by decide) ?_
    refine sa_iadd C d_X12_sky_72 ?_
    refine sa_putI C fd_X12_340 d_X12_sky_73 ?_
    refine sa_aload_n C d_X12_sky_76 rfl 0 rfl ?_
    refine sa_getI C fd_X12_340 d_X12_sky_77 (fun v11 => ?_)
    exact sa_iret C d_X12_sky_80
  exact sa_sub [] rfl (hj34)
theorem k_X12_sky (this : Nat) (a1 : Int32) (a2 : Int32) (a3 : Int32) : sa_Met 2 yX12_sky cX12_sky 4 (some .int) (fun ad => [.ref (ad this), .int a1, .int a2, .int a3]) sa_eI (f_X12_sky this a1 a2 a3) := sa_mk (by decide) (fun ad => Nat.le_of_ble_eq_true rfl) (fun p l e s m args below meth c D ad cA A C => b_X12_sky this a1 a2 a3 C)
theorem gd_X12_sky (this : Nat) (a1 : Int32) (a2 : Int32) (a3 : Int32) (σ : sa_St) (r : Int32) (τ : sa_St) (h : f_X12_sky this a1 a2 a3 σ = some (r, τ)) : sa_sh this = some (.inl 12) := sa_gd_ok h
theorem d_X12_chanceAt_0 : decode cX12_chanceAt 0 = .ok (.aload_n 0, 1) := by decide +kernel
theorem d_X12_chanceAt_1 : decode cX12_chanceAt 1 = .ok (.getfield 340, 3) := by decide +kernel
theorem d_X12_chanceAt_4 : decode cX12_chanceAt 4 = .ok (.iconst 1, 1) := by decide +kernel
theorem d_X12_chanceAt_5 : decode cX12_chanceAt 5 = .ok (.isub, 1) := by decide +kernel
theorem d_X12_chanceAt_6 : decode cX12_chanceAt 6 = .ok (.istore_n 3, 1) := by decide +kernel
theorem d_X12_chanceAt_7 : decode cX12_chanceAt 7 = .ok (.iload_n 3, 1) := by decide +kernel
theorem d_X12_chanceAt_8 : decode cX12_chanceAt 8 = .ok (.ifCond .lt 45, 3) := by decide +kernel
theorem d_X12_chanceAt_11 : decode cX12_chanceAt 11 = .ok (.aload_n 0, 1) := by decide +kernel
theorem d_X12_chanceAt_12 : decode cX12_chanceAt 12 = .ok (.getfield 84, 3) := by decide +kernel
theorem d_X12_chanceAt_15 : decode cX12_chanceAt 15 = .ok (.iload_n 3, 1) := by decide +kernel
theorem d_X12_chanceAt_16 : decode cX12_chanceAt 16 = .ok (.iaload, 1) := by decide +kernel
theorem d_X12_chanceAt_17 : decode cX12_chanceAt 17 = .ok (.iload_n 1, 1) := by decide +kernel
theorem d_X12_chanceAt_18 : decode cX12_chanceAt 18 = .ok (.if_icmp .ne 29, 3) := by decide +kernel
theorem d_X12_chanceAt_21 : decode cX12_chanceAt 21 = .ok (.aload_n 0, 1) := by decide +kernel
theorem d_X12_chanceAt_22 : decode cX12_chanceAt 22 = .ok (.getfield 87, 3) := by decide +kernel
theorem d_X12_chanceAt_25 : decode cX12_chanceAt 25 = .ok (.iload_n 3, 1) := by decide +kernel
theorem d_X12_chanceAt_26 : decode cX12_chanceAt 26 = .ok (.iaload, 1) := by decide +kernel
theorem d_X12_chanceAt_27 : decode cX12_chanceAt 27 = .ok (.iload_n 2, 1) := by decide +kernel
theorem d_X12_chanceAt_28 : decode cX12_chanceAt 28 = .ok (.if_icmp .ne 19, 3) := by decide +kernel
theorem d_X12_chanceAt_31 : decode cX12_chanceAt 31 = .ok (.aload_n 0, 1) := by decide +kernel
theorem d_X12_chanceAt_32 : decode cX12_chanceAt 32 = .ok (.getfield 90, 3) := by decide +kernel
theorem d_X12_chanceAt_35 : decode cX12_chanceAt 35 = .ok (.iload_n 3, 1) := by decide +kernel
theorem d_X12_chanceAt_36 : decode cX12_chanceAt 36 = .ok (.baload, 1) := by decide +kernel
theorem d_X12_chanceAt_37 : decode cX12_chanceAt 37 = .ok (.ifCond .eq 8, 3) := by decide +kernel
theorem d_X12_chanceAt_40 : decode cX12_chanceAt 40 = .ok (.bipush 100, 2) := by decide +kernel
theorem d_X12_chanceAt_42 : decode cX12_chanceAt 42 = .ok (.goto 4, 3) := by decide +kernel
theorem d_X12_chanceAt_45 : decode cX12_chanceAt 45 = .ok (.iconst 0, 1) := by decide +kernel
theorem d_X12_chanceAt_46 : decode cX12_chanceAt 46 = .ok (.ireturn, 1) := by decide +kernel
theorem d_X12_chanceAt_47 : decode cX12_chanceAt 47 = .ok (.iinc 3 (-1), 3) := by decide +kernel
theorem d_X12_chanceAt_50 : decode cX12_chanceAt 50 = .ok (.goto (-43), 3) := by decide +kernel
theorem d_X12_chanceAt_53 : decode cX12_chanceAt 53 = .ok (.aload_n 0, 1) := by decide +kernel
theorem d_X12_chanceAt_54 : decode cX12_chanceAt 54 = .ok (.getfield 37, 3) := by decide +kernel
theorem d_X12_chanceAt_57 : decode cX12_chanceAt 57 = .ok (.iconst 4, 1) := by decide +kernel
theorem d_X12_chanceAt_58 : decode cX12_chanceAt 58 = .ok (.iload_n 1, 1) := by decide +kernel
theorem d_X12_chanceAt_59 : decode cX12_chanceAt 59 = .ok (.imul, 1) := by decide +kernel
theorem d_X12_chanceAt_60 : decode cX12_chanceAt 60 = .ok (.iconst 2, 1) := by decide +kernel
theorem d_X12_chanceAt_61 : decode cX12_chanceAt 61 = .ok (.iadd, 1) := by decide +kernel
theorem d_X12_chanceAt_62 : decode cX12_chanceAt 62 = .ok (.iaload, 1) := by decide +kernel
theorem d_X12_chanceAt_63 : decode cX12_chanceAt 63 = .ok (.ireturn, 1) := by decide +kernel
def f_X12_chanceAt (this : Nat) (a1 : Int32) (a2 : Int32) : sa_M Int32 :=
sa_gd 12 this (
sa_bnd (sa_rdI 12 this 48) fun v1 =>
sa_let ((v1 - 1) : Int32) fun x2 =>
sa_wh1 (fun j7 (x3 : Int32) =>
if x3 < 0 then
sa_bnd (sa_rdR 12 this 18) fun v4 =>
sa_bnd (sa_ldI .int v4 ((4 * a1) + 2)) fun v5 =>
sa_ret (v5 : Int32)
else
sa_bnd (sa_rdR 12 this 45) fun v6 =>
sa_bnd (sa_ldI .int v6 x3) fun v7 =>
sa_jn0 (sa_let ((x3 + (-1)) : Int32) fun x8 =>
j7 x8) fun j47 =>
if ¬ v7 = a1 then
j47
else
sa_bnd (sa_rdR 12 this 46) fun v9 =>
sa_bnd (sa_ldI .int v9 x3) fun v10 =>
if ¬ v10 = a2 then
j47
else
sa_bnd (sa_rdR 12 this 47) fun v11 =>
sa_bnd (sa_ldI .boolean v11 x3) fun v12 =>
sa_jn1 (fun (y13 : Int32) =>
sa_ret (y13 : Int32)) fun j46 =>
if v12 = 0 then
j46 0
else
j46 100) sa_F x2)
set_option maxHeartbeats 1000000 in
set_option maxRecDepth 10000 in
theorem b_X12_chanceAt {p : Program} {l : Launch} {e : Env} {s : State} {m : MethodId} {args : Array Value} {below : List Frame} {meth : Method} {c : Code} {D : va_G} {ad : Nat → Nat} {cA : FieldType → ClassId} {A : Nat → Prop} (this : Nat) (a1 : Int32) (a2 : Int32) (C : sa_C p s m args meth c cX12_chanceAt RX12 "chanceAt" 4 (some .int) D ad cA A) : sa_Sg p l e s m args below meth c 4 1 D ad cA A sa_eI 0 [(0, .ref (ad this)), (1, .int a1), (2, .int a2)] [] (f_X12_chanceAt this a1 a2) := by
  unfold f_X12_chanceAt
  refine sa_gdI ?_
  refine sa_aload_n C d_X12_chanceAt_0 rfl 0 rfl ?_
  refine sa_getI C fd_X12_340 d_X12_chanceAt_1 (fun v1 => ?_)
  refine sa_iconst (v := 1) C d_X12_chanceAt_4 (by decide) ?_
  refine sa_isub C d_X12_chanceAt_5 ?_
  refine sa_topi (fun x2 => ?_)
  refine sa_istore_n (lv' := [(3, .int x2), (0, .ref (ad this)), (1, .int a1), (2, .int a2)]) C d_X12_chanceAt_6 rfl (by decide) rfl ?_
  refine sa_sub [1, 2, 3, 0] rfl (sa_loop1 (fun x3 => [(0, .ref (ad this)), (1, .int a1), (2, .int a2), (3, .int x3)]) (fun x3 => []) (fun j7 hj7 x3 => ?_) _ _)
  refine sa_iload_n C d_X12_chanceAt_7 rfl 3 rfl ?_
  refine sa_if_lt (tgt := 53) C d_X12_chanceAt_8 (by decide) ?_ ?_
  · refine sa_aload_n C d_X12_chanceAt_53 rfl 0 rfl ?_
    refine sa_getR C fd_X12_37 rfl d_X12_chanceAt_54 (fun v4 => ?_)
    refine sa_iconst (v := 4) C d_X12_chanceAt_57 (by decide) ?_
    refine sa_iload_n C d_X12_chanceAt_58 rfl 1 rfl ?_
    refine sa_imul C d_X12_chanceAt_59 ?_
    refine sa_iconst (v := 2) C d_X12_chanceAt_60 (by decide) ?_
    refine sa_iadd C d_X12_chanceAt_61 ?_
    refine sa_iald C d_X12_chanceAt_62 (fun v5 => ?_)
    exact sa_iret C d_X12_chanceAt_63
  refine sa_aload_n C d_X12_chanceAt_11 rfl 0 rfl ?_
  refine sa_getR C fd_X12_84 rfl d_X12_chanceAt_12 (fun v6 => ?_)
  refine sa_iload_n C d_X12_chanceAt_15 rfl 3 rfl ?_
  refine sa_iald C d_X12_chanceAt_16 (fun v7 => ?_)
  refine sa_iload_n C d_X12_chanceAt_17 rfl 1 rfl ?_
  refine sa_join0 47 ([(0, .ref (ad this)), (1, .int a1), (2, .int a2), (3, .int x3)]) ([]) (?_) (fun j47 hj47 => ?_)
  · refine sa_iinc C (fun zz => [(3, .int zz), (0, .ref (ad this)), (1, .int a1), (2, .int a2)]) d_X12_chanceAt_47 3 rfl rfl (by decide) (fun _ => rfl) (fun x8 => ?_)
    refine sa_goto (tgt := 7) C d_X12_chanceAt_50 (by decide) ?_
    exact sa_sub [1, 2, 3, 0] rfl (hj7 _)
  refine sa_icmp_ne (tgt := 47) C d_X12_chanceAt_18 (by decide) ?_ ?_
  · exact sa_sub [0, 1, 2, 3] rfl (hj47)
  refine sa_aload_n C d_X12_chanceAt_21 rfl 0 rfl ?_
  refine sa_getR C fd_X12_87 rfl d_X12_chanceAt_22 (fun v9 => ?_)
  refine sa_iload_n C d_X12_chanceAt_25 rfl 3 rfl ?_
  refine sa_iald C d_X12_chanceAt_26 (fun v10 => ?_)
  refine sa_iload_n C d_X12_chanceAt_27 rfl 2 rfl ?_
  refine sa_icmp_ne (tgt := 47) C d_X12_chanceAt_28 (by decide) ?_ ?_
  · exact sa_sub [0, 1, 2, 3] rfl (hj47)
  refine sa_aload_n C d_X12_chanceAt_31 rfl 0 rfl ?_
  refine sa_getR C fd_X12_90 rfl d_X12_chanceAt_32 (fun v11 => ?_)
  refine sa_iload_n C d_X12_chanceAt_35 rfl 3 rfl ?_
  refine sa_zald C d_X12_chanceAt_36 (fun v12 => ?_)
  refine sa_join1 46 (fun y13 => []) (fun y13 => [.int y13]) (fun y13 => ?_) (fun j46 hj46 => ?_)
  · exact sa_iret C d_X12_chanceAt_46
  refine sa_if_eq (tgt := 45) C d_X12_chanceAt_37 (by decide) ?_ ?_
  · refine sa_iconst (v := 0) C d_X12_chanceAt_45 (by decide) ?_
    exact sa_sub [] rfl (hj46 _)
  refine sa_bipush (v := 100) C d_X12_chanceAt_40 (by decide) ?_
  refine sa_goto (tgt := 46) C d_X12_chanceAt_42 (by decide) ?_
  exact sa_sub [] rfl (hj46 _)
theorem k_X12_chanceAt (this : Nat) (a1 : Int32) (a2 : Int32) : sa_Met 1 yX12_chanceAt cX12_chanceAt 4 (some .int) (fun ad => [.ref (ad this), .int a1, .int a2]) sa_eI (f_X12_chanceAt this a1 a2) := sa_mk (by decide) (fun ad => Nat.le_of_ble_eq_true rfl) (fun p l e s m args below meth c D ad cA A C => b_X12_chanceAt this a1 a2 C)
theorem gd_X12_chanceAt (this : Nat) (a1 : Int32) (a2 : Int32) (σ : sa_St) (r : Int32) (τ : sa_St) (h : f_X12_chanceAt this a1 a2 σ = some (r, τ)) : sa_sh this = some (.inl 12) := sa_gd_ok h
theorem d_X12_beginsParts_0 : decode cX12_beginsParts 0 = .ok (.iconst 0, 1) := by decide +kernel
theorem d_X12_beginsParts_1 : decode cX12_beginsParts 1 = .ok (.istore_n 2, 1) := by decide +kernel
theorem d_X12_beginsParts_2 : decode cX12_beginsParts 2 = .ok (.iload_n 2, 1) := by decide +kernel
theorem d_X12_beginsParts_3 : decode cX12_beginsParts 3 = .ok (.bipush 99, 2) := by decide +kernel
theorem d_X12_beginsParts_5 : decode cX12_beginsParts 5 = .ok (.if_icmp .gt 16, 3) := by decide +kernel
theorem d_X12_beginsParts_8 : decode cX12_beginsParts 8 = .ok (.aload_n 0, 1) := by decide +kernel
theorem d_X12_beginsParts_9 : decode cX12_beginsParts 9 = .ok (.getfield 94, 3) := by decide +kernel
theorem d_X12_beginsParts_12 : decode cX12_beginsParts 12 = .ok (.iload_n 2, 1) := by decide +kernel
theorem d_X12_beginsParts_13 : decode cX12_beginsParts 13 = .ok (.lconst 0, 1) := by decide +kernel
theorem d_X12_beginsParts_14 : decode cX12_beginsParts 14 = .ok (.lastore, 1) := by decide +kernel
theorem d_X12_beginsParts_15 : decode cX12_beginsParts 15 = .ok (.iinc 2 1, 3) := by decide +kernel
theorem d_X12_beginsParts_18 : decode cX12_beginsParts 18 = .ok (.goto (-16), 3) := by decide +kernel
theorem d_X12_beginsParts_21 : decode cX12_beginsParts 21 = .ok (.aload_n 0, 1) := by decide +kernel
theorem d_X12_beginsParts_22 : decode cX12_beginsParts 22 = .ok (.getfield 94, 3) := by decide +kernel
theorem d_X12_beginsParts_25 : decode cX12_beginsParts 25 = .ok (.aload_n 0, 1) := by decide +kernel
theorem d_X12_beginsParts_26 : decode cX12_beginsParts 26 = .ok (.getfield 64, 3) := by decide +kernel
theorem d_X12_beginsParts_29 : decode cX12_beginsParts 29 = .ok (.bipush 7, 2) := by decide +kernel
theorem d_X12_beginsParts_31 : decode cX12_beginsParts 31 = .ok (.iload_n 1, 1) := by decide +kernel
theorem d_X12_beginsParts_32 : decode cX12_beginsParts 32 = .ok (.imul, 1) := by decide +kernel
theorem d_X12_beginsParts_33 : decode cX12_beginsParts 33 = .ok (.iconst 2, 1) := by decide +kernel
theorem d_X12_beginsParts_34 : decode cX12_beginsParts 34 = .ok (.iadd, 1) := by decide +kernel
theorem d_X12_beginsParts_35 : decode cX12_beginsParts 35 = .ok (.iaload, 1) := by decide +kernel
theorem d_X12_beginsParts_36 : decode cX12_beginsParts 36 = .ok (.ldc2_w 471, 3) := by decide +kernel
theorem d_X12_beginsParts_39 : decode cX12_beginsParts 39 = .ok (.lastore, 1) := by decide +kernel
theorem d_X12_beginsParts_40 : decode cX12_beginsParts 40 = .ok (.aload_n 0, 1) := by decide +kernel
theorem d_X12_beginsParts_41 : decode cX12_beginsParts 41 = .ok (.iload_n 1, 1) := by decide +kernel
theorem d_X12_beginsParts_42 : decode cX12_beginsParts 42 = .ok (.putfield 473, 3) := by decide +kernel
theorem d_X12_beginsParts_45 : decode cX12_beginsParts 45 = .ok (.aload_n 0, 1) := by decide +kernel
theorem d_X12_beginsParts_46 : decode cX12_beginsParts 46 = .ok (.iconst 0, 1) := by decide +kernel
theorem d_X12_beginsParts_47 : decode cX12_beginsParts 47 = .ok (.putfield 476, 3) := by decide +kernel
theorem d_X12_beginsParts_50 : decode cX12_beginsParts 50 = .ok (.return_, 1) := by decide +kernel
def f_X12_beginsParts (this : Nat) (a1 : Int32) : sa_M Unit :=
sa_gd 12 this (
sa_let (0 : Int32) fun x1 =>
sa_wh1 (fun j2 (x2 : Int32) =>
if 99 < x2 then
sa_bnd (sa_rdR 12 this 49) fun v3 =>
sa_bnd (sa_rdR 12 this 35) fun v4 =>
sa_bnd (sa_ldI .int v4 ((7 * a1) + 2)) fun v5 =>
sa_bnd (sa_stL v3 v5 1000000000) fun _ =>
sa_bnd (sa_wrI 12 this 60 a1) fun _ =>
sa_bnd (sa_wrI 12 this 61 0) fun _ =>
sa_ret ()
else
sa_bnd (sa_rdR 12 this 49) fun v6 =>
sa_bnd (sa_stL v6 x2 0) fun _ =>
sa_let ((x2 + 1) : Int32) fun x7 =>
j2 x7) sa_F x1)
set_option maxHeartbeats 1000000 in
set_option maxRecDepth 10000 in
theorem b_X12_beginsParts {p : Program} {l : Launch} {e : Env} {s : State} {m : MethodId} {args : Array Value} {below : List Frame} {meth : Method} {c : Code} {D : va_G} {ad : Nat → Nat} {cA : FieldType → ClassId} {A : Nat → Prop} (this : Nat) (a1 : Int32) (C : sa_C p s m args meth c cX12_beginsParts RX12 "beginsParts" 3 none D ad cA A) : sa_Sg p l e s m args below meth c 3 1 D ad cA A sa_eV 0 [(0, .ref (ad this)), (1, .int a1)] [] (f_X12_beginsParts this a1) := by
  unfold f_X12_beginsParts
  refine sa_gdI ?_
  refine sa_iconst (v := 0) C d_X12_beginsParts_0 (by decide) ?_
  refine sa_topi (fun x1 => ?_)
  refine sa_istore_n (lv' := [(2, .int x1), (0, .ref (ad this)), (1, .int a1)]) C d_X12_beginsParts_1 rfl (by decide) rfl ?_
  refine sa_sub [1, 2, 0] rfl (sa_loop1 (fun x2 => [(0, .ref (ad this)), (1, .int a1), (2, .int x2)]) (fun x2 => []) (fun j2 hj2 x2 => ?_) _ _)
  refine sa_iload_n C d_X12_beginsParts_2 rfl 2 rfl ?_
  refine sa_bipush (v := 99) C d_X12_beginsParts_3 (by decide) ?_
  refine sa_icmp_gt (tgt := 21) C d_X12_beginsParts_5 (by decide) ?_ ?_
  · refine sa_aload_n C d_X12_beginsParts_21 rfl 0 rfl ?_
    refine sa_getR C fd_X12_94 rfl d_X12_beginsParts_22 (fun v3 => ?_)
    refine sa_aload_n C d_X12_beginsParts_25 rfl 0 rfl ?_
    refine sa_getR C fd_X12_64 rfl d_X12_beginsParts_26 (fun v4 => ?_)
    refine sa_bipush (v := 7) C d_X12_beginsParts_29 (by decide) ?_
    refine sa_iload_n C d_X12_beginsParts_31 rfl 1 rfl ?_
    refine sa_imul C d_X12_beginsParts_32 ?_
    refine sa_iconst (v := 2) C d_X12_beginsParts_33 (by decide) ?_
    refine sa_iadd C d_X12_beginsParts_34 ?_
    refine sa_iald C d_X12_beginsParts_35 (fun v5 => ?_)
    refine sa_ldc2 (v := 1000000000) C d_X12_beginsParts_36 q1987 ?_
    refine sa_last C d_X12_beginsParts_39 ?_
    refine sa_aload_n C d_X12_beginsParts_40 rfl 0 rfl ?_
    refine sa_iload_n C d_X12_beginsParts_41 rfl 1 rfl ?_
    refine sa_putI C fd_X12_473 d_X12_beginsParts_42 ?_
    refine sa_aload_n C d_X12_beginsParts_45 rfl 0 rfl ?_
    refine sa_iconst (v := 0) C d_X12_beginsParts_46 (by decide) ?_
    refine sa_putI C fd_X12_476 d_X12_beginsParts_47 ?_
    exact sa_vret C d_X12_beginsParts_50
  refine sa_aload_n C d_X12_beginsParts_8 rfl 0 rfl ?_
  refine sa_getR C fd_X12_94 rfl d_X12_beginsParts_9 (fun v6 => ?_)
  refine sa_iload_n C d_X12_beginsParts_12 rfl 2 rfl ?_
  refine sa_lconst (v := 0) C d_X12_beginsParts_13 (by decide) ?_
  refine sa_last C d_X12_beginsParts_14 ?_
  refine sa_iinc C (fun zz => [(2, .int zz), (0, .ref (ad this)), (1, .int a1)]) d_X12_beginsParts_15 2 rfl rfl (by decide) (fun _ => rfl) (fun x7 => ?_)
  refine sa_goto (tgt := 2) C d_X12_beginsParts_18 (by decide) ?_
  exact sa_sub [1, 2, 0] rfl (hj2 _)
theorem k_X12_beginsParts (this : Nat) (a1 : Int32) : sa_Met 1 yX12_beginsParts cX12_beginsParts 3 none (fun ad => [.ref (ad this), .int a1]) sa_eV (f_X12_beginsParts this a1) := sa_mk (by decide) (fun ad => Nat.le_of_ble_eq_true rfl) (fun p l e s m args below meth c D ad cA A C => b_X12_beginsParts this a1 C)
theorem gd_X12_beginsParts (this : Nat) (a1 : Int32) (σ : sa_St) (r : Unit) (τ : sa_St) (h : f_X12_beginsParts this a1 σ = some (r, τ)) : sa_sh this = some (.inl 12) := sa_gd_ok h
theorem d_X12_rainsOn_0 : decode cX12_rainsOn 0 = .ok (.aload_n 0, 1) := by decide +kernel
theorem d_X12_rainsOn_1 : decode cX12_rainsOn 1 = .ok (.iload_n 1, 1) := by decide +kernel
theorem d_X12_rainsOn_2 : decode cX12_rainsOn 2 = .ok (.aload_n 0, 1) := by decide +kernel
theorem d_X12_rainsOn_3 : decode cX12_rainsOn 3 = .ok (.getfield 476, 3) := by decide +kernel
theorem d_X12_rainsOn_6 : decode cX12_rainsOn 6 = .ok (.iconst 1, 1) := by decide +kernel
theorem d_X12_rainsOn_7 : decode cX12_rainsOn 7 = .ok (.iadd, 1) := by decide +kernel
theorem d_X12_rainsOn_8 : decode cX12_rainsOn 8 = .ok (.invokevirtual 479, 3) := by decide +kernel
theorem d_X12_rainsOn_11 : decode cX12_rainsOn 11 = .ok (.istore_n 2, 1) := by decide +kernel
theorem d_X12_rainsOn_12 : decode cX12_rainsOn 12 = .ok (.iconst 0, 1) := by decide +kernel
theorem d_X12_rainsOn_13 : decode cX12_rainsOn 13 = .ok (.istore_n 3, 1) := by decide +kernel
theorem d_X12_rainsOn_14 : decode cX12_rainsOn 14 = .ok (.iload_n 3, 1) := by decide +kernel
theorem d_X12_rainsOn_15 : decode cX12_rainsOn 15 = .ok (.bipush 99, 2) := by decide +kernel
theorem d_X12_rainsOn_17 : decode cX12_rainsOn 17 = .ok (.if_icmp .gt 29, 3) := by decide +kernel
theorem d_X12_rainsOn_20 : decode cX12_rainsOn 20 = .ok (.aload_n 0, 1) := by decide +kernel
theorem d_X12_rainsOn_21 : decode cX12_rainsOn 21 = .ok (.getfield 97, 3) := by decide +kernel
theorem d_X12_rainsOn_24 : decode cX12_rainsOn 24 = .ok (.iload_n 3, 1) := by decide +kernel
theorem d_X12_rainsOn_25 : decode cX12_rainsOn 25 = .ok (.iload_n 3, 1) := by decide +kernel
theorem d_X12_rainsOn_26 : decode cX12_rainsOn 26 = .ok (.ifCond .ne 12, 3) := by decide +kernel
theorem d_X12_rainsOn_29 : decode cX12_rainsOn 29 = .ok (.aload_n 0, 1) := by decide +kernel
theorem d_X12_rainsOn_30 : decode cX12_rainsOn 30 = .ok (.getfield 94, 3) := by decide +kernel
theorem d_X12_rainsOn_33 : decode cX12_rainsOn 33 = .ok (.iconst 0, 1) := by decide +kernel
theorem d_X12_rainsOn_34 : decode cX12_rainsOn 34 = .ok (.laload, 1) := by decide +kernel
theorem d_X12_rainsOn_35 : decode cX12_rainsOn 35 = .ok (.goto 4, 3) := by decide +kernel
theorem d_X12_rainsOn_38 : decode cX12_rainsOn 38 = .ok (.lconst 0, 1) := by decide +kernel
theorem d_X12_rainsOn_39 : decode cX12_rainsOn 39 = .ok (.lastore, 1) := by decide +kernel
theorem d_X12_rainsOn_40 : decode cX12_rainsOn 40 = .ok (.iinc 3 1, 3) := by decide +kernel
theorem d_X12_rainsOn_43 : decode cX12_rainsOn 43 = .ok (.goto (-29), 3) := by decide +kernel
theorem d_X12_rainsOn_46 : decode cX12_rainsOn 46 = .ok (.iconst 1, 1) := by decide +kernel
theorem d_X12_rainsOn_47 : decode cX12_rainsOn 47 = .ok (.istore_n 3, 1) := by decide +kernel
theorem d_X12_rainsOn_48 : decode cX12_rainsOn 48 = .ok (.iload_n 3, 1) := by decide +kernel
theorem d_X12_rainsOn_49 : decode cX12_rainsOn 49 = .ok (.bipush 99, 2) := by decide +kernel
theorem d_X12_rainsOn_51 : decode cX12_rainsOn 51 = .ok (.if_icmp .gt 129, 3) := by decide +kernel
theorem d_X12_rainsOn_54 : decode cX12_rainsOn 54 = .ok (.aload_n 0, 1) := by decide +kernel
theorem d_X12_rainsOn_55 : decode cX12_rainsOn 55 = .ok (.getfield 94, 3) := by decide +kernel
theorem d_X12_rainsOn_58 : decode cX12_rainsOn 58 = .ok (.iload_n 3, 1) := by decide +kernel
theorem d_X12_rainsOn_59 : decode cX12_rainsOn 59 = .ok (.laload, 1) := by decide +kernel
theorem d_X12_rainsOn_60 : decode cX12_rainsOn 60 = .ok (.lconst 0, 1) := by decide +kernel
theorem d_X12_rainsOn_61 : decode cX12_rainsOn 61 = .ok (.lcmp, 1) := by decide +kernel
theorem d_X12_rainsOn_62 : decode cX12_rainsOn 62 = .ok (.ifCond .ne 6, 3) := by decide +kernel
theorem d_X12_rainsOn_65 : decode cX12_rainsOn 65 = .ok (.goto 109, 3) := by decide +kernel
theorem d_X12_rainsOn_68 : decode cX12_rainsOn 68 = .ok (.aload_n 0, 1) := by decide +kernel
theorem d_X12_rainsOn_69 : decode cX12_rainsOn 69 = .ok (.getfield 94, 3) := by decide +kernel
theorem d_X12_rainsOn_72 : decode cX12_rainsOn 72 = .ok (.iload_n 3, 1) := by decide +kernel
theorem d_X12_rainsOn_73 : decode cX12_rainsOn 73 = .ok (.laload, 1) := by decide +kernel
theorem d_X12_rainsOn_74 : decode cX12_rainsOn 74 = .ok (.iload_n 2, 1) := by decide +kernel
theorem d_X12_rainsOn_75 : decode cX12_rainsOn 75 = .ok (.i2l, 1) := by decide +kernel
theorem d_X12_rainsOn_76 : decode cX12_rainsOn 76 = .ok (.lmul, 1) := by decide +kernel
theorem d_X12_rainsOn_77 : decode cX12_rainsOn 77 = .ok (.ldc2_w 482, 3) := by decide +kernel
theorem d_X12_rainsOn_80 : decode cX12_rainsOn 80 = .ok (.ldiv, 1) := by decide +kernel
theorem d_X12_rainsOn_81 : decode cX12_rainsOn 81 = .ok (.lstore 4, 2) := by decide +kernel
theorem d_X12_rainsOn_83 : decode cX12_rainsOn 83 = .ok (.iload_n 3, 1) := by decide +kernel
theorem d_X12_rainsOn_84 : decode cX12_rainsOn 84 = .ok (.aload_n 0, 1) := by decide +kernel
theorem d_X12_rainsOn_85 : decode cX12_rainsOn 85 = .ok (.iload_n 3, 1) := by decide +kernel
theorem d_X12_rainsOn_86 : decode cX12_rainsOn 86 = .ok (.aload_n 0, 1) := by decide +kernel
theorem d_X12_rainsOn_87 : decode cX12_rainsOn 87 = .ok (.getfield 64, 3) := by decide +kernel
theorem d_X12_rainsOn_90 : decode cX12_rainsOn 90 = .ok (.bipush 7, 2) := by decide +kernel
theorem d_X12_rainsOn_92 : decode cX12_rainsOn 92 = .ok (.aload_n 0, 1) := by decide +kernel
theorem d_X12_rainsOn_93 : decode cX12_rainsOn 93 = .ok (.getfield 473, 3) := by decide +kernel
theorem d_X12_rainsOn_96 : decode cX12_rainsOn 96 = .ok (.imul, 1) := by decide +kernel
theorem d_X12_rainsOn_97 : decode cX12_rainsOn 97 = .ok (.iconst 3, 1) := by decide +kernel
theorem d_X12_rainsOn_98 : decode cX12_rainsOn 98 = .ok (.iadd, 1) := by decide +kernel
theorem d_X12_rainsOn_99 : decode cX12_rainsOn 99 = .ok (.iaload, 1) := by decide +kernel
theorem d_X12_rainsOn_100 : decode cX12_rainsOn 100 = .ok (.aload_n 0, 1) := by decide +kernel
theorem d_X12_rainsOn_101 : decode cX12_rainsOn 101 = .ok (.getfield 37, 3) := by decide +kernel
theorem d_X12_rainsOn_104 : decode cX12_rainsOn 104 = .ok (.iconst 4, 1) := by decide +kernel
theorem d_X12_rainsOn_105 : decode cX12_rainsOn 105 = .ok (.iload_n 1, 1) := by decide +kernel
theorem d_X12_rainsOn_106 : decode cX12_rainsOn 106 = .ok (.imul, 1) := by decide +kernel
theorem d_X12_rainsOn_107 : decode cX12_rainsOn 107 = .ok (.iaload, 1) := by decide +kernel
theorem d_X12_rainsOn_108 : decode cX12_rainsOn 108 = .ok (.aload_n 0, 1) := by decide +kernel
theorem d_X12_rainsOn_109 : decode cX12_rainsOn 109 = .ok (.getfield 64, 3) := by decide +kernel
theorem d_X12_rainsOn_112 : decode cX12_rainsOn 112 = .ok (.bipush 7, 2) := by decide +kernel
theorem d_X12_rainsOn_114 : decode cX12_rainsOn 114 = .ok (.aload_n 0, 1) := by decide +kernel
theorem d_X12_rainsOn_115 : decode cX12_rainsOn 115 = .ok (.getfield 473, 3) := by decide +kernel
theorem d_X12_rainsOn_118 : decode cX12_rainsOn 118 = .ok (.imul, 1) := by decide +kernel
theorem d_X12_rainsOn_119 : decode cX12_rainsOn 119 = .ok (.iconst 4, 1) := by decide +kernel
theorem d_X12_rainsOn_120 : decode cX12_rainsOn 120 = .ok (.iadd, 1) := by decide +kernel
theorem d_X12_rainsOn_121 : decode cX12_rainsOn 121 = .ok (.iaload, 1) := by decide +kernel
theorem d_X12_rainsOn_122 : decode cX12_rainsOn 122 = .ok (.aload_n 0, 1) := by decide +kernel
theorem d_X12_rainsOn_123 : decode cX12_rainsOn 123 = .ok (.getfield 64, 3) := by decide +kernel
theorem d_X12_rainsOn_126 : decode cX12_rainsOn 126 = .ok (.bipush 76, 2) := by decide +kernel
theorem d_X12_rainsOn_128 : decode cX12_rainsOn 128 = .ok (.iaload, 1) := by decide +kernel
theorem d_X12_rainsOn_129 : decode cX12_rainsOn 129 = .ok (.aload_n 0, 1) := by decide +kernel
theorem d_X12_rainsOn_130 : decode cX12_rainsOn 130 = .ok (.getfield 476, 3) := by decide +kernel
theorem d_X12_rainsOn_133 : decode cX12_rainsOn 133 = .ok (.iadd, 1) := by decide +kernel
theorem d_X12_rainsOn_134 : decode cX12_rainsOn 134 = .ok (.invokevirtual 368, 3) := by decide +kernel
theorem d_X12_rainsOn_137 : decode cX12_rainsOn 137 = .ok (.invokestatic 356, 3) := by decide +kernel
theorem d_X12_rainsOn_140 : decode cX12_rainsOn 140 = .ok (.istore 6, 2) := by decide +kernel
theorem d_X12_rainsOn_142 : decode cX12_rainsOn 142 = .ok (.aload_n 0, 1) := by decide +kernel
theorem d_X12_rainsOn_143 : decode cX12_rainsOn 143 = .ok (.getfield 97, 3) := by decide +kernel
theorem d_X12_rainsOn_146 : decode cX12_rainsOn 146 = .ok (.iload_n 3, 1) := by decide +kernel
theorem d_X12_rainsOn_147 : decode cX12_rainsOn 147 = .ok (.iload 6, 2) := by decide +kernel
theorem d_X12_rainsOn_149 : decode cX12_rainsOn 149 = .ok (.isub, 1) := by decide +kernel
theorem d_X12_rainsOn_150 : decode cX12_rainsOn 150 = .ok (.dup2, 1) := by decide +kernel
theorem d_X12_rainsOn_151 : decode cX12_rainsOn 151 = .ok (.laload, 1) := by decide +kernel
theorem d_X12_rainsOn_152 : decode cX12_rainsOn 152 = .ok (.lload 4, 2) := by decide +kernel
theorem d_X12_rainsOn_154 : decode cX12_rainsOn 154 = .ok (.ladd, 1) := by decide +kernel
theorem d_X12_rainsOn_155 : decode cX12_rainsOn 155 = .ok (.lastore, 1) := by decide +kernel
theorem d_X12_rainsOn_156 : decode cX12_rainsOn 156 = .ok (.aload_n 0, 1) := by decide +kernel
theorem d_X12_rainsOn_157 : decode cX12_rainsOn 157 = .ok (.getfield 97, 3) := by decide +kernel
theorem d_X12_rainsOn_160 : decode cX12_rainsOn 160 = .ok (.iload_n 3, 1) := by decide +kernel
theorem d_X12_rainsOn_161 : decode cX12_rainsOn 161 = .ok (.dup2, 1) := by decide +kernel
theorem d_X12_rainsOn_162 : decode cX12_rainsOn 162 = .ok (.laload, 1) := by decide +kernel
theorem d_X12_rainsOn_163 : decode cX12_rainsOn 163 = .ok (.aload_n 0, 1) := by decide +kernel
theorem d_X12_rainsOn_164 : decode cX12_rainsOn 164 = .ok (.getfield 94, 3) := by decide +kernel
theorem d_X12_rainsOn_167 : decode cX12_rainsOn 167 = .ok (.iload_n 3, 1) := by decide +kernel
theorem d_X12_rainsOn_168 : decode cX12_rainsOn 168 = .ok (.laload, 1) := by decide +kernel
theorem d_X12_rainsOn_169 : decode cX12_rainsOn 169 = .ok (.lload 4, 2) := by decide +kernel
theorem d_X12_rainsOn_171 : decode cX12_rainsOn 171 = .ok (.lsub, 1) := by decide +kernel
theorem d_X12_rainsOn_172 : decode cX12_rainsOn 172 = .ok (.ladd, 1) := by decide +kernel
theorem d_X12_rainsOn_173 : decode cX12_rainsOn 173 = .ok (.lastore, 1) := by decide +kernel
theorem d_X12_rainsOn_174 : decode cX12_rainsOn 174 = .ok (.iinc 3 1, 3) := by decide +kernel
theorem d_X12_rainsOn_177 : decode cX12_rainsOn 177 = .ok (.goto (-129), 3) := by decide +kernel
theorem d_X12_rainsOn_180 : decode cX12_rainsOn 180 = .ok (.iconst 0, 1) := by decide +kernel
theorem d_X12_rainsOn_181 : decode cX12_rainsOn 181 = .ok (.istore_n 3, 1) := by decide +kernel
theorem d_X12_rainsOn_182 : decode cX12_rainsOn 182 = .ok (.iload_n 3, 1) := by decide +kernel
theorem d_X12_rainsOn_183 : decode cX12_rainsOn 183 = .ok (.bipush 99, 2) := by decide +kernel
theorem d_X12_rainsOn_185 : decode cX12_rainsOn 185 = .ok (.if_icmp .gt 21, 3) := by decide +kernel
theorem d_X12_rainsOn_188 : decode cX12_rainsOn 188 = .ok (.aload_n 0, 1) := by decide +kernel
theorem d_X12_rainsOn_189 : decode cX12_rainsOn 189 = .ok (.getfield 94, 3) := by decide +kernel
theorem d_X12_rainsOn_192 : decode cX12_rainsOn 192 = .ok (.iload_n 3, 1) := by decide +kernel
theorem d_X12_rainsOn_193 : decode cX12_rainsOn 193 = .ok (.aload_n 0, 1) := by decide +kernel
theorem d_X12_rainsOn_194 : decode cX12_rainsOn 194 = .ok (.getfield 97, 3) := by decide +kernel
theorem d_X12_rainsOn_197 : decode cX12_rainsOn 197 = .ok (.iload_n 3, 1) := by decide +kernel
theorem d_X12_rainsOn_198 : decode cX12_rainsOn 198 = .ok (.laload, 1) := by decide +kernel
theorem d_X12_rainsOn_199 : decode cX12_rainsOn 199 = .ok (.lastore, 1) := by decide +kernel
theorem d_X12_rainsOn_200 : decode cX12_rainsOn 200 = .ok (.iinc 3 1, 3) := by decide +kernel
theorem d_X12_rainsOn_203 : decode cX12_rainsOn 203 = .ok (.goto (-21), 3) := by decide +kernel
theorem d_X12_rainsOn_206 : decode cX12_rainsOn 206 = .ok (.aload_n 0, 1) := by decide +kernel
theorem d_X12_rainsOn_207 : decode cX12_rainsOn 207 = .ok (.dup, 1) := by decide +kernel
theorem d_X12_rainsOn_208 : decode cX12_rainsOn 208 = .ok (.getfield 476, 3) := by decide +kernel
theorem d_X12_rainsOn_211 : decode cX12_rainsOn 211 = .ok (.iconst 1, 1) := by decide +kernel
theorem d_X12_rainsOn_212 : decode cX12_rainsOn 212 = .ok (.iadd, 1) := by decide +kernel
theorem d_X12_rainsOn_213 : decode cX12_rainsOn 213 = .ok (.putfield 476, 3) := by decide +kernel
theorem d_X12_rainsOn_216 : decode cX12_rainsOn 216 = .ok (.return_, 1) := by decide +kernel
def f_X12_rainsOn (this : Nat) (a1 : Int32) : sa_M Unit :=
sa_gd 12 this (
sa_bnd (sa_rdI 12 this 61) fun v1 =>
sa_bnd (f_X12_chanceAt this a1 (v1 + 1)) fun v2 =>
sa_let (0 : Int32) fun x3 =>
sa_wh1 (fun j14 (x4 : Int32) =>
if 99 < x4 then
sa_let (1 : Int32) fun x5 =>
sa_wh1 (fun j48 (x6 : Int32) =>
if 99 < x6 then
sa_let (0 : Int32) fun x7 =>
sa_wh1 (fun j182 (x8 : Int32) =>
if 99 < x8 then
sa_bnd (sa_rdI 12 this 61) fun v9 =>
sa_bnd (sa_wrI 12 this 61 (v9 + 1)) fun _ =>
sa_ret ()
else
sa_bnd (sa_rdR 12 this 49) fun v10 =>
sa_bnd (sa_rdR 12 this 50) fun v11 =>
sa_bnd (sa_ldL v11 x8) fun v12 =>
sa_bnd (sa_stL v10 x8 v12) fun _ =>
sa_let ((x8 + 1) : Int32) fun x13 =>
j182 x13) sa_F x7
else
sa_bnd (sa_rdR 12 this 49) fun v14 =>
sa_bnd (sa_ldL v14 x6) fun v15 =>
sa_jn0 (sa_let ((x6 + 1) : Int32) fun x16 =>
j48 x16) fun j174 =>
if ¬ (lg_cmp v15 0) = 0 then
sa_bnd (sa_rdR 12 this 49) fun v17 =>
sa_bnd (sa_ldL v17 x6) fun v18 =>
sa_bnd (sa_dvL (v18 * (v2.toInt64)) 100) fun v19 =>
sa_bnd (sa_rdR 12 this 35) fun v20 =>
sa_bnd (sa_rdI 12 this 60) fun v21 =>
sa_bnd (sa_ldI .int v20 ((7 * v21) + 3)) fun v22 =>
sa_bnd (sa_rdR 12 this 18) fun v23 =>
sa_bnd (sa_ldI .int v23 (4 * a1)) fun v24 =>
sa_bnd (sa_rdR 12 this 35) fun v25 =>
sa_bnd (sa_rdI 12 this 60) fun v26 =>
sa_bnd (sa_ldI .int v25 ((7 * v26) + 4)) fun v27 =>
sa_bnd (sa_rdR 12 this 35) fun v28 =>
sa_bnd (sa_ldI .int v28 76) fun v29 =>
sa_bnd (sa_rdI 12 this 61) fun v30 =>
sa_bnd (f_X12_wearBy this x6 v22 v24 v27 (v29 + v30)) fun v31 =>
sa_let ((sa_min x6 v31) : Int32) fun x32 =>
sa_bnd (sa_rdR 12 this 50) fun v33 =>
sa_bnd (sa_ldL v33 (x6 - x32)) fun v34 =>
sa_bnd (sa_stL v33 (x6 - x32) (v34 + v19)) fun _ =>
sa_bnd (sa_rdR 12 this 50) fun v35 =>
sa_bnd (sa_ldL v35 x6) fun v36 =>
sa_bnd (sa_rdR 12 this 49) fun v37 =>
sa_bnd (sa_ldL v37 x6) fun v38 =>
sa_bnd (sa_stL v35 x6 (v36 + (v38 - v19))) fun _ =>
j174
else
j174) sa_F x5
else
sa_bnd (sa_rdR 12 this 50) fun v39 =>
sa_jn1 (fun (y40 : Int64) =>
sa_bnd (sa_stL v39 x4 y40) fun _ =>
sa_let ((x4 + 1) : Int32) fun x41 =>
j14 x41) fun j39 =>
if ¬ x4 = 0 then
j39 0
else
sa_bnd (sa_rdR 12 this 49) fun v42 =>
sa_bnd (sa_ldL v42 0) fun v43 =>
j39 v43) sa_F x3)
set_option maxHeartbeats 1000000 in
set_option maxRecDepth 10000 in
theorem b_X12_rainsOn {p : Program} {l : Launch} {e : Env} {s : State} {m : MethodId} {args : Array Value} {below : List Frame} {meth : Method} {c : Code} {D : va_G} {ad : Nat → Nat} {cA : FieldType → ClassId} {A : Nat → Prop} (this : Nat) (a1 : Int32) (C : sa_C p s m args meth c cX12_rainsOn RX12 "rainsOn" 7 none D ad cA A) : sa_Sg p l e s m args below meth c 7 132 D ad cA A sa_eV 0 [(0, .ref (ad this)), (1, .int a1)] [] (f_X12_rainsOn this a1) := by
  unfold f_X12_rainsOn
  refine sa_gdI ?_
  refine sa_aload_n C d_X12_rainsOn_0 rfl 0 rfl ?_
  refine sa_iload_n C d_X12_rainsOn_1 rfl 1 rfl ?_
  refine sa_aload_n C d_X12_rainsOn_2 rfl 0 rfl ?_
  refine sa_getI C fd_X12_476 d_X12_rainsOn_3 (fun v1 => ?_)
  refine sa_iconst (v := 1) C d_X12_rainsOn_6 (by decide) ?_
  refine sa_iadd C d_X12_rainsOn_7 ?_
  refine sa_invV (ci := 12) C (k_X12_chanceAt this a1 (v1 + 1)) q1999 ds_X12_chanceAt q128 rfl q1998 q99 q1996 (gd_X12_chanceAt this a1 (v1 + 1)) rfl rfl rfl (Nat.le_of_ble_eq_true rfl) (by decide) (by decide) d_X12_rainsOn_8 (fun v2 => ?_)
  refine sa_istore_n (lv' := [(2, .int v2), (0, .ref (ad this)), (1, .int a1)]) C d_X12_rainsOn_11 rfl (by decide) rfl ?_
  refine sa_iconst (v := 0) C d_X12_rainsOn_12 (by decide) ?_
  refine sa_topi (fun x3 => ?_)
  refine sa_istore_n (lv' := [(3, .int x3), (2, .int v2), (0, .ref (ad this)), (1, .int a1)]) C d_X12_rainsOn_13 rfl (by decide) rfl ?_
  refine sa_sub [2, 3, 1, 0] rfl (sa_loop1 (fun x4 => [(0, .ref (ad this)), (1, .int a1), (2, .int v2), (3, .int x4)]) (fun x4 => []) (fun j14 hj14 x4 => ?_) _ _)
  refine sa_iload_n C d_X12_rainsOn_14 rfl 3 rfl ?_
  refine sa_bipush (v := 99) C d_X12_rainsOn_15 (by decide) ?_
  refine sa_icmp_gt (tgt := 46) C d_X12_rainsOn_17 (by decide) ?_ ?_
  · refine sa_iconst (v := 1) C d_X12_rainsOn_46 (by decide) ?_
    refine sa_topi (fun x5 => ?_)
    refine sa_istore_n (lv' := [(3, .int x5), (0, .ref (ad this)), (1, .int a1), (2, .int v2)]) C d_X12_rainsOn_47 rfl (by decide) rfl ?_
    refine sa_sub [1, 2, 3, 0] rfl (sa_loop1 (fun x6 => [(0, .ref (ad this)), (1, .int a1), (2, .int v2), (3, .int x6)]) (fun x6 => []) (fun j48 hj48 x6 => ?_) _ _)
    refine sa_iload_n C d_X12_rainsOn_48 rfl 3 rfl ?_
    refine sa_bipush (v := 99) C d_X12_rainsOn_49 (by decide) ?_
    refine sa_icmp_gt (tgt := 180) C d_X12_rainsOn_51 (by decide) ?_ ?_
    · refine sa_iconst (v := 0) C d_X12_rainsOn_180 (by decide) ?_
      refine sa_topi (fun x7 => ?_)
      refine sa_istore_n (lv' := [(3, .int x7), (0, .ref (ad this)), (1, .int a1), (2, .int v2)]) C d_X12_rainsOn_181 rfl (by decide) rfl ?_
      refine sa_sub [1, 0] rfl (sa_loop1 (fun x8 => [(0, .ref (ad this)), (3, .int x8)]) (fun x8 => []) (fun j182 hj182 x8 => ?_) _ _)
      refine sa_iload_n C d_X12_rainsOn_182 rfl 1 rfl ?_
      refine sa_bipush (v := 99) C d_X12_rainsOn_183 (by decide) ?_
      refine sa_icmp_gt (tgt := 206) C d_X12_rainsOn_185 (by decide) ?_ ?_
      · refine sa_aload_n C d_X12_rainsOn_206 rfl 0 rfl ?_
        refine sa_dup C d_X12_rainsOn_207 rfl ?_
        refine sa_getI C fd_X12_476 d_X12_rainsOn_208 (fun v9 => ?_)
        refine sa_iconst (v := 1) C d_X12_rainsOn_211 (by decide) ?_
        refine sa_iadd C d_X12_rainsOn_212 ?_
        refine sa_putI C fd_X12_476 d_X12_rainsOn_213 ?_
        exact sa_vret C d_X12_rainsOn_216
      refine sa_aload_n C d_X12_rainsOn_188 rfl 0 rfl ?_
      refine sa_getR C fd_X12_94 rfl d_X12_rainsOn_189 (fun v10 => ?_)
      refine sa_iload_n C d_X12_rainsOn_192 rfl 1 rfl ?_
      refine sa_aload_n C d_X12_rainsOn_193 rfl 0 rfl ?_
      refine sa_getR C fd_X12_97 rfl d_X12_rainsOn_194 (fun v11 => ?_)
      refine sa_iload_n C d_X12_rainsOn_197 rfl 1 rfl ?_
      refine sa_lald C d_X12_rainsOn_198 (fun v12 => ?_)
      refine sa_last C d_X12_rainsOn_199 ?_
      refine sa_iinc C (fun zz => [(3, .int zz), (0, .ref (ad this))]) d_X12_rainsOn_200 1 rfl rfl (by decide) (fun _ => rfl) (fun x13 => ?_)
      refine sa_goto (tgt := 182) C d_X12_rainsOn_203 (by decide) ?_
      exact sa_sub [1, 0] rfl (hj182 _)
    refine sa_aload_n C d_X12_rainsOn_54 rfl 0 rfl ?_
    refine sa_getR C fd_X12_94 rfl d_X12_rainsOn_55 (fun v14 => ?_)
    refine sa_iload_n C d_X12_rainsOn_58 rfl 3 rfl ?_
    refine sa_lald C d_X12_rainsOn_59 (fun v15 => ?_)
    refine sa_lconst (v := 0) C d_X12_rainsOn_60 (by decide) ?_
    refine sa_lcmp C d_X12_rainsOn_61 ?_
    refine sa_join0 174 ([(0, .ref (ad this)), (1, .int a1), (2, .int v2), (3, .int x6)]) ([]) (?_) (fun j174 hj174 => ?_)
    · refine sa_iinc C (fun zz => [(3, .int zz), (0, .ref (ad this)), (1, .int a1), (2, .int v2)]) d_X12_rainsOn_174 3 rfl rfl (by decide) (fun _ => rfl) (fun x16 => ?_)
      refine sa_goto (tgt := 48) C d_X12_rainsOn_177 (by decide) ?_
      exact sa_sub [1, 2, 3, 0] rfl (hj48 _)
    refine sa_if_ne (tgt := 68) C d_X12_rainsOn_62 (by decide) ?_ ?_
    · refine sa_aload_n C d_X12_rainsOn_68 rfl 0 rfl ?_
      refine sa_getR C fd_X12_94 rfl d_X12_rainsOn_69 (fun v17 => ?_)
      refine sa_iload_n C d_X12_rainsOn_72 rfl 3 rfl ?_
      refine sa_lald C d_X12_rainsOn_73 (fun v18 => ?_)
      refine sa_iload_n C d_X12_rainsOn_74 rfl 2 rfl ?_
      refine sa_i2l C d_X12_rainsOn_75 ?_
      refine sa_lmul C d_X12_rainsOn_76 ?_
      refine sa_ldc2 (v := 100) C d_X12_rainsOn_77 q2000 ?_
      refine sa_ldiv C d_X12_rainsOn_80 (fun v19 => ?_)
      refine sa_lstore (lv' := [(4, .long v19), (0, .ref (ad this)), (1, .int a1), (2, .int v2), (3, .int x6)]) C d_X12_rainsOn_81 (by decide) rfl ?_
      refine sa_iload_n C d_X12_rainsOn_83 rfl 4 rfl ?_
      refine sa_aload_n C d_X12_rainsOn_84 rfl 1 rfl ?_
      refine sa_iload_n C d_X12_rainsOn_85 rfl 4 rfl ?_
      refine sa_aload_n C d_X12_rainsOn_86 rfl 1 rfl ?_
      refine sa_getR C fd_X12_64 rfl d_X12_rainsOn_87 (fun v20 => ?_)
      refine sa_bipush (v := 7) C d_X12_rainsOn_90 (by decide) ?_
      refine sa_aload_n C d_X12_rainsOn_92 rfl 1 rfl ?_
      refine sa_getI C fd_X12_473 d_X12_rainsOn_93 (fun v21 => ?_)
      refine sa_imul C d_X12_rainsOn_96 ?_
      refine sa_iconst (v := 3) C d_X12_rainsOn_97 (by decide) ?_
      refine sa_iadd C d_X12_rainsOn_98 ?_
      refine sa_iald C d_X12_rainsOn_99 (fun v22 => ?_)
      refine sa_aload_n C d_X12_rainsOn_100 rfl 1 rfl ?_
      refine sa_getR C fd_X12_37 rfl d_X12_rainsOn_101 (fun v23 => ?_)
      refine sa_iconst (v := 4) C d_X12_rainsOn_104 (by decide) ?_
      refine sa_iload_n C d_X12_rainsOn_105 rfl 2 rfl ?_
      refine sa_imul C d_X12_rainsOn_106 ?_
      refine sa_iald C d_X12_rainsOn_107 (fun v24 => ?_)
      refine sa_aload_n C d_X12_rainsOn_108 rfl 1 rfl ?_
      refine sa_getR C fd_X12_64 rfl d_X12_rainsOn_109 (fun v25 => ?_)
      refine sa_bipush (v := 7) C d_X12_rainsOn_112 (by decide) ?_
      refine sa_aload_n C d_X12_rainsOn_114 rfl 1 rfl ?_
      refine sa_getI C fd_X12_473 d_X12_rainsOn_115 (fun v26 => ?_)
      refine sa_imul C d_X12_rainsOn_118 ?_
      refine sa_iconst (v := 4) C d_X12_rainsOn_119 (by decide) ?_
      refine sa_iadd C d_X12_rainsOn_120 ?_
      refine sa_iald C d_X12_rainsOn_121 (fun v27 => ?_)
      refine sa_aload_n C d_X12_rainsOn_122 rfl 1 rfl ?_
      refine sa_getR C fd_X12_64 rfl d_X12_rainsOn_123 (fun v28 => ?_)
      refine sa_bipush (v := 76) C d_X12_rainsOn_126 (by decide) ?_
      refine sa_iald C d_X12_rainsOn_128 (fun v29 => ?_)
      refine sa_aload_n C d_X12_rainsOn_129 rfl 1 rfl ?_
      refine sa_getI C fd_X12_476 d_X12_rainsOn_130 (fun v30 => ?_)
      refine sa_iadd C d_X12_rainsOn_133 ?_
      refine sa_invV (ci := 12) C (k_X12_wearBy this x6 v22 v24 v27 (v29 + v30)) q1818 ds_X12_wearBy q128 rfl q1817 q72 q1815 (gd_X12_wearBy this x6 v22 v24 v27 (v29 + v30)) rfl rfl rfl (Nat.le_of_ble_eq_true rfl) (by decide) (by decide) d_X12_rainsOn_134 (fun v31 => ?_)
      refine sa_mmin C q1819 (Nat.le_of_ble_eq_true rfl) (by decide) q530 q130 q531 d_X12_rainsOn_137 ?_
      refine sa_topi (fun x32 => ?_)
      refine sa_istore (lv' := [(6, .int x32), (4, .long v19), (0, .ref (ad this)), (1, .int a1), (2, .int v2), (3, .int x6)]) C d_X12_rainsOn_140 (by decide) rfl ?_
      refine sa_aload_n C d_X12_rainsOn_142 rfl 2 rfl ?_
      refine sa_getR C fd_X12_97 rfl d_X12_rainsOn_143 (fun v33 => ?_)
      refine sa_iload_n C d_X12_rainsOn_146 rfl 5 rfl ?_
      refine sa_iload C d_X12_rainsOn_147 0 rfl ?_
      refine sa_isub C d_X12_rainsOn_149 ?_
      refine sa_dup2_11 C d_X12_rainsOn_150 rfl rfl ?_
      refine sa_lald C d_X12_rainsOn_151 (fun v34 => ?_)
      refine sa_lload C d_X12_rainsOn_152 1 rfl ?_
      refine sa_ladd C d_X12_rainsOn_154 ?_
      refine sa_last C d_X12_rainsOn_155 ?_
      refine sa_aload_n C d_X12_rainsOn_156 rfl 2 rfl ?_
      refine sa_getR C fd_X12_97 rfl d_X12_rainsOn_157 (fun v35 => ?_)
      refine sa_iload_n C d_X12_rainsOn_160 rfl 5 rfl ?_
      refine sa_dup2_11 C d_X12_rainsOn_161 rfl rfl ?_
      refine sa_lald C d_X12_rainsOn_162 (fun v36 => ?_)
      refine sa_aload_n C d_X12_rainsOn_163 rfl 2 rfl ?_
      refine sa_getR C fd_X12_94 rfl d_X12_rainsOn_164 (fun v37 => ?_)
      refine sa_iload_n C d_X12_rainsOn_167 rfl 5 rfl ?_
      refine sa_lald C d_X12_rainsOn_168 (fun v38 => ?_)
      refine sa_lload C d_X12_rainsOn_169 1 rfl ?_
      refine sa_lsub C d_X12_rainsOn_171 ?_
      refine sa_ladd C d_X12_rainsOn_172 ?_
      refine sa_last C d_X12_rainsOn_173 ?_
      exact sa_sub [2, 3, 4, 5] rfl (hj174)
    refine sa_goto (tgt := 174) C d_X12_rainsOn_65 (by decide) ?_
    exact sa_sub [0, 1, 2, 3] rfl (hj174)
  refine sa_aload_n C d_X12_rainsOn_20 rfl 0 rfl ?_
  refine sa_getR C fd_X12_97 rfl d_X12_rainsOn_21 (fun v39 => ?_)
  refine sa_iload_n C d_X12_rainsOn_24 rfl 3 rfl ?_
  refine sa_iload_n C d_X12_rainsOn_25 rfl 3 rfl ?_
  refine sa_join1 39 (fun y40 => [(0, .ref (ad this)), (1, .int a1), (2, .int v2), (3, .int x4)]) (fun y40 => [.long y40, .int x4, .ref (ad v39)]) (fun y40 => ?_) (fun j39 hj39 => ?_)
  · refine sa_last C d_X12_rainsOn_39 ?_
    refine sa_iinc C (fun zz => [(3, .int zz), (0, .ref (ad this)), (1, .int a1), (2, .int v2)]) d_X12_rainsOn_40 3 rfl rfl (by decide) (fun _ => rfl) (fun x41 => ?_)
    refine sa_goto (tgt := 14) C d_X12_rainsOn_43 (by decide) ?_
    exact sa_sub [1, 2, 3, 0] rfl (hj14 _)
  refine sa_if_ne (tgt := 38) C d_X12_rainsOn_26 (by decide) ?_ ?_
  · refine sa_lconst (v := 0) C d_X12_rainsOn_38 (by decide) ?_
    exact sa_sub [0, 1, 2, 3] rfl (hj39 _)
  refine sa_aload_n C d_X12_rainsOn_29 rfl 0 rfl ?_
  refine sa_getR C fd_X12_94 rfl d_X12_rainsOn_30 (fun v42 => ?_)
  refine sa_iconst (v := 0) C d_X12_rainsOn_33 (by decide) ?_
  refine sa_lald C d_X12_rainsOn_34 (fun v43 => ?_)
  refine sa_goto (tgt := 39) C d_X12_rainsOn_35 (by decide) ?_
  exact sa_sub [0, 1, 2, 3] rfl (hj39 _)
theorem k_X12_rainsOn (this : Nat) (a1 : Int32) : sa_Met 132 yX12_rainsOn cX12_rainsOn 7 none (fun ad => [.ref (ad this), .int a1]) sa_eV (f_X12_rainsOn this a1) := sa_mk (by decide) (fun ad => Nat.le_of_ble_eq_true rfl) (fun p l e s m args below meth c D ad cA A C => b_X12_rainsOn this a1 C)
theorem gd_X12_rainsOn (this : Nat) (a1 : Int32) (σ : sa_St) (r : Unit) (τ : sa_St) (h : f_X12_rainsOn this a1 σ = some (r, τ)) : sa_sh this = some (.inl 12) := sa_gd_ok h
theorem d_X12_shifts_0 : decode cX12_shifts 0 = .ok (.iconst 0, 1) := by decide +kernel
theorem d_X12_shifts_1 : decode cX12_shifts 1 = .ok (.istore_n 2, 1) := by decide +kernel
theorem d_X12_shifts_2 : decode cX12_shifts 2 = .ok (.iload_n 2, 1) := by decide +kernel
theorem d_X12_shifts_3 : decode cX12_shifts 3 = .ok (.bipush 99, 2) := by decide +kernel
theorem d_X12_shifts_5 : decode cX12_shifts 5 = .ok (.if_icmp .gt 39, 3) := by decide +kernel
theorem d_X12_shifts_8 : decode cX12_shifts 8 = .ok (.aload_n 0, 1) := by decide +kernel
theorem d_X12_shifts_9 : decode cX12_shifts 9 = .ok (.getfield 94, 3) := by decide +kernel
theorem d_X12_shifts_12 : decode cX12_shifts 12 = .ok (.iload_n 2, 1) := by decide +kernel
theorem d_X12_shifts_13 : decode cX12_shifts 13 = .ok (.laload, 1) := by decide +kernel
theorem d_X12_shifts_14 : decode cX12_shifts 14 = .ok (.lstore_n 3, 1) := by decide +kernel
theorem d_X12_shifts_15 : decode cX12_shifts 15 = .ok (.aload_n 0, 1) := by decide +kernel
theorem d_X12_shifts_16 : decode cX12_shifts 16 = .ok (.getfield 94, 3) := by decide +kernel
theorem d_X12_shifts_19 : decode cX12_shifts 19 = .ok (.iload_n 2, 1) := by decide +kernel
theorem d_X12_shifts_20 : decode cX12_shifts 20 = .ok (.lconst 0, 1) := by decide +kernel
theorem d_X12_shifts_21 : decode cX12_shifts 21 = .ok (.lastore, 1) := by decide +kernel
theorem d_X12_shifts_22 : decode cX12_shifts 22 = .ok (.aload_n 0, 1) := by decide +kernel
theorem d_X12_shifts_23 : decode cX12_shifts 23 = .ok (.getfield 94, 3) := by decide +kernel
theorem d_X12_shifts_26 : decode cX12_shifts 26 = .ok (.iconst 0, 1) := by decide +kernel
theorem d_X12_shifts_27 : decode cX12_shifts 27 = .ok (.iload_n 2, 1) := by decide +kernel
theorem d_X12_shifts_28 : decode cX12_shifts 28 = .ok (.iload_n 1, 1) := by decide +kernel
theorem d_X12_shifts_29 : decode cX12_shifts 29 = .ok (.isub, 1) := by decide +kernel
theorem d_X12_shifts_30 : decode cX12_shifts 30 = .ok (.invokestatic 358, 3) := by decide +kernel
theorem d_X12_shifts_33 : decode cX12_shifts 33 = .ok (.dup2, 1) := by decide +kernel
theorem d_X12_shifts_34 : decode cX12_shifts 34 = .ok (.laload, 1) := by decide +kernel
theorem d_X12_shifts_35 : decode cX12_shifts 35 = .ok (.lload_n 3, 1) := by decide +kernel
theorem d_X12_shifts_36 : decode cX12_shifts 36 = .ok (.ladd, 1) := by decide +kernel
theorem d_X12_shifts_37 : decode cX12_shifts 37 = .ok (.lastore, 1) := by decide +kernel
theorem d_X12_shifts_38 : decode cX12_shifts 38 = .ok (.iinc 2 1, 3) := by decide +kernel
theorem d_X12_shifts_41 : decode cX12_shifts 41 = .ok (.goto (-39), 3) := by decide +kernel
theorem d_X12_shifts_44 : decode cX12_shifts 44 = .ok (.return_, 1) := by decide +kernel
def f_X12_shifts (this : Nat) (a1 : Int32) : sa_M Unit :=
sa_gd 12 this (
sa_let (0 : Int32) fun x1 =>
sa_wh1 (fun j2 (x2 : Int32) =>
if 99 < x2 then
sa_ret ()
else
sa_bnd (sa_rdR 12 this 49) fun v3 =>
sa_bnd (sa_ldL v3 x2) fun v4 =>
sa_bnd (sa_rdR 12 this 49) fun v5 =>
sa_bnd (sa_stL v5 x2 0) fun _ =>
sa_bnd (sa_rdR 12 this 49) fun v6 =>
sa_bnd (sa_ldL v6 (sa_max 0 (x2 - a1))) fun v7 =>
sa_bnd (sa_stL v6 (sa_max 0 (x2 - a1)) (v7 + v4)) fun _ =>
sa_let ((x2 + 1) : Int32) fun x8 =>
j2 x8) sa_F x1)
set_option maxHeartbeats 1000000 in
set_option maxRecDepth 10000 in
theorem b_X12_shifts {p : Program} {l : Launch} {e : Env} {s : State} {m : MethodId} {args : Array Value} {below : List Frame} {meth : Method} {c : Code} {D : va_G} {ad : Nat → Nat} {cA : FieldType → ClassId} {A : Nat → Prop} (this : Nat) (a1 : Int32) (C : sa_C p s m args meth c cX12_shifts RX12 "shifts" 5 none D ad cA A) : sa_Sg p l e s m args below meth c 5 1 D ad cA A sa_eV 0 [(0, .ref (ad this)), (1, .int a1)] [] (f_X12_shifts this a1) := by
  unfold f_X12_shifts
  refine sa_gdI ?_
  refine sa_iconst (v := 0) C d_X12_shifts_0 (by decide) ?_
  refine sa_topi (fun x1 => ?_)
  refine sa_istore_n (lv' := [(2, .int x1), (0, .ref (ad this)), (1, .int a1)]) C d_X12_shifts_1 rfl (by decide) rfl ?_
  refine sa_sub [1, 2, 0] rfl (sa_loop1 (fun x2 => [(0, .ref (ad this)), (1, .int a1), (2, .int x2)]) (fun x2 => []) (fun j2 hj2 x2 => ?_) _ _)
  refine sa_iload_n C d_X12_shifts_2 rfl 2 rfl ?_
  refine sa_bipush (v := 99) C d_X12_shifts_3 (by decide) ?_
  refine sa_icmp_gt (tgt := 44) C d_X12_shifts_5 (by decide) ?_ ?_
  · exact sa_vret C d_X12_shifts_44
  refine sa_aload_n C d_X12_shifts_8 rfl 0 rfl ?_
  refine sa_getR C fd_X12_94 rfl d_X12_shifts_9 (fun v3 => ?_)
  refine sa_iload_n C d_X12_shifts_12 rfl 2 rfl ?_
  refine sa_lald C d_X12_shifts_13 (fun v4 => ?_)
  refine sa_lstore_n (lv' := [(3, .long v4), (0, .ref (ad this)), (1, .int a1), (2, .int x2)]) C d_X12_shifts_14 rfl (by decide) rfl ?_
  refine sa_aload_n C d_X12_shifts_15 rfl 1 rfl ?_
  refine sa_getR C fd_X12_94 rfl d_X12_shifts_16 (fun v5 => ?_)
  refine sa_iload_n C d_X12_shifts_19 rfl 3 rfl ?_
  refine sa_lconst (v := 0) C d_X12_shifts_20 (by decide) ?_
  refine sa_last C d_X12_shifts_21 ?_
  refine sa_aload_n C d_X12_shifts_22 rfl 1 rfl ?_
  refine sa_getR C fd_X12_94 rfl d_X12_shifts_23 (fun v6 => ?_)
  refine sa_iconst (v := 0) C d_X12_shifts_26 (by decide) ?_
  refine sa_iload_n C d_X12_shifts_27 rfl 3 rfl ?_
  refine sa_iload_n C d_X12_shifts_28 rfl 2 rfl ?_
  refine sa_isub C d_X12_shifts_29 ?_
  refine sa_mmax C q1820 (Nat.le_of_ble_eq_true rfl) (by decide) q527 q130 q528 d_X12_shifts_30 ?_
  refine sa_dup2_11 C d_X12_shifts_33 rfl rfl ?_
  refine sa_lald C d_X12_shifts_34 (fun v7 => ?_)
  refine sa_lload_n C d_X12_shifts_35 rfl 0 rfl ?_
  refine sa_ladd C d_X12_shifts_36 ?_
  refine sa_last C d_X12_shifts_37 ?_
  refine sa_iinc C (fun zz => [(2, .int zz), (3, .long v4), (0, .ref (ad this)), (1, .int a1)]) d_X12_shifts_38 3 rfl rfl (by decide) (fun _ => rfl) (fun x8 => ?_)
  refine sa_goto (tgt := 2) C d_X12_shifts_41 (by decide) ?_
  exact sa_sub [2, 3, 0] rfl (hj2 _)
theorem k_X12_shifts (this : Nat) (a1 : Int32) : sa_Met 1 yX12_shifts cX12_shifts 5 none (fun ad => [.ref (ad this), .int a1]) sa_eV (f_X12_shifts this a1) := sa_mk (by decide) (fun ad => Nat.le_of_ble_eq_true rfl) (fun p l e s m args below meth c D ad cA A C => b_X12_shifts this a1 C)
theorem gd_X12_shifts (this : Nat) (a1 : Int32) (σ : sa_St) (r : Unit) (τ : sa_St) (h : f_X12_shifts this a1 σ = some (r, τ)) : sa_sh this = some (.inl 12) := sa_gd_ok h
theorem d_X12_goPath_0 : decode cX12_goPath 0 = .ok (.iconst 1, 1) := by decide +kernel
theorem d_X12_goPath_1 : decode cX12_goPath 1 = .ok (.istore 4, 2) := by decide +kernel
theorem d_X12_goPath_3 : decode cX12_goPath 3 = .ok (.iload 4, 2) := by decide +kernel
theorem d_X12_goPath_5 : decode cX12_goPath 5 = .ok (.iload_n 2, 1) := by decide +kernel
theorem d_X12_goPath_6 : decode cX12_goPath 6 = .ok (.if_icmp .ge 87, 3) := by decide +kernel
theorem d_X12_goPath_9 : decode cX12_goPath 9 = .ok (.aload_n 0, 1) := by decide +kernel
theorem d_X12_goPath_10 : decode cX12_goPath 10 = .ok (.aload_n 1, 1) := by decide +kernel
theorem d_X12_goPath_11 : decode cX12_goPath 11 = .ok (.iload 4, 2) := by decide +kernel
theorem d_X12_goPath_13 : decode cX12_goPath 13 = .ok (.iconst 1, 1) := by decide +kernel
theorem d_X12_goPath_14 : decode cX12_goPath 14 = .ok (.isub, 1) := by decide +kernel
theorem d_X12_goPath_15 : decode cX12_goPath 15 = .ok (.iaload, 1) := by decide +kernel
theorem d_X12_goPath_16 : decode cX12_goPath 16 = .ok (.aload_n 1, 1) := by decide +kernel
theorem d_X12_goPath_17 : decode cX12_goPath 17 = .ok (.iload 4, 2) := by decide +kernel
theorem d_X12_goPath_19 : decode cX12_goPath 19 = .ok (.iaload, 1) := by decide +kernel
theorem d_X12_goPath_20 : decode cX12_goPath 20 = .ok (.invokevirtual 406, 3) := by decide +kernel
theorem d_X12_goPath_23 : decode cX12_goPath 23 = .ok (.istore 5, 2) := by decide +kernel
theorem d_X12_goPath_25 : decode cX12_goPath 25 = .ok (.iconst 0, 1) := by decide +kernel
theorem d_X12_goPath_26 : decode cX12_goPath 26 = .ok (.istore 6, 2) := by decide +kernel
theorem d_X12_goPath_28 : decode cX12_goPath 28 = .ok (.iload 6, 2) := by decide +kernel
theorem d_X12_goPath_30 : decode cX12_goPath 30 = .ok (.aload_n 0, 1) := by decide +kernel
theorem d_X12_goPath_31 : decode cX12_goPath 31 = .ok (.getfield 43, 3) := by decide +kernel
theorem d_X12_goPath_34 : decode cX12_goPath 34 = .ok (.iconst 4, 1) := by decide +kernel
theorem d_X12_goPath_35 : decode cX12_goPath 35 = .ok (.iload 5, 2) := by decide +kernel
theorem d_X12_goPath_37 : decode cX12_goPath 37 = .ok (.imul, 1) := by decide +kernel
theorem d_X12_goPath_38 : decode cX12_goPath 38 = .ok (.iconst 2, 1) := by decide +kernel
theorem d_X12_goPath_39 : decode cX12_goPath 39 = .ok (.iadd, 1) := by decide +kernel
theorem d_X12_goPath_40 : decode cX12_goPath 40 = .ok (.iaload, 1) := by decide +kernel
theorem d_X12_goPath_41 : decode cX12_goPath 41 = .ok (.if_icmp .ge 17, 3) := by decide +kernel
theorem d_X12_goPath_44 : decode cX12_goPath 44 = .ok (.aload_n 0, 1) := by decide +kernel
theorem d_X12_goPath_45 : decode cX12_goPath 45 = .ok (.aload_n 1, 1) := by decide +kernel
theorem d_X12_goPath_46 : decode cX12_goPath 46 = .ok (.iload 4, 2) := by decide +kernel
theorem d_X12_goPath_48 : decode cX12_goPath 48 = .ok (.iaload, 1) := by decide +kernel
theorem d_X12_goPath_49 : decode cX12_goPath 49 = .ok (.invokevirtual 484, 3) := by decide +kernel
theorem d_X12_goPath_52 : decode cX12_goPath 52 = .ok (.iinc 6 1, 3) := by decide +kernel
theorem d_X12_goPath_55 : decode cX12_goPath 55 = .ok (.goto (-27), 3) := by decide +kernel
theorem d_X12_goPath_58 : decode cX12_goPath 58 = .ok (.aload_n 0, 1) := by decide +kernel
theorem d_X12_goPath_59 : decode cX12_goPath 59 = .ok (.aload_n 0, 1) := by decide +kernel
theorem d_X12_goPath_60 : decode cX12_goPath 60 = .ok (.getfield 43, 3) := by decide +kernel
theorem d_X12_goPath_63 : decode cX12_goPath 63 = .ok (.iconst 4, 1) := by decide +kernel
theorem d_X12_goPath_64 : decode cX12_goPath 64 = .ok (.iload 5, 2) := by decide +kernel
theorem d_X12_goPath_66 : decode cX12_goPath 66 = .ok (.imul, 1) := by decide +kernel
theorem d_X12_goPath_67 : decode cX12_goPath 67 = .ok (.iconst 3, 1) := by decide +kernel
theorem d_X12_goPath_68 : decode cX12_goPath 68 = .ok (.iadd, 1) := by decide +kernel
theorem d_X12_goPath_69 : decode cX12_goPath 69 = .ok (.iaload, 1) := by decide +kernel
theorem d_X12_goPath_70 : decode cX12_goPath 70 = .ok (.invokevirtual 487, 3) := by decide +kernel
theorem d_X12_goPath_73 : decode cX12_goPath 73 = .ok (.aload_n 1, 1) := by decide +kernel
theorem d_X12_goPath_74 : decode cX12_goPath 74 = .ok (.iload 4, 2) := by decide +kernel
theorem d_X12_goPath_76 : decode cX12_goPath 76 = .ok (.iaload, 1) := by decide +kernel
theorem d_X12_goPath_77 : decode cX12_goPath 77 = .ok (.iload_n 3, 1) := by decide +kernel
theorem d_X12_goPath_78 : decode cX12_goPath 78 = .ok (.if_icmp .ne 9, 3) := by decide +kernel
theorem d_X12_goPath_81 : decode cX12_goPath 81 = .ok (.aload_n 0, 1) := by decide +kernel
theorem d_X12_goPath_82 : decode cX12_goPath 82 = .ok (.bipush 10, 2) := by decide +kernel
theorem d_X12_goPath_84 : decode cX12_goPath 84 = .ok (.invokevirtual 487, 3) := by decide +kernel
theorem d_X12_goPath_87 : decode cX12_goPath 87 = .ok (.iinc 4 1, 3) := by decide +kernel
theorem d_X12_goPath_90 : decode cX12_goPath 90 = .ok (.goto (-87), 3) := by decide +kernel
theorem d_X12_goPath_93 : decode cX12_goPath 93 = .ok (.return_, 1) := by decide +kernel
def f_X12_goPath (this : Nat) (a1 : Nat) (a2 : Int32) (a3 : Int32) : sa_M Unit :=
sa_gd 12 this (
sa_let (1 : Int32) fun x1 =>
sa_wh1 (fun j3 (x2 : Int32) =>
if a2 ≤ x2 then
sa_ret ()
else
sa_bnd (sa_ldI .int a1 (x2 - 1)) fun v3 =>
sa_bnd (sa_ldI .int a1 x2) fun v4 =>
sa_bnd (f_X12_wayOf this v3 v4) fun v5 =>
sa_let (0 : Int32) fun x6 =>
sa_wh1 (fun j28 (x7 : Int32) =>
sa_bnd (sa_rdR 12 this 20) fun v8 =>
sa_bnd (sa_ldI .int v8 ((4 * v5) + 2)) fun v9 =>
if v9 ≤ x7 then
sa_bnd (sa_rdR 12 this 20) fun v10 =>
sa_bnd (sa_ldI .int v10 ((4 * v5) + 3)) fun v11 =>
sa_bnd (f_X12_shifts this v11) fun _ =>
sa_bnd (sa_ldI .int a1 x2) fun v12 =>
sa_jn0 (sa_let ((x2 + 1) : Int32) fun x13 =>
j3 x13) fun j87 =>
if ¬ v12 = a3 then
j87
else
sa_bnd (f_X12_shifts this 10) fun _ =>
j87
else
sa_bnd (sa_ldI .int a1 x2) fun v14 =>
sa_bnd (f_X12_rainsOn this v14) fun _ =>
sa_let ((x7 + 1) : Int32) fun x15 =>
j28 x15) sa_F x6) sa_F x1)
set_option maxHeartbeats 1000000 in
set_option maxRecDepth 10000 in
theorem b_X12_goPath {p : Program} {l : Launch} {e : Env} {s : State} {m : MethodId} {args : Array Value} {below : List Frame} {meth : Method} {c : Code} {D : va_G} {ad : Nat → Nat} {cA : FieldType → ClassId} {A : Nat → Prop} (this : Nat) (a1 : Nat) (a2 : Int32) (a3 : Int32) (C : sa_C p s m args meth c cX12_goPath RX12 "goPath" 7 none D ad cA A) : sa_Sg p l e s m args below meth c 7 133 D ad cA A sa_eV 0 [(0, .ref (ad this)), (1, .ref (ad a1)), (2, .int a2), (3, .int a3)] [] (f_X12_goPath this a1 a2 a3) := by
  unfold f_X12_goPath
  refine sa_gdI ?_
  refine sa_iconst (v := 1) C d_X12_goPath_0 (by decide) ?_
  refine sa_topi (fun x1 => ?_)
  refine sa_istore (lv' := [(4, .int x1), (0, .ref (ad this)), (1, .ref (ad a1)), (2, .int a2), (3, .int a3)]) C d_X12_goPath_1 (by decide) rfl ?_
  refine sa_sub [1, 2, 3, 4, 0] rfl (sa_loop1 (fun x2 => [(0, .ref (ad this)), (1, .ref (ad a1)), (2, .int a2), (3, .int a3), (4, .int x2)]) (fun x2 => []) (fun j3 hj3 x2 => ?_) _ _)
  refine sa_iload C d_X12_goPath_3 4 rfl ?_
  refine sa_iload_n C d_X12_goPath_5 rfl 2 rfl ?_
  refine sa_icmp_ge (tgt := 93) C d_X12_goPath_6 (by decide) ?_ ?_
  · exact sa_vret C d_X12_goPath_93
  refine sa_aload_n C d_X12_goPath_9 rfl 0 rfl ?_
  refine sa_aload_n C d_X12_goPath_10 rfl 1 rfl ?_
  refine sa_iload C d_X12_goPath_11 4 rfl ?_
  refine sa_iconst (v := 1) C d_X12_goPath_13 (by decide) ?_
  refine sa_isub C d_X12_goPath_14 ?_
  refine sa_iald C d_X12_goPath_15 (fun v3 => ?_)
  refine sa_aload_n C d_X12_goPath_16 rfl 1 rfl ?_
  refine sa_iload C d_X12_goPath_17 4 rfl ?_
  refine sa_iald C d_X12_goPath_19 (fun v4 => ?_)
  refine sa_invV (ci := 12) C (k_X12_wayOf this v3 v4) q1839 ds_X12_wayOf q128 rfl q1838 q74 q1836 (gd_X12_wayOf this v3 v4) rfl rfl rfl (Nat.le_of_ble_eq_true rfl) (by decide) (by decide) d_X12_goPath_20 (fun v5 => ?_)
  refine sa_istore (lv' := [(5, .int v5), (0, .ref (ad this)), (1, .ref (ad a1)), (2, .int a2), (3, .int a3), (4, .int x2)]) C d_X12_goPath_23 (by decide) rfl ?_
  refine sa_iconst (v := 0) C d_X12_goPath_25 (by decide) ?_
  refine sa_topi (fun x6 => ?_)
  refine sa_istore (lv' := [(6, .int x6), (5, .int v5), (0, .ref (ad this)), (1, .ref (ad a1)), (2, .int a2), (3, .int a3), (4, .int x2)]) C d_X12_goPath_26 (by decide) rfl ?_
  refine sa_sub [2, 3, 4, 5, 6, 1, 0] rfl (sa_loop1 (fun x7 => [(0, .ref (ad this)), (1, .ref (ad a1)), (2, .int a2), (3, .int a3), (4, .int x2), (5, .int v5), (6, .int x7)]) (fun x7 => []) (fun j28 hj28 x7 => ?_) _ _)
  refine sa_iload C d_X12_goPath_28 6 rfl ?_
  refine sa_aload_n C d_X12_goPath_30 rfl 0 rfl ?_
  refine sa_getR C fd_X12_43 rfl d_X12_goPath_31 (fun v8 => ?_)
  refine sa_iconst (v := 4) C d_X12_goPath_34 (by decide) ?_
  refine sa_iload C d_X12_goPath_35 5 rfl ?_
  refine sa_imul C d_X12_goPath_37 ?_
  refine sa_iconst (v := 2) C d_X12_goPath_38 (by decide) ?_
  refine sa_iadd C d_X12_goPath_39 ?_
  refine sa_iald C d_X12_goPath_40 (fun v9 => ?_)
  refine sa_icmp_ge (tgt := 58) C d_X12_goPath_41 (by decide) ?_ ?_
  · refine sa_aload_n C d_X12_goPath_58 rfl 0 rfl ?_
    refine sa_aload_n C d_X12_goPath_59 rfl 0 rfl ?_
    refine sa_getR C fd_X12_43 rfl d_X12_goPath_60 (fun v10 => ?_)
    refine sa_iconst (v := 4) C d_X12_goPath_63 (by decide) ?_
    refine sa_iload C d_X12_goPath_64 5 rfl ?_
    refine sa_imul C d_X12_goPath_66 ?_
    refine sa_iconst (v := 3) C d_X12_goPath_67 (by decide) ?_
    refine sa_iadd C d_X12_goPath_68 ?_
    refine sa_iald C d_X12_goPath_69 (fun v11 => ?_)
    refine sa_invV (ci := 12) C (k_X12_shifts this v11) q2004 ds_X12_shifts q128 rfl q2003 q100 q2001 (gd_X12_shifts this v11) rfl rfl rfl (Nat.le_of_ble_eq_true rfl) (by decide) (by decide) d_X12_goPath_70 (fun _ => ?_)
    refine sa_aload_n C d_X12_goPath_73 rfl 1 rfl ?_
    refine sa_iload C d_X12_goPath_74 4 rfl ?_
    refine sa_iald C d_X12_goPath_76 (fun v12 => ?_)
    refine sa_iload_n C d_X12_goPath_77 rfl 3 rfl ?_
    refine sa_join0 87 ([(0, .ref (ad this)), (1, .ref (ad a1)), (2, .int a2), (3, .int a3), (4, .int x2)]) ([]) (?_) (fun j87 hj87 => ?_)
    · refine sa_iinc C (fun zz => [(4, .int zz), (0, .ref (ad this)), (1, .ref (ad a1)), (2, .int a2), (3, .int a3)]) d_X12_goPath_87 4 rfl rfl (by decide) (fun _ => rfl) (fun x13 => ?_)
      refine sa_goto (tgt := 3) C d_X12_goPath_90 (by decide) ?_
      exact sa_sub [1, 2, 3, 4, 0] rfl (hj3 _)
    refine sa_icmp_ne (tgt := 87) C d_X12_goPath_78 (by decide) ?_ ?_
    · exact sa_sub [0, 1, 2, 3, 4] rfl (hj87)
    refine sa_aload_n C d_X12_goPath_81 rfl 0 rfl ?_
    refine sa_bipush (v := 10) C d_X12_goPath_82 (by decide) ?_
    refine sa_invV (ci := 12) C (k_X12_shifts this 10) q2004 ds_X12_shifts q128 rfl q2003 q100 q2001 (gd_X12_shifts this 10) rfl rfl rfl (Nat.le_of_ble_eq_true rfl) (by decide) (by decide) d_X12_goPath_84 (fun _ => ?_)
    exact sa_sub [0, 1, 2, 3, 4] rfl (hj87)
  refine sa_aload_n C d_X12_goPath_44 rfl 0 rfl ?_
  refine sa_aload_n C d_X12_goPath_45 rfl 1 rfl ?_
  refine sa_iload C d_X12_goPath_46 4 rfl ?_
  refine sa_iald C d_X12_goPath_48 (fun v14 => ?_)
  refine sa_invV (ci := 12) C (k_X12_rainsOn this v14) q1995 ds_X12_rainsOn q128 rfl q1994 q98 q1992 (gd_X12_rainsOn this v14) rfl rfl rfl (Nat.le_of_ble_eq_true rfl) (by decide) (by decide) d_X12_goPath_49 (fun _ => ?_)
  refine sa_iinc C (fun zz => [(6, .int zz), (0, .ref (ad this)), (1, .ref (ad a1)), (2, .int a2), (3, .int a3), (4, .int x2), (5, .int v5)]) d_X12_goPath_52 6 rfl rfl (by decide) (fun _ => rfl) (fun x15 => ?_)
  refine sa_goto (tgt := 28) C d_X12_goPath_55 (by decide) ?_
  exact sa_sub [1, 2, 3, 4, 5, 6, 0] rfl (hj28 _)
theorem k_X12_goPath (this : Nat) (a1 : Nat) (a2 : Int32) (a3 : Int32) : sa_Met 133 yX12_goPath cX12_goPath 7 none (fun ad => [.ref (ad this), .ref (ad a1), .int a2, .int a3]) sa_eV (f_X12_goPath this a1 a2 a3) := sa_mk (by decide) (fun ad => Nat.le_of_ble_eq_true rfl) (fun p l e s m args below meth c D ad cA A C => b_X12_goPath this a1 a2 a3 C)
theorem gd_X12_goPath (this : Nat) (a1 : Nat) (a2 : Int32) (a3 : Int32) (σ : sa_St) (r : Unit) (τ : sa_St) (h : f_X12_goPath this a1 a2 a3 σ = some (r, τ)) : sa_sh this = some (.inl 12) := sa_gd_ok h
theorem d_X12_meanNow_0 : decode cX12_meanNow 0 = .ok (.lconst 0, 1) := by decide +kernel
theorem d_X12_meanNow_1 : decode cX12_meanNow 1 = .ok (.lstore_n 1, 1) := by decide +kernel
theorem d_X12_meanNow_2 : decode cX12_meanNow 2 = .ok (.iconst 1, 1) := by decide +kernel
theorem d_X12_meanNow_3 : decode cX12_meanNow 3 = .ok (.istore_n 3, 1) := by decide +kernel
theorem d_X12_meanNow_4 : decode cX12_meanNow 4 = .ok (.iload_n 3, 1) := by decide +kernel
theorem d_X12_meanNow_5 : decode cX12_meanNow 5 = .ok (.bipush 99, 2) := by decide +kernel
theorem d_X12_meanNow_7 : decode cX12_meanNow 7 = .ok (.if_icmp .gt 21, 3) := by decide +kernel
theorem d_X12_meanNow_10 : decode cX12_meanNow 10 = .ok (.lload_n 1, 1) := by decide +kernel
theorem d_X12_meanNow_11 : decode cX12_meanNow 11 = .ok (.aload_n 0, 1) := by decide +kernel
theorem d_X12_meanNow_12 : decode cX12_meanNow 12 = .ok (.getfield 94, 3) := by decide +kernel
theorem d_X12_meanNow_15 : decode cX12_meanNow 15 = .ok (.iload_n 3, 1) := by decide +kernel
theorem d_X12_meanNow_16 : decode cX12_meanNow 16 = .ok (.laload, 1) := by decide +kernel
theorem d_X12_meanNow_17 : decode cX12_meanNow 17 = .ok (.iload_n 3, 1) := by decide +kernel
theorem d_X12_meanNow_18 : decode cX12_meanNow 18 = .ok (.i2l, 1) := by decide +kernel
theorem d_X12_meanNow_19 : decode cX12_meanNow 19 = .ok (.lmul, 1) := by decide +kernel
theorem d_X12_meanNow_20 : decode cX12_meanNow 20 = .ok (.ladd, 1) := by decide +kernel
theorem d_X12_meanNow_21 : decode cX12_meanNow 21 = .ok (.lstore_n 1, 1) := by decide +kernel
theorem d_X12_meanNow_22 : decode cX12_meanNow 22 = .ok (.iinc 3 1, 3) := by decide +kernel
theorem d_X12_meanNow_25 : decode cX12_meanNow 25 = .ok (.goto (-21), 3) := by decide +kernel
theorem d_X12_meanNow_28 : decode cX12_meanNow 28 = .ok (.lload_n 1, 1) := by decide +kernel
theorem d_X12_meanNow_29 : decode cX12_meanNow 29 = .ok (.ldc2_w 174, 3) := by decide +kernel
theorem d_X12_meanNow_32 : decode cX12_meanNow 32 = .ok (.ldiv, 1) := by decide +kernel
theorem d_X12_meanNow_33 : decode cX12_meanNow 33 = .ok (.l2i, 1) := by decide +kernel
theorem d_X12_meanNow_34 : decode cX12_meanNow 34 = .ok (.ireturn, 1) := by decide +kernel
def f_X12_meanNow (this : Nat) : sa_M Int32 :=
sa_gd 12 this (
sa_let (0 : Int64) fun x1 =>
sa_let (1 : Int32) fun x2 =>
sa_wh2 (fun j4 (x3 : Int64) (x4 : Int32) =>
if 99 < x4 then
sa_bnd (sa_dvL x3 1000000) fun v5 =>
sa_ret ((v5.toInt32) : Int32)
else
sa_bnd (sa_rdR 12 this 49) fun v6 =>
sa_bnd (sa_ldL v6 x4) fun v7 =>
sa_let ((x3 + (v7 * (x4.toInt64))) : Int64) fun x8 =>
sa_let ((x4 + 1) : Int32) fun x9 =>
j4 x8 x9) sa_F x1 x2)
set_option maxHeartbeats 1000000 in
set_option maxRecDepth 10000 in
theorem b_X12_meanNow {p : Program} {l : Launch} {e : Env} {s : State} {m : MethodId} {args : Array Value} {below : List Frame} {meth : Method} {c : Code} {D : va_G} {ad : Nat → Nat} {cA : FieldType → ClassId} {A : Nat → Prop} (this : Nat) (C : sa_C p s m args meth c cX12_meanNow RX12 "meanNow" 4 (some .int) D ad cA A) : sa_Sg p l e s m args below meth c 4 1 D ad cA A sa_eI 0 [(0, .ref (ad this))] [] (f_X12_meanNow this) := by
  unfold f_X12_meanNow
  refine sa_gdI ?_
  refine sa_lconst (v := 0) C d_X12_meanNow_0 (by decide) ?_
  refine sa_topl (fun x1 => ?_)
  refine sa_lstore_n (lv' := [(1, .long x1), (0, .ref (ad this))]) C d_X12_meanNow_1 rfl (by decide) rfl ?_
  refine sa_iconst (v := 1) C d_X12_meanNow_2 (by decide) ?_
  refine sa_topi (fun x2 => ?_)
  refine sa_istore_n (lv' := [(3, .int x2), (1, .long x1), (0, .ref (ad this))]) C d_X12_meanNow_3 rfl (by decide) rfl ?_
  refine sa_sub [2, 1, 0] rfl (sa_loop2 (fun x3 x4 => [(0, .ref (ad this)), (1, .long x3), (3, .int x4)]) (fun x3 x4 => []) (fun j4 hj4 x3 x4 => ?_) _ _ _)
  refine sa_iload_n C d_X12_meanNow_4 rfl 2 rfl ?_
  refine sa_bipush (v := 99) C d_X12_meanNow_5 (by decide) ?_
  refine sa_icmp_gt (tgt := 28) C d_X12_meanNow_7 (by decide) ?_ ?_
  · refine sa_lload_n C d_X12_meanNow_28 rfl 1 rfl ?_
    refine sa_ldc2 (v := 1000000) C d_X12_meanNow_29 q1746 ?_
    refine sa_ldiv C d_X12_meanNow_32 (fun v5 => ?_)
    refine sa_l2i C d_X12_meanNow_33 ?_
    exact sa_iret C d_X12_meanNow_34
  refine sa_lload_n C d_X12_meanNow_10 rfl 1 rfl ?_
  refine sa_aload_n C d_X12_meanNow_11 rfl 0 rfl ?_
  refine sa_getR C fd_X12_94 rfl d_X12_meanNow_12 (fun v6 => ?_)
  refine sa_iload_n C d_X12_meanNow_15 rfl 2 rfl ?_
  refine sa_lald C d_X12_meanNow_16 (fun v7 => ?_)
  refine sa_iload_n C d_X12_meanNow_17 rfl 2 rfl ?_
  refine sa_i2l C d_X12_meanNow_18 ?_
  refine sa_lmul C d_X12_meanNow_19 ?_
  refine sa_ladd C d_X12_meanNow_20 ?_
  refine sa_topl (fun x8 => ?_)
  refine sa_lstore_n (lv' := [(1, .long x8), (0, .ref (ad this)), (3, .int x4)]) C d_X12_meanNow_21 rfl (by decide) rfl ?_
  refine sa_iinc C (fun zz => [(3, .int zz), (1, .long x8), (0, .ref (ad this))]) d_X12_meanNow_22 2 rfl rfl (by decide) (fun _ => rfl) (fun x9 => ?_)
  refine sa_goto (tgt := 4) C d_X12_meanNow_25 (by decide) ?_
  exact sa_sub [2, 1, 0] rfl (hj4 _ _)
theorem k_X12_meanNow (this : Nat) : sa_Met 1 yX12_meanNow cX12_meanNow 4 (some .int) (fun ad => [.ref (ad this)]) sa_eI (f_X12_meanNow this) := sa_mk (by decide) (fun ad => Nat.le_of_ble_eq_true rfl) (fun p l e s m args below meth c D ad cA A C => b_X12_meanNow this C)
theorem gd_X12_meanNow (this : Nat) (σ : sa_St) (r : Int32) (τ : sa_St) (h : f_X12_meanNow this σ = some (r, τ)) : sa_sh this = some (.inl 12) := sa_gd_ok h
theorem d_X12_sureNow_0 : decode cX12_sureNow 0 = .ok (.ldc2_w 471, 3) := by decide +kernel
theorem d_X12_sureNow_3 : decode cX12_sureNow 3 = .ok (.aload_n 0, 1) := by decide +kernel
theorem d_X12_sureNow_4 : decode cX12_sureNow 4 = .ok (.getfield 94, 3) := by decide +kernel
theorem d_X12_sureNow_7 : decode cX12_sureNow 7 = .ok (.iconst 0, 1) := by decide +kernel
theorem d_X12_sureNow_8 : decode cX12_sureNow 8 = .ok (.laload, 1) := by decide +kernel
theorem d_X12_sureNow_9 : decode cX12_sureNow 9 = .ok (.lsub, 1) := by decide +kernel
theorem d_X12_sureNow_10 : decode cX12_sureNow 10 = .ok (.l2i, 1) := by decide +kernel
theorem d_X12_sureNow_11 : decode cX12_sureNow 11 = .ok (.ireturn, 1) := by decide +kernel
def f_X12_sureNow (this : Nat) : sa_M Int32 :=
sa_gd 12 this (
sa_bnd (sa_rdR 12 this 49) fun v1 =>
sa_bnd (sa_ldL v1 0) fun v2 =>
sa_ret (((1000000000 - v2).toInt32) : Int32))
set_option maxHeartbeats 1000000 in
set_option maxRecDepth 10000 in
theorem b_X12_sureNow {p : Program} {l : Launch} {e : Env} {s : State} {m : MethodId} {args : Array Value} {below : List Frame} {meth : Method} {c : Code} {D : va_G} {ad : Nat → Nat} {cA : FieldType → ClassId} {A : Nat → Prop} (this : Nat) (C : sa_C p s m args meth c cX12_sureNow RX12 "sureNow" 1 (some .int) D ad cA A) : sa_Sg p l e s m args below meth c 1 1 D ad cA A sa_eI 0 [(0, .ref (ad this))] [] (f_X12_sureNow this) := by
  unfold f_X12_sureNow
  refine sa_gdI ?_
  refine sa_ldc2 (v := 1000000000) C d_X12_sureNow_0 q1987 ?_
  refine sa_aload_n C d_X12_sureNow_3 rfl 0 rfl ?_
  refine sa_getR C fd_X12_94 rfl d_X12_sureNow_4 (fun v1 => ?_)
  refine sa_iconst (v := 0) C d_X12_sureNow_7 (by decide) ?_
  refine sa_lald C d_X12_sureNow_8 (fun v2 => ?_)
  refine sa_lsub C d_X12_sureNow_9 ?_
  refine sa_l2i C d_X12_sureNow_10 ?_
  exact sa_iret C d_X12_sureNow_11
theorem k_X12_sureNow (this : Nat) : sa_Met 1 yX12_sureNow cX12_sureNow 1 (some .int) (fun ad => [.ref (ad this)]) sa_eI (f_X12_sureNow this) := sa_mk (by decide) (fun ad => Nat.le_of_ble_eq_true rfl) (fun p l e s m args below meth c D ad cA A C => b_X12_sureNow this C)
theorem gd_X12_sureNow (this : Nat) (σ : sa_St) (r : Int32) (τ : sa_St) (h : f_X12_sureNow this σ = some (r, τ)) : sa_sh this = some (.inl 12) := sa_gd_ok h
theorem d_X12_takesPath_0 : decode cX12_takesPath 0 = .ok (.iconst 0, 1) := by decide +kernel
theorem d_X12_takesPath_1 : decode cX12_takesPath 1 = .ok (.istore_n 1, 1) := by decide +kernel
theorem d_X12_takesPath_2 : decode cX12_takesPath 2 = .ok (.iload_n 1, 1) := by decide +kernel
theorem d_X12_takesPath_3 : decode cX12_takesPath 3 = .ok (.aload_n 0, 1) := by decide +kernel
theorem d_X12_takesPath_4 : decode cX12_takesPath 4 = .ok (.getfield 490, 3) := by decide +kernel
theorem d_X12_takesPath_7 : decode cX12_takesPath 7 = .ok (.if_icmp .ge 21, 3) := by decide +kernel
theorem d_X12_takesPath_10 : decode cX12_takesPath 10 = .ok (.aload_n 0, 1) := by decide +kernel
theorem d_X12_takesPath_11 : decode cX12_takesPath 11 = .ok (.getfield 103, 3) := by decide +kernel
theorem d_X12_takesPath_14 : decode cX12_takesPath 14 = .ok (.iload_n 1, 1) := by decide +kernel
theorem d_X12_takesPath_15 : decode cX12_takesPath 15 = .ok (.aload_n 0, 1) := by decide +kernel
theorem d_X12_takesPath_16 : decode cX12_takesPath 16 = .ok (.getfield 100, 3) := by decide +kernel
theorem d_X12_takesPath_19 : decode cX12_takesPath 19 = .ok (.iload_n 1, 1) := by decide +kernel
theorem d_X12_takesPath_20 : decode cX12_takesPath 20 = .ok (.iaload, 1) := by decide +kernel
theorem d_X12_takesPath_21 : decode cX12_takesPath 21 = .ok (.iastore, 1) := by decide +kernel
theorem d_X12_takesPath_22 : decode cX12_takesPath 22 = .ok (.iinc 1 1, 3) := by decide +kernel
theorem d_X12_takesPath_25 : decode cX12_takesPath 25 = .ok (.goto (-23), 3) := by decide +kernel
theorem d_X12_takesPath_28 : decode cX12_takesPath 28 = .ok (.aload_n 0, 1) := by decide +kernel
theorem d_X12_takesPath_29 : decode cX12_takesPath 29 = .ok (.aload_n 0, 1) := by decide +kernel
theorem d_X12_takesPath_30 : decode cX12_takesPath 30 = .ok (.getfield 490, 3) := by decide +kernel
theorem d_X12_takesPath_33 : decode cX12_takesPath 33 = .ok (.putfield 493, 3) := by decide +kernel
theorem d_X12_takesPath_36 : decode cX12_takesPath 36 = .ok (.aload_n 0, 1) := by decide +kernel
theorem d_X12_takesPath_37 : decode cX12_takesPath 37 = .ok (.aload_n 0, 1) := by decide +kernel
theorem d_X12_takesPath_38 : decode cX12_takesPath 38 = .ok (.getfield 496, 3) := by decide +kernel
theorem d_X12_takesPath_41 : decode cX12_takesPath 41 = .ok (.putfield 499, 3) := by decide +kernel
theorem d_X12_takesPath_44 : decode cX12_takesPath 44 = .ok (.aload_n 0, 1) := by decide +kernel
theorem d_X12_takesPath_45 : decode cX12_takesPath 45 = .ok (.aload_n 0, 1) := by decide +kernel
theorem d_X12_takesPath_46 : decode cX12_takesPath 46 = .ok (.invokevirtual 502, 3) := by decide +kernel
theorem d_X12_takesPath_49 : decode cX12_takesPath 49 = .ok (.putfield 505, 3) := by decide +kernel
theorem d_X12_takesPath_52 : decode cX12_takesPath 52 = .ok (.aload_n 0, 1) := by decide +kernel
theorem d_X12_takesPath_53 : decode cX12_takesPath 53 = .ok (.aload_n 0, 1) := by decide +kernel
theorem d_X12_takesPath_54 : decode cX12_takesPath 54 = .ok (.invokevirtual 508, 3) := by decide +kernel
theorem d_X12_takesPath_57 : decode cX12_takesPath 57 = .ok (.putfield 511, 3) := by decide +kernel
theorem d_X12_takesPath_60 : decode cX12_takesPath 60 = .ok (.return_, 1) := by decide +kernel
def f_X12_takesPath (this : Nat) : sa_M Unit :=
sa_gd 12 this (
sa_let (0 : Int32) fun x1 =>
sa_wh1 (fun j2 (x2 : Int32) =>
sa_bnd (sa_rdI 12 this 53) fun v3 =>
if v3 ≤ x2 then
sa_bnd (sa_rdI 12 this 53) fun v4 =>
sa_bnd (sa_wrI 12 this 55 v4) fun _ =>
sa_bnd (sa_rdI 12 this 54) fun v5 =>
sa_bnd (sa_wrI 12 this 56 v5) fun _ =>
sa_bnd (f_X12_meanNow this) fun v6 =>
sa_bnd (sa_wrI 12 this 57 v6) fun _ =>
sa_bnd (f_X12_sureNow this) fun v7 =>
sa_bnd (sa_wrI 12 this 58 v7) fun _ =>
sa_ret ()
else
sa_bnd (sa_rdR 12 this 52) fun v8 =>
sa_bnd (sa_rdR 12 this 51) fun v9 =>
sa_bnd (sa_ldI .int v9 x2) fun v10 =>
sa_bnd (sa_stI v8 x2 v10) fun _ =>
sa_let ((x2 + 1) : Int32) fun x11 =>
j2 x11) sa_F x1)
set_option maxHeartbeats 1000000 in
set_option maxRecDepth 10000 in
theorem b_X12_takesPath {p : Program} {l : Launch} {e : Env} {s : State} {m : MethodId} {args : Array Value} {below : List Frame} {meth : Method} {c : Code} {D : va_G} {ad : Nat → Nat} {cA : FieldType → ClassId} {A : Nat → Prop} (this : Nat) (C : sa_C p s m args meth c cX12_takesPath RX12 "takesPath" 2 none D ad cA A) : sa_Sg p l e s m args below meth c 2 2 D ad cA A sa_eV 0 [(0, .ref (ad this))] [] (f_X12_takesPath this) := by
  unfold f_X12_takesPath
  refine sa_gdI ?_
  refine sa_iconst (v := 0) C d_X12_takesPath_0 (by decide) ?_
  refine sa_topi (fun x1 => ?_)
  refine sa_istore_n (lv' := [(1, .int x1), (0, .ref (ad this))]) C d_X12_takesPath_1 rfl (by decide) rfl ?_
  refine sa_sub [1, 0] rfl (sa_loop1 (fun x2 => [(0, .ref (ad this)), (1, .int x2)]) (fun x2 => []) (fun j2 hj2 x2 => ?_) _ _)
  refine sa_iload_n C d_X12_takesPath_2 rfl 1 rfl ?_
  refine sa_aload_n C d_X12_takesPath_3 rfl 0 rfl ?_
  refine sa_getI C fd_X12_490 d_X12_takesPath_4 (fun v3 => ?_)
  refine sa_icmp_ge (tgt := 28) C d_X12_takesPath_7 (by decide) ?_ ?_
  · refine sa_aload_n C d_X12_takesPath_28 rfl 0 rfl ?_
    refine sa_aload_n C d_X12_takesPath_29 rfl 0 rfl ?_
    refine sa_getI C fd_X12_490 d_X12_takesPath_30 (fun v4 => ?_)
    refine sa_putI C fd_X12_493 d_X12_takesPath_33 ?_
    refine sa_aload_n C d_X12_takesPath_36 rfl 0 rfl ?_
    refine sa_aload_n C d_X12_takesPath_37 rfl 0 rfl ?_
    refine sa_getI C fd_X12_496 d_X12_takesPath_38 (fun v5 => ?_)
    refine sa_putI C fd_X12_499 d_X12_takesPath_41 ?_
    refine sa_aload_n C d_X12_takesPath_44 rfl 0 rfl ?_
    refine sa_aload_n C d_X12_takesPath_45 rfl 0 rfl ?_
    refine sa_invV (ci := 12) C (k_X12_meanNow this) q2008 ds_X12_meanNow q128 rfl q2007 q101 q2005 (gd_X12_meanNow this) rfl rfl rfl (Nat.le_of_ble_eq_true rfl) (by decide) (by decide) d_X12_takesPath_46 (fun v6 => ?_)
    refine sa_putI C fd_X12_505 d_X12_takesPath_49 ?_
    refine sa_aload_n C d_X12_takesPath_52 rfl 0 rfl ?_
    refine sa_aload_n C d_X12_takesPath_53 rfl 0 rfl ?_
    refine sa_invV (ci := 12) C (k_X12_sureNow this) q2016 ds_X12_sureNow q128 rfl q2015 q103 q2013 (gd_X12_sureNow this) rfl rfl rfl (Nat.le_of_ble_eq_true rfl) (by decide) (by decide) d_X12_takesPath_54 (fun v7 => ?_)
    refine sa_putI C fd_X12_511 d_X12_takesPath_57 ?_
    exact sa_vret C d_X12_takesPath_60
  refine sa_aload_n C d_X12_takesPath_10 rfl 0 rfl ?_
  refine sa_getR C fd_X12_103 rfl d_X12_takesPath_11 (fun v8 => ?_)
  refine sa_iload_n C d_X12_takesPath_14 rfl 1 rfl ?_
  refine sa_aload_n C d_X12_takesPath_15 rfl 0 rfl ?_
  refine sa_getR C fd_X12_100 rfl d_X12_takesPath_16 (fun v9 => ?_)
  refine sa_iload_n C d_X12_takesPath_19 rfl 1 rfl ?_
  refine sa_iald C d_X12_takesPath_20 (fun v10 => ?_)
  refine sa_iast C d_X12_takesPath_21 ?_
  refine sa_iinc C (fun zz => [(1, .int zz), (0, .ref (ad this))]) d_X12_takesPath_22 1 rfl rfl (by decide) (fun _ => rfl) (fun x11 => ?_)
  refine sa_goto (tgt := 2) C d_X12_takesPath_25 (by decide) ?_
  exact sa_sub [1, 0] rfl (hj2 _)
theorem k_X12_takesPath (this : Nat) : sa_Met 2 yX12_takesPath cX12_takesPath 2 none (fun ad => [.ref (ad this)]) sa_eV (f_X12_takesPath this) := sa_mk (by decide) (fun ad => Nat.le_of_ble_eq_true rfl) (fun p l e s m args below meth c D ad cA A C => b_X12_takesPath this C)
theorem gd_X12_takesPath (this : Nat) (σ : sa_St) (r : Unit) (τ : sa_St) (h : f_X12_takesPath this σ = some (r, τ)) : sa_sh this = some (.inl 12) := sa_gd_ok h
theorem d_X12_meanBy_0 : decode cX12_meanBy 0 = .ok (.aload_n 0, 1) := by decide +kernel
theorem d_X12_meanBy_1 : decode cX12_meanBy 1 = .ok (.iload_n 1, 1) := by decide +kernel
theorem d_X12_meanBy_2 : decode cX12_meanBy 2 = .ok (.invokevirtual 520, 3) := by decide +kernel
theorem d_X12_meanBy_5 : decode cX12_meanBy 5 = .ok (.aload_n 0, 1) := by decide +kernel
theorem d_X12_meanBy_6 : decode cX12_meanBy 6 = .ok (.aload_n 2, 1) := by decide +kernel
theorem d_X12_meanBy_7 : decode cX12_meanBy 7 = .ok (.iload_n 3, 1) := by decide +kernel
theorem d_X12_meanBy_8 : decode cX12_meanBy 8 = .ok (.iload 4, 2) := by decide +kernel
theorem d_X12_meanBy_10 : decode cX12_meanBy 10 = .ok (.invokevirtual 523, 3) := by decide +kernel
theorem d_X12_meanBy_13 : decode cX12_meanBy 13 = .ok (.aload_n 0, 1) := by decide +kernel
theorem d_X12_meanBy_14 : decode cX12_meanBy 14 = .ok (.invokevirtual 502, 3) := by decide +kernel
theorem d_X12_meanBy_17 : decode cX12_meanBy 17 = .ok (.ireturn, 1) := by decide +kernel
def f_X12_meanBy (this : Nat) (a1 : Int32) (a2 : Nat) (a3 : Int32) (a4 : Int32) : sa_M Int32 :=
sa_gd 12 this (
sa_bnd (f_X12_beginsParts this a1) fun _ =>
sa_bnd (f_X12_goPath this a2 a3 a4) fun _ =>
sa_bnd (f_X12_meanNow this) fun v1 =>
sa_ret (v1 : Int32))
set_option maxHeartbeats 1000000 in
set_option maxRecDepth 10000 in
theorem b_X12_meanBy {p : Program} {l : Launch} {e : Env} {s : State} {m : MethodId} {args : Array Value} {below : List Frame} {meth : Method} {c : Code} {D : va_G} {ad : Nat → Nat} {cA : FieldType → ClassId} {A : Nat → Prop} (this : Nat) (a1 : Int32) (a2 : Nat) (a3 : Int32) (a4 : Int32) (C : sa_C p s m args meth c cX12_meanBy RX12 "meanBy" 5 (some .int) D ad cA A) : sa_Sg p l e s m args below meth c 5 134 D ad cA A sa_eI 0 [(0, .ref (ad this)), (1, .int a1), (2, .ref (ad a2)), (3, .int a3), (4, .int a4)] [] (f_X12_meanBy this a1 a2 a3 a4) := by
  unfold f_X12_meanBy
  refine sa_gdI ?_
  refine sa_aload_n C d_X12_meanBy_0 rfl 0 rfl ?_
  refine sa_iload_n C d_X12_meanBy_1 rfl 1 rfl ?_
  refine sa_invV (ci := 12) C (k_X12_beginsParts this a1) q1986 ds_X12_beginsParts q128 rfl q1985 q96 q1983 (gd_X12_beginsParts this a1) rfl rfl rfl (Nat.le_of_ble_eq_true rfl) (by decide) (by decide) d_X12_meanBy_2 (fun _ => ?_)
  refine sa_aload_n C d_X12_meanBy_5 rfl 0 rfl ?_
  refine sa_aload_n C d_X12_meanBy_6 rfl 2 rfl ?_
  refine sa_iload_n C d_X12_meanBy_7 rfl 3 rfl ?_
  refine sa_iload C d_X12_meanBy_8 4 rfl ?_
  refine sa_invV (ci := 12) C (k_X12_goPath this a2 a3 a4) q1991 ds_X12_goPath q128 rfl q1990 q97 q1988 (gd_X12_goPath this a2 a3 a4) rfl rfl rfl (Nat.le_of_ble_eq_true rfl) (by decide) (by decide) d_X12_meanBy_10 (fun _ => ?_)
  refine sa_aload_n C d_X12_meanBy_13 rfl 0 rfl ?_
  refine sa_invV (ci := 12) C (k_X12_meanNow this) q2008 ds_X12_meanNow q128 rfl q2007 q101 q2005 (gd_X12_meanNow this) rfl rfl rfl (Nat.le_of_ble_eq_true rfl) (by decide) (by decide) d_X12_meanBy_14 (fun v1 => ?_)
  exact sa_iret C d_X12_meanBy_17
theorem k_X12_meanBy (this : Nat) (a1 : Int32) (a2 : Nat) (a3 : Int32) (a4 : Int32) : sa_Met 134 yX12_meanBy cX12_meanBy 5 (some .int) (fun ad => [.ref (ad this), .int a1, .ref (ad a2), .int a3, .int a4]) sa_eI (f_X12_meanBy this a1 a2 a3 a4) := sa_mk (by decide) (fun ad => Nat.le_of_ble_eq_true rfl) (fun p l e s m args below meth c D ad cA A C => b_X12_meanBy this a1 a2 a3 a4 C)
theorem gd_X12_meanBy (this : Nat) (a1 : Int32) (a2 : Nat) (a3 : Int32) (a4 : Int32) (σ : sa_St) (r : Int32) (τ : sa_St) (h : f_X12_meanBy this a1 a2 a3 a4 σ = some (r, τ)) : sa_sh this = some (.inl 12) := sa_gd_ok h
theorem d_X12_looksAtAmbush_0 : decode cX12_looksAtAmbush 0 = .ok (.aload_n 0, 1) := by decide +kernel
theorem d_X12_looksAtAmbush_1 : decode cX12_looksAtAmbush 1 = .ok (.iload_n 1, 1) := by decide +kernel
theorem d_X12_looksAtAmbush_2 : decode cX12_looksAtAmbush 2 = .ok (.aload_n 0, 1) := by decide +kernel
theorem d_X12_looksAtAmbush_3 : decode cX12_looksAtAmbush 3 = .ok (.getfield 100, 3) := by decide +kernel
theorem d_X12_looksAtAmbush_6 : decode cX12_looksAtAmbush 6 = .ok (.aload_n 0, 1) := by decide +kernel
theorem d_X12_looksAtAmbush_7 : decode cX12_looksAtAmbush 7 = .ok (.getfield 490, 3) := by decide +kernel
theorem d_X12_looksAtAmbush_10 : decode cX12_looksAtAmbush 10 = .ok (.iconst (-1), 1) := by decide +kernel
theorem d_X12_looksAtAmbush_11 : decode cX12_looksAtAmbush 11 = .ok (.invokevirtual 541, 3) := by decide +kernel
theorem d_X12_looksAtAmbush_14 : decode cX12_looksAtAmbush 14 = .ok (.istore_n 2, 1) := by decide +kernel
theorem d_X12_looksAtAmbush_15 : decode cX12_looksAtAmbush 15 = .ok (.iconst 1, 1) := by decide +kernel
theorem d_X12_looksAtAmbush_16 : decode cX12_looksAtAmbush 16 = .ok (.istore_n 3, 1) := by decide +kernel
theorem d_X12_looksAtAmbush_17 : decode cX12_looksAtAmbush 17 = .ok (.iload_n 3, 1) := by decide +kernel
theorem d_X12_looksAtAmbush_18 : decode cX12_looksAtAmbush 18 = .ok (.aload_n 0, 1) := by decide +kernel
theorem d_X12_looksAtAmbush_19 : decode cX12_looksAtAmbush 19 = .ok (.getfield 490, 3) := by decide +kernel
theorem d_X12_looksAtAmbush_22 : decode cX12_looksAtAmbush 22 = .ok (.if_icmp .ge 33, 3) := by decide +kernel
theorem d_X12_looksAtAmbush_25 : decode cX12_looksAtAmbush 25 = .ok (.iload_n 2, 1) := by decide +kernel
theorem d_X12_looksAtAmbush_26 : decode cX12_looksAtAmbush 26 = .ok (.aload_n 0, 1) := by decide +kernel
theorem d_X12_looksAtAmbush_27 : decode cX12_looksAtAmbush 27 = .ok (.iload_n 1, 1) := by decide +kernel
theorem d_X12_looksAtAmbush_28 : decode cX12_looksAtAmbush 28 = .ok (.aload_n 0, 1) := by decide +kernel
theorem d_X12_looksAtAmbush_29 : decode cX12_looksAtAmbush 29 = .ok (.getfield 100, 3) := by decide +kernel
theorem d_X12_looksAtAmbush_32 : decode cX12_looksAtAmbush 32 = .ok (.aload_n 0, 1) := by decide +kernel
theorem d_X12_looksAtAmbush_33 : decode cX12_looksAtAmbush 33 = .ok (.getfield 490, 3) := by decide +kernel
theorem d_X12_looksAtAmbush_36 : decode cX12_looksAtAmbush 36 = .ok (.aload_n 0, 1) := by decide +kernel
theorem d_X12_looksAtAmbush_37 : decode cX12_looksAtAmbush 37 = .ok (.getfield 100, 3) := by decide +kernel
theorem d_X12_looksAtAmbush_40 : decode cX12_looksAtAmbush 40 = .ok (.iload_n 3, 1) := by decide +kernel
theorem d_X12_looksAtAmbush_41 : decode cX12_looksAtAmbush 41 = .ok (.iaload, 1) := by decide +kernel
theorem d_X12_looksAtAmbush_42 : decode cX12_looksAtAmbush 42 = .ok (.invokevirtual 541, 3) := by decide +kernel
theorem d_X12_looksAtAmbush_45 : decode cX12_looksAtAmbush 45 = .ok (.invokestatic 356, 3) := by decide +kernel
theorem d_X12_looksAtAmbush_48 : decode cX12_looksAtAmbush 48 = .ok (.istore_n 2, 1) := by decide +kernel
theorem d_X12_looksAtAmbush_49 : decode cX12_looksAtAmbush 49 = .ok (.iinc 3 1, 3) := by decide +kernel
theorem d_X12_looksAtAmbush_52 : decode cX12_looksAtAmbush 52 = .ok (.goto (-35), 3) := by decide +kernel
theorem d_X12_looksAtAmbush_55 : decode cX12_looksAtAmbush 55 = .ok (.aload_n 0, 1) := by decide +kernel
theorem d_X12_looksAtAmbush_56 : decode cX12_looksAtAmbush 56 = .ok (.getfield 493, 3) := by decide +kernel
theorem d_X12_looksAtAmbush_59 : decode cX12_looksAtAmbush 59 = .ok (.ifCond .le 12, 3) := by decide +kernel
theorem d_X12_looksAtAmbush_62 : decode cX12_looksAtAmbush 62 = .ok (.iload_n 2, 1) := by decide +kernel
theorem d_X12_looksAtAmbush_63 : decode cX12_looksAtAmbush 63 = .ok (.aload_n 0, 1) := by decide +kernel
theorem d_X12_looksAtAmbush_64 : decode cX12_looksAtAmbush 64 = .ok (.getfield 505, 3) := by decide +kernel
theorem d_X12_looksAtAmbush_67 : decode cX12_looksAtAmbush 67 = .ok (.if_icmp .gt 4, 3) := by decide +kernel
theorem d_X12_looksAtAmbush_70 : decode cX12_looksAtAmbush 70 = .ok (.return_, 1) := by decide +kernel
theorem d_X12_looksAtAmbush_71 : decode cX12_looksAtAmbush 71 = .ok (.aload_n 0, 1) := by decide +kernel
theorem d_X12_looksAtAmbush_72 : decode cX12_looksAtAmbush 72 = .ok (.invokevirtual 526, 3) := by decide +kernel
theorem d_X12_looksAtAmbush_75 : decode cX12_looksAtAmbush 75 = .ok (.aload_n 0, 1) := by decide +kernel
theorem d_X12_looksAtAmbush_76 : decode cX12_looksAtAmbush 76 = .ok (.iload_n 2, 1) := by decide +kernel
theorem d_X12_looksAtAmbush_77 : decode cX12_looksAtAmbush 77 = .ok (.putfield 505, 3) := by decide +kernel
theorem d_X12_looksAtAmbush_80 : decode cX12_looksAtAmbush 80 = .ok (.return_, 1) := by decide +kernel
def f_X12_looksAtAmbush (this : Nat) (a1 : Int32) : sa_M Unit :=
sa_gd 12 this (
sa_bnd (sa_rdR 12 this 51) fun v1 =>
sa_bnd (sa_rdI 12 this 53) fun v2 =>
sa_bnd (f_X12_meanBy this a1 v1 v2 (-1)) fun v3 =>
sa_let (1 : Int32) fun x4 =>
sa_wh2 (fun j17 (x5 : Int32) (x6 : Int32) =>
sa_bnd (sa_rdI 12 this 53) fun v7 =>
if v7 ≤ x6 then
sa_bnd (sa_rdI 12 this 55) fun v8 =>
sa_jn0 (sa_bnd (f_X12_takesPath this) fun _ =>
sa_bnd (sa_wrI 12 this 57 x5) fun _ =>
sa_ret ()) fun j71 =>
if v8 ≤ 0 then
j71
else
sa_bnd (sa_rdI 12 this 57) fun v9 =>
if v9 < x5 then
j71
else
sa_ret ()
else
sa_bnd (sa_rdR 12 this 51) fun v10 =>
sa_bnd (sa_rdI 12 this 53) fun v11 =>
sa_bnd (sa_rdR 12 this 51) fun v12 =>
sa_bnd (sa_ldI .int v12 x6) fun v13 =>
sa_bnd (f_X12_meanBy this a1 v10 v11 v13) fun v14 =>
sa_let ((sa_min x5 v14) : Int32) fun x15 =>
sa_let ((x6 + 1) : Int32) fun x16 =>
j17 x15 x16) sa_F v3 x4)
set_option maxHeartbeats 1000000 in
set_option maxRecDepth 10000 in
theorem b_X12_looksAtAmbush {p : Program} {l : Launch} {e : Env} {s : State} {m : MethodId} {args : Array Value} {below : List Frame} {meth : Method} {c : Code} {D : va_G} {ad : Nat → Nat} {cA : FieldType → ClassId} {A : Nat → Prop} (this : Nat) (a1 : Int32) (C : sa_C p s m args meth c cX12_looksAtAmbush RX12 "looksAtAmbush" 4 none D ad cA A) : sa_Sg p l e s m args below meth c 4 135 D ad cA A sa_eV 0 [(0, .ref (ad this)), (1, .int a1)] [] (f_X12_looksAtAmbush this a1) := by
  unfold f_X12_looksAtAmbush
  refine sa_gdI ?_
  refine sa_aload_n C d_X12_looksAtAmbush_0 rfl 0 rfl ?_
  refine sa_iload_n C d_X12_looksAtAmbush_1 rfl 1 rfl ?_
  refine sa_aload_n C d_X12_looksAtAmbush_2 rfl 0 rfl ?_
  refine sa_getR C fd_X12_100 rfl d_X12_looksAtAmbush_3 (fun v1 => ?_)
  refine sa_aload_n C d_X12_looksAtAmbush_6 rfl 0 rfl ?_
  refine sa_getI C fd_X12_490 d_X12_looksAtAmbush_7 (fun v2 => ?_)
  refine sa_iconst (v := (-1)) C d_X12_looksAtAmbush_10 (by decide) ?_
  refine sa_invV (ci := 12) C (k_X12_meanBy this a1 v1 v2 (-1)) q1982 ds_X12_meanBy q128 rfl q1981 q95 q1979 (gd_X12_meanBy this a1 v1 v2 (-1)) rfl rfl rfl (Nat.le_of_ble_eq_true rfl) (by decide) (by decide) d_X12_looksAtAmbush_11 (fun v3 => ?_)
  refine sa_istore_n (lv' := [(2, .int v3), (0, .ref (ad this)), (1, .int a1)]) C d_X12_looksAtAmbush_14 rfl (by decide) rfl ?_
  refine sa_iconst (v := 1) C d_X12_looksAtAmbush_15 (by decide) ?_
  refine sa_topi (fun x4 => ?_)
  refine sa_istore_n (lv' := [(3, .int x4), (2, .int v3), (0, .ref (ad this)), (1, .int a1)]) C d_X12_looksAtAmbush_16 rfl (by decide) rfl ?_
  refine sa_sub [2, 3, 1, 0] rfl (sa_loop2 (fun x5 x6 => [(0, .ref (ad this)), (1, .int a1), (2, .int x5), (3, .int x6)]) (fun x5 x6 => []) (fun j17 hj17 x5 x6 => ?_) _ _ _)
  refine sa_iload_n C d_X12_looksAtAmbush_17 rfl 3 rfl ?_
  refine sa_aload_n C d_X12_looksAtAmbush_18 rfl 0 rfl ?_
  refine sa_getI C fd_X12_490 d_X12_looksAtAmbush_19 (fun v7 => ?_)
  refine sa_icmp_ge (tgt := 55) C d_X12_looksAtAmbush_22 (by decide) ?_ ?_
  · refine sa_aload_n C d_X12_looksAtAmbush_55 rfl 0 rfl ?_
    refine sa_getI C fd_X12_493 d_X12_looksAtAmbush_56 (fun v8 => ?_)
    refine sa_join0 71 ([(0, .ref (ad this)), (2, .int x5)]) ([]) (?_) (fun j71 hj71 => ?_)
    · refine sa_aload_n C d_X12_looksAtAmbush_71 rfl 0 rfl ?_
      refine sa_invV (ci := 12) C (k_X12_takesPath this) q2012 ds_X12_takesPath q128 rfl q2011 q102 q2009 (gd_X12_takesPath this) rfl rfl rfl (Nat.le_of_ble_eq_true rfl) (by decide) (by decide) d_X12_looksAtAmbush_72 (fun _ => ?_)
      refine sa_aload_n C d_X12_looksAtAmbush_75 rfl 0 rfl ?_
      refine sa_iload_n C d_X12_looksAtAmbush_76 rfl 1 rfl ?_
      refine sa_putI C fd_X12_505 d_X12_looksAtAmbush_77 ?_
      exact sa_vret C d_X12_looksAtAmbush_80
    refine sa_if_le (tgt := 71) C d_X12_looksAtAmbush_59 (by decide) ?_ ?_
    · exact sa_sub [0, 2] rfl (hj71)
    refine sa_iload_n C d_X12_looksAtAmbush_62 rfl 2 rfl ?_
    refine sa_aload_n C d_X12_looksAtAmbush_63 rfl 0 rfl ?_
    refine sa_getI C fd_X12_505 d_X12_looksAtAmbush_64 (fun v9 => ?_)
    refine sa_icmp_gt (tgt := 71) C d_X12_looksAtAmbush_67 (by decide) ?_ ?_
    · exact sa_sub [0, 2] rfl (hj71)
    exact sa_vret C d_X12_looksAtAmbush_70
  refine sa_iload_n C d_X12_looksAtAmbush_25 rfl 2 rfl ?_
  refine sa_aload_n C d_X12_looksAtAmbush_26 rfl 0 rfl ?_
  refine sa_iload_n C d_X12_looksAtAmbush_27 rfl 1 rfl ?_
  refine sa_aload_n C d_X12_looksAtAmbush_28 rfl 0 rfl ?_
  refine sa_getR C fd_X12_100 rfl d_X12_looksAtAmbush_29 (fun v10 => ?_)
  refine sa_aload_n C d_X12_looksAtAmbush_32 rfl 0 rfl ?_
  refine sa_getI C fd_X12_490 d_X12_looksAtAmbush_33 (fun v11 => ?_)
  refine sa_aload_n C d_X12_looksAtAmbush_36 rfl 0 rfl ?_
  refine sa_getR C fd_X12_100 rfl d_X12_looksAtAmbush_37 (fun v12 => ?_)
  refine sa_iload_n C d_X12_looksAtAmbush_40 rfl 3 rfl ?_
  refine sa_iald C d_X12_looksAtAmbush_41 (fun v13 => ?_)
  refine sa_invV (ci := 12) C (k_X12_meanBy this a1 v10 v11 v13) q1982 ds_X12_meanBy q128 rfl q1981 q95 q1979 (gd_X12_meanBy this a1 v10 v11 v13) rfl rfl rfl (Nat.le_of_ble_eq_true rfl) (by decide) (by decide) d_X12_looksAtAmbush_42 (fun v14 => ?_)
  refine sa_mmin C q1819 (Nat.le_of_ble_eq_true rfl) (by decide) q530 q130 q531 d_X12_looksAtAmbush_45 ?_
  refine sa_topi (fun x15 => ?_)
  refine sa_istore_n (lv' := [(2, .int x15), (0, .ref (ad this)), (1, .int a1), (3, .int x6)]) C d_X12_looksAtAmbush_48 rfl (by decide) rfl ?_
  refine sa_iinc C (fun zz => [(3, .int zz), (2, .int x15), (0, .ref (ad this)), (1, .int a1)]) d_X12_looksAtAmbush_49 3 rfl rfl (by decide) (fun _ => rfl) (fun x16 => ?_)
  refine sa_goto (tgt := 17) C d_X12_looksAtAmbush_52 (by decide) ?_
  exact sa_sub [2, 3, 1, 0] rfl (hj17 _ _)
theorem k_X12_looksAtAmbush (this : Nat) (a1 : Int32) : sa_Met 135 yX12_looksAtAmbush cX12_looksAtAmbush 4 none (fun ad => [.ref (ad this), .int a1]) sa_eV (f_X12_looksAtAmbush this a1) := sa_mk (by decide) (fun ad => Nat.le_of_ble_eq_true rfl) (fun p l e s m args below meth c D ad cA A C => b_X12_looksAtAmbush this a1 C)
theorem gd_X12_looksAtAmbush (this : Nat) (a1 : Int32) (σ : sa_St) (r : Unit) (τ : sa_St) (h : f_X12_looksAtAmbush this a1 σ = some (r, τ)) : sa_sh this = some (.inl 12) := sa_gd_ok h
theorem d_X12_arrives_0 : decode cX12_arrives 0 = .ok (.aload_n 0, 1) := by decide +kernel
theorem d_X12_arrives_1 : decode cX12_arrives 1 = .ok (.dup, 1) := by decide +kernel
theorem d_X12_arrives_2 : decode cX12_arrives 2 = .ok (.getfield 514, 3) := by decide +kernel
theorem d_X12_arrives_5 : decode cX12_arrives 5 = .ok (.iconst 1, 1) := by decide +kernel
theorem d_X12_arrives_6 : decode cX12_arrives 6 = .ok (.iadd, 1) := by decide +kernel
theorem d_X12_arrives_7 : decode cX12_arrives 7 = .ok (.putfield 514, 3) := by decide +kernel
theorem d_X12_arrives_10 : decode cX12_arrives 10 = .ok (.aload_n 0, 1) := by decide +kernel
theorem d_X12_arrives_11 : decode cX12_arrives 11 = .ok (.getfield 514, 3) := by decide +kernel
theorem d_X12_arrives_14 : decode cX12_arrives 14 = .ok (.sipush 200, 3) := by decide +kernel
theorem d_X12_arrives_17 : decode cX12_arrives 17 = .ok (.if_icmp .le 4, 3) := by decide +kernel
theorem d_X12_arrives_20 : decode cX12_arrives 20 = .ok (.return_, 1) := by decide +kernel
theorem d_X12_arrives_21 : decode cX12_arrives 21 = .ok (.iload_n 2, 1) := by decide +kernel
theorem d_X12_arrives_22 : decode cX12_arrives 22 = .ok (.iconst 3, 1) := by decide +kernel
theorem d_X12_arrives_23 : decode cX12_arrives 23 = .ok (.if_icmp .ne 9, 3) := by decide +kernel
theorem d_X12_arrives_26 : decode cX12_arrives 26 = .ok (.aload_n 0, 1) := by decide +kernel
theorem d_X12_arrives_27 : decode cX12_arrives 27 = .ok (.iload_n 1, 1) := by decide +kernel
theorem d_X12_arrives_28 : decode cX12_arrives 28 = .ok (.invokevirtual 517, 3) := by decide +kernel
theorem d_X12_arrives_31 : decode cX12_arrives 31 = .ok (.return_, 1) := by decide +kernel
theorem d_X12_arrives_32 : decode cX12_arrives 32 = .ok (.aload_n 0, 1) := by decide +kernel
theorem d_X12_arrives_33 : decode cX12_arrives 33 = .ok (.iload_n 1, 1) := by decide +kernel
theorem d_X12_arrives_34 : decode cX12_arrives 34 = .ok (.invokevirtual 520, 3) := by decide +kernel
theorem d_X12_arrives_37 : decode cX12_arrives 37 = .ok (.aload_n 0, 1) := by decide +kernel
theorem d_X12_arrives_38 : decode cX12_arrives 38 = .ok (.aload_n 0, 1) := by decide +kernel
theorem d_X12_arrives_39 : decode cX12_arrives 39 = .ok (.getfield 100, 3) := by decide +kernel
theorem d_X12_arrives_42 : decode cX12_arrives 42 = .ok (.aload_n 0, 1) := by decide +kernel
theorem d_X12_arrives_43 : decode cX12_arrives 43 = .ok (.getfield 490, 3) := by decide +kernel
theorem d_X12_arrives_46 : decode cX12_arrives 46 = .ok (.iconst (-1), 1) := by decide +kernel
theorem d_X12_arrives_47 : decode cX12_arrives 47 = .ok (.invokevirtual 523, 3) := by decide +kernel
theorem d_X12_arrives_50 : decode cX12_arrives 50 = .ok (.aload_n 0, 1) := by decide +kernel
theorem d_X12_arrives_51 : decode cX12_arrives 51 = .ok (.getfield 493, 3) := by decide +kernel
theorem d_X12_arrives_54 : decode cX12_arrives 54 = .ok (.ifCond .eq 51, 3) := by decide +kernel
theorem d_X12_arrives_57 : decode cX12_arrives 57 = .ok (.iload_n 2, 1) := by decide +kernel
theorem d_X12_arrives_58 : decode cX12_arrives 58 = .ok (.ifCond .ne 17, 3) := by decide +kernel
theorem d_X12_arrives_61 : decode cX12_arrives 61 = .ok (.aload_n 0, 1) := by decide +kernel
theorem d_X12_arrives_62 : decode cX12_arrives 62 = .ok (.invokevirtual 502, 3) := by decide +kernel
theorem d_X12_arrives_65 : decode cX12_arrives 65 = .ok (.aload_n 0, 1) := by decide +kernel
theorem d_X12_arrives_66 : decode cX12_arrives 66 = .ok (.getfield 505, 3) := by decide +kernel
theorem d_X12_arrives_69 : decode cX12_arrives 69 = .ok (.if_icmp .le 40, 3) := by decide +kernel
theorem d_X12_arrives_72 : decode cX12_arrives 72 = .ok (.goto 33, 3) := by decide +kernel
theorem d_X12_arrives_75 : decode cX12_arrives 75 = .ok (.iload_n 2, 1) := by decide +kernel
theorem d_X12_arrives_76 : decode cX12_arrives 76 = .ok (.iconst 1, 1) := by decide +kernel
theorem d_X12_arrives_77 : decode cX12_arrives 77 = .ok (.if_icmp .ne 17, 3) := by decide +kernel
theorem d_X12_arrives_80 : decode cX12_arrives 80 = .ok (.aload_n 0, 1) := by decide +kernel
theorem d_X12_arrives_81 : decode cX12_arrives 81 = .ok (.invokevirtual 508, 3) := by decide +kernel
theorem d_X12_arrives_84 : decode cX12_arrives 84 = .ok (.aload_n 0, 1) := by decide +kernel
theorem d_X12_arrives_85 : decode cX12_arrives 85 = .ok (.getfield 511, 3) := by decide +kernel
theorem d_X12_arrives_88 : decode cX12_arrives 88 = .ok (.if_icmp .le 21, 3) := by decide +kernel
theorem d_X12_arrives_91 : decode cX12_arrives 91 = .ok (.goto 14, 3) := by decide +kernel
theorem d_X12_arrives_94 : decode cX12_arrives 94 = .ok (.aload_n 0, 1) := by decide +kernel
theorem d_X12_arrives_95 : decode cX12_arrives 95 = .ok (.getfield 496, 3) := by decide +kernel
theorem d_X12_arrives_98 : decode cX12_arrives 98 = .ok (.aload_n 0, 1) := by decide +kernel
theorem d_X12_arrives_99 : decode cX12_arrives 99 = .ok (.getfield 499, 3) := by decide +kernel
theorem d_X12_arrives_102 : decode cX12_arrives 102 = .ok (.if_icmp .ge 7, 3) := by decide +kernel
theorem d_X12_arrives_105 : decode cX12_arrives 105 = .ok (.iconst 1, 1) := by decide +kernel
theorem d_X12_arrives_106 : decode cX12_arrives 106 = .ok (.goto 4, 3) := by decide +kernel
theorem d_X12_arrives_109 : decode cX12_arrives 109 = .ok (.iconst 0, 1) := by decide +kernel
theorem d_X12_arrives_110 : decode cX12_arrives 110 = .ok (.istore_n 3, 1) := by decide +kernel
theorem d_X12_arrives_111 : decode cX12_arrives 111 = .ok (.iload_n 3, 1) := by decide +kernel
theorem d_X12_arrives_112 : decode cX12_arrives 112 = .ok (.ifCond .eq 7, 3) := by decide +kernel
theorem d_X12_arrives_115 : decode cX12_arrives 115 = .ok (.aload_n 0, 1) := by decide +kernel
theorem d_X12_arrives_116 : decode cX12_arrives 116 = .ok (.invokevirtual 526, 3) := by decide +kernel
theorem d_X12_arrives_119 : decode cX12_arrives 119 = .ok (.return_, 1) := by decide +kernel
def f_X12_arrives (this : Nat) (a1 : Int32) (a2 : Int32) : sa_M Unit :=
sa_gd 12 this (
sa_bnd (sa_rdI 12 this 59) fun v1 =>
sa_bnd (sa_wrI 12 this 59 (v1 + 1)) fun _ =>
sa_bnd (sa_rdI 12 this 59) fun v2 =>
if v2 ≤ 200 then
if ¬ a2 = 3 then
sa_bnd (f_X12_beginsParts this a1) fun _ =>
sa_bnd (sa_rdR 12 this 51) fun v3 =>
sa_bnd (sa_rdI 12 this 53) fun v4 =>
sa_bnd (f_X12_goPath this v3 v4 (-1)) fun _ =>
sa_bnd (sa_rdI 12 this 55) fun v5 =>
sa_jn1 (fun (y6 : Int32) =>
sa_jn0 (sa_ret ()) fun j119 =>
if y6 = 0 then
j119
else
sa_bnd (f_X12_takesPath this) fun _ =>
j119) fun j110 =>
sa_jn0 (j110 1) fun j105 =>
if v5 = 0 then
j105
else
sa_jn0 (j110 0) fun j109 =>
if ¬ a2 = 0 then
if ¬ a2 = 1 then
sa_bnd (sa_rdI 12 this 54) fun v7 =>
sa_bnd (sa_rdI 12 this 56) fun v8 =>
if v8 ≤ v7 then
j109
else
j105
else
sa_bnd (f_X12_sureNow this) fun v9 =>
sa_bnd (sa_rdI 12 this 58) fun v10 =>
if v9 ≤ v10 then
j109
else
j105
else
sa_bnd (f_X12_meanNow this) fun v11 =>
sa_bnd (sa_rdI 12 this 57) fun v12 =>
if v11 ≤ v12 then
j109
else
j105
else
sa_bnd (f_X12_looksAtAmbush this a1) fun _ =>
sa_ret ()
else
sa_ret ())
set_option maxHeartbeats 1000000 in
set_option maxRecDepth 10000 in
theorem b_X12_arrives {p : Program} {l : Launch} {e : Env} {s : State} {m : MethodId} {args : Array Value} {below : List Frame} {meth : Method} {c : Code} {D : va_G} {ad : Nat → Nat} {cA : FieldType → ClassId} {A : Nat → Prop} (this : Nat) (a1 : Int32) (a2 : Int32) (C : sa_C p s m args meth c cX12_arrives RX12 "arrives" 4 none D ad cA A) : sa_Sg p l e s m args below meth c 4 136 D ad cA A sa_eV 0 [(0, .ref (ad this)), (1, .int a1), (2, .int a2)] [] (f_X12_arrives this a1 a2) := by
  unfold f_X12_arrives
  refine sa_gdI ?_
  refine sa_aload_n C d_X12_arrives_0 rfl 0 rfl ?_
  refine sa_dup C d_X12_arrives_1 rfl ?_
  refine sa_getI C fd_X12_514 d_X12_arrives_2 (fun v1 => ?_)
  refine sa_iconst (v := 1) C d_X12_arrives_5 (by decide) ?_
  refine sa_iadd C d_X12_arrives_6 ?_
  refine sa_putI C fd_X12_514 d_X12_arrives_7 ?_
  refine sa_aload_n C d_X12_arrives_10 rfl 0 rfl ?_
  refine sa_getI C fd_X12_514 d_X12_arrives_11 (fun v2 => ?_)
  refine sa_sipush (v := 200) C d_X12_arrives_14 (by decide) ?_
  refine sa_icmp_le (tgt := 21) C d_X12_arrives_17 (by decide) ?_ ?_
  · refine sa_iload_n C d_X12_arrives_21 rfl 2 rfl ?_
    refine sa_iconst (v := 3) C d_X12_arrives_22 (by decide) ?_
    refine sa_icmp_ne (tgt := 32) C d_X12_arrives_23 (by decide) ?_ ?_
    · refine sa_aload_n C d_X12_arrives_32 rfl 0 rfl ?_
      refine sa_iload_n C d_X12_arrives_33 rfl 1 rfl ?_
      refine sa_invV (ci := 12) C (k_X12_beginsParts this a1) q1986 ds_X12_beginsParts q128 rfl q1985 q96 q1983 (gd_X12_beginsParts this a1) rfl rfl rfl (Nat.le_of_ble_eq_true rfl) (by decide) (by decide) d_X12_arrives_34 (fun _ => ?_)
      refine sa_aload_n C d_X12_arrives_37 rfl 0 rfl ?_
      refine sa_aload_n C d_X12_arrives_38 rfl 0 rfl ?_
      refine sa_getR C fd_X12_100 rfl d_X12_arrives_39 (fun v3 => ?_)
      refine sa_aload_n C d_X12_arrives_42 rfl 0 rfl ?_
      refine sa_getI C fd_X12_490 d_X12_arrives_43 (fun v4 => ?_)
      refine sa_iconst (v := (-1)) C d_X12_arrives_46 (by decide) ?_
      refine sa_invV (ci := 12) C (k_X12_goPath this v3 v4 (-1)) q1991 ds_X12_goPath q128 rfl q1990 q97 q1988 (gd_X12_goPath this v3 v4 (-1)) rfl rfl rfl (Nat.le_of_ble_eq_true rfl) (by decide) (by decide) d_X12_arrives_47 (fun _ => ?_)
      refine sa_aload_n C d_X12_arrives_50 rfl 0 rfl ?_
      refine sa_getI C fd_X12_493 d_X12_arrives_51 (fun v5 => ?_)
      refine sa_join1 110 (fun y6 => [(0, .ref (ad this))]) (fun y6 => [.int y6]) (fun y6 => ?_) (fun j110 hj110 => ?_)
      · refine sa_istore_n (lv' := [(3, .int y6), (0, .ref (ad this))]) C d_X12_arrives_110 rfl (by decide) rfl ?_
        refine sa_iload_n C d_X12_arrives_111 rfl 0 rfl ?_
        refine sa_join0 119 ([]) ([]) (?_) (fun j119 hj119 => ?_)
        · exact sa_vret C d_X12_arrives_119
        refine sa_if_eq (tgt := 119) C d_X12_arrives_112 (by decide) ?_ ?_
        · exact sa_sub [] rfl (hj119)
        refine sa_aload_n C d_X12_arrives_115 rfl 1 rfl ?_
        refine sa_invV (ci := 12) C (k_X12_takesPath this) q2012 ds_X12_takesPath q128 rfl q2011 q102 q2009 (gd_X12_takesPath this) rfl rfl rfl (Nat.le_of_ble_eq_true rfl) (by decide) (by decide) d_X12_arrives_116 (fun _ => ?_)
        exact sa_sub [] rfl (hj119)
      refine sa_join0 105 ([(0, .ref (ad this))]) ([]) (?_) (fun j105 hj105 => ?_)
      · refine sa_iconst (v := 1) C d_X12_arrives_105 (by decide) ?_
        refine sa_goto (tgt := 110) C d_X12_arrives_106 (by decide) ?_
        exact sa_sub [0] rfl (hj110 _)
      refine sa_if_eq (tgt := 105) C d_X12_arrives_54 (by decide) ?_ ?_
      · exact sa_sub [0] rfl (hj105)
      refine sa_iload_n C d_X12_arrives_57 rfl 2 rfl ?_
      refine sa_join0 109 ([(0, .ref (ad this))]) ([]) (?_) (fun j109 hj109 => ?_)
      · refine sa_iconst (v := 0) C d_X12_arrives_109 (by decide) ?_
        exact sa_sub [0] rfl (hj110 _)
      refine sa_if_ne (tgt := 75) C d_X12_arrives_58 (by decide) ?_ ?_
      · refine sa_iload_n C d_X12_arrives_75 rfl 2 rfl ?_
        refine sa_iconst (v := 1) C d_X12_arrives_76 (by decide) ?_
        refine sa_icmp_ne (tgt := 94) C d_X12_arrives_77 (by decide) ?_ ?_
        · refine sa_aload_n C d_X12_arrives_94 rfl 0 rfl ?_
          refine sa_getI C fd_X12_496 d_X12_arrives_95 (fun v7 => ?_)
          refine sa_aload_n C d_X12_arrives_98 rfl 0 rfl ?_
          refine sa_getI C fd_X12_499 d_X12_arrives_99 (fun v8 => ?_)
          refine sa_icmp_ge (tgt := 109) C d_X12_arrives_102 (by decide) ?_ ?_
          · exact sa_sub [0] rfl (hj109)
          exact sa_sub [0] rfl (hj105)
        refine sa_aload_n C d_X12_arrives_80 rfl 0 rfl ?_
        refine sa_invV (ci := 12) C (k_X12_sureNow this) q2016 ds_X12_sureNow q128 rfl q2015 q103 q2013 (gd_X12_sureNow this) rfl rfl rfl (Nat.le_of_ble_eq_true rfl) (by decide) (by decide) d_X12_arrives_81 (fun v9 => ?_)
        refine sa_aload_n C d_X12_arrives_84 rfl 0 rfl ?_
        refine sa_getI C fd_X12_511 d_X12_arrives_85 (fun v10 => ?_)
        refine sa_icmp_le (tgt := 109) C d_X12_arrives_88 (by decide) ?_ ?_
        · exact sa_sub [0] rfl (hj109)
        refine sa_goto (tgt := 105) C d_X12_arrives_91 (by decide) ?_
        exact sa_sub [0] rfl (hj105)
      refine sa_aload_n C d_X12_arrives_61 rfl 0 rfl ?_
      refine sa_invV (ci := 12) C (k_X12_meanNow this) q2008 ds_X12_meanNow q128 rfl q2007 q101 q2005 (gd_X12_meanNow this) rfl rfl rfl (Nat.le_of_ble_eq_true rfl) (by decide) (by decide) d_X12_arrives_62 (fun v11 => ?_)
      refine sa_aload_n C d_X12_arrives_65 rfl 0 rfl ?_
      refine sa_getI C fd_X12_505 d_X12_arrives_66 (fun v12 => ?_)
      refine sa_icmp_le (tgt := 109) C d_X12_arrives_69 (by decide) ?_ ?_
      · exact sa_sub [0] rfl (hj109)
      refine sa_goto (tgt := 105) C d_X12_arrives_72 (by decide) ?_
      exact sa_sub [0] rfl (hj105)
    refine sa_aload_n C d_X12_arrives_26 rfl 0 rfl ?_
    refine sa_iload_n C d_X12_arrives_27 rfl 1 rfl ?_
    refine sa_invV (ci := 12) C (k_X12_looksAtAmbush this a1) q1978 ds_X12_looksAtAmbush q128 rfl q1977 q94 q1975 (gd_X12_looksAtAmbush this a1) rfl rfl rfl (Nat.le_of_ble_eq_true rfl) (by decide) (by decide) d_X12_arrives_28 (fun _ => ?_)
    exact sa_vret C d_X12_arrives_31
  exact sa_vret C d_X12_arrives_20
theorem k_X12_arrives (this : Nat) (a1 : Int32) (a2 : Int32) : sa_Met 136 yX12_arrives cX12_arrives 4 none (fun ad => [.ref (ad this), .int a1, .int a2]) sa_eV (f_X12_arrives this a1 a2) := sa_mk (by decide) (fun ad => Nat.le_of_ble_eq_true rfl) (fun p l e s m args below meth c D ad cA A C => b_X12_arrives this a1 a2 C)
theorem gd_X12_arrives (this : Nat) (a1 : Int32) (a2 : Int32) (σ : sa_St) (r : Unit) (τ : sa_St) (h : f_X12_arrives this a1 a2 σ = some (r, τ)) : sa_sh this = some (.inl 12) := sa_gd_ok h
theorem d_X12_goJourneys_0 : decode cX12_goJourneys 0 = .ok (.aload_n 0, 1) := by decide +kernel
theorem d_X12_goJourneys_1 : decode cX12_goJourneys 1 = .ok (.getfield 100, 3) := by decide +kernel
theorem d_X12_goJourneys_4 : decode cX12_goJourneys 4 = .ok (.aload_n 0, 1) := by decide +kernel
theorem d_X12_goJourneys_5 : decode cX12_goJourneys 5 = .ok (.getfield 490, 3) := by decide +kernel
theorem d_X12_goJourneys_8 : decode cX12_goJourneys 8 = .ok (.iconst 1, 1) := by decide +kernel
theorem d_X12_goJourneys_9 : decode cX12_goJourneys 9 = .ok (.isub, 1) := by decide +kernel
theorem d_X12_goJourneys_10 : decode cX12_goJourneys 10 = .ok (.iaload, 1) := by decide +kernel
theorem d_X12_goJourneys_11 : decode cX12_goJourneys 11 = .ok (.istore 5, 2) := by decide +kernel
theorem d_X12_goJourneys_13 : decode cX12_goJourneys 13 = .ok (.iload 5, 2) := by decide +kernel
theorem d_X12_goJourneys_15 : decode cX12_goJourneys 15 = .ok (.iload_n 2, 1) := by decide +kernel
theorem d_X12_goJourneys_16 : decode cX12_goJourneys 16 = .ok (.if_icmp .ne 10, 3) := by decide +kernel
theorem d_X12_goJourneys_19 : decode cX12_goJourneys 19 = .ok (.aload_n 0, 1) := by decide +kernel
theorem d_X12_goJourneys_20 : decode cX12_goJourneys 20 = .ok (.iload_n 1, 1) := by decide +kernel
theorem d_X12_goJourneys_21 : decode cX12_goJourneys 21 = .ok (.iload_n 3, 1) := by decide +kernel
theorem d_X12_goJourneys_22 : decode cX12_goJourneys 22 = .ok (.invokevirtual 529, 3) := by decide +kernel
theorem d_X12_goJourneys_25 : decode cX12_goJourneys 25 = .ok (.return_, 1) := by decide +kernel
theorem d_X12_goJourneys_26 : decode cX12_goJourneys 26 = .ok (.iconst 0, 1) := by decide +kernel
theorem d_X12_goJourneys_27 : decode cX12_goJourneys 27 = .ok (.istore 6, 2) := by decide +kernel
theorem d_X12_goJourneys_29 : decode cX12_goJourneys 29 = .ok (.iload 6, 2) := by decide +kernel
theorem d_X12_goJourneys_31 : decode cX12_goJourneys 31 = .ok (.aload_n 0, 1) := by decide +kernel
theorem d_X12_goJourneys_32 : decode cX12_goJourneys 32 = .ok (.getfield 331, 3) := by decide +kernel
theorem d_X12_goJourneys_35 : decode cX12_goJourneys 35 = .ok (.if_icmp .ge 127, 3) := by decide +kernel
theorem d_X12_goJourneys_38 : decode cX12_goJourneys 38 = .ok (.iload 4, 2) := by decide +kernel
theorem d_X12_goJourneys_40 : decode cX12_goJourneys 40 = .ok (.iload 6, 2) := by decide +kernel
theorem d_X12_goJourneys_42 : decode cX12_goJourneys 42 = .ok (.invokestatic 260, 3) := by decide +kernel
theorem d_X12_goJourneys_45 : decode cX12_goJourneys 45 = .ok (.ifCond .eq 7, 3) := by decide +kernel
theorem d_X12_goJourneys_48 : decode cX12_goJourneys 48 = .ok (.iconst (-1), 1) := by decide +kernel
theorem d_X12_goJourneys_49 : decode cX12_goJourneys 49 = .ok (.goto 11, 3) := by decide +kernel
theorem d_X12_goJourneys_52 : decode cX12_goJourneys 52 = .ok (.aload_n 0, 1) := by decide +kernel
theorem d_X12_goJourneys_53 : decode cX12_goJourneys 53 = .ok (.iload 5, 2) := by decide +kernel
theorem d_X12_goJourneys_55 : decode cX12_goJourneys 55 = .ok (.iload 6, 2) := by decide +kernel
theorem d_X12_goJourneys_57 : decode cX12_goJourneys 57 = .ok (.invokevirtual 406, 3) := by decide +kernel
theorem d_X12_goJourneys_60 : decode cX12_goJourneys 60 = .ok (.istore 7, 2) := by decide +kernel
theorem d_X12_goJourneys_62 : decode cX12_goJourneys 62 = .ok (.iload 7, 2) := by decide +kernel
theorem d_X12_goJourneys_64 : decode cX12_goJourneys 64 = .ok (.iconst (-1), 1) := by decide +kernel
theorem d_X12_goJourneys_65 : decode cX12_goJourneys 65 = .ok (.if_icmp .ne 6, 3) := by decide +kernel
theorem d_X12_goJourneys_68 : decode cX12_goJourneys 68 = .ok (.goto 88, 3) := by decide +kernel
theorem d_X12_goJourneys_71 : decode cX12_goJourneys 71 = .ok (.aload_n 0, 1) := by decide +kernel
theorem d_X12_goJourneys_72 : decode cX12_goJourneys 72 = .ok (.getfield 100, 3) := by decide +kernel
theorem d_X12_goJourneys_75 : decode cX12_goJourneys 75 = .ok (.aload_n 0, 1) := by decide +kernel
theorem d_X12_goJourneys_76 : decode cX12_goJourneys 76 = .ok (.getfield 490, 3) := by decide +kernel
theorem d_X12_goJourneys_79 : decode cX12_goJourneys 79 = .ok (.iload 6, 2) := by decide +kernel
theorem d_X12_goJourneys_81 : decode cX12_goJourneys 81 = .ok (.iastore, 1) := by decide +kernel
theorem d_X12_goJourneys_82 : decode cX12_goJourneys 82 = .ok (.aload_n 0, 1) := by decide +kernel
theorem d_X12_goJourneys_83 : decode cX12_goJourneys 83 = .ok (.dup, 1) := by decide +kernel
theorem d_X12_goJourneys_84 : decode cX12_goJourneys 84 = .ok (.getfield 490, 3) := by decide +kernel
theorem d_X12_goJourneys_87 : decode cX12_goJourneys 87 = .ok (.iconst 1, 1) := by decide +kernel
theorem d_X12_goJourneys_88 : decode cX12_goJourneys 88 = .ok (.iadd, 1) := by decide +kernel
theorem d_X12_goJourneys_89 : decode cX12_goJourneys 89 = .ok (.putfield 490, 3) := by decide +kernel
theorem d_X12_goJourneys_92 : decode cX12_goJourneys 92 = .ok (.aload_n 0, 1) := by decide +kernel
theorem d_X12_goJourneys_93 : decode cX12_goJourneys 93 = .ok (.dup, 1) := by decide +kernel
theorem d_X12_goJourneys_94 : decode cX12_goJourneys 94 = .ok (.getfield 496, 3) := by decide +kernel
theorem d_X12_goJourneys_97 : decode cX12_goJourneys 97 = .ok (.aload_n 0, 1) := by decide +kernel
theorem d_X12_goJourneys_98 : decode cX12_goJourneys 98 = .ok (.getfield 43, 3) := by decide +kernel
theorem d_X12_goJourneys_101 : decode cX12_goJourneys 101 = .ok (.iconst 4, 1) := by decide +kernel
theorem d_X12_goJourneys_102 : decode cX12_goJourneys 102 = .ok (.iload 7, 2) := by decide +kernel
theorem d_X12_goJourneys_104 : decode cX12_goJourneys 104 = .ok (.imul, 1) := by decide +kernel
theorem d_X12_goJourneys_105 : decode cX12_goJourneys 105 = .ok (.iconst 2, 1) := by decide +kernel
theorem d_X12_goJourneys_106 : decode cX12_goJourneys 106 = .ok (.iadd, 1) := by decide +kernel
theorem d_X12_goJourneys_107 : decode cX12_goJourneys 107 = .ok (.iaload, 1) := by decide +kernel
theorem d_X12_goJourneys_108 : decode cX12_goJourneys 108 = .ok (.iadd, 1) := by decide +kernel
theorem d_X12_goJourneys_109 : decode cX12_goJourneys 109 = .ok (.putfield 496, 3) := by decide +kernel
theorem d_X12_goJourneys_112 : decode cX12_goJourneys 112 = .ok (.aload_n 0, 1) := by decide +kernel
theorem d_X12_goJourneys_113 : decode cX12_goJourneys 113 = .ok (.iload_n 1, 1) := by decide +kernel
theorem d_X12_goJourneys_114 : decode cX12_goJourneys 114 = .ok (.iload_n 2, 1) := by decide +kernel
theorem d_X12_goJourneys_115 : decode cX12_goJourneys 115 = .ok (.iload_n 3, 1) := by decide +kernel
theorem d_X12_goJourneys_116 : decode cX12_goJourneys 116 = .ok (.iload 4, 2) := by decide +kernel
theorem d_X12_goJourneys_118 : decode cX12_goJourneys 118 = .ok (.iconst 1, 1) := by decide +kernel
theorem d_X12_goJourneys_119 : decode cX12_goJourneys 119 = .ok (.iload 6, 2) := by decide +kernel
theorem d_X12_goJourneys_121 : decode cX12_goJourneys 121 = .ok (.ishl, 1) := by decide +kernel
theorem d_X12_goJourneys_122 : decode cX12_goJourneys 122 = .ok (.ior, 1) := by decide +kernel
theorem d_X12_goJourneys_123 : decode cX12_goJourneys 123 = .ok (.invokevirtual 533, 3) := by decide +kernel
theorem d_X12_goJourneys_126 : decode cX12_goJourneys 126 = .ok (.aload_n 0, 1) := by decide +kernel
theorem d_X12_goJourneys_127 : decode cX12_goJourneys 127 = .ok (.dup, 1) := by decide +kernel
theorem d_X12_goJourneys_128 : decode cX12_goJourneys 128 = .ok (.getfield 490, 3) := by decide +kernel
theorem d_X12_goJourneys_131 : decode cX12_goJourneys 131 = .ok (.iconst 1, 1) := by decide +kernel
theorem d_X12_goJourneys_132 : decode cX12_goJourneys 132 = .ok (.isub, 1) := by decide +kernel
theorem d_X12_goJourneys_133 : decode cX12_goJourneys 133 = .ok (.putfield 490, 3) := by decide +kernel
theorem d_X12_goJourneys_136 : decode cX12_goJourneys 136 = .ok (.aload_n 0, 1) := by decide +kernel
theorem d_X12_goJourneys_137 : decode cX12_goJourneys 137 = .ok (.dup, 1) := by decide +kernel
theorem d_X12_goJourneys_138 : decode cX12_goJourneys 138 = .ok (.getfield 496, 3) := by decide +kernel
theorem d_X12_goJourneys_141 : decode cX12_goJourneys 141 = .ok (.aload_n 0, 1) := by decide +kernel
theorem d_X12_goJourneys_142 : decode cX12_goJourneys 142 = .ok (.getfield 43, 3) := by decide +kernel
theorem d_X12_goJourneys_145 : decode cX12_goJourneys 145 = .ok (.iconst 4, 1) := by decide +kernel
theorem d_X12_goJourneys_146 : decode cX12_goJourneys 146 = .ok (.iload 7, 2) := by decide +kernel
theorem d_X12_goJourneys_148 : decode cX12_goJourneys 148 = .ok (.imul, 1) := by decide +kernel
theorem d_X12_goJourneys_149 : decode cX12_goJourneys 149 = .ok (.iconst 2, 1) := by decide +kernel
theorem d_X12_goJourneys_150 : decode cX12_goJourneys 150 = .ok (.iadd, 1) := by decide +kernel
theorem d_X12_goJourneys_151 : decode cX12_goJourneys 151 = .ok (.iaload, 1) := by decide +kernel
theorem d_X12_goJourneys_152 : decode cX12_goJourneys 152 = .ok (.isub, 1) := by decide +kernel
theorem d_X12_goJourneys_153 : decode cX12_goJourneys 153 = .ok (.putfield 496, 3) := by decide +kernel
theorem d_X12_goJourneys_156 : decode cX12_goJourneys 156 = .ok (.iinc 6 1, 3) := by decide +kernel
theorem d_X12_goJourneys_159 : decode cX12_goJourneys 159 = .ok (.goto (-130), 3) := by decide +kernel
theorem d_X12_goJourneys_162 : decode cX12_goJourneys 162 = .ok (.return_, 1) := by decide +kernel
def fb_X12_goJourneys (g_X12_goJourneys : Nat → Int32 → Int32 → Int32 → Int32 → sa_M Unit) (this : Nat) (a1 : Int32) (a2 : Int32) (a3 : Int32) (a4 : Int32) : sa_M Unit :=
sa_gd 12 this (
sa_bnd (sa_rdR 12 this 51) fun v1 =>
sa_bnd (sa_rdI 12 this 53) fun v2 =>
sa_bnd (sa_ldI .int v1 (v2 - 1)) fun v3 =>
if ¬ v3 = a2 then
sa_let (0 : Int32) fun x4 =>
sa_wh1 (fun j29 (x5 : Int32) =>
sa_bnd (sa_rdI 12 this 25) fun v6 =>
if v6 ≤ x5 then
sa_ret ()
else
sa_bnd (f_X12_has a4 x5) fun v7 =>
sa_jn1 (fun (y8 : Int32) =>
sa_jn0 (sa_let ((x5 + 1) : Int32) fun x9 =>
j29 x9) fun j156 =>
if ¬ y8 = (-1) then
sa_bnd (sa_rdR 12 this 51) fun v10 =>
sa_bnd (sa_rdI 12 this 53) fun v11 =>
sa_bnd (sa_stI v10 v11 x5) fun _ =>
sa_bnd (sa_rdI 12 this 53) fun v12 =>
sa_bnd (sa_wrI 12 this 53 (v12 + 1)) fun _ =>
sa_bnd (sa_rdI 12 this 54) fun v13 =>
sa_bnd (sa_rdR 12 this 20) fun v14 =>
sa_bnd (sa_ldI .int v14 ((4 * y8) + 2)) fun v15 =>
sa_bnd (sa_wrI 12 this 54 (v13 + v15)) fun _ =>
sa_bnd (g_X12_goJourneys this a1 a2 a3 (a4 ||| (1 <<< (x5 &&& 31)))) fun _ =>
sa_bnd (sa_rdI 12 this 53) fun v16 =>
sa_bnd (sa_wrI 12 this 53 (v16 - 1)) fun _ =>
sa_bnd (sa_rdI 12 this 54) fun v17 =>
sa_bnd (sa_rdR 12 this 20) fun v18 =>
sa_bnd (sa_ldI .int v18 ((4 * y8) + 2)) fun v19 =>
sa_bnd (sa_wrI 12 this 54 (v17 - v19)) fun _ =>
j156
else
j156) fun j60 =>
if v7 = 0 then
sa_bnd (f_X12_wayOf this v3 x5) fun v20 =>
j60 v20
else
j60 (-1)) sa_F x4
else
sa_bnd (f_X12_arrives this a1 a3) fun _ =>
sa_ret ())
set_option maxHeartbeats 1000000 in
set_option maxRecDepth 10000 in
theorem b_X12_goJourneys {d : Nat} (hd0 : 136 ≤ d) (g_X12_goJourneys : Nat → Int32 → Int32 → Int32 → Int32 → sa_M Unit) (h_X12_goJourneys : ∀ (this : Nat) (a1 : Int32) (a2 : Int32) (a3 : Int32) (a4 : Int32), sa_Met d yX12_goJourneys cX12_goJourneys 8 none (fun ad => [.ref (ad this), .int a1, .int a2, .int a3, .int a4]) sa_eV (g_X12_goJourneys this a1 a2 a3 a4)) (e_X12_goJourneys : ∀ (this : Nat) (a1 : Int32) (a2 : Int32) (a3 : Int32) (a4 : Int32) σ r τ, g_X12_goJourneys this a1 a2 a3 a4 σ = some (r, τ) → sa_sh this = some (.inl 12)) {p : Program} {l : Launch} {e : Env} {s : State} {m : MethodId} {args : Array Value} {below : List Frame} {meth : Method} {c : Code} {D : va_G} {ad : Nat → Nat} {cA : FieldType → ClassId} {A : Nat → Prop} (this : Nat) (a1 : Int32) (a2 : Int32) (a3 : Int32) (a4 : Int32) (C : sa_C p s m args meth c cX12_goJourneys RX12 "goJourneys" 8 none D ad cA A) : sa_Sg p l e s m args below meth c 8 (d + 1) D ad cA A sa_eV 0 [(0, .ref (ad this)), (1, .int a1), (2, .int a2), (3, .int a3), (4, .int a4)] [] (fb_X12_goJourneys g_X12_goJourneys this a1 a2 a3 a4) := by
  unfold fb_X12_goJourneys
  refine sa_gdI ?_
  refine sa_aload_n C d_X12_goJourneys_0 rfl 0 rfl ?_
  refine sa_getR C fd_X12_100 rfl d_X12_goJourneys_1 (fun v1 => ?_)
  refine sa_aload_n C d_X12_goJourneys_4 rfl 0 rfl ?_
  refine sa_getI C fd_X12_490 d_X12_goJourneys_5 (fun v2 => ?_)
  refine sa_iconst (v := 1) C d_X12_goJourneys_8 (by decide) ?_
  refine sa_isub C d_X12_goJourneys_9 ?_
  refine sa_iald C d_X12_goJourneys_10 (fun v3 => ?_)
  refine sa_istore (lv' := [(5, .int v3), (0, .ref (ad this)), (1, .int a1), (2, .int a2), (3, .int a3), (4, .int a4)]) C d_X12_goJourneys_11 (by decide) rfl ?_
  refine sa_iload C d_X12_goJourneys_13 0 rfl ?_
  refine sa_iload_n C d_X12_goJourneys_15 rfl 3 rfl ?_
  refine sa_icmp_ne (tgt := 26) C d_X12_goJourneys_16 (by decide) ?_ ?_
  · refine sa_iconst (v := 0) C d_X12_goJourneys_26 (by decide) ?_
    refine sa_topi (fun x4 => ?_)
    refine sa_istore (lv' := [(6, .int x4), (5, .int v3), (0, .ref (ad this)), (1, .int a1), (2, .int a2), (3, .int a3), (4, .int a4)]) C d_X12_goJourneys_27 (by decide) rfl ?_
    refine sa_sub [2, 3, 4, 5, 6, 1, 0] rfl (sa_loop1 (fun x5 => [(0, .ref (ad this)), (1, .int a1), (2, .int a2), (3, .int a3), (4, .int a4), (5, .int v3), (6, .int x5)]) (fun x5 => []) (fun j29 hj29 x5 => ?_) _ _)
    refine sa_iload C d_X12_goJourneys_29 6 rfl ?_
    refine sa_aload_n C d_X12_goJourneys_31 rfl 0 rfl ?_
    refine sa_getI C fd_X12_331 d_X12_goJourneys_32 (fun v6 => ?_)
    refine sa_icmp_ge (tgt := 162) C d_X12_goJourneys_35 (by decide) ?_ ?_
    · exact sa_vret C d_X12_goJourneys_162
    refine sa_iload C d_X12_goJourneys_38 4 rfl ?_
    refine sa_iload C d_X12_goJourneys_40 6 rfl ?_
    refine sa_invS C (k_X12_has a4 x5) q1673 ds_X12_has q128 q1672 q1671 rfl rfl rfl (Nat.le_of_ble_eq_true rfl) (by omega) (by decide) d_X12_goJourneys_42 (fun v7 => ?_)
    refine sa_join1 60 (fun y8 => [(0, .ref (ad this)), (1, .int a1), (2, .int a2), (3, .int a3), (4, .int a4), (5, .int v3), (6, .int x5)]) (fun y8 => [.int y8]) (fun y8 => ?_) (fun j60 hj60 => ?_)
    · refine sa_istore (lv' := [(7, .int y8), (0, .ref (ad this)), (1, .int a1), (2, .int a2), (3, .int a3), (4, .int a4), (5, .int v3), (6, .int x5)]) C d_X12_goJourneys_60 (by decide) rfl ?_
      refine sa_iload C d_X12_goJourneys_62 0 rfl ?_
      refine sa_iconst (v := (-1)) C d_X12_goJourneys_64 (by decide) ?_
      refine sa_join0 156 ([(0, .ref (ad this)), (1, .int a1), (2, .int a2), (3, .int a3), (4, .int a4), (5, .int v3), (6, .int x5)]) ([]) (?_) (fun j156 hj156 => ?_)
      · refine sa_iinc C (fun zz => [(6, .int zz), (0, .ref (ad this)), (1, .int a1), (2, .int a2), (3, .int a3), (4, .int a4), (5, .int v3)]) d_X12_goJourneys_156 6 rfl rfl (by decide) (fun _ => rfl) (fun x9 => ?_)
        refine sa_goto (tgt := 29) C d_X12_goJourneys_159 (by decide) ?_
        exact sa_sub [1, 2, 3, 4, 5, 6, 0] rfl (hj29 _)
      refine sa_icmp_ne (tgt := 71) C d_X12_goJourneys_65 (by decide) ?_ ?_
      · refine sa_aload_n C d_X12_goJourneys_71 rfl 1 rfl ?_
        refine sa_getR C fd_X12_100 rfl d_X12_goJourneys_72 (fun v10 => ?_)
        refine sa_aload_n C d_X12_goJourneys_75 rfl 1 rfl ?_
        refine sa_getI C fd_X12_490 d_X12_goJourneys_76 (fun v11 => ?_)
        refine sa_iload C d_X12_goJourneys_79 7 rfl ?_
        refine sa_iast C d_X12_goJourneys_81 ?_
        refine sa_aload_n C d_X12_goJourneys_82 rfl 1 rfl ?_
        refine sa_dup C d_X12_goJourneys_83 rfl ?_
        refine sa_getI C fd_X12_490 d_X12_goJourneys_84 (fun v12 => ?_)
        refine sa_iconst (v := 1) C d_X12_goJourneys_87 (by decide) ?_
        refine sa_iadd C d_X12_goJourneys_88 ?_
        refine sa_putI C fd_X12_490 d_X12_goJourneys_89 ?_
        refine sa_aload_n C d_X12_goJourneys_92 rfl 1 rfl ?_
        refine sa_dup C d_X12_goJourneys_93 rfl ?_
        refine sa_getI C fd_X12_496 d_X12_goJourneys_94 (fun v13 => ?_)
        refine sa_aload_n C d_X12_goJourneys_97 rfl 1 rfl ?_
        refine sa_getR C fd_X12_43 rfl d_X12_goJourneys_98 (fun v14 => ?_)
        refine sa_iconst (v := 4) C d_X12_goJourneys_101 (by decide) ?_
        refine sa_iload C d_X12_goJourneys_102 0 rfl ?_
        refine sa_imul C d_X12_goJourneys_104 ?_
        refine sa_iconst (v := 2) C d_X12_goJourneys_105 (by decide) ?_
        refine sa_iadd C d_X12_goJourneys_106 ?_
        refine sa_iald C d_X12_goJourneys_107 (fun v15 => ?_)
        refine sa_iadd C d_X12_goJourneys_108 ?_
        refine sa_putI C fd_X12_496 d_X12_goJourneys_109 ?_
        refine sa_aload_n C d_X12_goJourneys_112 rfl 1 rfl ?_
        refine sa_iload_n C d_X12_goJourneys_113 rfl 2 rfl ?_
        refine sa_iload_n C d_X12_goJourneys_114 rfl 3 rfl ?_
        refine sa_iload_n C d_X12_goJourneys_115 rfl 4 rfl ?_
        refine sa_iload C d_X12_goJourneys_116 5 rfl ?_
        refine sa_iconst (v := 1) C d_X12_goJourneys_118 (by decide) ?_
        refine sa_iload C d_X12_goJourneys_119 7 rfl ?_
        refine sa_ishl C d_X12_goJourneys_121 ?_
        refine sa_ior C d_X12_goJourneys_122 ?_
        refine sa_invV (ci := 12) C (h_X12_goJourneys this a1 a2 a3 (a4 ||| (1 <<< (x5 &&& 31)))) q1970 ds_X12_goJourneys q128 rfl q1969 q92 q1967 (e_X12_goJourneys this a1 a2 a3 (a4 ||| (1 <<< (x5 &&& 31)))) rfl rfl rfl (Nat.le_of_ble_eq_true rfl) (by omega) (by decide) d_X12_goJourneys_123 (fun _ => ?_)
        refine sa_aload_n C d_X12_goJourneys_126 rfl 1 rfl ?_
        refine sa_dup C d_X12_goJourneys_127 rfl ?_
        refine sa_getI C fd_X12_490 d_X12_goJourneys_128 (fun v16 => ?_)
        refine sa_iconst (v := 1) C d_X12_goJourneys_131 (by decide) ?_
        refine sa_isub C d_X12_goJourneys_132 ?_
        refine sa_putI C fd_X12_490 d_X12_goJourneys_133 ?_
        refine sa_aload_n C d_X12_goJourneys_136 rfl 1 rfl ?_
        refine sa_dup C d_X12_goJourneys_137 rfl ?_
        refine sa_getI C fd_X12_496 d_X12_goJourneys_138 (fun v17 => ?_)
        refine sa_aload_n C d_X12_goJourneys_141 rfl 1 rfl ?_
        refine sa_getR C fd_X12_43 rfl d_X12_goJourneys_142 (fun v18 => ?_)
        refine sa_iconst (v := 4) C d_X12_goJourneys_145 (by decide) ?_
        refine sa_iload C d_X12_goJourneys_146 0 rfl ?_
        refine sa_imul C d_X12_goJourneys_148 ?_
        refine sa_iconst (v := 2) C d_X12_goJourneys_149 (by decide) ?_
        refine sa_iadd C d_X12_goJourneys_150 ?_
        refine sa_iald C d_X12_goJourneys_151 (fun v19 => ?_)
        refine sa_isub C d_X12_goJourneys_152 ?_
        refine sa_putI C fd_X12_496 d_X12_goJourneys_153 ?_
        exact sa_sub [1, 2, 3, 4, 5, 6, 7] rfl (hj156)
      refine sa_goto (tgt := 156) C d_X12_goJourneys_68 (by decide) ?_
      exact sa_sub [1, 2, 3, 4, 5, 6, 7] rfl (hj156)
    refine sa_if_eq (tgt := 52) C d_X12_goJourneys_45 (by decide) ?_ ?_
    · refine sa_aload_n C d_X12_goJourneys_52 rfl 0 rfl ?_
      refine sa_iload C d_X12_goJourneys_53 5 rfl ?_
      refine sa_iload C d_X12_goJourneys_55 6 rfl ?_
      refine sa_invV (ci := 12) C (k_X12_wayOf this v3 x5) q1839 ds_X12_wayOf q128 rfl q1838 q74 q1836 (gd_X12_wayOf this v3 x5) rfl rfl rfl (Nat.le_of_ble_eq_true rfl) (by omega) (by decide) d_X12_goJourneys_57 (fun v20 => ?_)
      exact sa_sub [0, 1, 2, 3, 4, 5, 6] rfl (hj60 _)
    refine sa_iconst (v := (-1)) C d_X12_goJourneys_48 (by decide) ?_
    refine sa_goto (tgt := 60) C d_X12_goJourneys_49 (by decide) ?_
    exact sa_sub [0, 1, 2, 3, 4, 5, 6] rfl (hj60 _)
  refine sa_aload_n C d_X12_goJourneys_19 rfl 1 rfl ?_
  refine sa_iload_n C d_X12_goJourneys_20 rfl 2 rfl ?_
  refine sa_iload_n C d_X12_goJourneys_21 rfl 4 rfl ?_
  refine sa_invV (ci := 12) C (k_X12_arrives this a1 a3) q1974 ds_X12_arrives q128 rfl q1973 q93 q1971 (gd_X12_arrives this a1 a3) rfl rfl rfl (Nat.le_of_ble_eq_true rfl) (by omega) (by decide) d_X12_goJourneys_22 (fun _ => ?_)
  exact sa_vret C d_X12_goJourneys_25
def gr_X12_goJourneys : Nat → (Nat → Int32 → Int32 → Int32 → Int32 → sa_M Unit)
  | 0 => ((fun _ _ _ _ _ => sa_fail))
  | n + 1 => (fb_X12_goJourneys (gr_X12_goJourneys n))
def f_X12_goJourneys (n : Nat) (this : Nat) (a1 : Int32) (a2 : Int32) (a3 : Int32) (a4 : Int32) : sa_M Unit := (gr_X12_goJourneys n) this a1 a2 a3 a4
theorem kg_X12_goJourneys : ∀ n : Nat, (∀ (this : Nat) (a1 : Int32) (a2 : Int32) (a3 : Int32) (a4 : Int32), sa_Met (136 + n) yX12_goJourneys cX12_goJourneys 8 none (fun ad => [.ref (ad this), .int a1, .int a2, .int a3, .int a4]) sa_eV (f_X12_goJourneys n this a1 a2 a3 a4)) ∧ (∀ (this : Nat) (a1 : Int32) (a2 : Int32) (a3 : Int32) (a4 : Int32) σ r τ, f_X12_goJourneys n this a1 a2 a3 a4 σ = some (r, τ) → sa_sh this = some (.inl 12)) := by
  intro n
  induction n with
  | zero => exact ⟨(fun _ _ _ _ _ => fun _ _ _ _ _ _ _ _ h => by cases h), (fun _ _ _ _ _ => fun _ _ _ h => by cases h)⟩
  | succ n ih =>
    obtain ⟨h_X12_goJourneys, e_X12_goJourneys⟩ := ih
    exact ⟨(fun this a1 a2 a3 a4 => sa_mk (by decide) (fun ad => Nat.le_of_ble_eq_true rfl) (fun p l e s m args below meth c D ad cA A C => b_X12_goJourneys (d := 136 + n) (by omega) _ h_X12_goJourneys e_X12_goJourneys this a1 a2 a3 a4 C)), (fun this a1 a2 a3 a4 => fun σ r τ h => sa_gd_ok h)⟩
theorem k_X12_goJourneys (n : Nat) (this : Nat) (a1 : Int32) (a2 : Int32) (a3 : Int32) (a4 : Int32) : sa_Met (136 + n) yX12_goJourneys cX12_goJourneys 8 none (fun ad => [.ref (ad this), .int a1, .int a2, .int a3, .int a4]) sa_eV (f_X12_goJourneys n this a1 a2 a3 a4) := (kg_X12_goJourneys n).1 this a1 a2 a3 a4
theorem gd_X12_goJourneys (n : Nat) (this : Nat) (a1 : Int32) (a2 : Int32) (a3 : Int32) (a4 : Int32) (σ : sa_St) (r : Unit) (τ : sa_St) (h : f_X12_goJourneys n this a1 a2 a3 a4 σ = some (r, τ)) : sa_sh this = some (.inl 12) := (kg_X12_goJourneys n).2 this a1 a2 a3 a4 σ r τ h
theorem d_X12_layBest_0 : decode cX12_layBest 0 = .ok (.aload_n 0, 1) := by decide +kernel
theorem d_X12_layBest_1 : decode cX12_layBest 1 = .ok (.getfield 64, 3) := by decide +kernel
theorem d_X12_layBest_4 : decode cX12_layBest 4 = .ok (.iload_n 1, 1) := by decide +kernel
theorem d_X12_layBest_5 : decode cX12_layBest 5 = .ok (.invokestatic 403, 3) := by decide +kernel
theorem d_X12_layBest_8 : decode cX12_layBest 8 = .ok (.ifCond .eq 24, 3) := by decide +kernel
theorem d_X12_layBest_11 : decode cX12_layBest 11 = .ok (.aload_n 0, 1) := by decide +kernel
theorem d_X12_layBest_12 : decode cX12_layBest 12 = .ok (.iload_n 2, 1) := by decide +kernel
theorem d_X12_layBest_13 : decode cX12_layBest 13 = .ok (.invokevirtual 372, 3) := by decide +kernel
theorem d_X12_layBest_16 : decode cX12_layBest 16 = .ok (.ifCond .eq 16, 3) := by decide +kernel
theorem d_X12_layBest_19 : decode cX12_layBest 19 = .ok (.aload_n 0, 1) := by decide +kernel
theorem d_X12_layBest_20 : decode cX12_layBest 20 = .ok (.getfield 64, 3) := by decide +kernel
theorem d_X12_layBest_23 : decode cX12_layBest 23 = .ok (.bipush 7, 2) := by decide +kernel
theorem d_X12_layBest_25 : decode cX12_layBest 25 = .ok (.iload_n 1, 1) := by decide +kernel
theorem d_X12_layBest_26 : decode cX12_layBest 26 = .ok (.imul, 1) := by decide +kernel
theorem d_X12_layBest_27 : decode cX12_layBest 27 = .ok (.iaload, 1) := by decide +kernel
theorem d_X12_layBest_28 : decode cX12_layBest 28 = .ok (.iload_n 2, 1) := by decide +kernel
theorem d_X12_layBest_29 : decode cX12_layBest 29 = .ok (.if_icmp .ne 5, 3) := by decide +kernel
theorem d_X12_layBest_32 : decode cX12_layBest 32 = .ok (.iconst 0, 1) := by decide +kernel
theorem d_X12_layBest_33 : decode cX12_layBest 33 = .ok (.ireturn, 1) := by decide +kernel
theorem d_X12_layBest_34 : decode cX12_layBest 34 = .ok (.aload_n 0, 1) := by decide +kernel
theorem d_X12_layBest_35 : decode cX12_layBest 35 = .ok (.iconst 0, 1) := by decide +kernel
theorem d_X12_layBest_36 : decode cX12_layBest 36 = .ok (.putfield 493, 3) := by decide +kernel
theorem d_X12_layBest_39 : decode cX12_layBest 39 = .ok (.aload_n 0, 1) := by decide +kernel
theorem d_X12_layBest_40 : decode cX12_layBest 40 = .ok (.iconst 0, 1) := by decide +kernel
theorem d_X12_layBest_41 : decode cX12_layBest 41 = .ok (.putfield 514, 3) := by decide +kernel
theorem d_X12_layBest_44 : decode cX12_layBest 44 = .ok (.aload_n 0, 1) := by decide +kernel
theorem d_X12_layBest_45 : decode cX12_layBest 45 = .ok (.getfield 100, 3) := by decide +kernel
theorem d_X12_layBest_48 : decode cX12_layBest 48 = .ok (.iconst 0, 1) := by decide +kernel
theorem d_X12_layBest_49 : decode cX12_layBest 49 = .ok (.aload_n 0, 1) := by decide +kernel
theorem d_X12_layBest_50 : decode cX12_layBest 50 = .ok (.getfield 64, 3) := by decide +kernel
theorem d_X12_layBest_53 : decode cX12_layBest 53 = .ok (.bipush 7, 2) := by decide +kernel
theorem d_X12_layBest_55 : decode cX12_layBest 55 = .ok (.iload_n 1, 1) := by decide +kernel
theorem d_X12_layBest_56 : decode cX12_layBest 56 = .ok (.imul, 1) := by decide +kernel
theorem d_X12_layBest_57 : decode cX12_layBest 57 = .ok (.iaload, 1) := by decide +kernel
theorem d_X12_layBest_58 : decode cX12_layBest 58 = .ok (.iastore, 1) := by decide +kernel
theorem d_X12_layBest_59 : decode cX12_layBest 59 = .ok (.aload_n 0, 1) := by decide +kernel
theorem d_X12_layBest_60 : decode cX12_layBest 60 = .ok (.iconst 1, 1) := by decide +kernel
theorem d_X12_layBest_61 : decode cX12_layBest 61 = .ok (.putfield 490, 3) := by decide +kernel
theorem d_X12_layBest_64 : decode cX12_layBest 64 = .ok (.aload_n 0, 1) := by decide +kernel
theorem d_X12_layBest_65 : decode cX12_layBest 65 = .ok (.iconst 0, 1) := by decide +kernel
theorem d_X12_layBest_66 : decode cX12_layBest 66 = .ok (.putfield 496, 3) := by decide +kernel
theorem d_X12_layBest_69 : decode cX12_layBest 69 = .ok (.aload_n 0, 1) := by decide +kernel
theorem d_X12_layBest_70 : decode cX12_layBest 70 = .ok (.iload_n 1, 1) := by decide +kernel
theorem d_X12_layBest_71 : decode cX12_layBest 71 = .ok (.iload_n 2, 1) := by decide +kernel
theorem d_X12_layBest_72 : decode cX12_layBest 72 = .ok (.iload_n 3, 1) := by decide +kernel
theorem d_X12_layBest_73 : decode cX12_layBest 73 = .ok (.iconst 1, 1) := by decide +kernel
theorem d_X12_layBest_74 : decode cX12_layBest 74 = .ok (.aload_n 0, 1) := by decide +kernel
theorem d_X12_layBest_75 : decode cX12_layBest 75 = .ok (.getfield 100, 3) := by decide +kernel
theorem d_X12_layBest_78 : decode cX12_layBest 78 = .ok (.iconst 0, 1) := by decide +kernel
theorem d_X12_layBest_79 : decode cX12_layBest 79 = .ok (.iaload, 1) := by decide +kernel
theorem d_X12_layBest_80 : decode cX12_layBest 80 = .ok (.ishl, 1) := by decide +kernel
theorem d_X12_layBest_81 : decode cX12_layBest 81 = .ok (.invokevirtual 533, 3) := by decide +kernel
theorem d_X12_layBest_84 : decode cX12_layBest 84 = .ok (.aload_n 0, 1) := by decide +kernel
theorem d_X12_layBest_85 : decode cX12_layBest 85 = .ok (.getfield 493, 3) := by decide +kernel
theorem d_X12_layBest_88 : decode cX12_layBest 88 = .ok (.ifCond .le 7, 3) := by decide +kernel
theorem d_X12_layBest_91 : decode cX12_layBest 91 = .ok (.iconst 1, 1) := by decide +kernel
theorem d_X12_layBest_92 : decode cX12_layBest 92 = .ok (.goto 4, 3) := by decide +kernel
theorem d_X12_layBest_95 : decode cX12_layBest 95 = .ok (.iconst 0, 1) := by decide +kernel
theorem d_X12_layBest_96 : decode cX12_layBest 96 = .ok (.ireturn, 1) := by decide +kernel
def f_X12_layBest (this : Nat) (a1 : Int32) (a2 : Int32) (a3 : Int32) : sa_M Int32 :=
sa_gd 12 this (
sa_bnd (sa_rdR 12 this 35) fun v1 =>
sa_bnd (f_X12_isThere v1 a1) fun v2 =>
sa_jn0 (sa_retZ 0) fun j32 =>
if v2 = 0 then
j32
else
sa_bnd (f_X12_isPlace this a2) fun v3 =>
if v3 = 0 then
j32
else
sa_bnd (sa_rdR 12 this 35) fun v4 =>
sa_bnd (sa_ldI .int v4 (7 * a1)) fun v5 =>
if ¬ v5 = a2 then
sa_bnd (sa_wrI 12 this 55 0) fun _ =>
sa_bnd (sa_wrI 12 this 59 0) fun _ =>
sa_bnd (sa_rdR 12 this 51) fun v6 =>
sa_bnd (sa_rdR 12 this 35) fun v7 =>
sa_bnd (sa_ldI .int v7 (7 * a1)) fun v8 =>
sa_bnd (sa_stI v6 0 v8) fun _ =>
sa_bnd (sa_wrI 12 this 53 1) fun _ =>
sa_bnd (sa_wrI 12 this 54 0) fun _ =>
sa_bnd (sa_rdR 12 this 51) fun v9 =>
sa_bnd (sa_ldI .int v9 0) fun v10 =>
sa_bnd (f_X12_goJourneys 60 this a1 a2 a3 (1 <<< (v10 &&& 31))) fun _ =>
sa_bnd (sa_rdI 12 this 55) fun v11 =>
sa_jn1 (fun (y12 : Int32) =>
sa_retZ y12) fun j96 =>
if v11 ≤ 0 then
j96 0
else
j96 1
else
j32)
set_option maxHeartbeats 1000000 in
set_option maxRecDepth 10000 in
theorem b_X12_layBest {p : Program} {l : Launch} {e : Env} {s : State} {m : MethodId} {args : Array Value} {below : List Frame} {meth : Method} {c : Code} {D : va_G} {ad : Nat → Nat} {cA : FieldType → ClassId} {A : Nat → Prop} (this : Nat) (a1 : Int32) (a2 : Int32) (a3 : Int32) (C : sa_C p s m args meth c cX12_layBest RX12 "layBest" 4 (some .boolean) D ad cA A) : sa_Sg p l e s m args below meth c 4 198 D ad cA A sa_eI 0 [(0, .ref (ad this)), (1, .int a1), (2, .int a2), (3, .int a3)] [] (f_X12_layBest this a1 a2 a3) := by
  unfold f_X12_layBest
  refine sa_gdI ?_
  refine sa_aload_n C d_X12_layBest_0 rfl 0 rfl ?_
  refine sa_getR C fd_X12_64 rfl d_X12_layBest_1 (fun v1 => ?_)
  refine sa_iload_n C d_X12_layBest_4 rfl 1 rfl ?_
  refine sa_invS C (k_X12_isThere v1 a1) q1835 ds_X12_isThere q128 q1834 q1833 rfl rfl rfl (Nat.le_of_ble_eq_true rfl) (by decide) (by decide) d_X12_layBest_5 (fun v2 => ?_)
  refine sa_join0 32 ([]) ([]) (?_) (fun j32 hj32 => ?_)
  · refine sa_iconst (v := 0) C d_X12_layBest_32 (by decide) ?_
    exact sa_zret C d_X12_layBest_33
  refine sa_if_eq (tgt := 32) C d_X12_layBest_8 (by decide) ?_ ?_
  · exact sa_sub [] rfl (hj32)
  refine sa_aload_n C d_X12_layBest_11 rfl 0 rfl ?_
  refine sa_iload_n C d_X12_layBest_12 rfl 2 rfl ?_
  refine sa_invV (ci := 12) C (k_X12_isPlace this a2) q1785 ds_X12_isPlace q128 rfl q1784 q70 q1782 (gd_X12_isPlace this a2) rfl rfl rfl (Nat.le_of_ble_eq_true rfl) (by decide) (by decide) d_X12_layBest_13 (fun v3 => ?_)
  refine sa_if_eq (tgt := 32) C d_X12_layBest_16 (by decide) ?_ ?_
  · exact sa_sub [] rfl (hj32)
  refine sa_aload_n C d_X12_layBest_19 rfl 0 rfl ?_
  refine sa_getR C fd_X12_64 rfl d_X12_layBest_20 (fun v4 => ?_)
  refine sa_bipush (v := 7) C d_X12_layBest_23 (by decide) ?_
  refine sa_iload_n C d_X12_layBest_25 rfl 1 rfl ?_
  refine sa_imul C d_X12_layBest_26 ?_
  refine sa_iald C d_X12_layBest_27 (fun v5 => ?_)
  refine sa_iload_n C d_X12_layBest_28 rfl 2 rfl ?_
  refine sa_icmp_ne (tgt := 34) C d_X12_layBest_29 (by decide) ?_ ?_
  · refine sa_aload_n C d_X12_layBest_34 rfl 0 rfl ?_
    refine sa_iconst (v := 0) C d_X12_layBest_35 (by decide) ?_
    refine sa_putI C fd_X12_493 d_X12_layBest_36 ?_
    refine sa_aload_n C d_X12_layBest_39 rfl 0 rfl ?_
    refine sa_iconst (v := 0) C d_X12_layBest_40 (by decide) ?_
    refine sa_putI C fd_X12_514 d_X12_layBest_41 ?_
    refine sa_aload_n C d_X12_layBest_44 rfl 0 rfl ?_
    refine sa_getR C fd_X12_100 rfl d_X12_layBest_45 (fun v6 => ?_)
    refine sa_iconst (v := 0) C d_X12_layBest_48 (by decide) ?_
    refine sa_aload_n C d_X12_layBest_49 rfl 0 rfl ?_
    refine sa_getR C fd_X12_64 rfl d_X12_layBest_50 (fun v7 => ?_)
    refine sa_bipush (v := 7) C d_X12_layBest_53 (by decide) ?_
    refine sa_iload_n C d_X12_layBest_55 rfl 1 rfl ?_
    refine sa_imul C d_X12_layBest_56 ?_
    refine sa_iald C d_X12_layBest_57 (fun v8 => ?_)
    refine sa_iast C d_X12_layBest_58 ?_
    refine sa_aload_n C d_X12_layBest_59 rfl 0 rfl ?_
    refine sa_iconst (v := 1) C d_X12_layBest_60 (by decide) ?_
    refine sa_putI C fd_X12_490 d_X12_layBest_61 ?_
    refine sa_aload_n C d_X12_layBest_64 rfl 0 rfl ?_
    refine sa_iconst (v := 0) C d_X12_layBest_65 (by decide) ?_
    refine sa_putI C fd_X12_496 d_X12_layBest_66 ?_
    refine sa_aload_n C d_X12_layBest_69 rfl 0 rfl ?_
    refine sa_iload_n C d_X12_layBest_70 rfl 1 rfl ?_
    refine sa_iload_n C d_X12_layBest_71 rfl 2 rfl ?_
    refine sa_iload_n C d_X12_layBest_72 rfl 3 rfl ?_
    refine sa_iconst (v := 1) C d_X12_layBest_73 (by decide) ?_
    refine sa_aload_n C d_X12_layBest_74 rfl 0 rfl ?_
    refine sa_getR C fd_X12_100 rfl d_X12_layBest_75 (fun v9 => ?_)
    refine sa_iconst (v := 0) C d_X12_layBest_78 (by decide) ?_
    refine sa_iald C d_X12_layBest_79 (fun v10 => ?_)
    refine sa_ishl C d_X12_layBest_80 ?_
    refine sa_invV (ci := 12) C (k_X12_goJourneys 60 this a1 a2 a3 (1 <<< (v10 &&& 31))) q1970 ds_X12_goJourneys q128 rfl q1969 q92 q1967 (gd_X12_goJourneys 60 this a1 a2 a3 (1 <<< (v10 &&& 31))) rfl rfl rfl (Nat.le_of_ble_eq_true rfl) (by decide) (by decide) d_X12_layBest_81 (fun _ => ?_)
    refine sa_aload_n C d_X12_layBest_84 rfl 0 rfl ?_
    refine sa_getI C fd_X12_493 d_X12_layBest_85 (fun v11 => ?_)
    refine sa_join1 96 (fun y12 => []) (fun y12 => [.int y12]) (fun y12 => ?_) (fun j96 hj96 => ?_)
    · exact sa_zret C d_X12_layBest_96
    refine sa_if_le (tgt := 95) C d_X12_layBest_88 (by decide) ?_ ?_
    · refine sa_iconst (v := 0) C d_X12_layBest_95 (by decide) ?_
      exact sa_sub [] rfl (hj96 _)
    refine sa_iconst (v := 1) C d_X12_layBest_91 (by decide) ?_
    refine sa_goto (tgt := 96) C d_X12_layBest_92 (by decide) ?_
    exact sa_sub [] rfl (hj96 _)
  exact sa_sub [] rfl (hj32)
theorem k_X12_layBest (this : Nat) (a1 : Int32) (a2 : Int32) (a3 : Int32) : sa_Met 198 yX12_layBest cX12_layBest 4 (some .boolean) (fun ad => [.ref (ad this), .int a1, .int a2, .int a3]) sa_eI (f_X12_layBest this a1 a2 a3) := sa_mk (by decide) (fun ad => Nat.le_of_ble_eq_true rfl) (fun p l e s m args below meth c D ad cA A C => b_X12_layBest this a1 a2 a3 C)
theorem gd_X12_layBest (this : Nat) (a1 : Int32) (a2 : Int32) (a3 : Int32) (σ : sa_St) (r : Int32) (τ : sa_St) (h : f_X12_layBest this a1 a2 a3 σ = some (r, τ)) : sa_sh this = some (.inl 12) := sa_gd_ok h
theorem d_X12_journeys_0 : decode cX12_journeys 0 = .ok (.aload_n 0, 1) := by decide +kernel
theorem d_X12_journeys_1 : decode cX12_journeys 1 = .ok (.iconst 0, 1) := by decide +kernel
theorem d_X12_journeys_2 : decode cX12_journeys 2 = .ok (.putfield 127, 3) := by decide +kernel
theorem d_X12_journeys_5 : decode cX12_journeys 5 = .ok (.aload_n 0, 1) := by decide +kernel
theorem d_X12_journeys_6 : decode cX12_journeys 6 = .ok (.getfield 64, 3) := by decide +kernel
theorem d_X12_journeys_9 : decode cX12_journeys 9 = .ok (.iload_n 1, 1) := by decide +kernel
theorem d_X12_journeys_10 : decode cX12_journeys 10 = .ok (.invokestatic 403, 3) := by decide +kernel
theorem d_X12_journeys_13 : decode cX12_journeys 13 = .ok (.ifCond .eq 24, 3) := by decide +kernel
theorem d_X12_journeys_16 : decode cX12_journeys 16 = .ok (.aload_n 0, 1) := by decide +kernel
theorem d_X12_journeys_17 : decode cX12_journeys 17 = .ok (.iload_n 2, 1) := by decide +kernel
theorem d_X12_journeys_18 : decode cX12_journeys 18 = .ok (.invokevirtual 372, 3) := by decide +kernel
theorem d_X12_journeys_21 : decode cX12_journeys 21 = .ok (.ifCond .eq 16, 3) := by decide +kernel
theorem d_X12_journeys_24 : decode cX12_journeys 24 = .ok (.aload_n 0, 1) := by decide +kernel
theorem d_X12_journeys_25 : decode cX12_journeys 25 = .ok (.getfield 64, 3) := by decide +kernel
theorem d_X12_journeys_28 : decode cX12_journeys 28 = .ok (.bipush 7, 2) := by decide +kernel
theorem d_X12_journeys_30 : decode cX12_journeys 30 = .ok (.iload_n 1, 1) := by decide +kernel
theorem d_X12_journeys_31 : decode cX12_journeys 31 = .ok (.imul, 1) := by decide +kernel
theorem d_X12_journeys_32 : decode cX12_journeys 32 = .ok (.iaload, 1) := by decide +kernel
theorem d_X12_journeys_33 : decode cX12_journeys 33 = .ok (.iload_n 2, 1) := by decide +kernel
theorem d_X12_journeys_34 : decode cX12_journeys 34 = .ok (.if_icmp .ne 5, 3) := by decide +kernel
theorem d_X12_journeys_37 : decode cX12_journeys 37 = .ok (.iconst (-1), 1) := by decide +kernel
theorem d_X12_journeys_38 : decode cX12_journeys 38 = .ok (.ireturn, 1) := by decide +kernel
theorem d_X12_journeys_39 : decode cX12_journeys 39 = .ok (.aload_n 0, 1) := by decide +kernel
theorem d_X12_journeys_40 : decode cX12_journeys 40 = .ok (.iload_n 1, 1) := by decide +kernel
theorem d_X12_journeys_41 : decode cX12_journeys 41 = .ok (.iload_n 2, 1) := by decide +kernel
theorem d_X12_journeys_42 : decode cX12_journeys 42 = .ok (.iconst 2, 1) := by decide +kernel
theorem d_X12_journeys_43 : decode cX12_journeys 43 = .ok (.invokevirtual 537, 3) := by decide +kernel
theorem d_X12_journeys_46 : decode cX12_journeys 46 = .ok (.istore_n 3, 1) := by decide +kernel
theorem d_X12_journeys_47 : decode cX12_journeys 47 = .ok (.sipush 200, 3) := by decide +kernel
theorem d_X12_journeys_50 : decode cX12_journeys 50 = .ok (.aload_n 0, 1) := by decide +kernel
theorem d_X12_journeys_51 : decode cX12_journeys 51 = .ok (.getfield 514, 3) := by decide +kernel
theorem d_X12_journeys_54 : decode cX12_journeys 54 = .ok (.invokestatic 356, 3) := by decide +kernel
theorem d_X12_journeys_57 : decode cX12_journeys 57 = .ok (.ireturn, 1) := by decide +kernel
def f_X12_journeys (this : Nat) (a1 : Int32) (a2 : Int32) : sa_M Int32 :=
sa_gd 12 this (
sa_bnd (sa_wrI 12 this 0 0) fun _ =>
sa_bnd (sa_rdR 12 this 35) fun v1 =>
sa_bnd (f_X12_isThere v1 a1) fun v2 =>
sa_jn0 (sa_ret ((-1) : Int32)) fun j37 =>
if v2 = 0 then
j37
else
sa_bnd (f_X12_isPlace this a2) fun v3 =>
if v3 = 0 then
j37
else
sa_bnd (sa_rdR 12 this 35) fun v4 =>
sa_bnd (sa_ldI .int v4 (7 * a1)) fun v5 =>
if ¬ v5 = a2 then
sa_bnd (f_X12_layBest this a1 a2 2) fun v6 =>
sa_bnd (sa_rdI 12 this 59) fun v7 =>
sa_ret ((sa_min 200 v7) : Int32)
else
j37)
set_option maxHeartbeats 1000000 in
set_option maxRecDepth 10000 in
theorem b_X12_journeys {p : Program} {l : Launch} {e : Env} {s : State} {m : MethodId} {args : Array Value} {below : List Frame} {meth : Method} {c : Code} {D : va_G} {ad : Nat → Nat} {cA : FieldType → ClassId} {A : Nat → Prop} (this : Nat) (a1 : Int32) (a2 : Int32) (C : sa_C p s m args meth c cX12_journeys RX12 "journeys" 4 (some .int) D ad cA A) : sa_Sg p l e s m args below meth c 4 199 D ad cA A sa_eI 0 [(0, .ref (ad this)), (1, .int a1), (2, .int a2)] [] (f_X12_journeys this a1 a2) := by
  unfold f_X12_journeys
  refine sa_gdI ?_
  refine sa_aload_n C d_X12_journeys_0 rfl 0 rfl ?_
  refine sa_iconst (v := 0) C d_X12_journeys_1 (by decide) ?_
  refine sa_putI C fd_X12_127 d_X12_journeys_2 ?_
  refine sa_aload_n C d_X12_journeys_5 rfl 0 rfl ?_
  refine sa_getR C fd_X12_64 rfl d_X12_journeys_6 (fun v1 => ?_)
  refine sa_iload_n C d_X12_journeys_9 rfl 1 rfl ?_
  refine sa_invS C (k_X12_isThere v1 a1) q1835 ds_X12_isThere q128 q1834 q1833 rfl rfl rfl (Nat.le_of_ble_eq_true rfl) (by decide) (by decide) d_X12_journeys_10 (fun v2 => ?_)
  refine sa_join0 37 ([]) ([]) (?_) (fun j37 hj37 => ?_)
  · refine sa_iconst (v := (-1)) C d_X12_journeys_37 (by decide) ?_
    exact sa_iret C d_X12_journeys_38
  refine sa_if_eq (tgt := 37) C d_X12_journeys_13 (by decide) ?_ ?_
  · exact sa_sub [] rfl (hj37)
  refine sa_aload_n C d_X12_journeys_16 rfl 0 rfl ?_
  refine sa_iload_n C d_X12_journeys_17 rfl 2 rfl ?_
  refine sa_invV (ci := 12) C (k_X12_isPlace this a2) q1785 ds_X12_isPlace q128 rfl q1784 q70 q1782 (gd_X12_isPlace this a2) rfl rfl rfl (Nat.le_of_ble_eq_true rfl) (by decide) (by decide) d_X12_journeys_18 (fun v3 => ?_)
  refine sa_if_eq (tgt := 37) C d_X12_journeys_21 (by decide) ?_ ?_
  · exact sa_sub [] rfl (hj37)
  refine sa_aload_n C d_X12_journeys_24 rfl 0 rfl ?_
  refine sa_getR C fd_X12_64 rfl d_X12_journeys_25 (fun v4 => ?_)
  refine sa_bipush (v := 7) C d_X12_journeys_28 (by decide) ?_
  refine sa_iload_n C d_X12_journeys_30 rfl 1 rfl ?_
  refine sa_imul C d_X12_journeys_31 ?_
  refine sa_iald C d_X12_journeys_32 (fun v5 => ?_)
  refine sa_iload_n C d_X12_journeys_33 rfl 2 rfl ?_
  refine sa_icmp_ne (tgt := 39) C d_X12_journeys_34 (by decide) ?_ ?_
  · refine sa_aload_n C d_X12_journeys_39 rfl 0 rfl ?_
    refine sa_iload_n C d_X12_journeys_40 rfl 1 rfl ?_
    refine sa_iload_n C d_X12_journeys_41 rfl 2 rfl ?_
    refine sa_iconst (v := 2) C d_X12_journeys_42 (by decide) ?_
    refine sa_invV (ci := 12) C (k_X12_layBest this a1 a2 2) q1966 ds_X12_layBest q128 rfl q1965 q91 q1963 (gd_X12_layBest this a1 a2 2) rfl rfl rfl (Nat.le_of_ble_eq_true rfl) (by decide) (by decide) d_X12_journeys_43 (fun v6 => ?_)
    refine sa_istore_n (lv' := [(3, .int v6), (0, .ref (ad this)), (1, .int a1), (2, .int a2)]) C d_X12_journeys_46 rfl (by decide) rfl ?_
    refine sa_sipush (v := 200) C d_X12_journeys_47 (by decide) ?_
    refine sa_aload_n C d_X12_journeys_50 rfl 1 rfl ?_
    refine sa_getI C fd_X12_514 d_X12_journeys_51 (fun v7 => ?_)
    refine sa_mmin C q1819 (Nat.le_of_ble_eq_true rfl) (by decide) q530 q130 q531 d_X12_journeys_54 ?_
    exact sa_iret C d_X12_journeys_57
  exact sa_sub [] rfl (hj37)
theorem k_X12_journeys (this : Nat) (a1 : Int32) (a2 : Int32) : sa_Met 199 yX12_journeys cX12_journeys 4 (some .int) (fun ad => [.ref (ad this), .int a1, .int a2]) sa_eI (f_X12_journeys this a1 a2) := sa_mk (by decide) (fun ad => Nat.le_of_ble_eq_true rfl) (fun p l e s m args below meth c D ad cA A C => b_X12_journeys this a1 a2 C)
theorem gd_X12_journeys (this : Nat) (a1 : Int32) (a2 : Int32) (σ : sa_St) (r : Int32) (τ : sa_St) (h : f_X12_journeys this a1 a2 σ = some (r, τ)) : sa_sh this = some (.inl 12) := sa_gd_ok h
theorem d_X12_best_0 : decode cX12_best 0 = .ok (.aload_n 0, 1) := by decide +kernel
theorem d_X12_best_1 : decode cX12_best 1 = .ok (.iconst 0, 1) := by decide +kernel
theorem d_X12_best_2 : decode cX12_best 2 = .ok (.putfield 127, 3) := by decide +kernel
theorem d_X12_best_5 : decode cX12_best 5 = .ok (.iload_n 3, 1) := by decide +kernel
theorem d_X12_best_6 : decode cX12_best 6 = .ok (.i2l, 1) := by decide +kernel
theorem d_X12_best_7 : decode cX12_best 7 = .ok (.lconst 0, 1) := by decide +kernel
theorem d_X12_best_8 : decode cX12_best 8 = .ok (.ldc2_w 312, 3) := by decide +kernel
theorem d_X12_best_11 : decode cX12_best 11 = .ok (.invokestatic 248, 3) := by decide +kernel
theorem d_X12_best_14 : decode cX12_best 14 = .ok (.ifCond .eq 18, 3) := by decide +kernel
theorem d_X12_best_17 : decode cX12_best 17 = .ok (.iload 4, 2) := by decide +kernel
theorem d_X12_best_19 : decode cX12_best 19 = .ok (.ifCond .lt 13, 3) := by decide +kernel
theorem d_X12_best_22 : decode cX12_best 22 = .ok (.aload_n 0, 1) := by decide +kernel
theorem d_X12_best_23 : decode cX12_best 23 = .ok (.iload_n 1, 1) := by decide +kernel
theorem d_X12_best_24 : decode cX12_best 24 = .ok (.iload_n 2, 1) := by decide +kernel
theorem d_X12_best_25 : decode cX12_best 25 = .ok (.iload_n 3, 1) := by decide +kernel
theorem d_X12_best_26 : decode cX12_best 26 = .ok (.invokevirtual 537, 3) := by decide +kernel
theorem d_X12_best_29 : decode cX12_best 29 = .ok (.ifCond .ne 7, 3) := by decide +kernel
theorem d_X12_best_32 : decode cX12_best 32 = .ok (.ldc_w 454, 3) := by decide +kernel
theorem d_X12_best_35 : decode cX12_best 35 = .ok (.ireturn, 1) := by decide +kernel
theorem d_X12_best_36 : decode cX12_best 36 = .ok (.iload 4, 2) := by decide +kernel
theorem d_X12_best_38 : decode cX12_best 38 = .ok (.ifCond .ne 8, 3) := by decide +kernel
theorem d_X12_best_41 : decode cX12_best 41 = .ok (.aload_n 0, 1) := by decide +kernel
theorem d_X12_best_42 : decode cX12_best 42 = .ok (.getfield 505, 3) := by decide +kernel
theorem d_X12_best_45 : decode cX12_best 45 = .ok (.ireturn, 1) := by decide +kernel
theorem d_X12_best_46 : decode cX12_best 46 = .ok (.iload 4, 2) := by decide +kernel
theorem d_X12_best_48 : decode cX12_best 48 = .ok (.iconst 1, 1) := by decide +kernel
theorem d_X12_best_49 : decode cX12_best 49 = .ok (.if_icmp .ne 8, 3) := by decide +kernel
theorem d_X12_best_52 : decode cX12_best 52 = .ok (.aload_n 0, 1) := by decide +kernel
theorem d_X12_best_53 : decode cX12_best 53 = .ok (.getfield 511, 3) := by decide +kernel
theorem d_X12_best_56 : decode cX12_best 56 = .ok (.ireturn, 1) := by decide +kernel
theorem d_X12_best_57 : decode cX12_best 57 = .ok (.iload 4, 2) := by decide +kernel
theorem d_X12_best_59 : decode cX12_best 59 = .ok (.iconst 2, 1) := by decide +kernel
theorem d_X12_best_60 : decode cX12_best 60 = .ok (.if_icmp .ne 8, 3) := by decide +kernel
theorem d_X12_best_63 : decode cX12_best 63 = .ok (.aload_n 0, 1) := by decide +kernel
theorem d_X12_best_64 : decode cX12_best 64 = .ok (.getfield 499, 3) := by decide +kernel
theorem d_X12_best_67 : decode cX12_best 67 = .ok (.ireturn, 1) := by decide +kernel
theorem d_X12_best_68 : decode cX12_best 68 = .ok (.iload 4, 2) := by decide +kernel
theorem d_X12_best_70 : decode cX12_best 70 = .ok (.iconst 3, 1) := by decide +kernel
theorem d_X12_best_71 : decode cX12_best 71 = .ok (.isub, 1) := by decide +kernel
theorem d_X12_best_72 : decode cX12_best 72 = .ok (.aload_n 0, 1) := by decide +kernel
theorem d_X12_best_73 : decode cX12_best 73 = .ok (.getfield 493, 3) := by decide +kernel
theorem d_X12_best_76 : decode cX12_best 76 = .ok (.if_icmp .ge 15, 3) := by decide +kernel
theorem d_X12_best_79 : decode cX12_best 79 = .ok (.aload_n 0, 1) := by decide +kernel
theorem d_X12_best_80 : decode cX12_best 80 = .ok (.getfield 103, 3) := by decide +kernel
theorem d_X12_best_83 : decode cX12_best 83 = .ok (.iload 4, 2) := by decide +kernel
theorem d_X12_best_85 : decode cX12_best 85 = .ok (.iconst 3, 1) := by decide +kernel
theorem d_X12_best_86 : decode cX12_best 86 = .ok (.isub, 1) := by decide +kernel
theorem d_X12_best_87 : decode cX12_best 87 = .ok (.iaload, 1) := by decide +kernel
theorem d_X12_best_88 : decode cX12_best 88 = .ok (.goto 6, 3) := by decide +kernel
theorem d_X12_best_91 : decode cX12_best 91 = .ok (.ldc_w 454, 3) := by decide +kernel
theorem d_X12_best_94 : decode cX12_best 94 = .ok (.ireturn, 1) := by decide +kernel
def f_X12_best (this : Nat) (a1 : Int32) (a2 : Int32) (a3 : Int32) (a4 : Int32) : sa_M Int32 :=
sa_gd 12 this (
sa_bnd (sa_wrI 12 this 0 0) fun _ =>
sa_bnd (f_X12_isIn (a3.toInt64) 0 2) fun v1 =>
sa_jn0 (sa_ret ((-1000000) : Int32)) fun j32 =>
if v1 = 0 then
j32
else
if a4 < 0 then
j32
else
sa_bnd (f_X12_layBest this a1 a2 a3) fun v2 =>
if ¬ v2 = 0 then
if ¬ a4 = 0 then
if ¬ a4 = 1 then
if ¬ a4 = 2 then
sa_bnd (sa_rdI 12 this 55) fun v3 =>
sa_jn1 (fun (y4 : Int32) =>
sa_ret (y4 : Int32)) fun j94 =>
if v3 ≤ (a4 - 3) then
j94 (-1000000)
else
sa_bnd (sa_rdR 12 this 52) fun v5 =>
sa_bnd (sa_ldI .int v5 (a4 - 3)) fun v6 =>
j94 v6
else
sa_bnd (sa_rdI 12 this 56) fun v7 =>
sa_ret (v7 : Int32)
else
sa_bnd (sa_rdI 12 this 58) fun v8 =>
sa_ret (v8 : Int32)
else
sa_bnd (sa_rdI 12 this 57) fun v9 =>
sa_ret (v9 : Int32)
else
j32)
set_option maxHeartbeats 1000000 in
set_option maxRecDepth 10000 in
theorem b_X12_best {p : Program} {l : Launch} {e : Env} {s : State} {m : MethodId} {args : Array Value} {below : List Frame} {meth : Method} {c : Code} {D : va_G} {ad : Nat → Nat} {cA : FieldType → ClassId} {A : Nat → Prop} (this : Nat) (a1 : Int32) (a2 : Int32) (a3 : Int32) (a4 : Int32) (C : sa_C p s m args meth c cX12_best RX12 "best" 5 (some .int) D ad cA A) : sa_Sg p l e s m args below meth c 5 199 D ad cA A sa_eI 0 [(0, .ref (ad this)), (1, .int a1), (2, .int a2), (3, .int a3), (4, .int a4)] [] (f_X12_best this a1 a2 a3 a4) := by
  unfold f_X12_best
  refine sa_gdI ?_
  refine sa_aload_n C d_X12_best_0 rfl 0 rfl ?_
  refine sa_iconst (v := 0) C d_X12_best_1 (by decide) ?_
  refine sa_putI C fd_X12_127 d_X12_best_2 ?_
  refine sa_iload_n C d_X12_best_5 rfl 3 rfl ?_
  refine sa_i2l C d_X12_best_6 ?_
  refine sa_lconst (v := 0) C d_X12_best_7 (by decide) ?_
  refine sa_ldc2 (v := 2) C d_X12_best_8 q1634 ?_
  refine sa_invS C (k_X12_isIn (a3.toInt64) 0 2) q1637 ds_X12_isIn q128 q1636 q1635 rfl rfl rfl (Nat.le_of_ble_eq_true rfl) (by decide) (by decide) d_X12_best_11 (fun v1 => ?_)
  refine sa_join0 32 ([]) ([]) (?_) (fun j32 hj32 => ?_)
  · refine sa_ldcw (v := (-1000000)) C d_X12_best_32 q1935 ?_
    exact sa_iret C d_X12_best_35
  refine sa_if_eq (tgt := 32) C d_X12_best_14 (by decide) ?_ ?_
  · exact sa_sub [] rfl (hj32)
  refine sa_iload C d_X12_best_17 4 rfl ?_
  refine sa_if_lt (tgt := 32) C d_X12_best_19 (by decide) ?_ ?_
  · exact sa_sub [] rfl (hj32)
  refine sa_aload_n C d_X12_best_22 rfl 0 rfl ?_
  refine sa_iload_n C d_X12_best_23 rfl 1 rfl ?_
  refine sa_iload_n C d_X12_best_24 rfl 2 rfl ?_
  refine sa_iload_n C d_X12_best_25 rfl 3 rfl ?_
  refine sa_invV (ci := 12) C (k_X12_layBest this a1 a2 a3) q1966 ds_X12_layBest q128 rfl q1965 q91 q1963 (gd_X12_layBest this a1 a2 a3) rfl rfl rfl (Nat.le_of_ble_eq_true rfl) (by decide) (by decide) d_X12_best_26 (fun v2 => ?_)
  refine sa_if_ne (tgt := 36) C d_X12_best_29 (by decide) ?_ ?_
  · refine sa_iload C d_X12_best_36 4 rfl ?_
    refine sa_if_ne (tgt := 46) C d_X12_best_38 (by decide) ?_ ?_
    · refine sa_iload C d_X12_best_46 4 rfl ?_
      refine sa_iconst (v := 1) C d_X12_best_48 (by decide) ?_
      refine sa_icmp_ne (tgt := 57) C d_X12_best_49 (by decide) ?_ ?_
      · refine sa_iload C d_X12_best_57 4 rfl ?_
        refine sa_iconst (v := 2) C d_X12_best_59 (by decide) ?_
        refine sa_icmp_ne (tgt := 68) C d_X12_best_60 (by decide) ?_ ?_
        · refine sa_iload C d_X12_best_68 4 rfl ?_
          refine sa_iconst (v := 3) C d_X12_best_70 (by decide) ?_
          refine sa_isub C d_X12_best_71 ?_
          refine sa_aload_n C d_X12_best_72 rfl 0 rfl ?_
          refine sa_getI C fd_X12_493 d_X12_best_73 (fun v3 => ?_)
          refine sa_join1 94 (fun y4 => []) (fun y4 => [.int y4]) (fun y4 => ?_) (fun j94 hj94 => ?_)
          · exact sa_iret C d_X12_best_94
          refine sa_icmp_ge (tgt := 91) C d_X12_best_76 (by decide) ?_ ?_
          · refine sa_ldcw (v := (-1000000)) C d_X12_best_91 q1935 ?_
            exact sa_sub [] rfl (hj94 _)
          refine sa_aload_n C d_X12_best_79 rfl 0 rfl ?_
          refine sa_getR C fd_X12_103 rfl d_X12_best_80 (fun v5 => ?_)
          refine sa_iload C d_X12_best_83 4 rfl ?_
          refine sa_iconst (v := 3) C d_X12_best_85 (by decide) ?_
          refine sa_isub C d_X12_best_86 ?_
          refine sa_iald C d_X12_best_87 (fun v6 => ?_)
          refine sa_goto (tgt := 94) C d_X12_best_88 (by decide) ?_
          exact sa_sub [] rfl (hj94 _)
        refine sa_aload_n C d_X12_best_63 rfl 0 rfl ?_
        refine sa_getI C fd_X12_499 d_X12_best_64 (fun v7 => ?_)
        exact sa_iret C d_X12_best_67
      refine sa_aload_n C d_X12_best_52 rfl 0 rfl ?_
      refine sa_getI C fd_X12_511 d_X12_best_53 (fun v8 => ?_)
      exact sa_iret C d_X12_best_56
    refine sa_aload_n C d_X12_best_41 rfl 0 rfl ?_
    refine sa_getI C fd_X12_505 d_X12_best_42 (fun v9 => ?_)
    exact sa_iret C d_X12_best_45
  exact sa_sub [] rfl (hj32)
theorem k_X12_best (this : Nat) (a1 : Int32) (a2 : Int32) (a3 : Int32) (a4 : Int32) : sa_Met 199 yX12_best cX12_best 5 (some .int) (fun ad => [.ref (ad this), .int a1, .int a2, .int a3, .int a4]) sa_eI (f_X12_best this a1 a2 a3 a4) := sa_mk (by decide) (fun ad => Nat.le_of_ble_eq_true rfl) (fun p l e s m args below meth c D ad cA A C => b_X12_best this a1 a2 a3 a4 C)
theorem gd_X12_best (this : Nat) (a1 : Int32) (a2 : Int32) (a3 : Int32) (a4 : Int32) (σ : sa_St) (r : Int32) (τ : sa_St) (h : f_X12_best this a1 a2 a3 a4 σ = some (r, τ)) : sa_sh this = some (.inl 12) := sa_gd_ok h
theorem d_X12_waits_0 : decode cX12_waits 0 = .ok (.aload_n 0, 1) := by decide +kernel
theorem d_X12_waits_1 : decode cX12_waits 1 = .ok (.iconst 0, 1) := by decide +kernel
theorem d_X12_waits_2 : decode cX12_waits 2 = .ok (.putfield 127, 3) := by decide +kernel
theorem d_X12_waits_5 : decode cX12_waits 5 = .ok (.iload_n 3, 1) := by decide +kernel
theorem d_X12_waits_6 : decode cX12_waits 6 = .ok (.i2l, 1) := by decide +kernel
theorem d_X12_waits_7 : decode cX12_waits 7 = .ok (.lconst 0, 1) := by decide +kernel
theorem d_X12_waits_8 : decode cX12_waits 8 = .ok (.lconst 1, 1) := by decide +kernel
theorem d_X12_waits_9 : decode cX12_waits 9 = .ok (.invokestatic 248, 3) := by decide +kernel
theorem d_X12_waits_12 : decode cX12_waits 12 = .ok (.ifCond .eq 13, 3) := by decide +kernel
theorem d_X12_waits_15 : decode cX12_waits 15 = .ok (.aload_n 0, 1) := by decide +kernel
theorem d_X12_waits_16 : decode cX12_waits 16 = .ok (.iload_n 1, 1) := by decide +kernel
theorem d_X12_waits_17 : decode cX12_waits 17 = .ok (.iload_n 2, 1) := by decide +kernel
theorem d_X12_waits_18 : decode cX12_waits 18 = .ok (.iconst 2, 1) := by decide +kernel
theorem d_X12_waits_19 : decode cX12_waits 19 = .ok (.invokevirtual 537, 3) := by decide +kernel
theorem d_X12_waits_22 : decode cX12_waits 22 = .ok (.ifCond .ne 7, 3) := by decide +kernel
theorem d_X12_waits_25 : decode cX12_waits 25 = .ok (.ldc_w 454, 3) := by decide +kernel
theorem d_X12_waits_28 : decode cX12_waits 28 = .ok (.ireturn, 1) := by decide +kernel
theorem d_X12_waits_29 : decode cX12_waits 29 = .ok (.iconst (-1), 1) := by decide +kernel
theorem d_X12_waits_30 : decode cX12_waits 30 = .ok (.istore 4, 2) := by decide +kernel
theorem d_X12_waits_32 : decode cX12_waits 32 = .ok (.iconst 0, 1) := by decide +kernel
theorem d_X12_waits_33 : decode cX12_waits 33 = .ok (.istore 5, 2) := by decide +kernel
theorem d_X12_waits_35 : decode cX12_waits 35 = .ok (.iconst 0, 1) := by decide +kernel
theorem d_X12_waits_36 : decode cX12_waits 36 = .ok (.istore 6, 2) := by decide +kernel
theorem d_X12_waits_38 : decode cX12_waits 38 = .ok (.iload 6, 2) := by decide +kernel
theorem d_X12_waits_40 : decode cX12_waits 40 = .ok (.bipush 12, 2) := by decide +kernel
theorem d_X12_waits_42 : decode cX12_waits 42 = .ok (.if_icmp .gt 113, 3) := by decide +kernel
theorem d_X12_waits_45 : decode cX12_waits 45 = .ok (.aload_n 0, 1) := by decide +kernel
theorem d_X12_waits_46 : decode cX12_waits 46 = .ok (.iload_n 1, 1) := by decide +kernel
theorem d_X12_waits_47 : decode cX12_waits 47 = .ok (.invokevirtual 520, 3) := by decide +kernel
theorem d_X12_waits_50 : decode cX12_waits 50 = .ok (.iconst 0, 1) := by decide +kernel
theorem d_X12_waits_51 : decode cX12_waits 51 = .ok (.istore 7, 2) := by decide +kernel
theorem d_X12_waits_53 : decode cX12_waits 53 = .ok (.iload 7, 2) := by decide +kernel
theorem d_X12_waits_55 : decode cX12_waits 55 = .ok (.iload 6, 2) := by decide +kernel
theorem d_X12_waits_57 : decode cX12_waits 57 = .ok (.if_icmp .ge 51, 3) := by decide +kernel
theorem d_X12_waits_60 : decode cX12_waits 60 = .ok (.aload_n 0, 1) := by decide +kernel
theorem d_X12_waits_61 : decode cX12_waits 61 = .ok (.aload_n 0, 1) := by decide +kernel
theorem d_X12_waits_62 : decode cX12_waits 62 = .ok (.getfield 64, 3) := by decide +kernel
theorem d_X12_waits_65 : decode cX12_waits 65 = .ok (.bipush 7, 2) := by decide +kernel
theorem d_X12_waits_67 : decode cX12_waits 67 = .ok (.iload_n 1, 1) := by decide +kernel
theorem d_X12_waits_68 : decode cX12_waits 68 = .ok (.imul, 1) := by decide +kernel
theorem d_X12_waits_69 : decode cX12_waits 69 = .ok (.iaload, 1) := by decide +kernel
theorem d_X12_waits_70 : decode cX12_waits 70 = .ok (.invokevirtual 389, 3) := by decide +kernel
theorem d_X12_waits_73 : decode cX12_waits 73 = .ok (.ifCond .eq 16, 3) := by decide +kernel
theorem d_X12_waits_76 : decode cX12_waits 76 = .ok (.aload_n 0, 1) := by decide +kernel
theorem d_X12_waits_77 : decode cX12_waits 77 = .ok (.dup, 1) := by decide +kernel
theorem d_X12_waits_78 : decode cX12_waits 78 = .ok (.getfield 476, 3) := by decide +kernel
theorem d_X12_waits_81 : decode cX12_waits 81 = .ok (.iconst 1, 1) := by decide +kernel
theorem d_X12_waits_82 : decode cX12_waits 82 = .ok (.iadd, 1) := by decide +kernel
theorem d_X12_waits_83 : decode cX12_waits 83 = .ok (.putfield 476, 3) := by decide +kernel
theorem d_X12_waits_86 : decode cX12_waits 86 = .ok (.goto 16, 3) := by decide +kernel
theorem d_X12_waits_89 : decode cX12_waits 89 = .ok (.aload_n 0, 1) := by decide +kernel
theorem d_X12_waits_90 : decode cX12_waits 90 = .ok (.aload_n 0, 1) := by decide +kernel
theorem d_X12_waits_91 : decode cX12_waits 91 = .ok (.getfield 64, 3) := by decide +kernel
theorem d_X12_waits_94 : decode cX12_waits 94 = .ok (.bipush 7, 2) := by decide +kernel
theorem d_X12_waits_96 : decode cX12_waits 96 = .ok (.iload_n 1, 1) := by decide +kernel
theorem d_X12_waits_97 : decode cX12_waits 97 = .ok (.imul, 1) := by decide +kernel
theorem d_X12_waits_98 : decode cX12_waits 98 = .ok (.iaload, 1) := by decide +kernel
theorem d_X12_waits_99 : decode cX12_waits 99 = .ok (.invokevirtual 484, 3) := by decide +kernel
theorem d_X12_waits_102 : decode cX12_waits 102 = .ok (.iinc 7 1, 3) := by decide +kernel
theorem d_X12_waits_105 : decode cX12_waits 105 = .ok (.goto (-52), 3) := by decide +kernel
theorem d_X12_waits_108 : decode cX12_waits 108 = .ok (.aload_n 0, 1) := by decide +kernel
theorem d_X12_waits_109 : decode cX12_waits 109 = .ok (.aload_n 0, 1) := by decide +kernel
theorem d_X12_waits_110 : decode cX12_waits 110 = .ok (.getfield 103, 3) := by decide +kernel
theorem d_X12_waits_113 : decode cX12_waits 113 = .ok (.aload_n 0, 1) := by decide +kernel
theorem d_X12_waits_114 : decode cX12_waits 114 = .ok (.getfield 493, 3) := by decide +kernel
theorem d_X12_waits_117 : decode cX12_waits 117 = .ok (.iconst (-1), 1) := by decide +kernel
theorem d_X12_waits_118 : decode cX12_waits 118 = .ok (.invokevirtual 523, 3) := by decide +kernel
theorem d_X12_waits_121 : decode cX12_waits 121 = .ok (.iload 4, 2) := by decide +kernel
theorem d_X12_waits_123 : decode cX12_waits 123 = .ok (.iconst (-1), 1) := by decide +kernel
theorem d_X12_waits_124 : decode cX12_waits 124 = .ok (.if_icmp .eq 15, 3) := by decide +kernel
theorem d_X12_waits_127 : decode cX12_waits 127 = .ok (.aload_n 0, 1) := by decide +kernel
theorem d_X12_waits_128 : decode cX12_waits 128 = .ok (.invokevirtual 502, 3) := by decide +kernel
theorem d_X12_waits_131 : decode cX12_waits 131 = .ok (.iload 5, 2) := by decide +kernel
theorem d_X12_waits_133 : decode cX12_waits 133 = .ok (.if_icmp .gt 6, 3) := by decide +kernel
theorem d_X12_waits_136 : decode cX12_waits 136 = .ok (.goto 13, 3) := by decide +kernel
theorem d_X12_waits_139 : decode cX12_waits 139 = .ok (.iload 6, 2) := by decide +kernel
theorem d_X12_waits_141 : decode cX12_waits 141 = .ok (.istore 4, 2) := by decide +kernel
theorem d_X12_waits_143 : decode cX12_waits 143 = .ok (.aload_n 0, 1) := by decide +kernel
theorem d_X12_waits_144 : decode cX12_waits 144 = .ok (.invokevirtual 502, 3) := by decide +kernel
theorem d_X12_waits_147 : decode cX12_waits 147 = .ok (.istore 5, 2) := by decide +kernel
theorem d_X12_waits_149 : decode cX12_waits 149 = .ok (.iinc 6 1, 3) := by decide +kernel
theorem d_X12_waits_152 : decode cX12_waits 152 = .ok (.goto (-114), 3) := by decide +kernel
theorem d_X12_waits_155 : decode cX12_waits 155 = .ok (.iload_n 3, 1) := by decide +kernel
theorem d_X12_waits_156 : decode cX12_waits 156 = .ok (.ifCond .ne 8, 3) := by decide +kernel
theorem d_X12_waits_159 : decode cX12_waits 159 = .ok (.iload 4, 2) := by decide +kernel
theorem d_X12_waits_161 : decode cX12_waits 161 = .ok (.goto 5, 3) := by decide +kernel
theorem d_X12_waits_164 : decode cX12_waits 164 = .ok (.iload 5, 2) := by decide +kernel
theorem d_X12_waits_166 : decode cX12_waits 166 = .ok (.ireturn, 1) := by decide +kernel
def f_X12_waits (this : Nat) (a1 : Int32) (a2 : Int32) (a3 : Int32) : sa_M Int32 :=
sa_gd 12 this (
sa_bnd (sa_wrI 12 this 0 0) fun _ =>
sa_bnd (f_X12_isIn (a3.toInt64) 0 1) fun v1 =>
sa_jn0 (sa_ret ((-1000000) : Int32)) fun j25 =>
if v1 = 0 then
j25
else
sa_bnd (f_X12_layBest this a1 a2 2) fun v2 =>
if ¬ v2 = 0 then
sa_let ((-1) : Int32) fun x3 =>
sa_let (0 : Int32) fun x4 =>
sa_let (0 : Int32) fun x5 =>
sa_wh3 (fun j38 (x6 : Int32) (x7 : Int32) (x8 : Int32) =>
if 12 < x8 then
sa_jn1 (fun (y9 : Int32) =>
sa_ret (y9 : Int32)) fun j166 =>
if ¬ a3 = 0 then
j166 x7
else
j166 x6
else
sa_bnd (f_X12_beginsParts this a1) fun _ =>
sa_let (0 : Int32) fun x10 =>
sa_wh1 (fun j53 (x11 : Int32) =>
if x8 ≤ x11 then
sa_bnd (sa_rdR 12 this 52) fun v12 =>
sa_bnd (sa_rdI 12 this 55) fun v13 =>
sa_bnd (f_X12_goPath this v12 v13 (-1)) fun _ =>
sa_jn2 (fun (x14 : Int32) (x15 : Int32) =>
sa_let ((x8 + 1) : Int32) fun x16 =>
j38 x14 x15 x16) fun j149 =>
sa_jn0 (sa_bnd (f_X12_meanNow this) fun v17 =>
j149 x8 v17) fun j139 =>
if x6 = (-1) then
j139
else
sa_bnd (f_X12_meanNow this) fun v18 =>
if x7 < v18 then
j139
else
j149 x6 x7
else
sa_bnd (sa_rdR 12 this 35) fun v19 =>
sa_bnd (sa_ldI .int v19 (7 * a1)) fun v20 =>
sa_bnd (f_X12_isRoofed this v20) fun v21 =>
sa_jn0 (sa_let ((x11 + 1) : Int32) fun x22 =>
j53 x22) fun j102 =>
if v21 = 0 then
sa_bnd (sa_rdR 12 this 35) fun v23 =>
sa_bnd (sa_ldI .int v23 (7 * a1)) fun v24 =>
sa_bnd (f_X12_rainsOn this v24) fun _ =>
j102
else
sa_bnd (sa_rdI 12 this 61) fun v25 =>
sa_bnd (sa_wrI 12 this 61 (v25 + 1)) fun _ =>
j102) sa_F x10) sa_F x3 x4 x5
else
j25)
set_option maxHeartbeats 1000000 in
set_option maxRecDepth 10000 in
theorem b_X12_waits {p : Program} {l : Launch} {e : Env} {s : State} {m : MethodId} {args : Array Value} {below : List Frame} {meth : Method} {c : Code} {D : va_G} {ad : Nat → Nat} {cA : FieldType → ClassId} {A : Nat → Prop} (this : Nat) (a1 : Int32) (a2 : Int32) (a3 : Int32) (C : sa_C p s m args meth c cX12_waits RX12 "waits" 8 (some .int) D ad cA A) : sa_Sg p l e s m args below meth c 8 199 D ad cA A sa_eI 0 [(0, .ref (ad this)), (1, .int a1), (2, .int a2), (3, .int a3)] [] (f_X12_waits this a1 a2 a3) := by
  unfold f_X12_waits
  refine sa_gdI ?_
  refine sa_aload_n C d_X12_waits_0 rfl 0 rfl ?_
  refine sa_iconst (v := 0) C d_X12_waits_1 (by decide) ?_
  refine sa_putI C fd_X12_127 d_X12_waits_2 ?_
  refine sa_iload_n C d_X12_waits_5 rfl 3 rfl ?_
  refine sa_i2l C d_X12_waits_6 ?_
  refine sa_lconst (v := 0) C d_X12_waits_7 (by decide) ?_
  refine sa_lconst (v := 1) C d_X12_waits_8 (by decide) ?_
  refine sa_invS C (k_X12_isIn (a3.toInt64) 0 1) q1637 ds_X12_isIn q128 q1636 q1635 rfl rfl rfl (Nat.le_of_ble_eq_true rfl) (by decide) (by decide) d_X12_waits_9 (fun v1 => ?_)
  refine sa_join0 25 ([]) ([]) (?_) (fun j25 hj25 => ?_)
  · refine sa_ldcw (v := (-1000000)) C d_X12_waits_25 q1935 ?_
    exact sa_iret C d_X12_waits_28
  refine sa_if_eq (tgt := 25) C d_X12_waits_12 (by decide) ?_ ?_
  · exact sa_sub [] rfl (hj25)
  refine sa_aload_n C d_X12_waits_15 rfl 0 rfl ?_
  refine sa_iload_n C d_X12_waits_16 rfl 1 rfl ?_
  refine sa_iload_n C d_X12_waits_17 rfl 2 rfl ?_
  refine sa_iconst (v := 2) C d_X12_waits_18 (by decide) ?_
  refine sa_invV (ci := 12) C (k_X12_layBest this a1 a2 2) q1966 ds_X12_layBest q128 rfl q1965 q91 q1963 (gd_X12_layBest this a1 a2 2) rfl rfl rfl (Nat.le_of_ble_eq_true rfl) (by decide) (by decide) d_X12_waits_19 (fun v2 => ?_)
  refine sa_if_ne (tgt := 29) C d_X12_waits_22 (by decide) ?_ ?_
  · refine sa_iconst (v := (-1)) C d_X12_waits_29 (by decide) ?_
    refine sa_topi (fun x3 => ?_)
    refine sa_istore (lv' := [(4, .int x3), (0, .ref (ad this)), (1, .int a1), (2, .int a2), (3, .int a3)]) C d_X12_waits_30 (by decide) rfl ?_
    refine sa_iconst (v := 0) C d_X12_waits_32 (by decide) ?_
    refine sa_topi (fun x4 => ?_)
    refine sa_istore (lv' := [(5, .int x4), (4, .int x3), (0, .ref (ad this)), (1, .int a1), (2, .int a2), (3, .int a3)]) C d_X12_waits_33 (by decide) rfl ?_
    refine sa_iconst (v := 0) C d_X12_waits_35 (by decide) ?_
    refine sa_topi (fun x5 => ?_)
    refine sa_istore (lv' := [(6, .int x5), (5, .int x4), (4, .int x3), (0, .ref (ad this)), (1, .int a1), (2, .int a2), (3, .int a3)]) C d_X12_waits_36 (by decide) rfl ?_
    refine sa_sub [3, 4, 6, 2, 1, 0] rfl (sa_loop3 (fun x6 x7 x8 => [(0, .ref (ad this)), (1, .int a1), (3, .int a3), (4, .int x6), (5, .int x7), (6, .int x8)]) (fun x6 x7 x8 => []) (fun j38 hj38 x6 x7 x8 => ?_) _ _ _ _)
    refine sa_iload C d_X12_waits_38 5 rfl ?_
    refine sa_bipush (v := 12) C d_X12_waits_40 (by decide) ?_
    refine sa_icmp_gt (tgt := 155) C d_X12_waits_42 (by decide) ?_ ?_
    · refine sa_iload_n C d_X12_waits_155 rfl 2 rfl ?_
      refine sa_join1 166 (fun y9 => []) (fun y9 => [.int y9]) (fun y9 => ?_) (fun j166 hj166 => ?_)
      · exact sa_iret C d_X12_waits_166
      refine sa_if_ne (tgt := 164) C d_X12_waits_156 (by decide) ?_ ?_
      · refine sa_iload C d_X12_waits_164 4 rfl ?_
        exact sa_sub [] rfl (hj166 _)
      refine sa_iload C d_X12_waits_159 3 rfl ?_
      refine sa_goto (tgt := 166) C d_X12_waits_161 (by decide) ?_
      exact sa_sub [] rfl (hj166 _)
    refine sa_aload_n C d_X12_waits_45 rfl 0 rfl ?_
    refine sa_iload_n C d_X12_waits_46 rfl 1 rfl ?_
    refine sa_invV (ci := 12) C (k_X12_beginsParts this a1) q1986 ds_X12_beginsParts q128 rfl q1985 q96 q1983 (gd_X12_beginsParts this a1) rfl rfl rfl (Nat.le_of_ble_eq_true rfl) (by decide) (by decide) d_X12_waits_47 (fun _ => ?_)
    refine sa_iconst (v := 0) C d_X12_waits_50 (by decide) ?_
    refine sa_topi (fun x10 => ?_)
    refine sa_istore (lv' := [(7, .int x10), (0, .ref (ad this)), (1, .int a1), (3, .int a3), (4, .int x6), (5, .int x7), (6, .int x8)]) C d_X12_waits_51 (by decide) rfl ?_
    refine sa_sub [1, 2, 3, 4, 5, 6, 0] rfl (sa_loop1 (fun x11 => [(0, .ref (ad this)), (1, .int a1), (3, .int a3), (4, .int x6), (5, .int x7), (6, .int x8), (7, .int x11)]) (fun x11 => []) (fun j53 hj53 x11 => ?_) _ _)
    refine sa_iload C d_X12_waits_53 6 rfl ?_
    refine sa_iload C d_X12_waits_55 5 rfl ?_
    refine sa_icmp_ge (tgt := 108) C d_X12_waits_57 (by decide) ?_ ?_
    · refine sa_aload_n C d_X12_waits_108 rfl 0 rfl ?_
      refine sa_aload_n C d_X12_waits_109 rfl 0 rfl ?_
      refine sa_getR C fd_X12_103 rfl d_X12_waits_110 (fun v12 => ?_)
      refine sa_aload_n C d_X12_waits_113 rfl 0 rfl ?_
      refine sa_getI C fd_X12_493 d_X12_waits_114 (fun v13 => ?_)
      refine sa_iconst (v := (-1)) C d_X12_waits_117 (by decide) ?_
      refine sa_invV (ci := 12) C (k_X12_goPath this v12 v13 (-1)) q1991 ds_X12_goPath q128 rfl q1990 q97 q1988 (gd_X12_goPath this v12 v13 (-1)) rfl rfl rfl (Nat.le_of_ble_eq_true rfl) (by decide) (by decide) d_X12_waits_118 (fun _ => ?_)
      refine sa_iload C d_X12_waits_121 3 rfl ?_
      refine sa_iconst (v := (-1)) C d_X12_waits_123 (by decide) ?_
      refine sa_join2 149 (fun x14 x15 => [(0, .ref (ad this)), (1, .int a1), (3, .int a3), (4, .int x14), (5, .int x15), (6, .int x8)]) (fun x14 x15 => []) (fun x14 x15 => ?_) (fun j149 hj149 => ?_)
      · refine sa_iinc C (fun zz => [(6, .int zz), (0, .ref (ad this)), (1, .int a1), (3, .int a3), (4, .int x14), (5, .int x15)]) d_X12_waits_149 5 rfl rfl (by decide) (fun _ => rfl) (fun x16 => ?_)
        refine sa_goto (tgt := 38) C d_X12_waits_152 (by decide) ?_
        exact sa_sub [1, 2, 3, 4, 5, 0] rfl (hj38 _ _ _)
      refine sa_join0 139 ([(0, .ref (ad this)), (1, .int a1), (3, .int a3), (6, .int x8)]) ([]) (?_) (fun j139 hj139 => ?_)
      · refine sa_iload C d_X12_waits_139 3 rfl ?_
        refine sa_istore (lv' := [(4, .int x8), (0, .ref (ad this)), (1, .int a1), (3, .int a3), (6, .int x8)]) C d_X12_waits_141 (by decide) rfl ?_
        refine sa_aload_n C d_X12_waits_143 rfl 1 rfl ?_
        refine sa_invV (ci := 12) C (k_X12_meanNow this) q2008 ds_X12_meanNow q128 rfl q2007 q101 q2005 (gd_X12_meanNow this) rfl rfl rfl (Nat.le_of_ble_eq_true rfl) (by decide) (by decide) d_X12_waits_144 (fun v17 => ?_)
        refine sa_istore (lv' := [(5, .int v17), (4, .int x8), (0, .ref (ad this)), (1, .int a1), (3, .int a3), (6, .int x8)]) C d_X12_waits_147 (by decide) rfl ?_
        exact sa_sub [2, 3, 4, 1, 0, 5] rfl (hj149 _ _)
      refine sa_icmp_eq (tgt := 139) C d_X12_waits_124 (by decide) ?_ ?_
      · exact sa_sub [0, 1, 2, 5] rfl (hj139)
      refine sa_aload_n C d_X12_waits_127 rfl 0 rfl ?_
      refine sa_invV (ci := 12) C (k_X12_meanNow this) q2008 ds_X12_meanNow q128 rfl q2007 q101 q2005 (gd_X12_meanNow this) rfl rfl rfl (Nat.le_of_ble_eq_true rfl) (by decide) (by decide) d_X12_waits_128 (fun v18 => ?_)
      refine sa_iload C d_X12_waits_131 4 rfl ?_
      refine sa_icmp_gt (tgt := 139) C d_X12_waits_133 (by decide) ?_ ?_
      · exact sa_sub [0, 1, 2, 5] rfl (hj139)
      refine sa_goto (tgt := 149) C d_X12_waits_136 (by decide) ?_
      exact sa_sub [0, 1, 2, 3, 4, 5] rfl (hj149 _ _)
    refine sa_aload_n C d_X12_waits_60 rfl 0 rfl ?_
    refine sa_aload_n C d_X12_waits_61 rfl 0 rfl ?_
    refine sa_getR C fd_X12_64 rfl d_X12_waits_62 (fun v19 => ?_)
    refine sa_bipush (v := 7) C d_X12_waits_65 (by decide) ?_
    refine sa_iload_n C d_X12_waits_67 rfl 1 rfl ?_
    refine sa_imul C d_X12_waits_68 ?_
    refine sa_iald C d_X12_waits_69 (fun v20 => ?_)
    refine sa_invV (ci := 12) C (k_X12_isRoofed this v20) q1895 ds_X12_isRoofed q128 rfl q1894 q84 q1892 (gd_X12_isRoofed this v20) rfl rfl rfl (Nat.le_of_ble_eq_true rfl) (by decide) (by decide) d_X12_waits_70 (fun v21 => ?_)
    refine sa_join0 102 ([(0, .ref (ad this)), (1, .int a1), (3, .int a3), (4, .int x6), (5, .int x7), (6, .int x8), (7, .int x11)]) ([]) (?_) (fun j102 hj102 => ?_)
    · refine sa_iinc C (fun zz => [(7, .int zz), (0, .ref (ad this)), (1, .int a1), (3, .int a3), (4, .int x6), (5, .int x7), (6, .int x8)]) d_X12_waits_102 6 rfl rfl (by decide) (fun _ => rfl) (fun x22 => ?_)
      refine sa_goto (tgt := 53) C d_X12_waits_105 (by decide) ?_
      exact sa_sub [1, 2, 3, 4, 5, 6, 0] rfl (hj53 _)
    refine sa_if_eq (tgt := 89) C d_X12_waits_73 (by decide) ?_ ?_
    · refine sa_aload_n C d_X12_waits_89 rfl 0 rfl ?_
      refine sa_aload_n C d_X12_waits_90 rfl 0 rfl ?_
      refine sa_getR C fd_X12_64 rfl d_X12_waits_91 (fun v23 => ?_)
      refine sa_bipush (v := 7) C d_X12_waits_94 (by decide) ?_
      refine sa_iload_n C d_X12_waits_96 rfl 1 rfl ?_
      refine sa_imul C d_X12_waits_97 ?_
      refine sa_iald C d_X12_waits_98 (fun v24 => ?_)
      refine sa_invV (ci := 12) C (k_X12_rainsOn this v24) q1995 ds_X12_rainsOn q128 rfl q1994 q98 q1992 (gd_X12_rainsOn this v24) rfl rfl rfl (Nat.le_of_ble_eq_true rfl) (by decide) (by decide) d_X12_waits_99 (fun _ => ?_)
      exact sa_sub [0, 1, 2, 3, 4, 5, 6] rfl (hj102)
    refine sa_aload_n C d_X12_waits_76 rfl 0 rfl ?_
    refine sa_dup C d_X12_waits_77 rfl ?_
    refine sa_getI C fd_X12_476 d_X12_waits_78 (fun v25 => ?_)
    refine sa_iconst (v := 1) C d_X12_waits_81 (by decide) ?_
    refine sa_iadd C d_X12_waits_82 ?_
    refine sa_putI C fd_X12_476 d_X12_waits_83 ?_
    refine sa_goto (tgt := 102) C d_X12_waits_86 (by decide) ?_
    exact sa_sub [0, 1, 2, 3, 4, 5, 6] rfl (hj102)
  exact sa_sub [] rfl (hj25)
theorem k_X12_waits (this : Nat) (a1 : Int32) (a2 : Int32) (a3 : Int32) : sa_Met 199 yX12_waits cX12_waits 8 (some .int) (fun ad => [.ref (ad this), .int a1, .int a2, .int a3]) sa_eI (f_X12_waits this a1 a2 a3) := sa_mk (by decide) (fun ad => Nat.le_of_ble_eq_true rfl) (fun p l e s m args below meth c D ad cA A C => b_X12_waits this a1 a2 a3 C)
theorem gd_X12_waits (this : Nat) (a1 : Int32) (a2 : Int32) (a3 : Int32) (σ : sa_St) (r : Int32) (τ : sa_St) (h : f_X12_waits this a1 a2 a3 σ = some (r, τ)) : sa_sh this = some (.inl 12) := sa_gd_ok h
theorem d_X12_ambush_0 : decode cX12_ambush 0 = .ok (.aload_n 0, 1) := by decide +kernel
theorem d_X12_ambush_1 : decode cX12_ambush 1 = .ok (.iconst 0, 1) := by decide +kernel
theorem d_X12_ambush_2 : decode cX12_ambush 2 = .ok (.putfield 127, 3) := by decide +kernel
theorem d_X12_ambush_5 : decode cX12_ambush 5 = .ok (.iload_n 3, 1) := by decide +kernel
theorem d_X12_ambush_6 : decode cX12_ambush 6 = .ok (.ifCond .ge 7, 3) := by decide +kernel
theorem d_X12_ambush_9 : decode cX12_ambush 9 = .ok (.ldc_w 454, 3) := by decide +kernel
theorem d_X12_ambush_12 : decode cX12_ambush 12 = .ok (.ireturn, 1) := by decide +kernel
theorem d_X12_ambush_13 : decode cX12_ambush 13 = .ok (.iload_n 3, 1) := by decide +kernel
theorem d_X12_ambush_14 : decode cX12_ambush 14 = .ok (.iconst 1, 1) := by decide +kernel
theorem d_X12_ambush_15 : decode cX12_ambush 15 = .ok (.if_icmp .ne 137, 3) := by decide +kernel
theorem d_X12_ambush_18 : decode cX12_ambush 18 = .ok (.aload_n 0, 1) := by decide +kernel
theorem d_X12_ambush_19 : decode cX12_ambush 19 = .ok (.iload_n 1, 1) := by decide +kernel
theorem d_X12_ambush_20 : decode cX12_ambush 20 = .ok (.iload_n 2, 1) := by decide +kernel
theorem d_X12_ambush_21 : decode cX12_ambush 21 = .ok (.iconst 0, 1) := by decide +kernel
theorem d_X12_ambush_22 : decode cX12_ambush 22 = .ok (.invokevirtual 537, 3) := by decide +kernel
theorem d_X12_ambush_25 : decode cX12_ambush 25 = .ok (.ifCond .ne 7, 3) := by decide +kernel
theorem d_X12_ambush_28 : decode cX12_ambush 28 = .ok (.ldc_w 454, 3) := by decide +kernel
theorem d_X12_ambush_31 : decode cX12_ambush 31 = .ok (.ireturn, 1) := by decide +kernel
theorem d_X12_ambush_32 : decode cX12_ambush 32 = .ok (.iconst (-1), 1) := by decide +kernel
theorem d_X12_ambush_33 : decode cX12_ambush 33 = .ok (.istore 4, 2) := by decide +kernel
theorem d_X12_ambush_35 : decode cX12_ambush 35 = .ok (.aload_n 0, 1) := by decide +kernel
theorem d_X12_ambush_36 : decode cX12_ambush 36 = .ok (.getfield 505, 3) := by decide +kernel
theorem d_X12_ambush_39 : decode cX12_ambush 39 = .ok (.istore 5, 2) := by decide +kernel
theorem d_X12_ambush_41 : decode cX12_ambush 41 = .ok (.iconst 0, 1) := by decide +kernel
theorem d_X12_ambush_42 : decode cX12_ambush 42 = .ok (.istore 6, 2) := by decide +kernel
theorem d_X12_ambush_44 : decode cX12_ambush 44 = .ok (.iload 6, 2) := by decide +kernel
theorem d_X12_ambush_46 : decode cX12_ambush 46 = .ok (.aload_n 0, 1) := by decide +kernel
theorem d_X12_ambush_47 : decode cX12_ambush 47 = .ok (.getfield 331, 3) := by decide +kernel
theorem d_X12_ambush_50 : decode cX12_ambush 50 = .ok (.if_icmp .ge 99, 3) := by decide +kernel
theorem d_X12_ambush_53 : decode cX12_ambush 53 = .ok (.iconst 0, 1) := by decide +kernel
theorem d_X12_ambush_54 : decode cX12_ambush 54 = .ok (.istore 7, 2) := by decide +kernel
theorem d_X12_ambush_56 : decode cX12_ambush 56 = .ok (.iconst 1, 1) := by decide +kernel
theorem d_X12_ambush_57 : decode cX12_ambush 57 = .ok (.istore 8, 2) := by decide +kernel
theorem d_X12_ambush_59 : decode cX12_ambush 59 = .ok (.iload 8, 2) := by decide +kernel
theorem d_X12_ambush_61 : decode cX12_ambush 61 = .ok (.aload_n 0, 1) := by decide +kernel
theorem d_X12_ambush_62 : decode cX12_ambush 62 = .ok (.getfield 493, 3) := by decide +kernel
theorem d_X12_ambush_65 : decode cX12_ambush 65 = .ok (.if_icmp .ge 33, 3) := by decide +kernel
theorem d_X12_ambush_68 : decode cX12_ambush 68 = .ok (.iload 7, 2) := by decide +kernel
theorem d_X12_ambush_70 : decode cX12_ambush 70 = .ok (.ifCond .ne 15, 3) := by decide +kernel
theorem d_X12_ambush_73 : decode cX12_ambush 73 = .ok (.aload_n 0, 1) := by decide +kernel
theorem d_X12_ambush_74 : decode cX12_ambush 74 = .ok (.getfield 103, 3) := by decide +kernel
theorem d_X12_ambush_77 : decode cX12_ambush 77 = .ok (.iload 8, 2) := by decide +kernel
theorem d_X12_ambush_79 : decode cX12_ambush 79 = .ok (.iaload, 1) := by decide +kernel
theorem d_X12_ambush_80 : decode cX12_ambush 80 = .ok (.iload 6, 2) := by decide +kernel
theorem d_X12_ambush_82 : decode cX12_ambush 82 = .ok (.if_icmp .ne 7, 3) := by decide +kernel
theorem d_X12_ambush_85 : decode cX12_ambush 85 = .ok (.iconst 1, 1) := by decide +kernel
theorem d_X12_ambush_86 : decode cX12_ambush 86 = .ok (.goto 4, 3) := by decide +kernel
theorem d_X12_ambush_89 : decode cX12_ambush 89 = .ok (.iconst 0, 1) := by decide +kernel
theorem d_X12_ambush_90 : decode cX12_ambush 90 = .ok (.istore 7, 2) := by decide +kernel
theorem d_X12_ambush_92 : decode cX12_ambush 92 = .ok (.iinc 8 1, 3) := by decide +kernel
theorem d_X12_ambush_95 : decode cX12_ambush 95 = .ok (.goto (-36), 3) := by decide +kernel
theorem d_X12_ambush_98 : decode cX12_ambush 98 = .ok (.iload 7, 2) := by decide +kernel
theorem d_X12_ambush_100 : decode cX12_ambush 100 = .ok (.ifCond .eq 21, 3) := by decide +kernel
theorem d_X12_ambush_103 : decode cX12_ambush 103 = .ok (.aload_n 0, 1) := by decide +kernel
theorem d_X12_ambush_104 : decode cX12_ambush 104 = .ok (.iload_n 1, 1) := by decide +kernel
theorem d_X12_ambush_105 : decode cX12_ambush 105 = .ok (.aload_n 0, 1) := by decide +kernel
theorem d_X12_ambush_106 : decode cX12_ambush 106 = .ok (.getfield 103, 3) := by decide +kernel
theorem d_X12_ambush_109 : decode cX12_ambush 109 = .ok (.aload_n 0, 1) := by decide +kernel
theorem d_X12_ambush_110 : decode cX12_ambush 110 = .ok (.getfield 493, 3) := by decide +kernel
theorem d_X12_ambush_113 : decode cX12_ambush 113 = .ok (.iload 6, 2) := by decide +kernel
theorem d_X12_ambush_115 : decode cX12_ambush 115 = .ok (.invokevirtual 541, 3) := by decide +kernel
theorem d_X12_ambush_118 : decode cX12_ambush 118 = .ok (.goto 5, 3) := by decide +kernel
theorem d_X12_ambush_121 : decode cX12_ambush 121 = .ok (.iload 5, 2) := by decide +kernel
theorem d_X12_ambush_123 : decode cX12_ambush 123 = .ok (.istore 8, 2) := by decide +kernel
theorem d_X12_ambush_125 : decode cX12_ambush 125 = .ok (.iload 8, 2) := by decide +kernel
theorem d_X12_ambush_127 : decode cX12_ambush 127 = .ok (.iload 5, 2) := by decide +kernel
theorem d_X12_ambush_129 : decode cX12_ambush 129 = .ok (.if_icmp .lt 6, 3) := by decide +kernel
theorem d_X12_ambush_132 : decode cX12_ambush 132 = .ok (.goto 11, 3) := by decide +kernel
theorem d_X12_ambush_135 : decode cX12_ambush 135 = .ok (.iload 6, 2) := by decide +kernel
theorem d_X12_ambush_137 : decode cX12_ambush 137 = .ok (.istore 4, 2) := by decide +kernel
theorem d_X12_ambush_139 : decode cX12_ambush 139 = .ok (.iload 8, 2) := by decide +kernel
theorem d_X12_ambush_141 : decode cX12_ambush 141 = .ok (.istore 5, 2) := by decide +kernel
theorem d_X12_ambush_143 : decode cX12_ambush 143 = .ok (.iinc 6 1, 3) := by decide +kernel
theorem d_X12_ambush_146 : decode cX12_ambush 146 = .ok (.goto (-102), 3) := by decide +kernel
theorem d_X12_ambush_149 : decode cX12_ambush 149 = .ok (.iload 4, 2) := by decide +kernel
theorem d_X12_ambush_151 : decode cX12_ambush 151 = .ok (.ireturn, 1) := by decide +kernel
theorem d_X12_ambush_152 : decode cX12_ambush 152 = .ok (.aload_n 0, 1) := by decide +kernel
theorem d_X12_ambush_153 : decode cX12_ambush 153 = .ok (.iload_n 1, 1) := by decide +kernel
theorem d_X12_ambush_154 : decode cX12_ambush 154 = .ok (.iload_n 2, 1) := by decide +kernel
theorem d_X12_ambush_155 : decode cX12_ambush 155 = .ok (.iconst 3, 1) := by decide +kernel
theorem d_X12_ambush_156 : decode cX12_ambush 156 = .ok (.invokevirtual 537, 3) := by decide +kernel
theorem d_X12_ambush_159 : decode cX12_ambush 159 = .ok (.ifCond .ne 7, 3) := by decide +kernel
theorem d_X12_ambush_162 : decode cX12_ambush 162 = .ok (.ldc_w 454, 3) := by decide +kernel
theorem d_X12_ambush_165 : decode cX12_ambush 165 = .ok (.ireturn, 1) := by decide +kernel
theorem d_X12_ambush_166 : decode cX12_ambush 166 = .ok (.iload_n 3, 1) := by decide +kernel
theorem d_X12_ambush_167 : decode cX12_ambush 167 = .ok (.ifCond .ne 10, 3) := by decide +kernel
theorem d_X12_ambush_170 : decode cX12_ambush 170 = .ok (.aload_n 0, 1) := by decide +kernel
theorem d_X12_ambush_171 : decode cX12_ambush 171 = .ok (.getfield 505, 3) := by decide +kernel
theorem d_X12_ambush_174 : decode cX12_ambush 174 = .ok (.goto 27, 3) := by decide +kernel
theorem d_X12_ambush_177 : decode cX12_ambush 177 = .ok (.iload_n 3, 1) := by decide +kernel
theorem d_X12_ambush_178 : decode cX12_ambush 178 = .ok (.iconst 2, 1) := by decide +kernel
theorem d_X12_ambush_179 : decode cX12_ambush 179 = .ok (.isub, 1) := by decide +kernel
theorem d_X12_ambush_180 : decode cX12_ambush 180 = .ok (.aload_n 0, 1) := by decide +kernel
theorem d_X12_ambush_181 : decode cX12_ambush 181 = .ok (.getfield 493, 3) := by decide +kernel
theorem d_X12_ambush_184 : decode cX12_ambush 184 = .ok (.if_icmp .ge 14, 3) := by decide +kernel
theorem d_X12_ambush_187 : decode cX12_ambush 187 = .ok (.aload_n 0, 1) := by decide +kernel
theorem d_X12_ambush_188 : decode cX12_ambush 188 = .ok (.getfield 103, 3) := by decide +kernel
theorem d_X12_ambush_191 : decode cX12_ambush 191 = .ok (.iload_n 3, 1) := by decide +kernel
theorem d_X12_ambush_192 : decode cX12_ambush 192 = .ok (.iconst 2, 1) := by decide +kernel
theorem d_X12_ambush_193 : decode cX12_ambush 193 = .ok (.isub, 1) := by decide +kernel
theorem d_X12_ambush_194 : decode cX12_ambush 194 = .ok (.iaload, 1) := by decide +kernel
theorem d_X12_ambush_195 : decode cX12_ambush 195 = .ok (.goto 6, 3) := by decide +kernel
theorem d_X12_ambush_198 : decode cX12_ambush 198 = .ok (.ldc_w 454, 3) := by decide +kernel
theorem d_X12_ambush_201 : decode cX12_ambush 201 = .ok (.ireturn, 1) := by decide +kernel
def f_X12_ambush (this : Nat) (a1 : Int32) (a2 : Int32) (a3 : Int32) : sa_M Int32 :=
sa_gd 12 this (
sa_bnd (sa_wrI 12 this 0 0) fun _ =>
if 0 ≤ a3 then
if ¬ a3 = 1 then
sa_bnd (f_X12_layBest this a1 a2 3) fun v1 =>
if ¬ v1 = 0 then
sa_jn1 (fun (y2 : Int32) =>
sa_ret (y2 : Int32)) fun j201 =>
if ¬ a3 = 0 then
sa_bnd (sa_rdI 12 this 55) fun v3 =>
if v3 ≤ (a3 - 2) then
j201 (-1000000)
else
sa_bnd (sa_rdR 12 this 52) fun v4 =>
sa_bnd (sa_ldI .int v4 (a3 - 2)) fun v5 =>
j201 v5
else
sa_bnd (sa_rdI 12 this 57) fun v6 =>
j201 v6
else
sa_ret ((-1000000) : Int32)
else
sa_bnd (f_X12_layBest this a1 a2 0) fun v7 =>
if ¬ v7 = 0 then
sa_let ((-1) : Int32) fun x8 =>
sa_bnd (sa_rdI 12 this 57) fun v9 =>
sa_let (0 : Int32) fun x10 =>
sa_wh3 (fun j44 (x11 : Int32) (x12 : Int32) (x13 : Int32) =>
sa_bnd (sa_rdI 12 this 25) fun v14 =>
if v14 ≤ x13 then
sa_ret (x11 : Int32)
else
sa_let (0 : Int32) fun x15 =>
sa_let (1 : Int32) fun x16 =>
sa_wh2 (fun j59 (x17 : Int32) (x18 : Int32) =>
sa_bnd (sa_rdI 12 this 55) fun v19 =>
if v19 ≤ x18 then
sa_jn1 (fun (y20 : Int32) =>
sa_jn2 (fun (x21 : Int32) (x22 : Int32) =>
sa_let ((x13 + 1) : Int32) fun x23 =>
j44 x21 x22 x23) fun j143 =>
if y20 < x12 then
j143 x13 y20
else
j143 x11 x12) fun j123 =>
if x17 = 0 then
j123 x12
else
sa_bnd (sa_rdR 12 this 52) fun v24 =>
sa_bnd (sa_rdI 12 this 55) fun v25 =>
sa_bnd (f_X12_meanBy this a1 v24 v25 x13) fun v26 =>
j123 v26
else
sa_jn1 (fun (y27 : Int32) =>
sa_let ((x18 + 1) : Int32) fun x28 =>
j59 y27 x28) fun j90 =>
sa_jn0 (j90 1) fun j85 =>
if ¬ x17 = 0 then
j85
else
sa_bnd (sa_rdR 12 this 52) fun v29 =>
sa_bnd (sa_ldI .int v29 x18) fun v30 =>
if ¬ v30 = x13 then
j90 0
else
j85) sa_F x15 x16) sa_F x8 v9 x10
else
sa_ret ((-1000000) : Int32)
else
sa_ret ((-1000000) : Int32))
set_option maxHeartbeats 1000000 in
set_option maxRecDepth 10000 in
theorem b_X12_ambush {p : Program} {l : Launch} {e : Env} {s : State} {m : MethodId} {args : Array Value} {below : List Frame} {meth : Method} {c : Code} {D : va_G} {ad : Nat → Nat} {cA : FieldType → ClassId} {A : Nat → Prop} (this : Nat) (a1 : Int32) (a2 : Int32) (a3 : Int32) (C : sa_C p s m args meth c cX12_ambush RX12 "ambush" 9 (some .int) D ad cA A) : sa_Sg p l e s m args below meth c 9 199 D ad cA A sa_eI 0 [(0, .ref (ad this)), (1, .int a1), (2, .int a2), (3, .int a3)] [] (f_X12_ambush this a1 a2 a3) := by
  unfold f_X12_ambush
  refine sa_gdI ?_
  refine sa_aload_n C d_X12_ambush_0 rfl 0 rfl ?_
  refine sa_iconst (v := 0) C d_X12_ambush_1 (by decide) ?_
  refine sa_putI C fd_X12_127 d_X12_ambush_2 ?_
  refine sa_iload_n C d_X12_ambush_5 rfl 3 rfl ?_
  refine sa_if_ge (tgt := 13) C d_X12_ambush_6 (by decide) ?_ ?_
  · refine sa_iload_n C d_X12_ambush_13 rfl 3 rfl ?_
    refine sa_iconst (v := 1) C d_X12_ambush_14 (by decide) ?_
    refine sa_icmp_ne (tgt := 152) C d_X12_ambush_15 (by decide) ?_ ?_
    · refine sa_aload_n C d_X12_ambush_152 rfl 0 rfl ?_
      refine sa_iload_n C d_X12_ambush_153 rfl 1 rfl ?_
      refine sa_iload_n C d_X12_ambush_154 rfl 2 rfl ?_
      refine sa_iconst (v := 3) C d_X12_ambush_155 (by decide) ?_
      refine sa_invV (ci := 12) C (k_X12_layBest this a1 a2 3) q1966 ds_X12_layBest q128 rfl q1965 q91 q1963 (gd_X12_layBest this a1 a2 3) rfl rfl rfl (Nat.le_of_ble_eq_true rfl) (by decide) (by decide) d_X12_ambush_156 (fun v1 => ?_)
      refine sa_if_ne (tgt := 166) C d_X12_ambush_159 (by decide) ?_ ?_
      · refine sa_iload_n C d_X12_ambush_166 rfl 3 rfl ?_
        refine sa_join1 201 (fun y2 => []) (fun y2 => [.int y2]) (fun y2 => ?_) (fun j201 hj201 => ?_)
        · exact sa_iret C d_X12_ambush_201
        refine sa_if_ne (tgt := 177) C d_X12_ambush_167 (by decide) ?_ ?_
        · refine sa_iload_n C d_X12_ambush_177 rfl 3 rfl ?_
          refine sa_iconst (v := 2) C d_X12_ambush_178 (by decide) ?_
          refine sa_isub C d_X12_ambush_179 ?_
          refine sa_aload_n C d_X12_ambush_180 rfl 0 rfl ?_
          refine sa_getI C fd_X12_493 d_X12_ambush_181 (fun v3 => ?_)
          refine sa_icmp_ge (tgt := 198) C d_X12_ambush_184 (by decide) ?_ ?_
          · refine sa_ldcw (v := (-1000000)) C d_X12_ambush_198 q1935 ?_
            exact sa_sub [] rfl (hj201 _)
          refine sa_aload_n C d_X12_ambush_187 rfl 0 rfl ?_
          refine sa_getR C fd_X12_103 rfl d_X12_ambush_188 (fun v4 => ?_)
          refine sa_iload_n C d_X12_ambush_191 rfl 3 rfl ?_
          refine sa_iconst (v := 2) C d_X12_ambush_192 (by decide) ?_
          refine sa_isub C d_X12_ambush_193 ?_
          refine sa_iald C d_X12_ambush_194 (fun v5 => ?_)
          refine sa_goto (tgt := 201) C d_X12_ambush_195 (by decide) ?_
          exact sa_sub [] rfl (hj201 _)
        refine sa_aload_n C d_X12_ambush_170 rfl 0 rfl ?_
        refine sa_getI C fd_X12_505 d_X12_ambush_171 (fun v6 => ?_)
        refine sa_goto (tgt := 201) C d_X12_ambush_174 (by decide) ?_
        exact sa_sub [] rfl (hj201 _)
      refine sa_ldcw (v := (-1000000)) C d_X12_ambush_162 q1935 ?_
      exact sa_iret C d_X12_ambush_165
    refine sa_aload_n C d_X12_ambush_18 rfl 0 rfl ?_
    refine sa_iload_n C d_X12_ambush_19 rfl 1 rfl ?_
    refine sa_iload_n C d_X12_ambush_20 rfl 2 rfl ?_
    refine sa_iconst (v := 0) C d_X12_ambush_21 (by decide) ?_
    refine sa_invV (ci := 12) C (k_X12_layBest this a1 a2 0) q1966 ds_X12_layBest q128 rfl q1965 q91 q1963 (gd_X12_layBest this a1 a2 0) rfl rfl rfl (Nat.le_of_ble_eq_true rfl) (by decide) (by decide) d_X12_ambush_22 (fun v7 => ?_)
    refine sa_if_ne (tgt := 32) C d_X12_ambush_25 (by decide) ?_ ?_
    · refine sa_iconst (v := (-1)) C d_X12_ambush_32 (by decide) ?_
      refine sa_topi (fun x8 => ?_)
      refine sa_istore (lv' := [(4, .int x8), (0, .ref (ad this)), (1, .int a1), (2, .int a2), (3, .int a3)]) C d_X12_ambush_33 (by decide) rfl ?_
      refine sa_aload_n C d_X12_ambush_35 rfl 1 rfl ?_
      refine sa_getI C fd_X12_505 d_X12_ambush_36 (fun v9 => ?_)
      refine sa_istore (lv' := [(5, .int v9), (4, .int x8), (0, .ref (ad this)), (1, .int a1), (2, .int a2), (3, .int a3)]) C d_X12_ambush_39 (by decide) rfl ?_
      refine sa_iconst (v := 0) C d_X12_ambush_41 (by decide) ?_
      refine sa_topi (fun x10 => ?_)
      refine sa_istore (lv' := [(6, .int x10), (5, .int v9), (4, .int x8), (0, .ref (ad this)), (1, .int a1), (2, .int a2), (3, .int a3)]) C d_X12_ambush_42 (by decide) rfl ?_
      refine sa_sub [3, 4, 2, 1, 0] rfl (sa_loop3 (fun x11 x12 x13 => [(0, .ref (ad this)), (1, .int a1), (4, .int x11), (5, .int x12), (6, .int x13)]) (fun x11 x12 x13 => []) (fun j44 hj44 x11 x12 x13 => ?_) _ _ _ _)
      refine sa_iload C d_X12_ambush_44 4 rfl ?_
      refine sa_aload_n C d_X12_ambush_46 rfl 0 rfl ?_
      refine sa_getI C fd_X12_331 d_X12_ambush_47 (fun v14 => ?_)
      refine sa_icmp_ge (tgt := 149) C d_X12_ambush_50 (by decide) ?_ ?_
      · refine sa_iload C d_X12_ambush_149 2 rfl ?_
        exact sa_iret C d_X12_ambush_151
      refine sa_iconst (v := 0) C d_X12_ambush_53 (by decide) ?_
      refine sa_topi (fun x15 => ?_)
      refine sa_istore (lv' := [(7, .int x15), (0, .ref (ad this)), (1, .int a1), (4, .int x11), (5, .int x12), (6, .int x13)]) C d_X12_ambush_54 (by decide) rfl ?_
      refine sa_iconst (v := 1) C d_X12_ambush_56 (by decide) ?_
      refine sa_topi (fun x16 => ?_)
      refine sa_istore (lv' := [(8, .int x16), (7, .int x15), (0, .ref (ad this)), (1, .int a1), (4, .int x11), (5, .int x12), (6, .int x13)]) C d_X12_ambush_57 (by decide) rfl ?_
      refine sa_sub [2, 3, 4, 5, 6, 1, 0] rfl (sa_loop2 (fun x17 x18 => [(0, .ref (ad this)), (1, .int a1), (4, .int x11), (5, .int x12), (6, .int x13), (7, .int x17), (8, .int x18)]) (fun x17 x18 => []) (fun j59 hj59 x17 x18 => ?_) _ _ _)
      refine sa_iload C d_X12_ambush_59 6 rfl ?_
      refine sa_aload_n C d_X12_ambush_61 rfl 0 rfl ?_
      refine sa_getI C fd_X12_493 d_X12_ambush_62 (fun v19 => ?_)
      refine sa_icmp_ge (tgt := 98) C d_X12_ambush_65 (by decide) ?_ ?_
      · refine sa_iload C d_X12_ambush_98 5 rfl ?_
        refine sa_join1 123 (fun y20 => [(0, .ref (ad this)), (1, .int a1), (4, .int x11), (5, .int x12), (6, .int x13)]) (fun y20 => [.int y20]) (fun y20 => ?_) (fun j123 hj123 => ?_)
        · refine sa_istore (lv' := [(8, .int y20), (0, .ref (ad this)), (1, .int a1), (4, .int x11), (5, .int x12), (6, .int x13)]) C d_X12_ambush_123 (by decide) rfl ?_
          refine sa_iload C d_X12_ambush_125 0 rfl ?_
          refine sa_iload C d_X12_ambush_127 4 rfl ?_
          refine sa_join2 143 (fun x21 x22 => [(0, .ref (ad this)), (1, .int a1), (4, .int x21), (5, .int x22), (6, .int x13)]) (fun x21 x22 => []) (fun x21 x22 => ?_) (fun j143 hj143 => ?_)
          · refine sa_iinc C (fun zz => [(6, .int zz), (0, .ref (ad this)), (1, .int a1), (4, .int x21), (5, .int x22)]) d_X12_ambush_143 4 rfl rfl (by decide) (fun _ => rfl) (fun x23 => ?_)
            refine sa_goto (tgt := 44) C d_X12_ambush_146 (by decide) ?_
            exact sa_sub [1, 2, 3, 4, 0] rfl (hj44 _ _ _)
          refine sa_icmp_lt (tgt := 135) C d_X12_ambush_129 (by decide) ?_ ?_
          · refine sa_iload C d_X12_ambush_135 5 rfl ?_
            refine sa_istore (lv' := [(4, .int x13), (8, .int y20), (0, .ref (ad this)), (1, .int a1), (5, .int x12), (6, .int x13)]) C d_X12_ambush_137 (by decide) rfl ?_
            refine sa_iload C d_X12_ambush_139 1 rfl ?_
            refine sa_istore (lv' := [(5, .int y20), (4, .int x13), (8, .int y20), (0, .ref (ad this)), (1, .int a1), (6, .int x13)]) C d_X12_ambush_141 (by decide) rfl ?_
            exact sa_sub [3, 4, 1, 0, 5] rfl (hj143 _ _)
          refine sa_goto (tgt := 143) C d_X12_ambush_132 (by decide) ?_
          exact sa_sub [1, 2, 3, 4, 5] rfl (hj143 _ _)
        refine sa_if_eq (tgt := 121) C d_X12_ambush_100 (by decide) ?_ ?_
        · refine sa_iload C d_X12_ambush_121 3 rfl ?_
          exact sa_sub [0, 1, 2, 3, 4] rfl (hj123 _)
        refine sa_aload_n C d_X12_ambush_103 rfl 0 rfl ?_
        refine sa_iload_n C d_X12_ambush_104 rfl 1 rfl ?_
        refine sa_aload_n C d_X12_ambush_105 rfl 0 rfl ?_
        refine sa_getR C fd_X12_103 rfl d_X12_ambush_106 (fun v24 => ?_)
        refine sa_aload_n C d_X12_ambush_109 rfl 0 rfl ?_
        refine sa_getI C fd_X12_493 d_X12_ambush_110 (fun v25 => ?_)
        refine sa_iload C d_X12_ambush_113 4 rfl ?_
        refine sa_invV (ci := 12) C (k_X12_meanBy this a1 v24 v25 x13) q1982 ds_X12_meanBy q128 rfl q1981 q95 q1979 (gd_X12_meanBy this a1 v24 v25 x13) rfl rfl rfl (Nat.le_of_ble_eq_true rfl) (by decide) (by decide) d_X12_ambush_115 (fun v26 => ?_)
        refine sa_goto (tgt := 123) C d_X12_ambush_118 (by decide) ?_
        exact sa_sub [0, 1, 2, 3, 4] rfl (hj123 _)
      refine sa_iload C d_X12_ambush_68 5 rfl ?_
      refine sa_join1 90 (fun y27 => [(0, .ref (ad this)), (1, .int a1), (4, .int x11), (5, .int x12), (6, .int x13), (8, .int x18)]) (fun y27 => [.int y27]) (fun y27 => ?_) (fun j90 hj90 => ?_)
      · refine sa_istore (lv' := [(7, .int y27), (0, .ref (ad this)), (1, .int a1), (4, .int x11), (5, .int x12), (6, .int x13), (8, .int x18)]) C d_X12_ambush_90 (by decide) rfl ?_
        refine sa_iinc C (fun zz => [(8, .int zz), (7, .int y27), (0, .ref (ad this)), (1, .int a1), (4, .int x11), (5, .int x12), (6, .int x13)]) d_X12_ambush_92 6 rfl rfl (by decide) (fun _ => rfl) (fun x28 => ?_)
        refine sa_goto (tgt := 59) C d_X12_ambush_95 (by decide) ?_
        exact sa_sub [2, 3, 4, 5, 6, 1, 0] rfl (hj59 _ _)
      refine sa_join0 85 ([(0, .ref (ad this)), (1, .int a1), (4, .int x11), (5, .int x12), (6, .int x13), (8, .int x18)]) ([]) (?_) (fun j85 hj85 => ?_)
      · refine sa_iconst (v := 1) C d_X12_ambush_85 (by decide) ?_
        refine sa_goto (tgt := 90) C d_X12_ambush_86 (by decide) ?_
        exact sa_sub [0, 1, 2, 3, 4, 5] rfl (hj90 _)
      refine sa_if_ne (tgt := 85) C d_X12_ambush_70 (by decide) ?_ ?_
      · exact sa_sub [0, 1, 2, 3, 4, 6] rfl (hj85)
      refine sa_aload_n C d_X12_ambush_73 rfl 0 rfl ?_
      refine sa_getR C fd_X12_103 rfl d_X12_ambush_74 (fun v29 => ?_)
      refine sa_iload C d_X12_ambush_77 6 rfl ?_
      refine sa_iald C d_X12_ambush_79 (fun v30 => ?_)
      refine sa_iload C d_X12_ambush_80 4 rfl ?_
      refine sa_icmp_ne (tgt := 89) C d_X12_ambush_82 (by decide) ?_ ?_
      · refine sa_iconst (v := 0) C d_X12_ambush_89 (by decide) ?_
        exact sa_sub [0, 1, 2, 3, 4, 6] rfl (hj90 _)
      exact sa_sub [0, 1, 2, 3, 4, 6] rfl (hj85)
    refine sa_ldcw (v := (-1000000)) C d_X12_ambush_28 q1935 ?_
    exact sa_iret C d_X12_ambush_31
  refine sa_ldcw (v := (-1000000)) C d_X12_ambush_9 q1935 ?_
  exact sa_iret C d_X12_ambush_12
theorem k_X12_ambush (this : Nat) (a1 : Int32) (a2 : Int32) (a3 : Int32) : sa_Met 199 yX12_ambush cX12_ambush 9 (some .int) (fun ad => [.ref (ad this), .int a1, .int a2, .int a3]) sa_eI (f_X12_ambush this a1 a2 a3) := sa_mk (by decide) (fun ad => Nat.le_of_ble_eq_true rfl) (fun p l e s m args below meth c D ad cA A C => b_X12_ambush this a1 a2 a3 C)
theorem gd_X12_ambush (this : Nat) (a1 : Int32) (a2 : Int32) (a3 : Int32) (σ : sa_St) (r : Int32) (τ : sa_St) (h : f_X12_ambush this a1 a2 a3 σ = some (r, τ)) : sa_sh this = some (.inl 12) := sa_gd_ok h
theorem d_X12_goPickets_0 : decode cX12_goPickets 0 = .ok (.aload_n 0, 1) := by decide +kernel
theorem d_X12_goPickets_1 : decode cX12_goPickets 1 = .ok (.getfield 545, 3) := by decide +kernel
theorem d_X12_goPickets_4 : decode cX12_goPickets 4 = .ok (.iconst (-1), 1) := by decide +kernel
theorem d_X12_goPickets_5 : decode cX12_goPickets 5 = .ok (.if_icmp .eq 4, 3) := by decide +kernel
theorem d_X12_goPickets_8 : decode cX12_goPickets 8 = .ok (.return_, 1) := by decide +kernel
theorem d_X12_goPickets_9 : decode cX12_goPickets 9 = .ok (.iload_n 1, 1) := by decide +kernel
theorem d_X12_goPickets_10 : decode cX12_goPickets 10 = .ok (.ifCond .ne 31, 3) := by decide +kernel
theorem d_X12_goPickets_13 : decode cX12_goPickets 13 = .ok (.aload_n 0, 1) := by decide +kernel
theorem d_X12_goPickets_14 : decode cX12_goPickets 14 = .ok (.getfield 548, 3) := by decide +kernel
theorem d_X12_goPickets_17 : decode cX12_goPickets 17 = .ok (.aload_n 0, 1) := by decide +kernel
theorem d_X12_goPickets_18 : decode cX12_goPickets 18 = .ok (.getfield 551, 3) := by decide +kernel
theorem d_X12_goPickets_21 : decode cX12_goPickets 21 = .ok (.if_icmp .ne 9, 3) := by decide +kernel
theorem d_X12_goPickets_24 : decode cX12_goPickets 24 = .ok (.aload_n 0, 1) := by decide +kernel
theorem d_X12_goPickets_25 : decode cX12_goPickets 25 = .ok (.iload 4, 2) := by decide +kernel
theorem d_X12_goPickets_27 : decode cX12_goPickets 27 = .ok (.putfield 545, 3) := by decide +kernel
theorem d_X12_goPickets_30 : decode cX12_goPickets 30 = .ok (.aload_n 0, 1) := by decide +kernel
theorem d_X12_goPickets_31 : decode cX12_goPickets 31 = .ok (.dup, 1) := by decide +kernel
theorem d_X12_goPickets_32 : decode cX12_goPickets 32 = .ok (.getfield 548, 3) := by decide +kernel
theorem d_X12_goPickets_35 : decode cX12_goPickets 35 = .ok (.iconst 1, 1) := by decide +kernel
theorem d_X12_goPickets_36 : decode cX12_goPickets 36 = .ok (.iadd, 1) := by decide +kernel
theorem d_X12_goPickets_37 : decode cX12_goPickets 37 = .ok (.putfield 548, 3) := by decide +kernel
theorem d_X12_goPickets_40 : decode cX12_goPickets 40 = .ok (.return_, 1) := by decide +kernel
theorem d_X12_goPickets_41 : decode cX12_goPickets 41 = .ok (.iconst 0, 1) := by decide +kernel
theorem d_X12_goPickets_42 : decode cX12_goPickets 42 = .ok (.istore 5, 2) := by decide +kernel
theorem d_X12_goPickets_44 : decode cX12_goPickets 44 = .ok (.iload 5, 2) := by decide +kernel
theorem d_X12_goPickets_46 : decode cX12_goPickets 46 = .ok (.aload_n 0, 1) := by decide +kernel
theorem d_X12_goPickets_47 : decode cX12_goPickets 47 = .ok (.getfield 64, 3) := by decide +kernel
theorem d_X12_goPickets_50 : decode cX12_goPickets 50 = .ok (.bipush 75, 2) := by decide +kernel
theorem d_X12_goPickets_52 : decode cX12_goPickets 52 = .ok (.iaload, 1) := by decide +kernel
theorem d_X12_goPickets_53 : decode cX12_goPickets 53 = .ok (.if_icmp .ge 80, 3) := by decide +kernel
theorem d_X12_goPickets_56 : decode cX12_goPickets 56 = .ok (.aload_n 0, 1) := by decide +kernel
theorem d_X12_goPickets_57 : decode cX12_goPickets 57 = .ok (.getfield 106, 3) := by decide +kernel
theorem d_X12_goPickets_60 : decode cX12_goPickets 60 = .ok (.iload 5, 2) := by decide +kernel
theorem d_X12_goPickets_62 : decode cX12_goPickets 62 = .ok (.iaload, 1) := by decide +kernel
theorem d_X12_goPickets_63 : decode cX12_goPickets 63 = .ok (.iload_n 2, 1) := by decide +kernel
theorem d_X12_goPickets_64 : decode cX12_goPickets 64 = .ok (.if_icmp .ge 6, 3) := by decide +kernel
theorem d_X12_goPickets_67 : decode cX12_goPickets 67 = .ok (.goto 60, 3) := by decide +kernel
theorem d_X12_goPickets_70 : decode cX12_goPickets 70 = .ok (.aload_n 0, 1) := by decide +kernel
theorem d_X12_goPickets_71 : decode cX12_goPickets 71 = .ok (.getfield 106, 3) := by decide +kernel
theorem d_X12_goPickets_74 : decode cX12_goPickets 74 = .ok (.iload 5, 2) := by decide +kernel
theorem d_X12_goPickets_76 : decode cX12_goPickets 76 = .ok (.iaload, 1) := by decide +kernel
theorem d_X12_goPickets_77 : decode cX12_goPickets 77 = .ok (.istore 6, 2) := by decide +kernel
theorem d_X12_goPickets_79 : decode cX12_goPickets 79 = .ok (.aload_n 0, 1) := by decide +kernel
theorem d_X12_goPickets_80 : decode cX12_goPickets 80 = .ok (.getfield 106, 3) := by decide +kernel
theorem d_X12_goPickets_83 : decode cX12_goPickets 83 = .ok (.iload 5, 2) := by decide +kernel
theorem d_X12_goPickets_85 : decode cX12_goPickets 85 = .ok (.iload 6, 2) := by decide +kernel
theorem d_X12_goPickets_87 : decode cX12_goPickets 87 = .ok (.iload_n 2, 1) := by decide +kernel
theorem d_X12_goPickets_88 : decode cX12_goPickets 88 = .ok (.isub, 1) := by decide +kernel
theorem d_X12_goPickets_89 : decode cX12_goPickets 89 = .ok (.iastore, 1) := by decide +kernel
theorem d_X12_goPickets_90 : decode cX12_goPickets 90 = .ok (.aload_n 0, 1) := by decide +kernel
theorem d_X12_goPickets_91 : decode cX12_goPickets 91 = .ok (.getfield 106, 3) := by decide +kernel
theorem d_X12_goPickets_94 : decode cX12_goPickets 94 = .ok (.iload 5, 2) := by decide +kernel
theorem d_X12_goPickets_96 : decode cX12_goPickets 96 = .ok (.iaload, 1) := by decide +kernel
theorem d_X12_goPickets_97 : decode cX12_goPickets 97 = .ok (.iload_n 3, 1) := by decide +kernel
theorem d_X12_goPickets_98 : decode cX12_goPickets 98 = .ok (.if_icmp .lt 20, 3) := by decide +kernel
theorem d_X12_goPickets_101 : decode cX12_goPickets 101 = .ok (.aload_n 0, 1) := by decide +kernel
theorem d_X12_goPickets_102 : decode cX12_goPickets 102 = .ok (.iload_n 1, 1) := by decide +kernel
theorem d_X12_goPickets_103 : decode cX12_goPickets 103 = .ok (.iconst 1, 1) := by decide +kernel
theorem d_X12_goPickets_104 : decode cX12_goPickets 104 = .ok (.isub, 1) := by decide +kernel
theorem d_X12_goPickets_105 : decode cX12_goPickets 105 = .ok (.iload_n 2, 1) := by decide +kernel
theorem d_X12_goPickets_106 : decode cX12_goPickets 106 = .ok (.iload_n 3, 1) := by decide +kernel
theorem d_X12_goPickets_107 : decode cX12_goPickets 107 = .ok (.bipush 10, 2) := by decide +kernel
theorem d_X12_goPickets_109 : decode cX12_goPickets 109 = .ok (.iload 4, 2) := by decide +kernel
theorem d_X12_goPickets_111 : decode cX12_goPickets 111 = .ok (.imul, 1) := by decide +kernel
theorem d_X12_goPickets_112 : decode cX12_goPickets 112 = .ok (.iload 5, 2) := by decide +kernel
theorem d_X12_goPickets_114 : decode cX12_goPickets 114 = .ok (.iadd, 1) := by decide +kernel
theorem d_X12_goPickets_115 : decode cX12_goPickets 115 = .ok (.invokevirtual 554, 3) := by decide +kernel
theorem d_X12_goPickets_118 : decode cX12_goPickets 118 = .ok (.aload_n 0, 1) := by decide +kernel
theorem d_X12_goPickets_119 : decode cX12_goPickets 119 = .ok (.getfield 106, 3) := by decide +kernel
theorem d_X12_goPickets_122 : decode cX12_goPickets 122 = .ok (.iload 5, 2) := by decide +kernel
theorem d_X12_goPickets_124 : decode cX12_goPickets 124 = .ok (.iload 6, 2) := by decide +kernel
theorem d_X12_goPickets_126 : decode cX12_goPickets 126 = .ok (.iastore, 1) := by decide +kernel
theorem d_X12_goPickets_127 : decode cX12_goPickets 127 = .ok (.iinc 5 1, 3) := by decide +kernel
theorem d_X12_goPickets_130 : decode cX12_goPickets 130 = .ok (.goto (-86), 3) := by decide +kernel
theorem d_X12_goPickets_133 : decode cX12_goPickets 133 = .ok (.return_, 1) := by decide +kernel
def fb_X12_goPickets (g_X12_goPickets : Nat → Int32 → Int32 → Int32 → Int32 → sa_M Unit) (this : Nat) (a1 : Int32) (a2 : Int32) (a3 : Int32) (a4 : Int32) : sa_M Unit :=
sa_gd 12 this (
sa_bnd (sa_rdI 12 this 65) fun v1 =>
if v1 = (-1) then
if ¬ a1 = 0 then
sa_let (0 : Int32) fun x2 =>
sa_wh1 (fun j44 (x3 : Int32) =>
sa_bnd (sa_rdR 12 this 35) fun v4 =>
sa_bnd (sa_ldI .int v4 75) fun v5 =>
if v5 ≤ x3 then
sa_ret ()
else
sa_bnd (sa_rdR 12 this 62) fun v6 =>
sa_bnd (sa_ldI .int v6 x3) fun v7 =>
sa_jn0 (sa_let ((x3 + 1) : Int32) fun x8 =>
j44 x8) fun j127 =>
if a2 ≤ v7 then
sa_bnd (sa_rdR 12 this 62) fun v9 =>
sa_bnd (sa_ldI .int v9 x3) fun v10 =>
sa_bnd (sa_rdR 12 this 62) fun v11 =>
sa_bnd (sa_stI v11 x3 (v10 - a2)) fun _ =>
sa_bnd (sa_rdR 12 this 62) fun v12 =>
sa_bnd (sa_ldI .int v12 x3) fun v13 =>
sa_jn0 (sa_bnd (sa_rdR 12 this 62) fun v14 =>
sa_bnd (sa_stI v14 x3 v10) fun _ =>
j127) fun j118 =>
if v13 < a3 then
j118
else
sa_bnd (g_X12_goPickets this (a1 - 1) a2 a3 ((10 * a4) + x3)) fun _ =>
j118
else
j127) sa_F x2
else
sa_bnd (sa_rdI 12 this 63) fun v15 =>
sa_bnd (sa_rdI 12 this 64) fun v16 =>
sa_jn0 (sa_bnd (sa_rdI 12 this 63) fun v17 =>
sa_bnd (sa_wrI 12 this 63 (v17 + 1)) fun _ =>
sa_ret ()) fun j30 =>
if ¬ v15 = v16 then
j30
else
sa_bnd (sa_wrI 12 this 65 a4) fun _ =>
j30
else
sa_ret ())
set_option maxHeartbeats 1000000 in
set_option maxRecDepth 10000 in
theorem b_X12_goPickets {d : Nat} (hd0 : 0 ≤ d) (g_X12_goPickets : Nat → Int32 → Int32 → Int32 → Int32 → sa_M Unit) (h_X12_goPickets : ∀ (this : Nat) (a1 : Int32) (a2 : Int32) (a3 : Int32) (a4 : Int32), sa_Met d yX12_goPickets cX12_goPickets 7 none (fun ad => [.ref (ad this), .int a1, .int a2, .int a3, .int a4]) sa_eV (g_X12_goPickets this a1 a2 a3 a4)) (e_X12_goPickets : ∀ (this : Nat) (a1 : Int32) (a2 : Int32) (a3 : Int32) (a4 : Int32) σ r τ, g_X12_goPickets this a1 a2 a3 a4 σ = some (r, τ) → sa_sh this = some (.inl 12)) {p : Program} {l : Launch} {e : Env} {s : State} {m : MethodId} {args : Array Value} {below : List Frame} {meth : Method} {c : Code} {D : va_G} {ad : Nat → Nat} {cA : FieldType → ClassId} {A : Nat → Prop} (this : Nat) (a1 : Int32) (a2 : Int32) (a3 : Int32) (a4 : Int32) (C : sa_C p s m args meth c cX12_goPickets RX12 "goPickets" 7 none D ad cA A) : sa_Sg p l e s m args below meth c 7 (d + 1) D ad cA A sa_eV 0 [(0, .ref (ad this)), (1, .int a1), (2, .int a2), (3, .int a3), (4, .int a4)] [] (fb_X12_goPickets g_X12_goPickets this a1 a2 a3 a4) := by
  unfold fb_X12_goPickets
  refine sa_gdI ?_
  refine sa_aload_n C d_X12_goPickets_0 rfl 0 rfl ?_
  refine sa_getI C fd_X12_545 d_X12_goPickets_1 (fun v1 => ?_)
  refine sa_iconst (v := (-1)) C d_X12_goPickets_4 (by decide) ?_
  refine sa_icmp_eq (tgt := 9) C d_X12_goPickets_5 (by decide) ?_ ?_
  · refine sa_iload_n C d_X12_goPickets_9 rfl 1 rfl ?_
    refine sa_if_ne (tgt := 41) C d_X12_goPickets_10 (by decide) ?_ ?_
    · refine sa_iconst (v := 0) C d_X12_goPickets_41 (by decide) ?_
      refine sa_topi (fun x2 => ?_)
      refine sa_istore (lv' := [(5, .int x2), (0, .ref (ad this)), (1, .int a1), (2, .int a2), (3, .int a3), (4, .int a4)]) C d_X12_goPickets_42 (by decide) rfl ?_
      refine sa_sub [1, 2, 3, 4, 5, 0] rfl (sa_loop1 (fun x3 => [(0, .ref (ad this)), (1, .int a1), (2, .int a2), (3, .int a3), (4, .int a4), (5, .int x3)]) (fun x3 => []) (fun j44 hj44 x3 => ?_) _ _)
      refine sa_iload C d_X12_goPickets_44 5 rfl ?_
      refine sa_aload_n C d_X12_goPickets_46 rfl 0 rfl ?_
      refine sa_getR C fd_X12_64 rfl d_X12_goPickets_47 (fun v4 => ?_)
      refine sa_bipush (v := 75) C d_X12_goPickets_50 (by decide) ?_
      refine sa_iald C d_X12_goPickets_52 (fun v5 => ?_)
      refine sa_icmp_ge (tgt := 133) C d_X12_goPickets_53 (by decide) ?_ ?_
      · exact sa_vret C d_X12_goPickets_133
      refine sa_aload_n C d_X12_goPickets_56 rfl 0 rfl ?_
      refine sa_getR C fd_X12_106 rfl d_X12_goPickets_57 (fun v6 => ?_)
      refine sa_iload C d_X12_goPickets_60 5 rfl ?_
      refine sa_iald C d_X12_goPickets_62 (fun v7 => ?_)
      refine sa_iload_n C d_X12_goPickets_63 rfl 2 rfl ?_
      refine sa_join0 127 ([(0, .ref (ad this)), (1, .int a1), (2, .int a2), (3, .int a3), (4, .int a4), (5, .int x3)]) ([]) (?_) (fun j127 hj127 => ?_)
      · refine sa_iinc C (fun zz => [(5, .int zz), (0, .ref (ad this)), (1, .int a1), (2, .int a2), (3, .int a3), (4, .int a4)]) d_X12_goPickets_127 5 rfl rfl (by decide) (fun _ => rfl) (fun x8 => ?_)
        refine sa_goto (tgt := 44) C d_X12_goPickets_130 (by decide) ?_
        exact sa_sub [1, 2, 3, 4, 5, 0] rfl (hj44 _)
      refine sa_icmp_ge (tgt := 70) C d_X12_goPickets_64 (by decide) ?_ ?_
      · refine sa_aload_n C d_X12_goPickets_70 rfl 0 rfl ?_
        refine sa_getR C fd_X12_106 rfl d_X12_goPickets_71 (fun v9 => ?_)
        refine sa_iload C d_X12_goPickets_74 5 rfl ?_
        refine sa_iald C d_X12_goPickets_76 (fun v10 => ?_)
        refine sa_istore (lv' := [(6, .int v10), (0, .ref (ad this)), (1, .int a1), (2, .int a2), (3, .int a3), (4, .int a4), (5, .int x3)]) C d_X12_goPickets_77 (by decide) rfl ?_
        refine sa_aload_n C d_X12_goPickets_79 rfl 1 rfl ?_
        refine sa_getR C fd_X12_106 rfl d_X12_goPickets_80 (fun v11 => ?_)
        refine sa_iload C d_X12_goPickets_83 6 rfl ?_
        refine sa_iload C d_X12_goPickets_85 0 rfl ?_
        refine sa_iload_n C d_X12_goPickets_87 rfl 3 rfl ?_
        refine sa_isub C d_X12_goPickets_88 ?_
        refine sa_iast C d_X12_goPickets_89 ?_
        refine sa_aload_n C d_X12_goPickets_90 rfl 1 rfl ?_
        refine sa_getR C fd_X12_106 rfl d_X12_goPickets_91 (fun v12 => ?_)
        refine sa_iload C d_X12_goPickets_94 6 rfl ?_
        refine sa_iald C d_X12_goPickets_96 (fun v13 => ?_)
        refine sa_iload_n C d_X12_goPickets_97 rfl 4 rfl ?_
        refine sa_join0 118 ([(0, .ref (ad this)), (1, .int a1), (2, .int a2), (3, .int a3), (4, .int a4), (5, .int x3), (6, .int v10)]) ([]) (?_) (fun j118 hj118 => ?_)
        · refine sa_aload_n C d_X12_goPickets_118 rfl 0 rfl ?_
          refine sa_getR C fd_X12_106 rfl d_X12_goPickets_119 (fun v14 => ?_)
          refine sa_iload C d_X12_goPickets_122 5 rfl ?_
          refine sa_iload C d_X12_goPickets_124 6 rfl ?_
          refine sa_iast C d_X12_goPickets_126 ?_
          exact sa_sub [0, 1, 2, 3, 4, 5] rfl (hj127)
        refine sa_icmp_lt (tgt := 118) C d_X12_goPickets_98 (by decide) ?_ ?_
        · exact sa_sub [1, 2, 3, 4, 5, 6, 0] rfl (hj118)
        refine sa_aload_n C d_X12_goPickets_101 rfl 1 rfl ?_
        refine sa_iload_n C d_X12_goPickets_102 rfl 2 rfl ?_
        refine sa_iconst (v := 1) C d_X12_goPickets_103 (by decide) ?_
        refine sa_isub C d_X12_goPickets_104 ?_
        refine sa_iload_n C d_X12_goPickets_105 rfl 3 rfl ?_
        refine sa_iload_n C d_X12_goPickets_106 rfl 4 rfl ?_
        refine sa_bipush (v := 10) C d_X12_goPickets_107 (by decide) ?_
        refine sa_iload C d_X12_goPickets_109 5 rfl ?_
        refine sa_imul C d_X12_goPickets_111 ?_
        refine sa_iload C d_X12_goPickets_112 6 rfl ?_
        refine sa_iadd C d_X12_goPickets_114 ?_
        refine sa_invV (ci := 12) C (h_X12_goPickets this (a1 - 1) a2 a3 ((10 * a4) + x3)) q2047 ds_X12_goPickets q128 rfl q2046 q106 q2044 (e_X12_goPickets this (a1 - 1) a2 a3 ((10 * a4) + x3)) rfl rfl rfl (Nat.le_of_ble_eq_true rfl) (by omega) (by decide) d_X12_goPickets_115 (fun _ => ?_)
        exact sa_sub [1, 2, 3, 4, 5, 6, 0] rfl (hj118)
      refine sa_goto (tgt := 127) C d_X12_goPickets_67 (by decide) ?_
      exact sa_sub [0, 1, 2, 3, 4, 5] rfl (hj127)
    refine sa_aload_n C d_X12_goPickets_13 rfl 0 rfl ?_
    refine sa_getI C fd_X12_548 d_X12_goPickets_14 (fun v15 => ?_)
    refine sa_aload_n C d_X12_goPickets_17 rfl 0 rfl ?_
    refine sa_getI C fd_X12_551 d_X12_goPickets_18 (fun v16 => ?_)
    refine sa_join0 30 ([(0, .ref (ad this))]) ([]) (?_) (fun j30 hj30 => ?_)
    · refine sa_aload_n C d_X12_goPickets_30 rfl 0 rfl ?_
      refine sa_dup C d_X12_goPickets_31 rfl ?_
      refine sa_getI C fd_X12_548 d_X12_goPickets_32 (fun v17 => ?_)
      refine sa_iconst (v := 1) C d_X12_goPickets_35 (by decide) ?_
      refine sa_iadd C d_X12_goPickets_36 ?_
      refine sa_putI C fd_X12_548 d_X12_goPickets_37 ?_
      exact sa_vret C d_X12_goPickets_40
    refine sa_icmp_ne (tgt := 30) C d_X12_goPickets_21 (by decide) ?_ ?_
    · exact sa_sub [0] rfl (hj30)
    refine sa_aload_n C d_X12_goPickets_24 rfl 0 rfl ?_
    refine sa_iload C d_X12_goPickets_25 4 rfl ?_
    refine sa_putI C fd_X12_545 d_X12_goPickets_27 ?_
    exact sa_sub [0] rfl (hj30)
  exact sa_vret C d_X12_goPickets_8
def gr_X12_goPickets : Nat → (Nat → Int32 → Int32 → Int32 → Int32 → sa_M Unit)
  | 0 => ((fun _ _ _ _ _ => sa_fail))
  | n + 1 => (fb_X12_goPickets (gr_X12_goPickets n))
def f_X12_goPickets (n : Nat) (this : Nat) (a1 : Int32) (a2 : Int32) (a3 : Int32) (a4 : Int32) : sa_M Unit := (gr_X12_goPickets n) this a1 a2 a3 a4
theorem kg_X12_goPickets : ∀ n : Nat, (∀ (this : Nat) (a1 : Int32) (a2 : Int32) (a3 : Int32) (a4 : Int32), sa_Met (0 + n) yX12_goPickets cX12_goPickets 7 none (fun ad => [.ref (ad this), .int a1, .int a2, .int a3, .int a4]) sa_eV (f_X12_goPickets n this a1 a2 a3 a4)) ∧ (∀ (this : Nat) (a1 : Int32) (a2 : Int32) (a3 : Int32) (a4 : Int32) σ r τ, f_X12_goPickets n this a1 a2 a3 a4 σ = some (r, τ) → sa_sh this = some (.inl 12)) := by
  intro n
  induction n with
  | zero => exact ⟨(fun _ _ _ _ _ => fun _ _ _ _ _ _ _ _ h => by cases h), (fun _ _ _ _ _ => fun _ _ _ h => by cases h)⟩
  | succ n ih =>
    obtain ⟨h_X12_goPickets, e_X12_goPickets⟩ := ih
    exact ⟨(fun this a1 a2 a3 a4 => sa_mk (by decide) (fun ad => Nat.le_of_ble_eq_true rfl) (fun p l e s m args below meth c D ad cA A C => b_X12_goPickets (d := 0 + n) (by omega) _ h_X12_goPickets e_X12_goPickets this a1 a2 a3 a4 C)), (fun this a1 a2 a3 a4 => fun σ r τ h => sa_gd_ok h)⟩
theorem k_X12_goPickets (n : Nat) (this : Nat) (a1 : Int32) (a2 : Int32) (a3 : Int32) (a4 : Int32) : sa_Met (0 + n) yX12_goPickets cX12_goPickets 7 none (fun ad => [.ref (ad this), .int a1, .int a2, .int a3, .int a4]) sa_eV (f_X12_goPickets n this a1 a2 a3 a4) := (kg_X12_goPickets n).1 this a1 a2 a3 a4
theorem gd_X12_goPickets (n : Nat) (this : Nat) (a1 : Int32) (a2 : Int32) (a3 : Int32) (a4 : Int32) (σ : sa_St) (r : Unit) (τ : sa_St) (h : f_X12_goPickets n this a1 a2 a3 a4 σ = some (r, τ)) : sa_sh this = some (.inl 12) := (kg_X12_goPickets n).2 this a1 a2 a3 a4 σ r τ h
theorem d_X12_areNights_0 : decode cX12_areNights 0 = .ok (.aload_n 0, 1) := by decide +kernel
theorem d_X12_areNights_1 : decode cX12_areNights 1 = .ok (.getfield 331, 3) := by decide +kernel
theorem d_X12_areNights_4 : decode cX12_areNights 4 = .ok (.ifCond .le 31, 3) := by decide +kernel
theorem d_X12_areNights_7 : decode cX12_areNights 7 = .ok (.iload_n 1, 1) := by decide +kernel
theorem d_X12_areNights_8 : decode cX12_areNights 8 = .ok (.i2l, 1) := by decide +kernel
theorem d_X12_areNights_9 : decode cX12_areNights 9 = .ok (.lconst 1, 1) := by decide +kernel
theorem d_X12_areNights_10 : decode cX12_areNights 10 = .ok (.ldc2_w 557, 3) := by decide +kernel
theorem d_X12_areNights_13 : decode cX12_areNights 13 = .ok (.invokestatic 248, 3) := by decide +kernel
theorem d_X12_areNights_16 : decode cX12_areNights 16 = .ok (.ifCond .eq 19, 3) := by decide +kernel
theorem d_X12_areNights_19 : decode cX12_areNights 19 = .ok (.iload_n 2, 1) := by decide +kernel
theorem d_X12_areNights_20 : decode cX12_areNights 20 = .ok (.i2l, 1) := by decide +kernel
theorem d_X12_areNights_21 : decode cX12_areNights 21 = .ok (.lconst 1, 1) := by decide +kernel
theorem d_X12_areNights_22 : decode cX12_areNights 22 = .ok (.ldc2_w 559, 3) := by decide +kernel
theorem d_X12_areNights_25 : decode cX12_areNights 25 = .ok (.invokestatic 248, 3) := by decide +kernel
theorem d_X12_areNights_28 : decode cX12_areNights 28 = .ok (.ifCond .eq 7, 3) := by decide +kernel
theorem d_X12_areNights_31 : decode cX12_areNights 31 = .ok (.iconst 1, 1) := by decide +kernel
theorem d_X12_areNights_32 : decode cX12_areNights 32 = .ok (.goto 4, 3) := by decide +kernel
theorem d_X12_areNights_35 : decode cX12_areNights 35 = .ok (.iconst 0, 1) := by decide +kernel
theorem d_X12_areNights_36 : decode cX12_areNights 36 = .ok (.ireturn, 1) := by decide +kernel
def f_X12_areNights (this : Nat) (a1 : Int32) (a2 : Int32) : sa_M Int32 :=
sa_gd 12 this (
sa_bnd (sa_rdI 12 this 25) fun v1 =>
sa_jn1 (fun (y2 : Int32) =>
sa_retZ y2) fun j36 =>
sa_jn0 (j36 0) fun j35 =>
if v1 ≤ 0 then
j35
else
sa_bnd (f_X12_isIn (a1.toInt64) 1 6) fun v3 =>
if v3 = 0 then
j35
else
sa_bnd (f_X12_isIn (a2.toInt64) 1 9) fun v4 =>
if v4 = 0 then
j35
else
j36 1)
set_option maxHeartbeats 1000000 in
set_option maxRecDepth 10000 in
theorem b_X12_areNights {p : Program} {l : Launch} {e : Env} {s : State} {m : MethodId} {args : Array Value} {below : List Frame} {meth : Method} {c : Code} {D : va_G} {ad : Nat → Nat} {cA : FieldType → ClassId} {A : Nat → Prop} (this : Nat) (a1 : Int32) (a2 : Int32) (C : sa_C p s m args meth c cX12_areNights RX12 "areNights" 3 (some .boolean) D ad cA A) : sa_Sg p l e s m args below meth c 3 2 D ad cA A sa_eI 0 [(0, .ref (ad this)), (1, .int a1), (2, .int a2)] [] (f_X12_areNights this a1 a2) := by
  unfold f_X12_areNights
  refine sa_gdI ?_
  refine sa_aload_n C d_X12_areNights_0 rfl 0 rfl ?_
  refine sa_getI C fd_X12_331 d_X12_areNights_1 (fun v1 => ?_)
  refine sa_join1 36 (fun y2 => []) (fun y2 => [.int y2]) (fun y2 => ?_) (fun j36 hj36 => ?_)
  · exact sa_zret C d_X12_areNights_36
  refine sa_join0 35 ([]) ([]) (?_) (fun j35 hj35 => ?_)
  · refine sa_iconst (v := 0) C d_X12_areNights_35 (by decide) ?_
    exact sa_sub [] rfl (hj36 _)
  refine sa_if_le (tgt := 35) C d_X12_areNights_4 (by decide) ?_ ?_
  · exact sa_sub [] rfl (hj35)
  refine sa_iload_n C d_X12_areNights_7 rfl 1 rfl ?_
  refine sa_i2l C d_X12_areNights_8 ?_
  refine sa_lconst (v := 1) C d_X12_areNights_9 (by decide) ?_
  refine sa_ldc2 (v := 6) C d_X12_areNights_10 q2037 ?_
  refine sa_invS C (k_X12_isIn (a1.toInt64) 1 6) q1637 ds_X12_isIn q128 q1636 q1635 rfl rfl rfl (Nat.le_of_ble_eq_true rfl) (by decide) (by decide) d_X12_areNights_13 (fun v3 => ?_)
  refine sa_if_eq (tgt := 35) C d_X12_areNights_16 (by decide) ?_ ?_
  · exact sa_sub [] rfl (hj35)
  refine sa_iload_n C d_X12_areNights_19 rfl 2 rfl ?_
  refine sa_i2l C d_X12_areNights_20 ?_
  refine sa_lconst (v := 1) C d_X12_areNights_21 (by decide) ?_
  refine sa_ldc2 (v := 9) C d_X12_areNights_22 q2038 ?_
  refine sa_invS C (k_X12_isIn (a2.toInt64) 1 9) q1637 ds_X12_isIn q128 q1636 q1635 rfl rfl rfl (Nat.le_of_ble_eq_true rfl) (by decide) (by decide) d_X12_areNights_25 (fun v4 => ?_)
  refine sa_if_eq (tgt := 35) C d_X12_areNights_28 (by decide) ?_ ?_
  · exact sa_sub [] rfl (hj35)
  refine sa_iconst (v := 1) C d_X12_areNights_31 (by decide) ?_
  refine sa_goto (tgt := 36) C d_X12_areNights_32 (by decide) ?_
  exact sa_sub [] rfl (hj36 _)
theorem k_X12_areNights (this : Nat) (a1 : Int32) (a2 : Int32) : sa_Met 2 yX12_areNights cX12_areNights 3 (some .boolean) (fun ad => [.ref (ad this), .int a1, .int a2]) sa_eI (f_X12_areNights this a1 a2) := sa_mk (by decide) (fun ad => Nat.le_of_ble_eq_true rfl) (fun p l e s m args below meth c D ad cA A C => b_X12_areNights this a1 a2 C)
theorem gd_X12_areNights (this : Nat) (a1 : Int32) (a2 : Int32) (σ : sa_St) (r : Int32) (τ : sa_St) (h : f_X12_areNights this a1 a2 σ = some (r, τ)) : sa_sh this = some (.inl 12) := sa_gd_ok h
theorem d_X12_layPickets_0 : decode cX12_layPickets 0 = .ok (.aload_n 0, 1) := by decide +kernel
theorem d_X12_layPickets_1 : decode cX12_layPickets 1 = .ok (.iconst 0, 1) := by decide +kernel
theorem d_X12_layPickets_2 : decode cX12_layPickets 2 = .ok (.putfield 548, 3) := by decide +kernel
theorem d_X12_layPickets_5 : decode cX12_layPickets 5 = .ok (.aload_n 0, 1) := by decide +kernel
theorem d_X12_layPickets_6 : decode cX12_layPickets 6 = .ok (.iload_n 2, 1) := by decide +kernel
theorem d_X12_layPickets_7 : decode cX12_layPickets 7 = .ok (.putfield 551, 3) := by decide +kernel
theorem d_X12_layPickets_10 : decode cX12_layPickets 10 = .ok (.aload_n 0, 1) := by decide +kernel
theorem d_X12_layPickets_11 : decode cX12_layPickets 11 = .ok (.iconst (-1), 1) := by decide +kernel
theorem d_X12_layPickets_12 : decode cX12_layPickets 12 = .ok (.putfield 545, 3) := by decide +kernel
theorem d_X12_layPickets_15 : decode cX12_layPickets 15 = .ok (.iconst 1, 1) := by decide +kernel
theorem d_X12_layPickets_16 : decode cX12_layPickets 16 = .ok (.istore_n 3, 1) := by decide +kernel
theorem d_X12_layPickets_17 : decode cX12_layPickets 17 = .ok (.iconst 0, 1) := by decide +kernel
theorem d_X12_layPickets_18 : decode cX12_layPickets 18 = .ok (.istore 4, 2) := by decide +kernel
theorem d_X12_layPickets_20 : decode cX12_layPickets 20 = .ok (.iload 4, 2) := by decide +kernel
theorem d_X12_layPickets_22 : decode cX12_layPickets 22 = .ok (.aload_n 0, 1) := by decide +kernel
theorem d_X12_layPickets_23 : decode cX12_layPickets 23 = .ok (.getfield 64, 3) := by decide +kernel
theorem d_X12_layPickets_26 : decode cX12_layPickets 26 = .ok (.bipush 75, 2) := by decide +kernel
theorem d_X12_layPickets_28 : decode cX12_layPickets 28 = .ok (.iaload, 1) := by decide +kernel
theorem d_X12_layPickets_29 : decode cX12_layPickets 29 = .ok (.if_icmp .ge 59, 3) := by decide +kernel
theorem d_X12_layPickets_32 : decode cX12_layPickets 32 = .ok (.aload_n 0, 1) := by decide +kernel
theorem d_X12_layPickets_33 : decode cX12_layPickets 33 = .ok (.getfield 106, 3) := by decide +kernel
theorem d_X12_layPickets_36 : decode cX12_layPickets 36 = .ok (.iload 4, 2) := by decide +kernel
theorem d_X12_layPickets_38 : decode cX12_layPickets 38 = .ok (.aload_n 0, 1) := by decide +kernel
theorem d_X12_layPickets_39 : decode cX12_layPickets 39 = .ok (.getfield 64, 3) := by decide +kernel
theorem d_X12_layPickets_42 : decode cX12_layPickets 42 = .ok (.bipush 7, 2) := by decide +kernel
theorem d_X12_layPickets_44 : decode cX12_layPickets 44 = .ok (.iload 4, 2) := by decide +kernel
theorem d_X12_layPickets_46 : decode cX12_layPickets 46 = .ok (.imul, 1) := by decide +kernel
theorem d_X12_layPickets_47 : decode cX12_layPickets 47 = .ok (.iconst 2, 1) := by decide +kernel
theorem d_X12_layPickets_48 : decode cX12_layPickets 48 = .ok (.iadd, 1) := by decide +kernel
theorem d_X12_layPickets_49 : decode cX12_layPickets 49 = .ok (.iaload, 1) := by decide +kernel
theorem d_X12_layPickets_50 : decode cX12_layPickets 50 = .ok (.iastore, 1) := by decide +kernel
theorem d_X12_layPickets_51 : decode cX12_layPickets 51 = .ok (.iload_n 3, 1) := by decide +kernel
theorem d_X12_layPickets_52 : decode cX12_layPickets 52 = .ok (.ifCond .eq 28, 3) := by decide +kernel
theorem d_X12_layPickets_55 : decode cX12_layPickets 55 = .ok (.aload_n 0, 1) := by decide +kernel
theorem d_X12_layPickets_56 : decode cX12_layPickets 56 = .ok (.getfield 106, 3) := by decide +kernel
theorem d_X12_layPickets_59 : decode cX12_layPickets 59 = .ok (.iload 4, 2) := by decide +kernel
theorem d_X12_layPickets_61 : decode cX12_layPickets 61 = .ok (.iaload, 1) := by decide +kernel
theorem d_X12_layPickets_62 : decode cX12_layPickets 62 = .ok (.ifCond .eq 14, 3) := by decide +kernel
theorem d_X12_layPickets_65 : decode cX12_layPickets 65 = .ok (.aload_n 0, 1) := by decide +kernel
theorem d_X12_layPickets_66 : decode cX12_layPickets 66 = .ok (.getfield 106, 3) := by decide +kernel
theorem d_X12_layPickets_69 : decode cX12_layPickets 69 = .ok (.iload 4, 2) := by decide +kernel
theorem d_X12_layPickets_71 : decode cX12_layPickets 71 = .ok (.iaload, 1) := by decide +kernel
theorem d_X12_layPickets_72 : decode cX12_layPickets 72 = .ok (.iload_n 1, 1) := by decide +kernel
theorem d_X12_layPickets_73 : decode cX12_layPickets 73 = .ok (.if_icmp .lt 7, 3) := by decide +kernel
theorem d_X12_layPickets_76 : decode cX12_layPickets 76 = .ok (.iconst 1, 1) := by decide +kernel
theorem d_X12_layPickets_77 : decode cX12_layPickets 77 = .ok (.goto 4, 3) := by decide +kernel
theorem d_X12_layPickets_80 : decode cX12_layPickets 80 = .ok (.iconst 0, 1) := by decide +kernel
theorem d_X12_layPickets_81 : decode cX12_layPickets 81 = .ok (.istore_n 3, 1) := by decide +kernel
theorem d_X12_layPickets_82 : decode cX12_layPickets 82 = .ok (.iinc 4 1, 3) := by decide +kernel
theorem d_X12_layPickets_85 : decode cX12_layPickets 85 = .ok (.goto (-65), 3) := by decide +kernel
theorem d_X12_layPickets_88 : decode cX12_layPickets 88 = .ok (.iload_n 3, 1) := by decide +kernel
theorem d_X12_layPickets_89 : decode cX12_layPickets 89 = .ok (.ireturn, 1) := by decide +kernel
def f_X12_layPickets (this : Nat) (a1 : Int32) (a2 : Int32) : sa_M Int32 :=
sa_gd 12 this (
sa_bnd (sa_wrI 12 this 63 0) fun _ =>
sa_bnd (sa_wrI 12 this 64 a2) fun _ =>
sa_bnd (sa_wrI 12 this 65 (-1)) fun _ =>
sa_let (1 : Int32) fun x1 =>
sa_let (0 : Int32) fun x2 =>
sa_wh2 (fun j20 (x3 : Int32) (x4 : Int32) =>
sa_bnd (sa_rdR 12 this 35) fun v5 =>
sa_bnd (sa_ldI .int v5 75) fun v6 =>
if v6 ≤ x4 then
sa_retZ x3
else
sa_bnd (sa_rdR 12 this 62) fun v7 =>
sa_bnd (sa_rdR 12 this 35) fun v8 =>
sa_bnd (sa_ldI .int v8 ((7 * x4) + 2)) fun v9 =>
sa_bnd (sa_stI v7 x4 v9) fun _ =>
sa_jn1 (fun (y10 : Int32) =>
sa_let ((x4 + 1) : Int32) fun x11 =>
j20 y10 x11) fun j81 =>
sa_jn0 (j81 0) fun j80 =>
if x3 = 0 then
j80
else
sa_bnd (sa_rdR 12 this 62) fun v12 =>
sa_bnd (sa_ldI .int v12 x4) fun v13 =>
sa_jn0 (j81 1) fun j76 =>
if v13 = 0 then
j76
else
sa_bnd (sa_rdR 12 this 62) fun v14 =>
sa_bnd (sa_ldI .int v14 x4) fun v15 =>
if v15 < a1 then
j80
else
j76) sa_F x1 x2)
set_option maxHeartbeats 1000000 in
set_option maxRecDepth 10000 in
theorem b_X12_layPickets {p : Program} {l : Launch} {e : Env} {s : State} {m : MethodId} {args : Array Value} {below : List Frame} {meth : Method} {c : Code} {D : va_G} {ad : Nat → Nat} {cA : FieldType → ClassId} {A : Nat → Prop} (this : Nat) (a1 : Int32) (a2 : Int32) (C : sa_C p s m args meth c cX12_layPickets RX12 "layPickets" 5 (some .boolean) D ad cA A) : sa_Sg p l e s m args below meth c 5 1 D ad cA A sa_eI 0 [(0, .ref (ad this)), (1, .int a1), (2, .int a2)] [] (f_X12_layPickets this a1 a2) := by
  unfold f_X12_layPickets
  refine sa_gdI ?_
  refine sa_aload_n C d_X12_layPickets_0 rfl 0 rfl ?_
  refine sa_iconst (v := 0) C d_X12_layPickets_1 (by decide) ?_
  refine sa_putI C fd_X12_548 d_X12_layPickets_2 ?_
  refine sa_aload_n C d_X12_layPickets_5 rfl 0 rfl ?_
  refine sa_iload_n C d_X12_layPickets_6 rfl 2 rfl ?_
  refine sa_putI C fd_X12_551 d_X12_layPickets_7 ?_
  refine sa_aload_n C d_X12_layPickets_10 rfl 0 rfl ?_
  refine sa_iconst (v := (-1)) C d_X12_layPickets_11 (by decide) ?_
  refine sa_putI C fd_X12_545 d_X12_layPickets_12 ?_
  refine sa_iconst (v := 1) C d_X12_layPickets_15 (by decide) ?_
  refine sa_topi (fun x1 => ?_)
  refine sa_istore_n (lv' := [(3, .int x1), (0, .ref (ad this)), (1, .int a1), (2, .int a2)]) C d_X12_layPickets_16 rfl (by decide) rfl ?_
  refine sa_iconst (v := 0) C d_X12_layPickets_17 (by decide) ?_
  refine sa_topi (fun x2 => ?_)
  refine sa_istore (lv' := [(4, .int x2), (3, .int x1), (0, .ref (ad this)), (1, .int a1), (2, .int a2)]) C d_X12_layPickets_18 (by decide) rfl ?_
  refine sa_sub [2, 3, 1, 0] rfl (sa_loop2 (fun x3 x4 => [(0, .ref (ad this)), (1, .int a1), (3, .int x3), (4, .int x4)]) (fun x3 x4 => []) (fun j20 hj20 x3 x4 => ?_) _ _ _)
  refine sa_iload C d_X12_layPickets_20 3 rfl ?_
  refine sa_aload_n C d_X12_layPickets_22 rfl 0 rfl ?_
  refine sa_getR C fd_X12_64 rfl d_X12_layPickets_23 (fun v5 => ?_)
  refine sa_bipush (v := 75) C d_X12_layPickets_26 (by decide) ?_
  refine sa_iald C d_X12_layPickets_28 (fun v6 => ?_)
  refine sa_icmp_ge (tgt := 88) C d_X12_layPickets_29 (by decide) ?_ ?_
  · refine sa_iload_n C d_X12_layPickets_88 rfl 2 rfl ?_
    exact sa_zret C d_X12_layPickets_89
  refine sa_aload_n C d_X12_layPickets_32 rfl 0 rfl ?_
  refine sa_getR C fd_X12_106 rfl d_X12_layPickets_33 (fun v7 => ?_)
  refine sa_iload C d_X12_layPickets_36 3 rfl ?_
  refine sa_aload_n C d_X12_layPickets_38 rfl 0 rfl ?_
  refine sa_getR C fd_X12_64 rfl d_X12_layPickets_39 (fun v8 => ?_)
  refine sa_bipush (v := 7) C d_X12_layPickets_42 (by decide) ?_
  refine sa_iload C d_X12_layPickets_44 3 rfl ?_
  refine sa_imul C d_X12_layPickets_46 ?_
  refine sa_iconst (v := 2) C d_X12_layPickets_47 (by decide) ?_
  refine sa_iadd C d_X12_layPickets_48 ?_
  refine sa_iald C d_X12_layPickets_49 (fun v9 => ?_)
  refine sa_iast C d_X12_layPickets_50 ?_
  refine sa_iload_n C d_X12_layPickets_51 rfl 2 rfl ?_
  refine sa_join1 81 (fun y10 => [(0, .ref (ad this)), (1, .int a1), (4, .int x4)]) (fun y10 => [.int y10]) (fun y10 => ?_) (fun j81 hj81 => ?_)
  · refine sa_istore_n (lv' := [(3, .int y10), (0, .ref (ad this)), (1, .int a1), (4, .int x4)]) C d_X12_layPickets_81 rfl (by decide) rfl ?_
    refine sa_iinc C (fun zz => [(4, .int zz), (3, .int y10), (0, .ref (ad this)), (1, .int a1)]) d_X12_layPickets_82 3 rfl rfl (by decide) (fun _ => rfl) (fun x11 => ?_)
    refine sa_goto (tgt := 20) C d_X12_layPickets_85 (by decide) ?_
    exact sa_sub [2, 3, 1, 0] rfl (hj20 _ _)
  refine sa_join0 80 ([(0, .ref (ad this)), (1, .int a1), (4, .int x4)]) ([]) (?_) (fun j80 hj80 => ?_)
  · refine sa_iconst (v := 0) C d_X12_layPickets_80 (by decide) ?_
    exact sa_sub [0, 1, 2] rfl (hj81 _)
  refine sa_if_eq (tgt := 80) C d_X12_layPickets_52 (by decide) ?_ ?_
  · exact sa_sub [0, 1, 3] rfl (hj80)
  refine sa_aload_n C d_X12_layPickets_55 rfl 0 rfl ?_
  refine sa_getR C fd_X12_106 rfl d_X12_layPickets_56 (fun v12 => ?_)
  refine sa_iload C d_X12_layPickets_59 3 rfl ?_
  refine sa_iald C d_X12_layPickets_61 (fun v13 => ?_)
  refine sa_join0 76 ([(0, .ref (ad this)), (1, .int a1), (4, .int x4)]) ([]) (?_) (fun j76 hj76 => ?_)
  · refine sa_iconst (v := 1) C d_X12_layPickets_76 (by decide) ?_
    refine sa_goto (tgt := 81) C d_X12_layPickets_77 (by decide) ?_
    exact sa_sub [0, 1, 2] rfl (hj81 _)
  refine sa_if_eq (tgt := 76) C d_X12_layPickets_62 (by decide) ?_ ?_
  · exact sa_sub [0, 1, 3] rfl (hj76)
  refine sa_aload_n C d_X12_layPickets_65 rfl 0 rfl ?_
  refine sa_getR C fd_X12_106 rfl d_X12_layPickets_66 (fun v14 => ?_)
  refine sa_iload C d_X12_layPickets_69 3 rfl ?_
  refine sa_iald C d_X12_layPickets_71 (fun v15 => ?_)
  refine sa_iload_n C d_X12_layPickets_72 rfl 1 rfl ?_
  refine sa_icmp_lt (tgt := 80) C d_X12_layPickets_73 (by decide) ?_ ?_
  · exact sa_sub [0, 1, 3] rfl (hj80)
  exact sa_sub [0, 1, 3] rfl (hj76)
theorem k_X12_layPickets (this : Nat) (a1 : Int32) (a2 : Int32) : sa_Met 1 yX12_layPickets cX12_layPickets 5 (some .boolean) (fun ad => [.ref (ad this), .int a1, .int a2]) sa_eI (f_X12_layPickets this a1 a2) := sa_mk (by decide) (fun ad => Nat.le_of_ble_eq_true rfl) (fun p l e s m args below meth c D ad cA A C => b_X12_layPickets this a1 a2 C)
theorem gd_X12_layPickets (this : Nat) (a1 : Int32) (a2 : Int32) (σ : sa_St) (r : Int32) (τ : sa_St) (h : f_X12_layPickets this a1 a2 σ = some (r, τ)) : sa_sh this = some (.inl 12) := sa_gd_ok h
