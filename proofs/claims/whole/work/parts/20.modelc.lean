theorem d_X12_throwsAt_0 : decode cX12_throwsAt 0 = .ok (.aload_n 1, 1) := by decide +kernel
theorem d_X12_throwsAt_1 : decode cX12_throwsAt 1 = .ok (.bipush 72, 2) := by decide +kernel
theorem d_X12_throwsAt_3 : decode cX12_throwsAt 3 = .ok (.iload_n 2, 1) := by decide +kernel
theorem d_X12_throwsAt_4 : decode cX12_throwsAt 4 = .ok (.iadd, 1) := by decide +kernel
theorem d_X12_throwsAt_5 : decode cX12_throwsAt 5 = .ok (.iaload, 1) := by decide +kernel
theorem d_X12_throwsAt_6 : decode cX12_throwsAt 6 = .ok (.ifCond .ne 4, 3) := by decide +kernel
theorem d_X12_throwsAt_9 : decode cX12_throwsAt 9 = .ok (.return_, 1) := by decide +kernel
theorem d_X12_throwsAt_10 : decode cX12_throwsAt 10 = .ok (.iconst 0, 1) := by decide +kernel
theorem d_X12_throwsAt_11 : decode cX12_throwsAt 11 = .ok (.istore_n 3, 1) := by decide +kernel
theorem d_X12_throwsAt_12 : decode cX12_throwsAt 12 = .ok (.iload_n 3, 1) := by decide +kernel
theorem d_X12_throwsAt_13 : decode cX12_throwsAt 13 = .ok (.aload_n 1, 1) := by decide +kernel
theorem d_X12_throwsAt_14 : decode cX12_throwsAt 14 = .ok (.bipush 75, 2) := by decide +kernel
theorem d_X12_throwsAt_16 : decode cX12_throwsAt 16 = .ok (.iaload, 1) := by decide +kernel
theorem d_X12_throwsAt_17 : decode cX12_throwsAt 17 = .ok (.if_icmp .ge 56, 3) := by decide +kernel
theorem d_X12_throwsAt_20 : decode cX12_throwsAt 20 = .ok (.aload_n 1, 1) := by decide +kernel
theorem d_X12_throwsAt_21 : decode cX12_throwsAt 21 = .ok (.iload_n 3, 1) := by decide +kernel
theorem d_X12_throwsAt_22 : decode cX12_throwsAt 22 = .ok (.invokestatic 403, 3) := by decide +kernel
theorem d_X12_throwsAt_25 : decode cX12_throwsAt 25 = .ok (.ifCond .eq 42, 3) := by decide +kernel
theorem d_X12_throwsAt_28 : decode cX12_throwsAt 28 = .ok (.aload_n 1, 1) := by decide +kernel
theorem d_X12_throwsAt_29 : decode cX12_throwsAt 29 = .ok (.bipush 7, 2) := by decide +kernel
theorem d_X12_throwsAt_31 : decode cX12_throwsAt 31 = .ok (.iload_n 3, 1) := by decide +kernel
theorem d_X12_throwsAt_32 : decode cX12_throwsAt 32 = .ok (.imul, 1) := by decide +kernel
theorem d_X12_throwsAt_33 : decode cX12_throwsAt 33 = .ok (.iaload, 1) := by decide +kernel
theorem d_X12_throwsAt_34 : decode cX12_throwsAt 34 = .ok (.aload_n 0, 1) := by decide +kernel
theorem d_X12_throwsAt_35 : decode cX12_throwsAt 35 = .ok (.getfield 52, 3) := by decide +kernel
theorem d_X12_throwsAt_38 : decode cX12_throwsAt 38 = .ok (.iconst 2, 1) := by decide +kernel
theorem d_X12_throwsAt_39 : decode cX12_throwsAt 39 = .ok (.iload_n 2, 1) := by decide +kernel
theorem d_X12_throwsAt_40 : decode cX12_throwsAt 40 = .ok (.imul, 1) := by decide +kernel
theorem d_X12_throwsAt_41 : decode cX12_throwsAt 41 = .ok (.iaload, 1) := by decide +kernel
theorem d_X12_throwsAt_42 : decode cX12_throwsAt 42 = .ok (.if_icmp .eq 6, 3) := by decide +kernel
theorem d_X12_throwsAt_45 : decode cX12_throwsAt 45 = .ok (.goto 22, 3) := by decide +kernel
theorem d_X12_throwsAt_48 : decode cX12_throwsAt 48 = .ok (.aload_n 1, 1) := by decide +kernel
theorem d_X12_throwsAt_49 : decode cX12_throwsAt 49 = .ok (.bipush 72, 2) := by decide +kernel
theorem d_X12_throwsAt_51 : decode cX12_throwsAt 51 = .ok (.iload_n 2, 1) := by decide +kernel
theorem d_X12_throwsAt_52 : decode cX12_throwsAt 52 = .ok (.iadd, 1) := by decide +kernel
theorem d_X12_throwsAt_53 : decode cX12_throwsAt 53 = .ok (.dup2, 1) := by decide +kernel
theorem d_X12_throwsAt_54 : decode cX12_throwsAt 54 = .ok (.iaload, 1) := by decide +kernel
theorem d_X12_throwsAt_55 : decode cX12_throwsAt 55 = .ok (.iconst 1, 1) := by decide +kernel
theorem d_X12_throwsAt_56 : decode cX12_throwsAt 56 = .ok (.isub, 1) := by decide +kernel
theorem d_X12_throwsAt_57 : decode cX12_throwsAt 57 = .ok (.iastore, 1) := by decide +kernel
theorem d_X12_throwsAt_58 : decode cX12_throwsAt 58 = .ok (.aload_n 0, 1) := by decide +kernel
theorem d_X12_throwsAt_59 : decode cX12_throwsAt 59 = .ok (.aload_n 1, 1) := by decide +kernel
theorem d_X12_throwsAt_60 : decode cX12_throwsAt 60 = .ok (.iload_n 3, 1) := by decide +kernel
theorem d_X12_throwsAt_61 : decode cX12_throwsAt 61 = .ok (.iconst 5, 1) := by decide +kernel
theorem d_X12_throwsAt_62 : decode cX12_throwsAt 62 = .ok (.iconst 0, 1) := by decide +kernel
theorem d_X12_throwsAt_63 : decode cX12_throwsAt 63 = .ok (.invokevirtual 392, 3) := by decide +kernel
theorem d_X12_throwsAt_66 : decode cX12_throwsAt 66 = .ok (.return_, 1) := by decide +kernel
theorem d_X12_throwsAt_67 : decode cX12_throwsAt 67 = .ok (.iinc 3 1, 3) := by decide +kernel
theorem d_X12_throwsAt_70 : decode cX12_throwsAt 70 = .ok (.goto (-58), 3) := by decide +kernel
theorem d_X12_throwsAt_73 : decode cX12_throwsAt 73 = .ok (.return_, 1) := by decide +kernel
def f_X12_throwsAt (this : Nat) (a1 : Nat) (a2 : Int32) : sa_M Unit :=
sa_gd 12 this (
sa_bnd (sa_ldI .int a1 (72 + a2)) fun v1 =>
if ¬ v1 = 0 then
sa_let (0 : Int32) fun x2 =>
sa_wh1 (fun j12 (x3 : Int32) =>
sa_bnd (sa_ldI .int a1 75) fun v4 =>
if v4 ≤ x3 then
sa_ret ()
else
sa_bnd (f_X12_isThere a1 x3) fun v5 =>
sa_jn0 (sa_let ((x3 + 1) : Int32) fun x6 =>
j12 x6) fun j67 =>
if v5 = 0 then
j67
else
sa_bnd (sa_ldI .int a1 (7 * x3)) fun v7 =>
sa_bnd (sa_rdR 12 this 23) fun v8 =>
sa_bnd (sa_ldI .int v8 (2 * a2)) fun v9 =>
if v7 = v9 then
sa_bnd (sa_ldI .int a1 (72 + a2)) fun v10 =>
sa_bnd (sa_stI a1 (72 + a2) (v10 - 1)) fun _ =>
sa_bnd (f_X12_loses this a1 x3 5 0) fun _ =>
sa_ret ()
else
j67) sa_F x2
else
sa_ret ())
set_option maxHeartbeats 1000000 in
set_option maxRecDepth 10000 in
theorem b_X12_throwsAt {p : Program} {l : Launch} {e : Env} {s : State} {m : MethodId} {args : Array Value} {below : List Frame} {meth : Method} {c : Code} {D : va_G} {ad : Nat → Nat} {cA : FieldType → ClassId} {A : Nat → Prop} (this : Nat) (a1 : Nat) (a2 : Int32) (C : sa_C p s m args meth c cX12_throwsAt RX12 "throwsAt" 4 none D ad cA A) : sa_Sg p l e s m args below meth c 4 3 D ad cA A sa_eV 0 [(0, .ref (ad this)), (1, .ref (ad a1)), (2, .int a2)] [] (f_X12_throwsAt this a1 a2) := by
  unfold f_X12_throwsAt
  refine sa_gdI ?_
  refine sa_aload_n C d_X12_throwsAt_0 rfl 1 rfl ?_
  refine sa_bipush (v := 72) C d_X12_throwsAt_1 (by decide) ?_
  refine sa_iload_n C d_X12_throwsAt_3 rfl 2 rfl ?_
  refine sa_iadd C d_X12_throwsAt_4 ?_
  refine sa_iald C d_X12_throwsAt_5 (fun v1 => ?_)
  refine sa_if_ne (tgt := 10) C d_X12_throwsAt_6 (by decide) ?_ ?_
  · refine sa_iconst (v := 0) C d_X12_throwsAt_10 (by decide) ?_
    refine sa_topi (fun x2 => ?_)
    refine sa_istore_n (lv' := [(3, .int x2), (0, .ref (ad this)), (1, .ref (ad a1)), (2, .int a2)]) C d_X12_throwsAt_11 rfl (by decide) rfl ?_
    refine sa_sub [1, 2, 3, 0] rfl (sa_loop1 (fun x3 => [(0, .ref (ad this)), (1, .ref (ad a1)), (2, .int a2), (3, .int x3)]) (fun x3 => []) (fun j12 hj12 x3 => ?_) _ _)
    refine sa_iload_n C d_X12_throwsAt_12 rfl 3 rfl ?_
    refine sa_aload_n C d_X12_throwsAt_13 rfl 1 rfl ?_
    refine sa_bipush (v := 75) C d_X12_throwsAt_14 (by decide) ?_
    refine sa_iald C d_X12_throwsAt_16 (fun v4 => ?_)
    refine sa_icmp_ge (tgt := 73) C d_X12_throwsAt_17 (by decide) ?_ ?_
    · exact sa_vret C d_X12_throwsAt_73
    refine sa_aload_n C d_X12_throwsAt_20 rfl 1 rfl ?_
    refine sa_iload_n C d_X12_throwsAt_21 rfl 3 rfl ?_
    refine sa_invS C (k_X12_isThere a1 x3) q1835 ds_X12_isThere q128 q1834 q1833 rfl rfl rfl (Nat.le_of_ble_eq_true rfl) (by decide) (by decide) d_X12_throwsAt_22 (fun v5 => ?_)
    refine sa_join0 67 ([(0, .ref (ad this)), (1, .ref (ad a1)), (2, .int a2), (3, .int x3)]) ([]) (?_) (fun j67 hj67 => ?_)
    · refine sa_iinc C (fun zz => [(3, .int zz), (0, .ref (ad this)), (1, .ref (ad a1)), (2, .int a2)]) d_X12_throwsAt_67 3 rfl rfl (by decide) (fun _ => rfl) (fun x6 => ?_)
      refine sa_goto (tgt := 12) C d_X12_throwsAt_70 (by decide) ?_
      exact sa_sub [1, 2, 3, 0] rfl (hj12 _)
    refine sa_if_eq (tgt := 67) C d_X12_throwsAt_25 (by decide) ?_ ?_
    · exact sa_sub [0, 1, 2, 3] rfl (hj67)
    refine sa_aload_n C d_X12_throwsAt_28 rfl 1 rfl ?_
    refine sa_bipush (v := 7) C d_X12_throwsAt_29 (by decide) ?_
    refine sa_iload_n C d_X12_throwsAt_31 rfl 3 rfl ?_
    refine sa_imul C d_X12_throwsAt_32 ?_
    refine sa_iald C d_X12_throwsAt_33 (fun v7 => ?_)
    refine sa_aload_n C d_X12_throwsAt_34 rfl 0 rfl ?_
    refine sa_getR C fd_X12_52 rfl d_X12_throwsAt_35 (fun v8 => ?_)
    refine sa_iconst (v := 2) C d_X12_throwsAt_38 (by decide) ?_
    refine sa_iload_n C d_X12_throwsAt_39 rfl 2 rfl ?_
    refine sa_imul C d_X12_throwsAt_40 ?_
    refine sa_iald C d_X12_throwsAt_41 (fun v9 => ?_)
    refine sa_icmp_eq (tgt := 48) C d_X12_throwsAt_42 (by decide) ?_ ?_
    · refine sa_aload_n C d_X12_throwsAt_48 rfl 1 rfl ?_
      refine sa_bipush (v := 72) C d_X12_throwsAt_49 (by decide) ?_
      refine sa_iload_n C d_X12_throwsAt_51 rfl 2 rfl ?_
      refine sa_iadd C d_X12_throwsAt_52 ?_
      refine sa_dup2_11 C d_X12_throwsAt_53 rfl rfl ?_
      refine sa_iald C d_X12_throwsAt_54 (fun v10 => ?_)
      refine sa_iconst (v := 1) C d_X12_throwsAt_55 (by decide) ?_
      refine sa_isub C d_X12_throwsAt_56 ?_
      refine sa_iast C d_X12_throwsAt_57 ?_
      refine sa_aload_n C d_X12_throwsAt_58 rfl 0 rfl ?_
      refine sa_aload_n C d_X12_throwsAt_59 rfl 1 rfl ?_
      refine sa_iload_n C d_X12_throwsAt_60 rfl 3 rfl ?_
      refine sa_iconst (v := 5) C d_X12_throwsAt_61 (by decide) ?_
      refine sa_iconst (v := 0) C d_X12_throwsAt_62 (by decide) ?_
      refine sa_invV (ci := 12) C (k_X12_loses this a1 x3 5 0) q1899 ds_X12_loses q128 rfl q1898 q85 q1896 (gd_X12_loses this a1 x3 5 0) rfl rfl rfl (Nat.le_of_ble_eq_true rfl) (by decide) (by decide) d_X12_throwsAt_63 (fun _ => ?_)
      exact sa_vret C d_X12_throwsAt_66
    refine sa_goto (tgt := 67) C d_X12_throwsAt_45 (by decide) ?_
    exact sa_sub [0, 1, 2, 3] rfl (hj67)
  exact sa_vret C d_X12_throwsAt_9
theorem k_X12_throwsAt (this : Nat) (a1 : Nat) (a2 : Int32) : sa_Met 3 yX12_throwsAt cX12_throwsAt 4 none (fun ad => [.ref (ad this), .ref (ad a1), .int a2]) sa_eV (f_X12_throwsAt this a1 a2) := sa_mk (by decide) (fun ad => Nat.le_of_ble_eq_true rfl) (fun p l e s m args below meth c D ad cA A C => b_X12_throwsAt this a1 a2 C)
theorem gd_X12_throwsAt (this : Nat) (a1 : Nat) (a2 : Int32) (σ : sa_St) (r : Unit) (τ : sa_St) (h : f_X12_throwsAt this a1 a2 σ = some (r, τ)) : sa_sh this = some (.inl 12) := sa_gd_ok h
theorem d_X12_writes_0 : decode cX12_writes 0 = .ok (.aload_n 1, 1) := by decide +kernel
theorem d_X12_writes_1 : decode cX12_writes 1 = .ok (.bipush 79, 2) := by decide +kernel
theorem d_X12_writes_3 : decode cX12_writes 3 = .ok (.iaload, 1) := by decide +kernel
theorem d_X12_writes_4 : decode cX12_writes 4 = .ok (.bipush 60, 2) := by decide +kernel
theorem d_X12_writes_6 : decode cX12_writes 6 = .ok (.if_icmp .ne 40, 3) := by decide +kernel
theorem d_X12_writes_9 : decode cX12_writes 9 = .ok (.iconst 1, 1) := by decide +kernel
theorem d_X12_writes_10 : decode cX12_writes 10 = .ok (.istore_n 3, 1) := by decide +kernel
theorem d_X12_writes_11 : decode cX12_writes 11 = .ok (.iload_n 3, 1) := by decide +kernel
theorem d_X12_writes_12 : decode cX12_writes 12 = .ok (.sipush 177, 3) := by decide +kernel
theorem d_X12_writes_15 : decode cX12_writes 15 = .ok (.if_icmp .gt 23, 3) := by decide +kernel
theorem d_X12_writes_18 : decode cX12_writes 18 = .ok (.aload_n 1, 1) := by decide +kernel
theorem d_X12_writes_19 : decode cX12_writes 19 = .ok (.bipush 79, 2) := by decide +kernel
theorem d_X12_writes_21 : decode cX12_writes 21 = .ok (.iload_n 3, 1) := by decide +kernel
theorem d_X12_writes_22 : decode cX12_writes 22 = .ok (.iadd, 1) := by decide +kernel
theorem d_X12_writes_23 : decode cX12_writes 23 = .ok (.aload_n 1, 1) := by decide +kernel
theorem d_X12_writes_24 : decode cX12_writes 24 = .ok (.bipush 79, 2) := by decide +kernel
theorem d_X12_writes_26 : decode cX12_writes 26 = .ok (.iload_n 3, 1) := by decide +kernel
theorem d_X12_writes_27 : decode cX12_writes 27 = .ok (.iadd, 1) := by decide +kernel
theorem d_X12_writes_28 : decode cX12_writes 28 = .ok (.iconst 3, 1) := by decide +kernel
theorem d_X12_writes_29 : decode cX12_writes 29 = .ok (.iadd, 1) := by decide +kernel
theorem d_X12_writes_30 : decode cX12_writes 30 = .ok (.iaload, 1) := by decide +kernel
theorem d_X12_writes_31 : decode cX12_writes 31 = .ok (.iastore, 1) := by decide +kernel
theorem d_X12_writes_32 : decode cX12_writes 32 = .ok (.iinc 3 1, 3) := by decide +kernel
theorem d_X12_writes_35 : decode cX12_writes 35 = .ok (.goto (-24), 3) := by decide +kernel
theorem d_X12_writes_38 : decode cX12_writes 38 = .ok (.aload_n 1, 1) := by decide +kernel
theorem d_X12_writes_39 : decode cX12_writes 39 = .ok (.bipush 79, 2) := by decide +kernel
theorem d_X12_writes_41 : decode cX12_writes 41 = .ok (.dup2, 1) := by decide +kernel
theorem d_X12_writes_42 : decode cX12_writes 42 = .ok (.iaload, 1) := by decide +kernel
theorem d_X12_writes_43 : decode cX12_writes 43 = .ok (.iconst 1, 1) := by decide +kernel
theorem d_X12_writes_44 : decode cX12_writes 44 = .ok (.isub, 1) := by decide +kernel
theorem d_X12_writes_45 : decode cX12_writes 45 = .ok (.iastore, 1) := by decide +kernel
theorem d_X12_writes_46 : decode cX12_writes 46 = .ok (.bipush 80, 2) := by decide +kernel
theorem d_X12_writes_48 : decode cX12_writes 48 = .ok (.iconst 3, 1) := by decide +kernel
theorem d_X12_writes_49 : decode cX12_writes 49 = .ok (.aload_n 1, 1) := by decide +kernel
theorem d_X12_writes_50 : decode cX12_writes 50 = .ok (.bipush 79, 2) := by decide +kernel
theorem d_X12_writes_52 : decode cX12_writes 52 = .ok (.iaload, 1) := by decide +kernel
theorem d_X12_writes_53 : decode cX12_writes 53 = .ok (.imul, 1) := by decide +kernel
theorem d_X12_writes_54 : decode cX12_writes 54 = .ok (.iadd, 1) := by decide +kernel
theorem d_X12_writes_55 : decode cX12_writes 55 = .ok (.istore_n 3, 1) := by decide +kernel
theorem d_X12_writes_56 : decode cX12_writes 56 = .ok (.aload_n 1, 1) := by decide +kernel
theorem d_X12_writes_57 : decode cX12_writes 57 = .ok (.iload_n 3, 1) := by decide +kernel
theorem d_X12_writes_58 : decode cX12_writes 58 = .ok (.iload_n 2, 1) := by decide +kernel
theorem d_X12_writes_59 : decode cX12_writes 59 = .ok (.iastore, 1) := by decide +kernel
theorem d_X12_writes_60 : decode cX12_writes 60 = .ok (.aload_n 1, 1) := by decide +kernel
theorem d_X12_writes_61 : decode cX12_writes 61 = .ok (.iload_n 3, 1) := by decide +kernel
theorem d_X12_writes_62 : decode cX12_writes 62 = .ok (.iconst 1, 1) := by decide +kernel
theorem d_X12_writes_63 : decode cX12_writes 63 = .ok (.iadd, 1) := by decide +kernel
theorem d_X12_writes_64 : decode cX12_writes 64 = .ok (.aload_n 0, 1) := by decide +kernel
theorem d_X12_writes_65 : decode cX12_writes 65 = .ok (.getfield 383, 3) := by decide +kernel
theorem d_X12_writes_68 : decode cX12_writes 68 = .ok (.iastore, 1) := by decide +kernel
theorem d_X12_writes_69 : decode cX12_writes 69 = .ok (.aload_n 1, 1) := by decide +kernel
theorem d_X12_writes_70 : decode cX12_writes 70 = .ok (.iload_n 3, 1) := by decide +kernel
theorem d_X12_writes_71 : decode cX12_writes 71 = .ok (.iconst 2, 1) := by decide +kernel
theorem d_X12_writes_72 : decode cX12_writes 72 = .ok (.iadd, 1) := by decide +kernel
theorem d_X12_writes_73 : decode cX12_writes 73 = .ok (.aload_n 0, 1) := by decide +kernel
theorem d_X12_writes_74 : decode cX12_writes 74 = .ok (.getfield 386, 3) := by decide +kernel
theorem d_X12_writes_77 : decode cX12_writes 77 = .ok (.iastore, 1) := by decide +kernel
theorem d_X12_writes_78 : decode cX12_writes 78 = .ok (.aload_n 1, 1) := by decide +kernel
theorem d_X12_writes_79 : decode cX12_writes 79 = .ok (.bipush 79, 2) := by decide +kernel
theorem d_X12_writes_81 : decode cX12_writes 81 = .ok (.dup2, 1) := by decide +kernel
theorem d_X12_writes_82 : decode cX12_writes 82 = .ok (.iaload, 1) := by decide +kernel
theorem d_X12_writes_83 : decode cX12_writes 83 = .ok (.iconst 1, 1) := by decide +kernel
theorem d_X12_writes_84 : decode cX12_writes 84 = .ok (.iadd, 1) := by decide +kernel
theorem d_X12_writes_85 : decode cX12_writes 85 = .ok (.iastore, 1) := by decide +kernel
theorem d_X12_writes_86 : decode cX12_writes 86 = .ok (.return_, 1) := by decide +kernel
def f_X12_writes (this : Nat) (a1 : Nat) (a2 : Int32) : sa_M Unit :=
sa_gd 12 this (
sa_bnd (sa_ldI .int a1 79) fun v1 =>
sa_jn0 (sa_bnd (sa_ldI .int a1 79) fun v2 =>
sa_let ((80 + (3 * v2)) : Int32) fun x3 =>
sa_bnd (sa_stI a1 x3 a2) fun _ =>
sa_bnd (sa_rdI 12 this 40) fun v4 =>
sa_bnd (sa_stI a1 (x3 + 1) v4) fun _ =>
sa_bnd (sa_rdI 12 this 41) fun v5 =>
sa_bnd (sa_stI a1 (x3 + 2) v5) fun _ =>
sa_bnd (sa_ldI .int a1 79) fun v6 =>
sa_bnd (sa_stI a1 79 (v6 + 1)) fun _ =>
sa_ret ()) fun j46 =>
if ¬ v1 = 60 then
j46
else
sa_let (1 : Int32) fun x7 =>
sa_wh1 (fun j11 (x8 : Int32) =>
if 177 < x8 then
sa_bnd (sa_ldI .int a1 79) fun v9 =>
sa_bnd (sa_stI a1 79 (v9 - 1)) fun _ =>
j46
else
sa_bnd (sa_ldI .int a1 ((79 + x8) + 3)) fun v10 =>
sa_bnd (sa_stI a1 (79 + x8) v10) fun _ =>
sa_let ((x8 + 1) : Int32) fun x11 =>
j11 x11) sa_F x7)
set_option maxHeartbeats 1000000 in
set_option maxRecDepth 10000 in
theorem b_X12_writes {p : Program} {l : Launch} {e : Env} {s : State} {m : MethodId} {args : Array Value} {below : List Frame} {meth : Method} {c : Code} {D : va_G} {ad : Nat → Nat} {cA : FieldType → ClassId} {A : Nat → Prop} (this : Nat) (a1 : Nat) (a2 : Int32) (C : sa_C p s m args meth c cX12_writes RX12 "writes" 4 none D ad cA A) : sa_Sg p l e s m args below meth c 4 1 D ad cA A sa_eV 0 [(0, .ref (ad this)), (1, .ref (ad a1)), (2, .int a2)] [] (f_X12_writes this a1 a2) := by
  unfold f_X12_writes
  refine sa_gdI ?_
  refine sa_aload_n C d_X12_writes_0 rfl 1 rfl ?_
  refine sa_bipush (v := 79) C d_X12_writes_1 (by decide) ?_
  refine sa_iald C d_X12_writes_3 (fun v1 => ?_)
  refine sa_bipush (v := 60) C d_X12_writes_4 (by decide) ?_
  refine sa_join0 46 ([(0, .ref (ad this)), (1, .ref (ad a1)), (2, .int a2)]) ([]) (?_) (fun j46 hj46 => ?_)
  · refine sa_bipush (v := 80) C d_X12_writes_46 (by decide) ?_
    refine sa_iconst (v := 3) C d_X12_writes_48 (by decide) ?_
    refine sa_aload_n C d_X12_writes_49 rfl 1 rfl ?_
    refine sa_bipush (v := 79) C d_X12_writes_50 (by decide) ?_
    refine sa_iald C d_X12_writes_52 (fun v2 => ?_)
    refine sa_imul C d_X12_writes_53 ?_
    refine sa_iadd C d_X12_writes_54 ?_
    refine sa_topi (fun x3 => ?_)
    refine sa_istore_n (lv' := [(3, .int x3), (0, .ref (ad this)), (1, .ref (ad a1)), (2, .int a2)]) C d_X12_writes_55 rfl (by decide) rfl ?_
    refine sa_aload_n C d_X12_writes_56 rfl 2 rfl ?_
    refine sa_iload_n C d_X12_writes_57 rfl 0 rfl ?_
    refine sa_iload_n C d_X12_writes_58 rfl 3 rfl ?_
    refine sa_iast C d_X12_writes_59 ?_
    refine sa_aload_n C d_X12_writes_60 rfl 2 rfl ?_
    refine sa_iload_n C d_X12_writes_61 rfl 0 rfl ?_
    refine sa_iconst (v := 1) C d_X12_writes_62 (by decide) ?_
    refine sa_iadd C d_X12_writes_63 ?_
    refine sa_aload_n C d_X12_writes_64 rfl 1 rfl ?_
    refine sa_getI C fd_X12_383 d_X12_writes_65 (fun v4 => ?_)
    refine sa_iast C d_X12_writes_68 ?_
    refine sa_aload_n C d_X12_writes_69 rfl 2 rfl ?_
    refine sa_iload_n C d_X12_writes_70 rfl 0 rfl ?_
    refine sa_iconst (v := 2) C d_X12_writes_71 (by decide) ?_
    refine sa_iadd C d_X12_writes_72 ?_
    refine sa_aload_n C d_X12_writes_73 rfl 1 rfl ?_
    refine sa_getI C fd_X12_386 d_X12_writes_74 (fun v5 => ?_)
    refine sa_iast C d_X12_writes_77 ?_
    refine sa_aload_n C d_X12_writes_78 rfl 2 rfl ?_
    refine sa_bipush (v := 79) C d_X12_writes_79 (by decide) ?_
    refine sa_dup2_11 C d_X12_writes_81 rfl rfl ?_
    refine sa_iald C d_X12_writes_82 (fun v6 => ?_)
    refine sa_iconst (v := 1) C d_X12_writes_83 (by decide) ?_
    refine sa_iadd C d_X12_writes_84 ?_
    refine sa_iast C d_X12_writes_85 ?_
    exact sa_vret C d_X12_writes_86
  refine sa_icmp_ne (tgt := 46) C d_X12_writes_6 (by decide) ?_ ?_
  · exact sa_sub [0, 1, 2] rfl (hj46)
  refine sa_iconst (v := 1) C d_X12_writes_9 (by decide) ?_
  refine sa_topi (fun x7 => ?_)
  refine sa_istore_n (lv' := [(3, .int x7), (0, .ref (ad this)), (1, .ref (ad a1)), (2, .int a2)]) C d_X12_writes_10 rfl (by decide) rfl ?_
  refine sa_sub [1, 2, 3, 0] rfl (sa_loop1 (fun x8 => [(0, .ref (ad this)), (1, .ref (ad a1)), (2, .int a2), (3, .int x8)]) (fun x8 => []) (fun j11 hj11 x8 => ?_) _ _)
  refine sa_iload_n C d_X12_writes_11 rfl 3 rfl ?_
  refine sa_sipush (v := 177) C d_X12_writes_12 (by decide) ?_
  refine sa_icmp_gt (tgt := 38) C d_X12_writes_15 (by decide) ?_ ?_
  · refine sa_aload_n C d_X12_writes_38 rfl 1 rfl ?_
    refine sa_bipush (v := 79) C d_X12_writes_39 (by decide) ?_
    refine sa_dup2_11 C d_X12_writes_41 rfl rfl ?_
    refine sa_iald C d_X12_writes_42 (fun v9 => ?_)
    refine sa_iconst (v := 1) C d_X12_writes_43 (by decide) ?_
    refine sa_isub C d_X12_writes_44 ?_
    refine sa_iast C d_X12_writes_45 ?_
    exact sa_sub [0, 1, 2] rfl (hj46)
  refine sa_aload_n C d_X12_writes_18 rfl 1 rfl ?_
  refine sa_bipush (v := 79) C d_X12_writes_19 (by decide) ?_
  refine sa_iload_n C d_X12_writes_21 rfl 3 rfl ?_
  refine sa_iadd C d_X12_writes_22 ?_
  refine sa_aload_n C d_X12_writes_23 rfl 1 rfl ?_
  refine sa_bipush (v := 79) C d_X12_writes_24 (by decide) ?_
  refine sa_iload_n C d_X12_writes_26 rfl 3 rfl ?_
  refine sa_iadd C d_X12_writes_27 ?_
  refine sa_iconst (v := 3) C d_X12_writes_28 (by decide) ?_
  refine sa_iadd C d_X12_writes_29 ?_
  refine sa_iald C d_X12_writes_30 (fun v10 => ?_)
  refine sa_iast C d_X12_writes_31 ?_
  refine sa_iinc C (fun zz => [(3, .int zz), (0, .ref (ad this)), (1, .ref (ad a1)), (2, .int a2)]) d_X12_writes_32 3 rfl rfl (by decide) (fun _ => rfl) (fun x11 => ?_)
  refine sa_goto (tgt := 11) C d_X12_writes_35 (by decide) ?_
  exact sa_sub [1, 2, 3, 0] rfl (hj11 _)
theorem k_X12_writes (this : Nat) (a1 : Nat) (a2 : Int32) : sa_Met 1 yX12_writes cX12_writes 4 none (fun ad => [.ref (ad this), .ref (ad a1), .int a2]) sa_eV (f_X12_writes this a1 a2) := sa_mk (by decide) (fun ad => Nat.le_of_ble_eq_true rfl) (fun p l e s m args below meth c D ad cA A C => b_X12_writes this a1 a2 C)
theorem gd_X12_writes (this : Nat) (a1 : Nat) (a2 : Int32) (σ : sa_St) (r : Unit) (τ : sa_St) (h : f_X12_writes this a1 a2 σ = some (r, τ)) : sa_sh this = some (.inl 12) := sa_gd_ok h
theorem d_X12_goHour_0 : decode cX12_goHour 0 = .ok (.aload_n 0, 1) := by decide +kernel
theorem d_X12_goHour_1 : decode cX12_goHour 1 = .ok (.iconst 0, 1) := by decide +kernel
theorem d_X12_goHour_2 : decode cX12_goHour 2 = .ok (.putfield 383, 3) := by decide +kernel
theorem d_X12_goHour_5 : decode cX12_goHour 5 = .ok (.aload_n 0, 1) := by decide +kernel
theorem d_X12_goHour_6 : decode cX12_goHour 6 = .ok (.iconst 0, 1) := by decide +kernel
theorem d_X12_goHour_7 : decode cX12_goHour 7 = .ok (.putfield 386, 3) := by decide +kernel
theorem d_X12_goHour_10 : decode cX12_goHour 10 = .ok (.iconst 0, 1) := by decide +kernel
theorem d_X12_goHour_11 : decode cX12_goHour 11 = .ok (.istore_n 3, 1) := by decide +kernel
theorem d_X12_goHour_12 : decode cX12_goHour 12 = .ok (.iload_n 3, 1) := by decide +kernel
theorem d_X12_goHour_13 : decode cX12_goHour 13 = .ok (.aload_n 0, 1) := by decide +kernel
theorem d_X12_goHour_14 : decode cX12_goHour 14 = .ok (.getfield 331, 3) := by decide +kernel
theorem d_X12_goHour_17 : decode cX12_goHour 17 = .ok (.if_icmp .ge 93, 3) := by decide +kernel
theorem d_X12_goHour_20 : decode cX12_goHour 20 = .ok (.iload_n 2, 1) := by decide +kernel
theorem d_X12_goHour_21 : decode cX12_goHour 21 = .ok (.iload_n 3, 1) := by decide +kernel
theorem d_X12_goHour_22 : decode cX12_goHour 22 = .ok (.invokestatic 260, 3) := by decide +kernel
theorem d_X12_goHour_25 : decode cX12_goHour 25 = .ok (.ifCond .ne 6, 3) := by decide +kernel
theorem d_X12_goHour_28 : decode cX12_goHour 28 = .ok (.goto 76, 3) := by decide +kernel
theorem d_X12_goHour_31 : decode cX12_goHour 31 = .ok (.iconst 0, 1) := by decide +kernel
theorem d_X12_goHour_32 : decode cX12_goHour 32 = .ok (.istore 4, 2) := by decide +kernel
theorem d_X12_goHour_34 : decode cX12_goHour 34 = .ok (.iload 4, 2) := by decide +kernel
theorem d_X12_goHour_36 : decode cX12_goHour 36 = .ok (.aload_n 1, 1) := by decide +kernel
theorem d_X12_goHour_37 : decode cX12_goHour 37 = .ok (.bipush 75, 2) := by decide +kernel
theorem d_X12_goHour_39 : decode cX12_goHour 39 = .ok (.iaload, 1) := by decide +kernel
theorem d_X12_goHour_40 : decode cX12_goHour 40 = .ok (.if_icmp .ge 64, 3) := by decide +kernel
theorem d_X12_goHour_43 : decode cX12_goHour 43 = .ok (.aload_n 1, 1) := by decide +kernel
theorem d_X12_goHour_44 : decode cX12_goHour 44 = .ok (.iload 4, 2) := by decide +kernel
theorem d_X12_goHour_46 : decode cX12_goHour 46 = .ok (.invokestatic 352, 3) := by decide +kernel
theorem d_X12_goHour_49 : decode cX12_goHour 49 = .ok (.ifCond .eq 49, 3) := by decide +kernel
theorem d_X12_goHour_52 : decode cX12_goHour 52 = .ok (.aload_n 1, 1) := by decide +kernel
theorem d_X12_goHour_53 : decode cX12_goHour 53 = .ok (.bipush 7, 2) := by decide +kernel
theorem d_X12_goHour_55 : decode cX12_goHour 55 = .ok (.iload 4, 2) := by decide +kernel
theorem d_X12_goHour_57 : decode cX12_goHour 57 = .ok (.imul, 1) := by decide +kernel
theorem d_X12_goHour_58 : decode cX12_goHour 58 = .ok (.iaload, 1) := by decide +kernel
theorem d_X12_goHour_59 : decode cX12_goHour 59 = .ok (.iload_n 3, 1) := by decide +kernel
theorem d_X12_goHour_60 : decode cX12_goHour 60 = .ok (.if_icmp .ne 38, 3) := by decide +kernel
theorem d_X12_goHour_63 : decode cX12_goHour 63 = .ok (.aload_n 1, 1) := by decide +kernel
theorem d_X12_goHour_64 : decode cX12_goHour 64 = .ok (.bipush 7, 2) := by decide +kernel
theorem d_X12_goHour_66 : decode cX12_goHour 66 = .ok (.iload 4, 2) := by decide +kernel
theorem d_X12_goHour_68 : decode cX12_goHour 68 = .ok (.imul, 1) := by decide +kernel
theorem d_X12_goHour_69 : decode cX12_goHour 69 = .ok (.iconst 1, 1) := by decide +kernel
theorem d_X12_goHour_70 : decode cX12_goHour 70 = .ok (.iadd, 1) := by decide +kernel
theorem d_X12_goHour_71 : decode cX12_goHour 71 = .ok (.iaload, 1) := by decide +kernel
theorem d_X12_goHour_72 : decode cX12_goHour 72 = .ok (.ifCond .gt 11, 3) := by decide +kernel
theorem d_X12_goHour_75 : decode cX12_goHour 75 = .ok (.aload_n 0, 1) := by decide +kernel
theorem d_X12_goHour_76 : decode cX12_goHour 76 = .ok (.iload_n 3, 1) := by decide +kernel
theorem d_X12_goHour_77 : decode cX12_goHour 77 = .ok (.invokevirtual 389, 3) := by decide +kernel
theorem d_X12_goHour_80 : decode cX12_goHour 80 = .ok (.ifCond .ne 18, 3) := by decide +kernel
theorem d_X12_goHour_83 : decode cX12_goHour 83 = .ok (.aload_n 0, 1) := by decide +kernel
theorem d_X12_goHour_84 : decode cX12_goHour 84 = .ok (.aload_n 1, 1) := by decide +kernel
theorem d_X12_goHour_85 : decode cX12_goHour 85 = .ok (.iload 4, 2) := by decide +kernel
theorem d_X12_goHour_87 : decode cX12_goHour 87 = .ok (.aload_n 0, 1) := by decide +kernel
theorem d_X12_goHour_88 : decode cX12_goHour 88 = .ok (.aload_n 1, 1) := by decide +kernel
theorem d_X12_goHour_89 : decode cX12_goHour 89 = .ok (.iload 4, 2) := by decide +kernel
theorem d_X12_goHour_91 : decode cX12_goHour 91 = .ok (.invokevirtual 379, 3) := by decide +kernel
theorem d_X12_goHour_94 : decode cX12_goHour 94 = .ok (.iconst 0, 1) := by decide +kernel
theorem d_X12_goHour_95 : decode cX12_goHour 95 = .ok (.invokevirtual 392, 3) := by decide +kernel
theorem d_X12_goHour_98 : decode cX12_goHour 98 = .ok (.iinc 4 1, 3) := by decide +kernel
theorem d_X12_goHour_101 : decode cX12_goHour 101 = .ok (.goto (-67), 3) := by decide +kernel
theorem d_X12_goHour_104 : decode cX12_goHour 104 = .ok (.iinc 3 1, 3) := by decide +kernel
theorem d_X12_goHour_107 : decode cX12_goHour 107 = .ok (.goto (-95), 3) := by decide +kernel
theorem d_X12_goHour_110 : decode cX12_goHour 110 = .ok (.iconst 0, 1) := by decide +kernel
theorem d_X12_goHour_111 : decode cX12_goHour 111 = .ok (.istore_n 3, 1) := by decide +kernel
theorem d_X12_goHour_112 : decode cX12_goHour 112 = .ok (.iload_n 3, 1) := by decide +kernel
theorem d_X12_goHour_113 : decode cX12_goHour 113 = .ok (.aload_n 1, 1) := by decide +kernel
theorem d_X12_goHour_114 : decode cX12_goHour 114 = .ok (.bipush 75, 2) := by decide +kernel
theorem d_X12_goHour_116 : decode cX12_goHour 116 = .ok (.iaload, 1) := by decide +kernel
theorem d_X12_goHour_117 : decode cX12_goHour 117 = .ok (.if_icmp .ge 96, 3) := by decide +kernel
theorem d_X12_goHour_120 : decode cX12_goHour 120 = .ok (.bipush 7, 2) := by decide +kernel
theorem d_X12_goHour_122 : decode cX12_goHour 122 = .ok (.iload_n 3, 1) := by decide +kernel
theorem d_X12_goHour_123 : decode cX12_goHour 123 = .ok (.imul, 1) := by decide +kernel
theorem d_X12_goHour_124 : decode cX12_goHour 124 = .ok (.istore 4, 2) := by decide +kernel
theorem d_X12_goHour_126 : decode cX12_goHour 126 = .ok (.aload_n 1, 1) := by decide +kernel
theorem d_X12_goHour_127 : decode cX12_goHour 127 = .ok (.iload_n 3, 1) := by decide +kernel
theorem d_X12_goHour_128 : decode cX12_goHour 128 = .ok (.invokestatic 352, 3) := by decide +kernel
theorem d_X12_goHour_131 : decode cX12_goHour 131 = .ok (.ifCond .eq 76, 3) := by decide +kernel
theorem d_X12_goHour_134 : decode cX12_goHour 134 = .ok (.aload_n 1, 1) := by decide +kernel
theorem d_X12_goHour_135 : decode cX12_goHour 135 = .ok (.iload 4, 2) := by decide +kernel
theorem d_X12_goHour_137 : decode cX12_goHour 137 = .ok (.iconst 1, 1) := by decide +kernel
theorem d_X12_goHour_138 : decode cX12_goHour 138 = .ok (.iadd, 1) := by decide +kernel
theorem d_X12_goHour_139 : decode cX12_goHour 139 = .ok (.iaload, 1) := by decide +kernel
theorem d_X12_goHour_140 : decode cX12_goHour 140 = .ok (.ifCond .ne 6, 3) := by decide +kernel
theorem d_X12_goHour_143 : decode cX12_goHour 143 = .ok (.goto 64, 3) := by decide +kernel
theorem d_X12_goHour_146 : decode cX12_goHour 146 = .ok (.aload_n 1, 1) := by decide +kernel
theorem d_X12_goHour_147 : decode cX12_goHour 147 = .ok (.iload 4, 2) := by decide +kernel
theorem d_X12_goHour_149 : decode cX12_goHour 149 = .ok (.iconst 1, 1) := by decide +kernel
theorem d_X12_goHour_150 : decode cX12_goHour 150 = .ok (.iadd, 1) := by decide +kernel
theorem d_X12_goHour_151 : decode cX12_goHour 151 = .ok (.dup2, 1) := by decide +kernel
theorem d_X12_goHour_152 : decode cX12_goHour 152 = .ok (.iaload, 1) := by decide +kernel
theorem d_X12_goHour_153 : decode cX12_goHour 153 = .ok (.iconst 1, 1) := by decide +kernel
theorem d_X12_goHour_154 : decode cX12_goHour 154 = .ok (.isub, 1) := by decide +kernel
theorem d_X12_goHour_155 : decode cX12_goHour 155 = .ok (.iastore, 1) := by decide +kernel
theorem d_X12_goHour_156 : decode cX12_goHour 156 = .ok (.aload_n 1, 1) := by decide +kernel
theorem d_X12_goHour_157 : decode cX12_goHour 157 = .ok (.iload 4, 2) := by decide +kernel
theorem d_X12_goHour_159 : decode cX12_goHour 159 = .ok (.iconst 1, 1) := by decide +kernel
theorem d_X12_goHour_160 : decode cX12_goHour 160 = .ok (.iadd, 1) := by decide +kernel
theorem d_X12_goHour_161 : decode cX12_goHour 161 = .ok (.iaload, 1) := by decide +kernel
theorem d_X12_goHour_162 : decode cX12_goHour 162 = .ok (.ifCond .ne 45, 3) := by decide +kernel
theorem d_X12_goHour_165 : decode cX12_goHour 165 = .ok (.aload_n 0, 1) := by decide +kernel
theorem d_X12_goHour_166 : decode cX12_goHour 166 = .ok (.getfield 43, 3) := by decide +kernel
theorem d_X12_goHour_169 : decode cX12_goHour 169 = .ok (.iconst 4, 1) := by decide +kernel
theorem d_X12_goHour_170 : decode cX12_goHour 170 = .ok (.aload_n 1, 1) := by decide +kernel
theorem d_X12_goHour_171 : decode cX12_goHour 171 = .ok (.iload 4, 2) := by decide +kernel
theorem d_X12_goHour_173 : decode cX12_goHour 173 = .ok (.bipush 6, 2) := by decide +kernel
theorem d_X12_goHour_175 : decode cX12_goHour 175 = .ok (.iadd, 1) := by decide +kernel
theorem d_X12_goHour_176 : decode cX12_goHour 176 = .ok (.iaload, 1) := by decide +kernel
theorem d_X12_goHour_177 : decode cX12_goHour 177 = .ok (.imul, 1) := by decide +kernel
theorem d_X12_goHour_178 : decode cX12_goHour 178 = .ok (.iconst 3, 1) := by decide +kernel
theorem d_X12_goHour_179 : decode cX12_goHour 179 = .ok (.iadd, 1) := by decide +kernel
theorem d_X12_goHour_180 : decode cX12_goHour 180 = .ok (.iaload, 1) := by decide +kernel
theorem d_X12_goHour_181 : decode cX12_goHour 181 = .ok (.ifCond .le 26, 3) := by decide +kernel
theorem d_X12_goHour_184 : decode cX12_goHour 184 = .ok (.aload_n 0, 1) := by decide +kernel
theorem d_X12_goHour_185 : decode cX12_goHour 185 = .ok (.aload_n 1, 1) := by decide +kernel
theorem d_X12_goHour_186 : decode cX12_goHour 186 = .ok (.iload_n 3, 1) := by decide +kernel
theorem d_X12_goHour_187 : decode cX12_goHour 187 = .ok (.aload_n 0, 1) := by decide +kernel
theorem d_X12_goHour_188 : decode cX12_goHour 188 = .ok (.getfield 43, 3) := by decide +kernel
theorem d_X12_goHour_191 : decode cX12_goHour 191 = .ok (.iconst 4, 1) := by decide +kernel
theorem d_X12_goHour_192 : decode cX12_goHour 192 = .ok (.aload_n 1, 1) := by decide +kernel
theorem d_X12_goHour_193 : decode cX12_goHour 193 = .ok (.iload 4, 2) := by decide +kernel
theorem d_X12_goHour_195 : decode cX12_goHour 195 = .ok (.bipush 6, 2) := by decide +kernel
theorem d_X12_goHour_197 : decode cX12_goHour 197 = .ok (.iadd, 1) := by decide +kernel
theorem d_X12_goHour_198 : decode cX12_goHour 198 = .ok (.iaload, 1) := by decide +kernel
theorem d_X12_goHour_199 : decode cX12_goHour 199 = .ok (.imul, 1) := by decide +kernel
theorem d_X12_goHour_200 : decode cX12_goHour 200 = .ok (.iconst 3, 1) := by decide +kernel
theorem d_X12_goHour_201 : decode cX12_goHour 201 = .ok (.iadd, 1) := by decide +kernel
theorem d_X12_goHour_202 : decode cX12_goHour 202 = .ok (.iaload, 1) := by decide +kernel
theorem d_X12_goHour_203 : decode cX12_goHour 203 = .ok (.iconst 1, 1) := by decide +kernel
theorem d_X12_goHour_204 : decode cX12_goHour 204 = .ok (.invokevirtual 392, 3) := by decide +kernel
theorem d_X12_goHour_207 : decode cX12_goHour 207 = .ok (.iinc 3 1, 3) := by decide +kernel
theorem d_X12_goHour_210 : decode cX12_goHour 210 = .ok (.goto (-98), 3) := by decide +kernel
theorem d_X12_goHour_213 : decode cX12_goHour 213 = .ok (.iconst 0, 1) := by decide +kernel
theorem d_X12_goHour_214 : decode cX12_goHour 214 = .ok (.istore_n 3, 1) := by decide +kernel
theorem d_X12_goHour_215 : decode cX12_goHour 215 = .ok (.iload_n 3, 1) := by decide +kernel
theorem d_X12_goHour_216 : decode cX12_goHour 216 = .ok (.aload_n 0, 1) := by decide +kernel
theorem d_X12_goHour_217 : decode cX12_goHour 217 = .ok (.getfield 337, 3) := by decide +kernel
theorem d_X12_goHour_220 : decode cX12_goHour 220 = .ok (.if_icmp .ge 15, 3) := by decide +kernel
theorem d_X12_goHour_223 : decode cX12_goHour 223 = .ok (.aload_n 0, 1) := by decide +kernel
theorem d_X12_goHour_224 : decode cX12_goHour 224 = .ok (.aload_n 1, 1) := by decide +kernel
theorem d_X12_goHour_225 : decode cX12_goHour 225 = .ok (.iload_n 3, 1) := by decide +kernel
theorem d_X12_goHour_226 : decode cX12_goHour 226 = .ok (.invokevirtual 396, 3) := by decide +kernel
theorem d_X12_goHour_229 : decode cX12_goHour 229 = .ok (.iinc 3 1, 3) := by decide +kernel
theorem d_X12_goHour_232 : decode cX12_goHour 232 = .ok (.goto (-17), 3) := by decide +kernel
theorem d_X12_goHour_235 : decode cX12_goHour 235 = .ok (.aload_n 1, 1) := by decide +kernel
theorem d_X12_goHour_236 : decode cX12_goHour 236 = .ok (.bipush 76, 2) := by decide +kernel
theorem d_X12_goHour_238 : decode cX12_goHour 238 = .ok (.dup2, 1) := by decide +kernel
theorem d_X12_goHour_239 : decode cX12_goHour 239 = .ok (.iaload, 1) := by decide +kernel
theorem d_X12_goHour_240 : decode cX12_goHour 240 = .ok (.iconst 1, 1) := by decide +kernel
theorem d_X12_goHour_241 : decode cX12_goHour 241 = .ok (.iadd, 1) := by decide +kernel
theorem d_X12_goHour_242 : decode cX12_goHour 242 = .ok (.iastore, 1) := by decide +kernel
theorem d_X12_goHour_243 : decode cX12_goHour 243 = .ok (.aload_n 1, 1) := by decide +kernel
theorem d_X12_goHour_244 : decode cX12_goHour 244 = .ok (.bipush 76, 2) := by decide +kernel
theorem d_X12_goHour_246 : decode cX12_goHour 246 = .ok (.iaload, 1) := by decide +kernel
theorem d_X12_goHour_247 : decode cX12_goHour 247 = .ok (.bipush 6, 2) := by decide +kernel
theorem d_X12_goHour_249 : decode cX12_goHour 249 = .ok (.irem, 1) := by decide +kernel
theorem d_X12_goHour_250 : decode cX12_goHour 250 = .ok (.ifCond .ne 59, 3) := by decide +kernel
theorem d_X12_goHour_253 : decode cX12_goHour 253 = .ok (.iconst 0, 1) := by decide +kernel
theorem d_X12_goHour_254 : decode cX12_goHour 254 = .ok (.istore_n 3, 1) := by decide +kernel
theorem d_X12_goHour_255 : decode cX12_goHour 255 = .ok (.iload_n 3, 1) := by decide +kernel
theorem d_X12_goHour_256 : decode cX12_goHour 256 = .ok (.aload_n 1, 1) := by decide +kernel
theorem d_X12_goHour_257 : decode cX12_goHour 257 = .ok (.bipush 75, 2) := by decide +kernel
theorem d_X12_goHour_259 : decode cX12_goHour 259 = .ok (.iaload, 1) := by decide +kernel
theorem d_X12_goHour_260 : decode cX12_goHour 260 = .ok (.if_icmp .ge 49, 3) := by decide +kernel
theorem d_X12_goHour_263 : decode cX12_goHour 263 = .ok (.aload_n 1, 1) := by decide +kernel
theorem d_X12_goHour_264 : decode cX12_goHour 264 = .ok (.iload_n 3, 1) := by decide +kernel
theorem d_X12_goHour_265 : decode cX12_goHour 265 = .ok (.invokestatic 352, 3) := by decide +kernel
theorem d_X12_goHour_268 : decode cX12_goHour 268 = .ok (.ifCond .eq 35, 3) := by decide +kernel
theorem d_X12_goHour_271 : decode cX12_goHour 271 = .ok (.aload_n 1, 1) := by decide +kernel
theorem d_X12_goHour_272 : decode cX12_goHour 272 = .ok (.bipush 7, 2) := by decide +kernel
theorem d_X12_goHour_274 : decode cX12_goHour 274 = .ok (.iload_n 3, 1) := by decide +kernel
theorem d_X12_goHour_275 : decode cX12_goHour 275 = .ok (.imul, 1) := by decide +kernel
theorem d_X12_goHour_276 : decode cX12_goHour 276 = .ok (.iconst 1, 1) := by decide +kernel
theorem d_X12_goHour_277 : decode cX12_goHour 277 = .ok (.iadd, 1) := by decide +kernel
theorem d_X12_goHour_278 : decode cX12_goHour 278 = .ok (.iaload, 1) := by decide +kernel
theorem d_X12_goHour_279 : decode cX12_goHour 279 = .ok (.ifCond .gt 16, 3) := by decide +kernel
theorem d_X12_goHour_282 : decode cX12_goHour 282 = .ok (.aload_n 0, 1) := by decide +kernel
theorem d_X12_goHour_283 : decode cX12_goHour 283 = .ok (.aload_n 1, 1) := by decide +kernel
theorem d_X12_goHour_284 : decode cX12_goHour 284 = .ok (.bipush 7, 2) := by decide +kernel
theorem d_X12_goHour_286 : decode cX12_goHour 286 = .ok (.iload_n 3, 1) := by decide +kernel
theorem d_X12_goHour_287 : decode cX12_goHour 287 = .ok (.imul, 1) := by decide +kernel
theorem d_X12_goHour_288 : decode cX12_goHour 288 = .ok (.iaload, 1) := by decide +kernel
theorem d_X12_goHour_289 : decode cX12_goHour 289 = .ok (.invokevirtual 389, 3) := by decide +kernel
theorem d_X12_goHour_292 : decode cX12_goHour 292 = .ok (.ifCond .ne 11, 3) := by decide +kernel
theorem d_X12_goHour_295 : decode cX12_goHour 295 = .ok (.aload_n 0, 1) := by decide +kernel
theorem d_X12_goHour_296 : decode cX12_goHour 296 = .ok (.aload_n 1, 1) := by decide +kernel
theorem d_X12_goHour_297 : decode cX12_goHour 297 = .ok (.iload_n 3, 1) := by decide +kernel
theorem d_X12_goHour_298 : decode cX12_goHour 298 = .ok (.iconst 1, 1) := by decide +kernel
theorem d_X12_goHour_299 : decode cX12_goHour 299 = .ok (.iconst 0, 1) := by decide +kernel
theorem d_X12_goHour_300 : decode cX12_goHour 300 = .ok (.invokevirtual 392, 3) := by decide +kernel
theorem d_X12_goHour_303 : decode cX12_goHour 303 = .ok (.iinc 3 1, 3) := by decide +kernel
theorem d_X12_goHour_306 : decode cX12_goHour 306 = .ok (.goto (-51), 3) := by decide +kernel
theorem d_X12_goHour_309 : decode cX12_goHour 309 = .ok (.aload_n 0, 1) := by decide +kernel
theorem d_X12_goHour_310 : decode cX12_goHour 310 = .ok (.aload_n 1, 1) := by decide +kernel
theorem d_X12_goHour_311 : decode cX12_goHour 311 = .ok (.iload_n 2, 1) := by decide +kernel
theorem d_X12_goHour_312 : decode cX12_goHour 312 = .ok (.invokevirtual 400, 3) := by decide +kernel
theorem d_X12_goHour_315 : decode cX12_goHour 315 = .ok (.return_, 1) := by decide +kernel
def f_X12_goHour (this : Nat) (a1 : Nat) (a2 : Int32) : sa_M Unit :=
sa_gd 12 this (
sa_bnd (sa_wrI 12 this 40 0) fun _ =>
sa_bnd (sa_wrI 12 this 41 0) fun _ =>
sa_let (0 : Int32) fun x1 =>
sa_wh1 (fun j12 (x2 : Int32) =>
sa_bnd (sa_rdI 12 this 25) fun v3 =>
if v3 ≤ x2 then
sa_let (0 : Int32) fun x4 =>
sa_wh1 (fun j112 (x5 : Int32) =>
sa_bnd (sa_ldI .int a1 75) fun v6 =>
if v6 ≤ x5 then
sa_let (0 : Int32) fun x7 =>
sa_wh1 (fun j215 (x8 : Int32) =>
sa_bnd (sa_rdI 12 this 27) fun v9 =>
if v9 ≤ x8 then
sa_bnd (sa_ldI .int a1 76) fun v10 =>
sa_bnd (sa_stI a1 76 (v10 + 1)) fun _ =>
sa_bnd (sa_ldI .int a1 76) fun v11 =>
sa_bnd (sa_md v11 6) fun v12 =>
sa_jn0 (sa_bnd (f_X12_writes this a1 a2) fun _ =>
sa_ret ()) fun j309 =>
if ¬ v12 = 0 then
j309
else
sa_let (0 : Int32) fun x13 =>
sa_wh1 (fun j255 (x14 : Int32) =>
sa_bnd (sa_ldI .int a1 75) fun v15 =>
if v15 ≤ x14 then
j309
else
sa_bnd (f_X12_lives a1 x14) fun v16 =>
sa_jn0 (sa_let ((x14 + 1) : Int32) fun x17 =>
j255 x17) fun j303 =>
if v16 = 0 then
j303
else
sa_bnd (sa_ldI .int a1 ((7 * x14) + 1)) fun v18 =>
sa_jn0 (sa_bnd (f_X12_loses this a1 x14 1 0) fun _ =>
j303) fun j295 =>
if 0 < v18 then
j295
else
sa_bnd (sa_ldI .int a1 (7 * x14)) fun v19 =>
sa_bnd (f_X12_isRoofed this v19) fun v20 =>
if ¬ v20 = 0 then
j303
else
j295) sa_F x13
else
sa_bnd (f_X12_throwsAt this a1 x8) fun _ =>
sa_let ((x8 + 1) : Int32) fun x21 =>
j215 x21) sa_F x7
else
sa_let ((7 * x5) : Int32) fun x22 =>
sa_bnd (f_X12_lives a1 x5) fun v23 =>
sa_jn0 (sa_let ((x5 + 1) : Int32) fun x24 =>
j112 x24) fun j207 =>
if v23 = 0 then
j207
else
sa_bnd (sa_ldI .int a1 (x22 + 1)) fun v25 =>
if ¬ v25 = 0 then
sa_bnd (sa_ldI .int a1 (x22 + 1)) fun v26 =>
sa_bnd (sa_stI a1 (x22 + 1) (v26 - 1)) fun _ =>
sa_bnd (sa_ldI .int a1 (x22 + 1)) fun v27 =>
if ¬ v27 = 0 then
j207
else
sa_bnd (sa_rdR 12 this 20) fun v28 =>
sa_bnd (sa_ldI .int a1 (x22 + 6)) fun v29 =>
sa_bnd (sa_ldI .int v28 ((4 * v29) + 3)) fun v30 =>
if v30 ≤ 0 then
j207
else
sa_bnd (sa_rdR 12 this 20) fun v31 =>
sa_bnd (sa_ldI .int a1 (x22 + 6)) fun v32 =>
sa_bnd (sa_ldI .int v31 ((4 * v32) + 3)) fun v33 =>
sa_bnd (f_X12_loses this a1 x5 v33 1) fun _ =>
j207
else
j207) sa_F x4
else
sa_bnd (f_X12_has a2 x2) fun v34 =>
sa_jn0 (sa_let ((x2 + 1) : Int32) fun x35 =>
j12 x35) fun j104 =>
if ¬ v34 = 0 then
sa_let (0 : Int32) fun x36 =>
sa_wh1 (fun j34 (x37 : Int32) =>
sa_bnd (sa_ldI .int a1 75) fun v38 =>
if v38 ≤ x37 then
j104
else
sa_bnd (f_X12_lives a1 x37) fun v39 =>
sa_jn0 (sa_let ((x37 + 1) : Int32) fun x40 =>
j34 x40) fun j98 =>
if v39 = 0 then
j98
else
sa_bnd (sa_ldI .int a1 (7 * x37)) fun v41 =>
if ¬ v41 = x2 then
j98
else
sa_bnd (sa_ldI .int a1 ((7 * x37) + 1)) fun v42 =>
sa_jn0 (sa_bnd (f_X12_wearOf this a1 x37) fun v43 =>
sa_bnd (f_X12_loses this a1 x37 v43 0) fun _ =>
j98) fun j83 =>
if 0 < v42 then
j83
else
sa_bnd (f_X12_isRoofed this x2) fun v44 =>
if ¬ v44 = 0 then
j98
else
j83) sa_F x36
else
j104) sa_F x1)
set_option maxHeartbeats 1000000 in
set_option maxRecDepth 10000 in
theorem b_X12_goHour {p : Program} {l : Launch} {e : Env} {s : State} {m : MethodId} {args : Array Value} {below : List Frame} {meth : Method} {c : Code} {D : va_G} {ad : Nat → Nat} {cA : FieldType → ClassId} {A : Nat → Prop} (this : Nat) (a1 : Nat) (a2 : Int32) (C : sa_C p s m args meth c cX12_goHour RX12 "goHour" 5 none D ad cA A) : sa_Sg p l e s m args below meth c 5 133 D ad cA A sa_eV 0 [(0, .ref (ad this)), (1, .ref (ad a1)), (2, .int a2)] [] (f_X12_goHour this a1 a2) := by
  unfold f_X12_goHour
  refine sa_gdI ?_
  refine sa_aload_n C d_X12_goHour_0 rfl 0 rfl ?_
  refine sa_iconst (v := 0) C d_X12_goHour_1 (by decide) ?_
  refine sa_putI C fd_X12_383 d_X12_goHour_2 ?_
  refine sa_aload_n C d_X12_goHour_5 rfl 0 rfl ?_
  refine sa_iconst (v := 0) C d_X12_goHour_6 (by decide) ?_
  refine sa_putI C fd_X12_386 d_X12_goHour_7 ?_
  refine sa_iconst (v := 0) C d_X12_goHour_10 (by decide) ?_
  refine sa_topi (fun x1 => ?_)
  refine sa_istore_n (lv' := [(3, .int x1), (0, .ref (ad this)), (1, .ref (ad a1)), (2, .int a2)]) C d_X12_goHour_11 rfl (by decide) rfl ?_
  refine sa_sub [1, 2, 3, 0] rfl (sa_loop1 (fun x2 => [(0, .ref (ad this)), (1, .ref (ad a1)), (2, .int a2), (3, .int x2)]) (fun x2 => []) (fun j12 hj12 x2 => ?_) _ _)
  refine sa_iload_n C d_X12_goHour_12 rfl 3 rfl ?_
  refine sa_aload_n C d_X12_goHour_13 rfl 0 rfl ?_
  refine sa_getI C fd_X12_331 d_X12_goHour_14 (fun v3 => ?_)
  refine sa_icmp_ge (tgt := 110) C d_X12_goHour_17 (by decide) ?_ ?_
  · refine sa_iconst (v := 0) C d_X12_goHour_110 (by decide) ?_
    refine sa_topi (fun x4 => ?_)
    refine sa_istore_n (lv' := [(3, .int x4), (0, .ref (ad this)), (1, .ref (ad a1)), (2, .int a2)]) C d_X12_goHour_111 rfl (by decide) rfl ?_
    refine sa_sub [1, 2, 3, 0] rfl (sa_loop1 (fun x5 => [(0, .ref (ad this)), (1, .ref (ad a1)), (2, .int a2), (3, .int x5)]) (fun x5 => []) (fun j112 hj112 x5 => ?_) _ _)
    refine sa_iload_n C d_X12_goHour_112 rfl 3 rfl ?_
    refine sa_aload_n C d_X12_goHour_113 rfl 1 rfl ?_
    refine sa_bipush (v := 75) C d_X12_goHour_114 (by decide) ?_
    refine sa_iald C d_X12_goHour_116 (fun v6 => ?_)
    refine sa_icmp_ge (tgt := 213) C d_X12_goHour_117 (by decide) ?_ ?_
    · refine sa_iconst (v := 0) C d_X12_goHour_213 (by decide) ?_
      refine sa_topi (fun x7 => ?_)
      refine sa_istore_n (lv' := [(3, .int x7), (0, .ref (ad this)), (1, .ref (ad a1)), (2, .int a2)]) C d_X12_goHour_214 rfl (by decide) rfl ?_
      refine sa_sub [1, 2, 3, 0] rfl (sa_loop1 (fun x8 => [(0, .ref (ad this)), (1, .ref (ad a1)), (2, .int a2), (3, .int x8)]) (fun x8 => []) (fun j215 hj215 x8 => ?_) _ _)
      refine sa_iload_n C d_X12_goHour_215 rfl 3 rfl ?_
      refine sa_aload_n C d_X12_goHour_216 rfl 0 rfl ?_
      refine sa_getI C fd_X12_337 d_X12_goHour_217 (fun v9 => ?_)
      refine sa_icmp_ge (tgt := 235) C d_X12_goHour_220 (by decide) ?_ ?_
      · refine sa_aload_n C d_X12_goHour_235 rfl 1 rfl ?_
        refine sa_bipush (v := 76) C d_X12_goHour_236 (by decide) ?_
        refine sa_dup2_11 C d_X12_goHour_238 rfl rfl ?_
        refine sa_iald C d_X12_goHour_239 (fun v10 => ?_)
        refine sa_iconst (v := 1) C d_X12_goHour_240 (by decide) ?_
        refine sa_iadd C d_X12_goHour_241 ?_
        refine sa_iast C d_X12_goHour_242 ?_
        refine sa_aload_n C d_X12_goHour_243 rfl 1 rfl ?_
        refine sa_bipush (v := 76) C d_X12_goHour_244 (by decide) ?_
        refine sa_iald C d_X12_goHour_246 (fun v11 => ?_)
        refine sa_bipush (v := 6) C d_X12_goHour_247 (by decide) ?_
        refine sa_irem C d_X12_goHour_249 (fun v12 => ?_)
        refine sa_join0 309 ([(0, .ref (ad this)), (1, .ref (ad a1)), (2, .int a2)]) ([]) (?_) (fun j309 hj309 => ?_)
        · refine sa_aload_n C d_X12_goHour_309 rfl 0 rfl ?_
          refine sa_aload_n C d_X12_goHour_310 rfl 1 rfl ?_
          refine sa_iload_n C d_X12_goHour_311 rfl 2 rfl ?_
          refine sa_invV (ci := 12) C (k_X12_writes this a1 a2) q1907 ds_X12_writes q128 rfl q1906 q87 q1904 (gd_X12_writes this a1 a2) rfl rfl rfl (Nat.le_of_ble_eq_true rfl) (by decide) (by decide) d_X12_goHour_312 (fun _ => ?_)
          exact sa_vret C d_X12_goHour_315
        refine sa_if_ne (tgt := 309) C d_X12_goHour_250 (by decide) ?_ ?_
        · exact sa_sub [0, 1, 2] rfl (hj309)
        refine sa_iconst (v := 0) C d_X12_goHour_253 (by decide) ?_
        refine sa_topi (fun x13 => ?_)
        refine sa_istore_n (lv' := [(3, .int x13), (0, .ref (ad this)), (1, .ref (ad a1)), (2, .int a2)]) C d_X12_goHour_254 rfl (by decide) rfl ?_
        refine sa_sub [1, 2, 3, 0] rfl (sa_loop1 (fun x14 => [(0, .ref (ad this)), (1, .ref (ad a1)), (2, .int a2), (3, .int x14)]) (fun x14 => []) (fun j255 hj255 x14 => ?_) _ _)
        refine sa_iload_n C d_X12_goHour_255 rfl 3 rfl ?_
        refine sa_aload_n C d_X12_goHour_256 rfl 1 rfl ?_
        refine sa_bipush (v := 75) C d_X12_goHour_257 (by decide) ?_
        refine sa_iald C d_X12_goHour_259 (fun v15 => ?_)
        refine sa_icmp_ge (tgt := 309) C d_X12_goHour_260 (by decide) ?_ ?_
        · exact sa_sub [0, 1, 2] rfl (hj309)
        refine sa_aload_n C d_X12_goHour_263 rfl 1 rfl ?_
        refine sa_iload_n C d_X12_goHour_264 rfl 3 rfl ?_
        refine sa_invS C (k_X12_lives a1 x14) q1810 ds_X12_lives q128 q1809 q1808 rfl rfl rfl (Nat.le_of_ble_eq_true rfl) (by decide) (by decide) d_X12_goHour_265 (fun v16 => ?_)
        refine sa_join0 303 ([(0, .ref (ad this)), (1, .ref (ad a1)), (2, .int a2), (3, .int x14)]) ([]) (?_) (fun j303 hj303 => ?_)
        · refine sa_iinc C (fun zz => [(3, .int zz), (0, .ref (ad this)), (1, .ref (ad a1)), (2, .int a2)]) d_X12_goHour_303 3 rfl rfl (by decide) (fun _ => rfl) (fun x17 => ?_)
          refine sa_goto (tgt := 255) C d_X12_goHour_306 (by decide) ?_
          exact sa_sub [1, 2, 3, 0] rfl (hj255 _)
        refine sa_if_eq (tgt := 303) C d_X12_goHour_268 (by decide) ?_ ?_
        · exact sa_sub [0, 1, 2, 3] rfl (hj303)
        refine sa_aload_n C d_X12_goHour_271 rfl 1 rfl ?_
        refine sa_bipush (v := 7) C d_X12_goHour_272 (by decide) ?_
        refine sa_iload_n C d_X12_goHour_274 rfl 3 rfl ?_
        refine sa_imul C d_X12_goHour_275 ?_
        refine sa_iconst (v := 1) C d_X12_goHour_276 (by decide) ?_
        refine sa_iadd C d_X12_goHour_277 ?_
        refine sa_iald C d_X12_goHour_278 (fun v18 => ?_)
        refine sa_join0 295 ([(0, .ref (ad this)), (1, .ref (ad a1)), (2, .int a2), (3, .int x14)]) ([]) (?_) (fun j295 hj295 => ?_)
        · refine sa_aload_n C d_X12_goHour_295 rfl 0 rfl ?_
          refine sa_aload_n C d_X12_goHour_296 rfl 1 rfl ?_
          refine sa_iload_n C d_X12_goHour_297 rfl 3 rfl ?_
          refine sa_iconst (v := 1) C d_X12_goHour_298 (by decide) ?_
          refine sa_iconst (v := 0) C d_X12_goHour_299 (by decide) ?_
          refine sa_invV (ci := 12) C (k_X12_loses this a1 x14 1 0) q1899 ds_X12_loses q128 rfl q1898 q85 q1896 (gd_X12_loses this a1 x14 1 0) rfl rfl rfl (Nat.le_of_ble_eq_true rfl) (by decide) (by decide) d_X12_goHour_300 (fun _ => ?_)
          exact sa_sub [0, 1, 2, 3] rfl (hj303)
        refine sa_if_gt (tgt := 295) C d_X12_goHour_279 (by decide) ?_ ?_
        · exact sa_sub [0, 1, 2, 3] rfl (hj295)
        refine sa_aload_n C d_X12_goHour_282 rfl 0 rfl ?_
        refine sa_aload_n C d_X12_goHour_283 rfl 1 rfl ?_
        refine sa_bipush (v := 7) C d_X12_goHour_284 (by decide) ?_
        refine sa_iload_n C d_X12_goHour_286 rfl 3 rfl ?_
        refine sa_imul C d_X12_goHour_287 ?_
        refine sa_iald C d_X12_goHour_288 (fun v19 => ?_)
        refine sa_invV (ci := 12) C (k_X12_isRoofed this v19) q1895 ds_X12_isRoofed q128 rfl q1894 q84 q1892 (gd_X12_isRoofed this v19) rfl rfl rfl (Nat.le_of_ble_eq_true rfl) (by decide) (by decide) d_X12_goHour_289 (fun v20 => ?_)
        refine sa_if_ne (tgt := 303) C d_X12_goHour_292 (by decide) ?_ ?_
        · exact sa_sub [0, 1, 2, 3] rfl (hj303)
        exact sa_sub [0, 1, 2, 3] rfl (hj295)
      refine sa_aload_n C d_X12_goHour_223 rfl 0 rfl ?_
      refine sa_aload_n C d_X12_goHour_224 rfl 1 rfl ?_
      refine sa_iload_n C d_X12_goHour_225 rfl 3 rfl ?_
      refine sa_invV (ci := 12) C (k_X12_throwsAt this a1 x8) q1903 ds_X12_throwsAt q128 rfl q1902 q86 q1900 (gd_X12_throwsAt this a1 x8) rfl rfl rfl (Nat.le_of_ble_eq_true rfl) (by decide) (by decide) d_X12_goHour_226 (fun _ => ?_)
      refine sa_iinc C (fun zz => [(3, .int zz), (0, .ref (ad this)), (1, .ref (ad a1)), (2, .int a2)]) d_X12_goHour_229 3 rfl rfl (by decide) (fun _ => rfl) (fun x21 => ?_)
      refine sa_goto (tgt := 215) C d_X12_goHour_232 (by decide) ?_
      exact sa_sub [1, 2, 3, 0] rfl (hj215 _)
    refine sa_bipush (v := 7) C d_X12_goHour_120 (by decide) ?_
    refine sa_iload_n C d_X12_goHour_122 rfl 3 rfl ?_
    refine sa_imul C d_X12_goHour_123 ?_
    refine sa_topi (fun x22 => ?_)
    refine sa_istore (lv' := [(4, .int x22), (0, .ref (ad this)), (1, .ref (ad a1)), (2, .int a2), (3, .int x5)]) C d_X12_goHour_124 (by decide) rfl ?_
    refine sa_aload_n C d_X12_goHour_126 rfl 2 rfl ?_
    refine sa_iload_n C d_X12_goHour_127 rfl 4 rfl ?_
    refine sa_invS C (k_X12_lives a1 x5) q1810 ds_X12_lives q128 q1809 q1808 rfl rfl rfl (Nat.le_of_ble_eq_true rfl) (by decide) (by decide) d_X12_goHour_128 (fun v23 => ?_)
    refine sa_join0 207 ([(0, .ref (ad this)), (1, .ref (ad a1)), (2, .int a2), (3, .int x5)]) ([]) (?_) (fun j207 hj207 => ?_)
    · refine sa_iinc C (fun zz => [(3, .int zz), (0, .ref (ad this)), (1, .ref (ad a1)), (2, .int a2)]) d_X12_goHour_207 3 rfl rfl (by decide) (fun _ => rfl) (fun x24 => ?_)
      refine sa_goto (tgt := 112) C d_X12_goHour_210 (by decide) ?_
      exact sa_sub [1, 2, 3, 0] rfl (hj112 _)
    refine sa_if_eq (tgt := 207) C d_X12_goHour_131 (by decide) ?_ ?_
    · exact sa_sub [1, 2, 3, 4] rfl (hj207)
    refine sa_aload_n C d_X12_goHour_134 rfl 2 rfl ?_
    refine sa_iload C d_X12_goHour_135 0 rfl ?_
    refine sa_iconst (v := 1) C d_X12_goHour_137 (by decide) ?_
    refine sa_iadd C d_X12_goHour_138 ?_
    refine sa_iald C d_X12_goHour_139 (fun v25 => ?_)
    refine sa_if_ne (tgt := 146) C d_X12_goHour_140 (by decide) ?_ ?_
    · refine sa_aload_n C d_X12_goHour_146 rfl 2 rfl ?_
      refine sa_iload C d_X12_goHour_147 0 rfl ?_
      refine sa_iconst (v := 1) C d_X12_goHour_149 (by decide) ?_
      refine sa_iadd C d_X12_goHour_150 ?_
      refine sa_dup2_11 C d_X12_goHour_151 rfl rfl ?_
      refine sa_iald C d_X12_goHour_152 (fun v26 => ?_)
      refine sa_iconst (v := 1) C d_X12_goHour_153 (by decide) ?_
      refine sa_isub C d_X12_goHour_154 ?_
      refine sa_iast C d_X12_goHour_155 ?_
      refine sa_aload_n C d_X12_goHour_156 rfl 2 rfl ?_
      refine sa_iload C d_X12_goHour_157 0 rfl ?_
      refine sa_iconst (v := 1) C d_X12_goHour_159 (by decide) ?_
      refine sa_iadd C d_X12_goHour_160 ?_
      refine sa_iald C d_X12_goHour_161 (fun v27 => ?_)
      refine sa_if_ne (tgt := 207) C d_X12_goHour_162 (by decide) ?_ ?_
      · exact sa_sub [1, 2, 3, 4] rfl (hj207)
      refine sa_aload_n C d_X12_goHour_165 rfl 1 rfl ?_
      refine sa_getR C fd_X12_43 rfl d_X12_goHour_166 (fun v28 => ?_)
      refine sa_iconst (v := 4) C d_X12_goHour_169 (by decide) ?_
      refine sa_aload_n C d_X12_goHour_170 rfl 2 rfl ?_
      refine sa_iload C d_X12_goHour_171 0 rfl ?_
      refine sa_bipush (v := 6) C d_X12_goHour_173 (by decide) ?_
      refine sa_iadd C d_X12_goHour_175 ?_
      refine sa_iald C d_X12_goHour_176 (fun v29 => ?_)
      refine sa_imul C d_X12_goHour_177 ?_
      refine sa_iconst (v := 3) C d_X12_goHour_178 (by decide) ?_
      refine sa_iadd C d_X12_goHour_179 ?_
      refine sa_iald C d_X12_goHour_180 (fun v30 => ?_)
      refine sa_if_le (tgt := 207) C d_X12_goHour_181 (by decide) ?_ ?_
      · exact sa_sub [1, 2, 3, 4] rfl (hj207)
      refine sa_aload_n C d_X12_goHour_184 rfl 1 rfl ?_
      refine sa_aload_n C d_X12_goHour_185 rfl 2 rfl ?_
      refine sa_iload_n C d_X12_goHour_186 rfl 4 rfl ?_
      refine sa_aload_n C d_X12_goHour_187 rfl 1 rfl ?_
      refine sa_getR C fd_X12_43 rfl d_X12_goHour_188 (fun v31 => ?_)
      refine sa_iconst (v := 4) C d_X12_goHour_191 (by decide) ?_
      refine sa_aload_n C d_X12_goHour_192 rfl 2 rfl ?_
      refine sa_iload C d_X12_goHour_193 0 rfl ?_
      refine sa_bipush (v := 6) C d_X12_goHour_195 (by decide) ?_
      refine sa_iadd C d_X12_goHour_197 ?_
      refine sa_iald C d_X12_goHour_198 (fun v32 => ?_)
      refine sa_imul C d_X12_goHour_199 ?_
      refine sa_iconst (v := 3) C d_X12_goHour_200 (by decide) ?_
      refine sa_iadd C d_X12_goHour_201 ?_
      refine sa_iald C d_X12_goHour_202 (fun v33 => ?_)
      refine sa_iconst (v := 1) C d_X12_goHour_203 (by decide) ?_
      refine sa_invV (ci := 12) C (k_X12_loses this a1 x5 v33 1) q1899 ds_X12_loses q128 rfl q1898 q85 q1896 (gd_X12_loses this a1 x5 v33 1) rfl rfl rfl (Nat.le_of_ble_eq_true rfl) (by decide) (by decide) d_X12_goHour_204 (fun _ => ?_)
      exact sa_sub [1, 2, 3, 4] rfl (hj207)
    refine sa_goto (tgt := 207) C d_X12_goHour_143 (by decide) ?_
    exact sa_sub [1, 2, 3, 4] rfl (hj207)
  refine sa_iload_n C d_X12_goHour_20 rfl 2 rfl ?_
  refine sa_iload_n C d_X12_goHour_21 rfl 3 rfl ?_
  refine sa_invS C (k_X12_has a2 x2) q1673 ds_X12_has q128 q1672 q1671 rfl rfl rfl (Nat.le_of_ble_eq_true rfl) (by decide) (by decide) d_X12_goHour_22 (fun v34 => ?_)
  refine sa_join0 104 ([(0, .ref (ad this)), (1, .ref (ad a1)), (2, .int a2), (3, .int x2)]) ([]) (?_) (fun j104 hj104 => ?_)
  · refine sa_iinc C (fun zz => [(3, .int zz), (0, .ref (ad this)), (1, .ref (ad a1)), (2, .int a2)]) d_X12_goHour_104 3 rfl rfl (by decide) (fun _ => rfl) (fun x35 => ?_)
    refine sa_goto (tgt := 12) C d_X12_goHour_107 (by decide) ?_
    exact sa_sub [1, 2, 3, 0] rfl (hj12 _)
  refine sa_if_ne (tgt := 31) C d_X12_goHour_25 (by decide) ?_ ?_
  · refine sa_iconst (v := 0) C d_X12_goHour_31 (by decide) ?_
    refine sa_topi (fun x36 => ?_)
    refine sa_istore (lv' := [(4, .int x36), (0, .ref (ad this)), (1, .ref (ad a1)), (2, .int a2), (3, .int x2)]) C d_X12_goHour_32 (by decide) rfl ?_
    refine sa_sub [1, 2, 3, 4, 0] rfl (sa_loop1 (fun x37 => [(0, .ref (ad this)), (1, .ref (ad a1)), (2, .int a2), (3, .int x2), (4, .int x37)]) (fun x37 => []) (fun j34 hj34 x37 => ?_) _ _)
    refine sa_iload C d_X12_goHour_34 4 rfl ?_
    refine sa_aload_n C d_X12_goHour_36 rfl 1 rfl ?_
    refine sa_bipush (v := 75) C d_X12_goHour_37 (by decide) ?_
    refine sa_iald C d_X12_goHour_39 (fun v38 => ?_)
    refine sa_icmp_ge (tgt := 104) C d_X12_goHour_40 (by decide) ?_ ?_
    · exact sa_sub [0, 1, 2, 3] rfl (hj104)
    refine sa_aload_n C d_X12_goHour_43 rfl 1 rfl ?_
    refine sa_iload C d_X12_goHour_44 4 rfl ?_
    refine sa_invS C (k_X12_lives a1 x37) q1810 ds_X12_lives q128 q1809 q1808 rfl rfl rfl (Nat.le_of_ble_eq_true rfl) (by decide) (by decide) d_X12_goHour_46 (fun v39 => ?_)
    refine sa_join0 98 ([(0, .ref (ad this)), (1, .ref (ad a1)), (2, .int a2), (3, .int x2), (4, .int x37)]) ([]) (?_) (fun j98 hj98 => ?_)
    · refine sa_iinc C (fun zz => [(4, .int zz), (0, .ref (ad this)), (1, .ref (ad a1)), (2, .int a2), (3, .int x2)]) d_X12_goHour_98 4 rfl rfl (by decide) (fun _ => rfl) (fun x40 => ?_)
      refine sa_goto (tgt := 34) C d_X12_goHour_101 (by decide) ?_
      exact sa_sub [1, 2, 3, 4, 0] rfl (hj34 _)
    refine sa_if_eq (tgt := 98) C d_X12_goHour_49 (by decide) ?_ ?_
    · exact sa_sub [0, 1, 2, 3, 4] rfl (hj98)
    refine sa_aload_n C d_X12_goHour_52 rfl 1 rfl ?_
    refine sa_bipush (v := 7) C d_X12_goHour_53 (by decide) ?_
    refine sa_iload C d_X12_goHour_55 4 rfl ?_
    refine sa_imul C d_X12_goHour_57 ?_
    refine sa_iald C d_X12_goHour_58 (fun v41 => ?_)
    refine sa_iload_n C d_X12_goHour_59 rfl 3 rfl ?_
    refine sa_icmp_ne (tgt := 98) C d_X12_goHour_60 (by decide) ?_ ?_
    · exact sa_sub [0, 1, 2, 3, 4] rfl (hj98)
    refine sa_aload_n C d_X12_goHour_63 rfl 1 rfl ?_
    refine sa_bipush (v := 7) C d_X12_goHour_64 (by decide) ?_
    refine sa_iload C d_X12_goHour_66 4 rfl ?_
    refine sa_imul C d_X12_goHour_68 ?_
    refine sa_iconst (v := 1) C d_X12_goHour_69 (by decide) ?_
    refine sa_iadd C d_X12_goHour_70 ?_
    refine sa_iald C d_X12_goHour_71 (fun v42 => ?_)
    refine sa_join0 83 ([(0, .ref (ad this)), (1, .ref (ad a1)), (2, .int a2), (3, .int x2), (4, .int x37)]) ([]) (?_) (fun j83 hj83 => ?_)
    · refine sa_aload_n C d_X12_goHour_83 rfl 0 rfl ?_
      refine sa_aload_n C d_X12_goHour_84 rfl 1 rfl ?_
      refine sa_iload C d_X12_goHour_85 4 rfl ?_
      refine sa_aload_n C d_X12_goHour_87 rfl 0 rfl ?_
      refine sa_aload_n C d_X12_goHour_88 rfl 1 rfl ?_
      refine sa_iload C d_X12_goHour_89 4 rfl ?_
      refine sa_invV (ci := 12) C (k_X12_wearOf this a1 x37) q1814 ds_X12_wearOf q128 rfl q1813 q71 q1811 (gd_X12_wearOf this a1 x37) rfl rfl rfl (Nat.le_of_ble_eq_true rfl) (by decide) (by decide) d_X12_goHour_91 (fun v43 => ?_)
      refine sa_iconst (v := 0) C d_X12_goHour_94 (by decide) ?_
      refine sa_invV (ci := 12) C (k_X12_loses this a1 x37 v43 0) q1899 ds_X12_loses q128 rfl q1898 q85 q1896 (gd_X12_loses this a1 x37 v43 0) rfl rfl rfl (Nat.le_of_ble_eq_true rfl) (by decide) (by decide) d_X12_goHour_95 (fun _ => ?_)
      exact sa_sub [0, 1, 2, 3, 4] rfl (hj98)
    refine sa_if_gt (tgt := 83) C d_X12_goHour_72 (by decide) ?_ ?_
    · exact sa_sub [0, 1, 2, 3, 4] rfl (hj83)
    refine sa_aload_n C d_X12_goHour_75 rfl 0 rfl ?_
    refine sa_iload_n C d_X12_goHour_76 rfl 3 rfl ?_
    refine sa_invV (ci := 12) C (k_X12_isRoofed this x2) q1895 ds_X12_isRoofed q128 rfl q1894 q84 q1892 (gd_X12_isRoofed this x2) rfl rfl rfl (Nat.le_of_ble_eq_true rfl) (by decide) (by decide) d_X12_goHour_77 (fun v44 => ?_)
    refine sa_if_ne (tgt := 98) C d_X12_goHour_80 (by decide) ?_ ?_
    · exact sa_sub [0, 1, 2, 3, 4] rfl (hj98)
    exact sa_sub [0, 1, 2, 3, 4] rfl (hj83)
  refine sa_goto (tgt := 104) C d_X12_goHour_28 (by decide) ?_
  exact sa_sub [0, 1, 2, 3] rfl (hj104)
theorem k_X12_goHour (this : Nat) (a1 : Nat) (a2 : Int32) : sa_Met 133 yX12_goHour cX12_goHour 5 none (fun ad => [.ref (ad this), .ref (ad a1), .int a2]) sa_eV (f_X12_goHour this a1 a2) := sa_mk (by decide) (fun ad => Nat.le_of_ble_eq_true rfl) (fun p l e s m args below meth c D ad cA A C => b_X12_goHour this a1 a2 C)
theorem gd_X12_goHour (this : Nat) (a1 : Nat) (a2 : Int32) (σ : sa_St) (r : Unit) (τ : sa_St) (h : f_X12_goHour this a1 a2 σ = some (r, τ)) : sa_sh this = some (.inl 12) := sa_gd_ok h
theorem d_X12_remember_0 : decode cX12_remember 0 = .ok (.aload_n 0, 1) := by decide +kernel
theorem d_X12_remember_1 : decode cX12_remember 1 = .ok (.getfield 346, 3) := by decide +kernel
theorem d_X12_remember_4 : decode cX12_remember 4 = .ok (.bipush 40, 2) := by decide +kernel
theorem d_X12_remember_6 : decode cX12_remember 6 = .ok (.if_icmp .ne 44, 3) := by decide +kernel
theorem d_X12_remember_9 : decode cX12_remember 9 = .ok (.iconst 0, 1) := by decide +kernel
theorem d_X12_remember_10 : decode cX12_remember 10 = .ok (.istore_n 1, 1) := by decide +kernel
theorem d_X12_remember_11 : decode cX12_remember 11 = .ok (.iload_n 1, 1) := by decide +kernel
theorem d_X12_remember_12 : decode cX12_remember 12 = .ok (.sipush 10140, 3) := by decide +kernel
theorem d_X12_remember_15 : decode cX12_remember 15 = .ok (.if_icmp .ge 25, 3) := by decide +kernel
theorem d_X12_remember_18 : decode cX12_remember 18 = .ok (.aload_n 0, 1) := by decide +kernel
theorem d_X12_remember_19 : decode cX12_remember 19 = .ok (.getfield 81, 3) := by decide +kernel
theorem d_X12_remember_22 : decode cX12_remember 22 = .ok (.iload_n 1, 1) := by decide +kernel
theorem d_X12_remember_23 : decode cX12_remember 23 = .ok (.aload_n 0, 1) := by decide +kernel
theorem d_X12_remember_24 : decode cX12_remember 24 = .ok (.getfield 81, 3) := by decide +kernel
theorem d_X12_remember_27 : decode cX12_remember 27 = .ok (.iload_n 1, 1) := by decide +kernel
theorem d_X12_remember_28 : decode cX12_remember 28 = .ok (.sipush 260, 3) := by decide +kernel
theorem d_X12_remember_31 : decode cX12_remember 31 = .ok (.iadd, 1) := by decide +kernel
theorem d_X12_remember_32 : decode cX12_remember 32 = .ok (.iaload, 1) := by decide +kernel
theorem d_X12_remember_33 : decode cX12_remember 33 = .ok (.iastore, 1) := by decide +kernel
theorem d_X12_remember_34 : decode cX12_remember 34 = .ok (.iinc 1 1, 3) := by decide +kernel
theorem d_X12_remember_37 : decode cX12_remember 37 = .ok (.goto (-26), 3) := by decide +kernel
theorem d_X12_remember_40 : decode cX12_remember 40 = .ok (.aload_n 0, 1) := by decide +kernel
theorem d_X12_remember_41 : decode cX12_remember 41 = .ok (.dup, 1) := by decide +kernel
theorem d_X12_remember_42 : decode cX12_remember 42 = .ok (.getfield 346, 3) := by decide +kernel
theorem d_X12_remember_45 : decode cX12_remember 45 = .ok (.iconst 1, 1) := by decide +kernel
theorem d_X12_remember_46 : decode cX12_remember 46 = .ok (.isub, 1) := by decide +kernel
theorem d_X12_remember_47 : decode cX12_remember 47 = .ok (.putfield 346, 3) := by decide +kernel
theorem d_X12_remember_50 : decode cX12_remember 50 = .ok (.iconst 0, 1) := by decide +kernel
theorem d_X12_remember_51 : decode cX12_remember 51 = .ok (.istore_n 1, 1) := by decide +kernel
theorem d_X12_remember_52 : decode cX12_remember 52 = .ok (.iload_n 1, 1) := by decide +kernel
theorem d_X12_remember_53 : decode cX12_remember 53 = .ok (.sipush 260, 3) := by decide +kernel
theorem d_X12_remember_56 : decode cX12_remember 56 = .ok (.if_icmp .ge 30, 3) := by decide +kernel
theorem d_X12_remember_59 : decode cX12_remember 59 = .ok (.aload_n 0, 1) := by decide +kernel
theorem d_X12_remember_60 : decode cX12_remember 60 = .ok (.getfield 81, 3) := by decide +kernel
theorem d_X12_remember_63 : decode cX12_remember 63 = .ok (.sipush 260, 3) := by decide +kernel
theorem d_X12_remember_66 : decode cX12_remember 66 = .ok (.aload_n 0, 1) := by decide +kernel
theorem d_X12_remember_67 : decode cX12_remember 67 = .ok (.getfield 346, 3) := by decide +kernel
theorem d_X12_remember_70 : decode cX12_remember 70 = .ok (.imul, 1) := by decide +kernel
theorem d_X12_remember_71 : decode cX12_remember 71 = .ok (.iload_n 1, 1) := by decide +kernel
theorem d_X12_remember_72 : decode cX12_remember 72 = .ok (.iadd, 1) := by decide +kernel
theorem d_X12_remember_73 : decode cX12_remember 73 = .ok (.aload_n 0, 1) := by decide +kernel
theorem d_X12_remember_74 : decode cX12_remember 74 = .ok (.getfield 64, 3) := by decide +kernel
theorem d_X12_remember_77 : decode cX12_remember 77 = .ok (.iload_n 1, 1) := by decide +kernel
theorem d_X12_remember_78 : decode cX12_remember 78 = .ok (.iaload, 1) := by decide +kernel
theorem d_X12_remember_79 : decode cX12_remember 79 = .ok (.iastore, 1) := by decide +kernel
theorem d_X12_remember_80 : decode cX12_remember 80 = .ok (.iinc 1 1, 3) := by decide +kernel
theorem d_X12_remember_83 : decode cX12_remember 83 = .ok (.goto (-31), 3) := by decide +kernel
theorem d_X12_remember_86 : decode cX12_remember 86 = .ok (.aload_n 0, 1) := by decide +kernel
theorem d_X12_remember_87 : decode cX12_remember 87 = .ok (.dup, 1) := by decide +kernel
theorem d_X12_remember_88 : decode cX12_remember 88 = .ok (.getfield 346, 3) := by decide +kernel
theorem d_X12_remember_91 : decode cX12_remember 91 = .ok (.iconst 1, 1) := by decide +kernel
theorem d_X12_remember_92 : decode cX12_remember 92 = .ok (.iadd, 1) := by decide +kernel
theorem d_X12_remember_93 : decode cX12_remember 93 = .ok (.putfield 346, 3) := by decide +kernel
theorem d_X12_remember_96 : decode cX12_remember 96 = .ok (.return_, 1) := by decide +kernel
def f_X12_remember (this : Nat) : sa_M Unit :=
sa_gd 12 this (
sa_bnd (sa_rdI 12 this 43) fun v1 =>
sa_jn0 (sa_let (0 : Int32) fun x2 =>
sa_wh1 (fun j52 (x3 : Int32) =>
if 260 ≤ x3 then
sa_bnd (sa_rdI 12 this 43) fun v4 =>
sa_bnd (sa_wrI 12 this 43 (v4 + 1)) fun _ =>
sa_ret ()
else
sa_bnd (sa_rdR 12 this 42) fun v5 =>
sa_bnd (sa_rdI 12 this 43) fun v6 =>
sa_bnd (sa_rdR 12 this 35) fun v7 =>
sa_bnd (sa_ldI .int v7 x3) fun v8 =>
sa_bnd (sa_stI v5 ((260 * v6) + x3) v8) fun _ =>
sa_let ((x3 + 1) : Int32) fun x9 =>
j52 x9) sa_F x2) fun j50 =>
if ¬ v1 = 40 then
j50
else
sa_let (0 : Int32) fun x10 =>
sa_wh1 (fun j11 (x11 : Int32) =>
if 10140 ≤ x11 then
sa_bnd (sa_rdI 12 this 43) fun v12 =>
sa_bnd (sa_wrI 12 this 43 (v12 - 1)) fun _ =>
j50
else
sa_bnd (sa_rdR 12 this 42) fun v13 =>
sa_bnd (sa_rdR 12 this 42) fun v14 =>
sa_bnd (sa_ldI .int v14 (x11 + 260)) fun v15 =>
sa_bnd (sa_stI v13 x11 v15) fun _ =>
sa_let ((x11 + 1) : Int32) fun x16 =>
j11 x16) sa_F x10)
set_option maxHeartbeats 1000000 in
set_option maxRecDepth 10000 in
theorem b_X12_remember {p : Program} {l : Launch} {e : Env} {s : State} {m : MethodId} {args : Array Value} {below : List Frame} {meth : Method} {c : Code} {D : va_G} {ad : Nat → Nat} {cA : FieldType → ClassId} {A : Nat → Prop} (this : Nat) (C : sa_C p s m args meth c cX12_remember RX12 "remember" 2 none D ad cA A) : sa_Sg p l e s m args below meth c 2 1 D ad cA A sa_eV 0 [(0, .ref (ad this))] [] (f_X12_remember this) := by
  unfold f_X12_remember
  refine sa_gdI ?_
  refine sa_aload_n C d_X12_remember_0 rfl 0 rfl ?_
  refine sa_getI C fd_X12_346 d_X12_remember_1 (fun v1 => ?_)
  refine sa_bipush (v := 40) C d_X12_remember_4 (by decide) ?_
  refine sa_join0 50 ([(0, .ref (ad this))]) ([]) (?_) (fun j50 hj50 => ?_)
  · refine sa_iconst (v := 0) C d_X12_remember_50 (by decide) ?_
    refine sa_topi (fun x2 => ?_)
    refine sa_istore_n (lv' := [(1, .int x2), (0, .ref (ad this))]) C d_X12_remember_51 rfl (by decide) rfl ?_
    refine sa_sub [1, 0] rfl (sa_loop1 (fun x3 => [(0, .ref (ad this)), (1, .int x3)]) (fun x3 => []) (fun j52 hj52 x3 => ?_) _ _)
    refine sa_iload_n C d_X12_remember_52 rfl 1 rfl ?_
    refine sa_sipush (v := 260) C d_X12_remember_53 (by decide) ?_
    refine sa_icmp_ge (tgt := 86) C d_X12_remember_56 (by decide) ?_ ?_
    · refine sa_aload_n C d_X12_remember_86 rfl 0 rfl ?_
      refine sa_dup C d_X12_remember_87 rfl ?_
      refine sa_getI C fd_X12_346 d_X12_remember_88 (fun v4 => ?_)
      refine sa_iconst (v := 1) C d_X12_remember_91 (by decide) ?_
      refine sa_iadd C d_X12_remember_92 ?_
      refine sa_putI C fd_X12_346 d_X12_remember_93 ?_
      exact sa_vret C d_X12_remember_96
    refine sa_aload_n C d_X12_remember_59 rfl 0 rfl ?_
    refine sa_getR C fd_X12_81 rfl d_X12_remember_60 (fun v5 => ?_)
    refine sa_sipush (v := 260) C d_X12_remember_63 (by decide) ?_
    refine sa_aload_n C d_X12_remember_66 rfl 0 rfl ?_
    refine sa_getI C fd_X12_346 d_X12_remember_67 (fun v6 => ?_)
    refine sa_imul C d_X12_remember_70 ?_
    refine sa_iload_n C d_X12_remember_71 rfl 1 rfl ?_
    refine sa_iadd C d_X12_remember_72 ?_
    refine sa_aload_n C d_X12_remember_73 rfl 0 rfl ?_
    refine sa_getR C fd_X12_64 rfl d_X12_remember_74 (fun v7 => ?_)
    refine sa_iload_n C d_X12_remember_77 rfl 1 rfl ?_
    refine sa_iald C d_X12_remember_78 (fun v8 => ?_)
    refine sa_iast C d_X12_remember_79 ?_
    refine sa_iinc C (fun zz => [(1, .int zz), (0, .ref (ad this))]) d_X12_remember_80 1 rfl rfl (by decide) (fun _ => rfl) (fun x9 => ?_)
    refine sa_goto (tgt := 52) C d_X12_remember_83 (by decide) ?_
    exact sa_sub [1, 0] rfl (hj52 _)
  refine sa_icmp_ne (tgt := 50) C d_X12_remember_6 (by decide) ?_ ?_
  · exact sa_sub [0] rfl (hj50)
  refine sa_iconst (v := 0) C d_X12_remember_9 (by decide) ?_
  refine sa_topi (fun x10 => ?_)
  refine sa_istore_n (lv' := [(1, .int x10), (0, .ref (ad this))]) C d_X12_remember_10 rfl (by decide) rfl ?_
  refine sa_sub [1, 0] rfl (sa_loop1 (fun x11 => [(0, .ref (ad this)), (1, .int x11)]) (fun x11 => []) (fun j11 hj11 x11 => ?_) _ _)
  refine sa_iload_n C d_X12_remember_11 rfl 1 rfl ?_
  refine sa_sipush (v := 10140) C d_X12_remember_12 (by decide) ?_
  refine sa_icmp_ge (tgt := 40) C d_X12_remember_15 (by decide) ?_ ?_
  · refine sa_aload_n C d_X12_remember_40 rfl 0 rfl ?_
    refine sa_dup C d_X12_remember_41 rfl ?_
    refine sa_getI C fd_X12_346 d_X12_remember_42 (fun v12 => ?_)
    refine sa_iconst (v := 1) C d_X12_remember_45 (by decide) ?_
    refine sa_isub C d_X12_remember_46 ?_
    refine sa_putI C fd_X12_346 d_X12_remember_47 ?_
    exact sa_sub [0] rfl (hj50)
  refine sa_aload_n C d_X12_remember_18 rfl 0 rfl ?_
  refine sa_getR C fd_X12_81 rfl d_X12_remember_19 (fun v13 => ?_)
  refine sa_iload_n C d_X12_remember_22 rfl 1 rfl ?_
  refine sa_aload_n C d_X12_remember_23 rfl 0 rfl ?_
  refine sa_getR C fd_X12_81 rfl d_X12_remember_24 (fun v14 => ?_)
  refine sa_iload_n C d_X12_remember_27 rfl 1 rfl ?_
  refine sa_sipush (v := 260) C d_X12_remember_28 (by decide) ?_
  refine sa_iadd C d_X12_remember_31 ?_
  refine sa_iald C d_X12_remember_32 (fun v15 => ?_)
  refine sa_iast C d_X12_remember_33 ?_
  refine sa_iinc C (fun zz => [(1, .int zz), (0, .ref (ad this))]) d_X12_remember_34 1 rfl rfl (by decide) (fun _ => rfl) (fun x16 => ?_)
  refine sa_goto (tgt := 11) C d_X12_remember_37 (by decide) ?_
  exact sa_sub [1, 0] rfl (hj11 _)
theorem k_X12_remember (this : Nat) : sa_Met 1 yX12_remember cX12_remember 2 none (fun ad => [.ref (ad this)]) sa_eV (f_X12_remember this) := sa_mk (by decide) (fun ad => Nat.le_of_ble_eq_true rfl) (fun p l e s m args below meth c D ad cA A C => b_X12_remember this C)
theorem gd_X12_remember (this : Nat) (σ : sa_St) (r : Unit) (τ : sa_St) (h : f_X12_remember this σ = some (r, τ)) : sa_sh this = some (.inl 12) := sa_gd_ok h
theorem d_X12_wayOf_0 : decode cX12_wayOf 0 = .ok (.iconst 0, 1) := by decide +kernel
theorem d_X12_wayOf_1 : decode cX12_wayOf 1 = .ok (.istore_n 3, 1) := by decide +kernel
theorem d_X12_wayOf_2 : decode cX12_wayOf 2 = .ok (.iload_n 3, 1) := by decide +kernel
theorem d_X12_wayOf_3 : decode cX12_wayOf 3 = .ok (.aload_n 0, 1) := by decide +kernel
theorem d_X12_wayOf_4 : decode cX12_wayOf 4 = .ok (.getfield 334, 3) := by decide +kernel
theorem d_X12_wayOf_7 : decode cX12_wayOf 7 = .ok (.if_icmp .ge 63, 3) := by decide +kernel
theorem d_X12_wayOf_10 : decode cX12_wayOf 10 = .ok (.aload_n 0, 1) := by decide +kernel
theorem d_X12_wayOf_11 : decode cX12_wayOf 11 = .ok (.getfield 43, 3) := by decide +kernel
theorem d_X12_wayOf_14 : decode cX12_wayOf 14 = .ok (.iconst 4, 1) := by decide +kernel
theorem d_X12_wayOf_15 : decode cX12_wayOf 15 = .ok (.iload_n 3, 1) := by decide +kernel
theorem d_X12_wayOf_16 : decode cX12_wayOf 16 = .ok (.imul, 1) := by decide +kernel
theorem d_X12_wayOf_17 : decode cX12_wayOf 17 = .ok (.iaload, 1) := by decide +kernel
theorem d_X12_wayOf_18 : decode cX12_wayOf 18 = .ok (.iload_n 1, 1) := by decide +kernel
theorem d_X12_wayOf_19 : decode cX12_wayOf 19 = .ok (.if_icmp .ne 17, 3) := by decide +kernel
theorem d_X12_wayOf_22 : decode cX12_wayOf 22 = .ok (.aload_n 0, 1) := by decide +kernel
theorem d_X12_wayOf_23 : decode cX12_wayOf 23 = .ok (.getfield 43, 3) := by decide +kernel
theorem d_X12_wayOf_26 : decode cX12_wayOf 26 = .ok (.iconst 4, 1) := by decide +kernel
theorem d_X12_wayOf_27 : decode cX12_wayOf 27 = .ok (.iload_n 3, 1) := by decide +kernel
theorem d_X12_wayOf_28 : decode cX12_wayOf 28 = .ok (.imul, 1) := by decide +kernel
theorem d_X12_wayOf_29 : decode cX12_wayOf 29 = .ok (.iconst 1, 1) := by decide +kernel
theorem d_X12_wayOf_30 : decode cX12_wayOf 30 = .ok (.iadd, 1) := by decide +kernel
theorem d_X12_wayOf_31 : decode cX12_wayOf 31 = .ok (.iaload, 1) := by decide +kernel
theorem d_X12_wayOf_32 : decode cX12_wayOf 32 = .ok (.iload_n 2, 1) := by decide +kernel
theorem d_X12_wayOf_33 : decode cX12_wayOf 33 = .ok (.if_icmp .eq 29, 3) := by decide +kernel
theorem d_X12_wayOf_36 : decode cX12_wayOf 36 = .ok (.aload_n 0, 1) := by decide +kernel
theorem d_X12_wayOf_37 : decode cX12_wayOf 37 = .ok (.getfield 43, 3) := by decide +kernel
theorem d_X12_wayOf_40 : decode cX12_wayOf 40 = .ok (.iconst 4, 1) := by decide +kernel
theorem d_X12_wayOf_41 : decode cX12_wayOf 41 = .ok (.iload_n 3, 1) := by decide +kernel
theorem d_X12_wayOf_42 : decode cX12_wayOf 42 = .ok (.imul, 1) := by decide +kernel
theorem d_X12_wayOf_43 : decode cX12_wayOf 43 = .ok (.iaload, 1) := by decide +kernel
theorem d_X12_wayOf_44 : decode cX12_wayOf 44 = .ok (.iload_n 2, 1) := by decide +kernel
theorem d_X12_wayOf_45 : decode cX12_wayOf 45 = .ok (.if_icmp .ne 19, 3) := by decide +kernel
theorem d_X12_wayOf_48 : decode cX12_wayOf 48 = .ok (.aload_n 0, 1) := by decide +kernel
theorem d_X12_wayOf_49 : decode cX12_wayOf 49 = .ok (.getfield 43, 3) := by decide +kernel
theorem d_X12_wayOf_52 : decode cX12_wayOf 52 = .ok (.iconst 4, 1) := by decide +kernel
theorem d_X12_wayOf_53 : decode cX12_wayOf 53 = .ok (.iload_n 3, 1) := by decide +kernel
theorem d_X12_wayOf_54 : decode cX12_wayOf 54 = .ok (.imul, 1) := by decide +kernel
theorem d_X12_wayOf_55 : decode cX12_wayOf 55 = .ok (.iconst 1, 1) := by decide +kernel
theorem d_X12_wayOf_56 : decode cX12_wayOf 56 = .ok (.iadd, 1) := by decide +kernel
theorem d_X12_wayOf_57 : decode cX12_wayOf 57 = .ok (.iaload, 1) := by decide +kernel
theorem d_X12_wayOf_58 : decode cX12_wayOf 58 = .ok (.iload_n 1, 1) := by decide +kernel
theorem d_X12_wayOf_59 : decode cX12_wayOf 59 = .ok (.if_icmp .ne 5, 3) := by decide +kernel
theorem d_X12_wayOf_62 : decode cX12_wayOf 62 = .ok (.iload_n 3, 1) := by decide +kernel
theorem d_X12_wayOf_63 : decode cX12_wayOf 63 = .ok (.ireturn, 1) := by decide +kernel
theorem d_X12_wayOf_64 : decode cX12_wayOf 64 = .ok (.iinc 3 1, 3) := by decide +kernel
theorem d_X12_wayOf_67 : decode cX12_wayOf 67 = .ok (.goto (-65), 3) := by decide +kernel
theorem d_X12_wayOf_70 : decode cX12_wayOf 70 = .ok (.iconst (-1), 1) := by decide +kernel
theorem d_X12_wayOf_71 : decode cX12_wayOf 71 = .ok (.ireturn, 1) := by decide +kernel
def f_X12_wayOf (this : Nat) (a1 : Int32) (a2 : Int32) : sa_M Int32 :=
sa_gd 12 this (
sa_let (0 : Int32) fun x1 =>
sa_wh1 (fun j2 (x2 : Int32) =>
sa_bnd (sa_rdI 12 this 26) fun v3 =>
if v3 ≤ x2 then
sa_ret ((-1) : Int32)
else
sa_bnd (sa_rdR 12 this 20) fun v4 =>
sa_bnd (sa_ldI .int v4 (4 * x2)) fun v5 =>
sa_jn0 (sa_ret (x2 : Int32)) fun j62 =>
sa_jn0 (sa_bnd (sa_rdR 12 this 20) fun v6 =>
sa_bnd (sa_ldI .int v6 (4 * x2)) fun v7 =>
sa_jn0 (sa_let ((x2 + 1) : Int32) fun x8 =>
j2 x8) fun j64 =>
if ¬ v7 = a2 then
j64
else
sa_bnd (sa_rdR 12 this 20) fun v9 =>
sa_bnd (sa_ldI .int v9 ((4 * x2) + 1)) fun v10 =>
if ¬ v10 = a1 then
j64
else
j62) fun j36 =>
if ¬ v5 = a1 then
j36
else
sa_bnd (sa_rdR 12 this 20) fun v11 =>
sa_bnd (sa_ldI .int v11 ((4 * x2) + 1)) fun v12 =>
if v12 = a2 then
j62
else
j36) sa_F x1)
set_option maxHeartbeats 1000000 in
set_option maxRecDepth 10000 in
theorem b_X12_wayOf {p : Program} {l : Launch} {e : Env} {s : State} {m : MethodId} {args : Array Value} {below : List Frame} {meth : Method} {c : Code} {D : va_G} {ad : Nat → Nat} {cA : FieldType → ClassId} {A : Nat → Prop} (this : Nat) (a1 : Int32) (a2 : Int32) (C : sa_C p s m args meth c cX12_wayOf RX12 "wayOf" 4 (some .int) D ad cA A) : sa_Sg p l e s m args below meth c 4 1 D ad cA A sa_eI 0 [(0, .ref (ad this)), (1, .int a1), (2, .int a2)] [] (f_X12_wayOf this a1 a2) := by
  unfold f_X12_wayOf
  refine sa_gdI ?_
  refine sa_iconst (v := 0) C d_X12_wayOf_0 (by decide) ?_
  refine sa_topi (fun x1 => ?_)
  refine sa_istore_n (lv' := [(3, .int x1), (0, .ref (ad this)), (1, .int a1), (2, .int a2)]) C d_X12_wayOf_1 rfl (by decide) rfl ?_
  refine sa_sub [1, 2, 3, 0] rfl (sa_loop1 (fun x2 => [(0, .ref (ad this)), (1, .int a1), (2, .int a2), (3, .int x2)]) (fun x2 => []) (fun j2 hj2 x2 => ?_) _ _)
  refine sa_iload_n C d_X12_wayOf_2 rfl 3 rfl ?_
  refine sa_aload_n C d_X12_wayOf_3 rfl 0 rfl ?_
  refine sa_getI C fd_X12_334 d_X12_wayOf_4 (fun v3 => ?_)
  refine sa_icmp_ge (tgt := 70) C d_X12_wayOf_7 (by decide) ?_ ?_
  · refine sa_iconst (v := (-1)) C d_X12_wayOf_70 (by decide) ?_
    exact sa_iret C d_X12_wayOf_71
  refine sa_aload_n C d_X12_wayOf_10 rfl 0 rfl ?_
  refine sa_getR C fd_X12_43 rfl d_X12_wayOf_11 (fun v4 => ?_)
  refine sa_iconst (v := 4) C d_X12_wayOf_14 (by decide) ?_
  refine sa_iload_n C d_X12_wayOf_15 rfl 3 rfl ?_
  refine sa_imul C d_X12_wayOf_16 ?_
  refine sa_iald C d_X12_wayOf_17 (fun v5 => ?_)
  refine sa_iload_n C d_X12_wayOf_18 rfl 1 rfl ?_
  refine sa_join0 62 ([(3, .int x2)]) ([]) (?_) (fun j62 hj62 => ?_)
  · refine sa_iload_n C d_X12_wayOf_62 rfl 0 rfl ?_
    exact sa_iret C d_X12_wayOf_63
  refine sa_join0 36 ([(0, .ref (ad this)), (1, .int a1), (2, .int a2), (3, .int x2)]) ([]) (?_) (fun j36 hj36 => ?_)
  · refine sa_aload_n C d_X12_wayOf_36 rfl 0 rfl ?_
    refine sa_getR C fd_X12_43 rfl d_X12_wayOf_37 (fun v6 => ?_)
    refine sa_iconst (v := 4) C d_X12_wayOf_40 (by decide) ?_
    refine sa_iload_n C d_X12_wayOf_41 rfl 3 rfl ?_
    refine sa_imul C d_X12_wayOf_42 ?_
    refine sa_iald C d_X12_wayOf_43 (fun v7 => ?_)
    refine sa_iload_n C d_X12_wayOf_44 rfl 2 rfl ?_
    refine sa_join0 64 ([(0, .ref (ad this)), (1, .int a1), (2, .int a2), (3, .int x2)]) ([]) (?_) (fun j64 hj64 => ?_)
    · refine sa_iinc C (fun zz => [(3, .int zz), (0, .ref (ad this)), (1, .int a1), (2, .int a2)]) d_X12_wayOf_64 3 rfl rfl (by decide) (fun _ => rfl) (fun x8 => ?_)
      refine sa_goto (tgt := 2) C d_X12_wayOf_67 (by decide) ?_
      exact sa_sub [1, 2, 3, 0] rfl (hj2 _)
    refine sa_icmp_ne (tgt := 64) C d_X12_wayOf_45 (by decide) ?_ ?_
    · exact sa_sub [0, 1, 2, 3] rfl (hj64)
    refine sa_aload_n C d_X12_wayOf_48 rfl 0 rfl ?_
    refine sa_getR C fd_X12_43 rfl d_X12_wayOf_49 (fun v9 => ?_)
    refine sa_iconst (v := 4) C d_X12_wayOf_52 (by decide) ?_
    refine sa_iload_n C d_X12_wayOf_53 rfl 3 rfl ?_
    refine sa_imul C d_X12_wayOf_54 ?_
    refine sa_iconst (v := 1) C d_X12_wayOf_55 (by decide) ?_
    refine sa_iadd C d_X12_wayOf_56 ?_
    refine sa_iald C d_X12_wayOf_57 (fun v10 => ?_)
    refine sa_iload_n C d_X12_wayOf_58 rfl 1 rfl ?_
    refine sa_icmp_ne (tgt := 64) C d_X12_wayOf_59 (by decide) ?_ ?_
    · exact sa_sub [0, 1, 2, 3] rfl (hj64)
    exact sa_sub [3] rfl (hj62)
  refine sa_icmp_ne (tgt := 36) C d_X12_wayOf_19 (by decide) ?_ ?_
  · exact sa_sub [0, 1, 2, 3] rfl (hj36)
  refine sa_aload_n C d_X12_wayOf_22 rfl 0 rfl ?_
  refine sa_getR C fd_X12_43 rfl d_X12_wayOf_23 (fun v11 => ?_)
  refine sa_iconst (v := 4) C d_X12_wayOf_26 (by decide) ?_
  refine sa_iload_n C d_X12_wayOf_27 rfl 3 rfl ?_
  refine sa_imul C d_X12_wayOf_28 ?_
  refine sa_iconst (v := 1) C d_X12_wayOf_29 (by decide) ?_
  refine sa_iadd C d_X12_wayOf_30 ?_
  refine sa_iald C d_X12_wayOf_31 (fun v12 => ?_)
  refine sa_iload_n C d_X12_wayOf_32 rfl 2 rfl ?_
  refine sa_icmp_eq (tgt := 62) C d_X12_wayOf_33 (by decide) ?_ ?_
  · exact sa_sub [3] rfl (hj62)
  exact sa_sub [0, 1, 2, 3] rfl (hj36)
theorem k_X12_wayOf (this : Nat) (a1 : Int32) (a2 : Int32) : sa_Met 1 yX12_wayOf cX12_wayOf 4 (some .int) (fun ad => [.ref (ad this), .int a1, .int a2]) sa_eI (f_X12_wayOf this a1 a2) := sa_mk (by decide) (fun ad => Nat.le_of_ble_eq_true rfl) (fun p l e s m args below meth c D ad cA A C => b_X12_wayOf this a1 a2 C)
theorem gd_X12_wayOf (this : Nat) (a1 : Int32) (a2 : Int32) (σ : sa_St) (r : Int32) (τ : sa_St) (h : f_X12_wayOf this a1 a2 σ = some (r, τ)) : sa_sh this = some (.inl 12) := sa_gd_ok h
theorem d_X12_canMarch_0 : decode cX12_canMarch 0 = .ok (.aload_n 1, 1) := by decide +kernel
theorem d_X12_canMarch_1 : decode cX12_canMarch 1 = .ok (.iload_n 2, 1) := by decide +kernel
theorem d_X12_canMarch_2 : decode cX12_canMarch 2 = .ok (.invokestatic 403, 3) := by decide +kernel
theorem d_X12_canMarch_5 : decode cX12_canMarch 5 = .ok (.ifCond .eq 30, 3) := by decide +kernel
theorem d_X12_canMarch_8 : decode cX12_canMarch 8 = .ok (.aload_n 0, 1) := by decide +kernel
theorem d_X12_canMarch_9 : decode cX12_canMarch 9 = .ok (.iload_n 3, 1) := by decide +kernel
theorem d_X12_canMarch_10 : decode cX12_canMarch 10 = .ok (.invokevirtual 372, 3) := by decide +kernel
theorem d_X12_canMarch_13 : decode cX12_canMarch 13 = .ok (.ifCond .eq 22, 3) := by decide +kernel
theorem d_X12_canMarch_16 : decode cX12_canMarch 16 = .ok (.aload_n 0, 1) := by decide +kernel
theorem d_X12_canMarch_17 : decode cX12_canMarch 17 = .ok (.aload_n 1, 1) := by decide +kernel
theorem d_X12_canMarch_18 : decode cX12_canMarch 18 = .ok (.bipush 7, 2) := by decide +kernel
theorem d_X12_canMarch_20 : decode cX12_canMarch 20 = .ok (.iload_n 2, 1) := by decide +kernel
theorem d_X12_canMarch_21 : decode cX12_canMarch 21 = .ok (.imul, 1) := by decide +kernel
theorem d_X12_canMarch_22 : decode cX12_canMarch 22 = .ok (.iaload, 1) := by decide +kernel
theorem d_X12_canMarch_23 : decode cX12_canMarch 23 = .ok (.iload_n 3, 1) := by decide +kernel
theorem d_X12_canMarch_24 : decode cX12_canMarch 24 = .ok (.invokevirtual 406, 3) := by decide +kernel
theorem d_X12_canMarch_27 : decode cX12_canMarch 27 = .ok (.iconst (-1), 1) := by decide +kernel
theorem d_X12_canMarch_28 : decode cX12_canMarch 28 = .ok (.if_icmp .eq 7, 3) := by decide +kernel
theorem d_X12_canMarch_31 : decode cX12_canMarch 31 = .ok (.iconst 1, 1) := by decide +kernel
theorem d_X12_canMarch_32 : decode cX12_canMarch 32 = .ok (.goto 4, 3) := by decide +kernel
theorem d_X12_canMarch_35 : decode cX12_canMarch 35 = .ok (.iconst 0, 1) := by decide +kernel
theorem d_X12_canMarch_36 : decode cX12_canMarch 36 = .ok (.ireturn, 1) := by decide +kernel
def f_X12_canMarch (this : Nat) (a1 : Nat) (a2 : Int32) (a3 : Int32) : sa_M Int32 :=
sa_gd 12 this (
sa_bnd (f_X12_isThere a1 a2) fun v1 =>
sa_jn1 (fun (y2 : Int32) =>
sa_retZ y2) fun j36 =>
sa_jn0 (j36 0) fun j35 =>
if v1 = 0 then
j35
else
sa_bnd (f_X12_isPlace this a3) fun v3 =>
if v3 = 0 then
j35
else
sa_bnd (sa_ldI .int a1 (7 * a2)) fun v4 =>
sa_bnd (f_X12_wayOf this v4 a3) fun v5 =>
if v5 = (-1) then
j35
else
j36 1)
set_option maxHeartbeats 1000000 in
set_option maxRecDepth 10000 in
theorem b_X12_canMarch {p : Program} {l : Launch} {e : Env} {s : State} {m : MethodId} {args : Array Value} {below : List Frame} {meth : Method} {c : Code} {D : va_G} {ad : Nat → Nat} {cA : FieldType → ClassId} {A : Nat → Prop} (this : Nat) (a1 : Nat) (a2 : Int32) (a3 : Int32) (C : sa_C p s m args meth c cX12_canMarch RX12 "canMarch" 4 (some .boolean) D ad cA A) : sa_Sg p l e s m args below meth c 4 3 D ad cA A sa_eI 0 [(0, .ref (ad this)), (1, .ref (ad a1)), (2, .int a2), (3, .int a3)] [] (f_X12_canMarch this a1 a2 a3) := by
  unfold f_X12_canMarch
  refine sa_gdI ?_
  refine sa_aload_n C d_X12_canMarch_0 rfl 1 rfl ?_
  refine sa_iload_n C d_X12_canMarch_1 rfl 2 rfl ?_
  refine sa_invS C (k_X12_isThere a1 a2) q1835 ds_X12_isThere q128 q1834 q1833 rfl rfl rfl (Nat.le_of_ble_eq_true rfl) (by decide) (by decide) d_X12_canMarch_2 (fun v1 => ?_)
  refine sa_join1 36 (fun y2 => []) (fun y2 => [.int y2]) (fun y2 => ?_) (fun j36 hj36 => ?_)
  · exact sa_zret C d_X12_canMarch_36
  refine sa_join0 35 ([]) ([]) (?_) (fun j35 hj35 => ?_)
  · refine sa_iconst (v := 0) C d_X12_canMarch_35 (by decide) ?_
    exact sa_sub [] rfl (hj36 _)
  refine sa_if_eq (tgt := 35) C d_X12_canMarch_5 (by decide) ?_ ?_
  · exact sa_sub [] rfl (hj35)
  refine sa_aload_n C d_X12_canMarch_8 rfl 0 rfl ?_
  refine sa_iload_n C d_X12_canMarch_9 rfl 3 rfl ?_
  refine sa_invV (ci := 12) C (k_X12_isPlace this a3) q1785 ds_X12_isPlace q128 rfl q1784 q70 q1782 (gd_X12_isPlace this a3) rfl rfl rfl (Nat.le_of_ble_eq_true rfl) (by decide) (by decide) d_X12_canMarch_10 (fun v3 => ?_)
  refine sa_if_eq (tgt := 35) C d_X12_canMarch_13 (by decide) ?_ ?_
  · exact sa_sub [] rfl (hj35)
  refine sa_aload_n C d_X12_canMarch_16 rfl 0 rfl ?_
  refine sa_aload_n C d_X12_canMarch_17 rfl 1 rfl ?_
  refine sa_bipush (v := 7) C d_X12_canMarch_18 (by decide) ?_
  refine sa_iload_n C d_X12_canMarch_20 rfl 2 rfl ?_
  refine sa_imul C d_X12_canMarch_21 ?_
  refine sa_iald C d_X12_canMarch_22 (fun v4 => ?_)
  refine sa_iload_n C d_X12_canMarch_23 rfl 3 rfl ?_
  refine sa_invV (ci := 12) C (k_X12_wayOf this v4 a3) q1839 ds_X12_wayOf q128 rfl q1838 q74 q1836 (gd_X12_wayOf this v4 a3) rfl rfl rfl (Nat.le_of_ble_eq_true rfl) (by decide) (by decide) d_X12_canMarch_24 (fun v5 => ?_)
  refine sa_iconst (v := (-1)) C d_X12_canMarch_27 (by decide) ?_
  refine sa_icmp_eq (tgt := 35) C d_X12_canMarch_28 (by decide) ?_ ?_
  · exact sa_sub [] rfl (hj35)
  refine sa_iconst (v := 1) C d_X12_canMarch_31 (by decide) ?_
  refine sa_goto (tgt := 36) C d_X12_canMarch_32 (by decide) ?_
  exact sa_sub [] rfl (hj36 _)
theorem k_X12_canMarch (this : Nat) (a1 : Nat) (a2 : Int32) (a3 : Int32) : sa_Met 3 yX12_canMarch cX12_canMarch 4 (some .boolean) (fun ad => [.ref (ad this), .ref (ad a1), .int a2, .int a3]) sa_eI (f_X12_canMarch this a1 a2 a3) := sa_mk (by decide) (fun ad => Nat.le_of_ble_eq_true rfl) (fun p l e s m args below meth c D ad cA A C => b_X12_canMarch this a1 a2 a3 C)
theorem gd_X12_canMarch (this : Nat) (a1 : Nat) (a2 : Int32) (a3 : Int32) (σ : sa_St) (r : Int32) (τ : sa_St) (h : f_X12_canMarch this a1 a2 a3 σ = some (r, τ)) : sa_sh this = some (.inl 12) := sa_gd_ok h
theorem d_X12_marches_0 : decode cX12_marches 0 = .ok (.aload_n 0, 1) := by decide +kernel
theorem d_X12_marches_1 : decode cX12_marches 1 = .ok (.aload_n 1, 1) := by decide +kernel
theorem d_X12_marches_2 : decode cX12_marches 2 = .ok (.bipush 7, 2) := by decide +kernel
theorem d_X12_marches_4 : decode cX12_marches 4 = .ok (.iload_n 2, 1) := by decide +kernel
theorem d_X12_marches_5 : decode cX12_marches 5 = .ok (.imul, 1) := by decide +kernel
theorem d_X12_marches_6 : decode cX12_marches 6 = .ok (.iaload, 1) := by decide +kernel
theorem d_X12_marches_7 : decode cX12_marches 7 = .ok (.iload_n 3, 1) := by decide +kernel
theorem d_X12_marches_8 : decode cX12_marches 8 = .ok (.invokevirtual 406, 3) := by decide +kernel
theorem d_X12_marches_11 : decode cX12_marches 11 = .ok (.istore 4, 2) := by decide +kernel
theorem d_X12_marches_13 : decode cX12_marches 13 = .ok (.aload_n 1, 1) := by decide +kernel
theorem d_X12_marches_14 : decode cX12_marches 14 = .ok (.bipush 7, 2) := by decide +kernel
theorem d_X12_marches_16 : decode cX12_marches 16 = .ok (.iload_n 2, 1) := by decide +kernel
theorem d_X12_marches_17 : decode cX12_marches 17 = .ok (.imul, 1) := by decide +kernel
theorem d_X12_marches_18 : decode cX12_marches 18 = .ok (.bipush 6, 2) := by decide +kernel
theorem d_X12_marches_20 : decode cX12_marches 20 = .ok (.iadd, 1) := by decide +kernel
theorem d_X12_marches_21 : decode cX12_marches 21 = .ok (.iload 4, 2) := by decide +kernel
theorem d_X12_marches_23 : decode cX12_marches 23 = .ok (.iastore, 1) := by decide +kernel
theorem d_X12_marches_24 : decode cX12_marches 24 = .ok (.aload_n 1, 1) := by decide +kernel
theorem d_X12_marches_25 : decode cX12_marches 25 = .ok (.bipush 7, 2) := by decide +kernel
theorem d_X12_marches_27 : decode cX12_marches 27 = .ok (.iload_n 2, 1) := by decide +kernel
theorem d_X12_marches_28 : decode cX12_marches 28 = .ok (.imul, 1) := by decide +kernel
theorem d_X12_marches_29 : decode cX12_marches 29 = .ok (.iconst 1, 1) := by decide +kernel
theorem d_X12_marches_30 : decode cX12_marches 30 = .ok (.iadd, 1) := by decide +kernel
theorem d_X12_marches_31 : decode cX12_marches 31 = .ok (.aload_n 0, 1) := by decide +kernel
theorem d_X12_marches_32 : decode cX12_marches 32 = .ok (.getfield 43, 3) := by decide +kernel
theorem d_X12_marches_35 : decode cX12_marches 35 = .ok (.iconst 4, 1) := by decide +kernel
theorem d_X12_marches_36 : decode cX12_marches 36 = .ok (.iload 4, 2) := by decide +kernel
theorem d_X12_marches_38 : decode cX12_marches 38 = .ok (.imul, 1) := by decide +kernel
theorem d_X12_marches_39 : decode cX12_marches 39 = .ok (.iconst 2, 1) := by decide +kernel
theorem d_X12_marches_40 : decode cX12_marches 40 = .ok (.iadd, 1) := by decide +kernel
theorem d_X12_marches_41 : decode cX12_marches 41 = .ok (.iaload, 1) := by decide +kernel
theorem d_X12_marches_42 : decode cX12_marches 42 = .ok (.iastore, 1) := by decide +kernel
theorem d_X12_marches_43 : decode cX12_marches 43 = .ok (.aload_n 1, 1) := by decide +kernel
theorem d_X12_marches_44 : decode cX12_marches 44 = .ok (.bipush 7, 2) := by decide +kernel
theorem d_X12_marches_46 : decode cX12_marches 46 = .ok (.iload_n 2, 1) := by decide +kernel
theorem d_X12_marches_47 : decode cX12_marches 47 = .ok (.imul, 1) := by decide +kernel
theorem d_X12_marches_48 : decode cX12_marches 48 = .ok (.iload_n 3, 1) := by decide +kernel
theorem d_X12_marches_49 : decode cX12_marches 49 = .ok (.iastore, 1) := by decide +kernel
theorem d_X12_marches_50 : decode cX12_marches 50 = .ok (.return_, 1) := by decide +kernel
def f_X12_marches (this : Nat) (a1 : Nat) (a2 : Int32) (a3 : Int32) : sa_M Unit :=
sa_gd 12 this (
sa_bnd (sa_ldI .int a1 (7 * a2)) fun v1 =>
sa_bnd (f_X12_wayOf this v1 a3) fun v2 =>
sa_bnd (sa_stI a1 ((7 * a2) + 6) v2) fun _ =>
sa_bnd (sa_rdR 12 this 20) fun v3 =>
sa_bnd (sa_ldI .int v3 ((4 * v2) + 2)) fun v4 =>
sa_bnd (sa_stI a1 ((7 * a2) + 1) v4) fun _ =>
sa_bnd (sa_stI a1 (7 * a2) a3) fun _ =>
sa_ret ())
set_option maxHeartbeats 1000000 in
set_option maxRecDepth 10000 in
theorem b_X12_marches {p : Program} {l : Launch} {e : Env} {s : State} {m : MethodId} {args : Array Value} {below : List Frame} {meth : Method} {c : Code} {D : va_G} {ad : Nat → Nat} {cA : FieldType → ClassId} {A : Nat → Prop} (this : Nat) (a1 : Nat) (a2 : Int32) (a3 : Int32) (C : sa_C p s m args meth c cX12_marches RX12 "marches" 5 none D ad cA A) : sa_Sg p l e s m args below meth c 5 2 D ad cA A sa_eV 0 [(0, .ref (ad this)), (1, .ref (ad a1)), (2, .int a2), (3, .int a3)] [] (f_X12_marches this a1 a2 a3) := by
  unfold f_X12_marches
  refine sa_gdI ?_
  refine sa_aload_n C d_X12_marches_0 rfl 0 rfl ?_
  refine sa_aload_n C d_X12_marches_1 rfl 1 rfl ?_
  refine sa_bipush (v := 7) C d_X12_marches_2 (by decide) ?_
  refine sa_iload_n C d_X12_marches_4 rfl 2 rfl ?_
  refine sa_imul C d_X12_marches_5 ?_
  refine sa_iald C d_X12_marches_6 (fun v1 => ?_)
  refine sa_iload_n C d_X12_marches_7 rfl 3 rfl ?_
  refine sa_invV (ci := 12) C (k_X12_wayOf this v1 a3) q1839 ds_X12_wayOf q128 rfl q1838 q74 q1836 (gd_X12_wayOf this v1 a3) rfl rfl rfl (Nat.le_of_ble_eq_true rfl) (by decide) (by decide) d_X12_marches_8 (fun v2 => ?_)
  refine sa_istore (lv' := [(4, .int v2), (0, .ref (ad this)), (1, .ref (ad a1)), (2, .int a2), (3, .int a3)]) C d_X12_marches_11 (by decide) rfl ?_
  refine sa_aload_n C d_X12_marches_13 rfl 2 rfl ?_
  refine sa_bipush (v := 7) C d_X12_marches_14 (by decide) ?_
  refine sa_iload_n C d_X12_marches_16 rfl 3 rfl ?_
  refine sa_imul C d_X12_marches_17 ?_
  refine sa_bipush (v := 6) C d_X12_marches_18 (by decide) ?_
  refine sa_iadd C d_X12_marches_20 ?_
  refine sa_iload C d_X12_marches_21 0 rfl ?_
  refine sa_iast C d_X12_marches_23 ?_
  refine sa_aload_n C d_X12_marches_24 rfl 2 rfl ?_
  refine sa_bipush (v := 7) C d_X12_marches_25 (by decide) ?_
  refine sa_iload_n C d_X12_marches_27 rfl 3 rfl ?_
  refine sa_imul C d_X12_marches_28 ?_
  refine sa_iconst (v := 1) C d_X12_marches_29 (by decide) ?_
  refine sa_iadd C d_X12_marches_30 ?_
  refine sa_aload_n C d_X12_marches_31 rfl 1 rfl ?_
  refine sa_getR C fd_X12_43 rfl d_X12_marches_32 (fun v3 => ?_)
  refine sa_iconst (v := 4) C d_X12_marches_35 (by decide) ?_
  refine sa_iload C d_X12_marches_36 0 rfl ?_
  refine sa_imul C d_X12_marches_38 ?_
  refine sa_iconst (v := 2) C d_X12_marches_39 (by decide) ?_
  refine sa_iadd C d_X12_marches_40 ?_
  refine sa_iald C d_X12_marches_41 (fun v4 => ?_)
  refine sa_iast C d_X12_marches_42 ?_
  refine sa_aload_n C d_X12_marches_43 rfl 2 rfl ?_
  refine sa_bipush (v := 7) C d_X12_marches_44 (by decide) ?_
  refine sa_iload_n C d_X12_marches_46 rfl 3 rfl ?_
  refine sa_imul C d_X12_marches_47 ?_
  refine sa_iload_n C d_X12_marches_48 rfl 4 rfl ?_
  refine sa_iast C d_X12_marches_49 ?_
  exact sa_vret C d_X12_marches_50
theorem k_X12_marches (this : Nat) (a1 : Nat) (a2 : Int32) (a3 : Int32) : sa_Met 2 yX12_marches cX12_marches 5 none (fun ad => [.ref (ad this), .ref (ad a1), .int a2, .int a3]) sa_eV (f_X12_marches this a1 a2 a3) := sa_mk (by decide) (fun ad => Nat.le_of_ble_eq_true rfl) (fun p l e s m args below meth c D ad cA A C => b_X12_marches this a1 a2 a3 C)
theorem gd_X12_marches (this : Nat) (a1 : Nat) (a2 : Int32) (a3 : Int32) (σ : sa_St) (r : Unit) (τ : sa_St) (h : f_X12_marches this a1 a2 a3 σ = some (r, τ)) : sa_sh this = some (.inl 12) := sa_gd_ok h
theorem d_X12_march_0 : decode cX12_march 0 = .ok (.aload_n 0, 1) := by decide +kernel
theorem d_X12_march_1 : decode cX12_march 1 = .ok (.iconst 0, 1) := by decide +kernel
theorem d_X12_march_2 : decode cX12_march 2 = .ok (.putfield 127, 3) := by decide +kernel
theorem d_X12_march_5 : decode cX12_march 5 = .ok (.aload_n 0, 1) := by decide +kernel
theorem d_X12_march_6 : decode cX12_march 6 = .ok (.aload_n 0, 1) := by decide +kernel
theorem d_X12_march_7 : decode cX12_march 7 = .ok (.getfield 64, 3) := by decide +kernel
theorem d_X12_march_10 : decode cX12_march 10 = .ok (.iload_n 1, 1) := by decide +kernel
theorem d_X12_march_11 : decode cX12_march 11 = .ok (.iload_n 2, 1) := by decide +kernel
theorem d_X12_march_12 : decode cX12_march 12 = .ok (.invokevirtual 409, 3) := by decide +kernel
theorem d_X12_march_15 : decode cX12_march 15 = .ok (.ifCond .ne 5, 3) := by decide +kernel
theorem d_X12_march_18 : decode cX12_march 18 = .ok (.iconst (-1), 1) := by decide +kernel
theorem d_X12_march_19 : decode cX12_march 19 = .ok (.ireturn, 1) := by decide +kernel
theorem d_X12_march_20 : decode cX12_march 20 = .ok (.aload_n 0, 1) := by decide +kernel
theorem d_X12_march_21 : decode cX12_march 21 = .ok (.invokevirtual 413, 3) := by decide +kernel
theorem d_X12_march_24 : decode cX12_march 24 = .ok (.aload_n 0, 1) := by decide +kernel
theorem d_X12_march_25 : decode cX12_march 25 = .ok (.aload_n 0, 1) := by decide +kernel
theorem d_X12_march_26 : decode cX12_march 26 = .ok (.getfield 64, 3) := by decide +kernel
theorem d_X12_march_29 : decode cX12_march 29 = .ok (.iload_n 1, 1) := by decide +kernel
theorem d_X12_march_30 : decode cX12_march 30 = .ok (.iload_n 2, 1) := by decide +kernel
theorem d_X12_march_31 : decode cX12_march 31 = .ok (.invokevirtual 416, 3) := by decide +kernel
theorem d_X12_march_34 : decode cX12_march 34 = .ok (.aload_n 0, 1) := by decide +kernel
theorem d_X12_march_35 : decode cX12_march 35 = .ok (.getfield 64, 3) := by decide +kernel
theorem d_X12_march_38 : decode cX12_march 38 = .ok (.bipush 7, 2) := by decide +kernel
theorem d_X12_march_40 : decode cX12_march 40 = .ok (.iload_n 1, 1) := by decide +kernel
theorem d_X12_march_41 : decode cX12_march 41 = .ok (.imul, 1) := by decide +kernel
theorem d_X12_march_42 : decode cX12_march 42 = .ok (.iconst 1, 1) := by decide +kernel
theorem d_X12_march_43 : decode cX12_march 43 = .ok (.iadd, 1) := by decide +kernel
theorem d_X12_march_44 : decode cX12_march 44 = .ok (.iaload, 1) := by decide +kernel
theorem d_X12_march_45 : decode cX12_march 45 = .ok (.ireturn, 1) := by decide +kernel
def f_X12_march (this : Nat) (a1 : Int32) (a2 : Int32) : sa_M Int32 :=
sa_gd 12 this (
sa_bnd (sa_wrI 12 this 0 0) fun _ =>
sa_bnd (sa_rdR 12 this 35) fun v1 =>
sa_bnd (f_X12_canMarch this v1 a1 a2) fun v2 =>
if ¬ v2 = 0 then
sa_bnd (f_X12_remember this) fun _ =>
sa_bnd (sa_rdR 12 this 35) fun v3 =>
sa_bnd (f_X12_marches this v3 a1 a2) fun _ =>
sa_bnd (sa_rdR 12 this 35) fun v4 =>
sa_bnd (sa_ldI .int v4 ((7 * a1) + 1)) fun v5 =>
sa_ret (v5 : Int32)
else
sa_ret ((-1) : Int32))
set_option maxHeartbeats 1000000 in
set_option maxRecDepth 10000 in
theorem b_X12_march {p : Program} {l : Launch} {e : Env} {s : State} {m : MethodId} {args : Array Value} {below : List Frame} {meth : Method} {c : Code} {D : va_G} {ad : Nat → Nat} {cA : FieldType → ClassId} {A : Nat → Prop} (this : Nat) (a1 : Int32) (a2 : Int32) (C : sa_C p s m args meth c cX12_march RX12 "march" 3 (some .int) D ad cA A) : sa_Sg p l e s m args below meth c 3 4 D ad cA A sa_eI 0 [(0, .ref (ad this)), (1, .int a1), (2, .int a2)] [] (f_X12_march this a1 a2) := by
  unfold f_X12_march
  refine sa_gdI ?_
  refine sa_aload_n C d_X12_march_0 rfl 0 rfl ?_
  refine sa_iconst (v := 0) C d_X12_march_1 (by decide) ?_
  refine sa_putI C fd_X12_127 d_X12_march_2 ?_
  refine sa_aload_n C d_X12_march_5 rfl 0 rfl ?_
  refine sa_aload_n C d_X12_march_6 rfl 0 rfl ?_
  refine sa_getR C fd_X12_64 rfl d_X12_march_7 (fun v1 => ?_)
  refine sa_iload_n C d_X12_march_10 rfl 1 rfl ?_
  refine sa_iload_n C d_X12_march_11 rfl 2 rfl ?_
  refine sa_invV (ci := 12) C (k_X12_canMarch this v1 a1 a2) q1832 ds_X12_canMarch q128 rfl q1831 q73 q1829 (gd_X12_canMarch this v1 a1 a2) rfl rfl rfl (Nat.le_of_ble_eq_true rfl) (by decide) (by decide) d_X12_march_12 (fun v2 => ?_)
  refine sa_if_ne (tgt := 20) C d_X12_march_15 (by decide) ?_ ?_
  · refine sa_aload_n C d_X12_march_20 rfl 0 rfl ?_
    refine sa_invV (ci := 12) C (k_X12_remember this) q1843 ds_X12_remember q128 rfl q1842 q75 q1840 (gd_X12_remember this) rfl rfl rfl (Nat.le_of_ble_eq_true rfl) (by decide) (by decide) d_X12_march_21 (fun _ => ?_)
    refine sa_aload_n C d_X12_march_24 rfl 0 rfl ?_
    refine sa_aload_n C d_X12_march_25 rfl 0 rfl ?_
    refine sa_getR C fd_X12_64 rfl d_X12_march_26 (fun v3 => ?_)
    refine sa_iload_n C d_X12_march_29 rfl 1 rfl ?_
    refine sa_iload_n C d_X12_march_30 rfl 2 rfl ?_
    refine sa_invV (ci := 12) C (k_X12_marches this v3 a1 a2) q1847 ds_X12_marches q128 rfl q1846 q76 q1844 (gd_X12_marches this v3 a1 a2) rfl rfl rfl (Nat.le_of_ble_eq_true rfl) (by decide) (by decide) d_X12_march_31 (fun _ => ?_)
    refine sa_aload_n C d_X12_march_34 rfl 0 rfl ?_
    refine sa_getR C fd_X12_64 rfl d_X12_march_35 (fun v4 => ?_)
    refine sa_bipush (v := 7) C d_X12_march_38 (by decide) ?_
    refine sa_iload_n C d_X12_march_40 rfl 1 rfl ?_
    refine sa_imul C d_X12_march_41 ?_
    refine sa_iconst (v := 1) C d_X12_march_42 (by decide) ?_
    refine sa_iadd C d_X12_march_43 ?_
    refine sa_iald C d_X12_march_44 (fun v5 => ?_)
    exact sa_iret C d_X12_march_45
  refine sa_iconst (v := (-1)) C d_X12_march_18 (by decide) ?_
  exact sa_iret C d_X12_march_19
theorem k_X12_march (this : Nat) (a1 : Int32) (a2 : Int32) : sa_Met 4 yX12_march cX12_march 3 (some .int) (fun ad => [.ref (ad this), .int a1, .int a2]) sa_eI (f_X12_march this a1 a2) := sa_mk (by decide) (fun ad => Nat.le_of_ble_eq_true rfl) (fun p l e s m args below meth c D ad cA A C => b_X12_march this a1 a2 C)
theorem gd_X12_march (this : Nat) (a1 : Int32) (a2 : Int32) (σ : sa_St) (r : Int32) (τ : sa_St) (h : f_X12_march this a1 a2 σ = some (r, τ)) : sa_sh this = some (.inl 12) := sa_gd_ok h
theorem d_X12_canJoin_0 : decode cX12_canJoin 0 = .ok (.iload_n 2, 1) := by decide +kernel
theorem d_X12_canJoin_1 : decode cX12_canJoin 1 = .ok (.iload_n 3, 1) := by decide +kernel
theorem d_X12_canJoin_2 : decode cX12_canJoin 2 = .ok (.if_icmp .eq 38, 3) := by decide +kernel
theorem d_X12_canJoin_5 : decode cX12_canJoin 5 = .ok (.aload_n 1, 1) := by decide +kernel
theorem d_X12_canJoin_6 : decode cX12_canJoin 6 = .ok (.iload_n 2, 1) := by decide +kernel
theorem d_X12_canJoin_7 : decode cX12_canJoin 7 = .ok (.invokestatic 403, 3) := by decide +kernel
theorem d_X12_canJoin_10 : decode cX12_canJoin 10 = .ok (.ifCond .eq 30, 3) := by decide +kernel
theorem d_X12_canJoin_13 : decode cX12_canJoin 13 = .ok (.aload_n 1, 1) := by decide +kernel
theorem d_X12_canJoin_14 : decode cX12_canJoin 14 = .ok (.iload_n 3, 1) := by decide +kernel
theorem d_X12_canJoin_15 : decode cX12_canJoin 15 = .ok (.invokestatic 403, 3) := by decide +kernel
theorem d_X12_canJoin_18 : decode cX12_canJoin 18 = .ok (.ifCond .eq 22, 3) := by decide +kernel
theorem d_X12_canJoin_21 : decode cX12_canJoin 21 = .ok (.aload_n 1, 1) := by decide +kernel
theorem d_X12_canJoin_22 : decode cX12_canJoin 22 = .ok (.bipush 7, 2) := by decide +kernel
theorem d_X12_canJoin_24 : decode cX12_canJoin 24 = .ok (.iload_n 2, 1) := by decide +kernel
theorem d_X12_canJoin_25 : decode cX12_canJoin 25 = .ok (.imul, 1) := by decide +kernel
theorem d_X12_canJoin_26 : decode cX12_canJoin 26 = .ok (.iaload, 1) := by decide +kernel
theorem d_X12_canJoin_27 : decode cX12_canJoin 27 = .ok (.aload_n 1, 1) := by decide +kernel
theorem d_X12_canJoin_28 : decode cX12_canJoin 28 = .ok (.bipush 7, 2) := by decide +kernel
theorem d_X12_canJoin_30 : decode cX12_canJoin 30 = .ok (.iload_n 3, 1) := by decide +kernel
theorem d_X12_canJoin_31 : decode cX12_canJoin 31 = .ok (.imul, 1) := by decide +kernel
theorem d_X12_canJoin_32 : decode cX12_canJoin 32 = .ok (.iaload, 1) := by decide +kernel
theorem d_X12_canJoin_33 : decode cX12_canJoin 33 = .ok (.if_icmp .ne 7, 3) := by decide +kernel
theorem d_X12_canJoin_36 : decode cX12_canJoin 36 = .ok (.iconst 1, 1) := by decide +kernel
theorem d_X12_canJoin_37 : decode cX12_canJoin 37 = .ok (.goto 4, 3) := by decide +kernel
theorem d_X12_canJoin_40 : decode cX12_canJoin 40 = .ok (.iconst 0, 1) := by decide +kernel
theorem d_X12_canJoin_41 : decode cX12_canJoin 41 = .ok (.ireturn, 1) := by decide +kernel
def f_X12_canJoin (this : Nat) (a1 : Nat) (a2 : Int32) (a3 : Int32) : sa_M Int32 :=
sa_gd 12 this (
sa_jn1 (fun (y1 : Int32) =>
sa_retZ y1) fun j41 =>
sa_jn0 (j41 0) fun j40 =>
if a2 = a3 then
j40
else
sa_bnd (f_X12_isThere a1 a2) fun v2 =>
if v2 = 0 then
j40
else
sa_bnd (f_X12_isThere a1 a3) fun v3 =>
if v3 = 0 then
j40
else
sa_bnd (sa_ldI .int a1 (7 * a2)) fun v4 =>
sa_bnd (sa_ldI .int a1 (7 * a3)) fun v5 =>
if ¬ v4 = v5 then
j40
else
j41 1)
set_option maxHeartbeats 1000000 in
set_option maxRecDepth 10000 in
theorem b_X12_canJoin {p : Program} {l : Launch} {e : Env} {s : State} {m : MethodId} {args : Array Value} {below : List Frame} {meth : Method} {c : Code} {D : va_G} {ad : Nat → Nat} {cA : FieldType → ClassId} {A : Nat → Prop} (this : Nat) (a1 : Nat) (a2 : Int32) (a3 : Int32) (C : sa_C p s m args meth c cX12_canJoin RX12 "canJoin" 4 (some .boolean) D ad cA A) : sa_Sg p l e s m args below meth c 4 3 D ad cA A sa_eI 0 [(0, .ref (ad this)), (1, .ref (ad a1)), (2, .int a2), (3, .int a3)] [] (f_X12_canJoin this a1 a2 a3) := by
  unfold f_X12_canJoin
  refine sa_gdI ?_
  refine sa_iload_n C d_X12_canJoin_0 rfl 2 rfl ?_
  refine sa_iload_n C d_X12_canJoin_1 rfl 3 rfl ?_
  refine sa_join1 41 (fun y1 => []) (fun y1 => [.int y1]) (fun y1 => ?_) (fun j41 hj41 => ?_)
  · exact sa_zret C d_X12_canJoin_41
  refine sa_join0 40 ([]) ([]) (?_) (fun j40 hj40 => ?_)
  · refine sa_iconst (v := 0) C d_X12_canJoin_40 (by decide) ?_
    exact sa_sub [] rfl (hj41 _)
  refine sa_icmp_eq (tgt := 40) C d_X12_canJoin_2 (by decide) ?_ ?_
  · exact sa_sub [] rfl (hj40)
  refine sa_aload_n C d_X12_canJoin_5 rfl 1 rfl ?_
  refine sa_iload_n C d_X12_canJoin_6 rfl 2 rfl ?_
  refine sa_invS C (k_X12_isThere a1 a2) q1835 ds_X12_isThere q128 q1834 q1833 rfl rfl rfl (Nat.le_of_ble_eq_true rfl) (by decide) (by decide) d_X12_canJoin_7 (fun v2 => ?_)
  refine sa_if_eq (tgt := 40) C d_X12_canJoin_10 (by decide) ?_ ?_
  · exact sa_sub [] rfl (hj40)
  refine sa_aload_n C d_X12_canJoin_13 rfl 1 rfl ?_
  refine sa_iload_n C d_X12_canJoin_14 rfl 3 rfl ?_
  refine sa_invS C (k_X12_isThere a1 a3) q1835 ds_X12_isThere q128 q1834 q1833 rfl rfl rfl (Nat.le_of_ble_eq_true rfl) (by decide) (by decide) d_X12_canJoin_15 (fun v3 => ?_)
  refine sa_if_eq (tgt := 40) C d_X12_canJoin_18 (by decide) ?_ ?_
  · exact sa_sub [] rfl (hj40)
  refine sa_aload_n C d_X12_canJoin_21 rfl 1 rfl ?_
  refine sa_bipush (v := 7) C d_X12_canJoin_22 (by decide) ?_
  refine sa_iload_n C d_X12_canJoin_24 rfl 2 rfl ?_
  refine sa_imul C d_X12_canJoin_25 ?_
  refine sa_iald C d_X12_canJoin_26 (fun v4 => ?_)
  refine sa_aload_n C d_X12_canJoin_27 rfl 1 rfl ?_
  refine sa_bipush (v := 7) C d_X12_canJoin_28 (by decide) ?_
  refine sa_iload_n C d_X12_canJoin_30 rfl 3 rfl ?_
  refine sa_imul C d_X12_canJoin_31 ?_
  refine sa_iald C d_X12_canJoin_32 (fun v5 => ?_)
  refine sa_icmp_ne (tgt := 40) C d_X12_canJoin_33 (by decide) ?_ ?_
  · exact sa_sub [] rfl (hj40)
  refine sa_iconst (v := 1) C d_X12_canJoin_36 (by decide) ?_
  refine sa_goto (tgt := 41) C d_X12_canJoin_37 (by decide) ?_
  exact sa_sub [] rfl (hj41 _)
theorem k_X12_canJoin (this : Nat) (a1 : Nat) (a2 : Int32) (a3 : Int32) : sa_Met 3 yX12_canJoin cX12_canJoin 4 (some .boolean) (fun ad => [.ref (ad this), .ref (ad a1), .int a2, .int a3]) sa_eI (f_X12_canJoin this a1 a2 a3) := sa_mk (by decide) (fun ad => Nat.le_of_ble_eq_true rfl) (fun p l e s m args below meth c D ad cA A C => b_X12_canJoin this a1 a2 a3 C)
theorem gd_X12_canJoin (this : Nat) (a1 : Nat) (a2 : Int32) (a3 : Int32) (σ : sa_St) (r : Int32) (τ : sa_St) (h : f_X12_canJoin this a1 a2 a3 σ = some (r, τ)) : sa_sh this = some (.inl 12) := sa_gd_ok h
theorem d_X12_joins_0 : decode cX12_joins 0 = .ok (.aload_n 1, 1) := by decide +kernel
theorem d_X12_joins_1 : decode cX12_joins 1 = .ok (.bipush 7, 2) := by decide +kernel
theorem d_X12_joins_3 : decode cX12_joins 3 = .ok (.iload_n 2, 1) := by decide +kernel
theorem d_X12_joins_4 : decode cX12_joins 4 = .ok (.imul, 1) := by decide +kernel
theorem d_X12_joins_5 : decode cX12_joins 5 = .ok (.iconst 2, 1) := by decide +kernel
theorem d_X12_joins_6 : decode cX12_joins 6 = .ok (.iadd, 1) := by decide +kernel
theorem d_X12_joins_7 : decode cX12_joins 7 = .ok (.iaload, 1) := by decide +kernel
theorem d_X12_joins_8 : decode cX12_joins 8 = .ok (.aload_n 1, 1) := by decide +kernel
theorem d_X12_joins_9 : decode cX12_joins 9 = .ok (.bipush 7, 2) := by decide +kernel
theorem d_X12_joins_11 : decode cX12_joins 11 = .ok (.iload_n 3, 1) := by decide +kernel
theorem d_X12_joins_12 : decode cX12_joins 12 = .ok (.imul, 1) := by decide +kernel
theorem d_X12_joins_13 : decode cX12_joins 13 = .ok (.iconst 2, 1) := by decide +kernel
theorem d_X12_joins_14 : decode cX12_joins 14 = .ok (.iadd, 1) := by decide +kernel
theorem d_X12_joins_15 : decode cX12_joins 15 = .ok (.iaload, 1) := by decide +kernel
theorem d_X12_joins_16 : decode cX12_joins 16 = .ok (.iadd, 1) := by decide +kernel
theorem d_X12_joins_17 : decode cX12_joins 17 = .ok (.istore 4, 2) := by decide +kernel
theorem d_X12_joins_19 : decode cX12_joins 19 = .ok (.aload_n 1, 1) := by decide +kernel
theorem d_X12_joins_20 : decode cX12_joins 20 = .ok (.bipush 7, 2) := by decide +kernel
theorem d_X12_joins_22 : decode cX12_joins 22 = .ok (.iload_n 2, 1) := by decide +kernel
theorem d_X12_joins_23 : decode cX12_joins 23 = .ok (.imul, 1) := by decide +kernel
theorem d_X12_joins_24 : decode cX12_joins 24 = .ok (.iconst 2, 1) := by decide +kernel
theorem d_X12_joins_25 : decode cX12_joins 25 = .ok (.iadd, 1) := by decide +kernel
theorem d_X12_joins_26 : decode cX12_joins 26 = .ok (.bipush 99, 2) := by decide +kernel
theorem d_X12_joins_28 : decode cX12_joins 28 = .ok (.iload 4, 2) := by decide +kernel
theorem d_X12_joins_30 : decode cX12_joins 30 = .ok (.invokestatic 356, 3) := by decide +kernel
theorem d_X12_joins_33 : decode cX12_joins 33 = .ok (.iastore, 1) := by decide +kernel
theorem d_X12_joins_34 : decode cX12_joins 34 = .ok (.aload_n 1, 1) := by decide +kernel
theorem d_X12_joins_35 : decode cX12_joins 35 = .ok (.bipush 56, 2) := by decide +kernel
theorem d_X12_joins_37 : decode cX12_joins 37 = .ok (.iconst 2, 1) := by decide +kernel
theorem d_X12_joins_38 : decode cX12_joins 38 = .ok (.aload_n 1, 1) := by decide +kernel
theorem d_X12_joins_39 : decode cX12_joins 39 = .ok (.bipush 7, 2) := by decide +kernel
theorem d_X12_joins_41 : decode cX12_joins 41 = .ok (.iload_n 2, 1) := by decide +kernel
theorem d_X12_joins_42 : decode cX12_joins 42 = .ok (.imul, 1) := by decide +kernel
theorem d_X12_joins_43 : decode cX12_joins 43 = .ok (.iaload, 1) := by decide +kernel
theorem d_X12_joins_44 : decode cX12_joins 44 = .ok (.imul, 1) := by decide +kernel
theorem d_X12_joins_45 : decode cX12_joins 45 = .ok (.iadd, 1) := by decide +kernel
theorem d_X12_joins_46 : decode cX12_joins 46 = .ok (.dup2, 1) := by decide +kernel
theorem d_X12_joins_47 : decode cX12_joins 47 = .ok (.iaload, 1) := by decide +kernel
theorem d_X12_joins_48 : decode cX12_joins 48 = .ok (.iload 4, 2) := by decide +kernel
theorem d_X12_joins_50 : decode cX12_joins 50 = .ok (.aload_n 1, 1) := by decide +kernel
theorem d_X12_joins_51 : decode cX12_joins 51 = .ok (.bipush 7, 2) := by decide +kernel
theorem d_X12_joins_53 : decode cX12_joins 53 = .ok (.iload_n 2, 1) := by decide +kernel
theorem d_X12_joins_54 : decode cX12_joins 54 = .ok (.imul, 1) := by decide +kernel
theorem d_X12_joins_55 : decode cX12_joins 55 = .ok (.iconst 2, 1) := by decide +kernel
theorem d_X12_joins_56 : decode cX12_joins 56 = .ok (.iadd, 1) := by decide +kernel
theorem d_X12_joins_57 : decode cX12_joins 57 = .ok (.iaload, 1) := by decide +kernel
theorem d_X12_joins_58 : decode cX12_joins 58 = .ok (.isub, 1) := by decide +kernel
theorem d_X12_joins_59 : decode cX12_joins 59 = .ok (.iadd, 1) := by decide +kernel
theorem d_X12_joins_60 : decode cX12_joins 60 = .ok (.iastore, 1) := by decide +kernel
theorem d_X12_joins_61 : decode cX12_joins 61 = .ok (.aload_n 1, 1) := by decide +kernel
theorem d_X12_joins_62 : decode cX12_joins 62 = .ok (.bipush 7, 2) := by decide +kernel
theorem d_X12_joins_64 : decode cX12_joins 64 = .ok (.iload_n 2, 1) := by decide +kernel
theorem d_X12_joins_65 : decode cX12_joins 65 = .ok (.imul, 1) := by decide +kernel
theorem d_X12_joins_66 : decode cX12_joins 66 = .ok (.iconst 5, 1) := by decide +kernel
theorem d_X12_joins_67 : decode cX12_joins 67 = .ok (.iadd, 1) := by decide +kernel
theorem d_X12_joins_68 : decode cX12_joins 68 = .ok (.dup2, 1) := by decide +kernel
theorem d_X12_joins_69 : decode cX12_joins 69 = .ok (.iaload, 1) := by decide +kernel
theorem d_X12_joins_70 : decode cX12_joins 70 = .ok (.aload_n 1, 1) := by decide +kernel
theorem d_X12_joins_71 : decode cX12_joins 71 = .ok (.bipush 7, 2) := by decide +kernel
theorem d_X12_joins_73 : decode cX12_joins 73 = .ok (.iload_n 3, 1) := by decide +kernel
theorem d_X12_joins_74 : decode cX12_joins 74 = .ok (.imul, 1) := by decide +kernel
theorem d_X12_joins_75 : decode cX12_joins 75 = .ok (.iconst 5, 1) := by decide +kernel
theorem d_X12_joins_76 : decode cX12_joins 76 = .ok (.iadd, 1) := by decide +kernel
theorem d_X12_joins_77 : decode cX12_joins 77 = .ok (.iaload, 1) := by decide +kernel
theorem d_X12_joins_78 : decode cX12_joins 78 = .ok (.ior, 1) := by decide +kernel
theorem d_X12_joins_79 : decode cX12_joins 79 = .ok (.iastore, 1) := by decide +kernel
theorem d_X12_joins_80 : decode cX12_joins 80 = .ok (.aload_n 1, 1) := by decide +kernel
theorem d_X12_joins_81 : decode cX12_joins 81 = .ok (.bipush 7, 2) := by decide +kernel
theorem d_X12_joins_83 : decode cX12_joins 83 = .ok (.iload_n 3, 1) := by decide +kernel
theorem d_X12_joins_84 : decode cX12_joins 84 = .ok (.imul, 1) := by decide +kernel
theorem d_X12_joins_85 : decode cX12_joins 85 = .ok (.iconst 2, 1) := by decide +kernel
theorem d_X12_joins_86 : decode cX12_joins 86 = .ok (.iadd, 1) := by decide +kernel
theorem d_X12_joins_87 : decode cX12_joins 87 = .ok (.iconst 0, 1) := by decide +kernel
theorem d_X12_joins_88 : decode cX12_joins 88 = .ok (.iastore, 1) := by decide +kernel
theorem d_X12_joins_89 : decode cX12_joins 89 = .ok (.aload_n 1, 1) := by decide +kernel
theorem d_X12_joins_90 : decode cX12_joins 90 = .ok (.bipush 7, 2) := by decide +kernel
theorem d_X12_joins_92 : decode cX12_joins 92 = .ok (.iload_n 3, 1) := by decide +kernel
theorem d_X12_joins_93 : decode cX12_joins 93 = .ok (.imul, 1) := by decide +kernel
theorem d_X12_joins_94 : decode cX12_joins 94 = .ok (.iconst 5, 1) := by decide +kernel
theorem d_X12_joins_95 : decode cX12_joins 95 = .ok (.iadd, 1) := by decide +kernel
theorem d_X12_joins_96 : decode cX12_joins 96 = .ok (.iconst 0, 1) := by decide +kernel
theorem d_X12_joins_97 : decode cX12_joins 97 = .ok (.iastore, 1) := by decide +kernel
theorem d_X12_joins_98 : decode cX12_joins 98 = .ok (.return_, 1) := by decide +kernel
def f_X12_joins (this : Nat) (a1 : Nat) (a2 : Int32) (a3 : Int32) : sa_M Unit :=
sa_gd 12 this (
sa_bnd (sa_ldI .int a1 ((7 * a2) + 2)) fun v1 =>
sa_bnd (sa_ldI .int a1 ((7 * a3) + 2)) fun v2 =>
sa_let ((v1 + v2) : Int32) fun x3 =>
sa_bnd (sa_stI a1 ((7 * a2) + 2) (sa_min 99 x3)) fun _ =>
sa_bnd (sa_ldI .int a1 (7 * a2)) fun v4 =>
sa_bnd (sa_ldI .int a1 (56 + (2 * v4))) fun v5 =>
sa_bnd (sa_ldI .int a1 ((7 * a2) + 2)) fun v6 =>
sa_bnd (sa_stI a1 (56 + (2 * v4)) (v5 + (x3 - v6))) fun _ =>
sa_bnd (sa_ldI .int a1 ((7 * a2) + 5)) fun v7 =>
sa_bnd (sa_ldI .int a1 ((7 * a3) + 5)) fun v8 =>
sa_bnd (sa_stI a1 ((7 * a2) + 5) (v7 ||| v8)) fun _ =>
sa_bnd (sa_stI a1 ((7 * a3) + 2) 0) fun _ =>
sa_bnd (sa_stI a1 ((7 * a3) + 5) 0) fun _ =>
sa_ret ())
set_option maxHeartbeats 1000000 in
set_option maxRecDepth 10000 in
theorem b_X12_joins {p : Program} {l : Launch} {e : Env} {s : State} {m : MethodId} {args : Array Value} {below : List Frame} {meth : Method} {c : Code} {D : va_G} {ad : Nat → Nat} {cA : FieldType → ClassId} {A : Nat → Prop} (this : Nat) (a1 : Nat) (a2 : Int32) (a3 : Int32) (C : sa_C p s m args meth c cX12_joins RX12 "joins" 5 none D ad cA A) : sa_Sg p l e s m args below meth c 5 1 D ad cA A sa_eV 0 [(0, .ref (ad this)), (1, .ref (ad a1)), (2, .int a2), (3, .int a3)] [] (f_X12_joins this a1 a2 a3) := by
  unfold f_X12_joins
  refine sa_gdI ?_
  refine sa_aload_n C d_X12_joins_0 rfl 1 rfl ?_
  refine sa_bipush (v := 7) C d_X12_joins_1 (by decide) ?_
  refine sa_iload_n C d_X12_joins_3 rfl 2 rfl ?_
  refine sa_imul C d_X12_joins_4 ?_
  refine sa_iconst (v := 2) C d_X12_joins_5 (by decide) ?_
  refine sa_iadd C d_X12_joins_6 ?_
  refine sa_iald C d_X12_joins_7 (fun v1 => ?_)
  refine sa_aload_n C d_X12_joins_8 rfl 1 rfl ?_
  refine sa_bipush (v := 7) C d_X12_joins_9 (by decide) ?_
  refine sa_iload_n C d_X12_joins_11 rfl 3 rfl ?_
  refine sa_imul C d_X12_joins_12 ?_
  refine sa_iconst (v := 2) C d_X12_joins_13 (by decide) ?_
  refine sa_iadd C d_X12_joins_14 ?_
  refine sa_iald C d_X12_joins_15 (fun v2 => ?_)
  refine sa_iadd C d_X12_joins_16 ?_
  refine sa_topi (fun x3 => ?_)
  refine sa_istore (lv' := [(4, .int x3), (0, .ref (ad this)), (1, .ref (ad a1)), (2, .int a2), (3, .int a3)]) C d_X12_joins_17 (by decide) rfl ?_
  refine sa_aload_n C d_X12_joins_19 rfl 2 rfl ?_
  refine sa_bipush (v := 7) C d_X12_joins_20 (by decide) ?_
  refine sa_iload_n C d_X12_joins_22 rfl 3 rfl ?_
  refine sa_imul C d_X12_joins_23 ?_
  refine sa_iconst (v := 2) C d_X12_joins_24 (by decide) ?_
  refine sa_iadd C d_X12_joins_25 ?_
  refine sa_bipush (v := 99) C d_X12_joins_26 (by decide) ?_
  refine sa_iload C d_X12_joins_28 0 rfl ?_
  refine sa_mmin C q1819 (Nat.le_of_ble_eq_true rfl) (by decide) q530 q130 q531 d_X12_joins_30 ?_
  refine sa_iast C d_X12_joins_33 ?_
  refine sa_aload_n C d_X12_joins_34 rfl 2 rfl ?_
  refine sa_bipush (v := 56) C d_X12_joins_35 (by decide) ?_
  refine sa_iconst (v := 2) C d_X12_joins_37 (by decide) ?_
  refine sa_aload_n C d_X12_joins_38 rfl 2 rfl ?_
  refine sa_bipush (v := 7) C d_X12_joins_39 (by decide) ?_
  refine sa_iload_n C d_X12_joins_41 rfl 3 rfl ?_
  refine sa_imul C d_X12_joins_42 ?_
  refine sa_iald C d_X12_joins_43 (fun v4 => ?_)
  refine sa_imul C d_X12_joins_44 ?_
  refine sa_iadd C d_X12_joins_45 ?_
  refine sa_dup2_11 C d_X12_joins_46 rfl rfl ?_
  refine sa_iald C d_X12_joins_47 (fun v5 => ?_)
  refine sa_iload C d_X12_joins_48 0 rfl ?_
  refine sa_aload_n C d_X12_joins_50 rfl 2 rfl ?_
  refine sa_bipush (v := 7) C d_X12_joins_51 (by decide) ?_
  refine sa_iload_n C d_X12_joins_53 rfl 3 rfl ?_
  refine sa_imul C d_X12_joins_54 ?_
  refine sa_iconst (v := 2) C d_X12_joins_55 (by decide) ?_
  refine sa_iadd C d_X12_joins_56 ?_
  refine sa_iald C d_X12_joins_57 (fun v6 => ?_)
  refine sa_isub C d_X12_joins_58 ?_
  refine sa_iadd C d_X12_joins_59 ?_
  refine sa_iast C d_X12_joins_60 ?_
  refine sa_aload_n C d_X12_joins_61 rfl 2 rfl ?_
  refine sa_bipush (v := 7) C d_X12_joins_62 (by decide) ?_
  refine sa_iload_n C d_X12_joins_64 rfl 3 rfl ?_
  refine sa_imul C d_X12_joins_65 ?_
  refine sa_iconst (v := 5) C d_X12_joins_66 (by decide) ?_
  refine sa_iadd C d_X12_joins_67 ?_
  refine sa_dup2_11 C d_X12_joins_68 rfl rfl ?_
  refine sa_iald C d_X12_joins_69 (fun v7 => ?_)
  refine sa_aload_n C d_X12_joins_70 rfl 2 rfl ?_
  refine sa_bipush (v := 7) C d_X12_joins_71 (by decide) ?_
  refine sa_iload_n C d_X12_joins_73 rfl 4 rfl ?_
  refine sa_imul C d_X12_joins_74 ?_
  refine sa_iconst (v := 5) C d_X12_joins_75 (by decide) ?_
  refine sa_iadd C d_X12_joins_76 ?_
  refine sa_iald C d_X12_joins_77 (fun v8 => ?_)
  refine sa_ior C d_X12_joins_78 ?_
  refine sa_iast C d_X12_joins_79 ?_
  refine sa_aload_n C d_X12_joins_80 rfl 2 rfl ?_
  refine sa_bipush (v := 7) C d_X12_joins_81 (by decide) ?_
  refine sa_iload_n C d_X12_joins_83 rfl 4 rfl ?_
  refine sa_imul C d_X12_joins_84 ?_
  refine sa_iconst (v := 2) C d_X12_joins_85 (by decide) ?_
  refine sa_iadd C d_X12_joins_86 ?_
  refine sa_iconst (v := 0) C d_X12_joins_87 (by decide) ?_
  refine sa_iast C d_X12_joins_88 ?_
  refine sa_aload_n C d_X12_joins_89 rfl 2 rfl ?_
  refine sa_bipush (v := 7) C d_X12_joins_90 (by decide) ?_
  refine sa_iload_n C d_X12_joins_92 rfl 4 rfl ?_
  refine sa_imul C d_X12_joins_93 ?_
  refine sa_iconst (v := 5) C d_X12_joins_94 (by decide) ?_
  refine sa_iadd C d_X12_joins_95 ?_
  refine sa_iconst (v := 0) C d_X12_joins_96 (by decide) ?_
  refine sa_iast C d_X12_joins_97 ?_
  exact sa_vret C d_X12_joins_98
theorem k_X12_joins (this : Nat) (a1 : Nat) (a2 : Int32) (a3 : Int32) : sa_Met 1 yX12_joins cX12_joins 5 none (fun ad => [.ref (ad this), .ref (ad a1), .int a2, .int a3]) sa_eV (f_X12_joins this a1 a2 a3) := sa_mk (by decide) (fun ad => Nat.le_of_ble_eq_true rfl) (fun p l e s m args below meth c D ad cA A C => b_X12_joins this a1 a2 a3 C)
theorem gd_X12_joins (this : Nat) (a1 : Nat) (a2 : Int32) (a3 : Int32) (σ : sa_St) (r : Unit) (τ : sa_St) (h : f_X12_joins this a1 a2 a3 σ = some (r, τ)) : sa_sh this = some (.inl 12) := sa_gd_ok h
theorem d_X12_join_0 : decode cX12_join 0 = .ok (.aload_n 0, 1) := by decide +kernel
theorem d_X12_join_1 : decode cX12_join 1 = .ok (.iconst 0, 1) := by decide +kernel
theorem d_X12_join_2 : decode cX12_join 2 = .ok (.putfield 127, 3) := by decide +kernel
theorem d_X12_join_5 : decode cX12_join 5 = .ok (.aload_n 0, 1) := by decide +kernel
theorem d_X12_join_6 : decode cX12_join 6 = .ok (.aload_n 0, 1) := by decide +kernel
theorem d_X12_join_7 : decode cX12_join 7 = .ok (.getfield 64, 3) := by decide +kernel
theorem d_X12_join_10 : decode cX12_join 10 = .ok (.iload_n 1, 1) := by decide +kernel
theorem d_X12_join_11 : decode cX12_join 11 = .ok (.iload_n 2, 1) := by decide +kernel
theorem d_X12_join_12 : decode cX12_join 12 = .ok (.invokevirtual 420, 3) := by decide +kernel
theorem d_X12_join_15 : decode cX12_join 15 = .ok (.ifCond .ne 5, 3) := by decide +kernel
theorem d_X12_join_18 : decode cX12_join 18 = .ok (.iconst (-1), 1) := by decide +kernel
theorem d_X12_join_19 : decode cX12_join 19 = .ok (.ireturn, 1) := by decide +kernel
theorem d_X12_join_20 : decode cX12_join 20 = .ok (.aload_n 0, 1) := by decide +kernel
theorem d_X12_join_21 : decode cX12_join 21 = .ok (.invokevirtual 413, 3) := by decide +kernel
theorem d_X12_join_24 : decode cX12_join 24 = .ok (.aload_n 0, 1) := by decide +kernel
theorem d_X12_join_25 : decode cX12_join 25 = .ok (.aload_n 0, 1) := by decide +kernel
theorem d_X12_join_26 : decode cX12_join 26 = .ok (.getfield 64, 3) := by decide +kernel
theorem d_X12_join_29 : decode cX12_join 29 = .ok (.iload_n 1, 1) := by decide +kernel
theorem d_X12_join_30 : decode cX12_join 30 = .ok (.iload_n 2, 1) := by decide +kernel
theorem d_X12_join_31 : decode cX12_join 31 = .ok (.invokevirtual 423, 3) := by decide +kernel
theorem d_X12_join_34 : decode cX12_join 34 = .ok (.aload_n 0, 1) := by decide +kernel
theorem d_X12_join_35 : decode cX12_join 35 = .ok (.getfield 64, 3) := by decide +kernel
theorem d_X12_join_38 : decode cX12_join 38 = .ok (.bipush 7, 2) := by decide +kernel
theorem d_X12_join_40 : decode cX12_join 40 = .ok (.iload_n 1, 1) := by decide +kernel
theorem d_X12_join_41 : decode cX12_join 41 = .ok (.imul, 1) := by decide +kernel
theorem d_X12_join_42 : decode cX12_join 42 = .ok (.iconst 2, 1) := by decide +kernel
theorem d_X12_join_43 : decode cX12_join 43 = .ok (.iadd, 1) := by decide +kernel
theorem d_X12_join_44 : decode cX12_join 44 = .ok (.iaload, 1) := by decide +kernel
theorem d_X12_join_45 : decode cX12_join 45 = .ok (.ireturn, 1) := by decide +kernel
def f_X12_join (this : Nat) (a1 : Int32) (a2 : Int32) : sa_M Int32 :=
sa_gd 12 this (
sa_bnd (sa_wrI 12 this 0 0) fun _ =>
sa_bnd (sa_rdR 12 this 35) fun v1 =>
sa_bnd (f_X12_canJoin this v1 a1 a2) fun v2 =>
if ¬ v2 = 0 then
sa_bnd (f_X12_remember this) fun _ =>
sa_bnd (sa_rdR 12 this 35) fun v3 =>
sa_bnd (f_X12_joins this v3 a1 a2) fun _ =>
sa_bnd (sa_rdR 12 this 35) fun v4 =>
sa_bnd (sa_ldI .int v4 ((7 * a1) + 2)) fun v5 =>
sa_ret (v5 : Int32)
else
sa_ret ((-1) : Int32))
set_option maxHeartbeats 1000000 in
set_option maxRecDepth 10000 in
theorem b_X12_join {p : Program} {l : Launch} {e : Env} {s : State} {m : MethodId} {args : Array Value} {below : List Frame} {meth : Method} {c : Code} {D : va_G} {ad : Nat → Nat} {cA : FieldType → ClassId} {A : Nat → Prop} (this : Nat) (a1 : Int32) (a2 : Int32) (C : sa_C p s m args meth c cX12_join RX12 "join" 3 (some .int) D ad cA A) : sa_Sg p l e s m args below meth c 3 4 D ad cA A sa_eI 0 [(0, .ref (ad this)), (1, .int a1), (2, .int a2)] [] (f_X12_join this a1 a2) := by
  unfold f_X12_join
  refine sa_gdI ?_
  refine sa_aload_n C d_X12_join_0 rfl 0 rfl ?_
  refine sa_iconst (v := 0) C d_X12_join_1 (by decide) ?_
  refine sa_putI C fd_X12_127 d_X12_join_2 ?_
  refine sa_aload_n C d_X12_join_5 rfl 0 rfl ?_
  refine sa_aload_n C d_X12_join_6 rfl 0 rfl ?_
  refine sa_getR C fd_X12_64 rfl d_X12_join_7 (fun v1 => ?_)
  refine sa_iload_n C d_X12_join_10 rfl 1 rfl ?_
  refine sa_iload_n C d_X12_join_11 rfl 2 rfl ?_
  refine sa_invV (ci := 12) C (k_X12_canJoin this v1 a1 a2) q1855 ds_X12_canJoin q128 rfl q1854 q77 q1852 (gd_X12_canJoin this v1 a1 a2) rfl rfl rfl (Nat.le_of_ble_eq_true rfl) (by decide) (by decide) d_X12_join_12 (fun v2 => ?_)
  refine sa_if_ne (tgt := 20) C d_X12_join_15 (by decide) ?_ ?_
  · refine sa_aload_n C d_X12_join_20 rfl 0 rfl ?_
    refine sa_invV (ci := 12) C (k_X12_remember this) q1843 ds_X12_remember q128 rfl q1842 q75 q1840 (gd_X12_remember this) rfl rfl rfl (Nat.le_of_ble_eq_true rfl) (by decide) (by decide) d_X12_join_21 (fun _ => ?_)
    refine sa_aload_n C d_X12_join_24 rfl 0 rfl ?_
    refine sa_aload_n C d_X12_join_25 rfl 0 rfl ?_
    refine sa_getR C fd_X12_64 rfl d_X12_join_26 (fun v3 => ?_)
    refine sa_iload_n C d_X12_join_29 rfl 1 rfl ?_
    refine sa_iload_n C d_X12_join_30 rfl 2 rfl ?_
    refine sa_invV (ci := 12) C (k_X12_joins this v3 a1 a2) q1859 ds_X12_joins q128 rfl q1858 q78 q1856 (gd_X12_joins this v3 a1 a2) rfl rfl rfl (Nat.le_of_ble_eq_true rfl) (by decide) (by decide) d_X12_join_31 (fun _ => ?_)
    refine sa_aload_n C d_X12_join_34 rfl 0 rfl ?_
    refine sa_getR C fd_X12_64 rfl d_X12_join_35 (fun v4 => ?_)
    refine sa_bipush (v := 7) C d_X12_join_38 (by decide) ?_
    refine sa_iload_n C d_X12_join_40 rfl 1 rfl ?_
    refine sa_imul C d_X12_join_41 ?_
    refine sa_iconst (v := 2) C d_X12_join_42 (by decide) ?_
    refine sa_iadd C d_X12_join_43 ?_
    refine sa_iald C d_X12_join_44 (fun v5 => ?_)
    exact sa_iret C d_X12_join_45
  refine sa_iconst (v := (-1)) C d_X12_join_18 (by decide) ?_
  exact sa_iret C d_X12_join_19
theorem k_X12_join (this : Nat) (a1 : Int32) (a2 : Int32) : sa_Met 4 yX12_join cX12_join 3 (some .int) (fun ad => [.ref (ad this), .int a1, .int a2]) sa_eI (f_X12_join this a1 a2) := sa_mk (by decide) (fun ad => Nat.le_of_ble_eq_true rfl) (fun p l e s m args below meth c D ad cA A C => b_X12_join this a1 a2 C)
theorem gd_X12_join (this : Nat) (a1 : Int32) (a2 : Int32) (σ : sa_St) (r : Int32) (τ : sa_St) (h : f_X12_join this a1 a2 σ = some (r, τ)) : sa_sh this = some (.inl 12) := sa_gd_ok h
theorem d_X12_canDig_0 : decode cX12_canDig 0 = .ok (.aload_n 1, 1) := by decide +kernel
theorem d_X12_canDig_1 : decode cX12_canDig 1 = .ok (.iload_n 2, 1) := by decide +kernel
theorem d_X12_canDig_2 : decode cX12_canDig 2 = .ok (.invokestatic 403, 3) := by decide +kernel
theorem d_X12_canDig_5 : decode cX12_canDig 5 = .ok (.ifCond .eq 38, 3) := by decide +kernel
theorem d_X12_canDig_8 : decode cX12_canDig 8 = .ok (.aload_n 0, 1) := by decide +kernel
theorem d_X12_canDig_9 : decode cX12_canDig 9 = .ok (.getfield 37, 3) := by decide +kernel
theorem d_X12_canDig_12 : decode cX12_canDig 12 = .ok (.iconst 4, 1) := by decide +kernel
theorem d_X12_canDig_13 : decode cX12_canDig 13 = .ok (.aload_n 1, 1) := by decide +kernel
theorem d_X12_canDig_14 : decode cX12_canDig 14 = .ok (.bipush 7, 2) := by decide +kernel
theorem d_X12_canDig_16 : decode cX12_canDig 16 = .ok (.iload_n 2, 1) := by decide +kernel
theorem d_X12_canDig_17 : decode cX12_canDig 17 = .ok (.imul, 1) := by decide +kernel
theorem d_X12_canDig_18 : decode cX12_canDig 18 = .ok (.iaload, 1) := by decide +kernel
theorem d_X12_canDig_19 : decode cX12_canDig 19 = .ok (.imul, 1) := by decide +kernel
theorem d_X12_canDig_20 : decode cX12_canDig 20 = .ok (.iconst 3, 1) := by decide +kernel
theorem d_X12_canDig_21 : decode cX12_canDig 21 = .ok (.iadd, 1) := by decide +kernel
theorem d_X12_canDig_22 : decode cX12_canDig 22 = .ok (.iaload, 1) := by decide +kernel
theorem d_X12_canDig_23 : decode cX12_canDig 23 = .ok (.ifCond .le 20, 3) := by decide +kernel
theorem d_X12_canDig_26 : decode cX12_canDig 26 = .ok (.aload_n 1, 1) := by decide +kernel
theorem d_X12_canDig_27 : decode cX12_canDig 27 = .ok (.bipush 7, 2) := by decide +kernel
theorem d_X12_canDig_29 : decode cX12_canDig 29 = .ok (.iload_n 2, 1) := by decide +kernel
theorem d_X12_canDig_30 : decode cX12_canDig 30 = .ok (.imul, 1) := by decide +kernel
theorem d_X12_canDig_31 : decode cX12_canDig 31 = .ok (.iconst 2, 1) := by decide +kernel
theorem d_X12_canDig_32 : decode cX12_canDig 32 = .ok (.iadd, 1) := by decide +kernel
theorem d_X12_canDig_33 : decode cX12_canDig 33 = .ok (.iaload, 1) := by decide +kernel
theorem d_X12_canDig_34 : decode cX12_canDig 34 = .ok (.bipush 99, 2) := by decide +kernel
theorem d_X12_canDig_36 : decode cX12_canDig 36 = .ok (.if_icmp .ge 7, 3) := by decide +kernel
theorem d_X12_canDig_39 : decode cX12_canDig 39 = .ok (.iconst 1, 1) := by decide +kernel
theorem d_X12_canDig_40 : decode cX12_canDig 40 = .ok (.goto 4, 3) := by decide +kernel
theorem d_X12_canDig_43 : decode cX12_canDig 43 = .ok (.iconst 0, 1) := by decide +kernel
theorem d_X12_canDig_44 : decode cX12_canDig 44 = .ok (.ireturn, 1) := by decide +kernel
def f_X12_canDig (this : Nat) (a1 : Nat) (a2 : Int32) : sa_M Int32 :=
sa_gd 12 this (
sa_bnd (f_X12_isThere a1 a2) fun v1 =>
sa_jn1 (fun (y2 : Int32) =>
sa_retZ y2) fun j44 =>
sa_jn0 (j44 0) fun j43 =>
if v1 = 0 then
j43
else
sa_bnd (sa_rdR 12 this 18) fun v3 =>
sa_bnd (sa_ldI .int a1 (7 * a2)) fun v4 =>
sa_bnd (sa_ldI .int v3 ((4 * v4) + 3)) fun v5 =>
if v5 ≤ 0 then
j43
else
sa_bnd (sa_ldI .int a1 ((7 * a2) + 2)) fun v6 =>
if 99 ≤ v6 then
j43
else
j44 1)
set_option maxHeartbeats 1000000 in
set_option maxRecDepth 10000 in
theorem b_X12_canDig {p : Program} {l : Launch} {e : Env} {s : State} {m : MethodId} {args : Array Value} {below : List Frame} {meth : Method} {c : Code} {D : va_G} {ad : Nat → Nat} {cA : FieldType → ClassId} {A : Nat → Prop} (this : Nat) (a1 : Nat) (a2 : Int32) (C : sa_C p s m args meth c cX12_canDig RX12 "canDig" 3 (some .boolean) D ad cA A) : sa_Sg p l e s m args below meth c 3 3 D ad cA A sa_eI 0 [(0, .ref (ad this)), (1, .ref (ad a1)), (2, .int a2)] [] (f_X12_canDig this a1 a2) := by
  unfold f_X12_canDig
  refine sa_gdI ?_
  refine sa_aload_n C d_X12_canDig_0 rfl 1 rfl ?_
  refine sa_iload_n C d_X12_canDig_1 rfl 2 rfl ?_
  refine sa_invS C (k_X12_isThere a1 a2) q1835 ds_X12_isThere q128 q1834 q1833 rfl rfl rfl (Nat.le_of_ble_eq_true rfl) (by decide) (by decide) d_X12_canDig_2 (fun v1 => ?_)
  refine sa_join1 44 (fun y2 => []) (fun y2 => [.int y2]) (fun y2 => ?_) (fun j44 hj44 => ?_)
  · exact sa_zret C d_X12_canDig_44
  refine sa_join0 43 ([]) ([]) (?_) (fun j43 hj43 => ?_)
  · refine sa_iconst (v := 0) C d_X12_canDig_43 (by decide) ?_
    exact sa_sub [] rfl (hj44 _)
  refine sa_if_eq (tgt := 43) C d_X12_canDig_5 (by decide) ?_ ?_
  · exact sa_sub [] rfl (hj43)
  refine sa_aload_n C d_X12_canDig_8 rfl 0 rfl ?_
  refine sa_getR C fd_X12_37 rfl d_X12_canDig_9 (fun v3 => ?_)
  refine sa_iconst (v := 4) C d_X12_canDig_12 (by decide) ?_
  refine sa_aload_n C d_X12_canDig_13 rfl 1 rfl ?_
  refine sa_bipush (v := 7) C d_X12_canDig_14 (by decide) ?_
  refine sa_iload_n C d_X12_canDig_16 rfl 2 rfl ?_
  refine sa_imul C d_X12_canDig_17 ?_
  refine sa_iald C d_X12_canDig_18 (fun v4 => ?_)
  refine sa_imul C d_X12_canDig_19 ?_
  refine sa_iconst (v := 3) C d_X12_canDig_20 (by decide) ?_
  refine sa_iadd C d_X12_canDig_21 ?_
  refine sa_iald C d_X12_canDig_22 (fun v5 => ?_)
  refine sa_if_le (tgt := 43) C d_X12_canDig_23 (by decide) ?_ ?_
  · exact sa_sub [] rfl (hj43)
  refine sa_aload_n C d_X12_canDig_26 rfl 1 rfl ?_
  refine sa_bipush (v := 7) C d_X12_canDig_27 (by decide) ?_
  refine sa_iload_n C d_X12_canDig_29 rfl 2 rfl ?_
  refine sa_imul C d_X12_canDig_30 ?_
  refine sa_iconst (v := 2) C d_X12_canDig_31 (by decide) ?_
  refine sa_iadd C d_X12_canDig_32 ?_
  refine sa_iald C d_X12_canDig_33 (fun v6 => ?_)
  refine sa_bipush (v := 99) C d_X12_canDig_34 (by decide) ?_
  refine sa_icmp_ge (tgt := 43) C d_X12_canDig_36 (by decide) ?_ ?_
  · exact sa_sub [] rfl (hj43)
  refine sa_iconst (v := 1) C d_X12_canDig_39 (by decide) ?_
  refine sa_goto (tgt := 44) C d_X12_canDig_40 (by decide) ?_
  exact sa_sub [] rfl (hj44 _)
theorem k_X12_canDig (this : Nat) (a1 : Nat) (a2 : Int32) : sa_Met 3 yX12_canDig cX12_canDig 3 (some .boolean) (fun ad => [.ref (ad this), .ref (ad a1), .int a2]) sa_eI (f_X12_canDig this a1 a2) := sa_mk (by decide) (fun ad => Nat.le_of_ble_eq_true rfl) (fun p l e s m args below meth c D ad cA A C => b_X12_canDig this a1 a2 C)
theorem gd_X12_canDig (this : Nat) (a1 : Nat) (a2 : Int32) (σ : sa_St) (r : Int32) (τ : sa_St) (h : f_X12_canDig this a1 a2 σ = some (r, τ)) : sa_sh this = some (.inl 12) := sa_gd_ok h
theorem d_X12_digs_0 : decode cX12_digs 0 = .ok (.aload_n 0, 1) := by decide +kernel
theorem d_X12_digs_1 : decode cX12_digs 1 = .ok (.getfield 37, 3) := by decide +kernel
theorem d_X12_digs_4 : decode cX12_digs 4 = .ok (.iconst 4, 1) := by decide +kernel
theorem d_X12_digs_5 : decode cX12_digs 5 = .ok (.aload_n 1, 1) := by decide +kernel
theorem d_X12_digs_6 : decode cX12_digs 6 = .ok (.bipush 7, 2) := by decide +kernel
theorem d_X12_digs_8 : decode cX12_digs 8 = .ok (.iload_n 2, 1) := by decide +kernel
theorem d_X12_digs_9 : decode cX12_digs 9 = .ok (.imul, 1) := by decide +kernel
theorem d_X12_digs_10 : decode cX12_digs 10 = .ok (.iaload, 1) := by decide +kernel
theorem d_X12_digs_11 : decode cX12_digs 11 = .ok (.imul, 1) := by decide +kernel
theorem d_X12_digs_12 : decode cX12_digs 12 = .ok (.iconst 3, 1) := by decide +kernel
theorem d_X12_digs_13 : decode cX12_digs 13 = .ok (.iadd, 1) := by decide +kernel
theorem d_X12_digs_14 : decode cX12_digs 14 = .ok (.iaload, 1) := by decide +kernel
theorem d_X12_digs_15 : decode cX12_digs 15 = .ok (.bipush 99, 2) := by decide +kernel
theorem d_X12_digs_17 : decode cX12_digs 17 = .ok (.aload_n 1, 1) := by decide +kernel
theorem d_X12_digs_18 : decode cX12_digs 18 = .ok (.bipush 7, 2) := by decide +kernel
theorem d_X12_digs_20 : decode cX12_digs 20 = .ok (.iload_n 2, 1) := by decide +kernel
theorem d_X12_digs_21 : decode cX12_digs 21 = .ok (.imul, 1) := by decide +kernel
theorem d_X12_digs_22 : decode cX12_digs 22 = .ok (.iconst 2, 1) := by decide +kernel
theorem d_X12_digs_23 : decode cX12_digs 23 = .ok (.iadd, 1) := by decide +kernel
theorem d_X12_digs_24 : decode cX12_digs 24 = .ok (.iaload, 1) := by decide +kernel
theorem d_X12_digs_25 : decode cX12_digs 25 = .ok (.isub, 1) := by decide +kernel
theorem d_X12_digs_26 : decode cX12_digs 26 = .ok (.invokestatic 356, 3) := by decide +kernel
theorem d_X12_digs_29 : decode cX12_digs 29 = .ok (.istore_n 3, 1) := by decide +kernel
theorem d_X12_digs_30 : decode cX12_digs 30 = .ok (.aload_n 1, 1) := by decide +kernel
theorem d_X12_digs_31 : decode cX12_digs 31 = .ok (.bipush 7, 2) := by decide +kernel
theorem d_X12_digs_33 : decode cX12_digs 33 = .ok (.iload_n 2, 1) := by decide +kernel
theorem d_X12_digs_34 : decode cX12_digs 34 = .ok (.imul, 1) := by decide +kernel
theorem d_X12_digs_35 : decode cX12_digs 35 = .ok (.iconst 2, 1) := by decide +kernel
theorem d_X12_digs_36 : decode cX12_digs 36 = .ok (.iadd, 1) := by decide +kernel
theorem d_X12_digs_37 : decode cX12_digs 37 = .ok (.dup2, 1) := by decide +kernel
theorem d_X12_digs_38 : decode cX12_digs 38 = .ok (.iaload, 1) := by decide +kernel
theorem d_X12_digs_39 : decode cX12_digs 39 = .ok (.iload_n 3, 1) := by decide +kernel
theorem d_X12_digs_40 : decode cX12_digs 40 = .ok (.iadd, 1) := by decide +kernel
theorem d_X12_digs_41 : decode cX12_digs 41 = .ok (.iastore, 1) := by decide +kernel
theorem d_X12_digs_42 : decode cX12_digs 42 = .ok (.aload_n 1, 1) := by decide +kernel
theorem d_X12_digs_43 : decode cX12_digs 43 = .ok (.bipush 78, 2) := by decide +kernel
theorem d_X12_digs_45 : decode cX12_digs 45 = .ok (.dup2, 1) := by decide +kernel
theorem d_X12_digs_46 : decode cX12_digs 46 = .ok (.iaload, 1) := by decide +kernel
theorem d_X12_digs_47 : decode cX12_digs 47 = .ok (.iload_n 3, 1) := by decide +kernel
theorem d_X12_digs_48 : decode cX12_digs 48 = .ok (.iadd, 1) := by decide +kernel
theorem d_X12_digs_49 : decode cX12_digs 49 = .ok (.iastore, 1) := by decide +kernel
theorem d_X12_digs_50 : decode cX12_digs 50 = .ok (.return_, 1) := by decide +kernel
def f_X12_digs (this : Nat) (a1 : Nat) (a2 : Int32) : sa_M Unit :=
sa_gd 12 this (
sa_bnd (sa_rdR 12 this 18) fun v1 =>
sa_bnd (sa_ldI .int a1 (7 * a2)) fun v2 =>
sa_bnd (sa_ldI .int v1 ((4 * v2) + 3)) fun v3 =>
sa_bnd (sa_ldI .int a1 ((7 * a2) + 2)) fun v4 =>
sa_let ((sa_min v3 (99 - v4)) : Int32) fun x5 =>
sa_bnd (sa_ldI .int a1 ((7 * a2) + 2)) fun v6 =>
sa_bnd (sa_stI a1 ((7 * a2) + 2) (v6 + x5)) fun _ =>
sa_bnd (sa_ldI .int a1 78) fun v7 =>
sa_bnd (sa_stI a1 78 (v7 + x5)) fun _ =>
sa_ret ())
set_option maxHeartbeats 1000000 in
set_option maxRecDepth 10000 in
theorem b_X12_digs {p : Program} {l : Launch} {e : Env} {s : State} {m : MethodId} {args : Array Value} {below : List Frame} {meth : Method} {c : Code} {D : va_G} {ad : Nat → Nat} {cA : FieldType → ClassId} {A : Nat → Prop} (this : Nat) (a1 : Nat) (a2 : Int32) (C : sa_C p s m args meth c cX12_digs RX12 "digs" 4 none D ad cA A) : sa_Sg p l e s m args below meth c 4 1 D ad cA A sa_eV 0 [(0, .ref (ad this)), (1, .ref (ad a1)), (2, .int a2)] [] (f_X12_digs this a1 a2) := by
  unfold f_X12_digs
  refine sa_gdI ?_
  refine sa_aload_n C d_X12_digs_0 rfl 0 rfl ?_
  refine sa_getR C fd_X12_37 rfl d_X12_digs_1 (fun v1 => ?_)
  refine sa_iconst (v := 4) C d_X12_digs_4 (by decide) ?_
  refine sa_aload_n C d_X12_digs_5 rfl 1 rfl ?_
  refine sa_bipush (v := 7) C d_X12_digs_6 (by decide) ?_
  refine sa_iload_n C d_X12_digs_8 rfl 2 rfl ?_
  refine sa_imul C d_X12_digs_9 ?_
  refine sa_iald C d_X12_digs_10 (fun v2 => ?_)
  refine sa_imul C d_X12_digs_11 ?_
  refine sa_iconst (v := 3) C d_X12_digs_12 (by decide) ?_
  refine sa_iadd C d_X12_digs_13 ?_
  refine sa_iald C d_X12_digs_14 (fun v3 => ?_)
  refine sa_bipush (v := 99) C d_X12_digs_15 (by decide) ?_
  refine sa_aload_n C d_X12_digs_17 rfl 1 rfl ?_
  refine sa_bipush (v := 7) C d_X12_digs_18 (by decide) ?_
  refine sa_iload_n C d_X12_digs_20 rfl 2 rfl ?_
  refine sa_imul C d_X12_digs_21 ?_
  refine sa_iconst (v := 2) C d_X12_digs_22 (by decide) ?_
  refine sa_iadd C d_X12_digs_23 ?_
  refine sa_iald C d_X12_digs_24 (fun v4 => ?_)
  refine sa_isub C d_X12_digs_25 ?_
  refine sa_mmin C q1819 (Nat.le_of_ble_eq_true rfl) (by decide) q530 q130 q531 d_X12_digs_26 ?_
  refine sa_topi (fun x5 => ?_)
  refine sa_istore_n (lv' := [(3, .int x5), (0, .ref (ad this)), (1, .ref (ad a1)), (2, .int a2)]) C d_X12_digs_29 rfl (by decide) rfl ?_
  refine sa_aload_n C d_X12_digs_30 rfl 2 rfl ?_
  refine sa_bipush (v := 7) C d_X12_digs_31 (by decide) ?_
  refine sa_iload_n C d_X12_digs_33 rfl 3 rfl ?_
  refine sa_imul C d_X12_digs_34 ?_
  refine sa_iconst (v := 2) C d_X12_digs_35 (by decide) ?_
  refine sa_iadd C d_X12_digs_36 ?_
  refine sa_dup2_11 C d_X12_digs_37 rfl rfl ?_
  refine sa_iald C d_X12_digs_38 (fun v6 => ?_)
  refine sa_iload_n C d_X12_digs_39 rfl 0 rfl ?_
  refine sa_iadd C d_X12_digs_40 ?_
  refine sa_iast C d_X12_digs_41 ?_
  refine sa_aload_n C d_X12_digs_42 rfl 2 rfl ?_
  refine sa_bipush (v := 78) C d_X12_digs_43 (by decide) ?_
  refine sa_dup2_11 C d_X12_digs_45 rfl rfl ?_
  refine sa_iald C d_X12_digs_46 (fun v7 => ?_)
  refine sa_iload_n C d_X12_digs_47 rfl 0 rfl ?_
  refine sa_iadd C d_X12_digs_48 ?_
  refine sa_iast C d_X12_digs_49 ?_
  exact sa_vret C d_X12_digs_50
theorem k_X12_digs (this : Nat) (a1 : Nat) (a2 : Int32) : sa_Met 1 yX12_digs cX12_digs 4 none (fun ad => [.ref (ad this), .ref (ad a1), .int a2]) sa_eV (f_X12_digs this a1 a2) := sa_mk (by decide) (fun ad => Nat.le_of_ble_eq_true rfl) (fun p l e s m args below meth c D ad cA A C => b_X12_digs this a1 a2 C)
theorem gd_X12_digs (this : Nat) (a1 : Nat) (a2 : Int32) (σ : sa_St) (r : Unit) (τ : sa_St) (h : f_X12_digs this a1 a2 σ = some (r, τ)) : sa_sh this = some (.inl 12) := sa_gd_ok h
theorem d_X12_dig_0 : decode cX12_dig 0 = .ok (.aload_n 0, 1) := by decide +kernel
theorem d_X12_dig_1 : decode cX12_dig 1 = .ok (.iconst 0, 1) := by decide +kernel
theorem d_X12_dig_2 : decode cX12_dig 2 = .ok (.putfield 127, 3) := by decide +kernel
theorem d_X12_dig_5 : decode cX12_dig 5 = .ok (.aload_n 0, 1) := by decide +kernel
theorem d_X12_dig_6 : decode cX12_dig 6 = .ok (.aload_n 0, 1) := by decide +kernel
theorem d_X12_dig_7 : decode cX12_dig 7 = .ok (.getfield 64, 3) := by decide +kernel
theorem d_X12_dig_10 : decode cX12_dig 10 = .ok (.iload_n 1, 1) := by decide +kernel
theorem d_X12_dig_11 : decode cX12_dig 11 = .ok (.invokevirtual 426, 3) := by decide +kernel
theorem d_X12_dig_14 : decode cX12_dig 14 = .ok (.ifCond .ne 5, 3) := by decide +kernel
theorem d_X12_dig_17 : decode cX12_dig 17 = .ok (.iconst (-1), 1) := by decide +kernel
theorem d_X12_dig_18 : decode cX12_dig 18 = .ok (.ireturn, 1) := by decide +kernel
theorem d_X12_dig_19 : decode cX12_dig 19 = .ok (.aload_n 0, 1) := by decide +kernel
theorem d_X12_dig_20 : decode cX12_dig 20 = .ok (.invokevirtual 413, 3) := by decide +kernel
theorem d_X12_dig_23 : decode cX12_dig 23 = .ok (.aload_n 0, 1) := by decide +kernel
theorem d_X12_dig_24 : decode cX12_dig 24 = .ok (.aload_n 0, 1) := by decide +kernel
theorem d_X12_dig_25 : decode cX12_dig 25 = .ok (.getfield 64, 3) := by decide +kernel
theorem d_X12_dig_28 : decode cX12_dig 28 = .ok (.iload_n 1, 1) := by decide +kernel
theorem d_X12_dig_29 : decode cX12_dig 29 = .ok (.invokevirtual 429, 3) := by decide +kernel
theorem d_X12_dig_32 : decode cX12_dig 32 = .ok (.aload_n 0, 1) := by decide +kernel
theorem d_X12_dig_33 : decode cX12_dig 33 = .ok (.getfield 64, 3) := by decide +kernel
theorem d_X12_dig_36 : decode cX12_dig 36 = .ok (.bipush 7, 2) := by decide +kernel
theorem d_X12_dig_38 : decode cX12_dig 38 = .ok (.iload_n 1, 1) := by decide +kernel
theorem d_X12_dig_39 : decode cX12_dig 39 = .ok (.imul, 1) := by decide +kernel
theorem d_X12_dig_40 : decode cX12_dig 40 = .ok (.iconst 2, 1) := by decide +kernel
theorem d_X12_dig_41 : decode cX12_dig 41 = .ok (.iadd, 1) := by decide +kernel
theorem d_X12_dig_42 : decode cX12_dig 42 = .ok (.iaload, 1) := by decide +kernel
theorem d_X12_dig_43 : decode cX12_dig 43 = .ok (.ireturn, 1) := by decide +kernel
def f_X12_dig (this : Nat) (a1 : Int32) : sa_M Int32 :=
sa_gd 12 this (
sa_bnd (sa_wrI 12 this 0 0) fun _ =>
sa_bnd (sa_rdR 12 this 35) fun v1 =>
sa_bnd (f_X12_canDig this v1 a1) fun v2 =>
if ¬ v2 = 0 then
sa_bnd (f_X12_remember this) fun _ =>
sa_bnd (sa_rdR 12 this 35) fun v3 =>
sa_bnd (f_X12_digs this v3 a1) fun _ =>
sa_bnd (sa_rdR 12 this 35) fun v4 =>
sa_bnd (sa_ldI .int v4 ((7 * a1) + 2)) fun v5 =>
sa_ret (v5 : Int32)
else
sa_ret ((-1) : Int32))
set_option maxHeartbeats 1000000 in
set_option maxRecDepth 10000 in
theorem b_X12_dig {p : Program} {l : Launch} {e : Env} {s : State} {m : MethodId} {args : Array Value} {below : List Frame} {meth : Method} {c : Code} {D : va_G} {ad : Nat → Nat} {cA : FieldType → ClassId} {A : Nat → Prop} (this : Nat) (a1 : Int32) (C : sa_C p s m args meth c cX12_dig RX12 "dig" 2 (some .int) D ad cA A) : sa_Sg p l e s m args below meth c 2 4 D ad cA A sa_eI 0 [(0, .ref (ad this)), (1, .int a1)] [] (f_X12_dig this a1) := by
  unfold f_X12_dig
  refine sa_gdI ?_
  refine sa_aload_n C d_X12_dig_0 rfl 0 rfl ?_
  refine sa_iconst (v := 0) C d_X12_dig_1 (by decide) ?_
  refine sa_putI C fd_X12_127 d_X12_dig_2 ?_
  refine sa_aload_n C d_X12_dig_5 rfl 0 rfl ?_
  refine sa_aload_n C d_X12_dig_6 rfl 0 rfl ?_
  refine sa_getR C fd_X12_64 rfl d_X12_dig_7 (fun v1 => ?_)
  refine sa_iload_n C d_X12_dig_10 rfl 1 rfl ?_
  refine sa_invV (ci := 12) C (k_X12_canDig this v1 a1) q1867 ds_X12_canDig q128 rfl q1866 q79 q1864 (gd_X12_canDig this v1 a1) rfl rfl rfl (Nat.le_of_ble_eq_true rfl) (by decide) (by decide) d_X12_dig_11 (fun v2 => ?_)
  refine sa_if_ne (tgt := 19) C d_X12_dig_14 (by decide) ?_ ?_
  · refine sa_aload_n C d_X12_dig_19 rfl 0 rfl ?_
    refine sa_invV (ci := 12) C (k_X12_remember this) q1843 ds_X12_remember q128 rfl q1842 q75 q1840 (gd_X12_remember this) rfl rfl rfl (Nat.le_of_ble_eq_true rfl) (by decide) (by decide) d_X12_dig_20 (fun _ => ?_)
    refine sa_aload_n C d_X12_dig_23 rfl 0 rfl ?_
    refine sa_aload_n C d_X12_dig_24 rfl 0 rfl ?_
    refine sa_getR C fd_X12_64 rfl d_X12_dig_25 (fun v3 => ?_)
    refine sa_iload_n C d_X12_dig_28 rfl 1 rfl ?_
    refine sa_invV (ci := 12) C (k_X12_digs this v3 a1) q1871 ds_X12_digs q128 rfl q1870 q80 q1868 (gd_X12_digs this v3 a1) rfl rfl rfl (Nat.le_of_ble_eq_true rfl) (by decide) (by decide) d_X12_dig_29 (fun _ => ?_)
    refine sa_aload_n C d_X12_dig_32 rfl 0 rfl ?_
    refine sa_getR C fd_X12_64 rfl d_X12_dig_33 (fun v4 => ?_)
    refine sa_bipush (v := 7) C d_X12_dig_36 (by decide) ?_
    refine sa_iload_n C d_X12_dig_38 rfl 1 rfl ?_
    refine sa_imul C d_X12_dig_39 ?_
    refine sa_iconst (v := 2) C d_X12_dig_40 (by decide) ?_
    refine sa_iadd C d_X12_dig_41 ?_
    refine sa_iald C d_X12_dig_42 (fun v5 => ?_)
    exact sa_iret C d_X12_dig_43
  refine sa_iconst (v := (-1)) C d_X12_dig_17 (by decide) ?_
  exact sa_iret C d_X12_dig_18
theorem k_X12_dig (this : Nat) (a1 : Int32) : sa_Met 4 yX12_dig cX12_dig 2 (some .int) (fun ad => [.ref (ad this), .int a1]) sa_eI (f_X12_dig this a1) := sa_mk (by decide) (fun ad => Nat.le_of_ble_eq_true rfl) (fun p l e s m args below meth c D ad cA A C => b_X12_dig this a1 C)
theorem gd_X12_dig (this : Nat) (a1 : Int32) (σ : sa_St) (r : Int32) (τ : sa_St) (h : f_X12_dig this a1 σ = some (r, τ)) : sa_sh this = some (.inl 12) := sa_gd_ok h
theorem d_X12_canCast_0 : decode cX12_canCast 0 = .ok (.aload_n 0, 1) := by decide +kernel
theorem d_X12_canCast_1 : decode cX12_canCast 1 = .ok (.iload_n 2, 1) := by decide +kernel
theorem d_X12_canCast_2 : decode cX12_canCast 2 = .ok (.invokevirtual 372, 3) := by decide +kernel
theorem d_X12_canCast_5 : decode cX12_canCast 5 = .ok (.ifCond .eq 27, 3) := by decide +kernel
theorem d_X12_canCast_8 : decode cX12_canCast 8 = .ok (.aload_n 1, 1) := by decide +kernel
theorem d_X12_canCast_9 : decode cX12_canCast 9 = .ok (.bipush 56, 2) := by decide +kernel
theorem d_X12_canCast_11 : decode cX12_canCast 11 = .ok (.iconst 2, 1) := by decide +kernel
theorem d_X12_canCast_12 : decode cX12_canCast 12 = .ok (.iload_n 2, 1) := by decide +kernel
theorem d_X12_canCast_13 : decode cX12_canCast 13 = .ok (.imul, 1) := by decide +kernel
theorem d_X12_canCast_14 : decode cX12_canCast 14 = .ok (.iadd, 1) := by decide +kernel
theorem d_X12_canCast_15 : decode cX12_canCast 15 = .ok (.iaload, 1) := by decide +kernel
theorem d_X12_canCast_16 : decode cX12_canCast 16 = .ok (.ifCond .le 16, 3) := by decide +kernel
theorem d_X12_canCast_19 : decode cX12_canCast 19 = .ok (.aload_n 1, 1) := by decide +kernel
theorem d_X12_canCast_20 : decode cX12_canCast 20 = .ok (.bipush 75, 2) := by decide +kernel
theorem d_X12_canCast_22 : decode cX12_canCast 22 = .ok (.iaload, 1) := by decide +kernel
theorem d_X12_canCast_23 : decode cX12_canCast 23 = .ok (.bipush 8, 2) := by decide +kernel
theorem d_X12_canCast_25 : decode cX12_canCast 25 = .ok (.if_icmp .ge 7, 3) := by decide +kernel
theorem d_X12_canCast_28 : decode cX12_canCast 28 = .ok (.iconst 1, 1) := by decide +kernel
theorem d_X12_canCast_29 : decode cX12_canCast 29 = .ok (.goto 4, 3) := by decide +kernel
theorem d_X12_canCast_32 : decode cX12_canCast 32 = .ok (.iconst 0, 1) := by decide +kernel
theorem d_X12_canCast_33 : decode cX12_canCast 33 = .ok (.ireturn, 1) := by decide +kernel
def f_X12_canCast (this : Nat) (a1 : Nat) (a2 : Int32) : sa_M Int32 :=
sa_gd 12 this (
sa_bnd (f_X12_isPlace this a2) fun v1 =>
sa_jn1 (fun (y2 : Int32) =>
sa_retZ y2) fun j33 =>
sa_jn0 (j33 0) fun j32 =>
if v1 = 0 then
j32
else
sa_bnd (sa_ldI .int a1 (56 + (2 * a2))) fun v3 =>
if v3 ≤ 0 then
j32
else
sa_bnd (sa_ldI .int a1 75) fun v4 =>
if 8 ≤ v4 then
j32
else
j33 1)
set_option maxHeartbeats 1000000 in
set_option maxRecDepth 10000 in
theorem b_X12_canCast {p : Program} {l : Launch} {e : Env} {s : State} {m : MethodId} {args : Array Value} {below : List Frame} {meth : Method} {c : Code} {D : va_G} {ad : Nat → Nat} {cA : FieldType → ClassId} {A : Nat → Prop} (this : Nat) (a1 : Nat) (a2 : Int32) (C : sa_C p s m args meth c cX12_canCast RX12 "canCast" 3 (some .boolean) D ad cA A) : sa_Sg p l e s m args below meth c 3 2 D ad cA A sa_eI 0 [(0, .ref (ad this)), (1, .ref (ad a1)), (2, .int a2)] [] (f_X12_canCast this a1 a2) := by
  unfold f_X12_canCast
  refine sa_gdI ?_
  refine sa_aload_n C d_X12_canCast_0 rfl 0 rfl ?_
  refine sa_iload_n C d_X12_canCast_1 rfl 2 rfl ?_
  refine sa_invV (ci := 12) C (k_X12_isPlace this a2) q1785 ds_X12_isPlace q128 rfl q1784 q70 q1782 (gd_X12_isPlace this a2) rfl rfl rfl (Nat.le_of_ble_eq_true rfl) (by decide) (by decide) d_X12_canCast_2 (fun v1 => ?_)
  refine sa_join1 33 (fun y2 => []) (fun y2 => [.int y2]) (fun y2 => ?_) (fun j33 hj33 => ?_)
  · exact sa_zret C d_X12_canCast_33
  refine sa_join0 32 ([]) ([]) (?_) (fun j32 hj32 => ?_)
  · refine sa_iconst (v := 0) C d_X12_canCast_32 (by decide) ?_
    exact sa_sub [] rfl (hj33 _)
  refine sa_if_eq (tgt := 32) C d_X12_canCast_5 (by decide) ?_ ?_
  · exact sa_sub [] rfl (hj32)
  refine sa_aload_n C d_X12_canCast_8 rfl 1 rfl ?_
  refine sa_bipush (v := 56) C d_X12_canCast_9 (by decide) ?_
  refine sa_iconst (v := 2) C d_X12_canCast_11 (by decide) ?_
  refine sa_iload_n C d_X12_canCast_12 rfl 2 rfl ?_
  refine sa_imul C d_X12_canCast_13 ?_
  refine sa_iadd C d_X12_canCast_14 ?_
  refine sa_iald C d_X12_canCast_15 (fun v3 => ?_)
  refine sa_if_le (tgt := 32) C d_X12_canCast_16 (by decide) ?_ ?_
  · exact sa_sub [] rfl (hj32)
  refine sa_aload_n C d_X12_canCast_19 rfl 1 rfl ?_
  refine sa_bipush (v := 75) C d_X12_canCast_20 (by decide) ?_
  refine sa_iald C d_X12_canCast_22 (fun v4 => ?_)
  refine sa_bipush (v := 8) C d_X12_canCast_23 (by decide) ?_
  refine sa_icmp_ge (tgt := 32) C d_X12_canCast_25 (by decide) ?_ ?_
  · exact sa_sub [] rfl (hj32)
  refine sa_iconst (v := 1) C d_X12_canCast_28 (by decide) ?_
  refine sa_goto (tgt := 33) C d_X12_canCast_29 (by decide) ?_
  exact sa_sub [] rfl (hj33 _)
theorem k_X12_canCast (this : Nat) (a1 : Nat) (a2 : Int32) : sa_Met 2 yX12_canCast cX12_canCast 3 (some .boolean) (fun ad => [.ref (ad this), .ref (ad a1), .int a2]) sa_eI (f_X12_canCast this a1 a2) := sa_mk (by decide) (fun ad => Nat.le_of_ble_eq_true rfl) (fun p l e s m args below meth c D ad cA A C => b_X12_canCast this a1 a2 C)
theorem gd_X12_canCast (this : Nat) (a1 : Nat) (a2 : Int32) (σ : sa_St) (r : Int32) (τ : sa_St) (h : f_X12_canCast this a1 a2 σ = some (r, τ)) : sa_sh this = some (.inl 12) := sa_gd_ok h
theorem d_X12_casts_0 : decode cX12_casts 0 = .ok (.bipush 7, 2) := by decide +kernel
theorem d_X12_casts_2 : decode cX12_casts 2 = .ok (.aload_n 1, 1) := by decide +kernel
theorem d_X12_casts_3 : decode cX12_casts 3 = .ok (.bipush 75, 2) := by decide +kernel
theorem d_X12_casts_5 : decode cX12_casts 5 = .ok (.iaload, 1) := by decide +kernel
theorem d_X12_casts_6 : decode cX12_casts 6 = .ok (.imul, 1) := by decide +kernel
theorem d_X12_casts_7 : decode cX12_casts 7 = .ok (.istore 4, 2) := by decide +kernel
theorem d_X12_casts_9 : decode cX12_casts 9 = .ok (.bipush 56, 2) := by decide +kernel
theorem d_X12_casts_11 : decode cX12_casts 11 = .ok (.iconst 2, 1) := by decide +kernel
theorem d_X12_casts_12 : decode cX12_casts 12 = .ok (.iload_n 2, 1) := by decide +kernel
theorem d_X12_casts_13 : decode cX12_casts 13 = .ok (.imul, 1) := by decide +kernel
theorem d_X12_casts_14 : decode cX12_casts 14 = .ok (.iadd, 1) := by decide +kernel
theorem d_X12_casts_15 : decode cX12_casts 15 = .ok (.istore 5, 2) := by decide +kernel
theorem d_X12_casts_17 : decode cX12_casts 17 = .ok (.aload_n 1, 1) := by decide +kernel
theorem d_X12_casts_18 : decode cX12_casts 18 = .ok (.iload 4, 2) := by decide +kernel
theorem d_X12_casts_20 : decode cX12_casts 20 = .ok (.iload_n 2, 1) := by decide +kernel
theorem d_X12_casts_21 : decode cX12_casts 21 = .ok (.iastore, 1) := by decide +kernel
theorem d_X12_casts_22 : decode cX12_casts 22 = .ok (.aload_n 1, 1) := by decide +kernel
theorem d_X12_casts_23 : decode cX12_casts 23 = .ok (.iload 4, 2) := by decide +kernel
theorem d_X12_casts_25 : decode cX12_casts 25 = .ok (.iconst 1, 1) := by decide +kernel
theorem d_X12_casts_26 : decode cX12_casts 26 = .ok (.iadd, 1) := by decide +kernel
theorem d_X12_casts_27 : decode cX12_casts 27 = .ok (.iconst 0, 1) := by decide +kernel
theorem d_X12_casts_28 : decode cX12_casts 28 = .ok (.iastore, 1) := by decide +kernel
theorem d_X12_casts_29 : decode cX12_casts 29 = .ok (.aload_n 1, 1) := by decide +kernel
theorem d_X12_casts_30 : decode cX12_casts 30 = .ok (.iload 4, 2) := by decide +kernel
theorem d_X12_casts_32 : decode cX12_casts 32 = .ok (.iconst 2, 1) := by decide +kernel
theorem d_X12_casts_33 : decode cX12_casts 33 = .ok (.iadd, 1) := by decide +kernel
theorem d_X12_casts_34 : decode cX12_casts 34 = .ok (.bipush 99, 2) := by decide +kernel
theorem d_X12_casts_36 : decode cX12_casts 36 = .ok (.aload_n 1, 1) := by decide +kernel
theorem d_X12_casts_37 : decode cX12_casts 37 = .ok (.iload 5, 2) := by decide +kernel
theorem d_X12_casts_39 : decode cX12_casts 39 = .ok (.iaload, 1) := by decide +kernel
theorem d_X12_casts_40 : decode cX12_casts 40 = .ok (.invokestatic 356, 3) := by decide +kernel
theorem d_X12_casts_43 : decode cX12_casts 43 = .ok (.iastore, 1) := by decide +kernel
theorem d_X12_casts_44 : decode cX12_casts 44 = .ok (.aload_n 1, 1) := by decide +kernel
theorem d_X12_casts_45 : decode cX12_casts 45 = .ok (.iload 4, 2) := by decide +kernel
theorem d_X12_casts_47 : decode cX12_casts 47 = .ok (.iconst 3, 1) := by decide +kernel
theorem d_X12_casts_48 : decode cX12_casts 48 = .ok (.iadd, 1) := by decide +kernel
theorem d_X12_casts_49 : decode cX12_casts 49 = .ok (.iconst 5, 1) := by decide +kernel
theorem d_X12_casts_50 : decode cX12_casts 50 = .ok (.iastore, 1) := by decide +kernel
theorem d_X12_casts_51 : decode cX12_casts 51 = .ok (.aload_n 1, 1) := by decide +kernel
theorem d_X12_casts_52 : decode cX12_casts 52 = .ok (.iload 4, 2) := by decide +kernel
theorem d_X12_casts_54 : decode cX12_casts 54 = .ok (.iconst 4, 1) := by decide +kernel
theorem d_X12_casts_55 : decode cX12_casts 55 = .ok (.iadd, 1) := by decide +kernel
theorem d_X12_casts_56 : decode cX12_casts 56 = .ok (.iload_n 3, 1) := by decide +kernel
theorem d_X12_casts_57 : decode cX12_casts 57 = .ok (.iastore, 1) := by decide +kernel
theorem d_X12_casts_58 : decode cX12_casts 58 = .ok (.aload_n 1, 1) := by decide +kernel
theorem d_X12_casts_59 : decode cX12_casts 59 = .ok (.iload 4, 2) := by decide +kernel
theorem d_X12_casts_61 : decode cX12_casts 61 = .ok (.iconst 5, 1) := by decide +kernel
theorem d_X12_casts_62 : decode cX12_casts 62 = .ok (.iadd, 1) := by decide +kernel
theorem d_X12_casts_63 : decode cX12_casts 63 = .ok (.aload_n 1, 1) := by decide +kernel
theorem d_X12_casts_64 : decode cX12_casts 64 = .ok (.iload 5, 2) := by decide +kernel
theorem d_X12_casts_66 : decode cX12_casts 66 = .ok (.iconst 1, 1) := by decide +kernel
theorem d_X12_casts_67 : decode cX12_casts 67 = .ok (.iadd, 1) := by decide +kernel
theorem d_X12_casts_68 : decode cX12_casts 68 = .ok (.iaload, 1) := by decide +kernel
theorem d_X12_casts_69 : decode cX12_casts 69 = .ok (.iastore, 1) := by decide +kernel
theorem d_X12_casts_70 : decode cX12_casts 70 = .ok (.aload_n 1, 1) := by decide +kernel
theorem d_X12_casts_71 : decode cX12_casts 71 = .ok (.iload 4, 2) := by decide +kernel
theorem d_X12_casts_73 : decode cX12_casts 73 = .ok (.bipush 6, 2) := by decide +kernel
theorem d_X12_casts_75 : decode cX12_casts 75 = .ok (.iadd, 1) := by decide +kernel
theorem d_X12_casts_76 : decode cX12_casts 76 = .ok (.iconst 0, 1) := by decide +kernel
theorem d_X12_casts_77 : decode cX12_casts 77 = .ok (.iastore, 1) := by decide +kernel
theorem d_X12_casts_78 : decode cX12_casts 78 = .ok (.aload_n 1, 1) := by decide +kernel
theorem d_X12_casts_79 : decode cX12_casts 79 = .ok (.iload 5, 2) := by decide +kernel
theorem d_X12_casts_81 : decode cX12_casts 81 = .ok (.dup2, 1) := by decide +kernel
theorem d_X12_casts_82 : decode cX12_casts 82 = .ok (.iaload, 1) := by decide +kernel
theorem d_X12_casts_83 : decode cX12_casts 83 = .ok (.aload_n 1, 1) := by decide +kernel
theorem d_X12_casts_84 : decode cX12_casts 84 = .ok (.iload 4, 2) := by decide +kernel
theorem d_X12_casts_86 : decode cX12_casts 86 = .ok (.iconst 2, 1) := by decide +kernel
theorem d_X12_casts_87 : decode cX12_casts 87 = .ok (.iadd, 1) := by decide +kernel
theorem d_X12_casts_88 : decode cX12_casts 88 = .ok (.iaload, 1) := by decide +kernel
theorem d_X12_casts_89 : decode cX12_casts 89 = .ok (.isub, 1) := by decide +kernel
theorem d_X12_casts_90 : decode cX12_casts 90 = .ok (.iastore, 1) := by decide +kernel
theorem d_X12_casts_91 : decode cX12_casts 91 = .ok (.aload_n 1, 1) := by decide +kernel
theorem d_X12_casts_92 : decode cX12_casts 92 = .ok (.iload 5, 2) := by decide +kernel
theorem d_X12_casts_94 : decode cX12_casts 94 = .ok (.iconst 1, 1) := by decide +kernel
theorem d_X12_casts_95 : decode cX12_casts 95 = .ok (.iadd, 1) := by decide +kernel
theorem d_X12_casts_96 : decode cX12_casts 96 = .ok (.iconst 0, 1) := by decide +kernel
theorem d_X12_casts_97 : decode cX12_casts 97 = .ok (.iastore, 1) := by decide +kernel
theorem d_X12_casts_98 : decode cX12_casts 98 = .ok (.aload_n 1, 1) := by decide +kernel
theorem d_X12_casts_99 : decode cX12_casts 99 = .ok (.bipush 75, 2) := by decide +kernel
theorem d_X12_casts_101 : decode cX12_casts 101 = .ok (.dup2, 1) := by decide +kernel
theorem d_X12_casts_102 : decode cX12_casts 102 = .ok (.iaload, 1) := by decide +kernel
theorem d_X12_casts_103 : decode cX12_casts 103 = .ok (.iconst 1, 1) := by decide +kernel
theorem d_X12_casts_104 : decode cX12_casts 104 = .ok (.iadd, 1) := by decide +kernel
theorem d_X12_casts_105 : decode cX12_casts 105 = .ok (.iastore, 1) := by decide +kernel
theorem d_X12_casts_106 : decode cX12_casts 106 = .ok (.return_, 1) := by decide +kernel
def f_X12_casts (this : Nat) (a1 : Nat) (a2 : Int32) (a3 : Int32) : sa_M Unit :=
sa_gd 12 this (
sa_bnd (sa_ldI .int a1 75) fun v1 =>
sa_let ((7 * v1) : Int32) fun x2 =>
sa_let ((56 + (2 * a2)) : Int32) fun x3 =>
sa_bnd (sa_stI a1 x2 a2) fun _ =>
sa_bnd (sa_stI a1 (x2 + 1) 0) fun _ =>
sa_bnd (sa_ldI .int a1 x3) fun v4 =>
sa_bnd (sa_stI a1 (x2 + 2) (sa_min 99 v4)) fun _ =>
sa_bnd (sa_stI a1 (x2 + 3) 5) fun _ =>
sa_bnd (sa_stI a1 (x2 + 4) a3) fun _ =>
sa_bnd (sa_ldI .int a1 (x3 + 1)) fun v5 =>
sa_bnd (sa_stI a1 (x2 + 5) v5) fun _ =>
sa_bnd (sa_stI a1 (x2 + 6) 0) fun _ =>
sa_bnd (sa_ldI .int a1 x3) fun v6 =>
sa_bnd (sa_ldI .int a1 (x2 + 2)) fun v7 =>
sa_bnd (sa_stI a1 x3 (v6 - v7)) fun _ =>
sa_bnd (sa_stI a1 (x3 + 1) 0) fun _ =>
sa_bnd (sa_ldI .int a1 75) fun v8 =>
sa_bnd (sa_stI a1 75 (v8 + 1)) fun _ =>
sa_ret ())
set_option maxHeartbeats 1000000 in
set_option maxRecDepth 10000 in
theorem b_X12_casts {p : Program} {l : Launch} {e : Env} {s : State} {m : MethodId} {args : Array Value} {below : List Frame} {meth : Method} {c : Code} {D : va_G} {ad : Nat → Nat} {cA : FieldType → ClassId} {A : Nat → Prop} (this : Nat) (a1 : Nat) (a2 : Int32) (a3 : Int32) (C : sa_C p s m args meth c cX12_casts RX12 "casts" 6 none D ad cA A) : sa_Sg p l e s m args below meth c 6 1 D ad cA A sa_eV 0 [(0, .ref (ad this)), (1, .ref (ad a1)), (2, .int a2), (3, .int a3)] [] (f_X12_casts this a1 a2 a3) := by
  unfold f_X12_casts
  refine sa_gdI ?_
  refine sa_bipush (v := 7) C d_X12_casts_0 (by decide) ?_
  refine sa_aload_n C d_X12_casts_2 rfl 1 rfl ?_
  refine sa_bipush (v := 75) C d_X12_casts_3 (by decide) ?_
  refine sa_iald C d_X12_casts_5 (fun v1 => ?_)
  refine sa_imul C d_X12_casts_6 ?_
  refine sa_topi (fun x2 => ?_)
  refine sa_istore (lv' := [(4, .int x2), (0, .ref (ad this)), (1, .ref (ad a1)), (2, .int a2), (3, .int a3)]) C d_X12_casts_7 (by decide) rfl ?_
  refine sa_bipush (v := 56) C d_X12_casts_9 (by decide) ?_
  refine sa_iconst (v := 2) C d_X12_casts_11 (by decide) ?_
  refine sa_iload_n C d_X12_casts_12 rfl 3 rfl ?_
  refine sa_imul C d_X12_casts_13 ?_
  refine sa_iadd C d_X12_casts_14 ?_
  refine sa_topi (fun x3 => ?_)
  refine sa_istore (lv' := [(5, .int x3), (4, .int x2), (0, .ref (ad this)), (1, .ref (ad a1)), (2, .int a2), (3, .int a3)]) C d_X12_casts_15 (by decide) rfl ?_
  refine sa_aload_n C d_X12_casts_17 rfl 3 rfl ?_
  refine sa_iload C d_X12_casts_18 1 rfl ?_
  refine sa_iload_n C d_X12_casts_20 rfl 4 rfl ?_
  refine sa_iast C d_X12_casts_21 ?_
  refine sa_aload_n C d_X12_casts_22 rfl 3 rfl ?_
  refine sa_iload C d_X12_casts_23 1 rfl ?_
  refine sa_iconst (v := 1) C d_X12_casts_25 (by decide) ?_
  refine sa_iadd C d_X12_casts_26 ?_
  refine sa_iconst (v := 0) C d_X12_casts_27 (by decide) ?_
  refine sa_iast C d_X12_casts_28 ?_
  refine sa_aload_n C d_X12_casts_29 rfl 3 rfl ?_
  refine sa_iload C d_X12_casts_30 1 rfl ?_
  refine sa_iconst (v := 2) C d_X12_casts_32 (by decide) ?_
  refine sa_iadd C d_X12_casts_33 ?_
  refine sa_bipush (v := 99) C d_X12_casts_34 (by decide) ?_
  refine sa_aload_n C d_X12_casts_36 rfl 3 rfl ?_
  refine sa_iload C d_X12_casts_37 0 rfl ?_
  refine sa_iald C d_X12_casts_39 (fun v4 => ?_)
  refine sa_mmin C q1819 (Nat.le_of_ble_eq_true rfl) (by decide) q530 q130 q531 d_X12_casts_40 ?_
  refine sa_iast C d_X12_casts_43 ?_
  refine sa_aload_n C d_X12_casts_44 rfl 3 rfl ?_
  refine sa_iload C d_X12_casts_45 1 rfl ?_
  refine sa_iconst (v := 3) C d_X12_casts_47 (by decide) ?_
  refine sa_iadd C d_X12_casts_48 ?_
  refine sa_iconst (v := 5) C d_X12_casts_49 (by decide) ?_
  refine sa_iast C d_X12_casts_50 ?_
  refine sa_aload_n C d_X12_casts_51 rfl 3 rfl ?_
  refine sa_iload C d_X12_casts_52 1 rfl ?_
  refine sa_iconst (v := 4) C d_X12_casts_54 (by decide) ?_
  refine sa_iadd C d_X12_casts_55 ?_
  refine sa_iload_n C d_X12_casts_56 rfl 5 rfl ?_
  refine sa_iast C d_X12_casts_57 ?_
  refine sa_aload_n C d_X12_casts_58 rfl 3 rfl ?_
  refine sa_iload C d_X12_casts_59 1 rfl ?_
  refine sa_iconst (v := 5) C d_X12_casts_61 (by decide) ?_
  refine sa_iadd C d_X12_casts_62 ?_
  refine sa_aload_n C d_X12_casts_63 rfl 3 rfl ?_
  refine sa_iload C d_X12_casts_64 0 rfl ?_
  refine sa_iconst (v := 1) C d_X12_casts_66 (by decide) ?_
  refine sa_iadd C d_X12_casts_67 ?_
  refine sa_iald C d_X12_casts_68 (fun v5 => ?_)
  refine sa_iast C d_X12_casts_69 ?_
  refine sa_aload_n C d_X12_casts_70 rfl 3 rfl ?_
  refine sa_iload C d_X12_casts_71 1 rfl ?_
  refine sa_bipush (v := 6) C d_X12_casts_73 (by decide) ?_
  refine sa_iadd C d_X12_casts_75 ?_
  refine sa_iconst (v := 0) C d_X12_casts_76 (by decide) ?_
  refine sa_iast C d_X12_casts_77 ?_
  refine sa_aload_n C d_X12_casts_78 rfl 3 rfl ?_
  refine sa_iload C d_X12_casts_79 0 rfl ?_
  refine sa_dup2_11 C d_X12_casts_81 rfl rfl ?_
  refine sa_iald C d_X12_casts_82 (fun v6 => ?_)
  refine sa_aload_n C d_X12_casts_83 rfl 3 rfl ?_
  refine sa_iload C d_X12_casts_84 1 rfl ?_
  refine sa_iconst (v := 2) C d_X12_casts_86 (by decide) ?_
  refine sa_iadd C d_X12_casts_87 ?_
  refine sa_iald C d_X12_casts_88 (fun v7 => ?_)
  refine sa_isub C d_X12_casts_89 ?_
  refine sa_iast C d_X12_casts_90 ?_
  refine sa_aload_n C d_X12_casts_91 rfl 3 rfl ?_
  refine sa_iload C d_X12_casts_92 0 rfl ?_
  refine sa_iconst (v := 1) C d_X12_casts_94 (by decide) ?_
  refine sa_iadd C d_X12_casts_95 ?_
  refine sa_iconst (v := 0) C d_X12_casts_96 (by decide) ?_
  refine sa_iast C d_X12_casts_97 ?_
  refine sa_aload_n C d_X12_casts_98 rfl 3 rfl ?_
  refine sa_bipush (v := 75) C d_X12_casts_99 (by decide) ?_
  refine sa_dup2_11 C d_X12_casts_101 rfl rfl ?_
  refine sa_iald C d_X12_casts_102 (fun v8 => ?_)
  refine sa_iconst (v := 1) C d_X12_casts_103 (by decide) ?_
  refine sa_iadd C d_X12_casts_104 ?_
  refine sa_iast C d_X12_casts_105 ?_
  exact sa_vret C d_X12_casts_106
theorem k_X12_casts (this : Nat) (a1 : Nat) (a2 : Int32) (a3 : Int32) : sa_Met 1 yX12_casts cX12_casts 6 none (fun ad => [.ref (ad this), .ref (ad a1), .int a2, .int a3]) sa_eV (f_X12_casts this a1 a2 a3) := sa_mk (by decide) (fun ad => Nat.le_of_ble_eq_true rfl) (fun p l e s m args below meth c D ad cA A C => b_X12_casts this a1 a2 a3 C)
theorem gd_X12_casts (this : Nat) (a1 : Nat) (a2 : Int32) (a3 : Int32) (σ : sa_St) (r : Unit) (τ : sa_St) (h : f_X12_casts this a1 a2 a3 σ = some (r, τ)) : sa_sh this = some (.inl 12) := sa_gd_ok h
theorem d_X12_cast_0 : decode cX12_cast 0 = .ok (.aload_n 0, 1) := by decide +kernel
theorem d_X12_cast_1 : decode cX12_cast 1 = .ok (.iconst 0, 1) := by decide +kernel
theorem d_X12_cast_2 : decode cX12_cast 2 = .ok (.putfield 127, 3) := by decide +kernel
theorem d_X12_cast_5 : decode cX12_cast 5 = .ok (.aload_n 0, 1) := by decide +kernel
theorem d_X12_cast_6 : decode cX12_cast 6 = .ok (.aload_n 0, 1) := by decide +kernel
theorem d_X12_cast_7 : decode cX12_cast 7 = .ok (.getfield 64, 3) := by decide +kernel
theorem d_X12_cast_10 : decode cX12_cast 10 = .ok (.iload_n 1, 1) := by decide +kernel
theorem d_X12_cast_11 : decode cX12_cast 11 = .ok (.invokevirtual 432, 3) := by decide +kernel
theorem d_X12_cast_14 : decode cX12_cast 14 = .ok (.ifCond .eq 15, 3) := by decide +kernel
theorem d_X12_cast_17 : decode cX12_cast 17 = .ok (.iload_n 2, 1) := by decide +kernel
theorem d_X12_cast_18 : decode cX12_cast 18 = .ok (.i2l, 1) := by decide +kernel
theorem d_X12_cast_19 : decode cX12_cast 19 = .ok (.lconst 0, 1) := by decide +kernel
theorem d_X12_cast_20 : decode cX12_cast 20 = .ok (.ldc2_w 377, 3) := by decide +kernel
theorem d_X12_cast_23 : decode cX12_cast 23 = .ok (.invokestatic 248, 3) := by decide +kernel
theorem d_X12_cast_26 : decode cX12_cast 26 = .ok (.ifCond .ne 5, 3) := by decide +kernel
theorem d_X12_cast_29 : decode cX12_cast 29 = .ok (.iconst (-1), 1) := by decide +kernel
theorem d_X12_cast_30 : decode cX12_cast 30 = .ok (.ireturn, 1) := by decide +kernel
theorem d_X12_cast_31 : decode cX12_cast 31 = .ok (.aload_n 0, 1) := by decide +kernel
theorem d_X12_cast_32 : decode cX12_cast 32 = .ok (.invokevirtual 413, 3) := by decide +kernel
theorem d_X12_cast_35 : decode cX12_cast 35 = .ok (.aload_n 0, 1) := by decide +kernel
theorem d_X12_cast_36 : decode cX12_cast 36 = .ok (.aload_n 0, 1) := by decide +kernel
theorem d_X12_cast_37 : decode cX12_cast 37 = .ok (.getfield 64, 3) := by decide +kernel
theorem d_X12_cast_40 : decode cX12_cast 40 = .ok (.iload_n 1, 1) := by decide +kernel
theorem d_X12_cast_41 : decode cX12_cast 41 = .ok (.iload_n 2, 1) := by decide +kernel
theorem d_X12_cast_42 : decode cX12_cast 42 = .ok (.invokevirtual 435, 3) := by decide +kernel
theorem d_X12_cast_45 : decode cX12_cast 45 = .ok (.aload_n 0, 1) := by decide +kernel
theorem d_X12_cast_46 : decode cX12_cast 46 = .ok (.getfield 64, 3) := by decide +kernel
theorem d_X12_cast_49 : decode cX12_cast 49 = .ok (.bipush 75, 2) := by decide +kernel
theorem d_X12_cast_51 : decode cX12_cast 51 = .ok (.iaload, 1) := by decide +kernel
theorem d_X12_cast_52 : decode cX12_cast 52 = .ok (.iconst 1, 1) := by decide +kernel
theorem d_X12_cast_53 : decode cX12_cast 53 = .ok (.isub, 1) := by decide +kernel
theorem d_X12_cast_54 : decode cX12_cast 54 = .ok (.ireturn, 1) := by decide +kernel
def f_X12_cast (this : Nat) (a1 : Int32) (a2 : Int32) : sa_M Int32 :=
sa_gd 12 this (
sa_bnd (sa_wrI 12 this 0 0) fun _ =>
sa_bnd (sa_rdR 12 this 35) fun v1 =>
sa_bnd (f_X12_canCast this v1 a1) fun v2 =>
sa_jn0 (sa_ret ((-1) : Int32)) fun j29 =>
if v2 = 0 then
j29
else
sa_bnd (f_X12_isIn (a2.toInt64) 0 3) fun v3 =>
if ¬ v3 = 0 then
sa_bnd (f_X12_remember this) fun _ =>
sa_bnd (sa_rdR 12 this 35) fun v4 =>
sa_bnd (f_X12_casts this v4 a1 a2) fun _ =>
sa_bnd (sa_rdR 12 this 35) fun v5 =>
sa_bnd (sa_ldI .int v5 75) fun v6 =>
sa_ret ((v6 - 1) : Int32)
else
j29)
set_option maxHeartbeats 1000000 in
set_option maxRecDepth 10000 in
theorem b_X12_cast {p : Program} {l : Launch} {e : Env} {s : State} {m : MethodId} {args : Array Value} {below : List Frame} {meth : Method} {c : Code} {D : va_G} {ad : Nat → Nat} {cA : FieldType → ClassId} {A : Nat → Prop} (this : Nat) (a1 : Int32) (a2 : Int32) (C : sa_C p s m args meth c cX12_cast RX12 "cast" 3 (some .int) D ad cA A) : sa_Sg p l e s m args below meth c 3 3 D ad cA A sa_eI 0 [(0, .ref (ad this)), (1, .int a1), (2, .int a2)] [] (f_X12_cast this a1 a2) := by
  unfold f_X12_cast
  refine sa_gdI ?_
  refine sa_aload_n C d_X12_cast_0 rfl 0 rfl ?_
  refine sa_iconst (v := 0) C d_X12_cast_1 (by decide) ?_
  refine sa_putI C fd_X12_127 d_X12_cast_2 ?_
  refine sa_aload_n C d_X12_cast_5 rfl 0 rfl ?_
  refine sa_aload_n C d_X12_cast_6 rfl 0 rfl ?_
  refine sa_getR C fd_X12_64 rfl d_X12_cast_7 (fun v1 => ?_)
  refine sa_iload_n C d_X12_cast_10 rfl 1 rfl ?_
  refine sa_invV (ci := 12) C (k_X12_canCast this v1 a1) q1879 ds_X12_canCast q128 rfl q1878 q81 q1876 (gd_X12_canCast this v1 a1) rfl rfl rfl (Nat.le_of_ble_eq_true rfl) (by decide) (by decide) d_X12_cast_11 (fun v2 => ?_)
  refine sa_join0 29 ([]) ([]) (?_) (fun j29 hj29 => ?_)
  · refine sa_iconst (v := (-1)) C d_X12_cast_29 (by decide) ?_
    exact sa_iret C d_X12_cast_30
  refine sa_if_eq (tgt := 29) C d_X12_cast_14 (by decide) ?_ ?_
  · exact sa_sub [] rfl (hj29)
  refine sa_iload_n C d_X12_cast_17 rfl 2 rfl ?_
  refine sa_i2l C d_X12_cast_18 ?_
  refine sa_lconst (v := 0) C d_X12_cast_19 (by decide) ?_
  refine sa_ldc2 (v := 3) C d_X12_cast_20 q1791 ?_
  refine sa_invS C (k_X12_isIn (a2.toInt64) 0 3) q1637 ds_X12_isIn q128 q1636 q1635 rfl rfl rfl (Nat.le_of_ble_eq_true rfl) (by decide) (by decide) d_X12_cast_23 (fun v3 => ?_)
  refine sa_if_ne (tgt := 31) C d_X12_cast_26 (by decide) ?_ ?_
  · refine sa_aload_n C d_X12_cast_31 rfl 0 rfl ?_
    refine sa_invV (ci := 12) C (k_X12_remember this) q1843 ds_X12_remember q128 rfl q1842 q75 q1840 (gd_X12_remember this) rfl rfl rfl (Nat.le_of_ble_eq_true rfl) (by decide) (by decide) d_X12_cast_32 (fun _ => ?_)
    refine sa_aload_n C d_X12_cast_35 rfl 0 rfl ?_
    refine sa_aload_n C d_X12_cast_36 rfl 0 rfl ?_
    refine sa_getR C fd_X12_64 rfl d_X12_cast_37 (fun v4 => ?_)
    refine sa_iload_n C d_X12_cast_40 rfl 1 rfl ?_
    refine sa_iload_n C d_X12_cast_41 rfl 2 rfl ?_
    refine sa_invV (ci := 12) C (k_X12_casts this v4 a1 a2) q1883 ds_X12_casts q128 rfl q1882 q82 q1880 (gd_X12_casts this v4 a1 a2) rfl rfl rfl (Nat.le_of_ble_eq_true rfl) (by decide) (by decide) d_X12_cast_42 (fun _ => ?_)
    refine sa_aload_n C d_X12_cast_45 rfl 0 rfl ?_
    refine sa_getR C fd_X12_64 rfl d_X12_cast_46 (fun v5 => ?_)
    refine sa_bipush (v := 75) C d_X12_cast_49 (by decide) ?_
    refine sa_iald C d_X12_cast_51 (fun v6 => ?_)
    refine sa_iconst (v := 1) C d_X12_cast_52 (by decide) ?_
    refine sa_isub C d_X12_cast_53 ?_
    exact sa_iret C d_X12_cast_54
  exact sa_sub [] rfl (hj29)
theorem k_X12_cast (this : Nat) (a1 : Int32) (a2 : Int32) : sa_Met 3 yX12_cast cX12_cast 3 (some .int) (fun ad => [.ref (ad this), .int a1, .int a2]) sa_eI (f_X12_cast this a1 a2) := sa_mk (by decide) (fun ad => Nat.le_of_ble_eq_true rfl) (fun p l e s m args below meth c D ad cA A C => b_X12_cast this a1 a2 C)
theorem gd_X12_cast (this : Nat) (a1 : Int32) (a2 : Int32) (σ : sa_St) (r : Int32) (τ : sa_St) (h : f_X12_cast this a1 a2 σ = some (r, τ)) : sa_sh this = some (.inl 12) := sa_gd_ok h
theorem d_X12_hour_0 : decode cX12_hour 0 = .ok (.aload_n 0, 1) := by decide +kernel
theorem d_X12_hour_1 : decode cX12_hour 1 = .ok (.iconst 0, 1) := by decide +kernel
theorem d_X12_hour_2 : decode cX12_hour 2 = .ok (.putfield 127, 3) := by decide +kernel
theorem d_X12_hour_5 : decode cX12_hour 5 = .ok (.aload_n 0, 1) := by decide +kernel
theorem d_X12_hour_6 : decode cX12_hour 6 = .ok (.getfield 331, 3) := by decide +kernel
theorem d_X12_hour_9 : decode cX12_hour 9 = .ok (.ifCond .eq 17, 3) := by decide +kernel
theorem d_X12_hour_12 : decode cX12_hour 12 = .ok (.iload_n 1, 1) := by decide +kernel
theorem d_X12_hour_13 : decode cX12_hour 13 = .ok (.ifCond .lt 13, 3) := by decide +kernel
theorem d_X12_hour_16 : decode cX12_hour 16 = .ok (.iload_n 1, 1) := by decide +kernel
theorem d_X12_hour_17 : decode cX12_hour 17 = .ok (.iconst 1, 1) := by decide +kernel
theorem d_X12_hour_18 : decode cX12_hour 18 = .ok (.aload_n 0, 1) := by decide +kernel
theorem d_X12_hour_19 : decode cX12_hour 19 = .ok (.getfield 331, 3) := by decide +kernel
theorem d_X12_hour_22 : decode cX12_hour 22 = .ok (.ishl, 1) := by decide +kernel
theorem d_X12_hour_23 : decode cX12_hour 23 = .ok (.if_icmp .lt 5, 3) := by decide +kernel
theorem d_X12_hour_26 : decode cX12_hour 26 = .ok (.iconst (-1), 1) := by decide +kernel
theorem d_X12_hour_27 : decode cX12_hour 27 = .ok (.ireturn, 1) := by decide +kernel
theorem d_X12_hour_28 : decode cX12_hour 28 = .ok (.aload_n 0, 1) := by decide +kernel
theorem d_X12_hour_29 : decode cX12_hour 29 = .ok (.invokevirtual 413, 3) := by decide +kernel
theorem d_X12_hour_32 : decode cX12_hour 32 = .ok (.aload_n 0, 1) := by decide +kernel
theorem d_X12_hour_33 : decode cX12_hour 33 = .ok (.aload_n 0, 1) := by decide +kernel
theorem d_X12_hour_34 : decode cX12_hour 34 = .ok (.getfield 64, 3) := by decide +kernel
theorem d_X12_hour_37 : decode cX12_hour 37 = .ok (.iload_n 1, 1) := by decide +kernel
theorem d_X12_hour_38 : decode cX12_hour 38 = .ok (.invokevirtual 438, 3) := by decide +kernel
theorem d_X12_hour_41 : decode cX12_hour 41 = .ok (.aload_n 0, 1) := by decide +kernel
theorem d_X12_hour_42 : decode cX12_hour 42 = .ok (.getfield 64, 3) := by decide +kernel
theorem d_X12_hour_45 : decode cX12_hour 45 = .ok (.bipush 76, 2) := by decide +kernel
theorem d_X12_hour_47 : decode cX12_hour 47 = .ok (.iaload, 1) := by decide +kernel
theorem d_X12_hour_48 : decode cX12_hour 48 = .ok (.ireturn, 1) := by decide +kernel
def f_X12_hour (this : Nat) (a1 : Int32) : sa_M Int32 :=
sa_gd 12 this (
sa_bnd (sa_wrI 12 this 0 0) fun _ =>
sa_bnd (sa_rdI 12 this 25) fun v1 =>
sa_jn0 (sa_ret ((-1) : Int32)) fun j26 =>
if v1 = 0 then
j26
else
if a1 < 0 then
j26
else
sa_bnd (sa_rdI 12 this 25) fun v2 =>
if a1 < (1 <<< (v2 &&& 31)) then
sa_bnd (f_X12_remember this) fun _ =>
sa_bnd (sa_rdR 12 this 35) fun v3 =>
sa_bnd (f_X12_goHour this v3 a1) fun _ =>
sa_bnd (sa_rdR 12 this 35) fun v4 =>
sa_bnd (sa_ldI .int v4 76) fun v5 =>
sa_ret (v5 : Int32)
else
j26)
set_option maxHeartbeats 1000000 in
set_option maxRecDepth 10000 in
theorem b_X12_hour {p : Program} {l : Launch} {e : Env} {s : State} {m : MethodId} {args : Array Value} {below : List Frame} {meth : Method} {c : Code} {D : va_G} {ad : Nat → Nat} {cA : FieldType → ClassId} {A : Nat → Prop} (this : Nat) (a1 : Int32) (C : sa_C p s m args meth c cX12_hour RX12 "hour" 2 (some .int) D ad cA A) : sa_Sg p l e s m args below meth c 2 134 D ad cA A sa_eI 0 [(0, .ref (ad this)), (1, .int a1)] [] (f_X12_hour this a1) := by
  unfold f_X12_hour
  refine sa_gdI ?_
  refine sa_aload_n C d_X12_hour_0 rfl 0 rfl ?_
  refine sa_iconst (v := 0) C d_X12_hour_1 (by decide) ?_
  refine sa_putI C fd_X12_127 d_X12_hour_2 ?_
  refine sa_aload_n C d_X12_hour_5 rfl 0 rfl ?_
  refine sa_getI C fd_X12_331 d_X12_hour_6 (fun v1 => ?_)
  refine sa_join0 26 ([]) ([]) (?_) (fun j26 hj26 => ?_)
  · refine sa_iconst (v := (-1)) C d_X12_hour_26 (by decide) ?_
    exact sa_iret C d_X12_hour_27
  refine sa_if_eq (tgt := 26) C d_X12_hour_9 (by decide) ?_ ?_
  · exact sa_sub [] rfl (hj26)
  refine sa_iload_n C d_X12_hour_12 rfl 1 rfl ?_
  refine sa_if_lt (tgt := 26) C d_X12_hour_13 (by decide) ?_ ?_
  · exact sa_sub [] rfl (hj26)
  refine sa_iload_n C d_X12_hour_16 rfl 1 rfl ?_
  refine sa_iconst (v := 1) C d_X12_hour_17 (by decide) ?_
  refine sa_aload_n C d_X12_hour_18 rfl 0 rfl ?_
  refine sa_getI C fd_X12_331 d_X12_hour_19 (fun v2 => ?_)
  refine sa_ishl C d_X12_hour_22 ?_
  refine sa_icmp_lt (tgt := 28) C d_X12_hour_23 (by decide) ?_ ?_
  · refine sa_aload_n C d_X12_hour_28 rfl 0 rfl ?_
    refine sa_invV (ci := 12) C (k_X12_remember this) q1843 ds_X12_remember q128 rfl q1842 q75 q1840 (gd_X12_remember this) rfl rfl rfl (Nat.le_of_ble_eq_true rfl) (by decide) (by decide) d_X12_hour_29 (fun _ => ?_)
    refine sa_aload_n C d_X12_hour_32 rfl 0 rfl ?_
    refine sa_aload_n C d_X12_hour_33 rfl 0 rfl ?_
    refine sa_getR C fd_X12_64 rfl d_X12_hour_34 (fun v3 => ?_)
    refine sa_iload_n C d_X12_hour_37 rfl 1 rfl ?_
    refine sa_invV (ci := 12) C (k_X12_goHour this v3 a1) q1891 ds_X12_goHour q128 rfl q1890 q83 q1888 (gd_X12_goHour this v3 a1) rfl rfl rfl (Nat.le_of_ble_eq_true rfl) (by decide) (by decide) d_X12_hour_38 (fun _ => ?_)
    refine sa_aload_n C d_X12_hour_41 rfl 0 rfl ?_
    refine sa_getR C fd_X12_64 rfl d_X12_hour_42 (fun v4 => ?_)
    refine sa_bipush (v := 76) C d_X12_hour_45 (by decide) ?_
    refine sa_iald C d_X12_hour_47 (fun v5 => ?_)
    exact sa_iret C d_X12_hour_48
  exact sa_sub [] rfl (hj26)
theorem k_X12_hour (this : Nat) (a1 : Int32) : sa_Met 134 yX12_hour cX12_hour 2 (some .int) (fun ad => [.ref (ad this), .int a1]) sa_eI (f_X12_hour this a1) := sa_mk (by decide) (fun ad => Nat.le_of_ble_eq_true rfl) (fun p l e s m args below meth c D ad cA A C => b_X12_hour this a1 C)
theorem gd_X12_hour (this : Nat) (a1 : Int32) (σ : sa_St) (r : Int32) (τ : sa_St) (h : f_X12_hour this a1 σ = some (r, τ)) : sa_sh this = some (.inl 12) := sa_gd_ok h
theorem d_X12_draw_0 : decode cX12_draw 0 = .ok (.aload_n 0, 1) := by decide +kernel
theorem d_X12_draw_1 : decode cX12_draw 1 = .ok (.aload_n 0, 1) := by decide +kernel
theorem d_X12_draw_2 : decode cX12_draw 2 = .ok (.getfield 441, 3) := by decide +kernel
theorem d_X12_draw_5 : decode cX12_draw 5 = .ok (.ldc2_w 445, 3) := by decide +kernel
theorem d_X12_draw_8 : decode cX12_draw 8 = .ok (.lmul, 1) := by decide +kernel
theorem d_X12_draw_9 : decode cX12_draw 9 = .ok (.ldc2_w 447, 3) := by decide +kernel
theorem d_X12_draw_12 : decode cX12_draw 12 = .ok (.ladd, 1) := by decide +kernel
theorem d_X12_draw_13 : decode cX12_draw 13 = .ok (.putfield 441, 3) := by decide +kernel
theorem d_X12_draw_16 : decode cX12_draw 16 = .ok (.aload_n 0, 1) := by decide +kernel
theorem d_X12_draw_17 : decode cX12_draw 17 = .ok (.getfield 441, 3) := by decide +kernel
theorem d_X12_draw_20 : decode cX12_draw 20 = .ok (.bipush 33, 2) := by decide +kernel
theorem d_X12_draw_22 : decode cX12_draw 22 = .ok (.lushr, 1) := by decide +kernel
theorem d_X12_draw_23 : decode cX12_draw 23 = .ok (.iload_n 1, 1) := by decide +kernel
theorem d_X12_draw_24 : decode cX12_draw 24 = .ok (.i2l, 1) := by decide +kernel
theorem d_X12_draw_25 : decode cX12_draw 25 = .ok (.lrem, 1) := by decide +kernel
theorem d_X12_draw_26 : decode cX12_draw 26 = .ok (.l2i, 1) := by decide +kernel
theorem d_X12_draw_27 : decode cX12_draw 27 = .ok (.ireturn, 1) := by decide +kernel
def f_X12_draw (this : Nat) (a1 : Int32) : sa_M Int32 :=
sa_gd 12 this (
sa_bnd (sa_rdL 12 this 44) fun v1 =>
sa_bnd (sa_wrL 12 this 44 ((v1 * 6364136223846793005) + 1442695040888963407)) fun _ =>
sa_bnd (sa_rdL 12 this 44) fun v2 =>
sa_bnd (sa_mdL ((v2.toUInt64 >>> ((33 : Int32).toInt64.toUInt64 &&& Int64.toUInt64 63)).toInt64) (a1.toInt64)) fun v3 =>
sa_ret ((v3.toInt32) : Int32))
set_option maxHeartbeats 1000000 in
set_option maxRecDepth 10000 in
theorem b_X12_draw {p : Program} {l : Launch} {e : Env} {s : State} {m : MethodId} {args : Array Value} {below : List Frame} {meth : Method} {c : Code} {D : va_G} {ad : Nat → Nat} {cA : FieldType → ClassId} {A : Nat → Prop} (this : Nat) (a1 : Int32) (C : sa_C p s m args meth c cX12_draw RX12 "draw" 2 (some .int) D ad cA A) : sa_Sg p l e s m args below meth c 2 1 D ad cA A sa_eI 0 [(0, .ref (ad this)), (1, .int a1)] [] (f_X12_draw this a1) := by
  unfold f_X12_draw
  refine sa_gdI ?_
  refine sa_aload_n C d_X12_draw_0 rfl 0 rfl ?_
  refine sa_aload_n C d_X12_draw_1 rfl 0 rfl ?_
  refine sa_getL C fd_X12_441 d_X12_draw_2 (fun v1 => ?_)
  refine sa_ldc2 (v := 6364136223846793005) C d_X12_draw_5 q1917 ?_
  refine sa_lmul C d_X12_draw_8 ?_
  refine sa_ldc2 (v := 1442695040888963407) C d_X12_draw_9 q1918 ?_
  refine sa_ladd C d_X12_draw_12 ?_
  refine sa_putL C fd_X12_441 d_X12_draw_13 ?_
  refine sa_aload_n C d_X12_draw_16 rfl 0 rfl ?_
  refine sa_getL C fd_X12_441 d_X12_draw_17 (fun v2 => ?_)
  refine sa_bipush (v := 33) C d_X12_draw_20 (by decide) ?_
  refine sa_lushr C d_X12_draw_22 ?_
  refine sa_iload_n C d_X12_draw_23 rfl 1 rfl ?_
  refine sa_i2l C d_X12_draw_24 ?_
  refine sa_lrem C d_X12_draw_25 (fun v3 => ?_)
  refine sa_l2i C d_X12_draw_26 ?_
  exact sa_iret C d_X12_draw_27
theorem k_X12_draw (this : Nat) (a1 : Int32) : sa_Met 1 yX12_draw cX12_draw 2 (some .int) (fun ad => [.ref (ad this), .int a1]) sa_eI (f_X12_draw this a1) := sa_mk (by decide) (fun ad => Nat.le_of_ble_eq_true rfl) (fun p l e s m args below meth c D ad cA A C => b_X12_draw this a1 C)
theorem gd_X12_draw (this : Nat) (a1 : Int32) (σ : sa_St) (r : Int32) (τ : sa_St) (h : f_X12_draw this a1 σ = some (r, τ)) : sa_sh this = some (.inl 12) := sa_gd_ok h
theorem d_X12_war_0 : decode cX12_war 0 = .ok (.aload_n 0, 1) := by decide +kernel
theorem d_X12_war_1 : decode cX12_war 1 = .ok (.iconst 0, 1) := by decide +kernel
theorem d_X12_war_2 : decode cX12_war 2 = .ok (.putfield 127, 3) := by decide +kernel
theorem d_X12_war_5 : decode cX12_war 5 = .ok (.aload_n 0, 1) := by decide +kernel
theorem d_X12_war_6 : decode cX12_war 6 = .ok (.getfield 331, 3) := by decide +kernel
theorem d_X12_war_9 : decode cX12_war 9 = .ok (.ifCond .eq 15, 3) := by decide +kernel
theorem d_X12_war_12 : decode cX12_war 12 = .ok (.iload_n 1, 1) := by decide +kernel
theorem d_X12_war_13 : decode cX12_war 13 = .ok (.i2l, 1) := by decide +kernel
theorem d_X12_war_14 : decode cX12_war 14 = .ok (.lconst 1, 1) := by decide +kernel
theorem d_X12_war_15 : decode cX12_war 15 = .ok (.ldc2_w 449, 3) := by decide +kernel
theorem d_X12_war_18 : decode cX12_war 18 = .ok (.invokestatic 248, 3) := by decide +kernel
theorem d_X12_war_21 : decode cX12_war 21 = .ok (.ifCond .ne 5, 3) := by decide +kernel
theorem d_X12_war_24 : decode cX12_war 24 = .ok (.iconst (-1), 1) := by decide +kernel
theorem d_X12_war_25 : decode cX12_war 25 = .ok (.ireturn, 1) := by decide +kernel
theorem d_X12_war_26 : decode cX12_war 26 = .ok (.aload_n 0, 1) := by decide +kernel
theorem d_X12_war_27 : decode cX12_war 27 = .ok (.lload_n 2, 1) := by decide +kernel
theorem d_X12_war_28 : decode cX12_war 28 = .ok (.putfield 441, 3) := by decide +kernel
theorem d_X12_war_31 : decode cX12_war 31 = .ok (.iconst 0, 1) := by decide +kernel
theorem d_X12_war_32 : decode cX12_war 32 = .ok (.istore 4, 2) := by decide +kernel
theorem d_X12_war_34 : decode cX12_war 34 = .ok (.iload 4, 2) := by decide +kernel
theorem d_X12_war_36 : decode cX12_war 36 = .ok (.iload_n 1, 1) := by decide +kernel
theorem d_X12_war_37 : decode cX12_war 37 = .ok (.if_icmp .ge 77, 3) := by decide +kernel
theorem d_X12_war_40 : decode cX12_war 40 = .ok (.iconst 0, 1) := by decide +kernel
theorem d_X12_war_41 : decode cX12_war 41 = .ok (.istore 5, 2) := by decide +kernel
theorem d_X12_war_43 : decode cX12_war 43 = .ok (.iconst 0, 1) := by decide +kernel
theorem d_X12_war_44 : decode cX12_war 44 = .ok (.istore 6, 2) := by decide +kernel
theorem d_X12_war_46 : decode cX12_war 46 = .ok (.iload 6, 2) := by decide +kernel
theorem d_X12_war_48 : decode cX12_war 48 = .ok (.aload_n 0, 1) := by decide +kernel
theorem d_X12_war_49 : decode cX12_war 49 = .ok (.getfield 331, 3) := by decide +kernel
theorem d_X12_war_52 : decode cX12_war 52 = .ok (.if_icmp .ge 42, 3) := by decide +kernel
theorem d_X12_war_55 : decode cX12_war 55 = .ok (.iload 5, 2) := by decide +kernel
theorem d_X12_war_57 : decode cX12_war 57 = .ok (.aload_n 0, 1) := by decide +kernel
theorem d_X12_war_58 : decode cX12_war 58 = .ok (.bipush 100, 2) := by decide +kernel
theorem d_X12_war_60 : decode cX12_war 60 = .ok (.invokevirtual 451, 3) := by decide +kernel
theorem d_X12_war_63 : decode cX12_war 63 = .ok (.aload_n 0, 1) := by decide +kernel
theorem d_X12_war_64 : decode cX12_war 64 = .ok (.getfield 37, 3) := by decide +kernel
theorem d_X12_war_67 : decode cX12_war 67 = .ok (.iconst 4, 1) := by decide +kernel
theorem d_X12_war_68 : decode cX12_war 68 = .ok (.iload 6, 2) := by decide +kernel
theorem d_X12_war_70 : decode cX12_war 70 = .ok (.imul, 1) := by decide +kernel
theorem d_X12_war_71 : decode cX12_war 71 = .ok (.iconst 2, 1) := by decide +kernel
theorem d_X12_war_72 : decode cX12_war 72 = .ok (.iadd, 1) := by decide +kernel
theorem d_X12_war_73 : decode cX12_war 73 = .ok (.iaload, 1) := by decide +kernel
theorem d_X12_war_74 : decode cX12_war 74 = .ok (.if_icmp .ge 10, 3) := by decide +kernel
theorem d_X12_war_77 : decode cX12_war 77 = .ok (.iconst 1, 1) := by decide +kernel
theorem d_X12_war_78 : decode cX12_war 78 = .ok (.iload 6, 2) := by decide +kernel
theorem d_X12_war_80 : decode cX12_war 80 = .ok (.ishl, 1) := by decide +kernel
theorem d_X12_war_81 : decode cX12_war 81 = .ok (.goto 4, 3) := by decide +kernel
theorem d_X12_war_84 : decode cX12_war 84 = .ok (.iconst 0, 1) := by decide +kernel
theorem d_X12_war_85 : decode cX12_war 85 = .ok (.ior, 1) := by decide +kernel
theorem d_X12_war_86 : decode cX12_war 86 = .ok (.istore 5, 2) := by decide +kernel
theorem d_X12_war_88 : decode cX12_war 88 = .ok (.iinc 6 1, 3) := by decide +kernel
theorem d_X12_war_91 : decode cX12_war 91 = .ok (.goto (-45), 3) := by decide +kernel
theorem d_X12_war_94 : decode cX12_war 94 = .ok (.aload_n 0, 1) := by decide +kernel
theorem d_X12_war_95 : decode cX12_war 95 = .ok (.invokevirtual 413, 3) := by decide +kernel
theorem d_X12_war_98 : decode cX12_war 98 = .ok (.aload_n 0, 1) := by decide +kernel
theorem d_X12_war_99 : decode cX12_war 99 = .ok (.aload_n 0, 1) := by decide +kernel
theorem d_X12_war_100 : decode cX12_war 100 = .ok (.getfield 64, 3) := by decide +kernel
theorem d_X12_war_103 : decode cX12_war 103 = .ok (.iload 5, 2) := by decide +kernel
theorem d_X12_war_105 : decode cX12_war 105 = .ok (.invokevirtual 438, 3) := by decide +kernel
theorem d_X12_war_108 : decode cX12_war 108 = .ok (.iinc 4 1, 3) := by decide +kernel
theorem d_X12_war_111 : decode cX12_war 111 = .ok (.goto (-77), 3) := by decide +kernel
theorem d_X12_war_114 : decode cX12_war 114 = .ok (.aload_n 0, 1) := by decide +kernel
theorem d_X12_war_115 : decode cX12_war 115 = .ok (.getfield 64, 3) := by decide +kernel
theorem d_X12_war_118 : decode cX12_war 118 = .ok (.bipush 76, 2) := by decide +kernel
theorem d_X12_war_120 : decode cX12_war 120 = .ok (.iaload, 1) := by decide +kernel
theorem d_X12_war_121 : decode cX12_war 121 = .ok (.ireturn, 1) := by decide +kernel
def f_X12_war (this : Nat) (a1 : Int32) (a2 : Int64) : sa_M Int32 :=
sa_gd 12 this (
sa_bnd (sa_wrI 12 this 0 0) fun _ =>
sa_bnd (sa_rdI 12 this 25) fun v1 =>
sa_jn0 (sa_ret ((-1) : Int32)) fun j24 =>
if v1 = 0 then
j24
else
sa_bnd (f_X12_isIn (a1.toInt64) 1 48) fun v2 =>
if ¬ v2 = 0 then
sa_bnd (sa_wrL 12 this 44 a2) fun _ =>
sa_let (0 : Int32) fun x3 =>
sa_wh1 (fun j34 (x4 : Int32) =>
if a1 ≤ x4 then
sa_bnd (sa_rdR 12 this 35) fun v5 =>
sa_bnd (sa_ldI .int v5 76) fun v6 =>
sa_ret (v6 : Int32)
else
sa_let (0 : Int32) fun x7 =>
sa_let (0 : Int32) fun x8 =>
sa_wh2 (fun j46 (x9 : Int32) (x10 : Int32) =>
sa_bnd (sa_rdI 12 this 25) fun v11 =>
if v11 ≤ x10 then
sa_bnd (f_X12_remember this) fun _ =>
sa_bnd (sa_rdR 12 this 35) fun v12 =>
sa_bnd (f_X12_goHour this v12 x9) fun _ =>
sa_let ((x4 + 1) : Int32) fun x13 =>
j34 x13
else
sa_bnd (f_X12_draw this 100) fun v14 =>
sa_bnd (sa_rdR 12 this 18) fun v15 =>
sa_bnd (sa_ldI .int v15 ((4 * x10) + 2)) fun v16 =>
sa_jn1 (fun (y17 : Int32) =>
sa_let ((x9 ||| y17) : Int32) fun x18 =>
sa_let ((x10 + 1) : Int32) fun x19 =>
j46 x18 x19) fun j85 =>
if v16 ≤ v14 then
j85 0
else
j85 (1 <<< (x10 &&& 31))) sa_F x7 x8) sa_F x3
else
j24)
set_option maxHeartbeats 1000000 in
set_option maxRecDepth 10000 in
theorem b_X12_war {p : Program} {l : Launch} {e : Env} {s : State} {m : MethodId} {args : Array Value} {below : List Frame} {meth : Method} {c : Code} {D : va_G} {ad : Nat → Nat} {cA : FieldType → ClassId} {A : Nat → Prop} (this : Nat) (a1 : Int32) (a2 : Int64) (C : sa_C p s m args meth c cX12_war RX12 "war" 7 (some .int) D ad cA A) : sa_Sg p l e s m args below meth c 7 134 D ad cA A sa_eI 0 [(0, .ref (ad this)), (1, .int a1), (2, .long a2)] [] (f_X12_war this a1 a2) := by
  unfold f_X12_war
  refine sa_gdI ?_
  refine sa_aload_n C d_X12_war_0 rfl 0 rfl ?_
  refine sa_iconst (v := 0) C d_X12_war_1 (by decide) ?_
  refine sa_putI C fd_X12_127 d_X12_war_2 ?_
  refine sa_aload_n C d_X12_war_5 rfl 0 rfl ?_
  refine sa_getI C fd_X12_331 d_X12_war_6 (fun v1 => ?_)
  refine sa_join0 24 ([]) ([]) (?_) (fun j24 hj24 => ?_)
  · refine sa_iconst (v := (-1)) C d_X12_war_24 (by decide) ?_
    exact sa_iret C d_X12_war_25
  refine sa_if_eq (tgt := 24) C d_X12_war_9 (by decide) ?_ ?_
  · exact sa_sub [] rfl (hj24)
  refine sa_iload_n C d_X12_war_12 rfl 1 rfl ?_
  refine sa_i2l C d_X12_war_13 ?_
  refine sa_lconst (v := 1) C d_X12_war_14 (by decide) ?_
  refine sa_ldc2 (v := 48) C d_X12_war_15 q1912 ?_
  refine sa_invS C (k_X12_isIn (a1.toInt64) 1 48) q1637 ds_X12_isIn q128 q1636 q1635 rfl rfl rfl (Nat.le_of_ble_eq_true rfl) (by decide) (by decide) d_X12_war_18 (fun v2 => ?_)
  refine sa_if_ne (tgt := 26) C d_X12_war_21 (by decide) ?_ ?_
  · refine sa_aload_n C d_X12_war_26 rfl 0 rfl ?_
    refine sa_lload_n C d_X12_war_27 rfl 2 rfl ?_
    refine sa_putL C fd_X12_441 d_X12_war_28 ?_
    refine sa_iconst (v := 0) C d_X12_war_31 (by decide) ?_
    refine sa_topi (fun x3 => ?_)
    refine sa_istore (lv' := [(4, .int x3), (0, .ref (ad this)), (1, .int a1), (2, .long a2)]) C d_X12_war_32 (by decide) rfl ?_
    refine sa_sub [1, 2, 0] rfl (sa_loop1 (fun x4 => [(0, .ref (ad this)), (1, .int a1), (4, .int x4)]) (fun x4 => []) (fun j34 hj34 x4 => ?_) _ _)
    refine sa_iload C d_X12_war_34 2 rfl ?_
    refine sa_iload_n C d_X12_war_36 rfl 1 rfl ?_
    refine sa_icmp_ge (tgt := 114) C d_X12_war_37 (by decide) ?_ ?_
    · refine sa_aload_n C d_X12_war_114 rfl 0 rfl ?_
      refine sa_getR C fd_X12_64 rfl d_X12_war_115 (fun v5 => ?_)
      refine sa_bipush (v := 76) C d_X12_war_118 (by decide) ?_
      refine sa_iald C d_X12_war_120 (fun v6 => ?_)
      exact sa_iret C d_X12_war_121
    refine sa_iconst (v := 0) C d_X12_war_40 (by decide) ?_
    refine sa_topi (fun x7 => ?_)
    refine sa_istore (lv' := [(5, .int x7), (0, .ref (ad this)), (1, .int a1), (4, .int x4)]) C d_X12_war_41 (by decide) rfl ?_
    refine sa_iconst (v := 0) C d_X12_war_43 (by decide) ?_
    refine sa_topi (fun x8 => ?_)
    refine sa_istore (lv' := [(6, .int x8), (5, .int x7), (0, .ref (ad this)), (1, .int a1), (4, .int x4)]) C d_X12_war_44 (by decide) rfl ?_
    refine sa_sub [2, 3, 4, 1, 0] rfl (sa_loop2 (fun x9 x10 => [(0, .ref (ad this)), (1, .int a1), (4, .int x4), (5, .int x9), (6, .int x10)]) (fun x9 x10 => []) (fun j46 hj46 x9 x10 => ?_) _ _ _)
    refine sa_iload C d_X12_war_46 4 rfl ?_
    refine sa_aload_n C d_X12_war_48 rfl 0 rfl ?_
    refine sa_getI C fd_X12_331 d_X12_war_49 (fun v11 => ?_)
    refine sa_icmp_ge (tgt := 94) C d_X12_war_52 (by decide) ?_ ?_
    · refine sa_aload_n C d_X12_war_94 rfl 0 rfl ?_
      refine sa_invV (ci := 12) C (k_X12_remember this) q1843 ds_X12_remember q128 rfl q1842 q75 q1840 (gd_X12_remember this) rfl rfl rfl (Nat.le_of_ble_eq_true rfl) (by decide) (by decide) d_X12_war_95 (fun _ => ?_)
      refine sa_aload_n C d_X12_war_98 rfl 0 rfl ?_
      refine sa_aload_n C d_X12_war_99 rfl 0 rfl ?_
      refine sa_getR C fd_X12_64 rfl d_X12_war_100 (fun v12 => ?_)
      refine sa_iload C d_X12_war_103 3 rfl ?_
      refine sa_invV (ci := 12) C (k_X12_goHour this v12 x9) q1891 ds_X12_goHour q128 rfl q1890 q83 q1888 (gd_X12_goHour this v12 x9) rfl rfl rfl (Nat.le_of_ble_eq_true rfl) (by decide) (by decide) d_X12_war_105 (fun _ => ?_)
      refine sa_iinc C (fun zz => [(4, .int zz), (0, .ref (ad this)), (1, .int a1), (5, .int x9), (6, .int x10)]) d_X12_war_108 2 rfl rfl (by decide) (fun _ => rfl) (fun x13 => ?_)
      refine sa_goto (tgt := 34) C d_X12_war_111 (by decide) ?_
      exact sa_sub [1, 2, 0] rfl (hj34 _)
    refine sa_iload C d_X12_war_55 3 rfl ?_
    refine sa_aload_n C d_X12_war_57 rfl 0 rfl ?_
    refine sa_bipush (v := 100) C d_X12_war_58 (by decide) ?_
    refine sa_invV (ci := 12) C (k_X12_draw this 100) q1916 ds_X12_draw q128 rfl q1915 q88 q1913 (gd_X12_draw this 100) rfl rfl rfl (Nat.le_of_ble_eq_true rfl) (by decide) (by decide) d_X12_war_60 (fun v14 => ?_)
    refine sa_aload_n C d_X12_war_63 rfl 0 rfl ?_
    refine sa_getR C fd_X12_37 rfl d_X12_war_64 (fun v15 => ?_)
    refine sa_iconst (v := 4) C d_X12_war_67 (by decide) ?_
    refine sa_iload C d_X12_war_68 4 rfl ?_
    refine sa_imul C d_X12_war_70 ?_
    refine sa_iconst (v := 2) C d_X12_war_71 (by decide) ?_
    refine sa_iadd C d_X12_war_72 ?_
    refine sa_iald C d_X12_war_73 (fun v16 => ?_)
    refine sa_join1 85 (fun y17 => [(0, .ref (ad this)), (1, .int a1), (4, .int x4), (6, .int x10)]) (fun y17 => [.int y17, .int x9]) (fun y17 => ?_) (fun j85 hj85 => ?_)
    · refine sa_ior C d_X12_war_85 ?_
      refine sa_topi (fun x18 => ?_)
      refine sa_istore (lv' := [(5, .int x18), (0, .ref (ad this)), (1, .int a1), (4, .int x4), (6, .int x10)]) C d_X12_war_86 (by decide) rfl ?_
      refine sa_iinc C (fun zz => [(6, .int zz), (5, .int x18), (0, .ref (ad this)), (1, .int a1), (4, .int x4)]) d_X12_war_88 4 rfl rfl (by decide) (fun _ => rfl) (fun x19 => ?_)
      refine sa_goto (tgt := 46) C d_X12_war_91 (by decide) ?_
      exact sa_sub [2, 3, 4, 1, 0] rfl (hj46 _ _)
    refine sa_icmp_ge (tgt := 84) C d_X12_war_74 (by decide) ?_ ?_
    · refine sa_iconst (v := 0) C d_X12_war_84 (by decide) ?_
      exact sa_sub [0, 1, 2, 4] rfl (hj85 _)
    refine sa_iconst (v := 1) C d_X12_war_77 (by decide) ?_
    refine sa_iload C d_X12_war_78 4 rfl ?_
    refine sa_ishl C d_X12_war_80 ?_
    refine sa_goto (tgt := 85) C d_X12_war_81 (by decide) ?_
    exact sa_sub [0, 1, 2, 4] rfl (hj85 _)
  exact sa_sub [] rfl (hj24)
theorem k_X12_war (this : Nat) (a1 : Int32) (a2 : Int64) : sa_Met 134 yX12_war cX12_war 7 (some .int) (fun ad => [.ref (ad this), .int a1, .long a2]) sa_eI (f_X12_war this a1 a2) := sa_mk (by decide) (fun ad => Nat.le_of_ble_eq_true rfl) (fun p l e s m args below meth c D ad cA A C => b_X12_war this a1 a2 C)
theorem gd_X12_war (this : Nat) (a1 : Int32) (a2 : Int64) (σ : sa_St) (r : Int32) (τ : sa_St) (h : f_X12_war this a1 a2 σ = some (r, τ)) : sa_sh this = some (.inl 12) := sa_gd_ok h
theorem d_X12_undo_0 : decode cX12_undo 0 = .ok (.aload_n 0, 1) := by decide +kernel
theorem d_X12_undo_1 : decode cX12_undo 1 = .ok (.iconst 0, 1) := by decide +kernel
theorem d_X12_undo_2 : decode cX12_undo 2 = .ok (.putfield 127, 3) := by decide +kernel
theorem d_X12_undo_5 : decode cX12_undo 5 = .ok (.aload_n 0, 1) := by decide +kernel
theorem d_X12_undo_6 : decode cX12_undo 6 = .ok (.getfield 346, 3) := by decide +kernel
theorem d_X12_undo_9 : decode cX12_undo 9 = .ok (.ifCond .ne 5, 3) := by decide +kernel
theorem d_X12_undo_12 : decode cX12_undo 12 = .ok (.iconst (-1), 1) := by decide +kernel
theorem d_X12_undo_13 : decode cX12_undo 13 = .ok (.ireturn, 1) := by decide +kernel
theorem d_X12_undo_14 : decode cX12_undo 14 = .ok (.aload_n 0, 1) := by decide +kernel
theorem d_X12_undo_15 : decode cX12_undo 15 = .ok (.dup, 1) := by decide +kernel
theorem d_X12_undo_16 : decode cX12_undo 16 = .ok (.getfield 346, 3) := by decide +kernel
theorem d_X12_undo_19 : decode cX12_undo 19 = .ok (.iconst 1, 1) := by decide +kernel
theorem d_X12_undo_20 : decode cX12_undo 20 = .ok (.isub, 1) := by decide +kernel
theorem d_X12_undo_21 : decode cX12_undo 21 = .ok (.putfield 346, 3) := by decide +kernel
theorem d_X12_undo_24 : decode cX12_undo 24 = .ok (.iconst 0, 1) := by decide +kernel
theorem d_X12_undo_25 : decode cX12_undo 25 = .ok (.istore_n 1, 1) := by decide +kernel
theorem d_X12_undo_26 : decode cX12_undo 26 = .ok (.iload_n 1, 1) := by decide +kernel
theorem d_X12_undo_27 : decode cX12_undo 27 = .ok (.sipush 260, 3) := by decide +kernel
theorem d_X12_undo_30 : decode cX12_undo 30 = .ok (.if_icmp .ge 30, 3) := by decide +kernel
theorem d_X12_undo_33 : decode cX12_undo 33 = .ok (.aload_n 0, 1) := by decide +kernel
theorem d_X12_undo_34 : decode cX12_undo 34 = .ok (.getfield 64, 3) := by decide +kernel
theorem d_X12_undo_37 : decode cX12_undo 37 = .ok (.iload_n 1, 1) := by decide +kernel
theorem d_X12_undo_38 : decode cX12_undo 38 = .ok (.aload_n 0, 1) := by decide +kernel
theorem d_X12_undo_39 : decode cX12_undo 39 = .ok (.getfield 81, 3) := by decide +kernel
theorem d_X12_undo_42 : decode cX12_undo 42 = .ok (.sipush 260, 3) := by decide +kernel
theorem d_X12_undo_45 : decode cX12_undo 45 = .ok (.aload_n 0, 1) := by decide +kernel
theorem d_X12_undo_46 : decode cX12_undo 46 = .ok (.getfield 346, 3) := by decide +kernel
theorem d_X12_undo_49 : decode cX12_undo 49 = .ok (.imul, 1) := by decide +kernel
theorem d_X12_undo_50 : decode cX12_undo 50 = .ok (.iload_n 1, 1) := by decide +kernel
theorem d_X12_undo_51 : decode cX12_undo 51 = .ok (.iadd, 1) := by decide +kernel
theorem d_X12_undo_52 : decode cX12_undo 52 = .ok (.iaload, 1) := by decide +kernel
theorem d_X12_undo_53 : decode cX12_undo 53 = .ok (.iastore, 1) := by decide +kernel
theorem d_X12_undo_54 : decode cX12_undo 54 = .ok (.iinc 1 1, 3) := by decide +kernel
theorem d_X12_undo_57 : decode cX12_undo 57 = .ok (.goto (-31), 3) := by decide +kernel
theorem d_X12_undo_60 : decode cX12_undo 60 = .ok (.aload_n 0, 1) := by decide +kernel
theorem d_X12_undo_61 : decode cX12_undo 61 = .ok (.getfield 346, 3) := by decide +kernel
theorem d_X12_undo_64 : decode cX12_undo 64 = .ok (.ireturn, 1) := by decide +kernel
def f_X12_undo (this : Nat) : sa_M Int32 :=
sa_gd 12 this (
sa_bnd (sa_wrI 12 this 0 0) fun _ =>
sa_bnd (sa_rdI 12 this 43) fun v1 =>
if ¬ v1 = 0 then
sa_bnd (sa_rdI 12 this 43) fun v2 =>
sa_bnd (sa_wrI 12 this 43 (v2 - 1)) fun _ =>
sa_let (0 : Int32) fun x3 =>
sa_wh1 (fun j26 (x4 : Int32) =>
if 260 ≤ x4 then
sa_bnd (sa_rdI 12 this 43) fun v5 =>
sa_ret (v5 : Int32)
else
sa_bnd (sa_rdR 12 this 35) fun v6 =>
sa_bnd (sa_rdR 12 this 42) fun v7 =>
sa_bnd (sa_rdI 12 this 43) fun v8 =>
sa_bnd (sa_ldI .int v7 ((260 * v8) + x4)) fun v9 =>
sa_bnd (sa_stI v6 x4 v9) fun _ =>
sa_let ((x4 + 1) : Int32) fun x10 =>
j26 x10) sa_F x3
else
sa_ret ((-1) : Int32))
set_option maxHeartbeats 1000000 in
set_option maxRecDepth 10000 in
theorem b_X12_undo {p : Program} {l : Launch} {e : Env} {s : State} {m : MethodId} {args : Array Value} {below : List Frame} {meth : Method} {c : Code} {D : va_G} {ad : Nat → Nat} {cA : FieldType → ClassId} {A : Nat → Prop} (this : Nat) (C : sa_C p s m args meth c cX12_undo RX12 "undo" 2 (some .int) D ad cA A) : sa_Sg p l e s m args below meth c 2 1 D ad cA A sa_eI 0 [(0, .ref (ad this))] [] (f_X12_undo this) := by
  unfold f_X12_undo
  refine sa_gdI ?_
  refine sa_aload_n C d_X12_undo_0 rfl 0 rfl ?_
  refine sa_iconst (v := 0) C d_X12_undo_1 (by decide) ?_
  refine sa_putI C fd_X12_127 d_X12_undo_2 ?_
  refine sa_aload_n C d_X12_undo_5 rfl 0 rfl ?_
  refine sa_getI C fd_X12_346 d_X12_undo_6 (fun v1 => ?_)
  refine sa_if_ne (tgt := 14) C d_X12_undo_9 (by decide) ?_ ?_
  · refine sa_aload_n C d_X12_undo_14 rfl 0 rfl ?_
    refine sa_dup C d_X12_undo_15 rfl ?_
    refine sa_getI C fd_X12_346 d_X12_undo_16 (fun v2 => ?_)
    refine sa_iconst (v := 1) C d_X12_undo_19 (by decide) ?_
    refine sa_isub C d_X12_undo_20 ?_
    refine sa_putI C fd_X12_346 d_X12_undo_21 ?_
    refine sa_iconst (v := 0) C d_X12_undo_24 (by decide) ?_
    refine sa_topi (fun x3 => ?_)
    refine sa_istore_n (lv' := [(1, .int x3), (0, .ref (ad this))]) C d_X12_undo_25 rfl (by decide) rfl ?_
    refine sa_sub [1, 0] rfl (sa_loop1 (fun x4 => [(0, .ref (ad this)), (1, .int x4)]) (fun x4 => []) (fun j26 hj26 x4 => ?_) _ _)
    refine sa_iload_n C d_X12_undo_26 rfl 1 rfl ?_
    refine sa_sipush (v := 260) C d_X12_undo_27 (by decide) ?_
    refine sa_icmp_ge (tgt := 60) C d_X12_undo_30 (by decide) ?_ ?_
    · refine sa_aload_n C d_X12_undo_60 rfl 0 rfl ?_
      refine sa_getI C fd_X12_346 d_X12_undo_61 (fun v5 => ?_)
      exact sa_iret C d_X12_undo_64
    refine sa_aload_n C d_X12_undo_33 rfl 0 rfl ?_
    refine sa_getR C fd_X12_64 rfl d_X12_undo_34 (fun v6 => ?_)
    refine sa_iload_n C d_X12_undo_37 rfl 1 rfl ?_
    refine sa_aload_n C d_X12_undo_38 rfl 0 rfl ?_
    refine sa_getR C fd_X12_81 rfl d_X12_undo_39 (fun v7 => ?_)
    refine sa_sipush (v := 260) C d_X12_undo_42 (by decide) ?_
    refine sa_aload_n C d_X12_undo_45 rfl 0 rfl ?_
    refine sa_getI C fd_X12_346 d_X12_undo_46 (fun v8 => ?_)
    refine sa_imul C d_X12_undo_49 ?_
    refine sa_iload_n C d_X12_undo_50 rfl 1 rfl ?_
    refine sa_iadd C d_X12_undo_51 ?_
    refine sa_iald C d_X12_undo_52 (fun v9 => ?_)
    refine sa_iast C d_X12_undo_53 ?_
    refine sa_iinc C (fun zz => [(1, .int zz), (0, .ref (ad this))]) d_X12_undo_54 1 rfl rfl (by decide) (fun _ => rfl) (fun x10 => ?_)
    refine sa_goto (tgt := 26) C d_X12_undo_57 (by decide) ?_
    exact sa_sub [1, 0] rfl (hj26 _)
  refine sa_iconst (v := (-1)) C d_X12_undo_12 (by decide) ?_
  exact sa_iret C d_X12_undo_13
theorem k_X12_undo (this : Nat) : sa_Met 1 yX12_undo cX12_undo 2 (some .int) (fun ad => [.ref (ad this)]) sa_eI (f_X12_undo this) := sa_mk (by decide) (fun ad => Nat.le_of_ble_eq_true rfl) (fun p l e s m args below meth c D ad cA A C => b_X12_undo this C)
theorem gd_X12_undo (this : Nat) (σ : sa_St) (r : Int32) (τ : sa_St) (h : f_X12_undo this σ = some (r, τ)) : sa_sh this = some (.inl 12) := sa_gd_ok h
theorem d_X12_log_0 : decode cX12_log 0 = .ok (.aload_n 0, 1) := by decide +kernel
theorem d_X12_log_1 : decode cX12_log 1 = .ok (.iconst 0, 1) := by decide +kernel
theorem d_X12_log_2 : decode cX12_log 2 = .ok (.putfield 127, 3) := by decide +kernel
theorem d_X12_log_5 : decode cX12_log 5 = .ok (.iload_n 1, 1) := by decide +kernel
theorem d_X12_log_6 : decode cX12_log 6 = .ok (.i2l, 1) := by decide +kernel
theorem d_X12_log_7 : decode cX12_log 7 = .ok (.lconst 0, 1) := by decide +kernel
theorem d_X12_log_8 : decode cX12_log 8 = .ok (.aload_n 0, 1) := by decide +kernel
theorem d_X12_log_9 : decode cX12_log 9 = .ok (.getfield 64, 3) := by decide +kernel
theorem d_X12_log_12 : decode cX12_log 12 = .ok (.bipush 79, 2) := by decide +kernel
theorem d_X12_log_14 : decode cX12_log 14 = .ok (.iaload, 1) := by decide +kernel
theorem d_X12_log_15 : decode cX12_log 15 = .ok (.iconst 1, 1) := by decide +kernel
theorem d_X12_log_16 : decode cX12_log 16 = .ok (.isub, 1) := by decide +kernel
theorem d_X12_log_17 : decode cX12_log 17 = .ok (.i2l, 1) := by decide +kernel
theorem d_X12_log_18 : decode cX12_log 18 = .ok (.invokestatic 248, 3) := by decide +kernel
theorem d_X12_log_21 : decode cX12_log 21 = .ok (.ifCond .eq 41, 3) := by decide +kernel
theorem d_X12_log_24 : decode cX12_log 24 = .ok (.iload_n 2, 1) := by decide +kernel
theorem d_X12_log_25 : decode cX12_log 25 = .ok (.i2l, 1) := by decide +kernel
theorem d_X12_log_26 : decode cX12_log 26 = .ok (.lconst 0, 1) := by decide +kernel
theorem d_X12_log_27 : decode cX12_log 27 = .ok (.ldc2_w 312, 3) := by decide +kernel
theorem d_X12_log_30 : decode cX12_log 30 = .ok (.invokestatic 248, 3) := by decide +kernel
theorem d_X12_log_33 : decode cX12_log 33 = .ok (.ifCond .eq 29, 3) := by decide +kernel
theorem d_X12_log_36 : decode cX12_log 36 = .ok (.aload_n 0, 1) := by decide +kernel
theorem d_X12_log_37 : decode cX12_log 37 = .ok (.getfield 64, 3) := by decide +kernel
theorem d_X12_log_40 : decode cX12_log 40 = .ok (.bipush 80, 2) := by decide +kernel
theorem d_X12_log_42 : decode cX12_log 42 = .ok (.iconst 3, 1) := by decide +kernel
theorem d_X12_log_43 : decode cX12_log 43 = .ok (.aload_n 0, 1) := by decide +kernel
theorem d_X12_log_44 : decode cX12_log 44 = .ok (.getfield 64, 3) := by decide +kernel
theorem d_X12_log_47 : decode cX12_log 47 = .ok (.bipush 79, 2) := by decide +kernel
theorem d_X12_log_49 : decode cX12_log 49 = .ok (.iaload, 1) := by decide +kernel
theorem d_X12_log_50 : decode cX12_log 50 = .ok (.iconst 1, 1) := by decide +kernel
theorem d_X12_log_51 : decode cX12_log 51 = .ok (.isub, 1) := by decide +kernel
theorem d_X12_log_52 : decode cX12_log 52 = .ok (.iload_n 1, 1) := by decide +kernel
theorem d_X12_log_53 : decode cX12_log 53 = .ok (.isub, 1) := by decide +kernel
theorem d_X12_log_54 : decode cX12_log 54 = .ok (.imul, 1) := by decide +kernel
theorem d_X12_log_55 : decode cX12_log 55 = .ok (.iadd, 1) := by decide +kernel
theorem d_X12_log_56 : decode cX12_log 56 = .ok (.iload_n 2, 1) := by decide +kernel
theorem d_X12_log_57 : decode cX12_log 57 = .ok (.iadd, 1) := by decide +kernel
theorem d_X12_log_58 : decode cX12_log 58 = .ok (.iaload, 1) := by decide +kernel
theorem d_X12_log_59 : decode cX12_log 59 = .ok (.goto 4, 3) := by decide +kernel
theorem d_X12_log_62 : decode cX12_log 62 = .ok (.iconst (-1), 1) := by decide +kernel
theorem d_X12_log_63 : decode cX12_log 63 = .ok (.ireturn, 1) := by decide +kernel
def f_X12_log (this : Nat) (a1 : Int32) (a2 : Int32) : sa_M Int32 :=
sa_gd 12 this (
sa_bnd (sa_wrI 12 this 0 0) fun _ =>
sa_bnd (sa_rdR 12 this 35) fun v1 =>
sa_bnd (sa_ldI .int v1 79) fun v2 =>
sa_bnd (f_X12_isIn (a1.toInt64) 0 ((v2 - 1).toInt64)) fun v3 =>
sa_jn1 (fun (y4 : Int32) =>
sa_ret (y4 : Int32)) fun j63 =>
sa_jn0 (j63 (-1)) fun j62 =>
if v3 = 0 then
j62
else
sa_bnd (f_X12_isIn (a2.toInt64) 0 2) fun v5 =>
if v5 = 0 then
j62
else
sa_bnd (sa_rdR 12 this 35) fun v6 =>
sa_bnd (sa_rdR 12 this 35) fun v7 =>
sa_bnd (sa_ldI .int v7 79) fun v8 =>
sa_bnd (sa_ldI .int v6 ((80 + (3 * ((v8 - 1) - a1))) + a2)) fun v9 =>
j63 v9)
set_option maxHeartbeats 1000000 in
set_option maxRecDepth 10000 in
theorem b_X12_log {p : Program} {l : Launch} {e : Env} {s : State} {m : MethodId} {args : Array Value} {below : List Frame} {meth : Method} {c : Code} {D : va_G} {ad : Nat → Nat} {cA : FieldType → ClassId} {A : Nat → Prop} (this : Nat) (a1 : Int32) (a2 : Int32) (C : sa_C p s m args meth c cX12_log RX12 "log" 3 (some .int) D ad cA A) : sa_Sg p l e s m args below meth c 3 2 D ad cA A sa_eI 0 [(0, .ref (ad this)), (1, .int a1), (2, .int a2)] [] (f_X12_log this a1 a2) := by
  unfold f_X12_log
  refine sa_gdI ?_
  refine sa_aload_n C d_X12_log_0 rfl 0 rfl ?_
  refine sa_iconst (v := 0) C d_X12_log_1 (by decide) ?_
  refine sa_putI C fd_X12_127 d_X12_log_2 ?_
  refine sa_iload_n C d_X12_log_5 rfl 1 rfl ?_
  refine sa_i2l C d_X12_log_6 ?_
  refine sa_lconst (v := 0) C d_X12_log_7 (by decide) ?_
  refine sa_aload_n C d_X12_log_8 rfl 0 rfl ?_
  refine sa_getR C fd_X12_64 rfl d_X12_log_9 (fun v1 => ?_)
  refine sa_bipush (v := 79) C d_X12_log_12 (by decide) ?_
  refine sa_iald C d_X12_log_14 (fun v2 => ?_)
  refine sa_iconst (v := 1) C d_X12_log_15 (by decide) ?_
  refine sa_isub C d_X12_log_16 ?_
  refine sa_i2l C d_X12_log_17 ?_
  refine sa_invS C (k_X12_isIn (a1.toInt64) 0 ((v2 - 1).toInt64)) q1637 ds_X12_isIn q128 q1636 q1635 rfl rfl rfl (Nat.le_of_ble_eq_true rfl) (by decide) (by decide) d_X12_log_18 (fun v3 => ?_)
  refine sa_join1 63 (fun y4 => []) (fun y4 => [.int y4]) (fun y4 => ?_) (fun j63 hj63 => ?_)
  · exact sa_iret C d_X12_log_63
  refine sa_join0 62 ([]) ([]) (?_) (fun j62 hj62 => ?_)
  · refine sa_iconst (v := (-1)) C d_X12_log_62 (by decide) ?_
    exact sa_sub [] rfl (hj63 _)
  refine sa_if_eq (tgt := 62) C d_X12_log_21 (by decide) ?_ ?_
  · exact sa_sub [] rfl (hj62)
  refine sa_iload_n C d_X12_log_24 rfl 2 rfl ?_
  refine sa_i2l C d_X12_log_25 ?_
  refine sa_lconst (v := 0) C d_X12_log_26 (by decide) ?_
  refine sa_ldc2 (v := 2) C d_X12_log_27 q1634 ?_
  refine sa_invS C (k_X12_isIn (a2.toInt64) 0 2) q1637 ds_X12_isIn q128 q1636 q1635 rfl rfl rfl (Nat.le_of_ble_eq_true rfl) (by decide) (by decide) d_X12_log_30 (fun v5 => ?_)
  refine sa_if_eq (tgt := 62) C d_X12_log_33 (by decide) ?_ ?_
  · exact sa_sub [] rfl (hj62)
  refine sa_aload_n C d_X12_log_36 rfl 0 rfl ?_
  refine sa_getR C fd_X12_64 rfl d_X12_log_37 (fun v6 => ?_)
  refine sa_bipush (v := 80) C d_X12_log_40 (by decide) ?_
  refine sa_iconst (v := 3) C d_X12_log_42 (by decide) ?_
  refine sa_aload_n C d_X12_log_43 rfl 0 rfl ?_
  refine sa_getR C fd_X12_64 rfl d_X12_log_44 (fun v7 => ?_)
  refine sa_bipush (v := 79) C d_X12_log_47 (by decide) ?_
  refine sa_iald C d_X12_log_49 (fun v8 => ?_)
  refine sa_iconst (v := 1) C d_X12_log_50 (by decide) ?_
  refine sa_isub C d_X12_log_51 ?_
  refine sa_iload_n C d_X12_log_52 rfl 1 rfl ?_
  refine sa_isub C d_X12_log_53 ?_
  refine sa_imul C d_X12_log_54 ?_
  refine sa_iadd C d_X12_log_55 ?_
  refine sa_iload_n C d_X12_log_56 rfl 2 rfl ?_
  refine sa_iadd C d_X12_log_57 ?_
  refine sa_iald C d_X12_log_58 (fun v9 => ?_)
  refine sa_goto (tgt := 63) C d_X12_log_59 (by decide) ?_
  exact sa_sub [] rfl (hj63 _)
theorem k_X12_log (this : Nat) (a1 : Int32) (a2 : Int32) : sa_Met 2 yX12_log cX12_log 3 (some .int) (fun ad => [.ref (ad this), .int a1, .int a2]) sa_eI (f_X12_log this a1 a2) := sa_mk (by decide) (fun ad => Nat.le_of_ble_eq_true rfl) (fun p l e s m args below meth c D ad cA A C => b_X12_log this a1 a2 C)
theorem gd_X12_log (this : Nat) (a1 : Int32) (a2 : Int32) (σ : sa_St) (r : Int32) (τ : sa_St) (h : f_X12_log this a1 a2 σ = some (r, τ)) : sa_sh this = some (.inl 12) := sa_gd_ok h
theorem d_X12_step_0 : decode cX12_step 0 = .ok (.aload_n 0, 1) := by decide +kernel
theorem d_X12_step_1 : decode cX12_step 1 = .ok (.iconst 0, 1) := by decide +kernel
theorem d_X12_step_2 : decode cX12_step 2 = .ok (.putfield 127, 3) := by decide +kernel
theorem d_X12_step_5 : decode cX12_step 5 = .ok (.iload_n 1, 1) := by decide +kernel
theorem d_X12_step_6 : decode cX12_step 6 = .ok (.i2l, 1) := by decide +kernel
theorem d_X12_step_7 : decode cX12_step 7 = .ok (.lconst 0, 1) := by decide +kernel
theorem d_X12_step_8 : decode cX12_step 8 = .ok (.aload_n 0, 1) := by decide +kernel
theorem d_X12_step_9 : decode cX12_step 9 = .ok (.getfield 326, 3) := by decide +kernel
theorem d_X12_step_12 : decode cX12_step 12 = .ok (.iconst 1, 1) := by decide +kernel
theorem d_X12_step_13 : decode cX12_step 13 = .ok (.isub, 1) := by decide +kernel
theorem d_X12_step_14 : decode cX12_step 14 = .ok (.i2l, 1) := by decide +kernel
theorem d_X12_step_15 : decode cX12_step 15 = .ok (.invokestatic 248, 3) := by decide +kernel
theorem d_X12_step_18 : decode cX12_step 18 = .ok (.ifCond .eq 51, 3) := by decide +kernel
theorem d_X12_step_21 : decode cX12_step 21 = .ok (.iload_n 2, 1) := by decide +kernel
theorem d_X12_step_22 : decode cX12_step 22 = .ok (.i2l, 1) := by decide +kernel
theorem d_X12_step_23 : decode cX12_step 23 = .ok (.lconst 0, 1) := by decide +kernel
theorem d_X12_step_24 : decode cX12_step 24 = .ok (.aload_n 0, 1) := by decide +kernel
theorem d_X12_step_25 : decode cX12_step 25 = .ok (.getfield 61, 3) := by decide +kernel
theorem d_X12_step_28 : decode cX12_step 28 = .ok (.iload_n 1, 1) := by decide +kernel
theorem d_X12_step_29 : decode cX12_step 29 = .ok (.iaload, 1) := by decide +kernel
theorem d_X12_step_30 : decode cX12_step 30 = .ok (.iconst 1, 1) := by decide +kernel
theorem d_X12_step_31 : decode cX12_step 31 = .ok (.isub, 1) := by decide +kernel
theorem d_X12_step_32 : decode cX12_step 32 = .ok (.i2l, 1) := by decide +kernel
theorem d_X12_step_33 : decode cX12_step 33 = .ok (.invokestatic 248, 3) := by decide +kernel
theorem d_X12_step_36 : decode cX12_step 36 = .ok (.ifCond .eq 33, 3) := by decide +kernel
theorem d_X12_step_39 : decode cX12_step 39 = .ok (.iload_n 3, 1) := by decide +kernel
theorem d_X12_step_40 : decode cX12_step 40 = .ok (.i2l, 1) := by decide +kernel
theorem d_X12_step_41 : decode cX12_step 41 = .ok (.lconst 0, 1) := by decide +kernel
theorem d_X12_step_42 : decode cX12_step 42 = .ok (.ldc2_w 312, 3) := by decide +kernel
theorem d_X12_step_45 : decode cX12_step 45 = .ok (.invokestatic 248, 3) := by decide +kernel
theorem d_X12_step_48 : decode cX12_step 48 = .ok (.ifCond .eq 21, 3) := by decide +kernel
theorem d_X12_step_51 : decode cX12_step 51 = .ok (.aload_n 0, 1) := by decide +kernel
theorem d_X12_step_52 : decode cX12_step 52 = .ok (.getfield 58, 3) := by decide +kernel
theorem d_X12_step_55 : decode cX12_step 55 = .ok (.iconst 3, 1) := by decide +kernel
theorem d_X12_step_56 : decode cX12_step 56 = .ok (.bipush 16, 2) := by decide +kernel
theorem d_X12_step_58 : decode cX12_step 58 = .ok (.iload_n 1, 1) := by decide +kernel
theorem d_X12_step_59 : decode cX12_step 59 = .ok (.imul, 1) := by decide +kernel
theorem d_X12_step_60 : decode cX12_step 60 = .ok (.iload_n 2, 1) := by decide +kernel
theorem d_X12_step_61 : decode cX12_step 61 = .ok (.iadd, 1) := by decide +kernel
theorem d_X12_step_62 : decode cX12_step 62 = .ok (.imul, 1) := by decide +kernel
theorem d_X12_step_63 : decode cX12_step 63 = .ok (.iload_n 3, 1) := by decide +kernel
theorem d_X12_step_64 : decode cX12_step 64 = .ok (.iadd, 1) := by decide +kernel
theorem d_X12_step_65 : decode cX12_step 65 = .ok (.iaload, 1) := by decide +kernel
theorem d_X12_step_66 : decode cX12_step 66 = .ok (.goto 4, 3) := by decide +kernel
theorem d_X12_step_69 : decode cX12_step 69 = .ok (.iconst (-1), 1) := by decide +kernel
theorem d_X12_step_70 : decode cX12_step 70 = .ok (.ireturn, 1) := by decide +kernel
def f_X12_step (this : Nat) (a1 : Int32) (a2 : Int32) (a3 : Int32) : sa_M Int32 :=
sa_gd 12 this (
sa_bnd (sa_wrI 12 this 0 0) fun _ =>
sa_bnd (sa_rdI 12 this 34) fun v1 =>
sa_bnd (f_X12_isIn (a1.toInt64) 0 ((v1 - 1).toInt64)) fun v2 =>
sa_jn1 (fun (y3 : Int32) =>
sa_ret (y3 : Int32)) fun j70 =>
sa_jn0 (j70 (-1)) fun j69 =>
if v2 = 0 then
j69
else
sa_bnd (sa_rdR 12 this 33) fun v4 =>
sa_bnd (sa_ldI .int v4 a1) fun v5 =>
sa_bnd (f_X12_isIn (a2.toInt64) 0 ((v5 - 1).toInt64)) fun v6 =>
if v6 = 0 then
j69
else
sa_bnd (f_X12_isIn (a3.toInt64) 0 2) fun v7 =>
if v7 = 0 then
j69
else
sa_bnd (sa_rdR 12 this 32) fun v8 =>
sa_bnd (sa_ldI .int v8 ((3 * ((16 * a1) + a2)) + a3)) fun v9 =>
j70 v9)
set_option maxHeartbeats 1000000 in
set_option maxRecDepth 10000 in
theorem b_X12_step {p : Program} {l : Launch} {e : Env} {s : State} {m : MethodId} {args : Array Value} {below : List Frame} {meth : Method} {c : Code} {D : va_G} {ad : Nat → Nat} {cA : FieldType → ClassId} {A : Nat → Prop} (this : Nat) (a1 : Int32) (a2 : Int32) (a3 : Int32) (C : sa_C p s m args meth c cX12_step RX12 "step" 4 (some .int) D ad cA A) : sa_Sg p l e s m args below meth c 4 2 D ad cA A sa_eI 0 [(0, .ref (ad this)), (1, .int a1), (2, .int a2), (3, .int a3)] [] (f_X12_step this a1 a2 a3) := by
  unfold f_X12_step
  refine sa_gdI ?_
  refine sa_aload_n C d_X12_step_0 rfl 0 rfl ?_
  refine sa_iconst (v := 0) C d_X12_step_1 (by decide) ?_
  refine sa_putI C fd_X12_127 d_X12_step_2 ?_
  refine sa_iload_n C d_X12_step_5 rfl 1 rfl ?_
  refine sa_i2l C d_X12_step_6 ?_
  refine sa_lconst (v := 0) C d_X12_step_7 (by decide) ?_
  refine sa_aload_n C d_X12_step_8 rfl 0 rfl ?_
  refine sa_getI C fd_X12_326 d_X12_step_9 (fun v1 => ?_)
  refine sa_iconst (v := 1) C d_X12_step_12 (by decide) ?_
  refine sa_isub C d_X12_step_13 ?_
  refine sa_i2l C d_X12_step_14 ?_
  refine sa_invS C (k_X12_isIn (a1.toInt64) 0 ((v1 - 1).toInt64)) q1637 ds_X12_isIn q128 q1636 q1635 rfl rfl rfl (Nat.le_of_ble_eq_true rfl) (by decide) (by decide) d_X12_step_15 (fun v2 => ?_)
  refine sa_join1 70 (fun y3 => []) (fun y3 => [.int y3]) (fun y3 => ?_) (fun j70 hj70 => ?_)
  · exact sa_iret C d_X12_step_70
  refine sa_join0 69 ([]) ([]) (?_) (fun j69 hj69 => ?_)
  · refine sa_iconst (v := (-1)) C d_X12_step_69 (by decide) ?_
    exact sa_sub [] rfl (hj70 _)
  refine sa_if_eq (tgt := 69) C d_X12_step_18 (by decide) ?_ ?_
  · exact sa_sub [] rfl (hj69)
  refine sa_iload_n C d_X12_step_21 rfl 2 rfl ?_
  refine sa_i2l C d_X12_step_22 ?_
  refine sa_lconst (v := 0) C d_X12_step_23 (by decide) ?_
  refine sa_aload_n C d_X12_step_24 rfl 0 rfl ?_
  refine sa_getR C fd_X12_61 rfl d_X12_step_25 (fun v4 => ?_)
  refine sa_iload_n C d_X12_step_28 rfl 1 rfl ?_
  refine sa_iald C d_X12_step_29 (fun v5 => ?_)
  refine sa_iconst (v := 1) C d_X12_step_30 (by decide) ?_
  refine sa_isub C d_X12_step_31 ?_
  refine sa_i2l C d_X12_step_32 ?_
  refine sa_invS C (k_X12_isIn (a2.toInt64) 0 ((v5 - 1).toInt64)) q1637 ds_X12_isIn q128 q1636 q1635 rfl rfl rfl (Nat.le_of_ble_eq_true rfl) (by decide) (by decide) d_X12_step_33 (fun v6 => ?_)
  refine sa_if_eq (tgt := 69) C d_X12_step_36 (by decide) ?_ ?_
  · exact sa_sub [] rfl (hj69)
  refine sa_iload_n C d_X12_step_39 rfl 3 rfl ?_
  refine sa_i2l C d_X12_step_40 ?_
  refine sa_lconst (v := 0) C d_X12_step_41 (by decide) ?_
  refine sa_ldc2 (v := 2) C d_X12_step_42 q1634 ?_
  refine sa_invS C (k_X12_isIn (a3.toInt64) 0 2) q1637 ds_X12_isIn q128 q1636 q1635 rfl rfl rfl (Nat.le_of_ble_eq_true rfl) (by decide) (by decide) d_X12_step_45 (fun v7 => ?_)
  refine sa_if_eq (tgt := 69) C d_X12_step_48 (by decide) ?_ ?_
  · exact sa_sub [] rfl (hj69)
  refine sa_aload_n C d_X12_step_51 rfl 0 rfl ?_
  refine sa_getR C fd_X12_58 rfl d_X12_step_52 (fun v8 => ?_)
  refine sa_iconst (v := 3) C d_X12_step_55 (by decide) ?_
  refine sa_bipush (v := 16) C d_X12_step_56 (by decide) ?_
  refine sa_iload_n C d_X12_step_58 rfl 1 rfl ?_
  refine sa_imul C d_X12_step_59 ?_
  refine sa_iload_n C d_X12_step_60 rfl 2 rfl ?_
  refine sa_iadd C d_X12_step_61 ?_
  refine sa_imul C d_X12_step_62 ?_
  refine sa_iload_n C d_X12_step_63 rfl 3 rfl ?_
  refine sa_iadd C d_X12_step_64 ?_
  refine sa_iald C d_X12_step_65 (fun v9 => ?_)
  refine sa_goto (tgt := 70) C d_X12_step_66 (by decide) ?_
  exact sa_sub [] rfl (hj70 _)
theorem k_X12_step (this : Nat) (a1 : Int32) (a2 : Int32) (a3 : Int32) : sa_Met 2 yX12_step cX12_step 4 (some .int) (fun ad => [.ref (ad this), .int a1, .int a2, .int a3]) sa_eI (f_X12_step this a1 a2 a3) := sa_mk (by decide) (fun ad => Nat.le_of_ble_eq_true rfl) (fun p l e s m args below meth c D ad cA A C => b_X12_step this a1 a2 a3 C)
theorem gd_X12_step (this : Nat) (a1 : Int32) (a2 : Int32) (a3 : Int32) (σ : sa_St) (r : Int32) (τ : sa_St) (h : f_X12_step this a1 a2 a3 σ = some (r, τ)) : sa_sh this = some (.inl 12) := sa_gd_ok h
theorem d_X12_canStep_0 : decode cX12_canStep 0 = .ok (.aload_n 0, 1) := by decide +kernel
theorem d_X12_canStep_1 : decode cX12_canStep 1 = .ok (.getfield 58, 3) := by decide +kernel
theorem d_X12_canStep_4 : decode cX12_canStep 4 = .ok (.iload_n 2, 1) := by decide +kernel
theorem d_X12_canStep_5 : decode cX12_canStep 5 = .ok (.iconst 1, 1) := by decide +kernel
theorem d_X12_canStep_6 : decode cX12_canStep 6 = .ok (.iadd, 1) := by decide +kernel
theorem d_X12_canStep_7 : decode cX12_canStep 7 = .ok (.iaload, 1) := by decide +kernel
theorem d_X12_canStep_8 : decode cX12_canStep 8 = .ok (.istore_n 3, 1) := by decide +kernel
theorem d_X12_canStep_9 : decode cX12_canStep 9 = .ok (.aload_n 0, 1) := by decide +kernel
theorem d_X12_canStep_10 : decode cX12_canStep 10 = .ok (.getfield 58, 3) := by decide +kernel
theorem d_X12_canStep_13 : decode cX12_canStep 13 = .ok (.iload_n 2, 1) := by decide +kernel
theorem d_X12_canStep_14 : decode cX12_canStep 14 = .ok (.iconst 2, 1) := by decide +kernel
theorem d_X12_canStep_15 : decode cX12_canStep 15 = .ok (.iadd, 1) := by decide +kernel
theorem d_X12_canStep_16 : decode cX12_canStep 16 = .ok (.iaload, 1) := by decide +kernel
theorem d_X12_canStep_17 : decode cX12_canStep 17 = .ok (.istore 4, 2) := by decide +kernel
theorem d_X12_canStep_19 : decode cX12_canStep 19 = .ok (.aload_n 0, 1) := by decide +kernel
theorem d_X12_canStep_20 : decode cX12_canStep 20 = .ok (.getfield 58, 3) := by decide +kernel
theorem d_X12_canStep_23 : decode cX12_canStep 23 = .ok (.iload_n 2, 1) := by decide +kernel
theorem d_X12_canStep_24 : decode cX12_canStep 24 = .ok (.iaload, 1) := by decide +kernel
theorem d_X12_canStep_25 : decode cX12_canStep 25 = .ok (.tableswitch 63 0 3 #[31, 40, 49, 56], 31) := by decide +kernel
theorem d_X12_canStep_56 : decode cX12_canStep 56 = .ok (.aload_n 0, 1) := by decide +kernel
theorem d_X12_canStep_57 : decode cX12_canStep 57 = .ok (.aload_n 1, 1) := by decide +kernel
theorem d_X12_canStep_58 : decode cX12_canStep 58 = .ok (.iload_n 3, 1) := by decide +kernel
theorem d_X12_canStep_59 : decode cX12_canStep 59 = .ok (.iload 4, 2) := by decide +kernel
theorem d_X12_canStep_61 : decode cX12_canStep 61 = .ok (.invokevirtual 409, 3) := by decide +kernel
theorem d_X12_canStep_64 : decode cX12_canStep 64 = .ok (.ireturn, 1) := by decide +kernel
theorem d_X12_canStep_65 : decode cX12_canStep 65 = .ok (.aload_n 0, 1) := by decide +kernel
theorem d_X12_canStep_66 : decode cX12_canStep 66 = .ok (.aload_n 1, 1) := by decide +kernel
theorem d_X12_canStep_67 : decode cX12_canStep 67 = .ok (.iload_n 3, 1) := by decide +kernel
theorem d_X12_canStep_68 : decode cX12_canStep 68 = .ok (.iload 4, 2) := by decide +kernel
theorem d_X12_canStep_70 : decode cX12_canStep 70 = .ok (.invokevirtual 420, 3) := by decide +kernel
theorem d_X12_canStep_73 : decode cX12_canStep 73 = .ok (.ireturn, 1) := by decide +kernel
theorem d_X12_canStep_74 : decode cX12_canStep 74 = .ok (.aload_n 0, 1) := by decide +kernel
theorem d_X12_canStep_75 : decode cX12_canStep 75 = .ok (.aload_n 1, 1) := by decide +kernel
theorem d_X12_canStep_76 : decode cX12_canStep 76 = .ok (.iload_n 3, 1) := by decide +kernel
theorem d_X12_canStep_77 : decode cX12_canStep 77 = .ok (.invokevirtual 426, 3) := by decide +kernel
theorem d_X12_canStep_80 : decode cX12_canStep 80 = .ok (.ireturn, 1) := by decide +kernel
theorem d_X12_canStep_81 : decode cX12_canStep 81 = .ok (.aload_n 0, 1) := by decide +kernel
theorem d_X12_canStep_82 : decode cX12_canStep 82 = .ok (.aload_n 1, 1) := by decide +kernel
theorem d_X12_canStep_83 : decode cX12_canStep 83 = .ok (.iload_n 3, 1) := by decide +kernel
theorem d_X12_canStep_84 : decode cX12_canStep 84 = .ok (.invokevirtual 432, 3) := by decide +kernel
theorem d_X12_canStep_87 : decode cX12_canStep 87 = .ok (.ireturn, 1) := by decide +kernel
theorem d_X12_canStep_88 : decode cX12_canStep 88 = .ok (.aload_n 0, 1) := by decide +kernel
theorem d_X12_canStep_89 : decode cX12_canStep 89 = .ok (.getfield 331, 3) := by decide +kernel
theorem d_X12_canStep_92 : decode cX12_canStep 92 = .ok (.ifCond .le 7, 3) := by decide +kernel
theorem d_X12_canStep_95 : decode cX12_canStep 95 = .ok (.iconst 1, 1) := by decide +kernel
theorem d_X12_canStep_96 : decode cX12_canStep 96 = .ok (.goto 4, 3) := by decide +kernel
theorem d_X12_canStep_99 : decode cX12_canStep 99 = .ok (.iconst 0, 1) := by decide +kernel
theorem d_X12_canStep_100 : decode cX12_canStep 100 = .ok (.ireturn, 1) := by decide +kernel
def f_X12_canStep (this : Nat) (a1 : Nat) (a2 : Int32) : sa_M Int32 :=
sa_gd 12 this (
sa_bnd (sa_rdR 12 this 32) fun v1 =>
sa_bnd (sa_ldI .int v1 (a2 + 1)) fun v2 =>
sa_bnd (sa_rdR 12 this 32) fun v3 =>
sa_bnd (sa_ldI .int v3 (a2 + 2)) fun v4 =>
sa_bnd (sa_rdR 12 this 32) fun v5 =>
sa_bnd (sa_ldI .int v5 a2) fun v6 =>
if v6 = 0 then
sa_bnd (f_X12_canMarch this a1 v2 v4) fun v7 =>
sa_retZ v7
else
if v6 = 1 then
sa_bnd (f_X12_canJoin this a1 v2 v4) fun v8 =>
sa_retZ v8
else
if v6 = 2 then
sa_bnd (f_X12_canDig this a1 v2) fun v9 =>
sa_retZ v9
else
if v6 = 3 then
sa_bnd (f_X12_canCast this a1 v2) fun v10 =>
sa_retZ v10
else
sa_bnd (sa_rdI 12 this 25) fun v11 =>
sa_jn1 (fun (y12 : Int32) =>
sa_retZ y12) fun j100 =>
if v11 ≤ 0 then
j100 0
else
j100 1)
set_option maxHeartbeats 1000000 in
set_option maxRecDepth 10000 in
theorem b_X12_canStep {p : Program} {l : Launch} {e : Env} {s : State} {m : MethodId} {args : Array Value} {below : List Frame} {meth : Method} {c : Code} {D : va_G} {ad : Nat → Nat} {cA : FieldType → ClassId} {A : Nat → Prop} (this : Nat) (a1 : Nat) (a2 : Int32) (C : sa_C p s m args meth c cX12_canStep RX12 "canStep" 5 (some .boolean) D ad cA A) : sa_Sg p l e s m args below meth c 5 4 D ad cA A sa_eI 0 [(0, .ref (ad this)), (1, .ref (ad a1)), (2, .int a2)] [] (f_X12_canStep this a1 a2) := by
  unfold f_X12_canStep
  refine sa_gdI ?_
  refine sa_aload_n C d_X12_canStep_0 rfl 0 rfl ?_
  refine sa_getR C fd_X12_58 rfl d_X12_canStep_1 (fun v1 => ?_)
  refine sa_iload_n C d_X12_canStep_4 rfl 2 rfl ?_
  refine sa_iconst (v := 1) C d_X12_canStep_5 (by decide) ?_
  refine sa_iadd C d_X12_canStep_6 ?_
  refine sa_iald C d_X12_canStep_7 (fun v2 => ?_)
  refine sa_istore_n (lv' := [(3, .int v2), (0, .ref (ad this)), (1, .ref (ad a1)), (2, .int a2)]) C d_X12_canStep_8 rfl (by decide) rfl ?_
  refine sa_aload_n C d_X12_canStep_9 rfl 1 rfl ?_
  refine sa_getR C fd_X12_58 rfl d_X12_canStep_10 (fun v3 => ?_)
  refine sa_iload_n C d_X12_canStep_13 rfl 3 rfl ?_
  refine sa_iconst (v := 2) C d_X12_canStep_14 (by decide) ?_
  refine sa_iadd C d_X12_canStep_15 ?_
  refine sa_iald C d_X12_canStep_16 (fun v4 => ?_)
  refine sa_istore (lv' := [(4, .int v4), (3, .int v2), (0, .ref (ad this)), (1, .ref (ad a1)), (2, .int a2)]) C d_X12_canStep_17 (by decide) rfl ?_
  refine sa_aload_n C d_X12_canStep_19 rfl 2 rfl ?_
  refine sa_getR C fd_X12_58 rfl d_X12_canStep_20 (fun v5 => ?_)
  refine sa_iload_n C d_X12_canStep_23 rfl 4 rfl ?_
  refine sa_iald C d_X12_canStep_24 (fun v6 => ?_)
  refine sa_byc (fun c0 => ?_) (fun c0 => ?_)
  · refine sa_tabIn (tgt := 56) C d_X12_canStep_25 (by rw [c0]; decide) (by rw [c0]; decide) (by rw [c0]; rfl) (by decide) ?_
    refine sa_aload_n C d_X12_canStep_56 rfl 2 rfl ?_
    refine sa_aload_n C d_X12_canStep_57 rfl 3 rfl ?_
    refine sa_iload_n C d_X12_canStep_58 rfl 1 rfl ?_
    refine sa_iload C d_X12_canStep_59 0 rfl ?_
    refine sa_invV (ci := 12) C (k_X12_canMarch this a1 v2 v4) q1832 ds_X12_canMarch q128 rfl q1831 q73 q1829 (gd_X12_canMarch this a1 v2 v4) rfl rfl rfl (Nat.le_of_ble_eq_true rfl) (by decide) (by decide) d_X12_canStep_61 (fun v7 => ?_)
    exact sa_zret C d_X12_canStep_64
  refine sa_byc (fun c1 => ?_) (fun c1 => ?_)
  · refine sa_tabIn (tgt := 65) C d_X12_canStep_25 (by rw [c1]; decide) (by rw [c1]; decide) (by rw [c1]; rfl) (by decide) ?_
    refine sa_aload_n C d_X12_canStep_65 rfl 2 rfl ?_
    refine sa_aload_n C d_X12_canStep_66 rfl 3 rfl ?_
    refine sa_iload_n C d_X12_canStep_67 rfl 1 rfl ?_
    refine sa_iload C d_X12_canStep_68 0 rfl ?_
    refine sa_invV (ci := 12) C (k_X12_canJoin this a1 v2 v4) q1855 ds_X12_canJoin q128 rfl q1854 q77 q1852 (gd_X12_canJoin this a1 v2 v4) rfl rfl rfl (Nat.le_of_ble_eq_true rfl) (by decide) (by decide) d_X12_canStep_70 (fun v8 => ?_)
    exact sa_zret C d_X12_canStep_73
  refine sa_byc (fun c2 => ?_) (fun c2 => ?_)
  · refine sa_tabIn (tgt := 74) C d_X12_canStep_25 (by rw [c2]; decide) (by rw [c2]; decide) (by rw [c2]; rfl) (by decide) ?_
    refine sa_aload_n C d_X12_canStep_74 rfl 2 rfl ?_
    refine sa_aload_n C d_X12_canStep_75 rfl 3 rfl ?_
    refine sa_iload_n C d_X12_canStep_76 rfl 1 rfl ?_
    refine sa_invV (ci := 12) C (k_X12_canDig this a1 v2) q1867 ds_X12_canDig q128 rfl q1866 q79 q1864 (gd_X12_canDig this a1 v2) rfl rfl rfl (Nat.le_of_ble_eq_true rfl) (by decide) (by decide) d_X12_canStep_77 (fun v9 => ?_)
    exact sa_zret C d_X12_canStep_80
  refine sa_byc (fun c3 => ?_) (fun c3 => ?_)
  · refine sa_tabIn (tgt := 81) C d_X12_canStep_25 (by rw [c3]; decide) (by rw [c3]; decide) (by rw [c3]; rfl) (by decide) ?_
    refine sa_aload_n C d_X12_canStep_81 rfl 2 rfl ?_
    refine sa_aload_n C d_X12_canStep_82 rfl 3 rfl ?_
    refine sa_iload_n C d_X12_canStep_83 rfl 1 rfl ?_
    refine sa_invV (ci := 12) C (k_X12_canCast this a1 v2) q1879 ds_X12_canCast q128 rfl q1878 q81 q1876 (gd_X12_canCast this a1 v2) rfl rfl rfl (Nat.le_of_ble_eq_true rfl) (by decide) (by decide) d_X12_canStep_84 (fun v10 => ?_)
    exact sa_zret C d_X12_canStep_87
  refine sa_tabOut (tgt := 88) C d_X12_canStep_25 (sa_out4 c0 c1 c2 c3) (by decide) ?_
  refine sa_aload_n C d_X12_canStep_88 rfl 2 rfl ?_
  refine sa_getI C fd_X12_331 d_X12_canStep_89 (fun v11 => ?_)
  refine sa_join1 100 (fun y12 => []) (fun y12 => [.int y12]) (fun y12 => ?_) (fun j100 hj100 => ?_)
  · exact sa_zret C d_X12_canStep_100
  refine sa_if_le (tgt := 99) C d_X12_canStep_92 (by decide) ?_ ?_
  · refine sa_iconst (v := 0) C d_X12_canStep_99 (by decide) ?_
    exact sa_sub [] rfl (hj100 _)
  refine sa_iconst (v := 1) C d_X12_canStep_95 (by decide) ?_
  refine sa_goto (tgt := 100) C d_X12_canStep_96 (by decide) ?_
  exact sa_sub [] rfl (hj100 _)
theorem k_X12_canStep (this : Nat) (a1 : Nat) (a2 : Int32) : sa_Met 4 yX12_canStep cX12_canStep 5 (some .boolean) (fun ad => [.ref (ad this), .ref (ad a1), .int a2]) sa_eI (f_X12_canStep this a1 a2) := sa_mk (by decide) (fun ad => Nat.le_of_ble_eq_true rfl) (fun p l e s m args below meth c D ad cA A C => b_X12_canStep this a1 a2 C)
theorem gd_X12_canStep (this : Nat) (a1 : Nat) (a2 : Int32) (σ : sa_St) (r : Int32) (τ : sa_St) (h : f_X12_canStep this a1 a2 σ = some (r, τ)) : sa_sh this = some (.inl 12) := sa_gd_ok h
theorem d_X12_does_0 : decode cX12_does 0 = .ok (.aload_n 0, 1) := by decide +kernel
theorem d_X12_does_1 : decode cX12_does 1 = .ok (.getfield 58, 3) := by decide +kernel
theorem d_X12_does_4 : decode cX12_does 4 = .ok (.iload_n 2, 1) := by decide +kernel
theorem d_X12_does_5 : decode cX12_does 5 = .ok (.iconst 1, 1) := by decide +kernel
theorem d_X12_does_6 : decode cX12_does 6 = .ok (.iadd, 1) := by decide +kernel
theorem d_X12_does_7 : decode cX12_does 7 = .ok (.iaload, 1) := by decide +kernel
theorem d_X12_does_8 : decode cX12_does 8 = .ok (.istore_n 3, 1) := by decide +kernel
theorem d_X12_does_9 : decode cX12_does 9 = .ok (.aload_n 0, 1) := by decide +kernel
theorem d_X12_does_10 : decode cX12_does 10 = .ok (.getfield 58, 3) := by decide +kernel
theorem d_X12_does_13 : decode cX12_does 13 = .ok (.iload_n 2, 1) := by decide +kernel
theorem d_X12_does_14 : decode cX12_does 14 = .ok (.iconst 2, 1) := by decide +kernel
theorem d_X12_does_15 : decode cX12_does 15 = .ok (.iadd, 1) := by decide +kernel
theorem d_X12_does_16 : decode cX12_does 16 = .ok (.iaload, 1) := by decide +kernel
theorem d_X12_does_17 : decode cX12_does 17 = .ok (.istore 4, 2) := by decide +kernel
theorem d_X12_does_19 : decode cX12_does 19 = .ok (.aload_n 0, 1) := by decide +kernel
theorem d_X12_does_20 : decode cX12_does 20 = .ok (.getfield 58, 3) := by decide +kernel
theorem d_X12_does_23 : decode cX12_does 23 = .ok (.iload_n 2, 1) := by decide +kernel
theorem d_X12_does_24 : decode cX12_does 24 = .ok (.iaload, 1) := by decide +kernel
theorem d_X12_does_25 : decode cX12_does 25 = .ok (.tableswitch 72 0 3 #[31, 42, 53, 62], 31) := by decide +kernel
theorem d_X12_does_56 : decode cX12_does 56 = .ok (.aload_n 0, 1) := by decide +kernel
theorem d_X12_does_57 : decode cX12_does 57 = .ok (.aload_n 1, 1) := by decide +kernel
theorem d_X12_does_58 : decode cX12_does 58 = .ok (.iload_n 3, 1) := by decide +kernel
theorem d_X12_does_59 : decode cX12_does 59 = .ok (.iload 4, 2) := by decide +kernel
theorem d_X12_does_61 : decode cX12_does 61 = .ok (.invokevirtual 416, 3) := by decide +kernel
theorem d_X12_does_64 : decode cX12_does 64 = .ok (.goto 60, 3) := by decide +kernel
theorem d_X12_does_67 : decode cX12_does 67 = .ok (.aload_n 0, 1) := by decide +kernel
theorem d_X12_does_68 : decode cX12_does 68 = .ok (.aload_n 1, 1) := by decide +kernel
theorem d_X12_does_69 : decode cX12_does 69 = .ok (.iload_n 3, 1) := by decide +kernel
theorem d_X12_does_70 : decode cX12_does 70 = .ok (.iload 4, 2) := by decide +kernel
theorem d_X12_does_72 : decode cX12_does 72 = .ok (.invokevirtual 423, 3) := by decide +kernel
theorem d_X12_does_75 : decode cX12_does 75 = .ok (.goto 49, 3) := by decide +kernel
theorem d_X12_does_78 : decode cX12_does 78 = .ok (.aload_n 0, 1) := by decide +kernel
theorem d_X12_does_79 : decode cX12_does 79 = .ok (.aload_n 1, 1) := by decide +kernel
theorem d_X12_does_80 : decode cX12_does 80 = .ok (.iload_n 3, 1) := by decide +kernel
theorem d_X12_does_81 : decode cX12_does 81 = .ok (.invokevirtual 429, 3) := by decide +kernel
theorem d_X12_does_84 : decode cX12_does 84 = .ok (.goto 40, 3) := by decide +kernel
theorem d_X12_does_87 : decode cX12_does 87 = .ok (.aload_n 0, 1) := by decide +kernel
theorem d_X12_does_88 : decode cX12_does 88 = .ok (.aload_n 1, 1) := by decide +kernel
theorem d_X12_does_89 : decode cX12_does 89 = .ok (.iload_n 3, 1) := by decide +kernel
theorem d_X12_does_90 : decode cX12_does 90 = .ok (.iconst 0, 1) := by decide +kernel
theorem d_X12_does_91 : decode cX12_does 91 = .ok (.invokevirtual 435, 3) := by decide +kernel
theorem d_X12_does_94 : decode cX12_does 94 = .ok (.goto 30, 3) := by decide +kernel
theorem d_X12_does_97 : decode cX12_does 97 = .ok (.aload_n 0, 1) := by decide +kernel
theorem d_X12_does_98 : decode cX12_does 98 = .ok (.aload_n 1, 1) := by decide +kernel
theorem d_X12_does_99 : decode cX12_does 99 = .ok (.aload_n 0, 1) := by decide +kernel
theorem d_X12_does_100 : decode cX12_does 100 = .ok (.getfield 58, 3) := by decide +kernel
theorem d_X12_does_103 : decode cX12_does 103 = .ok (.iload_n 2, 1) := by decide +kernel
theorem d_X12_does_104 : decode cX12_does 104 = .ok (.iaload, 1) := by decide +kernel
theorem d_X12_does_105 : decode cX12_does 105 = .ok (.iconst 4, 1) := by decide +kernel
theorem d_X12_does_106 : decode cX12_does 106 = .ok (.if_icmp .ne 7, 3) := by decide +kernel
theorem d_X12_does_109 : decode cX12_does 109 = .ok (.iconst 0, 1) := by decide +kernel
theorem d_X12_does_110 : decode cX12_does 110 = .ok (.goto 11, 3) := by decide +kernel
theorem d_X12_does_113 : decode cX12_does 113 = .ok (.iconst 1, 1) := by decide +kernel
theorem d_X12_does_114 : decode cX12_does 114 = .ok (.aload_n 0, 1) := by decide +kernel
theorem d_X12_does_115 : decode cX12_does 115 = .ok (.getfield 331, 3) := by decide +kernel
theorem d_X12_does_118 : decode cX12_does 118 = .ok (.ishl, 1) := by decide +kernel
theorem d_X12_does_119 : decode cX12_does 119 = .ok (.iconst 1, 1) := by decide +kernel
theorem d_X12_does_120 : decode cX12_does 120 = .ok (.isub, 1) := by decide +kernel
theorem d_X12_does_121 : decode cX12_does 121 = .ok (.invokevirtual 438, 3) := by decide +kernel
theorem d_X12_does_124 : decode cX12_does 124 = .ok (.return_, 1) := by decide +kernel
def f_X12_does (this : Nat) (a1 : Nat) (a2 : Int32) : sa_M Unit :=
sa_gd 12 this (
sa_bnd (sa_rdR 12 this 32) fun v1 =>
sa_bnd (sa_ldI .int v1 (a2 + 1)) fun v2 =>
sa_bnd (sa_rdR 12 this 32) fun v3 =>
sa_bnd (sa_ldI .int v3 (a2 + 2)) fun v4 =>
sa_bnd (sa_rdR 12 this 32) fun v5 =>
sa_bnd (sa_ldI .int v5 a2) fun v6 =>
sa_jn0 (sa_ret ()) fun j124 =>
if v6 = 0 then
sa_bnd (f_X12_marches this a1 v2 v4) fun _ =>
j124
else
if v6 = 1 then
sa_bnd (f_X12_joins this a1 v2 v4) fun _ =>
j124
else
if v6 = 2 then
sa_bnd (f_X12_digs this a1 v2) fun _ =>
j124
else
if v6 = 3 then
sa_bnd (f_X12_casts this a1 v2 0) fun _ =>
j124
else
sa_bnd (sa_rdR 12 this 32) fun v7 =>
sa_bnd (sa_ldI .int v7 a2) fun v8 =>
sa_jn1 (fun (y9 : Int32) =>
sa_bnd (f_X12_goHour this a1 y9) fun _ =>
j124) fun j121 =>
if ¬ v8 = 4 then
sa_bnd (sa_rdI 12 this 25) fun v10 =>
j121 ((1 <<< (v10 &&& 31)) - 1)
else
j121 0)
set_option maxHeartbeats 1000000 in
set_option maxRecDepth 10000 in
theorem b_X12_does {p : Program} {l : Launch} {e : Env} {s : State} {m : MethodId} {args : Array Value} {below : List Frame} {meth : Method} {c : Code} {D : va_G} {ad : Nat → Nat} {cA : FieldType → ClassId} {A : Nat → Prop} (this : Nat) (a1 : Nat) (a2 : Int32) (C : sa_C p s m args meth c cX12_does RX12 "does" 5 none D ad cA A) : sa_Sg p l e s m args below meth c 5 134 D ad cA A sa_eV 0 [(0, .ref (ad this)), (1, .ref (ad a1)), (2, .int a2)] [] (f_X12_does this a1 a2) := by
  unfold f_X12_does
  refine sa_gdI ?_
  refine sa_aload_n C d_X12_does_0 rfl 0 rfl ?_
  refine sa_getR C fd_X12_58 rfl d_X12_does_1 (fun v1 => ?_)
  refine sa_iload_n C d_X12_does_4 rfl 2 rfl ?_
  refine sa_iconst (v := 1) C d_X12_does_5 (by decide) ?_
  refine sa_iadd C d_X12_does_6 ?_
  refine sa_iald C d_X12_does_7 (fun v2 => ?_)
  refine sa_istore_n (lv' := [(3, .int v2), (0, .ref (ad this)), (1, .ref (ad a1)), (2, .int a2)]) C d_X12_does_8 rfl (by decide) rfl ?_
  refine sa_aload_n C d_X12_does_9 rfl 1 rfl ?_
  refine sa_getR C fd_X12_58 rfl d_X12_does_10 (fun v3 => ?_)
  refine sa_iload_n C d_X12_does_13 rfl 3 rfl ?_
  refine sa_iconst (v := 2) C d_X12_does_14 (by decide) ?_
  refine sa_iadd C d_X12_does_15 ?_
  refine sa_iald C d_X12_does_16 (fun v4 => ?_)
  refine sa_istore (lv' := [(4, .int v4), (3, .int v2), (0, .ref (ad this)), (1, .ref (ad a1)), (2, .int a2)]) C d_X12_does_17 (by decide) rfl ?_
  refine sa_aload_n C d_X12_does_19 rfl 2 rfl ?_
  refine sa_getR C fd_X12_58 rfl d_X12_does_20 (fun v5 => ?_)
  refine sa_iload_n C d_X12_does_23 rfl 4 rfl ?_
  refine sa_iald C d_X12_does_24 (fun v6 => ?_)
  refine sa_join0 124 ([]) ([]) (?_) (fun j124 hj124 => ?_)
  · exact sa_vret C d_X12_does_124
  refine sa_byc (fun c0 => ?_) (fun c0 => ?_)
  · refine sa_tabIn (tgt := 56) C d_X12_does_25 (by rw [c0]; decide) (by rw [c0]; decide) (by rw [c0]; rfl) (by decide) ?_
    refine sa_aload_n C d_X12_does_56 rfl 2 rfl ?_
    refine sa_aload_n C d_X12_does_57 rfl 3 rfl ?_
    refine sa_iload_n C d_X12_does_58 rfl 1 rfl ?_
    refine sa_iload C d_X12_does_59 0 rfl ?_
    refine sa_invV (ci := 12) C (k_X12_marches this a1 v2 v4) q1847 ds_X12_marches q128 rfl q1846 q76 q1844 (gd_X12_marches this a1 v2 v4) rfl rfl rfl (Nat.le_of_ble_eq_true rfl) (by decide) (by decide) d_X12_does_61 (fun _ => ?_)
    refine sa_goto (tgt := 124) C d_X12_does_64 (by decide) ?_
    exact sa_sub [] rfl (hj124)
  refine sa_byc (fun c1 => ?_) (fun c1 => ?_)
  · refine sa_tabIn (tgt := 67) C d_X12_does_25 (by rw [c1]; decide) (by rw [c1]; decide) (by rw [c1]; rfl) (by decide) ?_
    refine sa_aload_n C d_X12_does_67 rfl 2 rfl ?_
    refine sa_aload_n C d_X12_does_68 rfl 3 rfl ?_
    refine sa_iload_n C d_X12_does_69 rfl 1 rfl ?_
    refine sa_iload C d_X12_does_70 0 rfl ?_
    refine sa_invV (ci := 12) C (k_X12_joins this a1 v2 v4) q1859 ds_X12_joins q128 rfl q1858 q78 q1856 (gd_X12_joins this a1 v2 v4) rfl rfl rfl (Nat.le_of_ble_eq_true rfl) (by decide) (by decide) d_X12_does_72 (fun _ => ?_)
    refine sa_goto (tgt := 124) C d_X12_does_75 (by decide) ?_
    exact sa_sub [] rfl (hj124)
  refine sa_byc (fun c2 => ?_) (fun c2 => ?_)
  · refine sa_tabIn (tgt := 78) C d_X12_does_25 (by rw [c2]; decide) (by rw [c2]; decide) (by rw [c2]; rfl) (by decide) ?_
    refine sa_aload_n C d_X12_does_78 rfl 2 rfl ?_
    refine sa_aload_n C d_X12_does_79 rfl 3 rfl ?_
    refine sa_iload_n C d_X12_does_80 rfl 1 rfl ?_
    refine sa_invV (ci := 12) C (k_X12_digs this a1 v2) q1871 ds_X12_digs q128 rfl q1870 q80 q1868 (gd_X12_digs this a1 v2) rfl rfl rfl (Nat.le_of_ble_eq_true rfl) (by decide) (by decide) d_X12_does_81 (fun _ => ?_)
    refine sa_goto (tgt := 124) C d_X12_does_84 (by decide) ?_
    exact sa_sub [] rfl (hj124)
  refine sa_byc (fun c3 => ?_) (fun c3 => ?_)
  · refine sa_tabIn (tgt := 87) C d_X12_does_25 (by rw [c3]; decide) (by rw [c3]; decide) (by rw [c3]; rfl) (by decide) ?_
    refine sa_aload_n C d_X12_does_87 rfl 2 rfl ?_
    refine sa_aload_n C d_X12_does_88 rfl 3 rfl ?_
    refine sa_iload_n C d_X12_does_89 rfl 1 rfl ?_
    refine sa_iconst (v := 0) C d_X12_does_90 (by decide) ?_
    refine sa_invV (ci := 12) C (k_X12_casts this a1 v2 0) q1883 ds_X12_casts q128 rfl q1882 q82 q1880 (gd_X12_casts this a1 v2 0) rfl rfl rfl (Nat.le_of_ble_eq_true rfl) (by decide) (by decide) d_X12_does_91 (fun _ => ?_)
    refine sa_goto (tgt := 124) C d_X12_does_94 (by decide) ?_
    exact sa_sub [] rfl (hj124)
  refine sa_tabOut (tgt := 97) C d_X12_does_25 (sa_out4 c0 c1 c2 c3) (by decide) ?_
  refine sa_aload_n C d_X12_does_97 rfl 2 rfl ?_
  refine sa_aload_n C d_X12_does_98 rfl 3 rfl ?_
  refine sa_aload_n C d_X12_does_99 rfl 2 rfl ?_
  refine sa_getR C fd_X12_58 rfl d_X12_does_100 (fun v7 => ?_)
  refine sa_iload_n C d_X12_does_103 rfl 4 rfl ?_
  refine sa_iald C d_X12_does_104 (fun v8 => ?_)
  refine sa_iconst (v := 4) C d_X12_does_105 (by decide) ?_
  refine sa_join1 121 (fun y9 => []) (fun y9 => [.int y9, .ref (ad a1), .ref (ad this)]) (fun y9 => ?_) (fun j121 hj121 => ?_)
  · refine sa_invV (ci := 12) C (k_X12_goHour this a1 y9) q1891 ds_X12_goHour q128 rfl q1890 q83 q1888 (gd_X12_goHour this a1 y9) rfl rfl rfl (Nat.le_of_ble_eq_true rfl) (by decide) (by decide) d_X12_does_121 (fun _ => ?_)
    exact sa_sub [] rfl (hj124)
  refine sa_icmp_ne (tgt := 113) C d_X12_does_106 (by decide) ?_ ?_
  · refine sa_iconst (v := 1) C d_X12_does_113 (by decide) ?_
    refine sa_aload_n C d_X12_does_114 rfl 2 rfl ?_
    refine sa_getI C fd_X12_331 d_X12_does_115 (fun v10 => ?_)
    refine sa_ishl C d_X12_does_118 ?_
    refine sa_iconst (v := 1) C d_X12_does_119 (by decide) ?_
    refine sa_isub C d_X12_does_120 ?_
    exact sa_sub [] rfl (hj121 _)
  refine sa_iconst (v := 0) C d_X12_does_109 (by decide) ?_
  refine sa_goto (tgt := 121) C d_X12_does_110 (by decide) ?_
  exact sa_sub [] rfl (hj121 _)
theorem k_X12_does (this : Nat) (a1 : Nat) (a2 : Int32) : sa_Met 134 yX12_does cX12_does 5 none (fun ad => [.ref (ad this), .ref (ad a1), .int a2]) sa_eV (f_X12_does this a1 a2) := sa_mk (by decide) (fun ad => Nat.le_of_ble_eq_true rfl) (fun p l e s m args below meth c D ad cA A C => b_X12_does this a1 a2 C)
theorem gd_X12_does (this : Nat) (a1 : Nat) (a2 : Int32) (σ : sa_St) (r : Unit) (τ : sa_St) (h : f_X12_does this a1 a2 σ = some (r, τ)) : sa_sh this = some (.inl 12) := sa_gd_ok h
theorem d_X12_grainsOf_0 : decode cX12_grainsOf 0 = .ok (.iconst 0, 1) := by decide +kernel
theorem d_X12_grainsOf_1 : decode cX12_grainsOf 1 = .ok (.istore_n 1, 1) := by decide +kernel
theorem d_X12_grainsOf_2 : decode cX12_grainsOf 2 = .ok (.iconst 0, 1) := by decide +kernel
theorem d_X12_grainsOf_3 : decode cX12_grainsOf 3 = .ok (.istore_n 2, 1) := by decide +kernel
theorem d_X12_grainsOf_4 : decode cX12_grainsOf 4 = .ok (.iload_n 2, 1) := by decide +kernel
theorem d_X12_grainsOf_5 : decode cX12_grainsOf 5 = .ok (.aload_n 0, 1) := by decide +kernel
theorem d_X12_grainsOf_6 : decode cX12_grainsOf 6 = .ok (.bipush 75, 2) := by decide +kernel
theorem d_X12_grainsOf_8 : decode cX12_grainsOf 8 = .ok (.iaload, 1) := by decide +kernel
theorem d_X12_grainsOf_9 : decode cX12_grainsOf 9 = .ok (.if_icmp .ge 20, 3) := by decide +kernel
theorem d_X12_grainsOf_12 : decode cX12_grainsOf 12 = .ok (.iload_n 1, 1) := by decide +kernel
theorem d_X12_grainsOf_13 : decode cX12_grainsOf 13 = .ok (.aload_n 0, 1) := by decide +kernel
theorem d_X12_grainsOf_14 : decode cX12_grainsOf 14 = .ok (.bipush 7, 2) := by decide +kernel
theorem d_X12_grainsOf_16 : decode cX12_grainsOf 16 = .ok (.iload_n 2, 1) := by decide +kernel
theorem d_X12_grainsOf_17 : decode cX12_grainsOf 17 = .ok (.imul, 1) := by decide +kernel
theorem d_X12_grainsOf_18 : decode cX12_grainsOf 18 = .ok (.iconst 2, 1) := by decide +kernel
theorem d_X12_grainsOf_19 : decode cX12_grainsOf 19 = .ok (.iadd, 1) := by decide +kernel
theorem d_X12_grainsOf_20 : decode cX12_grainsOf 20 = .ok (.iaload, 1) := by decide +kernel
theorem d_X12_grainsOf_21 : decode cX12_grainsOf 21 = .ok (.iadd, 1) := by decide +kernel
theorem d_X12_grainsOf_22 : decode cX12_grainsOf 22 = .ok (.istore_n 1, 1) := by decide +kernel
theorem d_X12_grainsOf_23 : decode cX12_grainsOf 23 = .ok (.iinc 2 1, 3) := by decide +kernel
theorem d_X12_grainsOf_26 : decode cX12_grainsOf 26 = .ok (.goto (-22), 3) := by decide +kernel
theorem d_X12_grainsOf_29 : decode cX12_grainsOf 29 = .ok (.iload_n 1, 1) := by decide +kernel
theorem d_X12_grainsOf_30 : decode cX12_grainsOf 30 = .ok (.ireturn, 1) := by decide +kernel
def f_X12_grainsOf (a1 : Nat) : sa_M Int32 :=
sa_let (0 : Int32) fun x1 =>
sa_let (0 : Int32) fun x2 =>
sa_wh2 (fun j4 (x3 : Int32) (x4 : Int32) =>
sa_bnd (sa_ldI .int a1 75) fun v5 =>
if v5 ≤ x4 then
sa_ret (x3 : Int32)
else
sa_bnd (sa_ldI .int a1 ((7 * x4) + 2)) fun v6 =>
sa_let ((x3 + v6) : Int32) fun x7 =>
sa_let ((x4 + 1) : Int32) fun x8 =>
j4 x7 x8) sa_F x1 x2
set_option maxHeartbeats 1000000 in
set_option maxRecDepth 10000 in
theorem b_X12_grainsOf {p : Program} {l : Launch} {e : Env} {s : State} {m : MethodId} {args : Array Value} {below : List Frame} {meth : Method} {c : Code} {D : va_G} {ad : Nat → Nat} {cA : FieldType → ClassId} {A : Nat → Prop} (a1 : Nat) (C : sa_C p s m args meth c cX12_grainsOf RX12 "grainsOf" 3 (some .int) D ad cA A) : sa_Sg p l e s m args below meth c 3 1 D ad cA A sa_eI 0 [(0, .ref (ad a1))] [] (f_X12_grainsOf a1) := by
  unfold f_X12_grainsOf
  refine sa_iconst (v := 0) C d_X12_grainsOf_0 (by decide) ?_
  refine sa_topi (fun x1 => ?_)
  refine sa_istore_n (lv' := [(1, .int x1), (0, .ref (ad a1))]) C d_X12_grainsOf_1 rfl (by decide) rfl ?_
  refine sa_iconst (v := 0) C d_X12_grainsOf_2 (by decide) ?_
  refine sa_topi (fun x2 => ?_)
  refine sa_istore_n (lv' := [(2, .int x2), (1, .int x1), (0, .ref (ad a1))]) C d_X12_grainsOf_3 rfl (by decide) rfl ?_
  refine sa_sub [2, 1, 0] rfl (sa_loop2 (fun x3 x4 => [(0, .ref (ad a1)), (1, .int x3), (2, .int x4)]) (fun x3 x4 => []) (fun j4 hj4 x3 x4 => ?_) _ _ _)
  refine sa_iload_n C d_X12_grainsOf_4 rfl 2 rfl ?_
  refine sa_aload_n C d_X12_grainsOf_5 rfl 0 rfl ?_
  refine sa_bipush (v := 75) C d_X12_grainsOf_6 (by decide) ?_
  refine sa_iald C d_X12_grainsOf_8 (fun v5 => ?_)
  refine sa_icmp_ge (tgt := 29) C d_X12_grainsOf_9 (by decide) ?_ ?_
  · refine sa_iload_n C d_X12_grainsOf_29 rfl 1 rfl ?_
    exact sa_iret C d_X12_grainsOf_30
  refine sa_iload_n C d_X12_grainsOf_12 rfl 1 rfl ?_
  refine sa_aload_n C d_X12_grainsOf_13 rfl 0 rfl ?_
  refine sa_bipush (v := 7) C d_X12_grainsOf_14 (by decide) ?_
  refine sa_iload_n C d_X12_grainsOf_16 rfl 2 rfl ?_
  refine sa_imul C d_X12_grainsOf_17 ?_
  refine sa_iconst (v := 2) C d_X12_grainsOf_18 (by decide) ?_
  refine sa_iadd C d_X12_grainsOf_19 ?_
  refine sa_iald C d_X12_grainsOf_20 (fun v6 => ?_)
  refine sa_iadd C d_X12_grainsOf_21 ?_
  refine sa_topi (fun x7 => ?_)
  refine sa_istore_n (lv' := [(1, .int x7), (0, .ref (ad a1)), (2, .int x4)]) C d_X12_grainsOf_22 rfl (by decide) rfl ?_
  refine sa_iinc C (fun zz => [(2, .int zz), (1, .int x7), (0, .ref (ad a1))]) d_X12_grainsOf_23 2 rfl rfl (by decide) (fun _ => rfl) (fun x8 => ?_)
  refine sa_goto (tgt := 4) C d_X12_grainsOf_26 (by decide) ?_
  exact sa_sub [2, 1, 0] rfl (hj4 _ _)
theorem k_X12_grainsOf (a1 : Nat) : sa_Met 1 yX12_grainsOf cX12_grainsOf 3 (some .int) (fun ad => [.ref (ad a1)]) sa_eI (f_X12_grainsOf a1) := sa_mk (by decide) (fun ad => Nat.le_of_ble_eq_true rfl) (fun p l e s m args below meth c D ad cA A C => b_X12_grainsOf a1 C)
theorem d_X12_run_0 : decode cX12_run 0 = .ok (.aload_n 0, 1) := by decide +kernel
theorem d_X12_run_1 : decode cX12_run 1 = .ok (.iconst 0, 1) := by decide +kernel
theorem d_X12_run_2 : decode cX12_run 2 = .ok (.putfield 127, 3) := by decide +kernel
theorem d_X12_run_5 : decode cX12_run 5 = .ok (.aload_n 0, 1) := by decide +kernel
theorem d_X12_run_6 : decode cX12_run 6 = .ok (.getfield 331, 3) := by decide +kernel
theorem d_X12_run_9 : decode cX12_run 9 = .ok (.ifCond .eq 29, 3) := by decide +kernel
theorem d_X12_run_12 : decode cX12_run 12 = .ok (.iload_n 1, 1) := by decide +kernel
theorem d_X12_run_13 : decode cX12_run 13 = .ok (.i2l, 1) := by decide +kernel
theorem d_X12_run_14 : decode cX12_run 14 = .ok (.lconst 0, 1) := by decide +kernel
theorem d_X12_run_15 : decode cX12_run 15 = .ok (.aload_n 0, 1) := by decide +kernel
theorem d_X12_run_16 : decode cX12_run 16 = .ok (.getfield 326, 3) := by decide +kernel
theorem d_X12_run_19 : decode cX12_run 19 = .ok (.iconst 1, 1) := by decide +kernel
theorem d_X12_run_20 : decode cX12_run 20 = .ok (.isub, 1) := by decide +kernel
theorem d_X12_run_21 : decode cX12_run 21 = .ok (.i2l, 1) := by decide +kernel
theorem d_X12_run_22 : decode cX12_run 22 = .ok (.invokestatic 248, 3) := by decide +kernel
theorem d_X12_run_25 : decode cX12_run 25 = .ok (.ifCond .eq 13, 3) := by decide +kernel
theorem d_X12_run_28 : decode cX12_run 28 = .ok (.iload_n 2, 1) := by decide +kernel
theorem d_X12_run_29 : decode cX12_run 29 = .ok (.i2l, 1) := by decide +kernel
theorem d_X12_run_30 : decode cX12_run 30 = .ok (.lconst 0, 1) := by decide +kernel
theorem d_X12_run_31 : decode cX12_run 31 = .ok (.lconst 1, 1) := by decide +kernel
theorem d_X12_run_32 : decode cX12_run 32 = .ok (.invokestatic 248, 3) := by decide +kernel
theorem d_X12_run_35 : decode cX12_run 35 = .ok (.ifCond .ne 7, 3) := by decide +kernel
theorem d_X12_run_38 : decode cX12_run 38 = .ok (.ldc_w 454, 3) := by decide +kernel
theorem d_X12_run_41 : decode cX12_run 41 = .ok (.ireturn, 1) := by decide +kernel
theorem d_X12_run_42 : decode cX12_run 42 = .ok (.aload_n 0, 1) := by decide +kernel
theorem d_X12_run_43 : decode cX12_run 43 = .ok (.getfield 64, 3) := by decide +kernel
theorem d_X12_run_46 : decode cX12_run 46 = .ok (.aload_n 0, 1) := by decide +kernel
theorem d_X12_run_47 : decode cX12_run 47 = .ok (.getfield 67, 3) := by decide +kernel
theorem d_X12_run_50 : decode cX12_run 50 = .ok (.invokestatic 455, 3) := by decide +kernel
theorem d_X12_run_53 : decode cX12_run 53 = .ok (.iconst 0, 1) := by decide +kernel
theorem d_X12_run_54 : decode cX12_run 54 = .ok (.istore_n 3, 1) := by decide +kernel
theorem d_X12_run_55 : decode cX12_run 55 = .ok (.iload_n 3, 1) := by decide +kernel
theorem d_X12_run_56 : decode cX12_run 56 = .ok (.aload_n 0, 1) := by decide +kernel
theorem d_X12_run_57 : decode cX12_run 57 = .ok (.getfield 61, 3) := by decide +kernel
theorem d_X12_run_60 : decode cX12_run 60 = .ok (.iload_n 1, 1) := by decide +kernel
theorem d_X12_run_61 : decode cX12_run 61 = .ok (.iaload, 1) := by decide +kernel
theorem d_X12_run_62 : decode cX12_run 62 = .ok (.if_icmp .ge 44, 3) := by decide +kernel
theorem d_X12_run_65 : decode cX12_run 65 = .ok (.aload_n 0, 1) := by decide +kernel
theorem d_X12_run_66 : decode cX12_run 66 = .ok (.aload_n 0, 1) := by decide +kernel
theorem d_X12_run_67 : decode cX12_run 67 = .ok (.getfield 67, 3) := by decide +kernel
theorem d_X12_run_70 : decode cX12_run 70 = .ok (.iconst 3, 1) := by decide +kernel
theorem d_X12_run_71 : decode cX12_run 71 = .ok (.bipush 16, 2) := by decide +kernel
theorem d_X12_run_73 : decode cX12_run 73 = .ok (.iload_n 1, 1) := by decide +kernel
theorem d_X12_run_74 : decode cX12_run 74 = .ok (.imul, 1) := by decide +kernel
theorem d_X12_run_75 : decode cX12_run 75 = .ok (.iload_n 3, 1) := by decide +kernel
theorem d_X12_run_76 : decode cX12_run 76 = .ok (.iadd, 1) := by decide +kernel
theorem d_X12_run_77 : decode cX12_run 77 = .ok (.imul, 1) := by decide +kernel
theorem d_X12_run_78 : decode cX12_run 78 = .ok (.invokevirtual 459, 3) := by decide +kernel
theorem d_X12_run_81 : decode cX12_run 81 = .ok (.ifCond .eq 25, 3) := by decide +kernel
theorem d_X12_run_84 : decode cX12_run 84 = .ok (.aload_n 0, 1) := by decide +kernel
theorem d_X12_run_85 : decode cX12_run 85 = .ok (.aload_n 0, 1) := by decide +kernel
theorem d_X12_run_86 : decode cX12_run 86 = .ok (.getfield 67, 3) := by decide +kernel
theorem d_X12_run_89 : decode cX12_run 89 = .ok (.iconst 3, 1) := by decide +kernel
theorem d_X12_run_90 : decode cX12_run 90 = .ok (.bipush 16, 2) := by decide +kernel
theorem d_X12_run_92 : decode cX12_run 92 = .ok (.iload_n 1, 1) := by decide +kernel
theorem d_X12_run_93 : decode cX12_run 93 = .ok (.imul, 1) := by decide +kernel
theorem d_X12_run_94 : decode cX12_run 94 = .ok (.iload_n 3, 1) := by decide +kernel
theorem d_X12_run_95 : decode cX12_run 95 = .ok (.iadd, 1) := by decide +kernel
theorem d_X12_run_96 : decode cX12_run 96 = .ok (.imul, 1) := by decide +kernel
theorem d_X12_run_97 : decode cX12_run 97 = .ok (.invokevirtual 462, 3) := by decide +kernel
theorem d_X12_run_100 : decode cX12_run 100 = .ok (.iinc 3 1, 3) := by decide +kernel
theorem d_X12_run_103 : decode cX12_run 103 = .ok (.goto (-48), 3) := by decide +kernel
theorem d_X12_run_106 : decode cX12_run 106 = .ok (.iload_n 2, 1) := by decide +kernel
theorem d_X12_run_107 : decode cX12_run 107 = .ok (.iconst 1, 1) := by decide +kernel
theorem d_X12_run_108 : decode cX12_run 108 = .ok (.if_icmp .ne 13, 3) := by decide +kernel
theorem d_X12_run_111 : decode cX12_run 111 = .ok (.aload_n 0, 1) := by decide +kernel
theorem d_X12_run_112 : decode cX12_run 112 = .ok (.getfield 67, 3) := by decide +kernel
theorem d_X12_run_115 : decode cX12_run 115 = .ok (.invokestatic 465, 3) := by decide +kernel
theorem d_X12_run_118 : decode cX12_run 118 = .ok (.goto 18, 3) := by decide +kernel
theorem d_X12_run_121 : decode cX12_run 121 = .ok (.iload_n 3, 1) := by decide +kernel
theorem d_X12_run_122 : decode cX12_run 122 = .ok (.aload_n 0, 1) := by decide +kernel
theorem d_X12_run_123 : decode cX12_run 123 = .ok (.getfield 61, 3) := by decide +kernel
theorem d_X12_run_126 : decode cX12_run 126 = .ok (.iload_n 1, 1) := by decide +kernel
theorem d_X12_run_127 : decode cX12_run 127 = .ok (.iaload, 1) := by decide +kernel
theorem d_X12_run_128 : decode cX12_run 128 = .ok (.if_icmp .ne 7, 3) := by decide +kernel
theorem d_X12_run_131 : decode cX12_run 131 = .ok (.iconst (-1), 1) := by decide +kernel
theorem d_X12_run_132 : decode cX12_run 132 = .ok (.goto 4, 3) := by decide +kernel
theorem d_X12_run_135 : decode cX12_run 135 = .ok (.iload_n 3, 1) := by decide +kernel
theorem d_X12_run_136 : decode cX12_run 136 = .ok (.ireturn, 1) := by decide +kernel
def f_X12_run (this : Nat) (a1 : Int32) (a2 : Int32) : sa_M Int32 :=
sa_gd 12 this (
sa_bnd (sa_wrI 12 this 0 0) fun _ =>
sa_bnd (sa_rdI 12 this 25) fun v1 =>
sa_jn0 (sa_ret ((-1000000) : Int32)) fun j38 =>
if v1 = 0 then
j38
else
sa_bnd (sa_rdI 12 this 34) fun v2 =>
sa_bnd (f_X12_isIn (a1.toInt64) 0 ((v2 - 1).toInt64)) fun v3 =>
if v3 = 0 then
j38
else
sa_bnd (f_X12_isIn (a2.toInt64) 0 1) fun v4 =>
if ¬ v4 = 0 then
sa_bnd (sa_rdR 12 this 35) fun v5 =>
sa_bnd (sa_rdR 12 this 36) fun v6 =>
sa_bnd (f_X12_copy v5 v6) fun _ =>
sa_let (0 : Int32) fun x7 =>
sa_wh1 (fun j55 (x8 : Int32) =>
sa_bnd (sa_rdR 12 this 33) fun v9 =>
sa_bnd (sa_ldI .int v9 a1) fun v10 =>
sa_jn0 (sa_jn1 (fun (y11 : Int32) =>
sa_ret (y11 : Int32)) fun j136 =>
if ¬ a2 = 1 then
sa_bnd (sa_rdR 12 this 33) fun v12 =>
sa_bnd (sa_ldI .int v12 a1) fun v13 =>
if ¬ x8 = v13 then
j136 x8
else
j136 (-1)
else
sa_bnd (sa_rdR 12 this 36) fun v14 =>
sa_bnd (f_X12_grainsOf v14) fun v15 =>
j136 v15) fun j106 =>
if v10 ≤ x8 then
j106
else
sa_bnd (sa_rdR 12 this 36) fun v16 =>
sa_bnd (f_X12_canStep this v16 (3 * ((16 * a1) + x8))) fun v17 =>
if v17 = 0 then
j106
else
sa_bnd (sa_rdR 12 this 36) fun v18 =>
sa_bnd (f_X12_does this v18 (3 * ((16 * a1) + x8))) fun _ =>
sa_let ((x8 + 1) : Int32) fun x19 =>
j55 x19) sa_F x7
else
j38)
set_option maxHeartbeats 1000000 in
set_option maxRecDepth 10000 in
theorem b_X12_run {p : Program} {l : Launch} {e : Env} {s : State} {m : MethodId} {args : Array Value} {below : List Frame} {meth : Method} {c : Code} {D : va_G} {ad : Nat → Nat} {cA : FieldType → ClassId} {A : Nat → Prop} (this : Nat) (a1 : Int32) (a2 : Int32) (C : sa_C p s m args meth c cX12_run RX12 "run" 4 (some .int) D ad cA A) : sa_Sg p l e s m args below meth c 4 135 D ad cA A sa_eI 0 [(0, .ref (ad this)), (1, .int a1), (2, .int a2)] [] (f_X12_run this a1 a2) := by
  unfold f_X12_run
  refine sa_gdI ?_
  refine sa_aload_n C d_X12_run_0 rfl 0 rfl ?_
  refine sa_iconst (v := 0) C d_X12_run_1 (by decide) ?_
  refine sa_putI C fd_X12_127 d_X12_run_2 ?_
  refine sa_aload_n C d_X12_run_5 rfl 0 rfl ?_
  refine sa_getI C fd_X12_331 d_X12_run_6 (fun v1 => ?_)
  refine sa_join0 38 ([]) ([]) (?_) (fun j38 hj38 => ?_)
  · refine sa_ldcw (v := (-1000000)) C d_X12_run_38 q1935 ?_
    exact sa_iret C d_X12_run_41
  refine sa_if_eq (tgt := 38) C d_X12_run_9 (by decide) ?_ ?_
  · exact sa_sub [] rfl (hj38)
  refine sa_iload_n C d_X12_run_12 rfl 1 rfl ?_
  refine sa_i2l C d_X12_run_13 ?_
  refine sa_lconst (v := 0) C d_X12_run_14 (by decide) ?_
  refine sa_aload_n C d_X12_run_15 rfl 0 rfl ?_
  refine sa_getI C fd_X12_326 d_X12_run_16 (fun v2 => ?_)
  refine sa_iconst (v := 1) C d_X12_run_19 (by decide) ?_
  refine sa_isub C d_X12_run_20 ?_
  refine sa_i2l C d_X12_run_21 ?_
  refine sa_invS C (k_X12_isIn (a1.toInt64) 0 ((v2 - 1).toInt64)) q1637 ds_X12_isIn q128 q1636 q1635 rfl rfl rfl (Nat.le_of_ble_eq_true rfl) (by decide) (by decide) d_X12_run_22 (fun v3 => ?_)
  refine sa_if_eq (tgt := 38) C d_X12_run_25 (by decide) ?_ ?_
  · exact sa_sub [] rfl (hj38)
  refine sa_iload_n C d_X12_run_28 rfl 2 rfl ?_
  refine sa_i2l C d_X12_run_29 ?_
  refine sa_lconst (v := 0) C d_X12_run_30 (by decide) ?_
  refine sa_lconst (v := 1) C d_X12_run_31 (by decide) ?_
  refine sa_invS C (k_X12_isIn (a2.toInt64) 0 1) q1637 ds_X12_isIn q128 q1636 q1635 rfl rfl rfl (Nat.le_of_ble_eq_true rfl) (by decide) (by decide) d_X12_run_32 (fun v4 => ?_)
  refine sa_if_ne (tgt := 42) C d_X12_run_35 (by decide) ?_ ?_
  · refine sa_aload_n C d_X12_run_42 rfl 0 rfl ?_
    refine sa_getR C fd_X12_64 rfl d_X12_run_43 (fun v5 => ?_)
    refine sa_aload_n C d_X12_run_46 rfl 0 rfl ?_
    refine sa_getR C fd_X12_67 rfl d_X12_run_47 (fun v6 => ?_)
    refine sa_invS C (k_X12_copy v5 v6) q1938 ds_X12_copy q128 q1937 q1936 rfl rfl rfl (Nat.le_of_ble_eq_true rfl) (by decide) (by decide) d_X12_run_50 (fun _ => ?_)
    refine sa_iconst (v := 0) C d_X12_run_53 (by decide) ?_
    refine sa_topi (fun x7 => ?_)
    refine sa_istore_n (lv' := [(3, .int x7), (0, .ref (ad this)), (1, .int a1), (2, .int a2)]) C d_X12_run_54 rfl (by decide) rfl ?_
    refine sa_sub [1, 2, 3, 0] rfl (sa_loop1 (fun x8 => [(0, .ref (ad this)), (1, .int a1), (2, .int a2), (3, .int x8)]) (fun x8 => []) (fun j55 hj55 x8 => ?_) _ _)
    refine sa_iload_n C d_X12_run_55 rfl 3 rfl ?_
    refine sa_aload_n C d_X12_run_56 rfl 0 rfl ?_
    refine sa_getR C fd_X12_61 rfl d_X12_run_57 (fun v9 => ?_)
    refine sa_iload_n C d_X12_run_60 rfl 1 rfl ?_
    refine sa_iald C d_X12_run_61 (fun v10 => ?_)
    refine sa_join0 106 ([(0, .ref (ad this)), (1, .int a1), (2, .int a2), (3, .int x8)]) ([]) (?_) (fun j106 hj106 => ?_)
    · refine sa_iload_n C d_X12_run_106 rfl 2 rfl ?_
      refine sa_iconst (v := 1) C d_X12_run_107 (by decide) ?_
      refine sa_join1 136 (fun y11 => []) (fun y11 => [.int y11]) (fun y11 => ?_) (fun j136 hj136 => ?_)
      · exact sa_iret C d_X12_run_136
      refine sa_icmp_ne (tgt := 121) C d_X12_run_108 (by decide) ?_ ?_
      · refine sa_iload_n C d_X12_run_121 rfl 3 rfl ?_
        refine sa_aload_n C d_X12_run_122 rfl 0 rfl ?_
        refine sa_getR C fd_X12_61 rfl d_X12_run_123 (fun v12 => ?_)
        refine sa_iload_n C d_X12_run_126 rfl 1 rfl ?_
        refine sa_iald C d_X12_run_127 (fun v13 => ?_)
        refine sa_icmp_ne (tgt := 135) C d_X12_run_128 (by decide) ?_ ?_
        · refine sa_iload_n C d_X12_run_135 rfl 3 rfl ?_
          exact sa_sub [] rfl (hj136 _)
        refine sa_iconst (v := (-1)) C d_X12_run_131 (by decide) ?_
        refine sa_goto (tgt := 136) C d_X12_run_132 (by decide) ?_
        exact sa_sub [] rfl (hj136 _)
      refine sa_aload_n C d_X12_run_111 rfl 0 rfl ?_
      refine sa_getR C fd_X12_67 rfl d_X12_run_112 (fun v14 => ?_)
      refine sa_invS C (k_X12_grainsOf v14) q1949 ds_X12_grainsOf q128 q1948 q1947 rfl rfl rfl (Nat.le_of_ble_eq_true rfl) (by decide) (by decide) d_X12_run_115 (fun v15 => ?_)
      refine sa_goto (tgt := 136) C d_X12_run_118 (by decide) ?_
      exact sa_sub [] rfl (hj136 _)
    refine sa_icmp_ge (tgt := 106) C d_X12_run_62 (by decide) ?_ ?_
    · exact sa_sub [0, 1, 2, 3] rfl (hj106)
    refine sa_aload_n C d_X12_run_65 rfl 0 rfl ?_
    refine sa_aload_n C d_X12_run_66 rfl 0 rfl ?_
    refine sa_getR C fd_X12_67 rfl d_X12_run_67 (fun v16 => ?_)
    refine sa_iconst (v := 3) C d_X12_run_70 (by decide) ?_
    refine sa_bipush (v := 16) C d_X12_run_71 (by decide) ?_
    refine sa_iload_n C d_X12_run_73 rfl 1 rfl ?_
    refine sa_imul C d_X12_run_74 ?_
    refine sa_iload_n C d_X12_run_75 rfl 3 rfl ?_
    refine sa_iadd C d_X12_run_76 ?_
    refine sa_imul C d_X12_run_77 ?_
    refine sa_invV (ci := 12) C (k_X12_canStep this v16 (3 * ((16 * a1) + x8))) q1942 ds_X12_canStep q128 rfl q1941 q89 q1939 (gd_X12_canStep this v16 (3 * ((16 * a1) + x8))) rfl rfl rfl (Nat.le_of_ble_eq_true rfl) (by decide) (by decide) d_X12_run_78 (fun v17 => ?_)
    refine sa_if_eq (tgt := 106) C d_X12_run_81 (by decide) ?_ ?_
    · exact sa_sub [0, 1, 2, 3] rfl (hj106)
    refine sa_aload_n C d_X12_run_84 rfl 0 rfl ?_
    refine sa_aload_n C d_X12_run_85 rfl 0 rfl ?_
    refine sa_getR C fd_X12_67 rfl d_X12_run_86 (fun v18 => ?_)
    refine sa_iconst (v := 3) C d_X12_run_89 (by decide) ?_
    refine sa_bipush (v := 16) C d_X12_run_90 (by decide) ?_
    refine sa_iload_n C d_X12_run_92 rfl 1 rfl ?_
    refine sa_imul C d_X12_run_93 ?_
    refine sa_iload_n C d_X12_run_94 rfl 3 rfl ?_
    refine sa_iadd C d_X12_run_95 ?_
    refine sa_imul C d_X12_run_96 ?_
    refine sa_invV (ci := 12) C (k_X12_does this v18 (3 * ((16 * a1) + x8))) q1946 ds_X12_does q128 rfl q1945 q90 q1943 (gd_X12_does this v18 (3 * ((16 * a1) + x8))) rfl rfl rfl (Nat.le_of_ble_eq_true rfl) (by decide) (by decide) d_X12_run_97 (fun _ => ?_)
    refine sa_iinc C (fun zz => [(3, .int zz), (0, .ref (ad this)), (1, .int a1), (2, .int a2)]) d_X12_run_100 3 rfl rfl (by decide) (fun _ => rfl) (fun x19 => ?_)
    refine sa_goto (tgt := 55) C d_X12_run_103 (by decide) ?_
    exact sa_sub [1, 2, 3, 0] rfl (hj55 _)
  exact sa_sub [] rfl (hj38)
theorem k_X12_run (this : Nat) (a1 : Int32) (a2 : Int32) : sa_Met 135 yX12_run cX12_run 4 (some .int) (fun ad => [.ref (ad this), .int a1, .int a2]) sa_eI (f_X12_run this a1 a2) := sa_mk (by decide) (fun ad => Nat.le_of_ble_eq_true rfl) (fun p l e s m args below meth c D ad cA A C => b_X12_run this a1 a2 C)
theorem gd_X12_run (this : Nat) (a1 : Int32) (a2 : Int32) (σ : sa_St) (r : Int32) (τ : sa_St) (h : f_X12_run this a1 a2 σ = some (r, τ)) : sa_sh this = some (.inl 12) := sa_gd_ok h
