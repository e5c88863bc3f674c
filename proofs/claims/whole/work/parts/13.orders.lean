theorem d_X4_readStep_0 : decode cX4_readStep 0 = .ok (.ldc 36, 2) := by decide +kernel
theorem d_X4_readStep_2 : decode cX4_readStep 2 = .ok (.aload_n 1, 1) := by decide +kernel
theorem d_X4_readStep_3 : decode cX4_readStep 3 = .ok (.invokevirtual 38, 3) := by decide +kernel
theorem d_X4_readStep_6 : decode cX4_readStep 6 = .ok (.invokevirtual 42, 3) := by decide +kernel
theorem d_X4_readStep_9 : decode cX4_readStep 9 = .ok (.istore_n 2, 1) := by decide +kernel
theorem d_X4_readStep_10 : decode cX4_readStep 10 = .ok (.iload_n 2, 1) := by decide +kernel
theorem d_X4_readStep_11 : decode cX4_readStep 11 = .ok (.ifCond .ge 5, 3) := by decide +kernel
theorem d_X4_readStep_14 : decode cX4_readStep 14 = .ok (.iconst 0, 1) := by decide +kernel
theorem d_X4_readStep_15 : decode cX4_readStep 15 = .ok (.ireturn, 1) := by decide +kernel
theorem d_X4_readStep_16 : decode cX4_readStep 16 = .ok (.aload_n 1, 1) := by decide +kernel
theorem d_X4_readStep_17 : decode cX4_readStep 17 = .ok (.invokevirtual 48, 3) := by decide +kernel
theorem d_X4_readStep_20 : decode cX4_readStep 20 = .ok (.aload_n 0, 1) := by decide +kernel
theorem d_X4_readStep_21 : decode cX4_readStep 21 = .ok (.getfield 15, 3) := by decide +kernel
theorem d_X4_readStep_24 : decode cX4_readStep 24 = .ok (.iconst 3, 1) := by decide +kernel
theorem d_X4_readStep_25 : decode cX4_readStep 25 = .ok (.imul, 1) := by decide +kernel
theorem d_X4_readStep_26 : decode cX4_readStep 26 = .ok (.istore_n 3, 1) := by decide +kernel
theorem d_X4_readStep_27 : decode cX4_readStep 27 = .ok (.aload_n 0, 1) := by decide +kernel
theorem d_X4_readStep_28 : decode cX4_readStep 28 = .ok (.getfield 11, 3) := by decide +kernel
theorem d_X4_readStep_31 : decode cX4_readStep 31 = .ok (.iload_n 3, 1) := by decide +kernel
theorem d_X4_readStep_32 : decode cX4_readStep 32 = .ok (.iload_n 2, 1) := by decide +kernel
theorem d_X4_readStep_33 : decode cX4_readStep 33 = .ok (.iastore, 1) := by decide +kernel
theorem d_X4_readStep_34 : decode cX4_readStep 34 = .ok (.iconst 1, 1) := by decide +kernel
theorem d_X4_readStep_35 : decode cX4_readStep 35 = .ok (.istore 4, 2) := by decide +kernel
theorem d_X4_readStep_37 : decode cX4_readStep 37 = .ok (.iload 4, 2) := by decide +kernel
theorem d_X4_readStep_39 : decode cX4_readStep 39 = .ok (.iconst 3, 1) := by decide +kernel
theorem d_X4_readStep_40 : decode cX4_readStep 40 = .ok (.if_icmp .ge 56, 3) := by decide +kernel
theorem d_X4_readStep_43 : decode cX4_readStep 43 = .ok (.aload_n 0, 1) := by decide +kernel
theorem d_X4_readStep_44 : decode cX4_readStep 44 = .ok (.getfield 11, 3) := by decide +kernel
theorem d_X4_readStep_47 : decode cX4_readStep 47 = .ok (.iload_n 3, 1) := by decide +kernel
theorem d_X4_readStep_48 : decode cX4_readStep 48 = .ok (.iload 4, 2) := by decide +kernel
theorem d_X4_readStep_50 : decode cX4_readStep 50 = .ok (.iadd, 1) := by decide +kernel
theorem d_X4_readStep_51 : decode cX4_readStep 51 = .ok (.iconst (-1), 1) := by decide +kernel
theorem d_X4_readStep_52 : decode cX4_readStep 52 = .ok (.iastore, 1) := by decide +kernel
theorem d_X4_readStep_53 : decode cX4_readStep 53 = .ok (.iload 4, 2) := by decide +kernel
theorem d_X4_readStep_55 : decode cX4_readStep 55 = .ok (.getstatic 51, 3) := by decide +kernel
theorem d_X4_readStep_58 : decode cX4_readStep 58 = .ok (.iload_n 2, 1) := by decide +kernel
theorem d_X4_readStep_59 : decode cX4_readStep 59 = .ok (.iaload, 1) := by decide +kernel
theorem d_X4_readStep_60 : decode cX4_readStep 60 = .ok (.if_icmp .gt 30, 3) := by decide +kernel
theorem d_X4_readStep_63 : decode cX4_readStep 63 = .ok (.aload_n 0, 1) := by decide +kernel
theorem d_X4_readStep_64 : decode cX4_readStep 64 = .ok (.getfield 11, 3) := by decide +kernel
theorem d_X4_readStep_67 : decode cX4_readStep 67 = .ok (.iload_n 3, 1) := by decide +kernel
theorem d_X4_readStep_68 : decode cX4_readStep 68 = .ok (.iload 4, 2) := by decide +kernel
theorem d_X4_readStep_70 : decode cX4_readStep 70 = .ok (.iadd, 1) := by decide +kernel
theorem d_X4_readStep_71 : decode cX4_readStep 71 = .ok (.aload_n 1, 1) := by decide +kernel
theorem d_X4_readStep_72 : decode cX4_readStep 72 = .ok (.invokevirtual 54, 3) := by decide +kernel
theorem d_X4_readStep_75 : decode cX4_readStep 75 = .ok (.iastore, 1) := by decide +kernel
theorem d_X4_readStep_76 : decode cX4_readStep 76 = .ok (.aload_n 0, 1) := by decide +kernel
theorem d_X4_readStep_77 : decode cX4_readStep 77 = .ok (.getfield 11, 3) := by decide +kernel
theorem d_X4_readStep_80 : decode cX4_readStep 80 = .ok (.iload_n 3, 1) := by decide +kernel
theorem d_X4_readStep_81 : decode cX4_readStep 81 = .ok (.iload 4, 2) := by decide +kernel
theorem d_X4_readStep_83 : decode cX4_readStep 83 = .ok (.iadd, 1) := by decide +kernel
theorem d_X4_readStep_84 : decode cX4_readStep 84 = .ok (.iaload, 1) := by decide +kernel
theorem d_X4_readStep_85 : decode cX4_readStep 85 = .ok (.ifCond .ge 5, 3) := by decide +kernel
theorem d_X4_readStep_88 : decode cX4_readStep 88 = .ok (.iconst 0, 1) := by decide +kernel
theorem d_X4_readStep_89 : decode cX4_readStep 89 = .ok (.ireturn, 1) := by decide +kernel
theorem d_X4_readStep_90 : decode cX4_readStep 90 = .ok (.iinc 4 1, 3) := by decide +kernel
theorem d_X4_readStep_93 : decode cX4_readStep 93 = .ok (.goto (-56), 3) := by decide +kernel
theorem d_X4_readStep_96 : decode cX4_readStep 96 = .ok (.iconst 1, 1) := by decide +kernel
theorem d_X4_readStep_97 : decode cX4_readStep 97 = .ok (.ireturn, 1) := by decide +kernel
def f_X4_readStep (this : Nat) (a1 : Nat) : sa_M Int32 :=
sa_gd 4 this (
sa_bnd (f_X7_sign a1) fun v1 =>
sa_bnd (f_J0_indexOf_0f7a4 (1000 + 4) v1) fun v2 =>
if 0 ≤ v2 then
sa_bnd (f_X7_pass a1) fun _ =>
sa_bnd (sa_rdI 4 this 1) fun v3 =>
sa_let ((v3 * 3) : Int32) fun x4 =>
sa_bnd (sa_rdR 4 this 0) fun v5 =>
sa_bnd (sa_stI v5 x4 v2) fun _ =>
sa_let (1 : Int32) fun x6 =>
sa_wh1 (fun j37 (x7 : Int32) =>
if 3 ≤ x7 then
sa_retZ 1
else
sa_bnd (sa_rdR 4 this 0) fun v8 =>
sa_bnd (sa_stI v8 (x4 + x7) (-1)) fun _ =>
sa_bnd (sa_tb 5 v2) fun v9 =>
sa_jn0 (sa_let ((x7 + 1) : Int32) fun x10 =>
j37 x10) fun j90 =>
if v9 < x7 then
j90
else
sa_bnd (sa_rdR 4 this 0) fun v11 =>
sa_bnd (f_X7_takeDigit a1) fun v12 =>
sa_bnd (sa_stI v11 (x4 + x7) v12) fun _ =>
sa_bnd (sa_rdR 4 this 0) fun v13 =>
sa_bnd (sa_ldI .int v13 (x4 + x7)) fun v14 =>
if 0 ≤ v14 then
j90
else
sa_retZ 0) sa_F x6
else
sa_retZ 0)
set_option maxHeartbeats 1000000 in
set_option maxRecDepth 10000 in
theorem b_X4_readStep {p : Program} {l : Launch} {e : Env} {s : State} {m : MethodId} {args : Array Value} {below : List Frame} {meth : Method} {c : Code} {D : va_G} {ad : Nat → Nat} {cA : FieldType → ClassId} {A : Nat → Prop} (this : Nat) (a1 : Nat) (C : sa_C p s m args meth c cX4_readStep RX4 "readStep" 5 (some .boolean) D ad cA A) : sa_Sg p l e s m args below meth c 5 5 D ad cA A sa_eI 0 [(0, .ref (ad this)), (1, .ref (ad a1))] [] (f_X4_readStep this a1) := by
  unfold f_X4_readStep
  refine sa_gdI ?_
  refine sa_ldcS C 5 rfl d_X4_readStep_0 ?_
  refine sa_aload_n C d_X4_readStep_2 rfl 1 rfl ?_
  refine sa_invV (ci := 7) C (k_X7_sign a1) q506 ds_X7_sign q115 rfl q504 q505 q714 (gd_X7_sign a1) rfl rfl rfl (Nat.le_of_ble_eq_true rfl) (by decide) (by decide) d_X4_readStep_3 (fun v1 => ?_)
  refine sa_invK C (k_J0_indexOf_0f7a4 (1000 + 4) v1) q510 ds_J0_indexOf_0f7a4 q118 rfl q508 q509 q715 (gd_J0_indexOf_0f7a4 (1000 + 4) v1) rfl rfl rfl (Nat.le_of_ble_eq_true rfl) (by decide) (by decide) d_X4_readStep_6 (fun v2 => ?_)
  refine sa_istore_n (lv' := [(2, .int v2), (0, .ref (ad this)), (1, .ref (ad a1))]) C d_X4_readStep_9 rfl (by decide) rfl ?_
  refine sa_iload_n C d_X4_readStep_10 rfl 0 rfl ?_
  refine sa_if_ge (tgt := 16) C d_X4_readStep_11 (by decide) ?_ ?_
  · refine sa_aload_n C d_X4_readStep_16 rfl 2 rfl ?_
    refine sa_invV (ci := 7) C (k_X7_pass a1) q589 ds_X7_pass q115 rfl q587 q588 q716 (gd_X7_pass a1) rfl rfl rfl (Nat.le_of_ble_eq_true rfl) (by decide) (by decide) d_X4_readStep_17 (fun _ => ?_)
    refine sa_aload_n C d_X4_readStep_20 rfl 1 rfl ?_
    refine sa_getI C fd_X4_15 d_X4_readStep_21 (fun v3 => ?_)
    refine sa_iconst (v := 3) C d_X4_readStep_24 (by decide) ?_
    refine sa_imul C d_X4_readStep_25 ?_
    refine sa_topi (fun x4 => ?_)
    refine sa_istore_n (lv' := [(3, .int x4), (2, .int v2), (0, .ref (ad this)), (1, .ref (ad a1))]) C d_X4_readStep_26 rfl (by decide) rfl ?_
    refine sa_aload_n C d_X4_readStep_27 rfl 2 rfl ?_
    refine sa_getR C fd_X4_11 rfl d_X4_readStep_28 (fun v5 => ?_)
    refine sa_iload_n C d_X4_readStep_31 rfl 0 rfl ?_
    refine sa_iload_n C d_X4_readStep_32 rfl 1 rfl ?_
    refine sa_iast C d_X4_readStep_33 ?_
    refine sa_iconst (v := 1) C d_X4_readStep_34 (by decide) ?_
    refine sa_topi (fun x6 => ?_)
    refine sa_istore (lv' := [(4, .int x6), (3, .int x4), (2, .int v2), (0, .ref (ad this)), (1, .ref (ad a1))]) C d_X4_readStep_35 (by decide) rfl ?_
    refine sa_sub [3, 4, 2, 1, 0] rfl (sa_loop1 (fun x7 => [(0, .ref (ad this)), (1, .ref (ad a1)), (2, .int v2), (3, .int x4), (4, .int x7)]) (fun x7 => []) (fun j37 hj37 x7 => ?_) _ _)
    refine sa_iload C d_X4_readStep_37 4 rfl ?_
    refine sa_iconst (v := 3) C d_X4_readStep_39 (by decide) ?_
    refine sa_icmp_ge (tgt := 96) C d_X4_readStep_40 (by decide) ?_ ?_
    · refine sa_iconst (v := 1) C d_X4_readStep_96 (by decide) ?_
      exact sa_zret C d_X4_readStep_97
    refine sa_aload_n C d_X4_readStep_43 rfl 0 rfl ?_
    refine sa_getR C fd_X4_11 rfl d_X4_readStep_44 (fun v8 => ?_)
    refine sa_iload_n C d_X4_readStep_47 rfl 3 rfl ?_
    refine sa_iload C d_X4_readStep_48 4 rfl ?_
    refine sa_iadd C d_X4_readStep_50 ?_
    refine sa_iconst (v := (-1)) C d_X4_readStep_51 (by decide) ?_
    refine sa_iast C d_X4_readStep_52 ?_
    refine sa_iload C d_X4_readStep_53 4 rfl ?_
    refine sa_gets (j := 5) C rfl q717 d_X4_readStep_55 ?_
    refine sa_iload_n C d_X4_readStep_58 rfl 2 rfl ?_
    refine sa_tld C rfl d_X4_readStep_59 (fun v9 => ?_)
    refine sa_join0 90 ([(0, .ref (ad this)), (1, .ref (ad a1)), (2, .int v2), (3, .int x4), (4, .int x7)]) ([]) (?_) (fun j90 hj90 => ?_)
    · refine sa_iinc C (fun zz => [(4, .int zz), (0, .ref (ad this)), (1, .ref (ad a1)), (2, .int v2), (3, .int x4)]) d_X4_readStep_90 4 rfl rfl (by decide) (fun _ => rfl) (fun x10 => ?_)
      refine sa_goto (tgt := 37) C d_X4_readStep_93 (by decide) ?_
      exact sa_sub [1, 2, 3, 4, 0] rfl (hj37 _)
    refine sa_icmp_gt (tgt := 90) C d_X4_readStep_60 (by decide) ?_ ?_
    · exact sa_sub [0, 1, 2, 3, 4] rfl (hj90)
    refine sa_aload_n C d_X4_readStep_63 rfl 0 rfl ?_
    refine sa_getR C fd_X4_11 rfl d_X4_readStep_64 (fun v11 => ?_)
    refine sa_iload_n C d_X4_readStep_67 rfl 3 rfl ?_
    refine sa_iload C d_X4_readStep_68 4 rfl ?_
    refine sa_iadd C d_X4_readStep_70 ?_
    refine sa_aload_n C d_X4_readStep_71 rfl 1 rfl ?_
    refine sa_invV (ci := 7) C (k_X7_takeDigit a1) q722 ds_X7_takeDigit q115 rfl q720 q721 q719 (gd_X7_takeDigit a1) rfl rfl rfl (Nat.le_of_ble_eq_true rfl) (by decide) (by decide) d_X4_readStep_72 (fun v12 => ?_)
    refine sa_iast C d_X4_readStep_75 ?_
    refine sa_aload_n C d_X4_readStep_76 rfl 0 rfl ?_
    refine sa_getR C fd_X4_11 rfl d_X4_readStep_77 (fun v13 => ?_)
    refine sa_iload_n C d_X4_readStep_80 rfl 3 rfl ?_
    refine sa_iload C d_X4_readStep_81 4 rfl ?_
    refine sa_iadd C d_X4_readStep_83 ?_
    refine sa_iald C d_X4_readStep_84 (fun v14 => ?_)
    refine sa_if_ge (tgt := 90) C d_X4_readStep_85 (by decide) ?_ ?_
    · exact sa_sub [0, 1, 2, 3, 4] rfl (hj90)
    refine sa_iconst (v := 0) C d_X4_readStep_88 (by decide) ?_
    exact sa_zret C d_X4_readStep_89
  refine sa_iconst (v := 0) C d_X4_readStep_14 (by decide) ?_
  exact sa_zret C d_X4_readStep_15
theorem k_X4_readStep (this : Nat) (a1 : Nat) : sa_Met 5 yX4_readStep cX4_readStep 5 (some .boolean) (fun ad => [.ref (ad this), .ref (ad a1)]) sa_eI (f_X4_readStep this a1) := sa_mk (by decide) (fun ad => Nat.le_of_ble_eq_true rfl) (fun p l e s m args below meth c D ad cA A C => b_X4_readStep this a1 C)
theorem gd_X4_readStep (this : Nat) (a1 : Nat) (σ : sa_St) (r : Int32) (τ : sa_St) (h : f_X4_readStep this a1 σ = some (r, τ)) : sa_sh this = some (.inl 4) := sa_gd_ok h
theorem d_X4_readFrom_0 : decode cX4_readFrom 0 = .ok (.aload_n 0, 1) := by decide +kernel
theorem d_X4_readFrom_1 : decode cX4_readFrom 1 = .ok (.iconst 0, 1) := by decide +kernel
theorem d_X4_readFrom_2 : decode cX4_readFrom 2 = .ok (.putfield 15, 3) := by decide +kernel
theorem d_X4_readFrom_5 : decode cX4_readFrom 5 = .ok (.aload_n 1, 1) := by decide +kernel
theorem d_X4_readFrom_6 : decode cX4_readFrom 6 = .ok (.invokevirtual 19, 3) := by decide +kernel
theorem d_X4_readFrom_9 : decode cX4_readFrom 9 = .ok (.aload_n 0, 1) := by decide +kernel
theorem d_X4_readFrom_10 : decode cX4_readFrom 10 = .ok (.getfield 15, 3) := by decide +kernel
theorem d_X4_readFrom_13 : decode cX4_readFrom 13 = .ok (.bipush 16, 2) := by decide +kernel
theorem d_X4_readFrom_15 : decode cX4_readFrom 15 = .ok (.if_icmp .ge 52, 3) := by decide +kernel
theorem d_X4_readFrom_18 : decode cX4_readFrom 18 = .ok (.aload_n 0, 1) := by decide +kernel
theorem d_X4_readFrom_19 : decode cX4_readFrom 19 = .ok (.aload_n 1, 1) := by decide +kernel
theorem d_X4_readFrom_20 : decode cX4_readFrom 20 = .ok (.invokevirtual 24, 3) := by decide +kernel
theorem d_X4_readFrom_23 : decode cX4_readFrom 23 = .ok (.ifCond .ne 5, 3) := by decide +kernel
theorem d_X4_readFrom_26 : decode cX4_readFrom 26 = .ok (.iconst 0, 1) := by decide +kernel
theorem d_X4_readFrom_27 : decode cX4_readFrom 27 = .ok (.ireturn, 1) := by decide +kernel
theorem d_X4_readFrom_28 : decode cX4_readFrom 28 = .ok (.aload_n 0, 1) := by decide +kernel
theorem d_X4_readFrom_29 : decode cX4_readFrom 29 = .ok (.dup, 1) := by decide +kernel
theorem d_X4_readFrom_30 : decode cX4_readFrom 30 = .ok (.getfield 15, 3) := by decide +kernel
theorem d_X4_readFrom_33 : decode cX4_readFrom 33 = .ok (.iconst 1, 1) := by decide +kernel
theorem d_X4_readFrom_34 : decode cX4_readFrom 34 = .ok (.iadd, 1) := by decide +kernel
theorem d_X4_readFrom_35 : decode cX4_readFrom 35 = .ok (.putfield 15, 3) := by decide +kernel
theorem d_X4_readFrom_38 : decode cX4_readFrom 38 = .ok (.aload_n 1, 1) := by decide +kernel
theorem d_X4_readFrom_39 : decode cX4_readFrom 39 = .ok (.invokevirtual 28, 3) := by decide +kernel
theorem d_X4_readFrom_42 : decode cX4_readFrom 42 = .ok (.ifCond .eq 5, 3) := by decide +kernel
theorem d_X4_readFrom_45 : decode cX4_readFrom 45 = .ok (.iconst 1, 1) := by decide +kernel
theorem d_X4_readFrom_46 : decode cX4_readFrom 46 = .ok (.ireturn, 1) := by decide +kernel
theorem d_X4_readFrom_47 : decode cX4_readFrom 47 = .ok (.aload_n 0, 1) := by decide +kernel
theorem d_X4_readFrom_48 : decode cX4_readFrom 48 = .ok (.getfield 15, 3) := by decide +kernel
theorem d_X4_readFrom_51 : decode cX4_readFrom 51 = .ok (.bipush 16, 2) := by decide +kernel
theorem d_X4_readFrom_53 : decode cX4_readFrom 53 = .ok (.if_icmp .eq 12, 3) := by decide +kernel
theorem d_X4_readFrom_56 : decode cX4_readFrom 56 = .ok (.aload_n 1, 1) := by decide +kernel
theorem d_X4_readFrom_57 : decode cX4_readFrom 57 = .ok (.bipush 59, 2) := by decide +kernel
theorem d_X4_readFrom_59 : decode cX4_readFrom 59 = .ok (.invokevirtual 32, 3) := by decide +kernel
theorem d_X4_readFrom_62 : decode cX4_readFrom 62 = .ok (.ifCond .ne (-53), 3) := by decide +kernel
theorem d_X4_readFrom_65 : decode cX4_readFrom 65 = .ok (.iconst 0, 1) := by decide +kernel
theorem d_X4_readFrom_66 : decode cX4_readFrom 66 = .ok (.ireturn, 1) := by decide +kernel
theorem d_X4_readFrom_67 : decode cX4_readFrom 67 = .ok (.iconst 0, 1) := by decide +kernel
theorem d_X4_readFrom_68 : decode cX4_readFrom 68 = .ok (.ireturn, 1) := by decide +kernel
def f_X4_readFrom (this : Nat) (a1 : Nat) : sa_M Int32 :=
sa_gd 4 this (
sa_bnd (sa_wrI 4 this 1 0) fun _ =>
sa_bnd (f_X7_rewind a1) fun _ =>
sa_wh0 (fun j9  =>
sa_bnd (sa_rdI 4 this 1) fun v1 =>
if 16 ≤ v1 then
sa_retZ 0
else
sa_bnd (f_X4_readStep this a1) fun v2 =>
if ¬ v2 = 0 then
sa_bnd (sa_rdI 4 this 1) fun v3 =>
sa_bnd (sa_wrI 4 this 1 (v3 + 1)) fun _ =>
sa_bnd (f_X7_isEnded a1) fun v4 =>
if v4 = 0 then
sa_bnd (sa_rdI 4 this 1) fun v5 =>
sa_jn0 (sa_retZ 0) fun j65 =>
if v5 = 16 then
j65
else
sa_bnd (f_X7_take a1 59) fun v6 =>
if ¬ v6 = 0 then
j9
else
j65
else
sa_retZ 1
else
sa_retZ 0) sa_F )
set_option maxHeartbeats 1000000 in
set_option maxRecDepth 10000 in
theorem b_X4_readFrom {p : Program} {l : Launch} {e : Env} {s : State} {m : MethodId} {args : Array Value} {below : List Frame} {meth : Method} {c : Code} {D : va_G} {ad : Nat → Nat} {cA : FieldType → ClassId} {A : Nat → Prop} (this : Nat) (a1 : Nat) (C : sa_C p s m args meth c cX4_readFrom RX4 "readFrom" 2 (some .boolean) D ad cA A) : sa_Sg p l e s m args below meth c 2 6 D ad cA A sa_eI 0 [(0, .ref (ad this)), (1, .ref (ad a1))] [] (f_X4_readFrom this a1) := by
  unfold f_X4_readFrom
  refine sa_gdI ?_
  refine sa_aload_n C d_X4_readFrom_0 rfl 0 rfl ?_
  refine sa_iconst (v := 0) C d_X4_readFrom_1 (by decide) ?_
  refine sa_putI C fd_X4_15 d_X4_readFrom_2 ?_
  refine sa_aload_n C d_X4_readFrom_5 rfl 1 rfl ?_
  refine sa_invV (ci := 7) C (k_X7_rewind a1) q493 ds_X7_rewind q115 rfl q491 q492 q708 (gd_X7_rewind a1) rfl rfl rfl (Nat.le_of_ble_eq_true rfl) (by decide) (by decide) d_X4_readFrom_6 (fun _ => ?_)
  refine sa_sub [0, 1] rfl (sa_loop0 ([(0, .ref (ad this)), (1, .ref (ad a1))]) ([]) (fun j9 hj9  => ?_) _)
  refine sa_aload_n C d_X4_readFrom_9 rfl 0 rfl ?_
  refine sa_getI C fd_X4_15 d_X4_readFrom_10 (fun v1 => ?_)
  refine sa_bipush (v := 16) C d_X4_readFrom_13 (by decide) ?_
  refine sa_icmp_ge (tgt := 67) C d_X4_readFrom_15 (by decide) ?_ ?_
  · refine sa_iconst (v := 0) C d_X4_readFrom_67 (by decide) ?_
    exact sa_zret C d_X4_readFrom_68
  refine sa_aload_n C d_X4_readFrom_18 rfl 0 rfl ?_
  refine sa_aload_n C d_X4_readFrom_19 rfl 1 rfl ?_
  refine sa_invV (ci := 4) C (k_X4_readStep this a1) q712 ds_X4_readStep q120 rfl q711 q13 q709 (gd_X4_readStep this a1) rfl rfl rfl (Nat.le_of_ble_eq_true rfl) (by decide) (by decide) d_X4_readFrom_20 (fun v2 => ?_)
  refine sa_if_ne (tgt := 28) C d_X4_readFrom_23 (by decide) ?_ ?_
  · refine sa_aload_n C d_X4_readFrom_28 rfl 0 rfl ?_
    refine sa_dup C d_X4_readFrom_29 rfl ?_
    refine sa_getI C fd_X4_15 d_X4_readFrom_30 (fun v3 => ?_)
    refine sa_iconst (v := 1) C d_X4_readFrom_33 (by decide) ?_
    refine sa_iadd C d_X4_readFrom_34 ?_
    refine sa_putI C fd_X4_15 d_X4_readFrom_35 ?_
    refine sa_aload_n C d_X4_readFrom_38 rfl 1 rfl ?_
    refine sa_invV (ci := 7) C (k_X7_isEnded a1) q636 ds_X7_isEnded q115 rfl q634 q635 q724 (gd_X7_isEnded a1) rfl rfl rfl (Nat.le_of_ble_eq_true rfl) (by decide) (by decide) d_X4_readFrom_39 (fun v4 => ?_)
    refine sa_if_eq (tgt := 47) C d_X4_readFrom_42 (by decide) ?_ ?_
    · refine sa_aload_n C d_X4_readFrom_47 rfl 0 rfl ?_
      refine sa_getI C fd_X4_15 d_X4_readFrom_48 (fun v5 => ?_)
      refine sa_bipush (v := 16) C d_X4_readFrom_51 (by decide) ?_
      refine sa_join0 65 ([]) ([]) (?_) (fun j65 hj65 => ?_)
      · refine sa_iconst (v := 0) C d_X4_readFrom_65 (by decide) ?_
        exact sa_zret C d_X4_readFrom_66
      refine sa_icmp_eq (tgt := 65) C d_X4_readFrom_53 (by decide) ?_ ?_
      · exact sa_sub [] rfl (hj65)
      refine sa_aload_n C d_X4_readFrom_56 rfl 1 rfl ?_
      refine sa_bipush (v := 59) C d_X4_readFrom_57 (by decide) ?_
      refine sa_invV (ci := 7) C (k_X7_take a1 59) q656 ds_X7_take q115 rfl q654 q655 q725 (gd_X7_take a1 59) rfl rfl rfl (Nat.le_of_ble_eq_true rfl) (by decide) (by decide) d_X4_readFrom_59 (fun v6 => ?_)
      refine sa_if_ne (tgt := 9) C d_X4_readFrom_62 (by decide) ?_ ?_
      · exact sa_sub [0, 1] rfl (hj9)
      exact sa_sub [] rfl (hj65)
    refine sa_iconst (v := 1) C d_X4_readFrom_45 (by decide) ?_
    exact sa_zret C d_X4_readFrom_46
  refine sa_iconst (v := 0) C d_X4_readFrom_26 (by decide) ?_
  exact sa_zret C d_X4_readFrom_27
theorem k_X4_readFrom (this : Nat) (a1 : Nat) : sa_Met 6 yX4_readFrom cX4_readFrom 2 (some .boolean) (fun ad => [.ref (ad this), .ref (ad a1)]) sa_eI (f_X4_readFrom this a1) := sa_mk (by decide) (fun ad => Nat.le_of_ble_eq_true rfl) (fun p l e s m args below meth c D ad cA A C => b_X4_readFrom this a1 C)
theorem gd_X4_readFrom (this : Nat) (a1 : Nat) (σ : sa_St) (r : Int32) (τ : sa_St) (h : f_X4_readFrom this a1 σ = some (r, τ)) : sa_sh this = some (.inl 4) := sa_gd_ok h
theorem d_X4_part_0 : decode cX4_part 0 = .ok (.aload_n 0, 1) := by decide +kernel
theorem d_X4_part_1 : decode cX4_part 1 = .ok (.getfield 11, 3) := by decide +kernel
theorem d_X4_part_4 : decode cX4_part 4 = .ok (.iload_n 1, 1) := by decide +kernel
theorem d_X4_part_5 : decode cX4_part 5 = .ok (.iconst 3, 1) := by decide +kernel
theorem d_X4_part_6 : decode cX4_part 6 = .ok (.imul, 1) := by decide +kernel
theorem d_X4_part_7 : decode cX4_part 7 = .ok (.iload_n 2, 1) := by decide +kernel
theorem d_X4_part_8 : decode cX4_part 8 = .ok (.iadd, 1) := by decide +kernel
theorem d_X4_part_9 : decode cX4_part 9 = .ok (.iaload, 1) := by decide +kernel
theorem d_X4_part_10 : decode cX4_part 10 = .ok (.ireturn, 1) := by decide +kernel
def f_X4_part (this : Nat) (a1 : Int32) (a2 : Int32) : sa_M Int32 :=
sa_gd 4 this (
sa_bnd (sa_rdR 4 this 0) fun v1 =>
sa_bnd (sa_ldI .int v1 ((a1 * 3) + a2)) fun v2 =>
sa_ret (v2 : Int32))
set_option maxHeartbeats 1000000 in
set_option maxRecDepth 10000 in
theorem b_X4_part {p : Program} {l : Launch} {e : Env} {s : State} {m : MethodId} {args : Array Value} {below : List Frame} {meth : Method} {c : Code} {D : va_G} {ad : Nat → Nat} {cA : FieldType → ClassId} {A : Nat → Prop} (this : Nat) (a1 : Int32) (a2 : Int32) (C : sa_C p s m args meth c cX4_part RX4 "part" 3 (some .int) D ad cA A) : sa_Sg p l e s m args below meth c 3 1 D ad cA A sa_eI 0 [(0, .ref (ad this)), (1, .int a1), (2, .int a2)] [] (f_X4_part this a1 a2) := by
  unfold f_X4_part
  refine sa_gdI ?_
  refine sa_aload_n C d_X4_part_0 rfl 0 rfl ?_
  refine sa_getR C fd_X4_11 rfl d_X4_part_1 (fun v1 => ?_)
  refine sa_iload_n C d_X4_part_4 rfl 1 rfl ?_
  refine sa_iconst (v := 3) C d_X4_part_5 (by decide) ?_
  refine sa_imul C d_X4_part_6 ?_
  refine sa_iload_n C d_X4_part_7 rfl 2 rfl ?_
  refine sa_iadd C d_X4_part_8 ?_
  refine sa_iald C d_X4_part_9 (fun v2 => ?_)
  exact sa_iret C d_X4_part_10
theorem k_X4_part (this : Nat) (a1 : Int32) (a2 : Int32) : sa_Met 1 yX4_part cX4_part 3 (some .int) (fun ad => [.ref (ad this), .int a1, .int a2]) sa_eI (f_X4_part this a1 a2) := sa_mk (by decide) (fun ad => Nat.le_of_ble_eq_true rfl) (fun p l e s m args below meth c D ad cA A C => b_X4_part this a1 a2 C)
theorem gd_X4_part (this : Nat) (a1 : Int32) (a2 : Int32) (σ : sa_St) (r : Int32) (τ : sa_St) (h : f_X4_part this a1 a2 σ = some (r, τ)) : sa_sh this = some (.inl 4) := sa_gd_ok h
theorem d_X4_act_0 : decode cX4_act 0 = .ok (.aload_n 0, 1) := by decide +kernel
theorem d_X4_act_1 : decode cX4_act 1 = .ok (.iload_n 1, 1) := by decide +kernel
theorem d_X4_act_2 : decode cX4_act 2 = .ok (.iconst 0, 1) := by decide +kernel
theorem d_X4_act_3 : decode cX4_act 3 = .ok (.invokevirtual 58, 3) := by decide +kernel
theorem d_X4_act_6 : decode cX4_act 6 = .ok (.iconst 4, 1) := by decide +kernel
theorem d_X4_act_7 : decode cX4_act 7 = .ok (.invokestatic 62, 3) := by decide +kernel
theorem d_X4_act_10 : decode cX4_act 10 = .ok (.ireturn, 1) := by decide +kernel
def f_X4_act (this : Nat) (a1 : Int32) : sa_M Int32 :=
sa_gd 4 this (
sa_bnd (f_X4_part this a1 0) fun v1 =>
sa_ret ((sa_min v1 4) : Int32))
set_option maxHeartbeats 1000000 in
set_option maxRecDepth 10000 in
theorem b_X4_act {p : Program} {l : Launch} {e : Env} {s : State} {m : MethodId} {args : Array Value} {below : List Frame} {meth : Method} {c : Code} {D : va_G} {ad : Nat → Nat} {cA : FieldType → ClassId} {A : Nat → Prop} (this : Nat) (a1 : Int32) (C : sa_C p s m args meth c cX4_act RX4 "act" 2 (some .int) D ad cA A) : sa_Sg p l e s m args below meth c 2 2 D ad cA A sa_eI 0 [(0, .ref (ad this)), (1, .int a1)] [] (f_X4_act this a1) := by
  unfold f_X4_act
  refine sa_gdI ?_
  refine sa_aload_n C d_X4_act_0 rfl 0 rfl ?_
  refine sa_iload_n C d_X4_act_1 rfl 1 rfl ?_
  refine sa_iconst (v := 0) C d_X4_act_2 (by decide) ?_
  refine sa_invV (ci := 4) C (k_X4_part this a1 0) q971 ds_X4_part q120 rfl q969 q970 q982 (gd_X4_part this a1 0) rfl rfl rfl (Nat.le_of_ble_eq_true rfl) (by decide) (by decide) d_X4_act_3 (fun v1 => ?_)
  refine sa_iconst (v := 4) C d_X4_act_6 (by decide) ?_
  refine sa_mmin C q983 (Nat.le_of_ble_eq_true rfl) (by decide) q530 q130 q531 d_X4_act_7 ?_
  exact sa_iret C d_X4_act_10
theorem k_X4_act (this : Nat) (a1 : Int32) : sa_Met 2 yX4_act cX4_act 2 (some .int) (fun ad => [.ref (ad this), .int a1]) sa_eI (f_X4_act this a1) := sa_mk (by decide) (fun ad => Nat.le_of_ble_eq_true rfl) (fun p l e s m args below meth c D ad cA A C => b_X4_act this a1 C)
theorem gd_X4_act (this : Nat) (a1 : Int32) (σ : sa_St) (r : Int32) (τ : sa_St) (h : f_X4_act this a1 σ = some (r, τ)) : sa_sh this = some (.inl 4) := sa_gd_ok h
theorem d_X4_first_0 : decode cX4_first 0 = .ok (.aload_n 0, 1) := by decide +kernel
theorem d_X4_first_1 : decode cX4_first 1 = .ok (.iload_n 1, 1) := by decide +kernel
theorem d_X4_first_2 : decode cX4_first 2 = .ok (.invokevirtual 67, 3) := by decide +kernel
theorem d_X4_first_5 : decode cX4_first 5 = .ok (.iconst 4, 1) := by decide +kernel
theorem d_X4_first_6 : decode cX4_first 6 = .ok (.if_icmp .eq 10, 3) := by decide +kernel
theorem d_X4_first_9 : decode cX4_first 9 = .ok (.aload_n 0, 1) := by decide +kernel
theorem d_X4_first_10 : decode cX4_first 10 = .ok (.iload_n 1, 1) := by decide +kernel
theorem d_X4_first_11 : decode cX4_first 11 = .ok (.iconst 1, 1) := by decide +kernel
theorem d_X4_first_12 : decode cX4_first 12 = .ok (.invokevirtual 58, 3) := by decide +kernel
theorem d_X4_first_15 : decode cX4_first 15 = .ok (.ireturn, 1) := by decide +kernel
theorem d_X4_first_16 : decode cX4_first 16 = .ok (.aload_n 0, 1) := by decide +kernel
theorem d_X4_first_17 : decode cX4_first 17 = .ok (.iload_n 1, 1) := by decide +kernel
theorem d_X4_first_18 : decode cX4_first 18 = .ok (.iconst 0, 1) := by decide +kernel
theorem d_X4_first_19 : decode cX4_first 19 = .ok (.invokevirtual 58, 3) := by decide +kernel
theorem d_X4_first_22 : decode cX4_first 22 = .ok (.iconst 5, 1) := by decide +kernel
theorem d_X4_first_23 : decode cX4_first 23 = .ok (.if_icmp .ne 10, 3) := by decide +kernel
theorem d_X4_first_26 : decode cX4_first 26 = .ok (.aload_n 2, 1) := by decide +kernel
theorem d_X4_first_27 : decode cX4_first 27 = .ok (.invokevirtual 70, 3) := by decide +kernel
theorem d_X4_first_30 : decode cX4_first 30 = .ok (.goto 4, 3) := by decide +kernel
theorem d_X4_first_33 : decode cX4_first 33 = .ok (.iconst 0, 1) := by decide +kernel
theorem d_X4_first_34 : decode cX4_first 34 = .ok (.ireturn, 1) := by decide +kernel
def f_X4_first (this : Nat) (a1 : Int32) (a2 : Nat) : sa_M Int32 :=
sa_gd 4 this (
sa_bnd (f_X4_act this a1) fun v1 =>
if v1 = 4 then
sa_bnd (f_X4_part this a1 0) fun v2 =>
sa_jn1 (fun (y3 : Int32) =>
sa_ret (y3 : Int32)) fun j34 =>
if ¬ v2 = 5 then
j34 0
else
sa_bnd (f_X1_allPlaces a2) fun v4 =>
j34 v4
else
sa_bnd (f_X4_part this a1 1) fun v5 =>
sa_ret (v5 : Int32))
set_option maxHeartbeats 1000000 in
set_option maxRecDepth 10000 in
theorem b_X4_first {p : Program} {l : Launch} {e : Env} {s : State} {m : MethodId} {args : Array Value} {below : List Frame} {meth : Method} {c : Code} {D : va_G} {ad : Nat → Nat} {cA : FieldType → ClassId} {A : Nat → Prop} (this : Nat) (a1 : Int32) (a2 : Nat) (C : sa_C p s m args meth c cX4_first RX4 "first" 3 (some .int) D ad cA A) : sa_Sg p l e s m args below meth c 3 3 D ad cA A sa_eI 0 [(0, .ref (ad this)), (1, .int a1), (2, .ref (ad a2))] [] (f_X4_first this a1 a2) := by
  unfold f_X4_first
  refine sa_gdI ?_
  refine sa_aload_n C d_X4_first_0 rfl 0 rfl ?_
  refine sa_iload_n C d_X4_first_1 rfl 1 rfl ?_
  refine sa_invV (ci := 4) C (k_X4_act this a1) q981 ds_X4_act q120 rfl q979 q980 q988 (gd_X4_act this a1) rfl rfl rfl (Nat.le_of_ble_eq_true rfl) (by decide) (by decide) d_X4_first_2 (fun v1 => ?_)
  refine sa_iconst (v := 4) C d_X4_first_5 (by decide) ?_
  refine sa_icmp_eq (tgt := 16) C d_X4_first_6 (by decide) ?_ ?_
  · refine sa_aload_n C d_X4_first_16 rfl 0 rfl ?_
    refine sa_iload_n C d_X4_first_17 rfl 1 rfl ?_
    refine sa_iconst (v := 0) C d_X4_first_18 (by decide) ?_
    refine sa_invV (ci := 4) C (k_X4_part this a1 0) q971 ds_X4_part q120 rfl q969 q970 q982 (gd_X4_part this a1 0) rfl rfl rfl (Nat.le_of_ble_eq_true rfl) (by decide) (by decide) d_X4_first_19 (fun v2 => ?_)
    refine sa_iconst (v := 5) C d_X4_first_22 (by decide) ?_
    refine sa_join1 34 (fun y3 => []) (fun y3 => [.int y3]) (fun y3 => ?_) (fun j34 hj34 => ?_)
    · exact sa_iret C d_X4_first_34
    refine sa_icmp_ne (tgt := 33) C d_X4_first_23 (by decide) ?_ ?_
    · refine sa_iconst (v := 0) C d_X4_first_33 (by decide) ?_
      exact sa_sub [] rfl (hj34 _)
    refine sa_aload_n C d_X4_first_26 rfl 2 rfl ?_
    refine sa_invV (ci := 1) C (k_X1_allPlaces a2) q931 ds_X1_allPlaces q116 rfl q929 q930 q989 (gd_X1_allPlaces a2) rfl rfl rfl (Nat.le_of_ble_eq_true rfl) (by decide) (by decide) d_X4_first_27 (fun v4 => ?_)
    refine sa_goto (tgt := 34) C d_X4_first_30 (by decide) ?_
    exact sa_sub [] rfl (hj34 _)
  refine sa_aload_n C d_X4_first_9 rfl 0 rfl ?_
  refine sa_iload_n C d_X4_first_10 rfl 1 rfl ?_
  refine sa_iconst (v := 1) C d_X4_first_11 (by decide) ?_
  refine sa_invV (ci := 4) C (k_X4_part this a1 1) q971 ds_X4_part q120 rfl q969 q970 q982 (gd_X4_part this a1 1) rfl rfl rfl (Nat.le_of_ble_eq_true rfl) (by decide) (by decide) d_X4_first_12 (fun v5 => ?_)
  exact sa_iret C d_X4_first_15
theorem k_X4_first (this : Nat) (a1 : Int32) (a2 : Nat) : sa_Met 3 yX4_first cX4_first 3 (some .int) (fun ad => [.ref (ad this), .int a1, .ref (ad a2)]) sa_eI (f_X4_first this a1 a2) := sa_mk (by decide) (fun ad => Nat.le_of_ble_eq_true rfl) (fun p l e s m args below meth c D ad cA A C => b_X4_first this a1 a2 C)
theorem gd_X4_first (this : Nat) (a1 : Int32) (a2 : Nat) (σ : sa_St) (r : Int32) (τ : sa_St) (h : f_X4_first this a1 a2 σ = some (r, τ)) : sa_sh this = some (.inl 4) := sa_gd_ok h
theorem d_X4_second_0 : decode cX4_second 0 = .ok (.iconst 0, 1) := by decide +kernel
theorem d_X4_second_1 : decode cX4_second 1 = .ok (.aload_n 0, 1) := by decide +kernel
theorem d_X4_second_2 : decode cX4_second 2 = .ok (.iload_n 1, 1) := by decide +kernel
theorem d_X4_second_3 : decode cX4_second 3 = .ok (.iconst 2, 1) := by decide +kernel
theorem d_X4_second_4 : decode cX4_second 4 = .ok (.invokevirtual 58, 3) := by decide +kernel
theorem d_X4_second_7 : decode cX4_second 7 = .ok (.invokestatic 75, 3) := by decide +kernel
theorem d_X4_second_10 : decode cX4_second 10 = .ok (.ireturn, 1) := by decide +kernel
def f_X4_second (this : Nat) (a1 : Int32) : sa_M Int32 :=
sa_gd 4 this (
sa_bnd (f_X4_part this a1 2) fun v1 =>
sa_ret ((sa_max 0 v1) : Int32))
set_option maxHeartbeats 1000000 in
set_option maxRecDepth 10000 in
theorem b_X4_second {p : Program} {l : Launch} {e : Env} {s : State} {m : MethodId} {args : Array Value} {below : List Frame} {meth : Method} {c : Code} {D : va_G} {ad : Nat → Nat} {cA : FieldType → ClassId} {A : Nat → Prop} (this : Nat) (a1 : Int32) (C : sa_C p s m args meth c cX4_second RX4 "second" 2 (some .int) D ad cA A) : sa_Sg p l e s m args below meth c 2 2 D ad cA A sa_eI 0 [(0, .ref (ad this)), (1, .int a1)] [] (f_X4_second this a1) := by
  unfold f_X4_second
  refine sa_gdI ?_
  refine sa_iconst (v := 0) C d_X4_second_0 (by decide) ?_
  refine sa_aload_n C d_X4_second_1 rfl 0 rfl ?_
  refine sa_iload_n C d_X4_second_2 rfl 1 rfl ?_
  refine sa_iconst (v := 2) C d_X4_second_3 (by decide) ?_
  refine sa_invV (ci := 4) C (k_X4_part this a1 2) q971 ds_X4_part q120 rfl q969 q970 q982 (gd_X4_part this a1 2) rfl rfl rfl (Nat.le_of_ble_eq_true rfl) (by decide) (by decide) d_X4_second_4 (fun v1 => ?_)
  refine sa_mmax C q994 (Nat.le_of_ble_eq_true rfl) (by decide) q527 q130 q528 d_X4_second_7 ?_
  exact sa_iret C d_X4_second_10
theorem k_X4_second (this : Nat) (a1 : Int32) : sa_Met 2 yX4_second cX4_second 2 (some .int) (fun ad => [.ref (ad this), .int a1]) sa_eI (f_X4_second this a1) := sa_mk (by decide) (fun ad => Nat.le_of_ble_eq_true rfl) (fun p l e s m args below meth c D ad cA A C => b_X4_second this a1 C)
theorem gd_X4_second (this : Nat) (a1 : Int32) (σ : sa_St) (r : Int32) (τ : sa_St) (h : f_X4_second this a1 σ = some (r, τ)) : sa_sh this = some (.inl 4) := sa_gd_ok h
