theorem d_X11_feed_0 : decode cX11_feed 0 = .ok (.iload_n 1, 1) := by decide +kernel
theorem d_X11_feed_1 : decode cX11_feed 1 = .ok (.invokestatic 87, 3) := by decide +kernel
theorem d_X11_feed_4 : decode cX11_feed 4 = .ok (.iload_n 2, 1) := by decide +kernel
theorem d_X11_feed_5 : decode cX11_feed 5 = .ok (.invokestatic 87, 3) := by decide +kernel
theorem d_X11_feed_8 : decode cX11_feed 8 = .ok (.iadd, 1) := by decide +kernel
theorem d_X11_feed_9 : decode cX11_feed 9 = .ok (.iload_n 3, 1) := by decide +kernel
theorem d_X11_feed_10 : decode cX11_feed 10 = .ok (.invokestatic 87, 3) := by decide +kernel
theorem d_X11_feed_13 : decode cX11_feed 13 = .ok (.iadd, 1) := by decide +kernel
theorem d_X11_feed_14 : decode cX11_feed 14 = .ok (.iload 4, 2) := by decide +kernel
theorem d_X11_feed_16 : decode cX11_feed 16 = .ok (.invokestatic 87, 3) := by decide +kernel
theorem d_X11_feed_19 : decode cX11_feed 19 = .ok (.iadd, 1) := by decide +kernel
theorem d_X11_feed_20 : decode cX11_feed 20 = .ok (.iload 5, 2) := by decide +kernel
theorem d_X11_feed_22 : decode cX11_feed 22 = .ok (.invokestatic 87, 3) := by decide +kernel
theorem d_X11_feed_25 : decode cX11_feed 25 = .ok (.iadd, 1) := by decide +kernel
theorem d_X11_feed_26 : decode cX11_feed 26 = .ok (.istore 6, 2) := by decide +kernel
theorem d_X11_feed_28 : decode cX11_feed 28 = .ok (.aload_n 0, 1) := by decide +kernel
theorem d_X11_feed_29 : decode cX11_feed 29 = .ok (.getfield 10, 3) := by decide +kernel
theorem d_X11_feed_32 : decode cX11_feed 32 = .ok (.getfield 91, 3) := by decide +kernel
theorem d_X11_feed_35 : decode cX11_feed 35 = .ok (.iload 6, 2) := by decide +kernel
theorem d_X11_feed_37 : decode cX11_feed 37 = .ok (.iadd, 1) := by decide +kernel
theorem d_X11_feed_38 : decode cX11_feed 38 = .ok (.sipush 240, 3) := by decide +kernel
theorem d_X11_feed_41 : decode cX11_feed 41 = .ok (.if_icmp .le 5, 3) := by decide +kernel
theorem d_X11_feed_44 : decode cX11_feed 44 = .ok (.iconst (-1), 1) := by decide +kernel
theorem d_X11_feed_45 : decode cX11_feed 45 = .ok (.ireturn, 1) := by decide +kernel
theorem d_X11_feed_46 : decode cX11_feed 46 = .ok (.aload_n 0, 1) := by decide +kernel
theorem d_X11_feed_47 : decode cX11_feed 47 = .ok (.getfield 10, 3) := by decide +kernel
theorem d_X11_feed_50 : decode cX11_feed 50 = .ok (.iload_n 1, 1) := by decide +kernel
theorem d_X11_feed_51 : decode cX11_feed 51 = .ok (.invokevirtual 95, 3) := by decide +kernel
theorem d_X11_feed_54 : decode cX11_feed 54 = .ok (.aload_n 0, 1) := by decide +kernel
theorem d_X11_feed_55 : decode cX11_feed 55 = .ok (.getfield 10, 3) := by decide +kernel
theorem d_X11_feed_58 : decode cX11_feed 58 = .ok (.iload_n 2, 1) := by decide +kernel
theorem d_X11_feed_59 : decode cX11_feed 59 = .ok (.invokevirtual 95, 3) := by decide +kernel
theorem d_X11_feed_62 : decode cX11_feed 62 = .ok (.aload_n 0, 1) := by decide +kernel
theorem d_X11_feed_63 : decode cX11_feed 63 = .ok (.getfield 10, 3) := by decide +kernel
theorem d_X11_feed_66 : decode cX11_feed 66 = .ok (.iload_n 3, 1) := by decide +kernel
theorem d_X11_feed_67 : decode cX11_feed 67 = .ok (.invokevirtual 95, 3) := by decide +kernel
theorem d_X11_feed_70 : decode cX11_feed 70 = .ok (.aload_n 0, 1) := by decide +kernel
theorem d_X11_feed_71 : decode cX11_feed 71 = .ok (.getfield 10, 3) := by decide +kernel
theorem d_X11_feed_74 : decode cX11_feed 74 = .ok (.iload 4, 2) := by decide +kernel
theorem d_X11_feed_76 : decode cX11_feed 76 = .ok (.invokevirtual 95, 3) := by decide +kernel
theorem d_X11_feed_79 : decode cX11_feed 79 = .ok (.aload_n 0, 1) := by decide +kernel
theorem d_X11_feed_80 : decode cX11_feed 80 = .ok (.getfield 10, 3) := by decide +kernel
theorem d_X11_feed_83 : decode cX11_feed 83 = .ok (.iload 5, 2) := by decide +kernel
theorem d_X11_feed_85 : decode cX11_feed 85 = .ok (.invokevirtual 95, 3) := by decide +kernel
theorem d_X11_feed_88 : decode cX11_feed 88 = .ok (.aload_n 0, 1) := by decide +kernel
theorem d_X11_feed_89 : decode cX11_feed 89 = .ok (.getfield 10, 3) := by decide +kernel
theorem d_X11_feed_92 : decode cX11_feed 92 = .ok (.getfield 91, 3) := by decide +kernel
theorem d_X11_feed_95 : decode cX11_feed 95 = .ok (.ireturn, 1) := by decide +kernel
def f_X11_feed (this : Nat) (a1 : Int32) (a2 : Int32) (a3 : Int32) (a4 : Int32) (a5 : Int32) : sa_M Int32 :=
sa_gd 11 this (
sa_bnd (f_X7_signsOf a1) fun v1 =>
sa_bnd (f_X7_signsOf a2) fun v2 =>
sa_bnd (f_X7_signsOf a3) fun v3 =>
sa_bnd (f_X7_signsOf a4) fun v4 =>
sa_bnd (f_X7_signsOf a5) fun v5 =>
sa_let (((((v1 + v2) + v3) + v4) + v5) : Int32) fun x6 =>
sa_bnd (sa_rdR 11 this 0) fun v7 =>
sa_bnd (sa_rdI 7 v7 1) fun v8 =>
if (v8 + x6) ≤ 240 then
sa_bnd (sa_rdR 11 this 0) fun v9 =>
sa_bnd (f_X7_add v9 a1) fun _ =>
sa_bnd (sa_rdR 11 this 0) fun v10 =>
sa_bnd (f_X7_add v10 a2) fun _ =>
sa_bnd (sa_rdR 11 this 0) fun v11 =>
sa_bnd (f_X7_add v11 a3) fun _ =>
sa_bnd (sa_rdR 11 this 0) fun v12 =>
sa_bnd (f_X7_add v12 a4) fun _ =>
sa_bnd (sa_rdR 11 this 0) fun v13 =>
sa_bnd (f_X7_add v13 a5) fun _ =>
sa_bnd (sa_rdR 11 this 0) fun v14 =>
sa_bnd (sa_rdI 7 v14 1) fun v15 =>
sa_ret (v15 : Int32)
else
sa_ret ((-1) : Int32))
set_option maxHeartbeats 1000000 in
set_option maxRecDepth 10000 in
theorem b_X11_feed {p : Program} {l : Launch} {e : Env} {s : State} {m : MethodId} {args : Array Value} {below : List Frame} {meth : Method} {c : Code} {D : va_G} {ad : Nat → Nat} {cA : FieldType → ClassId} {A : Nat → Prop} (this : Nat) (a1 : Int32) (a2 : Int32) (a3 : Int32) (a4 : Int32) (a5 : Int32) (C : sa_C p s m args meth c cX11_feed RX11 "feed" 7 (some .int) D ad cA A) : sa_Sg p l e s m args below meth c 7 2 D ad cA A sa_eI 0 [(0, .ref (ad this)), (1, .int a1), (2, .int a2), (3, .int a3), (4, .int a4), (5, .int a5)] [] (f_X11_feed this a1 a2 a3 a4 a5) := by
  unfold f_X11_feed
  refine sa_gdI ?_
  refine sa_iload_n C d_X11_feed_0 rfl 1 rfl ?_
  refine sa_invS C (k_X7_signsOf a1) q468 ds_X7_signsOf q115 q467 q466 rfl rfl rfl (Nat.le_of_ble_eq_true rfl) (by decide) (by decide) d_X11_feed_1 (fun v1 => ?_)
  refine sa_iload_n C d_X11_feed_4 rfl 2 rfl ?_
  refine sa_invS C (k_X7_signsOf a2) q468 ds_X7_signsOf q115 q467 q466 rfl rfl rfl (Nat.le_of_ble_eq_true rfl) (by decide) (by decide) d_X11_feed_5 (fun v2 => ?_)
  refine sa_iadd C d_X11_feed_8 ?_
  refine sa_iload_n C d_X11_feed_9 rfl 3 rfl ?_
  refine sa_invS C (k_X7_signsOf a3) q468 ds_X7_signsOf q115 q467 q466 rfl rfl rfl (Nat.le_of_ble_eq_true rfl) (by decide) (by decide) d_X11_feed_10 (fun v3 => ?_)
  refine sa_iadd C d_X11_feed_13 ?_
  refine sa_iload C d_X11_feed_14 4 rfl ?_
  refine sa_invS C (k_X7_signsOf a4) q468 ds_X7_signsOf q115 q467 q466 rfl rfl rfl (Nat.le_of_ble_eq_true rfl) (by decide) (by decide) d_X11_feed_16 (fun v4 => ?_)
  refine sa_iadd C d_X11_feed_19 ?_
  refine sa_iload C d_X11_feed_20 5 rfl ?_
  refine sa_invS C (k_X7_signsOf a5) q468 ds_X7_signsOf q115 q467 q466 rfl rfl rfl (Nat.le_of_ble_eq_true rfl) (by decide) (by decide) d_X11_feed_22 (fun v5 => ?_)
  refine sa_iadd C d_X11_feed_25 ?_
  refine sa_topi (fun x6 => ?_)
  refine sa_istore (lv' := [(6, .int x6), (0, .ref (ad this)), (1, .int a1), (2, .int a2), (3, .int a3), (4, .int a4), (5, .int a5)]) C d_X11_feed_26 (by decide) rfl ?_
  refine sa_aload_n C d_X11_feed_28 rfl 1 rfl ?_
  refine sa_getR C fd_X11_10 rfl d_X11_feed_29 (fun v7 => ?_)
  refine sa_getI C fd_X11_91 d_X11_feed_32 (fun v8 => ?_)
  refine sa_iload C d_X11_feed_35 0 rfl ?_
  refine sa_iadd C d_X11_feed_37 ?_
  refine sa_sipush (v := 240) C d_X11_feed_38 (by decide) ?_
  refine sa_icmp_le (tgt := 46) C d_X11_feed_41 (by decide) ?_ ?_
  · refine sa_aload_n C d_X11_feed_46 rfl 1 rfl ?_
    refine sa_getR C fd_X11_10 rfl d_X11_feed_47 (fun v9 => ?_)
    refine sa_iload_n C d_X11_feed_50 rfl 2 rfl ?_
    refine sa_invV (ci := 7) C (k_X7_add v9 a1) q472 ds_X7_add q115 rfl q470 q471 q469 (gd_X7_add v9 a1) rfl rfl rfl (Nat.le_of_ble_eq_true rfl) (by decide) (by decide) d_X11_feed_51 (fun _ => ?_)
    refine sa_aload_n C d_X11_feed_54 rfl 1 rfl ?_
    refine sa_getR C fd_X11_10 rfl d_X11_feed_55 (fun v10 => ?_)
    refine sa_iload_n C d_X11_feed_58 rfl 3 rfl ?_
    refine sa_invV (ci := 7) C (k_X7_add v10 a2) q472 ds_X7_add q115 rfl q470 q471 q469 (gd_X7_add v10 a2) rfl rfl rfl (Nat.le_of_ble_eq_true rfl) (by decide) (by decide) d_X11_feed_59 (fun _ => ?_)
    refine sa_aload_n C d_X11_feed_62 rfl 1 rfl ?_
    refine sa_getR C fd_X11_10 rfl d_X11_feed_63 (fun v11 => ?_)
    refine sa_iload_n C d_X11_feed_66 rfl 4 rfl ?_
    refine sa_invV (ci := 7) C (k_X7_add v11 a3) q472 ds_X7_add q115 rfl q470 q471 q469 (gd_X7_add v11 a3) rfl rfl rfl (Nat.le_of_ble_eq_true rfl) (by decide) (by decide) d_X11_feed_67 (fun _ => ?_)
    refine sa_aload_n C d_X11_feed_70 rfl 1 rfl ?_
    refine sa_getR C fd_X11_10 rfl d_X11_feed_71 (fun v12 => ?_)
    refine sa_iload C d_X11_feed_74 5 rfl ?_
    refine sa_invV (ci := 7) C (k_X7_add v12 a4) q472 ds_X7_add q115 rfl q470 q471 q469 (gd_X7_add v12 a4) rfl rfl rfl (Nat.le_of_ble_eq_true rfl) (by decide) (by decide) d_X11_feed_76 (fun _ => ?_)
    refine sa_aload_n C d_X11_feed_79 rfl 1 rfl ?_
    refine sa_getR C fd_X11_10 rfl d_X11_feed_80 (fun v13 => ?_)
    refine sa_iload C d_X11_feed_83 6 rfl ?_
    refine sa_invV (ci := 7) C (k_X7_add v13 a5) q472 ds_X7_add q115 rfl q470 q471 q469 (gd_X7_add v13 a5) rfl rfl rfl (Nat.le_of_ble_eq_true rfl) (by decide) (by decide) d_X11_feed_85 (fun _ => ?_)
    refine sa_aload_n C d_X11_feed_88 rfl 1 rfl ?_
    refine sa_getR C fd_X11_10 rfl d_X11_feed_89 (fun v14 => ?_)
    refine sa_getI C fd_X11_91 d_X11_feed_92 (fun v15 => ?_)
    exact sa_iret C d_X11_feed_95
  refine sa_iconst (v := (-1)) C d_X11_feed_44 (by decide) ?_
  exact sa_iret C d_X11_feed_45
theorem k_X11_feed (this : Nat) (a1 : Int32) (a2 : Int32) (a3 : Int32) (a4 : Int32) (a5 : Int32) : sa_Met 2 yX11_feed cX11_feed 7 (some .int) (fun ad => [.ref (ad this), .int a1, .int a2, .int a3, .int a4, .int a5]) sa_eI (f_X11_feed this a1 a2 a3 a4 a5) := sa_mk (by decide) (fun ad => Nat.le_of_ble_eq_true rfl) (fun p l e s m args below meth c D ad cA A C => b_X11_feed this a1 a2 a3 a4 a5 C)
theorem gd_X11_feed (this : Nat) (a1 : Int32) (a2 : Int32) (a3 : Int32) (a4 : Int32) (a5 : Int32) (σ : sa_St) (r : Int32) (τ : sa_St) (h : f_X11_feed this a1 a2 a3 a4 a5 σ = some (r, τ)) : sa_sh this = some (.inl 11) := sa_gd_ok h
theorem d_X11_end_0 : decode cX11_end 0 = .ok (.iload_n 1, 1) := by decide +kernel
theorem d_X11_end_1 : decode cX11_end 1 = .ok (.ifCond .lt 14, 3) := by decide +kernel
theorem d_X11_end_4 : decode cX11_end 4 = .ok (.iload_n 1, 1) := by decide +kernel
theorem d_X11_end_5 : decode cX11_end 5 = .ok (.aload_n 0, 1) := by decide +kernel
theorem d_X11_end_6 : decode cX11_end 6 = .ok (.getfield 10, 3) := by decide +kernel
theorem d_X11_end_9 : decode cX11_end 9 = .ok (.getfield 91, 3) := by decide +kernel
theorem d_X11_end_12 : decode cX11_end 12 = .ok (.if_icmp .le 5, 3) := by decide +kernel
theorem d_X11_end_15 : decode cX11_end 15 = .ok (.iconst 0, 1) := by decide +kernel
theorem d_X11_end_16 : decode cX11_end 16 = .ok (.ireturn, 1) := by decide +kernel
theorem d_X11_end_17 : decode cX11_end 17 = .ok (.aload_n 0, 1) := by decide +kernel
theorem d_X11_end_18 : decode cX11_end 18 = .ok (.getfield 10, 3) := by decide +kernel
theorem d_X11_end_21 : decode cX11_end 21 = .ok (.iload_n 1, 1) := by decide +kernel
theorem d_X11_end_22 : decode cX11_end 22 = .ok (.putfield 91, 3) := by decide +kernel
theorem d_X11_end_25 : decode cX11_end 25 = .ok (.iconst 1, 1) := by decide +kernel
theorem d_X11_end_26 : decode cX11_end 26 = .ok (.ireturn, 1) := by decide +kernel
def f_X11_end (this : Nat) (a1 : Int32) : sa_M Int32 :=
sa_gd 11 this (
sa_jn0 (sa_retZ 0) fun j15 =>
if a1 < 0 then
j15
else
sa_bnd (sa_rdR 11 this 0) fun v1 =>
sa_bnd (sa_rdI 7 v1 1) fun v2 =>
if a1 ≤ v2 then
sa_bnd (sa_rdR 11 this 0) fun v3 =>
sa_bnd (sa_wrI 7 v3 1 a1) fun _ =>
sa_retZ 1
else
j15)
set_option maxHeartbeats 1000000 in
set_option maxRecDepth 10000 in
theorem b_X11_end {p : Program} {l : Launch} {e : Env} {s : State} {m : MethodId} {args : Array Value} {below : List Frame} {meth : Method} {c : Code} {D : va_G} {ad : Nat → Nat} {cA : FieldType → ClassId} {A : Nat → Prop} (this : Nat) (a1 : Int32) (C : sa_C p s m args meth c cX11_end RX11 "end" 2 (some .boolean) D ad cA A) : sa_Sg p l e s m args below meth c 2 1 D ad cA A sa_eI 0 [(0, .ref (ad this)), (1, .int a1)] [] (f_X11_end this a1) := by
  unfold f_X11_end
  refine sa_gdI ?_
  refine sa_iload_n C d_X11_end_0 rfl 1 rfl ?_
  refine sa_join0 15 ([]) ([]) (?_) (fun j15 hj15 => ?_)
  · refine sa_iconst (v := 0) C d_X11_end_15 (by decide) ?_
    exact sa_zret C d_X11_end_16
  refine sa_if_lt (tgt := 15) C d_X11_end_1 (by decide) ?_ ?_
  · exact sa_sub [] rfl (hj15)
  refine sa_iload_n C d_X11_end_4 rfl 1 rfl ?_
  refine sa_aload_n C d_X11_end_5 rfl 0 rfl ?_
  refine sa_getR C fd_X11_10 rfl d_X11_end_6 (fun v1 => ?_)
  refine sa_getI C fd_X11_91 d_X11_end_9 (fun v2 => ?_)
  refine sa_icmp_le (tgt := 17) C d_X11_end_12 (by decide) ?_ ?_
  · refine sa_aload_n C d_X11_end_17 rfl 0 rfl ?_
    refine sa_getR C fd_X11_10 rfl d_X11_end_18 (fun v3 => ?_)
    refine sa_iload_n C d_X11_end_21 rfl 1 rfl ?_
    refine sa_putI C fd_X11_91 d_X11_end_22 ?_
    refine sa_iconst (v := 1) C d_X11_end_25 (by decide) ?_
    exact sa_zret C d_X11_end_26
  exact sa_sub [] rfl (hj15)
theorem k_X11_end (this : Nat) (a1 : Int32) : sa_Met 1 yX11_end cX11_end 2 (some .boolean) (fun ad => [.ref (ad this), .int a1]) sa_eI (f_X11_end this a1) := sa_mk (by decide) (fun ad => Nat.le_of_ble_eq_true rfl) (fun p l e s m args below meth c D ad cA A C => b_X11_end this a1 C)
theorem gd_X11_end (this : Nat) (a1 : Int32) (σ : sa_St) (r : Int32) (τ : sa_St) (h : f_X11_end this a1 σ = some (r, τ)) : sa_sh this = some (.inl 11) := sa_gd_ok h
theorem d_X11_readTape_0 : decode cX11_readTape 0 = .ok (.iload_n 1, 1) := by decide +kernel
theorem d_X11_readTape_1 : decode cX11_readTape 1 = .ok (.ifCond .ne 15, 3) := by decide +kernel
theorem d_X11_readTape_4 : decode cX11_readTape 4 = .ok (.aload_n 0, 1) := by decide +kernel
theorem d_X11_readTape_5 : decode cX11_readTape 5 = .ok (.getfield 23, 3) := by decide +kernel
theorem d_X11_readTape_8 : decode cX11_readTape 8 = .ok (.aload_n 0, 1) := by decide +kernel
theorem d_X11_readTape_9 : decode cX11_readTape 9 = .ok (.getfield 10, 3) := by decide +kernel
theorem d_X11_readTape_12 : decode cX11_readTape 12 = .ok (.invokevirtual 304, 3) := by decide +kernel
theorem d_X11_readTape_15 : decode cX11_readTape 15 = .ok (.ireturn, 1) := by decide +kernel
theorem d_X11_readTape_16 : decode cX11_readTape 16 = .ok (.iload_n 1, 1) := by decide +kernel
theorem d_X11_readTape_17 : decode cX11_readTape 17 = .ok (.iconst 1, 1) := by decide +kernel
theorem d_X11_readTape_18 : decode cX11_readTape 18 = .ok (.if_icmp .ne 28, 3) := by decide +kernel
theorem d_X11_readTape_21 : decode cX11_readTape 21 = .ok (.aload_n 0, 1) := by decide +kernel
theorem d_X11_readTape_22 : decode cX11_readTape 22 = .ok (.getfield 29, 3) := by decide +kernel
theorem d_X11_readTape_25 : decode cX11_readTape 25 = .ok (.getfield 308, 3) := by decide +kernel
theorem d_X11_readTape_28 : decode cX11_readTape 28 = .ok (.aload_n 0, 1) := by decide +kernel
theorem d_X11_readTape_29 : decode cX11_readTape 29 = .ok (.getfield 29, 3) := by decide +kernel
theorem d_X11_readTape_32 : decode cX11_readTape 32 = .ok (.getfield 113, 3) := by decide +kernel
theorem d_X11_readTape_35 : decode cX11_readTape 35 = .ok (.aaload, 1) := by decide +kernel
theorem d_X11_readTape_36 : decode cX11_readTape 36 = .ok (.aload_n 0, 1) := by decide +kernel
theorem d_X11_readTape_37 : decode cX11_readTape 37 = .ok (.getfield 10, 3) := by decide +kernel
theorem d_X11_readTape_40 : decode cX11_readTape 40 = .ok (.invokevirtual 312, 3) := by decide +kernel
theorem d_X11_readTape_43 : decode cX11_readTape 43 = .ok (.goto 19, 3) := by decide +kernel
theorem d_X11_readTape_46 : decode cX11_readTape 46 = .ok (.aload_n 0, 1) := by decide +kernel
theorem d_X11_readTape_47 : decode cX11_readTape 47 = .ok (.getfield 35, 3) := by decide +kernel
theorem d_X11_readTape_50 : decode cX11_readTape 50 = .ok (.aload_n 0, 1) := by decide +kernel
theorem d_X11_readTape_51 : decode cX11_readTape 51 = .ok (.getfield 114, 3) := by decide +kernel
theorem d_X11_readTape_54 : decode cX11_readTape 54 = .ok (.aaload, 1) := by decide +kernel
theorem d_X11_readTape_55 : decode cX11_readTape 55 = .ok (.aload_n 0, 1) := by decide +kernel
theorem d_X11_readTape_56 : decode cX11_readTape 56 = .ok (.getfield 10, 3) := by decide +kernel
theorem d_X11_readTape_59 : decode cX11_readTape 59 = .ok (.invokevirtual 315, 3) := by decide +kernel
theorem d_X11_readTape_62 : decode cX11_readTape 62 = .ok (.ireturn, 1) := by decide +kernel
def f_X11_readTape (this : Nat) (a1 : Int32) : sa_M Int32 :=
sa_gd 11 this (
if ¬ a1 = 0 then
sa_jn1 (fun (y1 : Int32) =>
sa_retZ y1) fun j62 =>
if ¬ a1 = 1 then
sa_bnd (sa_rdR 11 this 4) fun v2 =>
sa_bnd (sa_rdI 11 this 5) fun v3 =>
sa_bnd (sa_ldR (.object "SaltArmy$Orders") v2 v3) fun v4 =>
sa_bnd (sa_rdR 11 this 0) fun v5 =>
sa_bnd (f_X4_readFrom v4 v5) fun v6 =>
j62 v6
else
sa_bnd (sa_rdR 11 this 3) fun v7 =>
sa_bnd (sa_rdR 3 v7 0) fun v8 =>
sa_bnd (sa_rdR 11 this 3) fun v9 =>
sa_bnd (sa_rdI 3 v9 2) fun v10 =>
sa_bnd (sa_ldR (.object "SaltArmy$Law") v8 v10) fun v11 =>
sa_bnd (sa_rdR 11 this 0) fun v12 =>
sa_bnd (f_X2_readFrom v11 v12) fun v13 =>
j62 v13
else
sa_bnd (sa_rdR 11 this 2) fun v14 =>
sa_bnd (sa_rdR 11 this 0) fun v15 =>
sa_bnd (f_X1_readFrom v14 v15) fun v16 =>
sa_retZ v16)
set_option maxHeartbeats 1000000 in
set_option maxRecDepth 10000 in
theorem b_X11_readTape {p : Program} {l : Launch} {e : Env} {s : State} {m : MethodId} {args : Array Value} {below : List Frame} {meth : Method} {c : Code} {D : va_G} {ad : Nat → Nat} {cA : FieldType → ClassId} {A : Nat → Prop} (this : Nat) (a1 : Int32) (C : sa_C p s m args meth c cX11_readTape RX11 "readTape" 2 (some .boolean) D ad cA A) : sa_Sg p l e s m args below meth c 2 129 D ad cA A sa_eI 0 [(0, .ref (ad this)), (1, .int a1)] [] (f_X11_readTape this a1) := by
  unfold f_X11_readTape
  refine sa_gdI ?_
  refine sa_iload_n C d_X11_readTape_0 rfl 1 rfl ?_
  refine sa_if_ne (tgt := 16) C d_X11_readTape_1 (by decide) ?_ ?_
  · refine sa_iload_n C d_X11_readTape_16 rfl 1 rfl ?_
    refine sa_iconst (v := 1) C d_X11_readTape_17 (by decide) ?_
    refine sa_join1 62 (fun y1 => []) (fun y1 => [.int y1]) (fun y1 => ?_) (fun j62 hj62 => ?_)
    · exact sa_zret C d_X11_readTape_62
    refine sa_icmp_ne (tgt := 46) C d_X11_readTape_18 (by decide) ?_ ?_
    · refine sa_aload_n C d_X11_readTape_46 rfl 0 rfl ?_
      refine sa_getR C fd_X11_35 rfl d_X11_readTape_47 (fun v2 => ?_)
      refine sa_aload_n C d_X11_readTape_50 rfl 0 rfl ?_
      refine sa_getI C fd_X11_114 d_X11_readTape_51 (fun v3 => ?_)
      refine sa_aaldOrders C d_X11_readTape_54 (fun v4 => ?_)
      refine sa_aload_n C d_X11_readTape_55 rfl 0 rfl ?_
      refine sa_getR C fd_X11_10 rfl d_X11_readTape_56 (fun v5 => ?_)
      refine sa_invV (ci := 4) C (k_X4_readFrom v4 v5) q707 ds_X4_readFrom q120 rfl q705 q706 q704 (gd_X4_readFrom v4 v5) rfl rfl rfl (Nat.le_of_ble_eq_true rfl) (by decide) (by decide) d_X11_readTape_59 (fun v6 => ?_)
      exact sa_sub [] rfl (hj62 _)
    refine sa_aload_n C d_X11_readTape_21 rfl 0 rfl ?_
    refine sa_getR C fd_X11_29 rfl d_X11_readTape_22 (fun v7 => ?_)
    refine sa_getR C fd_X11_308 rfl d_X11_readTape_25 (fun v8 => ?_)
    refine sa_aload_n C d_X11_readTape_28 rfl 0 rfl ?_
    refine sa_getR C fd_X11_29 rfl d_X11_readTape_29 (fun v9 => ?_)
    refine sa_getI C fd_X11_113 d_X11_readTape_32 (fun v10 => ?_)
    refine sa_aaldLaw C d_X11_readTape_35 (fun v11 => ?_)
    refine sa_aload_n C d_X11_readTape_36 rfl 0 rfl ?_
    refine sa_getR C fd_X11_10 rfl d_X11_readTape_37 (fun v12 => ?_)
    refine sa_invV (ci := 2) C (k_X2_readFrom v11 v12) q660 ds_X2_readFrom q119 rfl q658 q659 q657 (gd_X2_readFrom v11 v12) rfl rfl rfl (Nat.le_of_ble_eq_true rfl) (by decide) (by decide) d_X11_readTape_40 (fun v13 => ?_)
    refine sa_goto (tgt := 62) C d_X11_readTape_43 (by decide) ?_
    exact sa_sub [] rfl (hj62 _)
  refine sa_aload_n C d_X11_readTape_4 rfl 0 rfl ?_
  refine sa_getR C fd_X11_23 rfl d_X11_readTape_5 (fun v14 => ?_)
  refine sa_aload_n C d_X11_readTape_8 rfl 0 rfl ?_
  refine sa_getR C fd_X11_10 rfl d_X11_readTape_9 (fun v15 => ?_)
  refine sa_invV (ci := 1) C (k_X1_readFrom v14 v15) q488 ds_X1_readFrom q116 rfl q486 q487 q485 (gd_X1_readFrom v14 v15) rfl rfl rfl (Nat.le_of_ble_eq_true rfl) (by decide) (by decide) d_X11_readTape_12 (fun v16 => ?_)
  exact sa_zret C d_X11_readTape_15
theorem k_X11_readTape (this : Nat) (a1 : Int32) : sa_Met 129 yX11_readTape cX11_readTape 2 (some .boolean) (fun ad => [.ref (ad this), .int a1]) sa_eI (f_X11_readTape this a1) := sa_mk (by decide) (fun ad => Nat.le_of_ble_eq_true rfl) (fun p l e s m args below meth c D ad cA A C => b_X11_readTape this a1 C)
theorem gd_X11_readTape (this : Nat) (a1 : Int32) (σ : sa_St) (r : Int32) (τ : sa_St) (h : f_X11_readTape this a1 σ = some (r, τ)) : sa_sh this = some (.inl 11) := sa_gd_ok h
theorem d_X11_fault_0 : decode cX11_fault 0 = .ok (.iload_n 1, 1) := by decide +kernel
theorem d_X11_fault_1 : decode cX11_fault 1 = .ok (.ifCond .lt 8, 3) := by decide +kernel
theorem d_X11_fault_4 : decode cX11_fault 4 = .ok (.iload_n 1, 1) := by decide +kernel
theorem d_X11_fault_5 : decode cX11_fault 5 = .ok (.iconst 2, 1) := by decide +kernel
theorem d_X11_fault_6 : decode cX11_fault 6 = .ok (.if_icmp .le 6, 3) := by decide +kernel
theorem d_X11_fault_9 : decode cX11_fault 9 = .ok (.bipush (-2), 2) := by decide +kernel
theorem d_X11_fault_11 : decode cX11_fault 11 = .ok (.ireturn, 1) := by decide +kernel
theorem d_X11_fault_12 : decode cX11_fault 12 = .ok (.aload_n 0, 1) := by decide +kernel
theorem d_X11_fault_13 : decode cX11_fault 13 = .ok (.iload_n 1, 1) := by decide +kernel
theorem d_X11_fault_14 : decode cX11_fault 14 = .ok (.invokevirtual 99, 3) := by decide +kernel
theorem d_X11_fault_17 : decode cX11_fault 17 = .ok (.ifCond .eq 7, 3) := by decide +kernel
theorem d_X11_fault_20 : decode cX11_fault 20 = .ok (.iconst (-1), 1) := by decide +kernel
theorem d_X11_fault_21 : decode cX11_fault 21 = .ok (.goto 10, 3) := by decide +kernel
theorem d_X11_fault_24 : decode cX11_fault 24 = .ok (.aload_n 0, 1) := by decide +kernel
theorem d_X11_fault_25 : decode cX11_fault 25 = .ok (.getfield 10, 3) := by decide +kernel
theorem d_X11_fault_28 : decode cX11_fault 28 = .ok (.getfield 103, 3) := by decide +kernel
theorem d_X11_fault_31 : decode cX11_fault 31 = .ok (.ireturn, 1) := by decide +kernel
def f_X11_fault (this : Nat) (a1 : Int32) : sa_M Int32 :=
sa_gd 11 this (
sa_jn0 (sa_ret ((-2) : Int32)) fun j9 =>
if a1 < 0 then
j9
else
if a1 ≤ 2 then
sa_bnd (f_X11_readTape this a1) fun v1 =>
sa_jn1 (fun (y2 : Int32) =>
sa_ret (y2 : Int32)) fun j31 =>
if v1 = 0 then
sa_bnd (sa_rdR 11 this 0) fun v3 =>
sa_bnd (sa_rdI 7 v3 2) fun v4 =>
j31 v4
else
j31 (-1)
else
j9)
set_option maxHeartbeats 1000000 in
set_option maxRecDepth 10000 in
theorem b_X11_fault {p : Program} {l : Launch} {e : Env} {s : State} {m : MethodId} {args : Array Value} {below : List Frame} {meth : Method} {c : Code} {D : va_G} {ad : Nat → Nat} {cA : FieldType → ClassId} {A : Nat → Prop} (this : Nat) (a1 : Int32) (C : sa_C p s m args meth c cX11_fault RX11 "fault" 2 (some .int) D ad cA A) : sa_Sg p l e s m args below meth c 2 130 D ad cA A sa_eI 0 [(0, .ref (ad this)), (1, .int a1)] [] (f_X11_fault this a1) := by
  unfold f_X11_fault
  refine sa_gdI ?_
  refine sa_iload_n C d_X11_fault_0 rfl 1 rfl ?_
  refine sa_join0 9 ([]) ([]) (?_) (fun j9 hj9 => ?_)
  · refine sa_bipush (v := (-2)) C d_X11_fault_9 (by decide) ?_
    exact sa_iret C d_X11_fault_11
  refine sa_if_lt (tgt := 9) C d_X11_fault_1 (by decide) ?_ ?_
  · exact sa_sub [] rfl (hj9)
  refine sa_iload_n C d_X11_fault_4 rfl 1 rfl ?_
  refine sa_iconst (v := 2) C d_X11_fault_5 (by decide) ?_
  refine sa_icmp_le (tgt := 12) C d_X11_fault_6 (by decide) ?_ ?_
  · refine sa_aload_n C d_X11_fault_12 rfl 0 rfl ?_
    refine sa_iload_n C d_X11_fault_13 rfl 1 rfl ?_
    refine sa_invV (ci := 11) C (k_X11_readTape this a1) q484 ds_X11_readTape q114 rfl q483 q0 q481 (gd_X11_readTape this a1) rfl rfl rfl (Nat.le_of_ble_eq_true rfl) (by decide) (by decide) d_X11_fault_14 (fun v1 => ?_)
    refine sa_join1 31 (fun y2 => []) (fun y2 => [.int y2]) (fun y2 => ?_) (fun j31 hj31 => ?_)
    · exact sa_iret C d_X11_fault_31
    refine sa_if_eq (tgt := 24) C d_X11_fault_17 (by decide) ?_ ?_
    · refine sa_aload_n C d_X11_fault_24 rfl 0 rfl ?_
      refine sa_getR C fd_X11_10 rfl d_X11_fault_25 (fun v3 => ?_)
      refine sa_getI C fd_X11_103 d_X11_fault_28 (fun v4 => ?_)
      exact sa_sub [] rfl (hj31 _)
    refine sa_iconst (v := (-1)) C d_X11_fault_20 (by decide) ?_
    refine sa_goto (tgt := 31) C d_X11_fault_21 (by decide) ?_
    exact sa_sub [] rfl (hj31 _)
  exact sa_sub [] rfl (hj9)
theorem k_X11_fault (this : Nat) (a1 : Int32) : sa_Met 130 yX11_fault cX11_fault 2 (some .int) (fun ad => [.ref (ad this), .int a1]) sa_eI (f_X11_fault this a1) := sa_mk (by decide) (fun ad => Nat.le_of_ble_eq_true rfl) (fun p l e s m args below meth c D ad cA A C => b_X11_fault this a1 C)
theorem gd_X11_fault (this : Nat) (a1 : Int32) (σ : sa_St) (r : Int32) (τ : sa_St) (h : f_X11_fault this a1 σ = some (r, τ)) : sa_sh this = some (.inl 11) := sa_gd_ok h
theorem d_X11_isFull_0 : decode cX11_isFull 0 = .ok (.iload_n 1, 1) := by decide +kernel
theorem d_X11_isFull_1 : decode cX11_isFull 1 = .ok (.iconst 1, 1) := by decide +kernel
theorem d_X11_isFull_2 : decode cX11_isFull 2 = .ok (.if_icmp .ne 14, 3) := by decide +kernel
theorem d_X11_isFull_5 : decode cX11_isFull 5 = .ok (.aload_n 0, 1) := by decide +kernel
theorem d_X11_isFull_6 : decode cX11_isFull 6 = .ok (.getfield 29, 3) := by decide +kernel
theorem d_X11_isFull_9 : decode cX11_isFull 9 = .ok (.getfield 113, 3) := by decide +kernel
theorem d_X11_isFull_12 : decode cX11_isFull 12 = .ok (.iconst 4, 1) := by decide +kernel
theorem d_X11_isFull_13 : decode cX11_isFull 13 = .ok (.if_icmp .ge 16, 3) := by decide +kernel
theorem d_X11_isFull_16 : decode cX11_isFull 16 = .ok (.iload_n 1, 1) := by decide +kernel
theorem d_X11_isFull_17 : decode cX11_isFull 17 = .ok (.iconst 2, 1) := by decide +kernel
theorem d_X11_isFull_18 : decode cX11_isFull 18 = .ok (.if_icmp .ne 15, 3) := by decide +kernel
theorem d_X11_isFull_21 : decode cX11_isFull 21 = .ok (.aload_n 0, 1) := by decide +kernel
theorem d_X11_isFull_22 : decode cX11_isFull 22 = .ok (.getfield 114, 3) := by decide +kernel
theorem d_X11_isFull_25 : decode cX11_isFull 25 = .ok (.iconst 4, 1) := by decide +kernel
theorem d_X11_isFull_26 : decode cX11_isFull 26 = .ok (.if_icmp .lt 7, 3) := by decide +kernel
theorem d_X11_isFull_29 : decode cX11_isFull 29 = .ok (.iconst 1, 1) := by decide +kernel
theorem d_X11_isFull_30 : decode cX11_isFull 30 = .ok (.goto 4, 3) := by decide +kernel
theorem d_X11_isFull_33 : decode cX11_isFull 33 = .ok (.iconst 0, 1) := by decide +kernel
theorem d_X11_isFull_34 : decode cX11_isFull 34 = .ok (.ireturn, 1) := by decide +kernel
def f_X11_isFull (this : Nat) (a1 : Int32) : sa_M Int32 :=
sa_gd 11 this (
sa_jn1 (fun (y1 : Int32) =>
sa_retZ y1) fun j34 =>
sa_jn0 (j34 1) fun j29 =>
sa_jn0 (sa_jn0 (j34 0) fun j33 =>
if ¬ a1 = 2 then
j33
else
sa_bnd (sa_rdI 11 this 5) fun v2 =>
if v2 < 4 then
j33
else
j29) fun j16 =>
if ¬ a1 = 1 then
j16
else
sa_bnd (sa_rdR 11 this 3) fun v3 =>
sa_bnd (sa_rdI 3 v3 2) fun v4 =>
if 4 ≤ v4 then
j29
else
j16)
set_option maxHeartbeats 1000000 in
set_option maxRecDepth 10000 in
theorem b_X11_isFull {p : Program} {l : Launch} {e : Env} {s : State} {m : MethodId} {args : Array Value} {below : List Frame} {meth : Method} {c : Code} {D : va_G} {ad : Nat → Nat} {cA : FieldType → ClassId} {A : Nat → Prop} (this : Nat) (a1 : Int32) (C : sa_C p s m args meth c cX11_isFull RX11 "isFull" 2 (some .boolean) D ad cA A) : sa_Sg p l e s m args below meth c 2 1 D ad cA A sa_eI 0 [(0, .ref (ad this)), (1, .int a1)] [] (f_X11_isFull this a1) := by
  unfold f_X11_isFull
  refine sa_gdI ?_
  refine sa_iload_n C d_X11_isFull_0 rfl 1 rfl ?_
  refine sa_iconst (v := 1) C d_X11_isFull_1 (by decide) ?_
  refine sa_join1 34 (fun y1 => []) (fun y1 => [.int y1]) (fun y1 => ?_) (fun j34 hj34 => ?_)
  · exact sa_zret C d_X11_isFull_34
  refine sa_join0 29 ([]) ([]) (?_) (fun j29 hj29 => ?_)
  · refine sa_iconst (v := 1) C d_X11_isFull_29 (by decide) ?_
    refine sa_goto (tgt := 34) C d_X11_isFull_30 (by decide) ?_
    exact sa_sub [] rfl (hj34 _)
  refine sa_join0 16 ([(0, .ref (ad this)), (1, .int a1)]) ([]) (?_) (fun j16 hj16 => ?_)
  · refine sa_iload_n C d_X11_isFull_16 rfl 1 rfl ?_
    refine sa_iconst (v := 2) C d_X11_isFull_17 (by decide) ?_
    refine sa_join0 33 ([]) ([]) (?_) (fun j33 hj33 => ?_)
    · refine sa_iconst (v := 0) C d_X11_isFull_33 (by decide) ?_
      exact sa_sub [] rfl (hj34 _)
    refine sa_icmp_ne (tgt := 33) C d_X11_isFull_18 (by decide) ?_ ?_
    · exact sa_sub [] rfl (hj33)
    refine sa_aload_n C d_X11_isFull_21 rfl 0 rfl ?_
    refine sa_getI C fd_X11_114 d_X11_isFull_22 (fun v2 => ?_)
    refine sa_iconst (v := 4) C d_X11_isFull_25 (by decide) ?_
    refine sa_icmp_lt (tgt := 33) C d_X11_isFull_26 (by decide) ?_ ?_
    · exact sa_sub [] rfl (hj33)
    exact sa_sub [] rfl (hj29)
  refine sa_icmp_ne (tgt := 16) C d_X11_isFull_2 (by decide) ?_ ?_
  · exact sa_sub [0, 1] rfl (hj16)
  refine sa_aload_n C d_X11_isFull_5 rfl 0 rfl ?_
  refine sa_getR C fd_X11_29 rfl d_X11_isFull_6 (fun v3 => ?_)
  refine sa_getI C fd_X11_113 d_X11_isFull_9 (fun v4 => ?_)
  refine sa_iconst (v := 4) C d_X11_isFull_12 (by decide) ?_
  refine sa_icmp_ge (tgt := 29) C d_X11_isFull_13 (by decide) ?_ ?_
  · exact sa_sub [] rfl (hj29)
  exact sa_sub [0, 1] rfl (hj16)
theorem k_X11_isFull (this : Nat) (a1 : Int32) : sa_Met 1 yX11_isFull cX11_isFull 2 (some .boolean) (fun ad => [.ref (ad this), .int a1]) sa_eI (f_X11_isFull this a1) := sa_mk (by decide) (fun ad => Nat.le_of_ble_eq_true rfl) (fun p l e s m args below meth c D ad cA A C => b_X11_isFull this a1 C)
theorem gd_X11_isFull (this : Nat) (a1 : Int32) (σ : sa_St) (r : Int32) (τ : sa_St) (h : f_X11_isFull this a1 σ = some (r, τ)) : sa_sh this = some (.inl 11) := sa_gd_ok h
theorem d_X11_settleLand_0 : decode cX11_settleLand 0 = .ok (.aload_n 0, 1) := by decide +kernel
theorem d_X11_settleLand_1 : decode cX11_settleLand 1 = .ok (.getfield 19, 3) := by decide +kernel
theorem d_X11_settleLand_4 : decode cX11_settleLand 4 = .ok (.astore_n 1, 1) := by decide +kernel
theorem d_X11_settleLand_5 : decode cX11_settleLand 5 = .ok (.aload_n 0, 1) := by decide +kernel
theorem d_X11_settleLand_6 : decode cX11_settleLand 6 = .ok (.aload_n 0, 1) := by decide +kernel
theorem d_X11_settleLand_7 : decode cX11_settleLand 7 = .ok (.getfield 23, 3) := by decide +kernel
theorem d_X11_settleLand_10 : decode cX11_settleLand 10 = .ok (.putfield 19, 3) := by decide +kernel
theorem d_X11_settleLand_13 : decode cX11_settleLand 13 = .ok (.aload_n 0, 1) := by decide +kernel
theorem d_X11_settleLand_14 : decode cX11_settleLand 14 = .ok (.aload_n 1, 1) := by decide +kernel
theorem d_X11_settleLand_15 : decode cX11_settleLand 15 = .ok (.putfield 23, 3) := by decide +kernel
theorem d_X11_settleLand_18 : decode cX11_settleLand 18 = .ok (.aload_n 0, 1) := by decide +kernel
theorem d_X11_settleLand_19 : decode cX11_settleLand 19 = .ok (.getfield 19, 3) := by decide +kernel
theorem d_X11_settleLand_22 : decode cX11_settleLand 22 = .ok (.invokevirtual 316, 3) := by decide +kernel
theorem d_X11_settleLand_25 : decode cX11_settleLand 25 = .ok (.aload_n 0, 1) := by decide +kernel
theorem d_X11_settleLand_26 : decode cX11_settleLand 26 = .ok (.getfield 43, 3) := by decide +kernel
theorem d_X11_settleLand_29 : decode cX11_settleLand 29 = .ok (.aload_n 0, 1) := by decide +kernel
theorem d_X11_settleLand_30 : decode cX11_settleLand 30 = .ok (.getfield 19, 3) := by decide +kernel
theorem d_X11_settleLand_33 : decode cX11_settleLand 33 = .ok (.invokevirtual 319, 3) := by decide +kernel
theorem d_X11_settleLand_36 : decode cX11_settleLand 36 = .ok (.aload_n 0, 1) := by decide +kernel
theorem d_X11_settleLand_37 : decode cX11_settleLand 37 = .ok (.getfield 53, 3) := by decide +kernel
theorem d_X11_settleLand_40 : decode cX11_settleLand 40 = .ok (.invokevirtual 323, 3) := by decide +kernel
theorem d_X11_settleLand_43 : decode cX11_settleLand 43 = .ok (.aload_n 0, 1) := by decide +kernel
theorem d_X11_settleLand_44 : decode cX11_settleLand 44 = .ok (.getfield 60, 3) := by decide +kernel
theorem d_X11_settleLand_47 : decode cX11_settleLand 47 = .ok (.invokevirtual 326, 3) := by decide +kernel
theorem d_X11_settleLand_50 : decode cX11_settleLand 50 = .ok (.aload_n 0, 1) := by decide +kernel
theorem d_X11_settleLand_51 : decode cX11_settleLand 51 = .ok (.getfield 76, 3) := by decide +kernel
theorem d_X11_settleLand_54 : decode cX11_settleLand 54 = .ok (.iconst 0, 1) := by decide +kernel
theorem d_X11_settleLand_55 : decode cX11_settleLand 55 = .ok (.putfield 302, 3) := by decide +kernel
theorem d_X11_settleLand_58 : decode cX11_settleLand 58 = .ok (.aload_n 0, 1) := by decide +kernel
theorem d_X11_settleLand_59 : decode cX11_settleLand 59 = .ok (.getfield 43, 3) := by decide +kernel
theorem d_X11_settleLand_62 : decode cX11_settleLand 62 = .ok (.getfield 120, 3) := by decide +kernel
theorem d_X11_settleLand_65 : decode cX11_settleLand 65 = .ok (.bipush 22, 2) := by decide +kernel
theorem d_X11_settleLand_67 : decode cX11_settleLand 67 = .ok (.iaload, 1) := by decide +kernel
theorem d_X11_settleLand_68 : decode cX11_settleLand 68 = .ok (.ireturn, 1) := by decide +kernel
def f_X11_settleLand (this : Nat) : sa_M Int32 :=
sa_gd 11 this (
sa_bnd (sa_rdR 11 this 1) fun v1 =>
sa_bnd (sa_rdR 11 this 2) fun v2 =>
sa_bnd (sa_wrR 11 this 1 v2) fun _ =>
sa_bnd (sa_wrR 11 this 2 v1) fun _ =>
sa_bnd (sa_rdR 11 this 1) fun v3 =>
sa_bnd (f_X1_drawMaps v3) fun _ =>
sa_bnd (sa_rdR 11 this 6) fun v4 =>
sa_bnd (sa_rdR 11 this 1) fun v5 =>
sa_bnd (f_X0_settleIn v4 v5) fun _ =>
sa_bnd (sa_rdR 11 this 8) fun v6 =>
sa_bnd (f_X5_forget v6) fun _ =>
sa_bnd (sa_rdR 11 this 9) fun v7 =>
sa_bnd (f_X6_clear v7) fun _ =>
sa_bnd (sa_rdR 11 this 11) fun v8 =>
sa_bnd (sa_wrI 8 v8 2 0) fun _ =>
sa_bnd (sa_rdR 11 this 6) fun v9 =>
sa_bnd (sa_rdR 0 v9 0) fun v10 =>
sa_bnd (sa_ldI .int v10 22) fun v11 =>
sa_ret (v11 : Int32))
set_option maxHeartbeats 1000000 in
set_option maxRecDepth 10000 in
theorem b_X11_settleLand {p : Program} {l : Launch} {e : Env} {s : State} {m : MethodId} {args : Array Value} {below : List Frame} {meth : Method} {c : Code} {D : va_G} {ad : Nat → Nat} {cA : FieldType → ClassId} {A : Nat → Prop} (this : Nat) (C : sa_C p s m args meth c cX11_settleLand RX11 "settleLand" 2 (some .int) D ad cA A) : sa_Sg p l e s m args below meth c 2 4 D ad cA A sa_eI 0 [(0, .ref (ad this))] [] (f_X11_settleLand this) := by
  unfold f_X11_settleLand
  refine sa_gdI ?_
  refine sa_aload_n C d_X11_settleLand_0 rfl 0 rfl ?_
  refine sa_getR C fd_X11_19 rfl d_X11_settleLand_1 (fun v1 => ?_)
  refine sa_astore_n (lv' := [(1, .ref (ad v1)), (0, .ref (ad this))]) C d_X11_settleLand_4 rfl (by decide) rfl ?_
  refine sa_aload_n C d_X11_settleLand_5 rfl 1 rfl ?_
  refine sa_aload_n C d_X11_settleLand_6 rfl 1 rfl ?_
  refine sa_getR C fd_X11_23 rfl d_X11_settleLand_7 (fun v2 => ?_)
  refine sa_putR C fd_X11_19 rfl d_X11_settleLand_10 ?_
  refine sa_aload_n C d_X11_settleLand_13 rfl 1 rfl ?_
  refine sa_aload_n C d_X11_settleLand_14 rfl 0 rfl ?_
  refine sa_putR C fd_X11_23 rfl d_X11_settleLand_15 ?_
  refine sa_aload_n C d_X11_settleLand_18 rfl 1 rfl ?_
  refine sa_getR C fd_X11_19 rfl d_X11_settleLand_19 (fun v3 => ?_)
  refine sa_invV (ci := 1) C (k_X1_drawMaps v3) q741 ds_X1_drawMaps q116 rfl q739 q740 q738 (gd_X1_drawMaps v3) rfl rfl rfl (Nat.le_of_ble_eq_true rfl) (by decide) (by decide) d_X11_settleLand_22 (fun _ => ?_)
  refine sa_aload_n C d_X11_settleLand_25 rfl 1 rfl ?_
  refine sa_getR C fd_X11_43 rfl d_X11_settleLand_26 (fun v4 => ?_)
  refine sa_aload_n C d_X11_settleLand_29 rfl 1 rfl ?_
  refine sa_getR C fd_X11_19 rfl d_X11_settleLand_30 (fun v5 => ?_)
  refine sa_invV (ci := 0) C (k_X0_settleIn v4 v5) q753 ds_X0_settleIn q121 rfl q751 q752 q750 (gd_X0_settleIn v4 v5) rfl rfl rfl (Nat.le_of_ble_eq_true rfl) (by decide) (by decide) d_X11_settleLand_33 (fun _ => ?_)
  refine sa_aload_n C d_X11_settleLand_36 rfl 1 rfl ?_
  refine sa_getR C fd_X11_53 rfl d_X11_settleLand_37 (fun v6 => ?_)
  refine sa_invV (ci := 5) C (k_X5_forget v6) q763 ds_X5_forget q122 rfl q761 q762 q760 (gd_X5_forget v6) rfl rfl rfl (Nat.le_of_ble_eq_true rfl) (by decide) (by decide) d_X11_settleLand_40 (fun _ => ?_)
  refine sa_aload_n C d_X11_settleLand_43 rfl 1 rfl ?_
  refine sa_getR C fd_X11_60 rfl d_X11_settleLand_44 (fun v7 => ?_)
  refine sa_invV (ci := 6) C (k_X6_clear v7) q767 ds_X6_clear q123 rfl q765 q766 q764 (gd_X6_clear v7) rfl rfl rfl (Nat.le_of_ble_eq_true rfl) (by decide) (by decide) d_X11_settleLand_47 (fun _ => ?_)
  refine sa_aload_n C d_X11_settleLand_50 rfl 1 rfl ?_
  refine sa_getR C fd_X11_76 rfl d_X11_settleLand_51 (fun v8 => ?_)
  refine sa_iconst (v := 0) C d_X11_settleLand_54 (by decide) ?_
  refine sa_putI C fd_X11_302 d_X11_settleLand_55 ?_
  refine sa_aload_n C d_X11_settleLand_58 rfl 1 rfl ?_
  refine sa_getR C fd_X11_43 rfl d_X11_settleLand_59 (fun v9 => ?_)
  refine sa_getR C fd_X11_120 rfl d_X11_settleLand_62 (fun v10 => ?_)
  refine sa_bipush (v := 22) C d_X11_settleLand_65 (by decide) ?_
  refine sa_iald C d_X11_settleLand_67 (fun v11 => ?_)
  exact sa_iret C d_X11_settleLand_68
theorem k_X11_settleLand (this : Nat) : sa_Met 4 yX11_settleLand cX11_settleLand 2 (some .int) (fun ad => [.ref (ad this)]) sa_eI (f_X11_settleLand this) := sa_mk (by decide) (fun ad => Nat.le_of_ble_eq_true rfl) (fun p l e s m args below meth c D ad cA A C => b_X11_settleLand this C)
theorem gd_X11_settleLand (this : Nat) (σ : sa_St) (r : Int32) (τ : sa_St) (h : f_X11_settleLand this σ = some (r, τ)) : sa_sh this = some (.inl 11) := sa_gd_ok h
theorem d_X11_text_0 : decode cX11_text 0 = .ok (.iload_n 1, 1) := by decide +kernel
theorem d_X11_text_1 : decode cX11_text 1 = .ok (.ifCond .lt 24, 3) := by decide +kernel
theorem d_X11_text_4 : decode cX11_text 4 = .ok (.iload_n 1, 1) := by decide +kernel
theorem d_X11_text_5 : decode cX11_text 5 = .ok (.iconst 2, 1) := by decide +kernel
theorem d_X11_text_6 : decode cX11_text 6 = .ok (.if_icmp .gt 19, 3) := by decide +kernel
theorem d_X11_text_9 : decode cX11_text 9 = .ok (.aload_n 0, 1) := by decide +kernel
theorem d_X11_text_10 : decode cX11_text 10 = .ok (.iload_n 1, 1) := by decide +kernel
theorem d_X11_text_11 : decode cX11_text 11 = .ok (.invokevirtual 106, 3) := by decide +kernel
theorem d_X11_text_14 : decode cX11_text 14 = .ok (.ifCond .ne 11, 3) := by decide +kernel
theorem d_X11_text_17 : decode cX11_text 17 = .ok (.aload_n 0, 1) := by decide +kernel
theorem d_X11_text_18 : decode cX11_text 18 = .ok (.iload_n 1, 1) := by decide +kernel
theorem d_X11_text_19 : decode cX11_text 19 = .ok (.invokevirtual 99, 3) := by decide +kernel
theorem d_X11_text_22 : decode cX11_text 22 = .ok (.ifCond .ne 5, 3) := by decide +kernel
theorem d_X11_text_25 : decode cX11_text 25 = .ok (.iconst (-1), 1) := by decide +kernel
theorem d_X11_text_26 : decode cX11_text 26 = .ok (.ireturn, 1) := by decide +kernel
theorem d_X11_text_27 : decode cX11_text 27 = .ok (.aload_n 0, 1) := by decide +kernel
theorem d_X11_text_28 : decode cX11_text 28 = .ok (.getfield 10, 3) := by decide +kernel
theorem d_X11_text_31 : decode cX11_text 31 = .ok (.iconst 0, 1) := by decide +kernel
theorem d_X11_text_32 : decode cX11_text 32 = .ok (.putfield 91, 3) := by decide +kernel
theorem d_X11_text_35 : decode cX11_text 35 = .ok (.iload_n 1, 1) := by decide +kernel
theorem d_X11_text_36 : decode cX11_text 36 = .ok (.ifCond .ne 8, 3) := by decide +kernel
theorem d_X11_text_39 : decode cX11_text 39 = .ok (.aload_n 0, 1) := by decide +kernel
theorem d_X11_text_40 : decode cX11_text 40 = .ok (.invokevirtual 109, 3) := by decide +kernel
theorem d_X11_text_43 : decode cX11_text 43 = .ok (.ireturn, 1) := by decide +kernel
theorem d_X11_text_44 : decode cX11_text 44 = .ok (.iload_n 1, 1) := by decide +kernel
theorem d_X11_text_45 : decode cX11_text 45 = .ok (.iconst 1, 1) := by decide +kernel
theorem d_X11_text_46 : decode cX11_text 46 = .ok (.if_icmp .ne 20, 3) := by decide +kernel
theorem d_X11_text_49 : decode cX11_text 49 = .ok (.aload_n 0, 1) := by decide +kernel
theorem d_X11_text_50 : decode cX11_text 50 = .ok (.getfield 29, 3) := by decide +kernel
theorem d_X11_text_53 : decode cX11_text 53 = .ok (.dup, 1) := by decide +kernel
theorem d_X11_text_54 : decode cX11_text 54 = .ok (.getfield 113, 3) := by decide +kernel
theorem d_X11_text_57 : decode cX11_text 57 = .ok (.dup_x1, 1) := by decide +kernel
theorem d_X11_text_58 : decode cX11_text 58 = .ok (.iconst 1, 1) := by decide +kernel
theorem d_X11_text_59 : decode cX11_text 59 = .ok (.iadd, 1) := by decide +kernel
theorem d_X11_text_60 : decode cX11_text 60 = .ok (.putfield 113, 3) := by decide +kernel
theorem d_X11_text_63 : decode cX11_text 63 = .ok (.goto 14, 3) := by decide +kernel
theorem d_X11_text_66 : decode cX11_text 66 = .ok (.aload_n 0, 1) := by decide +kernel
theorem d_X11_text_67 : decode cX11_text 67 = .ok (.dup, 1) := by decide +kernel
theorem d_X11_text_68 : decode cX11_text 68 = .ok (.getfield 114, 3) := by decide +kernel
theorem d_X11_text_71 : decode cX11_text 71 = .ok (.dup_x1, 1) := by decide +kernel
theorem d_X11_text_72 : decode cX11_text 72 = .ok (.iconst 1, 1) := by decide +kernel
theorem d_X11_text_73 : decode cX11_text 73 = .ok (.iadd, 1) := by decide +kernel
theorem d_X11_text_74 : decode cX11_text 74 = .ok (.putfield 114, 3) := by decide +kernel
theorem d_X11_text_77 : decode cX11_text 77 = .ok (.ireturn, 1) := by decide +kernel
def f_X11_text (this : Nat) (a1 : Int32) : sa_M Int32 :=
sa_gd 11 this (
sa_jn0 (sa_ret ((-1) : Int32)) fun j25 =>
if a1 < 0 then
j25
else
if 2 < a1 then
j25
else
sa_bnd (f_X11_isFull this a1) fun v1 =>
if ¬ v1 = 0 then
j25
else
sa_bnd (f_X11_readTape this a1) fun v2 =>
if ¬ v2 = 0 then
sa_bnd (sa_rdR 11 this 0) fun v3 =>
sa_bnd (sa_wrI 7 v3 1 0) fun _ =>
if ¬ a1 = 0 then
sa_jn1 (fun (y4 : Int32) =>
sa_ret (y4 : Int32)) fun j77 =>
if ¬ a1 = 1 then
sa_bnd (sa_rdI 11 this 5) fun v5 =>
sa_bnd (sa_wrI 11 this 5 (v5 + 1)) fun _ =>
j77 v5
else
sa_bnd (sa_rdR 11 this 3) fun v6 =>
sa_bnd (sa_rdI 3 v6 2) fun v7 =>
sa_bnd (sa_wrI 3 v6 2 (v7 + 1)) fun _ =>
j77 v7
else
sa_bnd (f_X11_settleLand this) fun v8 =>
sa_ret (v8 : Int32)
else
j25)
set_option maxHeartbeats 1000000 in
set_option maxRecDepth 10000 in
theorem b_X11_text {p : Program} {l : Launch} {e : Env} {s : State} {m : MethodId} {args : Array Value} {below : List Frame} {meth : Method} {c : Code} {D : va_G} {ad : Nat → Nat} {cA : FieldType → ClassId} {A : Nat → Prop} (this : Nat) (a1 : Int32) (C : sa_C p s m args meth c cX11_text RX11 "text" 2 (some .int) D ad cA A) : sa_Sg p l e s m args below meth c 2 130 D ad cA A sa_eI 0 [(0, .ref (ad this)), (1, .int a1)] [] (f_X11_text this a1) := by
  unfold f_X11_text
  refine sa_gdI ?_
  refine sa_iload_n C d_X11_text_0 rfl 1 rfl ?_
  refine sa_join0 25 ([]) ([]) (?_) (fun j25 hj25 => ?_)
  · refine sa_iconst (v := (-1)) C d_X11_text_25 (by decide) ?_
    exact sa_iret C d_X11_text_26
  refine sa_if_lt (tgt := 25) C d_X11_text_1 (by decide) ?_ ?_
  · exact sa_sub [] rfl (hj25)
  refine sa_iload_n C d_X11_text_4 rfl 1 rfl ?_
  refine sa_iconst (v := 2) C d_X11_text_5 (by decide) ?_
  refine sa_icmp_gt (tgt := 25) C d_X11_text_6 (by decide) ?_ ?_
  · exact sa_sub [] rfl (hj25)
  refine sa_aload_n C d_X11_text_9 rfl 0 rfl ?_
  refine sa_iload_n C d_X11_text_10 rfl 1 rfl ?_
  refine sa_invV (ci := 11) C (k_X11_isFull this a1) q733 ds_X11_isFull q114 rfl q732 q14 q730 (gd_X11_isFull this a1) rfl rfl rfl (Nat.le_of_ble_eq_true rfl) (by decide) (by decide) d_X11_text_11 (fun v1 => ?_)
  refine sa_if_ne (tgt := 25) C d_X11_text_14 (by decide) ?_ ?_
  · exact sa_sub [] rfl (hj25)
  refine sa_aload_n C d_X11_text_17 rfl 0 rfl ?_
  refine sa_iload_n C d_X11_text_18 rfl 1 rfl ?_
  refine sa_invV (ci := 11) C (k_X11_readTape this a1) q484 ds_X11_readTape q114 rfl q483 q0 q481 (gd_X11_readTape this a1) rfl rfl rfl (Nat.le_of_ble_eq_true rfl) (by decide) (by decide) d_X11_text_19 (fun v2 => ?_)
  refine sa_if_ne (tgt := 27) C d_X11_text_22 (by decide) ?_ ?_
  · refine sa_aload_n C d_X11_text_27 rfl 0 rfl ?_
    refine sa_getR C fd_X11_10 rfl d_X11_text_28 (fun v3 => ?_)
    refine sa_iconst (v := 0) C d_X11_text_31 (by decide) ?_
    refine sa_putI C fd_X11_91 d_X11_text_32 ?_
    refine sa_iload_n C d_X11_text_35 rfl 1 rfl ?_
    refine sa_if_ne (tgt := 44) C d_X11_text_36 (by decide) ?_ ?_
    · refine sa_iload_n C d_X11_text_44 rfl 1 rfl ?_
      refine sa_iconst (v := 1) C d_X11_text_45 (by decide) ?_
      refine sa_join1 77 (fun y4 => []) (fun y4 => [.int y4]) (fun y4 => ?_) (fun j77 hj77 => ?_)
      · exact sa_iret C d_X11_text_77
      refine sa_icmp_ne (tgt := 66) C d_X11_text_46 (by decide) ?_ ?_
      · refine sa_aload_n C d_X11_text_66 rfl 0 rfl ?_
        refine sa_dup C d_X11_text_67 rfl ?_
        refine sa_getI C fd_X11_114 d_X11_text_68 (fun v5 => ?_)
        refine sa_dup_x1 C d_X11_text_71 rfl rfl ?_
        refine sa_iconst (v := 1) C d_X11_text_72 (by decide) ?_
        refine sa_iadd C d_X11_text_73 ?_
        refine sa_putI C fd_X11_114 d_X11_text_74 ?_
        exact sa_sub [] rfl (hj77 _)
      refine sa_aload_n C d_X11_text_49 rfl 0 rfl ?_
      refine sa_getR C fd_X11_29 rfl d_X11_text_50 (fun v6 => ?_)
      refine sa_dup C d_X11_text_53 rfl ?_
      refine sa_getI C fd_X11_113 d_X11_text_54 (fun v7 => ?_)
      refine sa_dup_x1 C d_X11_text_57 rfl rfl ?_
      refine sa_iconst (v := 1) C d_X11_text_58 (by decide) ?_
      refine sa_iadd C d_X11_text_59 ?_
      refine sa_putI C fd_X11_113 d_X11_text_60 ?_
      refine sa_goto (tgt := 77) C d_X11_text_63 (by decide) ?_
      exact sa_sub [] rfl (hj77 _)
    refine sa_aload_n C d_X11_text_39 rfl 0 rfl ?_
    refine sa_invV (ci := 11) C (k_X11_settleLand this) q737 ds_X11_settleLand q114 rfl q736 q15 q734 (gd_X11_settleLand this) rfl rfl rfl (Nat.le_of_ble_eq_true rfl) (by decide) (by decide) d_X11_text_40 (fun v8 => ?_)
    exact sa_iret C d_X11_text_43
  exact sa_sub [] rfl (hj25)
theorem k_X11_text (this : Nat) (a1 : Int32) : sa_Met 130 yX11_text cX11_text 2 (some .int) (fun ad => [.ref (ad this), .int a1]) sa_eI (f_X11_text this a1) := sa_mk (by decide) (fun ad => Nat.le_of_ble_eq_true rfl) (fun p l e s m args below meth c D ad cA A C => b_X11_text this a1 C)
theorem gd_X11_text (this : Nat) (a1 : Int32) (σ : sa_St) (r : Int32) (τ : sa_St) (h : f_X11_text this a1 σ = some (r, τ)) : sa_sh this = some (.inl 11) := sa_gd_ok h
theorem d_X11_spot_0 : decode cX11_spot 0 = .ok (.aload_n 0, 1) := by decide +kernel
theorem d_X11_spot_1 : decode cX11_spot 1 = .ok (.getfield 19, 3) := by decide +kernel
theorem d_X11_spot_4 : decode cX11_spot 4 = .ok (.iload_n 1, 1) := by decide +kernel
theorem d_X11_spot_5 : decode cX11_spot 5 = .ok (.invokevirtual 117, 3) := by decide +kernel
theorem d_X11_spot_8 : decode cX11_spot 8 = .ok (.ifCond .eq 12, 3) := by decide +kernel
theorem d_X11_spot_11 : decode cX11_spot 11 = .ok (.iload_n 2, 1) := by decide +kernel
theorem d_X11_spot_12 : decode cX11_spot 12 = .ok (.ifCond .lt 8, 3) := by decide +kernel
theorem d_X11_spot_15 : decode cX11_spot 15 = .ok (.iload_n 2, 1) := by decide +kernel
theorem d_X11_spot_16 : decode cX11_spot 16 = .ok (.iconst 5, 1) := by decide +kernel
theorem d_X11_spot_17 : decode cX11_spot 17 = .ok (.if_icmp .le 5, 3) := by decide +kernel
theorem d_X11_spot_20 : decode cX11_spot 20 = .ok (.iconst (-1), 1) := by decide +kernel
theorem d_X11_spot_21 : decode cX11_spot 21 = .ok (.ireturn, 1) := by decide +kernel
theorem d_X11_spot_22 : decode cX11_spot 22 = .ok (.iload_n 2, 1) := by decide +kernel
theorem d_X11_spot_23 : decode cX11_spot 23 = .ok (.iconst 4, 1) := by decide +kernel
theorem d_X11_spot_24 : decode cX11_spot 24 = .ok (.if_icmp .ne 15, 3) := by decide +kernel
theorem d_X11_spot_27 : decode cX11_spot 27 = .ok (.aload_n 0, 1) := by decide +kernel
theorem d_X11_spot_28 : decode cX11_spot 28 = .ok (.getfield 43, 3) := by decide +kernel
theorem d_X11_spot_31 : decode cX11_spot 31 = .ok (.getfield 120, 3) := by decide +kernel
theorem d_X11_spot_34 : decode cX11_spot 34 = .ok (.iconst 0, 1) := by decide +kernel
theorem d_X11_spot_35 : decode cX11_spot 35 = .ok (.iload_n 1, 1) := by decide +kernel
theorem d_X11_spot_36 : decode cX11_spot 36 = .ok (.iadd, 1) := by decide +kernel
theorem d_X11_spot_37 : decode cX11_spot 37 = .ok (.iaload, 1) := by decide +kernel
theorem d_X11_spot_38 : decode cX11_spot 38 = .ok (.ireturn, 1) := by decide +kernel
theorem d_X11_spot_39 : decode cX11_spot 39 = .ok (.iload_n 2, 1) := by decide +kernel
theorem d_X11_spot_40 : decode cX11_spot 40 = .ok (.iconst 5, 1) := by decide +kernel
theorem d_X11_spot_41 : decode cX11_spot 41 = .ok (.if_icmp .ne 18, 3) := by decide +kernel
theorem d_X11_spot_44 : decode cX11_spot 44 = .ok (.aload_n 0, 1) := by decide +kernel
theorem d_X11_spot_45 : decode cX11_spot 45 = .ok (.getfield 43, 3) := by decide +kernel
theorem d_X11_spot_48 : decode cX11_spot 48 = .ok (.getfield 120, 3) := by decide +kernel
theorem d_X11_spot_51 : decode cX11_spot 51 = .ok (.bipush 8, 2) := by decide +kernel
theorem d_X11_spot_53 : decode cX11_spot 53 = .ok (.iload_n 1, 1) := by decide +kernel
theorem d_X11_spot_54 : decode cX11_spot 54 = .ok (.iadd, 1) := by decide +kernel
theorem d_X11_spot_55 : decode cX11_spot 55 = .ok (.iaload, 1) := by decide +kernel
theorem d_X11_spot_56 : decode cX11_spot 56 = .ok (.goto 13, 3) := by decide +kernel
theorem d_X11_spot_59 : decode cX11_spot 59 = .ok (.aload_n 0, 1) := by decide +kernel
theorem d_X11_spot_60 : decode cX11_spot 60 = .ok (.getfield 19, 3) := by decide +kernel
theorem d_X11_spot_63 : decode cX11_spot 63 = .ok (.iconst 0, 1) := by decide +kernel
theorem d_X11_spot_64 : decode cX11_spot 64 = .ok (.iload_n 1, 1) := by decide +kernel
theorem d_X11_spot_65 : decode cX11_spot 65 = .ok (.iload_n 2, 1) := by decide +kernel
theorem d_X11_spot_66 : decode cX11_spot 66 = .ok (.invokevirtual 124, 3) := by decide +kernel
theorem d_X11_spot_69 : decode cX11_spot 69 = .ok (.ireturn, 1) := by decide +kernel
def f_X11_spot (this : Nat) (a1 : Int32) (a2 : Int32) : sa_M Int32 :=
sa_gd 11 this (
sa_bnd (sa_rdR 11 this 1) fun v1 =>
sa_bnd (f_X1_hasPlace v1 a1) fun v2 =>
sa_jn0 (sa_ret ((-1) : Int32)) fun j20 =>
if v2 = 0 then
j20
else
if a2 < 0 then
j20
else
if a2 ≤ 5 then
if ¬ a2 = 4 then
sa_jn1 (fun (y3 : Int32) =>
sa_ret (y3 : Int32)) fun j69 =>
if ¬ a2 = 5 then
sa_bnd (sa_rdR 11 this 1) fun v4 =>
sa_bnd (f_X1_cell v4 0 a1 a2) fun v5 =>
j69 v5
else
sa_bnd (sa_rdR 11 this 6) fun v6 =>
sa_bnd (sa_rdR 0 v6 0) fun v7 =>
sa_bnd (sa_ldI .int v7 (8 + a1)) fun v8 =>
j69 v8
else
sa_bnd (sa_rdR 11 this 6) fun v9 =>
sa_bnd (sa_rdR 0 v9 0) fun v10 =>
sa_bnd (sa_ldI .int v10 (0 + a1)) fun v11 =>
sa_ret (v11 : Int32)
else
j20)
set_option maxHeartbeats 1000000 in
set_option maxRecDepth 10000 in
theorem b_X11_spot {p : Program} {l : Launch} {e : Env} {s : State} {m : MethodId} {args : Array Value} {below : List Frame} {meth : Method} {c : Code} {D : va_G} {ad : Nat → Nat} {cA : FieldType → ClassId} {A : Nat → Prop} (this : Nat) (a1 : Int32) (a2 : Int32) (C : sa_C p s m args meth c cX11_spot RX11 "spot" 3 (some .int) D ad cA A) : sa_Sg p l e s m args below meth c 3 2 D ad cA A sa_eI 0 [(0, .ref (ad this)), (1, .int a1), (2, .int a2)] [] (f_X11_spot this a1 a2) := by
  unfold f_X11_spot
  refine sa_gdI ?_
  refine sa_aload_n C d_X11_spot_0 rfl 0 rfl ?_
  refine sa_getR C fd_X11_19 rfl d_X11_spot_1 (fun v1 => ?_)
  refine sa_iload_n C d_X11_spot_4 rfl 1 rfl ?_
  refine sa_invV (ci := 1) C (k_X1_hasPlace v1 a1) q648 ds_X1_hasPlace q116 rfl q646 q647 q772 (gd_X1_hasPlace v1 a1) rfl rfl rfl (Nat.le_of_ble_eq_true rfl) (by decide) (by decide) d_X11_spot_5 (fun v2 => ?_)
  refine sa_join0 20 ([]) ([]) (?_) (fun j20 hj20 => ?_)
  · refine sa_iconst (v := (-1)) C d_X11_spot_20 (by decide) ?_
    exact sa_iret C d_X11_spot_21
  refine sa_if_eq (tgt := 20) C d_X11_spot_8 (by decide) ?_ ?_
  · exact sa_sub [] rfl (hj20)
  refine sa_iload_n C d_X11_spot_11 rfl 2 rfl ?_
  refine sa_if_lt (tgt := 20) C d_X11_spot_12 (by decide) ?_ ?_
  · exact sa_sub [] rfl (hj20)
  refine sa_iload_n C d_X11_spot_15 rfl 2 rfl ?_
  refine sa_iconst (v := 5) C d_X11_spot_16 (by decide) ?_
  refine sa_icmp_le (tgt := 22) C d_X11_spot_17 (by decide) ?_ ?_
  · refine sa_iload_n C d_X11_spot_22 rfl 2 rfl ?_
    refine sa_iconst (v := 4) C d_X11_spot_23 (by decide) ?_
    refine sa_icmp_ne (tgt := 39) C d_X11_spot_24 (by decide) ?_ ?_
    · refine sa_iload_n C d_X11_spot_39 rfl 2 rfl ?_
      refine sa_iconst (v := 5) C d_X11_spot_40 (by decide) ?_
      refine sa_join1 69 (fun y3 => []) (fun y3 => [.int y3]) (fun y3 => ?_) (fun j69 hj69 => ?_)
      · exact sa_iret C d_X11_spot_69
      refine sa_icmp_ne (tgt := 59) C d_X11_spot_41 (by decide) ?_ ?_
      · refine sa_aload_n C d_X11_spot_59 rfl 0 rfl ?_
        refine sa_getR C fd_X11_19 rfl d_X11_spot_60 (fun v4 => ?_)
        refine sa_iconst (v := 0) C d_X11_spot_63 (by decide) ?_
        refine sa_iload_n C d_X11_spot_64 rfl 1 rfl ?_
        refine sa_iload_n C d_X11_spot_65 rfl 2 rfl ?_
        refine sa_invV (ci := 1) C (k_X1_cell v4 0 a1 a2) q644 ds_X1_cell q116 rfl q642 q643 q773 (gd_X1_cell v4 0 a1 a2) rfl rfl rfl (Nat.le_of_ble_eq_true rfl) (by decide) (by decide) d_X11_spot_66 (fun v5 => ?_)
        exact sa_sub [] rfl (hj69 _)
      refine sa_aload_n C d_X11_spot_44 rfl 0 rfl ?_
      refine sa_getR C fd_X11_43 rfl d_X11_spot_45 (fun v6 => ?_)
      refine sa_getR C fd_X11_120 rfl d_X11_spot_48 (fun v7 => ?_)
      refine sa_bipush (v := 8) C d_X11_spot_51 (by decide) ?_
      refine sa_iload_n C d_X11_spot_53 rfl 1 rfl ?_
      refine sa_iadd C d_X11_spot_54 ?_
      refine sa_iald C d_X11_spot_55 (fun v8 => ?_)
      refine sa_goto (tgt := 69) C d_X11_spot_56 (by decide) ?_
      exact sa_sub [] rfl (hj69 _)
    refine sa_aload_n C d_X11_spot_27 rfl 0 rfl ?_
    refine sa_getR C fd_X11_43 rfl d_X11_spot_28 (fun v9 => ?_)
    refine sa_getR C fd_X11_120 rfl d_X11_spot_31 (fun v10 => ?_)
    refine sa_iconst (v := 0) C d_X11_spot_34 (by decide) ?_
    refine sa_iload_n C d_X11_spot_35 rfl 1 rfl ?_
    refine sa_iadd C d_X11_spot_36 ?_
    refine sa_iald C d_X11_spot_37 (fun v11 => ?_)
    exact sa_iret C d_X11_spot_38
  exact sa_sub [] rfl (hj20)
theorem k_X11_spot (this : Nat) (a1 : Int32) (a2 : Int32) : sa_Met 2 yX11_spot cX11_spot 3 (some .int) (fun ad => [.ref (ad this), .int a1, .int a2]) sa_eI (f_X11_spot this a1 a2) := sa_mk (by decide) (fun ad => Nat.le_of_ble_eq_true rfl) (fun p l e s m args below meth c D ad cA A C => b_X11_spot this a1 a2 C)
theorem gd_X11_spot (this : Nat) (a1 : Int32) (a2 : Int32) (σ : sa_St) (r : Int32) (τ : sa_St) (h : f_X11_spot this a1 a2 σ = some (r, τ)) : sa_sh this = some (.inl 11) := sa_gd_ok h
theorem d_X11_way_0 : decode cX11_way 0 = .ok (.iload_n 1, 1) := by decide +kernel
theorem d_X11_way_1 : decode cX11_way 1 = .ok (.ifCond .lt 25, 3) := by decide +kernel
theorem d_X11_way_4 : decode cX11_way 4 = .ok (.iload_n 1, 1) := by decide +kernel
theorem d_X11_way_5 : decode cX11_way 5 = .ok (.aload_n 0, 1) := by decide +kernel
theorem d_X11_way_6 : decode cX11_way 6 = .ok (.getfield 19, 3) := by decide +kernel
theorem d_X11_way_9 : decode cX11_way 9 = .ok (.getfield 128, 3) := by decide +kernel
theorem d_X11_way_12 : decode cX11_way 12 = .ok (.iconst 1, 1) := by decide +kernel
theorem d_X11_way_13 : decode cX11_way 13 = .ok (.iaload, 1) := by decide +kernel
theorem d_X11_way_14 : decode cX11_way 14 = .ok (.if_icmp .ge 12, 3) := by decide +kernel
theorem d_X11_way_17 : decode cX11_way 17 = .ok (.iload_n 2, 1) := by decide +kernel
theorem d_X11_way_18 : decode cX11_way 18 = .ok (.ifCond .lt 8, 3) := by decide +kernel
theorem d_X11_way_21 : decode cX11_way 21 = .ok (.iload_n 2, 1) := by decide +kernel
theorem d_X11_way_22 : decode cX11_way 22 = .ok (.iconst 3, 1) := by decide +kernel
theorem d_X11_way_23 : decode cX11_way 23 = .ok (.if_icmp .le 5, 3) := by decide +kernel
theorem d_X11_way_26 : decode cX11_way 26 = .ok (.iconst (-1), 1) := by decide +kernel
theorem d_X11_way_27 : decode cX11_way 27 = .ok (.ireturn, 1) := by decide +kernel
theorem d_X11_way_28 : decode cX11_way 28 = .ok (.aload_n 0, 1) := by decide +kernel
theorem d_X11_way_29 : decode cX11_way 29 = .ok (.getfield 19, 3) := by decide +kernel
theorem d_X11_way_32 : decode cX11_way 32 = .ok (.iconst 1, 1) := by decide +kernel
theorem d_X11_way_33 : decode cX11_way 33 = .ok (.iload_n 1, 1) := by decide +kernel
theorem d_X11_way_34 : decode cX11_way 34 = .ok (.iload_n 2, 1) := by decide +kernel
theorem d_X11_way_35 : decode cX11_way 35 = .ok (.invokevirtual 124, 3) := by decide +kernel
theorem d_X11_way_38 : decode cX11_way 38 = .ok (.ireturn, 1) := by decide +kernel
def f_X11_way (this : Nat) (a1 : Int32) (a2 : Int32) : sa_M Int32 :=
sa_gd 11 this (
sa_jn0 (sa_ret ((-1) : Int32)) fun j26 =>
if a1 < 0 then
j26
else
sa_bnd (sa_rdR 11 this 1) fun v1 =>
sa_bnd (sa_rdR 1 v1 0) fun v2 =>
sa_bnd (sa_ldI .int v2 1) fun v3 =>
if v3 ≤ a1 then
j26
else
if a2 < 0 then
j26
else
if a2 ≤ 3 then
sa_bnd (sa_rdR 11 this 1) fun v4 =>
sa_bnd (f_X1_cell v4 1 a1 a2) fun v5 =>
sa_ret (v5 : Int32)
else
j26)
set_option maxHeartbeats 1000000 in
set_option maxRecDepth 10000 in
theorem b_X11_way {p : Program} {l : Launch} {e : Env} {s : State} {m : MethodId} {args : Array Value} {below : List Frame} {meth : Method} {c : Code} {D : va_G} {ad : Nat → Nat} {cA : FieldType → ClassId} {A : Nat → Prop} (this : Nat) (a1 : Int32) (a2 : Int32) (C : sa_C p s m args meth c cX11_way RX11 "way" 3 (some .int) D ad cA A) : sa_Sg p l e s m args below meth c 3 2 D ad cA A sa_eI 0 [(0, .ref (ad this)), (1, .int a1), (2, .int a2)] [] (f_X11_way this a1 a2) := by
  unfold f_X11_way
  refine sa_gdI ?_
  refine sa_iload_n C d_X11_way_0 rfl 1 rfl ?_
  refine sa_join0 26 ([]) ([]) (?_) (fun j26 hj26 => ?_)
  · refine sa_iconst (v := (-1)) C d_X11_way_26 (by decide) ?_
    exact sa_iret C d_X11_way_27
  refine sa_if_lt (tgt := 26) C d_X11_way_1 (by decide) ?_ ?_
  · exact sa_sub [] rfl (hj26)
  refine sa_iload_n C d_X11_way_4 rfl 1 rfl ?_
  refine sa_aload_n C d_X11_way_5 rfl 0 rfl ?_
  refine sa_getR C fd_X11_19 rfl d_X11_way_6 (fun v1 => ?_)
  refine sa_getR C fd_X11_128 rfl d_X11_way_9 (fun v2 => ?_)
  refine sa_iconst (v := 1) C d_X11_way_12 (by decide) ?_
  refine sa_iald C d_X11_way_13 (fun v3 => ?_)
  refine sa_icmp_ge (tgt := 26) C d_X11_way_14 (by decide) ?_ ?_
  · exact sa_sub [] rfl (hj26)
  refine sa_iload_n C d_X11_way_17 rfl 2 rfl ?_
  refine sa_if_lt (tgt := 26) C d_X11_way_18 (by decide) ?_ ?_
  · exact sa_sub [] rfl (hj26)
  refine sa_iload_n C d_X11_way_21 rfl 2 rfl ?_
  refine sa_iconst (v := 3) C d_X11_way_22 (by decide) ?_
  refine sa_icmp_le (tgt := 28) C d_X11_way_23 (by decide) ?_ ?_
  · refine sa_aload_n C d_X11_way_28 rfl 0 rfl ?_
    refine sa_getR C fd_X11_19 rfl d_X11_way_29 (fun v4 => ?_)
    refine sa_iconst (v := 1) C d_X11_way_32 (by decide) ?_
    refine sa_iload_n C d_X11_way_33 rfl 1 rfl ?_
    refine sa_iload_n C d_X11_way_34 rfl 2 rfl ?_
    refine sa_invV (ci := 1) C (k_X1_cell v4 1 a1 a2) q644 ds_X1_cell q116 rfl q642 q643 q773 (gd_X1_cell v4 1 a1 a2) rfl rfl rfl (Nat.le_of_ble_eq_true rfl) (by decide) (by decide) d_X11_way_35 (fun v5 => ?_)
    exact sa_iret C d_X11_way_38
  exact sa_sub [] rfl (hj26)
theorem k_X11_way (this : Nat) (a1 : Int32) (a2 : Int32) : sa_Met 2 yX11_way cX11_way 3 (some .int) (fun ad => [.ref (ad this), .int a1, .int a2]) sa_eI (f_X11_way this a1 a2) := sa_mk (by decide) (fun ad => Nat.le_of_ble_eq_true rfl) (fun p l e s m args below meth c D ad cA A C => b_X11_way this a1 a2 C)
theorem gd_X11_way (this : Nat) (a1 : Int32) (a2 : Int32) (σ : sa_St) (r : Int32) (τ : sa_St) (h : f_X11_way this a1 a2 σ = some (r, τ)) : sa_sh this = some (.inl 11) := sa_gd_ok h
theorem d_X11_foe_0 : decode cX11_foe 0 = .ok (.iload_n 1, 1) := by decide +kernel
theorem d_X11_foe_1 : decode cX11_foe 1 = .ok (.ifCond .lt 25, 3) := by decide +kernel
theorem d_X11_foe_4 : decode cX11_foe 4 = .ok (.iload_n 1, 1) := by decide +kernel
theorem d_X11_foe_5 : decode cX11_foe 5 = .ok (.aload_n 0, 1) := by decide +kernel
theorem d_X11_foe_6 : decode cX11_foe 6 = .ok (.getfield 19, 3) := by decide +kernel
theorem d_X11_foe_9 : decode cX11_foe 9 = .ok (.getfield 128, 3) := by decide +kernel
theorem d_X11_foe_12 : decode cX11_foe 12 = .ok (.iconst 3, 1) := by decide +kernel
theorem d_X11_foe_13 : decode cX11_foe 13 = .ok (.iaload, 1) := by decide +kernel
theorem d_X11_foe_14 : decode cX11_foe 14 = .ok (.if_icmp .ge 12, 3) := by decide +kernel
theorem d_X11_foe_17 : decode cX11_foe 17 = .ok (.iload_n 2, 1) := by decide +kernel
theorem d_X11_foe_18 : decode cX11_foe 18 = .ok (.ifCond .lt 8, 3) := by decide +kernel
theorem d_X11_foe_21 : decode cX11_foe 21 = .ok (.iload_n 2, 1) := by decide +kernel
theorem d_X11_foe_22 : decode cX11_foe 22 = .ok (.iconst 1, 1) := by decide +kernel
theorem d_X11_foe_23 : decode cX11_foe 23 = .ok (.if_icmp .le 5, 3) := by decide +kernel
theorem d_X11_foe_26 : decode cX11_foe 26 = .ok (.iconst (-1), 1) := by decide +kernel
theorem d_X11_foe_27 : decode cX11_foe 27 = .ok (.ireturn, 1) := by decide +kernel
theorem d_X11_foe_28 : decode cX11_foe 28 = .ok (.iload_n 2, 1) := by decide +kernel
theorem d_X11_foe_29 : decode cX11_foe 29 = .ok (.ifCond .ne 16, 3) := by decide +kernel
theorem d_X11_foe_32 : decode cX11_foe 32 = .ok (.aload_n 0, 1) := by decide +kernel
theorem d_X11_foe_33 : decode cX11_foe 33 = .ok (.getfield 19, 3) := by decide +kernel
theorem d_X11_foe_36 : decode cX11_foe 36 = .ok (.iconst 3, 1) := by decide +kernel
theorem d_X11_foe_37 : decode cX11_foe 37 = .ok (.iload_n 1, 1) := by decide +kernel
theorem d_X11_foe_38 : decode cX11_foe 38 = .ok (.iconst 0, 1) := by decide +kernel
theorem d_X11_foe_39 : decode cX11_foe 39 = .ok (.invokevirtual 124, 3) := by decide +kernel
theorem d_X11_foe_42 : decode cX11_foe 42 = .ok (.goto 15, 3) := by decide +kernel
theorem d_X11_foe_45 : decode cX11_foe 45 = .ok (.aload_n 0, 1) := by decide +kernel
theorem d_X11_foe_46 : decode cX11_foe 46 = .ok (.getfield 43, 3) := by decide +kernel
theorem d_X11_foe_49 : decode cX11_foe 49 = .ok (.getfield 120, 3) := by decide +kernel
theorem d_X11_foe_52 : decode cX11_foe 52 = .ok (.bipush 16, 2) := by decide +kernel
theorem d_X11_foe_54 : decode cX11_foe 54 = .ok (.iload_n 1, 1) := by decide +kernel
theorem d_X11_foe_55 : decode cX11_foe 55 = .ok (.iadd, 1) := by decide +kernel
theorem d_X11_foe_56 : decode cX11_foe 56 = .ok (.iaload, 1) := by decide +kernel
theorem d_X11_foe_57 : decode cX11_foe 57 = .ok (.ireturn, 1) := by decide +kernel
def f_X11_foe (this : Nat) (a1 : Int32) (a2 : Int32) : sa_M Int32 :=
sa_gd 11 this (
sa_jn0 (sa_ret ((-1) : Int32)) fun j26 =>
if a1 < 0 then
j26
else
sa_bnd (sa_rdR 11 this 1) fun v1 =>
sa_bnd (sa_rdR 1 v1 0) fun v2 =>
sa_bnd (sa_ldI .int v2 3) fun v3 =>
if v3 ≤ a1 then
j26
else
if a2 < 0 then
j26
else
if a2 ≤ 1 then
sa_jn1 (fun (y4 : Int32) =>
sa_ret (y4 : Int32)) fun j57 =>
if ¬ a2 = 0 then
sa_bnd (sa_rdR 11 this 6) fun v5 =>
sa_bnd (sa_rdR 0 v5 0) fun v6 =>
sa_bnd (sa_ldI .int v6 (16 + a1)) fun v7 =>
j57 v7
else
sa_bnd (sa_rdR 11 this 1) fun v8 =>
sa_bnd (f_X1_cell v8 3 a1 0) fun v9 =>
j57 v9
else
j26)
set_option maxHeartbeats 1000000 in
set_option maxRecDepth 10000 in
theorem b_X11_foe {p : Program} {l : Launch} {e : Env} {s : State} {m : MethodId} {args : Array Value} {below : List Frame} {meth : Method} {c : Code} {D : va_G} {ad : Nat → Nat} {cA : FieldType → ClassId} {A : Nat → Prop} (this : Nat) (a1 : Int32) (a2 : Int32) (C : sa_C p s m args meth c cX11_foe RX11 "foe" 3 (some .int) D ad cA A) : sa_Sg p l e s m args below meth c 3 2 D ad cA A sa_eI 0 [(0, .ref (ad this)), (1, .int a1), (2, .int a2)] [] (f_X11_foe this a1 a2) := by
  unfold f_X11_foe
  refine sa_gdI ?_
  refine sa_iload_n C d_X11_foe_0 rfl 1 rfl ?_
  refine sa_join0 26 ([]) ([]) (?_) (fun j26 hj26 => ?_)
  · refine sa_iconst (v := (-1)) C d_X11_foe_26 (by decide) ?_
    exact sa_iret C d_X11_foe_27
  refine sa_if_lt (tgt := 26) C d_X11_foe_1 (by decide) ?_ ?_
  · exact sa_sub [] rfl (hj26)
  refine sa_iload_n C d_X11_foe_4 rfl 1 rfl ?_
  refine sa_aload_n C d_X11_foe_5 rfl 0 rfl ?_
  refine sa_getR C fd_X11_19 rfl d_X11_foe_6 (fun v1 => ?_)
  refine sa_getR C fd_X11_128 rfl d_X11_foe_9 (fun v2 => ?_)
  refine sa_iconst (v := 3) C d_X11_foe_12 (by decide) ?_
  refine sa_iald C d_X11_foe_13 (fun v3 => ?_)
  refine sa_icmp_ge (tgt := 26) C d_X11_foe_14 (by decide) ?_ ?_
  · exact sa_sub [] rfl (hj26)
  refine sa_iload_n C d_X11_foe_17 rfl 2 rfl ?_
  refine sa_if_lt (tgt := 26) C d_X11_foe_18 (by decide) ?_ ?_
  · exact sa_sub [] rfl (hj26)
  refine sa_iload_n C d_X11_foe_21 rfl 2 rfl ?_
  refine sa_iconst (v := 1) C d_X11_foe_22 (by decide) ?_
  refine sa_icmp_le (tgt := 28) C d_X11_foe_23 (by decide) ?_ ?_
  · refine sa_iload_n C d_X11_foe_28 rfl 2 rfl ?_
    refine sa_join1 57 (fun y4 => []) (fun y4 => [.int y4]) (fun y4 => ?_) (fun j57 hj57 => ?_)
    · exact sa_iret C d_X11_foe_57
    refine sa_if_ne (tgt := 45) C d_X11_foe_29 (by decide) ?_ ?_
    · refine sa_aload_n C d_X11_foe_45 rfl 0 rfl ?_
      refine sa_getR C fd_X11_43 rfl d_X11_foe_46 (fun v5 => ?_)
      refine sa_getR C fd_X11_120 rfl d_X11_foe_49 (fun v6 => ?_)
      refine sa_bipush (v := 16) C d_X11_foe_52 (by decide) ?_
      refine sa_iload_n C d_X11_foe_54 rfl 1 rfl ?_
      refine sa_iadd C d_X11_foe_55 ?_
      refine sa_iald C d_X11_foe_56 (fun v7 => ?_)
      exact sa_sub [] rfl (hj57 _)
    refine sa_aload_n C d_X11_foe_32 rfl 0 rfl ?_
    refine sa_getR C fd_X11_19 rfl d_X11_foe_33 (fun v8 => ?_)
    refine sa_iconst (v := 3) C d_X11_foe_36 (by decide) ?_
    refine sa_iload_n C d_X11_foe_37 rfl 1 rfl ?_
    refine sa_iconst (v := 0) C d_X11_foe_38 (by decide) ?_
    refine sa_invV (ci := 1) C (k_X1_cell v8 3 a1 0) q644 ds_X1_cell q116 rfl q642 q643 q773 (gd_X1_cell v8 3 a1 0) rfl rfl rfl (Nat.le_of_ble_eq_true rfl) (by decide) (by decide) d_X11_foe_39 (fun v9 => ?_)
    refine sa_goto (tgt := 57) C d_X11_foe_42 (by decide) ?_
    exact sa_sub [] rfl (hj57 _)
  exact sa_sub [] rfl (hj26)
theorem k_X11_foe (this : Nat) (a1 : Int32) (a2 : Int32) : sa_Met 2 yX11_foe cX11_foe 3 (some .int) (fun ad => [.ref (ad this), .int a1, .int a2]) sa_eI (f_X11_foe this a1 a2) := sa_mk (by decide) (fun ad => Nat.le_of_ble_eq_true rfl) (fun p l e s m args below meth c D ad cA A C => b_X11_foe this a1 a2 C)
theorem gd_X11_foe (this : Nat) (a1 : Int32) (a2 : Int32) (σ : sa_St) (r : Int32) (τ : sa_St) (h : f_X11_foe this a1 a2 σ = some (r, τ)) : sa_sh this = some (.inl 11) := sa_gd_ok h
theorem d_X11_law_0 : decode cX11_law 0 = .ok (.iload_n 1, 1) := by decide +kernel
theorem d_X11_law_1 : decode cX11_law 1 = .ok (.iconst (-1), 1) := by decide +kernel
theorem d_X11_law_2 : decode cX11_law 2 = .ok (.if_icmp .lt 14, 3) := by decide +kernel
theorem d_X11_law_5 : decode cX11_law 5 = .ok (.iload_n 1, 1) := by decide +kernel
theorem d_X11_law_6 : decode cX11_law 6 = .ok (.aload_n 0, 1) := by decide +kernel
theorem d_X11_law_7 : decode cX11_law 7 = .ok (.getfield 29, 3) := by decide +kernel
theorem d_X11_law_10 : decode cX11_law 10 = .ok (.getfield 113, 3) := by decide +kernel
theorem d_X11_law_13 : decode cX11_law 13 = .ok (.if_icmp .lt 5, 3) := by decide +kernel
theorem d_X11_law_16 : decode cX11_law 16 = .ok (.iconst 0, 1) := by decide +kernel
theorem d_X11_law_17 : decode cX11_law 17 = .ok (.ireturn, 1) := by decide +kernel
theorem d_X11_law_18 : decode cX11_law 18 = .ok (.aload_n 0, 1) := by decide +kernel
theorem d_X11_law_19 : decode cX11_law 19 = .ok (.getfield 29, 3) := by decide +kernel
theorem d_X11_law_22 : decode cX11_law 22 = .ok (.iload_n 1, 1) := by decide +kernel
theorem d_X11_law_23 : decode cX11_law 23 = .ok (.putfield 141, 3) := by decide +kernel
theorem d_X11_law_26 : decode cX11_law 26 = .ok (.iconst 1, 1) := by decide +kernel
theorem d_X11_law_27 : decode cX11_law 27 = .ok (.ireturn, 1) := by decide +kernel
def f_X11_law (this : Nat) (a1 : Int32) : sa_M Int32 :=
sa_gd 11 this (
sa_jn0 (sa_retZ 0) fun j16 =>
if a1 < (-1) then
j16
else
sa_bnd (sa_rdR 11 this 3) fun v1 =>
sa_bnd (sa_rdI 3 v1 2) fun v2 =>
if a1 < v2 then
sa_bnd (sa_rdR 11 this 3) fun v3 =>
sa_bnd (sa_wrI 3 v3 3 a1) fun _ =>
sa_retZ 1
else
j16)
set_option maxHeartbeats 1000000 in
set_option maxRecDepth 10000 in
theorem b_X11_law {p : Program} {l : Launch} {e : Env} {s : State} {m : MethodId} {args : Array Value} {below : List Frame} {meth : Method} {c : Code} {D : va_G} {ad : Nat → Nat} {cA : FieldType → ClassId} {A : Nat → Prop} (this : Nat) (a1 : Int32) (C : sa_C p s m args meth c cX11_law RX11 "law" 2 (some .boolean) D ad cA A) : sa_Sg p l e s m args below meth c 2 1 D ad cA A sa_eI 0 [(0, .ref (ad this)), (1, .int a1)] [] (f_X11_law this a1) := by
  unfold f_X11_law
  refine sa_gdI ?_
  refine sa_iload_n C d_X11_law_0 rfl 1 rfl ?_
  refine sa_iconst (v := (-1)) C d_X11_law_1 (by decide) ?_
  refine sa_join0 16 ([]) ([]) (?_) (fun j16 hj16 => ?_)
  · refine sa_iconst (v := 0) C d_X11_law_16 (by decide) ?_
    exact sa_zret C d_X11_law_17
  refine sa_icmp_lt (tgt := 16) C d_X11_law_2 (by decide) ?_ ?_
  · exact sa_sub [] rfl (hj16)
  refine sa_iload_n C d_X11_law_5 rfl 1 rfl ?_
  refine sa_aload_n C d_X11_law_6 rfl 0 rfl ?_
  refine sa_getR C fd_X11_29 rfl d_X11_law_7 (fun v1 => ?_)
  refine sa_getI C fd_X11_113 d_X11_law_10 (fun v2 => ?_)
  refine sa_icmp_lt (tgt := 18) C d_X11_law_13 (by decide) ?_ ?_
  · refine sa_aload_n C d_X11_law_18 rfl 0 rfl ?_
    refine sa_getR C fd_X11_29 rfl d_X11_law_19 (fun v3 => ?_)
    refine sa_iload_n C d_X11_law_22 rfl 1 rfl ?_
    refine sa_putI C fd_X11_141 d_X11_law_23 ?_
    refine sa_iconst (v := 1) C d_X11_law_26 (by decide) ?_
    exact sa_zret C d_X11_law_27
  exact sa_sub [] rfl (hj16)
theorem k_X11_law (this : Nat) (a1 : Int32) : sa_Met 1 yX11_law cX11_law 2 (some .boolean) (fun ad => [.ref (ad this), .int a1]) sa_eI (f_X11_law this a1) := sa_mk (by decide) (fun ad => Nat.le_of_ble_eq_true rfl) (fun p l e s m args below meth c D ad cA A C => b_X11_law this a1 C)
theorem gd_X11_law (this : Nat) (a1 : Int32) (σ : sa_St) (r : Int32) (τ : sa_St) (h : f_X11_law this a1 σ = some (r, τ)) : sa_sh this = some (.inl 11) := sa_gd_ok h
theorem d_X11_wear_0 : decode cX11_wear 0 = .ok (.aload_n 0, 1) := by decide +kernel
theorem d_X11_wear_1 : decode cX11_wear 1 = .ok (.getfield 43, 3) := by decide +kernel
theorem d_X11_wear_4 : decode cX11_wear 4 = .ok (.iload_n 1, 1) := by decide +kernel
theorem d_X11_wear_5 : decode cX11_wear 5 = .ok (.invokevirtual 144, 3) := by decide +kernel
theorem d_X11_wear_8 : decode cX11_wear 8 = .ok (.ifCond .eq 22, 3) := by decide +kernel
theorem d_X11_wear_11 : decode cX11_wear 11 = .ok (.aload_n 0, 1) := by decide +kernel
theorem d_X11_wear_12 : decode cX11_wear 12 = .ok (.getfield 43, 3) := by decide +kernel
theorem d_X11_wear_15 : decode cX11_wear 15 = .ok (.aload_n 0, 1) := by decide +kernel
theorem d_X11_wear_16 : decode cX11_wear 16 = .ok (.getfield 19, 3) := by decide +kernel
theorem d_X11_wear_19 : decode cX11_wear 19 = .ok (.aload_n 0, 1) := by decide +kernel
theorem d_X11_wear_20 : decode cX11_wear 20 = .ok (.getfield 29, 3) := by decide +kernel
theorem d_X11_wear_23 : decode cX11_wear 23 = .ok (.iload_n 1, 1) := by decide +kernel
theorem d_X11_wear_24 : decode cX11_wear 24 = .ok (.invokevirtual 147, 3) := by decide +kernel
theorem d_X11_wear_27 : decode cX11_wear 27 = .ok (.goto 4, 3) := by decide +kernel
theorem d_X11_wear_30 : decode cX11_wear 30 = .ok (.iconst (-1), 1) := by decide +kernel
theorem d_X11_wear_31 : decode cX11_wear 31 = .ok (.ireturn, 1) := by decide +kernel
def f_X11_wear (this : Nat) (a1 : Int32) : sa_M Int32 :=
sa_gd 11 this (
sa_bnd (sa_rdR 11 this 6) fun v1 =>
sa_bnd (f_X0_lives v1 a1) fun v2 =>
sa_jn1 (fun (y3 : Int32) =>
sa_ret (y3 : Int32)) fun j31 =>
if v2 = 0 then
j31 (-1)
else
sa_bnd (sa_rdR 11 this 6) fun v4 =>
sa_bnd (sa_rdR 11 this 1) fun v5 =>
sa_bnd (sa_rdR 11 this 3) fun v6 =>
sa_bnd (f_X0_lossByRain v4 v5 v6 a1) fun v7 =>
j31 v7)
set_option maxHeartbeats 1000000 in
set_option maxRecDepth 10000 in
theorem b_X11_wear {p : Program} {l : Launch} {e : Env} {s : State} {m : MethodId} {args : Array Value} {below : List Frame} {meth : Method} {c : Code} {D : va_G} {ad : Nat → Nat} {cA : FieldType → ClassId} {A : Nat → Prop} (this : Nat) (a1 : Int32) (C : sa_C p s m args meth c cX11_wear RX11 "wear" 2 (some .int) D ad cA A) : sa_Sg p l e s m args below meth c 2 4 D ad cA A sa_eI 0 [(0, .ref (ad this)), (1, .int a1)] [] (f_X11_wear this a1) := by
  unfold f_X11_wear
  refine sa_gdI ?_
  refine sa_aload_n C d_X11_wear_0 rfl 0 rfl ?_
  refine sa_getR C fd_X11_43 rfl d_X11_wear_1 (fun v1 => ?_)
  refine sa_iload_n C d_X11_wear_4 rfl 1 rfl ?_
  refine sa_invV (ci := 0) C (k_X0_lives v1 a1) q793 ds_X0_lives q121 rfl q791 q792 q790 (gd_X0_lives v1 a1) rfl rfl rfl (Nat.le_of_ble_eq_true rfl) (by decide) (by decide) d_X11_wear_5 (fun v2 => ?_)
  refine sa_join1 31 (fun y3 => []) (fun y3 => [.int y3]) (fun y3 => ?_) (fun j31 hj31 => ?_)
  · exact sa_iret C d_X11_wear_31
  refine sa_if_eq (tgt := 30) C d_X11_wear_8 (by decide) ?_ ?_
  · refine sa_iconst (v := (-1)) C d_X11_wear_30 (by decide) ?_
    exact sa_sub [] rfl (hj31 _)
  refine sa_aload_n C d_X11_wear_11 rfl 0 rfl ?_
  refine sa_getR C fd_X11_43 rfl d_X11_wear_12 (fun v4 => ?_)
  refine sa_aload_n C d_X11_wear_15 rfl 0 rfl ?_
  refine sa_getR C fd_X11_19 rfl d_X11_wear_16 (fun v5 => ?_)
  refine sa_aload_n C d_X11_wear_19 rfl 0 rfl ?_
  refine sa_getR C fd_X11_29 rfl d_X11_wear_20 (fun v6 => ?_)
  refine sa_iload_n C d_X11_wear_23 rfl 1 rfl ?_
  refine sa_invV (ci := 0) C (k_X0_lossByRain v4 v5 v6 a1) q805 ds_X0_lossByRain q121 rfl q803 q804 q802 (gd_X0_lossByRain v4 v5 v6 a1) rfl rfl rfl (Nat.le_of_ble_eq_true rfl) (by decide) (by decide) d_X11_wear_24 (fun v7 => ?_)
  refine sa_goto (tgt := 31) C d_X11_wear_27 (by decide) ?_
  exact sa_sub [] rfl (hj31 _)
theorem k_X11_wear (this : Nat) (a1 : Int32) : sa_Met 4 yX11_wear cX11_wear 2 (some .int) (fun ad => [.ref (ad this), .int a1]) sa_eI (f_X11_wear this a1) := sa_mk (by decide) (fun ad => Nat.le_of_ble_eq_true rfl) (fun p l e s m args below meth c D ad cA A C => b_X11_wear this a1 C)
theorem gd_X11_wear (this : Nat) (a1 : Int32) (σ : sa_St) (r : Int32) (τ : sa_St) (h : f_X11_wear this a1 σ = some (r, τ)) : sa_sh this = some (.inl 11) := sa_gd_ok h
theorem d_X11_obey_0 : decode cX11_obey 0 = .ok (.iload_n 2, 1) := by decide +kernel
theorem d_X11_obey_1 : decode cX11_obey 1 = .ok (.tableswitch 73 0 3 #[31, 43, 51, 61], 31) := by decide +kernel
theorem d_X11_obey_32 : decode cX11_obey 32 = .ok (.aload_n 1, 1) := by decide +kernel
theorem d_X11_obey_33 : decode cX11_obey 33 = .ok (.aload_n 0, 1) := by decide +kernel
theorem d_X11_obey_34 : decode cX11_obey 34 = .ok (.getfield 19, 3) := by decide +kernel
theorem d_X11_obey_37 : decode cX11_obey 37 = .ok (.iload_n 3, 1) := by decide +kernel
theorem d_X11_obey_38 : decode cX11_obey 38 = .ok (.iload 4, 2) := by decide +kernel
theorem d_X11_obey_40 : decode cX11_obey 40 = .ok (.invokevirtual 335, 3) := by decide +kernel
theorem d_X11_obey_43 : decode cX11_obey 43 = .ok (.ireturn, 1) := by decide +kernel
theorem d_X11_obey_44 : decode cX11_obey 44 = .ok (.aload_n 1, 1) := by decide +kernel
theorem d_X11_obey_45 : decode cX11_obey 45 = .ok (.iload_n 3, 1) := by decide +kernel
theorem d_X11_obey_46 : decode cX11_obey 46 = .ok (.iload 4, 2) := by decide +kernel
theorem d_X11_obey_48 : decode cX11_obey 48 = .ok (.invokevirtual 339, 3) := by decide +kernel
theorem d_X11_obey_51 : decode cX11_obey 51 = .ok (.ireturn, 1) := by decide +kernel
theorem d_X11_obey_52 : decode cX11_obey 52 = .ok (.aload_n 1, 1) := by decide +kernel
theorem d_X11_obey_53 : decode cX11_obey 53 = .ok (.aload_n 0, 1) := by decide +kernel
theorem d_X11_obey_54 : decode cX11_obey 54 = .ok (.getfield 19, 3) := by decide +kernel
theorem d_X11_obey_57 : decode cX11_obey 57 = .ok (.iload_n 3, 1) := by decide +kernel
theorem d_X11_obey_58 : decode cX11_obey 58 = .ok (.invokevirtual 342, 3) := by decide +kernel
theorem d_X11_obey_61 : decode cX11_obey 61 = .ok (.ireturn, 1) := by decide +kernel
theorem d_X11_obey_62 : decode cX11_obey 62 = .ok (.aload_n 1, 1) := by decide +kernel
theorem d_X11_obey_63 : decode cX11_obey 63 = .ok (.aload_n 0, 1) := by decide +kernel
theorem d_X11_obey_64 : decode cX11_obey 64 = .ok (.getfield 19, 3) := by decide +kernel
theorem d_X11_obey_67 : decode cX11_obey 67 = .ok (.iload_n 3, 1) := by decide +kernel
theorem d_X11_obey_68 : decode cX11_obey 68 = .ok (.iload 4, 2) := by decide +kernel
theorem d_X11_obey_70 : decode cX11_obey 70 = .ok (.invokevirtual 345, 3) := by decide +kernel
theorem d_X11_obey_73 : decode cX11_obey 73 = .ok (.ireturn, 1) := by decide +kernel
theorem d_X11_obey_74 : decode cX11_obey 74 = .ok (.aload_n 1, 1) := by decide +kernel
theorem d_X11_obey_75 : decode cX11_obey 75 = .ok (.aload_n 0, 1) := by decide +kernel
theorem d_X11_obey_76 : decode cX11_obey 76 = .ok (.getfield 19, 3) := by decide +kernel
theorem d_X11_obey_79 : decode cX11_obey 79 = .ok (.aload_n 0, 1) := by decide +kernel
theorem d_X11_obey_80 : decode cX11_obey 80 = .ok (.getfield 29, 3) := by decide +kernel
theorem d_X11_obey_83 : decode cX11_obey 83 = .ok (.iload_n 3, 1) := by decide +kernel
theorem d_X11_obey_84 : decode cX11_obey 84 = .ok (.invokevirtual 348, 3) := by decide +kernel
theorem d_X11_obey_87 : decode cX11_obey 87 = .ok (.ireturn, 1) := by decide +kernel
def f_X11_obey (this : Nat) (a1 : Nat) (a2 : Int32) (a3 : Int32) (a4 : Int32) : sa_M Int32 :=
sa_gd 11 this (
if a2 = 0 then
sa_bnd (sa_rdR 11 this 1) fun v1 =>
sa_bnd (f_X0_setOut a1 v1 a3 a4) fun v2 =>
sa_ret (v2 : Int32)
else
if a2 = 1 then
sa_bnd (f_X0_unite a1 a3 a4) fun v3 =>
sa_ret (v3 : Int32)
else
if a2 = 2 then
sa_bnd (sa_rdR 11 this 1) fun v4 =>
sa_bnd (f_X0_mine a1 v4 a3) fun v5 =>
sa_ret (v5 : Int32)
else
if a2 = 3 then
sa_bnd (sa_rdR 11 this 1) fun v6 =>
sa_bnd (f_X0_castAnew a1 v6 a3 a4) fun v7 =>
sa_ret (v7 : Int32)
else
sa_bnd (sa_rdR 11 this 1) fun v8 =>
sa_bnd (sa_rdR 11 this 3) fun v9 =>
sa_bnd (f_X0_passHour a1 v8 v9 a3) fun v10 =>
sa_ret (v10 : Int32))
set_option maxHeartbeats 1000000 in
set_option maxRecDepth 10000 in
theorem b_X11_obey {p : Program} {l : Launch} {e : Env} {s : State} {m : MethodId} {args : Array Value} {below : List Frame} {meth : Method} {c : Code} {D : va_G} {ad : Nat → Nat} {cA : FieldType → ClassId} {A : Nat → Prop} (this : Nat) (a1 : Nat) (a2 : Int32) (a3 : Int32) (a4 : Int32) (C : sa_C p s m args meth c cX11_obey RX11 "obey" 5 (some .int) D ad cA A) : sa_Sg p l e s m args below meth c 5 6 D ad cA A sa_eI 0 [(0, .ref (ad this)), (1, .ref (ad a1)), (2, .int a2), (3, .int a3), (4, .int a4)] [] (f_X11_obey this a1 a2 a3 a4) := by
  unfold f_X11_obey
  refine sa_gdI ?_
  refine sa_iload_n C d_X11_obey_0 rfl 2 rfl ?_
  refine sa_byc (fun c0 => ?_) (fun c0 => ?_)
  · refine sa_tabIn (tgt := 32) C d_X11_obey_1 (by rw [c0]; decide) (by rw [c0]; decide) (by rw [c0]; rfl) (by decide) ?_
    refine sa_aload_n C d_X11_obey_32 rfl 1 rfl ?_
    refine sa_aload_n C d_X11_obey_33 rfl 0 rfl ?_
    refine sa_getR C fd_X11_19 rfl d_X11_obey_34 (fun v1 => ?_)
    refine sa_iload_n C d_X11_obey_37 rfl 3 rfl ?_
    refine sa_iload C d_X11_obey_38 4 rfl ?_
    refine sa_invV (ci := 0) C (k_X0_setOut a1 v1 a3 a4) q846 ds_X0_setOut q121 rfl q844 q845 q843 (gd_X0_setOut a1 v1 a3 a4) rfl rfl rfl (Nat.le_of_ble_eq_true rfl) (by decide) (by decide) d_X11_obey_40 (fun v2 => ?_)
    exact sa_iret C d_X11_obey_43
  refine sa_byc (fun c1 => ?_) (fun c1 => ?_)
  · refine sa_tabIn (tgt := 44) C d_X11_obey_1 (by rw [c1]; decide) (by rw [c1]; decide) (by rw [c1]; rfl) (by decide) ?_
    refine sa_aload_n C d_X11_obey_44 rfl 1 rfl ?_
    refine sa_iload_n C d_X11_obey_45 rfl 3 rfl ?_
    refine sa_iload C d_X11_obey_46 4 rfl ?_
    refine sa_invV (ci := 0) C (k_X0_unite a1 a3 a4) q859 ds_X0_unite q121 rfl q857 q858 q856 (gd_X0_unite a1 a3 a4) rfl rfl rfl (Nat.le_of_ble_eq_true rfl) (by decide) (by decide) d_X11_obey_48 (fun v3 => ?_)
    exact sa_iret C d_X11_obey_51
  refine sa_byc (fun c2 => ?_) (fun c2 => ?_)
  · refine sa_tabIn (tgt := 52) C d_X11_obey_1 (by rw [c2]; decide) (by rw [c2]; decide) (by rw [c2]; rfl) (by decide) ?_
    refine sa_aload_n C d_X11_obey_52 rfl 1 rfl ?_
    refine sa_aload_n C d_X11_obey_53 rfl 0 rfl ?_
    refine sa_getR C fd_X11_19 rfl d_X11_obey_54 (fun v4 => ?_)
    refine sa_iload_n C d_X11_obey_57 rfl 3 rfl ?_
    refine sa_invV (ci := 0) C (k_X0_mine a1 v4 a3) q864 ds_X0_mine q121 rfl q862 q863 q861 (gd_X0_mine a1 v4 a3) rfl rfl rfl (Nat.le_of_ble_eq_true rfl) (by decide) (by decide) d_X11_obey_58 (fun v5 => ?_)
    exact sa_iret C d_X11_obey_61
  refine sa_byc (fun c3 => ?_) (fun c3 => ?_)
  · refine sa_tabIn (tgt := 62) C d_X11_obey_1 (by rw [c3]; decide) (by rw [c3]; decide) (by rw [c3]; rfl) (by decide) ?_
    refine sa_aload_n C d_X11_obey_62 rfl 1 rfl ?_
    refine sa_aload_n C d_X11_obey_63 rfl 0 rfl ?_
    refine sa_getR C fd_X11_19 rfl d_X11_obey_64 (fun v6 => ?_)
    refine sa_iload_n C d_X11_obey_67 rfl 3 rfl ?_
    refine sa_iload C d_X11_obey_68 4 rfl ?_
    refine sa_invV (ci := 0) C (k_X0_castAnew a1 v6 a3 a4) q868 ds_X0_castAnew q121 rfl q866 q867 q865 (gd_X0_castAnew a1 v6 a3 a4) rfl rfl rfl (Nat.le_of_ble_eq_true rfl) (by decide) (by decide) d_X11_obey_70 (fun v7 => ?_)
    exact sa_iret C d_X11_obey_73
  refine sa_tabOut (tgt := 74) C d_X11_obey_1 (sa_out4 c0 c1 c2 c3) (by decide) ?_
  refine sa_aload_n C d_X11_obey_74 rfl 1 rfl ?_
  refine sa_aload_n C d_X11_obey_75 rfl 0 rfl ?_
  refine sa_getR C fd_X11_19 rfl d_X11_obey_76 (fun v8 => ?_)
  refine sa_aload_n C d_X11_obey_79 rfl 0 rfl ?_
  refine sa_getR C fd_X11_29 rfl d_X11_obey_80 (fun v9 => ?_)
  refine sa_iload_n C d_X11_obey_83 rfl 3 rfl ?_
  refine sa_invV (ci := 0) C (k_X0_passHour a1 v8 v9 a3) q872 ds_X0_passHour q121 rfl q870 q871 q869 (gd_X0_passHour a1 v8 v9 a3) rfl rfl rfl (Nat.le_of_ble_eq_true rfl) (by decide) (by decide) d_X11_obey_84 (fun v10 => ?_)
  exact sa_iret C d_X11_obey_87
theorem k_X11_obey (this : Nat) (a1 : Nat) (a2 : Int32) (a3 : Int32) (a4 : Int32) : sa_Met 6 yX11_obey cX11_obey 5 (some .int) (fun ad => [.ref (ad this), .ref (ad a1), .int a2, .int a3, .int a4]) sa_eI (f_X11_obey this a1 a2 a3 a4) := sa_mk (by decide) (fun ad => Nat.le_of_ble_eq_true rfl) (fun p l e s m args below meth c D ad cA A C => b_X11_obey this a1 a2 a3 a4 C)
theorem gd_X11_obey (this : Nat) (a1 : Nat) (a2 : Int32) (a3 : Int32) (a4 : Int32) (σ : sa_St) (r : Int32) (τ : sa_St) (h : f_X11_obey this a1 a2 a3 a4 σ = some (r, τ)) : sa_sh this = some (.inl 11) := sa_gd_ok h
theorem d_X11_act_0 : decode cX11_act 0 = .ok (.aload_n 0, 1) := by decide +kernel
theorem d_X11_act_1 : decode cX11_act 1 = .ok (.getfield 19, 3) := by decide +kernel
theorem d_X11_act_4 : decode cX11_act 4 = .ok (.invokevirtual 157, 3) := by decide +kernel
theorem d_X11_act_7 : decode cX11_act 7 = .ok (.ifCond .eq 5, 3) := by decide +kernel
theorem d_X11_act_10 : decode cX11_act 10 = .ok (.iconst (-1), 1) := by decide +kernel
theorem d_X11_act_11 : decode cX11_act 11 = .ok (.ireturn, 1) := by decide +kernel
theorem d_X11_act_12 : decode cX11_act 12 = .ok (.aload_n 0, 1) := by decide +kernel
theorem d_X11_act_13 : decode cX11_act 13 = .ok (.getfield 53, 3) := by decide +kernel
theorem d_X11_act_16 : decode cX11_act 16 = .ok (.aload_n 0, 1) := by decide +kernel
theorem d_X11_act_17 : decode cX11_act 17 = .ok (.getfield 43, 3) := by decide +kernel
theorem d_X11_act_20 : decode cX11_act 20 = .ok (.invokevirtual 329, 3) := by decide +kernel
theorem d_X11_act_23 : decode cX11_act 23 = .ok (.aload_n 0, 1) := by decide +kernel
theorem d_X11_act_24 : decode cX11_act 24 = .ok (.aload_n 0, 1) := by decide +kernel
theorem d_X11_act_25 : decode cX11_act 25 = .ok (.getfield 43, 3) := by decide +kernel
theorem d_X11_act_28 : decode cX11_act 28 = .ok (.iload_n 1, 1) := by decide +kernel
theorem d_X11_act_29 : decode cX11_act 29 = .ok (.iload_n 2, 1) := by decide +kernel
theorem d_X11_act_30 : decode cX11_act 30 = .ok (.iload_n 3, 1) := by decide +kernel
theorem d_X11_act_31 : decode cX11_act 31 = .ok (.invokevirtual 198, 3) := by decide +kernel
theorem d_X11_act_34 : decode cX11_act 34 = .ok (.istore 4, 2) := by decide +kernel
theorem d_X11_act_36 : decode cX11_act 36 = .ok (.iload 4, 2) := by decide +kernel
theorem d_X11_act_38 : decode cX11_act 38 = .ok (.iconst (-1), 1) := by decide +kernel
theorem d_X11_act_39 : decode cX11_act 39 = .ok (.if_icmp .eq 10, 3) := by decide +kernel
theorem d_X11_act_42 : decode cX11_act 42 = .ok (.aload_n 0, 1) := by decide +kernel
theorem d_X11_act_43 : decode cX11_act 43 = .ok (.getfield 53, 3) := by decide +kernel
theorem d_X11_act_46 : decode cX11_act 46 = .ok (.invokevirtual 332, 3) := by decide +kernel
theorem d_X11_act_49 : decode cX11_act 49 = .ok (.iload 4, 2) := by decide +kernel
theorem d_X11_act_51 : decode cX11_act 51 = .ok (.ireturn, 1) := by decide +kernel
def f_X11_act (this : Nat) (a1 : Int32) (a2 : Int32) (a3 : Int32) : sa_M Int32 :=
sa_gd 11 this (
sa_bnd (sa_rdR 11 this 1) fun v1 =>
sa_bnd (f_X1_isEmpty v1) fun v2 =>
if v2 = 0 then
sa_bnd (sa_rdR 11 this 8) fun v3 =>
sa_bnd (sa_rdR 11 this 6) fun v4 =>
sa_bnd (f_X5_note v3 v4) fun _ =>
sa_bnd (sa_rdR 11 this 6) fun v5 =>
sa_bnd (f_X11_obey this v5 a1 a2 a3) fun v6 =>
sa_jn0 (sa_ret (v6 : Int32)) fun j49 =>
if v6 = (-1) then
j49
else
sa_bnd (sa_rdR 11 this 8) fun v7 =>
sa_bnd (f_X5_confirm v7) fun _ =>
j49
else
sa_ret ((-1) : Int32))
set_option maxHeartbeats 1000000 in
set_option maxRecDepth 10000 in
theorem b_X11_act {p : Program} {l : Launch} {e : Env} {s : State} {m : MethodId} {args : Array Value} {below : List Frame} {meth : Method} {c : Code} {D : va_G} {ad : Nat → Nat} {cA : FieldType → ClassId} {A : Nat → Prop} (this : Nat) (a1 : Int32) (a2 : Int32) (a3 : Int32) (C : sa_C p s m args meth c cX11_act RX11 "act" 5 (some .int) D ad cA A) : sa_Sg p l e s m args below meth c 5 7 D ad cA A sa_eI 0 [(0, .ref (ad this)), (1, .int a1), (2, .int a2), (3, .int a3)] [] (f_X11_act this a1 a2 a3) := by
  unfold f_X11_act
  refine sa_gdI ?_
  refine sa_aload_n C d_X11_act_0 rfl 0 rfl ?_
  refine sa_getR C fd_X11_19 rfl d_X11_act_1 (fun v1 => ?_)
  refine sa_invV (ci := 1) C (k_X1_isEmpty v1) q829 ds_X1_isEmpty q116 rfl q827 q828 q826 (gd_X1_isEmpty v1) rfl rfl rfl (Nat.le_of_ble_eq_true rfl) (by decide) (by decide) d_X11_act_4 (fun v2 => ?_)
  refine sa_if_eq (tgt := 12) C d_X11_act_7 (by decide) ?_ ?_
  · refine sa_aload_n C d_X11_act_12 rfl 0 rfl ?_
    refine sa_getR C fd_X11_53 rfl d_X11_act_13 (fun v3 => ?_)
    refine sa_aload_n C d_X11_act_16 rfl 0 rfl ?_
    refine sa_getR C fd_X11_43 rfl d_X11_act_17 (fun v4 => ?_)
    refine sa_invV (ci := 5) C (k_X5_note v3 v4) q833 ds_X5_note q122 rfl q831 q832 q830 (gd_X5_note v3 v4) rfl rfl rfl (Nat.le_of_ble_eq_true rfl) (by decide) (by decide) d_X11_act_20 (fun _ => ?_)
    refine sa_aload_n C d_X11_act_23 rfl 0 rfl ?_
    refine sa_aload_n C d_X11_act_24 rfl 0 rfl ?_
    refine sa_getR C fd_X11_43 rfl d_X11_act_25 (fun v5 => ?_)
    refine sa_iload_n C d_X11_act_28 rfl 1 rfl ?_
    refine sa_iload_n C d_X11_act_29 rfl 2 rfl ?_
    refine sa_iload_n C d_X11_act_30 rfl 3 rfl ?_
    refine sa_invV (ci := 11) C (k_X11_obey this v5 a1 a2 a3) q842 ds_X11_obey q114 rfl q841 q19 q839 (gd_X11_obey this v5 a1 a2 a3) rfl rfl rfl (Nat.le_of_ble_eq_true rfl) (by decide) (by decide) d_X11_act_31 (fun v6 => ?_)
    refine sa_istore (lv' := [(4, .int v6), (0, .ref (ad this)), (1, .int a1), (2, .int a2), (3, .int a3)]) C d_X11_act_34 (by decide) rfl ?_
    refine sa_iload C d_X11_act_36 0 rfl ?_
    refine sa_iconst (v := (-1)) C d_X11_act_38 (by decide) ?_
    refine sa_join0 49 ([(4, .int v6)]) ([]) (?_) (fun j49 hj49 => ?_)
    · refine sa_iload C d_X11_act_49 0 rfl ?_
      exact sa_iret C d_X11_act_51
    refine sa_icmp_eq (tgt := 49) C d_X11_act_39 (by decide) ?_ ?_
    · exact sa_sub [0] rfl (hj49)
    refine sa_aload_n C d_X11_act_42 rfl 1 rfl ?_
    refine sa_getR C fd_X11_53 rfl d_X11_act_43 (fun v7 => ?_)
    refine sa_invV (ci := 5) C (k_X5_confirm v7) q910 ds_X5_confirm q122 rfl q908 q909 q907 (gd_X5_confirm v7) rfl rfl rfl (Nat.le_of_ble_eq_true rfl) (by decide) (by decide) d_X11_act_46 (fun _ => ?_)
    exact sa_sub [0] rfl (hj49)
  refine sa_iconst (v := (-1)) C d_X11_act_10 (by decide) ?_
  exact sa_iret C d_X11_act_11
theorem k_X11_act (this : Nat) (a1 : Int32) (a2 : Int32) (a3 : Int32) : sa_Met 7 yX11_act cX11_act 5 (some .int) (fun ad => [.ref (ad this), .int a1, .int a2, .int a3]) sa_eI (f_X11_act this a1 a2 a3) := sa_mk (by decide) (fun ad => Nat.le_of_ble_eq_true rfl) (fun p l e s m args below meth c D ad cA A C => b_X11_act this a1 a2 a3 C)
theorem gd_X11_act (this : Nat) (a1 : Int32) (a2 : Int32) (a3 : Int32) (σ : sa_St) (r : Int32) (τ : sa_St) (h : f_X11_act this a1 a2 a3 σ = some (r, τ)) : sa_sh this = some (.inl 11) := sa_gd_ok h
theorem d_X11_march_0 : decode cX11_march 0 = .ok (.aload_n 0, 1) := by decide +kernel
theorem d_X11_march_1 : decode cX11_march 1 = .ok (.iconst 0, 1) := by decide +kernel
theorem d_X11_march_2 : decode cX11_march 2 = .ok (.iload_n 1, 1) := by decide +kernel
theorem d_X11_march_3 : decode cX11_march 3 = .ok (.iload_n 2, 1) := by decide +kernel
theorem d_X11_march_4 : decode cX11_march 4 = .ok (.invokevirtual 151, 3) := by decide +kernel
theorem d_X11_march_7 : decode cX11_march 7 = .ok (.ireturn, 1) := by decide +kernel
def f_X11_march (this : Nat) (a1 : Int32) (a2 : Int32) : sa_M Int32 :=
sa_gd 11 this (
sa_bnd (f_X11_act this 0 a1 a2) fun v1 =>
sa_ret (v1 : Int32))
set_option maxHeartbeats 1000000 in
set_option maxRecDepth 10000 in
theorem b_X11_march {p : Program} {l : Launch} {e : Env} {s : State} {m : MethodId} {args : Array Value} {below : List Frame} {meth : Method} {c : Code} {D : va_G} {ad : Nat → Nat} {cA : FieldType → ClassId} {A : Nat → Prop} (this : Nat) (a1 : Int32) (a2 : Int32) (C : sa_C p s m args meth c cX11_march RX11 "march" 3 (some .int) D ad cA A) : sa_Sg p l e s m args below meth c 3 8 D ad cA A sa_eI 0 [(0, .ref (ad this)), (1, .int a1), (2, .int a2)] [] (f_X11_march this a1 a2) := by
  unfold f_X11_march
  refine sa_gdI ?_
  refine sa_aload_n C d_X11_march_0 rfl 0 rfl ?_
  refine sa_iconst (v := 0) C d_X11_march_1 (by decide) ?_
  refine sa_iload_n C d_X11_march_2 rfl 1 rfl ?_
  refine sa_iload_n C d_X11_march_3 rfl 2 rfl ?_
  refine sa_invV (ci := 11) C (k_X11_act this 0 a1 a2) q825 ds_X11_act q114 rfl q824 q18 q822 (gd_X11_act this 0 a1 a2) rfl rfl rfl (Nat.le_of_ble_eq_true rfl) (by decide) (by decide) d_X11_march_4 (fun v1 => ?_)
  exact sa_iret C d_X11_march_7
theorem k_X11_march (this : Nat) (a1 : Int32) (a2 : Int32) : sa_Met 8 yX11_march cX11_march 3 (some .int) (fun ad => [.ref (ad this), .int a1, .int a2]) sa_eI (f_X11_march this a1 a2) := sa_mk (by decide) (fun ad => Nat.le_of_ble_eq_true rfl) (fun p l e s m args below meth c D ad cA A C => b_X11_march this a1 a2 C)
theorem gd_X11_march (this : Nat) (a1 : Int32) (a2 : Int32) (σ : sa_St) (r : Int32) (τ : sa_St) (h : f_X11_march this a1 a2 σ = some (r, τ)) : sa_sh this = some (.inl 11) := sa_gd_ok h
theorem d_X11_join_0 : decode cX11_join 0 = .ok (.aload_n 0, 1) := by decide +kernel
theorem d_X11_join_1 : decode cX11_join 1 = .ok (.iconst 1, 1) := by decide +kernel
theorem d_X11_join_2 : decode cX11_join 2 = .ok (.iload_n 1, 1) := by decide +kernel
theorem d_X11_join_3 : decode cX11_join 3 = .ok (.iload_n 2, 1) := by decide +kernel
theorem d_X11_join_4 : decode cX11_join 4 = .ok (.invokevirtual 151, 3) := by decide +kernel
theorem d_X11_join_7 : decode cX11_join 7 = .ok (.ireturn, 1) := by decide +kernel
def f_X11_join (this : Nat) (a1 : Int32) (a2 : Int32) : sa_M Int32 :=
sa_gd 11 this (
sa_bnd (f_X11_act this 1 a1 a2) fun v1 =>
sa_ret (v1 : Int32))
set_option maxHeartbeats 1000000 in
set_option maxRecDepth 10000 in
theorem b_X11_join {p : Program} {l : Launch} {e : Env} {s : State} {m : MethodId} {args : Array Value} {below : List Frame} {meth : Method} {c : Code} {D : va_G} {ad : Nat → Nat} {cA : FieldType → ClassId} {A : Nat → Prop} (this : Nat) (a1 : Int32) (a2 : Int32) (C : sa_C p s m args meth c cX11_join RX11 "join" 3 (some .int) D ad cA A) : sa_Sg p l e s m args below meth c 3 8 D ad cA A sa_eI 0 [(0, .ref (ad this)), (1, .int a1), (2, .int a2)] [] (f_X11_join this a1 a2) := by
  unfold f_X11_join
  refine sa_gdI ?_
  refine sa_aload_n C d_X11_join_0 rfl 0 rfl ?_
  refine sa_iconst (v := 1) C d_X11_join_1 (by decide) ?_
  refine sa_iload_n C d_X11_join_2 rfl 1 rfl ?_
  refine sa_iload_n C d_X11_join_3 rfl 2 rfl ?_
  refine sa_invV (ci := 11) C (k_X11_act this 1 a1 a2) q825 ds_X11_act q114 rfl q824 q18 q822 (gd_X11_act this 1 a1 a2) rfl rfl rfl (Nat.le_of_ble_eq_true rfl) (by decide) (by decide) d_X11_join_4 (fun v1 => ?_)
  exact sa_iret C d_X11_join_7
theorem k_X11_join (this : Nat) (a1 : Int32) (a2 : Int32) : sa_Met 8 yX11_join cX11_join 3 (some .int) (fun ad => [.ref (ad this), .int a1, .int a2]) sa_eI (f_X11_join this a1 a2) := sa_mk (by decide) (fun ad => Nat.le_of_ble_eq_true rfl) (fun p l e s m args below meth c D ad cA A C => b_X11_join this a1 a2 C)
theorem gd_X11_join (this : Nat) (a1 : Int32) (a2 : Int32) (σ : sa_St) (r : Int32) (τ : sa_St) (h : f_X11_join this a1 a2 σ = some (r, τ)) : sa_sh this = some (.inl 11) := sa_gd_ok h
theorem d_X11_dig_0 : decode cX11_dig 0 = .ok (.aload_n 0, 1) := by decide +kernel
theorem d_X11_dig_1 : decode cX11_dig 1 = .ok (.iconst 2, 1) := by decide +kernel
theorem d_X11_dig_2 : decode cX11_dig 2 = .ok (.iload_n 1, 1) := by decide +kernel
theorem d_X11_dig_3 : decode cX11_dig 3 = .ok (.iconst 0, 1) := by decide +kernel
theorem d_X11_dig_4 : decode cX11_dig 4 = .ok (.invokevirtual 151, 3) := by decide +kernel
theorem d_X11_dig_7 : decode cX11_dig 7 = .ok (.ireturn, 1) := by decide +kernel
def f_X11_dig (this : Nat) (a1 : Int32) : sa_M Int32 :=
sa_gd 11 this (
sa_bnd (f_X11_act this 2 a1 0) fun v1 =>
sa_ret (v1 : Int32))
set_option maxHeartbeats 1000000 in
set_option maxRecDepth 10000 in
theorem b_X11_dig {p : Program} {l : Launch} {e : Env} {s : State} {m : MethodId} {args : Array Value} {below : List Frame} {meth : Method} {c : Code} {D : va_G} {ad : Nat → Nat} {cA : FieldType → ClassId} {A : Nat → Prop} (this : Nat) (a1 : Int32) (C : sa_C p s m args meth c cX11_dig RX11 "dig" 2 (some .int) D ad cA A) : sa_Sg p l e s m args below meth c 2 8 D ad cA A sa_eI 0 [(0, .ref (ad this)), (1, .int a1)] [] (f_X11_dig this a1) := by
  unfold f_X11_dig
  refine sa_gdI ?_
  refine sa_aload_n C d_X11_dig_0 rfl 0 rfl ?_
  refine sa_iconst (v := 2) C d_X11_dig_1 (by decide) ?_
  refine sa_iload_n C d_X11_dig_2 rfl 1 rfl ?_
  refine sa_iconst (v := 0) C d_X11_dig_3 (by decide) ?_
  refine sa_invV (ci := 11) C (k_X11_act this 2 a1 0) q825 ds_X11_act q114 rfl q824 q18 q822 (gd_X11_act this 2 a1 0) rfl rfl rfl (Nat.le_of_ble_eq_true rfl) (by decide) (by decide) d_X11_dig_4 (fun v1 => ?_)
  exact sa_iret C d_X11_dig_7
theorem k_X11_dig (this : Nat) (a1 : Int32) : sa_Met 8 yX11_dig cX11_dig 2 (some .int) (fun ad => [.ref (ad this), .int a1]) sa_eI (f_X11_dig this a1) := sa_mk (by decide) (fun ad => Nat.le_of_ble_eq_true rfl) (fun p l e s m args below meth c D ad cA A C => b_X11_dig this a1 C)
theorem gd_X11_dig (this : Nat) (a1 : Int32) (σ : sa_St) (r : Int32) (τ : sa_St) (h : f_X11_dig this a1 σ = some (r, τ)) : sa_sh this = some (.inl 11) := sa_gd_ok h
theorem d_X11_cast_0 : decode cX11_cast 0 = .ok (.aload_n 0, 1) := by decide +kernel
theorem d_X11_cast_1 : decode cX11_cast 1 = .ok (.iconst 3, 1) := by decide +kernel
theorem d_X11_cast_2 : decode cX11_cast 2 = .ok (.iload_n 1, 1) := by decide +kernel
theorem d_X11_cast_3 : decode cX11_cast 3 = .ok (.iload_n 2, 1) := by decide +kernel
theorem d_X11_cast_4 : decode cX11_cast 4 = .ok (.invokevirtual 151, 3) := by decide +kernel
theorem d_X11_cast_7 : decode cX11_cast 7 = .ok (.ireturn, 1) := by decide +kernel
def f_X11_cast (this : Nat) (a1 : Int32) (a2 : Int32) : sa_M Int32 :=
sa_gd 11 this (
sa_bnd (f_X11_act this 3 a1 a2) fun v1 =>
sa_ret (v1 : Int32))
set_option maxHeartbeats 1000000 in
set_option maxRecDepth 10000 in
theorem b_X11_cast {p : Program} {l : Launch} {e : Env} {s : State} {m : MethodId} {args : Array Value} {below : List Frame} {meth : Method} {c : Code} {D : va_G} {ad : Nat → Nat} {cA : FieldType → ClassId} {A : Nat → Prop} (this : Nat) (a1 : Int32) (a2 : Int32) (C : sa_C p s m args meth c cX11_cast RX11 "cast" 3 (some .int) D ad cA A) : sa_Sg p l e s m args below meth c 3 8 D ad cA A sa_eI 0 [(0, .ref (ad this)), (1, .int a1), (2, .int a2)] [] (f_X11_cast this a1 a2) := by
  unfold f_X11_cast
  refine sa_gdI ?_
  refine sa_aload_n C d_X11_cast_0 rfl 0 rfl ?_
  refine sa_iconst (v := 3) C d_X11_cast_1 (by decide) ?_
  refine sa_iload_n C d_X11_cast_2 rfl 1 rfl ?_
  refine sa_iload_n C d_X11_cast_3 rfl 2 rfl ?_
  refine sa_invV (ci := 11) C (k_X11_act this 3 a1 a2) q825 ds_X11_act q114 rfl q824 q18 q822 (gd_X11_act this 3 a1 a2) rfl rfl rfl (Nat.le_of_ble_eq_true rfl) (by decide) (by decide) d_X11_cast_4 (fun v1 => ?_)
  exact sa_iret C d_X11_cast_7
theorem k_X11_cast (this : Nat) (a1 : Int32) (a2 : Int32) : sa_Met 8 yX11_cast cX11_cast 3 (some .int) (fun ad => [.ref (ad this), .int a1, .int a2]) sa_eI (f_X11_cast this a1 a2) := sa_mk (by decide) (fun ad => Nat.le_of_ble_eq_true rfl) (fun p l e s m args below meth c D ad cA A C => b_X11_cast this a1 a2 C)
theorem gd_X11_cast (this : Nat) (a1 : Int32) (a2 : Int32) (σ : sa_St) (r : Int32) (τ : sa_St) (h : f_X11_cast this a1 a2 σ = some (r, τ)) : sa_sh this = some (.inl 11) := sa_gd_ok h
theorem d_X11_hour_0 : decode cX11_hour 0 = .ok (.iload_n 1, 1) := by decide +kernel
theorem d_X11_hour_1 : decode cX11_hour 1 = .ok (.ifCond .lt 14, 3) := by decide +kernel
theorem d_X11_hour_4 : decode cX11_hour 4 = .ok (.iload_n 1, 1) := by decide +kernel
theorem d_X11_hour_5 : decode cX11_hour 5 = .ok (.aload_n 0, 1) := by decide +kernel
theorem d_X11_hour_6 : decode cX11_hour 6 = .ok (.getfield 19, 3) := by decide +kernel
theorem d_X11_hour_9 : decode cX11_hour 9 = .ok (.invokevirtual 154, 3) := by decide +kernel
theorem d_X11_hour_12 : decode cX11_hour 12 = .ok (.if_icmp .le 5, 3) := by decide +kernel
theorem d_X11_hour_15 : decode cX11_hour 15 = .ok (.iconst (-1), 1) := by decide +kernel
theorem d_X11_hour_16 : decode cX11_hour 16 = .ok (.ireturn, 1) := by decide +kernel
theorem d_X11_hour_17 : decode cX11_hour 17 = .ok (.aload_n 0, 1) := by decide +kernel
theorem d_X11_hour_18 : decode cX11_hour 18 = .ok (.iconst 4, 1) := by decide +kernel
theorem d_X11_hour_19 : decode cX11_hour 19 = .ok (.iload_n 1, 1) := by decide +kernel
theorem d_X11_hour_20 : decode cX11_hour 20 = .ok (.iconst 0, 1) := by decide +kernel
theorem d_X11_hour_21 : decode cX11_hour 21 = .ok (.invokevirtual 151, 3) := by decide +kernel
theorem d_X11_hour_24 : decode cX11_hour 24 = .ok (.ireturn, 1) := by decide +kernel
def f_X11_hour (this : Nat) (a1 : Int32) : sa_M Int32 :=
sa_gd 11 this (
sa_jn0 (sa_ret ((-1) : Int32)) fun j15 =>
if a1 < 0 then
j15
else
sa_bnd (sa_rdR 11 this 1) fun v1 =>
sa_bnd (f_X1_allPlaces v1) fun v2 =>
if a1 ≤ v2 then
sa_bnd (f_X11_act this 4 a1 0) fun v3 =>
sa_ret (v3 : Int32)
else
j15)
set_option maxHeartbeats 1000000 in
set_option maxRecDepth 10000 in
theorem b_X11_hour {p : Program} {l : Launch} {e : Env} {s : State} {m : MethodId} {args : Array Value} {below : List Frame} {meth : Method} {c : Code} {D : va_G} {ad : Nat → Nat} {cA : FieldType → ClassId} {A : Nat → Prop} (this : Nat) (a1 : Int32) (C : sa_C p s m args meth c cX11_hour RX11 "hour" 2 (some .int) D ad cA A) : sa_Sg p l e s m args below meth c 2 8 D ad cA A sa_eI 0 [(0, .ref (ad this)), (1, .int a1)] [] (f_X11_hour this a1) := by
  unfold f_X11_hour
  refine sa_gdI ?_
  refine sa_iload_n C d_X11_hour_0 rfl 1 rfl ?_
  refine sa_join0 15 ([]) ([]) (?_) (fun j15 hj15 => ?_)
  · refine sa_iconst (v := (-1)) C d_X11_hour_15 (by decide) ?_
    exact sa_iret C d_X11_hour_16
  refine sa_if_lt (tgt := 15) C d_X11_hour_1 (by decide) ?_ ?_
  · exact sa_sub [] rfl (hj15)
  refine sa_iload_n C d_X11_hour_4 rfl 1 rfl ?_
  refine sa_aload_n C d_X11_hour_5 rfl 0 rfl ?_
  refine sa_getR C fd_X11_19 rfl d_X11_hour_6 (fun v1 => ?_)
  refine sa_invV (ci := 1) C (k_X1_allPlaces v1) q931 ds_X1_allPlaces q116 rfl q929 q930 q928 (gd_X1_allPlaces v1) rfl rfl rfl (Nat.le_of_ble_eq_true rfl) (by decide) (by decide) d_X11_hour_9 (fun v2 => ?_)
  refine sa_icmp_le (tgt := 17) C d_X11_hour_12 (by decide) ?_ ?_
  · refine sa_aload_n C d_X11_hour_17 rfl 0 rfl ?_
    refine sa_iconst (v := 4) C d_X11_hour_18 (by decide) ?_
    refine sa_iload_n C d_X11_hour_19 rfl 1 rfl ?_
    refine sa_iconst (v := 0) C d_X11_hour_20 (by decide) ?_
    refine sa_invV (ci := 11) C (k_X11_act this 4 a1 0) q825 ds_X11_act q114 rfl q824 q18 q822 (gd_X11_act this 4 a1 0) rfl rfl rfl (Nat.le_of_ble_eq_true rfl) (by decide) (by decide) d_X11_hour_21 (fun v3 => ?_)
    exact sa_iret C d_X11_hour_24
  exact sa_sub [] rfl (hj15)
theorem k_X11_hour (this : Nat) (a1 : Int32) : sa_Met 8 yX11_hour cX11_hour 2 (some .int) (fun ad => [.ref (ad this), .int a1]) sa_eI (f_X11_hour this a1) := sa_mk (by decide) (fun ad => Nat.le_of_ble_eq_true rfl) (fun p l e s m args below meth c D ad cA A C => b_X11_hour this a1 C)
theorem gd_X11_hour (this : Nat) (a1 : Int32) (σ : sa_St) (r : Int32) (τ : sa_St) (h : f_X11_hour this a1 σ = some (r, τ)) : sa_sh this = some (.inl 11) := sa_gd_ok h
theorem d_X11_war_0 : decode cX11_war 0 = .ok (.aload_n 0, 1) := by decide +kernel
theorem d_X11_war_1 : decode cX11_war 1 = .ok (.getfield 19, 3) := by decide +kernel
theorem d_X11_war_4 : decode cX11_war 4 = .ok (.invokevirtual 157, 3) := by decide +kernel
theorem d_X11_war_7 : decode cX11_war 7 = .ok (.ifCond .ne 14, 3) := by decide +kernel
theorem d_X11_war_10 : decode cX11_war 10 = .ok (.iload_n 1, 1) := by decide +kernel
theorem d_X11_war_11 : decode cX11_war 11 = .ok (.iconst 1, 1) := by decide +kernel
theorem d_X11_war_12 : decode cX11_war 12 = .ok (.if_icmp .lt 9, 3) := by decide +kernel
theorem d_X11_war_15 : decode cX11_war 15 = .ok (.iload_n 1, 1) := by decide +kernel
theorem d_X11_war_16 : decode cX11_war 16 = .ok (.bipush 48, 2) := by decide +kernel
theorem d_X11_war_18 : decode cX11_war 18 = .ok (.if_icmp .le 5, 3) := by decide +kernel
theorem d_X11_war_21 : decode cX11_war 21 = .ok (.iconst (-1), 1) := by decide +kernel
theorem d_X11_war_22 : decode cX11_war 22 = .ok (.ireturn, 1) := by decide +kernel
theorem d_X11_war_23 : decode cX11_war 23 = .ok (.lload_n 2, 1) := by decide +kernel
theorem d_X11_war_24 : decode cX11_war 24 = .ok (.lstore 4, 2) := by decide +kernel
theorem d_X11_war_26 : decode cX11_war 26 = .ok (.iconst 0, 1) := by decide +kernel
theorem d_X11_war_27 : decode cX11_war 27 = .ok (.istore 6, 2) := by decide +kernel
theorem d_X11_war_29 : decode cX11_war 29 = .ok (.iload 6, 2) := by decide +kernel
theorem d_X11_war_31 : decode cX11_war 31 = .ok (.iload_n 1, 1) := by decide +kernel
theorem d_X11_war_32 : decode cX11_war 32 = .ok (.if_icmp .ge 90, 3) := by decide +kernel
theorem d_X11_war_35 : decode cX11_war 35 = .ok (.iconst 0, 1) := by decide +kernel
theorem d_X11_war_36 : decode cX11_war 36 = .ok (.istore 7, 2) := by decide +kernel
theorem d_X11_war_38 : decode cX11_war 38 = .ok (.iconst 0, 1) := by decide +kernel
theorem d_X11_war_39 : decode cX11_war 39 = .ok (.istore 8, 2) := by decide +kernel
theorem d_X11_war_41 : decode cX11_war 41 = .ok (.iload 8, 2) := by decide +kernel
theorem d_X11_war_43 : decode cX11_war 43 = .ok (.aload_n 0, 1) := by decide +kernel
theorem d_X11_war_44 : decode cX11_war 44 = .ok (.getfield 19, 3) := by decide +kernel
theorem d_X11_war_47 : decode cX11_war 47 = .ok (.getfield 128, 3) := by decide +kernel
theorem d_X11_war_50 : decode cX11_war 50 = .ok (.iconst 0, 1) := by decide +kernel
theorem d_X11_war_51 : decode cX11_war 51 = .ok (.iaload, 1) := by decide +kernel
theorem d_X11_war_52 : decode cX11_war 52 = .ok (.if_icmp .ge 55, 3) := by decide +kernel
theorem d_X11_war_55 : decode cX11_war 55 = .ok (.lload 4, 2) := by decide +kernel
theorem d_X11_war_57 : decode cX11_war 57 = .ok (.ldc2_w 161, 3) := by decide +kernel
theorem d_X11_war_60 : decode cX11_war 60 = .ok (.lmul, 1) := by decide +kernel
theorem d_X11_war_61 : decode cX11_war 61 = .ok (.ldc2_w 163, 3) := by decide +kernel
theorem d_X11_war_64 : decode cX11_war 64 = .ok (.ladd, 1) := by decide +kernel
theorem d_X11_war_65 : decode cX11_war 65 = .ok (.lstore 4, 2) := by decide +kernel
theorem d_X11_war_67 : decode cX11_war 67 = .ok (.lload 4, 2) := by decide +kernel
theorem d_X11_war_69 : decode cX11_war 69 = .ok (.bipush 33, 2) := by decide +kernel
theorem d_X11_war_71 : decode cX11_war 71 = .ok (.lushr, 1) := by decide +kernel
theorem d_X11_war_72 : decode cX11_war 72 = .ok (.ldc2_w 165, 3) := by decide +kernel
theorem d_X11_war_75 : decode cX11_war 75 = .ok (.lrem, 1) := by decide +kernel
theorem d_X11_war_76 : decode cX11_war 76 = .ok (.aload_n 0, 1) := by decide +kernel
theorem d_X11_war_77 : decode cX11_war 77 = .ok (.getfield 19, 3) := by decide +kernel
theorem d_X11_war_80 : decode cX11_war 80 = .ok (.iconst 0, 1) := by decide +kernel
theorem d_X11_war_81 : decode cX11_war 81 = .ok (.iload 8, 2) := by decide +kernel
theorem d_X11_war_83 : decode cX11_war 83 = .ok (.iconst 2, 1) := by decide +kernel
theorem d_X11_war_84 : decode cX11_war 84 = .ok (.invokevirtual 124, 3) := by decide +kernel
theorem d_X11_war_87 : decode cX11_war 87 = .ok (.i2l, 1) := by decide +kernel
theorem d_X11_war_88 : decode cX11_war 88 = .ok (.lcmp, 1) := by decide +kernel
theorem d_X11_war_89 : decode cX11_war 89 = .ok (.ifCond .ge 12, 3) := by decide +kernel
theorem d_X11_war_92 : decode cX11_war 92 = .ok (.iload 7, 2) := by decide +kernel
theorem d_X11_war_94 : decode cX11_war 94 = .ok (.iconst 1, 1) := by decide +kernel
theorem d_X11_war_95 : decode cX11_war 95 = .ok (.iload 8, 2) := by decide +kernel
theorem d_X11_war_97 : decode cX11_war 97 = .ok (.ishl, 1) := by decide +kernel
theorem d_X11_war_98 : decode cX11_war 98 = .ok (.ior, 1) := by decide +kernel
theorem d_X11_war_99 : decode cX11_war 99 = .ok (.istore 7, 2) := by decide +kernel
theorem d_X11_war_101 : decode cX11_war 101 = .ok (.iinc 8 1, 3) := by decide +kernel
theorem d_X11_war_104 : decode cX11_war 104 = .ok (.goto (-63), 3) := by decide +kernel
theorem d_X11_war_107 : decode cX11_war 107 = .ok (.aload_n 0, 1) := by decide +kernel
theorem d_X11_war_108 : decode cX11_war 108 = .ok (.iconst 4, 1) := by decide +kernel
theorem d_X11_war_109 : decode cX11_war 109 = .ok (.iload 7, 2) := by decide +kernel
theorem d_X11_war_111 : decode cX11_war 111 = .ok (.iconst 0, 1) := by decide +kernel
theorem d_X11_war_112 : decode cX11_war 112 = .ok (.invokevirtual 151, 3) := by decide +kernel
theorem d_X11_war_115 : decode cX11_war 115 = .ok (.pop, 1) := by decide +kernel
theorem d_X11_war_116 : decode cX11_war 116 = .ok (.iinc 6 1, 3) := by decide +kernel
theorem d_X11_war_119 : decode cX11_war 119 = .ok (.goto (-90), 3) := by decide +kernel
theorem d_X11_war_122 : decode cX11_war 122 = .ok (.aload_n 0, 1) := by decide +kernel
theorem d_X11_war_123 : decode cX11_war 123 = .ok (.getfield 43, 3) := by decide +kernel
theorem d_X11_war_126 : decode cX11_war 126 = .ok (.getfield 120, 3) := by decide +kernel
theorem d_X11_war_129 : decode cX11_war 129 = .ok (.bipush 21, 2) := by decide +kernel
theorem d_X11_war_131 : decode cX11_war 131 = .ok (.iaload, 1) := by decide +kernel
theorem d_X11_war_132 : decode cX11_war 132 = .ok (.ireturn, 1) := by decide +kernel
def f_X11_war (this : Nat) (a1 : Int32) (a2 : Int64) : sa_M Int32 :=
sa_gd 11 this (
sa_bnd (sa_rdR 11 this 1) fun v1 =>
sa_bnd (f_X1_isEmpty v1) fun v2 =>
sa_jn0 (sa_ret ((-1) : Int32)) fun j21 =>
if ¬ v2 = 0 then
j21
else
if a1 < 1 then
j21
else
if a1 ≤ 48 then
sa_let (0 : Int32) fun x3 =>
sa_wh2 (fun j29 (x4 : Int64) (x5 : Int32) =>
if a1 ≤ x5 then
sa_bnd (sa_rdR 11 this 6) fun v6 =>
sa_bnd (sa_rdR 0 v6 0) fun v7 =>
sa_bnd (sa_ldI .int v7 21) fun v8 =>
sa_ret (v8 : Int32)
else
sa_let (0 : Int32) fun x9 =>
sa_let (0 : Int32) fun x10 =>
sa_wh3 (fun j41 (x11 : Int64) (x12 : Int32) (x13 : Int32) =>
sa_bnd (sa_rdR 11 this 1) fun v14 =>
sa_bnd (sa_rdR 1 v14 0) fun v15 =>
sa_bnd (sa_ldI .int v15 0) fun v16 =>
if v16 ≤ x13 then
sa_bnd (f_X11_act this 4 x12 0) fun v17 =>
sa_let ((x5 + 1) : Int32) fun x18 =>
j29 x11 x18
else
sa_let (((x11 * 6364136223846793005) + 1442695040888963407) : Int64) fun x19 =>
sa_bnd (sa_mdL ((x19.toUInt64 >>> ((33 : Int32).toInt64.toUInt64 &&& Int64.toUInt64 63)).toInt64) 100) fun v20 =>
sa_bnd (sa_rdR 11 this 1) fun v21 =>
sa_bnd (f_X1_cell v21 0 x13 2) fun v22 =>
sa_jn1 (fun (x23 : Int32) =>
sa_let ((x13 + 1) : Int32) fun x24 =>
j41 x19 x23 x24) fun j101 =>
if 0 ≤ (lg_cmp v20 (v22.toInt64)) then
j101 x12
else
sa_let ((x12 ||| (1 <<< (x13 &&& 31))) : Int32) fun x25 =>
j101 x25) sa_F x4 x9 x10) sa_F a2 x3
else
j21)
set_option maxHeartbeats 1000000 in
set_option maxRecDepth 10000 in
theorem b_X11_war {p : Program} {l : Launch} {e : Env} {s : State} {m : MethodId} {args : Array Value} {below : List Frame} {meth : Method} {c : Code} {D : va_G} {ad : Nat → Nat} {cA : FieldType → ClassId} {A : Nat → Prop} (this : Nat) (a1 : Int32) (a2 : Int64) (C : sa_C p s m args meth c cX11_war RX11 "war" 9 (some .int) D ad cA A) : sa_Sg p l e s m args below meth c 9 8 D ad cA A sa_eI 0 [(0, .ref (ad this)), (1, .int a1), (2, .long a2)] [] (f_X11_war this a1 a2) := by
  unfold f_X11_war
  refine sa_gdI ?_
  refine sa_aload_n C d_X11_war_0 rfl 0 rfl ?_
  refine sa_getR C fd_X11_19 rfl d_X11_war_1 (fun v1 => ?_)
  refine sa_invV (ci := 1) C (k_X1_isEmpty v1) q829 ds_X1_isEmpty q116 rfl q827 q828 q826 (gd_X1_isEmpty v1) rfl rfl rfl (Nat.le_of_ble_eq_true rfl) (by decide) (by decide) d_X11_war_4 (fun v2 => ?_)
  refine sa_join0 21 ([]) ([]) (?_) (fun j21 hj21 => ?_)
  · refine sa_iconst (v := (-1)) C d_X11_war_21 (by decide) ?_
    exact sa_iret C d_X11_war_22
  refine sa_if_ne (tgt := 21) C d_X11_war_7 (by decide) ?_ ?_
  · exact sa_sub [] rfl (hj21)
  refine sa_iload_n C d_X11_war_10 rfl 1 rfl ?_
  refine sa_iconst (v := 1) C d_X11_war_11 (by decide) ?_
  refine sa_icmp_lt (tgt := 21) C d_X11_war_12 (by decide) ?_ ?_
  · exact sa_sub [] rfl (hj21)
  refine sa_iload_n C d_X11_war_15 rfl 1 rfl ?_
  refine sa_bipush (v := 48) C d_X11_war_16 (by decide) ?_
  refine sa_icmp_le (tgt := 23) C d_X11_war_18 (by decide) ?_ ?_
  · refine sa_lload_n C d_X11_war_23 rfl 2 rfl ?_
    refine sa_lstore (lv' := [(4, .long a2), (0, .ref (ad this)), (1, .int a1), (2, .long a2)]) C d_X11_war_24 (by decide) rfl ?_
    refine sa_iconst (v := 0) C d_X11_war_26 (by decide) ?_
    refine sa_topi (fun x3 => ?_)
    refine sa_istore (lv' := [(6, .int x3), (4, .long a2), (0, .ref (ad this)), (1, .int a1), (2, .long a2)]) C d_X11_war_27 (by decide) rfl ?_
    refine sa_sub [2, 3, 1, 0] rfl (sa_loop2 (fun x4 x5 => [(0, .ref (ad this)), (1, .int a1), (4, .long x4), (6, .int x5)]) (fun x4 x5 => []) (fun j29 hj29 x4 x5 => ?_) _ _ _)
    refine sa_iload C d_X11_war_29 3 rfl ?_
    refine sa_iload_n C d_X11_war_31 rfl 1 rfl ?_
    refine sa_icmp_ge (tgt := 122) C d_X11_war_32 (by decide) ?_ ?_
    · refine sa_aload_n C d_X11_war_122 rfl 0 rfl ?_
      refine sa_getR C fd_X11_43 rfl d_X11_war_123 (fun v6 => ?_)
      refine sa_getR C fd_X11_120 rfl d_X11_war_126 (fun v7 => ?_)
      refine sa_bipush (v := 21) C d_X11_war_129 (by decide) ?_
      refine sa_iald C d_X11_war_131 (fun v8 => ?_)
      exact sa_iret C d_X11_war_132
    refine sa_iconst (v := 0) C d_X11_war_35 (by decide) ?_
    refine sa_topi (fun x9 => ?_)
    refine sa_istore (lv' := [(7, .int x9), (0, .ref (ad this)), (1, .int a1), (4, .long x4), (6, .int x5)]) C d_X11_war_36 (by decide) rfl ?_
    refine sa_iconst (v := 0) C d_X11_war_38 (by decide) ?_
    refine sa_topi (fun x10 => ?_)
    refine sa_istore (lv' := [(8, .int x10), (7, .int x9), (0, .ref (ad this)), (1, .int a1), (4, .long x4), (6, .int x5)]) C d_X11_war_39 (by decide) rfl ?_
    refine sa_sub [2, 3, 4, 5, 1, 0] rfl (sa_loop3 (fun x11 x12 x13 => [(0, .ref (ad this)), (1, .int a1), (4, .long x11), (6, .int x5), (7, .int x12), (8, .int x13)]) (fun x11 x12 x13 => []) (fun j41 hj41 x11 x12 x13 => ?_) _ _ _ _)
    refine sa_iload C d_X11_war_41 5 rfl ?_
    refine sa_aload_n C d_X11_war_43 rfl 0 rfl ?_
    refine sa_getR C fd_X11_19 rfl d_X11_war_44 (fun v14 => ?_)
    refine sa_getR C fd_X11_128 rfl d_X11_war_47 (fun v15 => ?_)
    refine sa_iconst (v := 0) C d_X11_war_50 (by decide) ?_
    refine sa_iald C d_X11_war_51 (fun v16 => ?_)
    refine sa_icmp_ge (tgt := 107) C d_X11_war_52 (by decide) ?_ ?_
    · refine sa_aload_n C d_X11_war_107 rfl 0 rfl ?_
      refine sa_iconst (v := 4) C d_X11_war_108 (by decide) ?_
      refine sa_iload C d_X11_war_109 4 rfl ?_
      refine sa_iconst (v := 0) C d_X11_war_111 (by decide) ?_
      refine sa_invV (ci := 11) C (k_X11_act this 4 x12 0) q825 ds_X11_act q114 rfl q824 q18 q822 (gd_X11_act this 4 x12 0) rfl rfl rfl (Nat.le_of_ble_eq_true rfl) (by decide) (by decide) d_X11_war_112 (fun v17 => ?_)
      refine sa_pop C d_X11_war_115 rfl ?_
      refine sa_iinc C (fun zz => [(6, .int zz), (0, .ref (ad this)), (1, .int a1), (4, .long x11), (7, .int x12), (8, .int x13)]) d_X11_war_116 3 rfl rfl (by decide) (fun _ => rfl) (fun x18 => ?_)
      refine sa_goto (tgt := 29) C d_X11_war_119 (by decide) ?_
      exact sa_sub [1, 2, 3, 0] rfl (hj29 _ _)
    refine sa_lload C d_X11_war_55 2 rfl ?_
    refine sa_ldc2 (v := 6364136223846793005) C d_X11_war_57 q937 ?_
    refine sa_lmul C d_X11_war_60 ?_
    refine sa_ldc2 (v := 1442695040888963407) C d_X11_war_61 q938 ?_
    refine sa_ladd C d_X11_war_64 ?_
    refine sa_topl (fun x19 => ?_)
    refine sa_lstore (lv' := [(4, .long x19), (0, .ref (ad this)), (1, .int a1), (6, .int x5), (7, .int x12), (8, .int x13)]) C d_X11_war_65 (by decide) rfl ?_
    refine sa_lload C d_X11_war_67 0 rfl ?_
    refine sa_bipush (v := 33) C d_X11_war_69 (by decide) ?_
    refine sa_lushr C d_X11_war_71 ?_
    refine sa_ldc2 (v := 100) C d_X11_war_72 q939 ?_
    refine sa_lrem C d_X11_war_75 (fun v20 => ?_)
    refine sa_aload_n C d_X11_war_76 rfl 1 rfl ?_
    refine sa_getR C fd_X11_19 rfl d_X11_war_77 (fun v21 => ?_)
    refine sa_iconst (v := 0) C d_X11_war_80 (by decide) ?_
    refine sa_iload C d_X11_war_81 5 rfl ?_
    refine sa_iconst (v := 2) C d_X11_war_83 (by decide) ?_
    refine sa_invV (ci := 1) C (k_X1_cell v21 0 x13 2) q644 ds_X1_cell q116 rfl q642 q643 q773 (gd_X1_cell v21 0 x13 2) rfl rfl rfl (Nat.le_of_ble_eq_true rfl) (by decide) (by decide) d_X11_war_84 (fun v22 => ?_)
    refine sa_i2l C d_X11_war_87 ?_
    refine sa_lcmp C d_X11_war_88 ?_
    refine sa_join1 101 (fun x23 => [(0, .ref (ad this)), (1, .int a1), (4, .long x19), (6, .int x5), (7, .int x23), (8, .int x13)]) (fun x23 => []) (fun x23 => ?_) (fun j101 hj101 => ?_)
    · refine sa_iinc C (fun zz => [(8, .int zz), (0, .ref (ad this)), (1, .int a1), (4, .long x19), (6, .int x5), (7, .int x23)]) d_X11_war_101 5 rfl rfl (by decide) (fun _ => rfl) (fun x24 => ?_)
      refine sa_goto (tgt := 41) C d_X11_war_104 (by decide) ?_
      exact sa_sub [1, 2, 3, 4, 5, 0] rfl (hj41 _ _ _)
    refine sa_if_ge (tgt := 101) C d_X11_war_89 (by decide) ?_ ?_
    · exact sa_sub [1, 2, 0, 3, 4, 5] rfl (hj101 _)
    refine sa_iload C d_X11_war_92 4 rfl ?_
    refine sa_iconst (v := 1) C d_X11_war_94 (by decide) ?_
    refine sa_iload C d_X11_war_95 5 rfl ?_
    refine sa_ishl C d_X11_war_97 ?_
    refine sa_ior C d_X11_war_98 ?_
    refine sa_topi (fun x25 => ?_)
    refine sa_istore (lv' := [(7, .int x25), (4, .long x19), (0, .ref (ad this)), (1, .int a1), (6, .int x5), (8, .int x13)]) C d_X11_war_99 (by decide) rfl ?_
    exact sa_sub [2, 3, 1, 4, 0, 5] rfl (hj101 _)
  exact sa_sub [] rfl (hj21)
theorem k_X11_war (this : Nat) (a1 : Int32) (a2 : Int64) : sa_Met 8 yX11_war cX11_war 9 (some .int) (fun ad => [.ref (ad this), .int a1, .long a2]) sa_eI (f_X11_war this a1 a2) := sa_mk (by decide) (fun ad => Nat.le_of_ble_eq_true rfl) (fun p l e s m args below meth c D ad cA A C => b_X11_war this a1 a2 C)
theorem gd_X11_war (this : Nat) (a1 : Int32) (a2 : Int64) (σ : sa_St) (r : Int32) (τ : sa_St) (h : f_X11_war this a1 a2 σ = some (r, τ)) : sa_sh this = some (.inl 11) := sa_gd_ok h
theorem d_X11_undo_0 : decode cX11_undo 0 = .ok (.aload_n 0, 1) := by decide +kernel
theorem d_X11_undo_1 : decode cX11_undo 1 = .ok (.getfield 53, 3) := by decide +kernel
theorem d_X11_undo_4 : decode cX11_undo 4 = .ok (.aload_n 0, 1) := by decide +kernel
theorem d_X11_undo_5 : decode cX11_undo 5 = .ok (.getfield 43, 3) := by decide +kernel
theorem d_X11_undo_8 : decode cX11_undo 8 = .ok (.invokevirtual 167, 3) := by decide +kernel
theorem d_X11_undo_11 : decode cX11_undo 11 = .ok (.ireturn, 1) := by decide +kernel
def f_X11_undo (this : Nat) : sa_M Int32 :=
sa_gd 11 this (
sa_bnd (sa_rdR 11 this 8) fun v1 =>
sa_bnd (sa_rdR 11 this 6) fun v2 =>
sa_bnd (f_X5_takeBack v1 v2) fun v3 =>
sa_ret (v3 : Int32))
set_option maxHeartbeats 1000000 in
set_option maxRecDepth 10000 in
theorem b_X11_undo {p : Program} {l : Launch} {e : Env} {s : State} {m : MethodId} {args : Array Value} {below : List Frame} {meth : Method} {c : Code} {D : va_G} {ad : Nat → Nat} {cA : FieldType → ClassId} {A : Nat → Prop} (this : Nat) (C : sa_C p s m args meth c cX11_undo RX11 "undo" 1 (some .int) D ad cA A) : sa_Sg p l e s m args below meth c 1 3 D ad cA A sa_eI 0 [(0, .ref (ad this))] [] (f_X11_undo this) := by
  unfold f_X11_undo
  refine sa_gdI ?_
  refine sa_aload_n C d_X11_undo_0 rfl 0 rfl ?_
  refine sa_getR C fd_X11_53 rfl d_X11_undo_1 (fun v1 => ?_)
  refine sa_aload_n C d_X11_undo_4 rfl 0 rfl ?_
  refine sa_getR C fd_X11_43 rfl d_X11_undo_5 (fun v2 => ?_)
  refine sa_invV (ci := 5) C (k_X5_takeBack v1 v2) q947 ds_X5_takeBack q122 rfl q945 q946 q944 (gd_X5_takeBack v1 v2) rfl rfl rfl (Nat.le_of_ble_eq_true rfl) (by decide) (by decide) d_X11_undo_8 (fun v3 => ?_)
  exact sa_iret C d_X11_undo_11
theorem k_X11_undo (this : Nat) : sa_Met 3 yX11_undo cX11_undo 1 (some .int) (fun ad => [.ref (ad this)]) sa_eI (f_X11_undo this) := sa_mk (by decide) (fun ad => Nat.le_of_ble_eq_true rfl) (fun p l e s m args below meth c D ad cA A C => b_X11_undo this C)
theorem gd_X11_undo (this : Nat) (σ : sa_St) (r : Int32) (τ : sa_St) (h : f_X11_undo this σ = some (r, τ)) : sa_sh this = some (.inl 11) := sa_gd_ok h
theorem d_X11_log_0 : decode cX11_log 0 = .ok (.iload_n 1, 1) := by decide +kernel
theorem d_X11_log_1 : decode cX11_log 1 = .ok (.ifCond .lt 23, 3) := by decide +kernel
theorem d_X11_log_4 : decode cX11_log 4 = .ok (.iload_n 1, 1) := by decide +kernel
theorem d_X11_log_5 : decode cX11_log 5 = .ok (.aload_n 0, 1) := by decide +kernel
theorem d_X11_log_6 : decode cX11_log 6 = .ok (.getfield 43, 3) := by decide +kernel
theorem d_X11_log_9 : decode cX11_log 9 = .ok (.invokevirtual 171, 3) := by decide +kernel
theorem d_X11_log_12 : decode cX11_log 12 = .ok (.if_icmp .ge 12, 3) := by decide +kernel
theorem d_X11_log_15 : decode cX11_log 15 = .ok (.iload_n 2, 1) := by decide +kernel
theorem d_X11_log_16 : decode cX11_log 16 = .ok (.ifCond .lt 8, 3) := by decide +kernel
theorem d_X11_log_19 : decode cX11_log 19 = .ok (.iload_n 2, 1) := by decide +kernel
theorem d_X11_log_20 : decode cX11_log 20 = .ok (.iconst 2, 1) := by decide +kernel
theorem d_X11_log_21 : decode cX11_log 21 = .ok (.if_icmp .le 5, 3) := by decide +kernel
theorem d_X11_log_24 : decode cX11_log 24 = .ok (.iconst (-1), 1) := by decide +kernel
theorem d_X11_log_25 : decode cX11_log 25 = .ok (.ireturn, 1) := by decide +kernel
theorem d_X11_log_26 : decode cX11_log 26 = .ok (.aload_n 0, 1) := by decide +kernel
theorem d_X11_log_27 : decode cX11_log 27 = .ok (.getfield 43, 3) := by decide +kernel
theorem d_X11_log_30 : decode cX11_log 30 = .ok (.iload_n 1, 1) := by decide +kernel
theorem d_X11_log_31 : decode cX11_log 31 = .ok (.iload_n 2, 1) := by decide +kernel
theorem d_X11_log_32 : decode cX11_log 32 = .ok (.invokevirtual 174, 3) := by decide +kernel
theorem d_X11_log_35 : decode cX11_log 35 = .ok (.ireturn, 1) := by decide +kernel
def f_X11_log (this : Nat) (a1 : Int32) (a2 : Int32) : sa_M Int32 :=
sa_gd 11 this (
sa_jn0 (sa_ret ((-1) : Int32)) fun j24 =>
if a1 < 0 then
j24
else
sa_bnd (sa_rdR 11 this 6) fun v1 =>
sa_bnd (f_X0_logSize v1) fun v2 =>
if v2 ≤ a1 then
j24
else
if a2 < 0 then
j24
else
if a2 ≤ 2 then
sa_bnd (sa_rdR 11 this 6) fun v3 =>
sa_bnd (f_X0_logged v3 a1 a2) fun v4 =>
sa_ret (v4 : Int32)
else
j24)
set_option maxHeartbeats 1000000 in
set_option maxRecDepth 10000 in
theorem b_X11_log {p : Program} {l : Launch} {e : Env} {s : State} {m : MethodId} {args : Array Value} {below : List Frame} {meth : Method} {c : Code} {D : va_G} {ad : Nat → Nat} {cA : FieldType → ClassId} {A : Nat → Prop} (this : Nat) (a1 : Int32) (a2 : Int32) (C : sa_C p s m args meth c cX11_log RX11 "log" 3 (some .int) D ad cA A) : sa_Sg p l e s m args below meth c 3 2 D ad cA A sa_eI 0 [(0, .ref (ad this)), (1, .int a1), (2, .int a2)] [] (f_X11_log this a1 a2) := by
  unfold f_X11_log
  refine sa_gdI ?_
  refine sa_iload_n C d_X11_log_0 rfl 1 rfl ?_
  refine sa_join0 24 ([]) ([]) (?_) (fun j24 hj24 => ?_)
  · refine sa_iconst (v := (-1)) C d_X11_log_24 (by decide) ?_
    exact sa_iret C d_X11_log_25
  refine sa_if_lt (tgt := 24) C d_X11_log_1 (by decide) ?_ ?_
  · exact sa_sub [] rfl (hj24)
  refine sa_iload_n C d_X11_log_4 rfl 1 rfl ?_
  refine sa_aload_n C d_X11_log_5 rfl 0 rfl ?_
  refine sa_getR C fd_X11_43 rfl d_X11_log_6 (fun v1 => ?_)
  refine sa_invV (ci := 0) C (k_X0_logSize v1) q955 ds_X0_logSize q121 rfl q953 q954 q952 (gd_X0_logSize v1) rfl rfl rfl (Nat.le_of_ble_eq_true rfl) (by decide) (by decide) d_X11_log_9 (fun v2 => ?_)
  refine sa_icmp_ge (tgt := 24) C d_X11_log_12 (by decide) ?_ ?_
  · exact sa_sub [] rfl (hj24)
  refine sa_iload_n C d_X11_log_15 rfl 2 rfl ?_
  refine sa_if_lt (tgt := 24) C d_X11_log_16 (by decide) ?_ ?_
  · exact sa_sub [] rfl (hj24)
  refine sa_iload_n C d_X11_log_19 rfl 2 rfl ?_
  refine sa_iconst (v := 2) C d_X11_log_20 (by decide) ?_
  refine sa_icmp_le (tgt := 26) C d_X11_log_21 (by decide) ?_ ?_
  · refine sa_aload_n C d_X11_log_26 rfl 0 rfl ?_
    refine sa_getR C fd_X11_43 rfl d_X11_log_27 (fun v3 => ?_)
    refine sa_iload_n C d_X11_log_30 rfl 1 rfl ?_
    refine sa_iload_n C d_X11_log_31 rfl 2 rfl ?_
    refine sa_invV (ci := 0) C (k_X0_logged v3 a1 a2) q959 ds_X0_logged q121 rfl q957 q958 q956 (gd_X0_logged v3 a1 a2) rfl rfl rfl (Nat.le_of_ble_eq_true rfl) (by decide) (by decide) d_X11_log_32 (fun v4 => ?_)
    exact sa_iret C d_X11_log_35
  exact sa_sub [] rfl (hj24)
theorem k_X11_log (this : Nat) (a1 : Int32) (a2 : Int32) : sa_Met 2 yX11_log cX11_log 3 (some .int) (fun ad => [.ref (ad this), .int a1, .int a2]) sa_eI (f_X11_log this a1 a2) := sa_mk (by decide) (fun ad => Nat.le_of_ble_eq_true rfl) (fun p l e s m args below meth c D ad cA A C => b_X11_log this a1 a2 C)
theorem gd_X11_log (this : Nat) (a1 : Int32) (a2 : Int32) (σ : sa_St) (r : Int32) (τ : sa_St) (h : f_X11_log this a1 a2 σ = some (r, τ)) : sa_sh this = some (.inl 11) := sa_gd_ok h
theorem d_X11_hasOrders_0 : decode cX11_hasOrders 0 = .ok (.iload_n 1, 1) := by decide +kernel
theorem d_X11_hasOrders_1 : decode cX11_hasOrders 1 = .ok (.ifCond .lt 15, 3) := by decide +kernel
theorem d_X11_hasOrders_4 : decode cX11_hasOrders 4 = .ok (.iload_n 1, 1) := by decide +kernel
theorem d_X11_hasOrders_5 : decode cX11_hasOrders 5 = .ok (.aload_n 0, 1) := by decide +kernel
theorem d_X11_hasOrders_6 : decode cX11_hasOrders 6 = .ok (.getfield 114, 3) := by decide +kernel
theorem d_X11_hasOrders_9 : decode cX11_hasOrders 9 = .ok (.if_icmp .ge 7, 3) := by decide +kernel
theorem d_X11_hasOrders_12 : decode cX11_hasOrders 12 = .ok (.iconst 1, 1) := by decide +kernel
theorem d_X11_hasOrders_13 : decode cX11_hasOrders 13 = .ok (.goto 4, 3) := by decide +kernel
theorem d_X11_hasOrders_16 : decode cX11_hasOrders 16 = .ok (.iconst 0, 1) := by decide +kernel
theorem d_X11_hasOrders_17 : decode cX11_hasOrders 17 = .ok (.ireturn, 1) := by decide +kernel
def f_X11_hasOrders (this : Nat) (a1 : Int32) : sa_M Int32 :=
sa_gd 11 this (
sa_jn1 (fun (y1 : Int32) =>
sa_retZ y1) fun j17 =>
sa_jn0 (j17 0) fun j16 =>
if a1 < 0 then
j16
else
sa_bnd (sa_rdI 11 this 5) fun v2 =>
if v2 ≤ a1 then
j16
else
j17 1)
set_option maxHeartbeats 1000000 in
set_option maxRecDepth 10000 in
theorem b_X11_hasOrders {p : Program} {l : Launch} {e : Env} {s : State} {m : MethodId} {args : Array Value} {below : List Frame} {meth : Method} {c : Code} {D : va_G} {ad : Nat → Nat} {cA : FieldType → ClassId} {A : Nat → Prop} (this : Nat) (a1 : Int32) (C : sa_C p s m args meth c cX11_hasOrders RX11 "hasOrders" 2 (some .boolean) D ad cA A) : sa_Sg p l e s m args below meth c 2 1 D ad cA A sa_eI 0 [(0, .ref (ad this)), (1, .int a1)] [] (f_X11_hasOrders this a1) := by
  unfold f_X11_hasOrders
  refine sa_gdI ?_
  refine sa_iload_n C d_X11_hasOrders_0 rfl 1 rfl ?_
  refine sa_join1 17 (fun y1 => []) (fun y1 => [.int y1]) (fun y1 => ?_) (fun j17 hj17 => ?_)
  · exact sa_zret C d_X11_hasOrders_17
  refine sa_join0 16 ([]) ([]) (?_) (fun j16 hj16 => ?_)
  · refine sa_iconst (v := 0) C d_X11_hasOrders_16 (by decide) ?_
    exact sa_sub [] rfl (hj17 _)
  refine sa_if_lt (tgt := 16) C d_X11_hasOrders_1 (by decide) ?_ ?_
  · exact sa_sub [] rfl (hj16)
  refine sa_iload_n C d_X11_hasOrders_4 rfl 1 rfl ?_
  refine sa_aload_n C d_X11_hasOrders_5 rfl 0 rfl ?_
  refine sa_getI C fd_X11_114 d_X11_hasOrders_6 (fun v2 => ?_)
  refine sa_icmp_ge (tgt := 16) C d_X11_hasOrders_9 (by decide) ?_ ?_
  · exact sa_sub [] rfl (hj16)
  refine sa_iconst (v := 1) C d_X11_hasOrders_12 (by decide) ?_
  refine sa_goto (tgt := 17) C d_X11_hasOrders_13 (by decide) ?_
  exact sa_sub [] rfl (hj17 _)
theorem k_X11_hasOrders (this : Nat) (a1 : Int32) : sa_Met 1 yX11_hasOrders cX11_hasOrders 2 (some .boolean) (fun ad => [.ref (ad this), .int a1]) sa_eI (f_X11_hasOrders this a1) := sa_mk (by decide) (fun ad => Nat.le_of_ble_eq_true rfl) (fun p l e s m args below meth c D ad cA A C => b_X11_hasOrders this a1 C)
theorem gd_X11_hasOrders (this : Nat) (a1 : Int32) (σ : sa_St) (r : Int32) (τ : sa_St) (h : f_X11_hasOrders this a1 σ = some (r, τ)) : sa_sh this = some (.inl 11) := sa_gd_ok h
theorem d_X11_step_0 : decode cX11_step 0 = .ok (.aload_n 0, 1) := by decide +kernel
theorem d_X11_step_1 : decode cX11_step 1 = .ok (.iload_n 1, 1) := by decide +kernel
theorem d_X11_step_2 : decode cX11_step 2 = .ok (.invokevirtual 177, 3) := by decide +kernel
theorem d_X11_step_5 : decode cX11_step 5 = .ok (.ifCond .eq 29, 3) := by decide +kernel
theorem d_X11_step_8 : decode cX11_step 8 = .ok (.iload_n 2, 1) := by decide +kernel
theorem d_X11_step_9 : decode cX11_step 9 = .ok (.ifCond .lt 25, 3) := by decide +kernel
theorem d_X11_step_12 : decode cX11_step 12 = .ok (.iload_n 2, 1) := by decide +kernel
theorem d_X11_step_13 : decode cX11_step 13 = .ok (.aload_n 0, 1) := by decide +kernel
theorem d_X11_step_14 : decode cX11_step 14 = .ok (.getfield 35, 3) := by decide +kernel
theorem d_X11_step_17 : decode cX11_step 17 = .ok (.iload_n 1, 1) := by decide +kernel
theorem d_X11_step_18 : decode cX11_step 18 = .ok (.aaload, 1) := by decide +kernel
theorem d_X11_step_19 : decode cX11_step 19 = .ok (.getfield 180, 3) := by decide +kernel
theorem d_X11_step_22 : decode cX11_step 22 = .ok (.if_icmp .ge 12, 3) := by decide +kernel
theorem d_X11_step_25 : decode cX11_step 25 = .ok (.iload_n 3, 1) := by decide +kernel
theorem d_X11_step_26 : decode cX11_step 26 = .ok (.ifCond .lt 8, 3) := by decide +kernel
theorem d_X11_step_29 : decode cX11_step 29 = .ok (.iload_n 3, 1) := by decide +kernel
theorem d_X11_step_30 : decode cX11_step 30 = .ok (.iconst 2, 1) := by decide +kernel
theorem d_X11_step_31 : decode cX11_step 31 = .ok (.if_icmp .le 5, 3) := by decide +kernel
theorem d_X11_step_34 : decode cX11_step 34 = .ok (.iconst (-1), 1) := by decide +kernel
theorem d_X11_step_35 : decode cX11_step 35 = .ok (.ireturn, 1) := by decide +kernel
theorem d_X11_step_36 : decode cX11_step 36 = .ok (.aload_n 0, 1) := by decide +kernel
theorem d_X11_step_37 : decode cX11_step 37 = .ok (.getfield 35, 3) := by decide +kernel
theorem d_X11_step_40 : decode cX11_step 40 = .ok (.iload_n 1, 1) := by decide +kernel
theorem d_X11_step_41 : decode cX11_step 41 = .ok (.aaload, 1) := by decide +kernel
theorem d_X11_step_42 : decode cX11_step 42 = .ok (.iload_n 2, 1) := by decide +kernel
theorem d_X11_step_43 : decode cX11_step 43 = .ok (.iload_n 3, 1) := by decide +kernel
theorem d_X11_step_44 : decode cX11_step 44 = .ok (.invokevirtual 181, 3) := by decide +kernel
theorem d_X11_step_47 : decode cX11_step 47 = .ok (.ireturn, 1) := by decide +kernel
def f_X11_step (this : Nat) (a1 : Int32) (a2 : Int32) (a3 : Int32) : sa_M Int32 :=
sa_gd 11 this (
sa_bnd (f_X11_hasOrders this a1) fun v1 =>
sa_jn0 (sa_ret ((-1) : Int32)) fun j34 =>
if v1 = 0 then
j34
else
if a2 < 0 then
j34
else
sa_bnd (sa_rdR 11 this 4) fun v2 =>
sa_bnd (sa_ldR (.object "SaltArmy$Orders") v2 a1) fun v3 =>
sa_bnd (sa_rdI 4 v3 1) fun v4 =>
if v4 ≤ a2 then
j34
else
if a3 < 0 then
j34
else
if a3 ≤ 2 then
sa_bnd (sa_rdR 11 this 4) fun v5 =>
sa_bnd (sa_ldR (.object "SaltArmy$Orders") v5 a1) fun v6 =>
sa_bnd (f_X4_part v6 a2 a3) fun v7 =>
sa_ret (v7 : Int32)
else
j34)
set_option maxHeartbeats 1000000 in
set_option maxRecDepth 10000 in
theorem b_X11_step {p : Program} {l : Launch} {e : Env} {s : State} {m : MethodId} {args : Array Value} {below : List Frame} {meth : Method} {c : Code} {D : va_G} {ad : Nat → Nat} {cA : FieldType → ClassId} {A : Nat → Prop} (this : Nat) (a1 : Int32) (a2 : Int32) (a3 : Int32) (C : sa_C p s m args meth c cX11_step RX11 "step" 4 (some .int) D ad cA A) : sa_Sg p l e s m args below meth c 4 2 D ad cA A sa_eI 0 [(0, .ref (ad this)), (1, .int a1), (2, .int a2), (3, .int a3)] [] (f_X11_step this a1 a2 a3) := by
  unfold f_X11_step
  refine sa_gdI ?_
  refine sa_aload_n C d_X11_step_0 rfl 0 rfl ?_
  refine sa_iload_n C d_X11_step_1 rfl 1 rfl ?_
  refine sa_invV (ci := 11) C (k_X11_hasOrders this a1) q967 ds_X11_hasOrders q114 rfl q966 q27 q964 (gd_X11_hasOrders this a1) rfl rfl rfl (Nat.le_of_ble_eq_true rfl) (by decide) (by decide) d_X11_step_2 (fun v1 => ?_)
  refine sa_join0 34 ([]) ([]) (?_) (fun j34 hj34 => ?_)
  · refine sa_iconst (v := (-1)) C d_X11_step_34 (by decide) ?_
    exact sa_iret C d_X11_step_35
  refine sa_if_eq (tgt := 34) C d_X11_step_5 (by decide) ?_ ?_
  · exact sa_sub [] rfl (hj34)
  refine sa_iload_n C d_X11_step_8 rfl 2 rfl ?_
  refine sa_if_lt (tgt := 34) C d_X11_step_9 (by decide) ?_ ?_
  · exact sa_sub [] rfl (hj34)
  refine sa_iload_n C d_X11_step_12 rfl 2 rfl ?_
  refine sa_aload_n C d_X11_step_13 rfl 0 rfl ?_
  refine sa_getR C fd_X11_35 rfl d_X11_step_14 (fun v2 => ?_)
  refine sa_iload_n C d_X11_step_17 rfl 1 rfl ?_
  refine sa_aaldOrders C d_X11_step_18 (fun v3 => ?_)
  refine sa_getI C fd_X11_180 d_X11_step_19 (fun v4 => ?_)
  refine sa_icmp_ge (tgt := 34) C d_X11_step_22 (by decide) ?_ ?_
  · exact sa_sub [] rfl (hj34)
  refine sa_iload_n C d_X11_step_25 rfl 3 rfl ?_
  refine sa_if_lt (tgt := 34) C d_X11_step_26 (by decide) ?_ ?_
  · exact sa_sub [] rfl (hj34)
  refine sa_iload_n C d_X11_step_29 rfl 3 rfl ?_
  refine sa_iconst (v := 2) C d_X11_step_30 (by decide) ?_
  refine sa_icmp_le (tgt := 36) C d_X11_step_31 (by decide) ?_ ?_
  · refine sa_aload_n C d_X11_step_36 rfl 0 rfl ?_
    refine sa_getR C fd_X11_35 rfl d_X11_step_37 (fun v5 => ?_)
    refine sa_iload_n C d_X11_step_40 rfl 1 rfl ?_
    refine sa_aaldOrders C d_X11_step_41 (fun v6 => ?_)
    refine sa_iload_n C d_X11_step_42 rfl 2 rfl ?_
    refine sa_iload_n C d_X11_step_43 rfl 3 rfl ?_
    refine sa_invV (ci := 4) C (k_X4_part v6 a2 a3) q971 ds_X4_part q120 rfl q969 q970 q968 (gd_X4_part v6 a2 a3) rfl rfl rfl (Nat.le_of_ble_eq_true rfl) (by decide) (by decide) d_X11_step_44 (fun v7 => ?_)
    exact sa_iret C d_X11_step_47
  exact sa_sub [] rfl (hj34)
theorem k_X11_step (this : Nat) (a1 : Int32) (a2 : Int32) (a3 : Int32) : sa_Met 2 yX11_step cX11_step 4 (some .int) (fun ad => [.ref (ad this), .int a1, .int a2, .int a3]) sa_eI (f_X11_step this a1 a2 a3) := sa_mk (by decide) (fun ad => Nat.le_of_ble_eq_true rfl) (fun p l e s m args below meth c D ad cA A C => b_X11_step this a1 a2 a3 C)
theorem gd_X11_step (this : Nat) (a1 : Int32) (a2 : Int32) (a3 : Int32) (σ : sa_St) (r : Int32) (τ : sa_St) (h : f_X11_step this a1 a2 a3 σ = some (r, τ)) : sa_sh this = some (.inl 11) := sa_gd_ok h
theorem d_X11_run_0 : decode cX11_run 0 = .ok (.aload_n 0, 1) := by decide +kernel
theorem d_X11_run_1 : decode cX11_run 1 = .ok (.getfield 19, 3) := by decide +kernel
theorem d_X11_run_4 : decode cX11_run 4 = .ok (.invokevirtual 157, 3) := by decide +kernel
theorem d_X11_run_7 : decode cX11_run 7 = .ok (.ifCond .ne 20, 3) := by decide +kernel
theorem d_X11_run_10 : decode cX11_run 10 = .ok (.aload_n 0, 1) := by decide +kernel
theorem d_X11_run_11 : decode cX11_run 11 = .ok (.iload_n 1, 1) := by decide +kernel
theorem d_X11_run_12 : decode cX11_run 12 = .ok (.invokevirtual 177, 3) := by decide +kernel
theorem d_X11_run_15 : decode cX11_run 15 = .ok (.ifCond .eq 12, 3) := by decide +kernel
theorem d_X11_run_18 : decode cX11_run 18 = .ok (.iload_n 2, 1) := by decide +kernel
theorem d_X11_run_19 : decode cX11_run 19 = .ok (.ifCond .lt 8, 3) := by decide +kernel
theorem d_X11_run_22 : decode cX11_run 22 = .ok (.iload_n 2, 1) := by decide +kernel
theorem d_X11_run_23 : decode cX11_run 23 = .ok (.iconst 1, 1) := by decide +kernel
theorem d_X11_run_24 : decode cX11_run 24 = .ok (.if_icmp .le 6, 3) := by decide +kernel
theorem d_X11_run_27 : decode cX11_run 27 = .ok (.ldc 184, 2) := by decide +kernel
theorem d_X11_run_29 : decode cX11_run 29 = .ok (.ireturn, 1) := by decide +kernel
theorem d_X11_run_30 : decode cX11_run 30 = .ok (.aload_n 0, 1) := by decide +kernel
theorem d_X11_run_31 : decode cX11_run 31 = .ok (.getfield 35, 3) := by decide +kernel
theorem d_X11_run_34 : decode cX11_run 34 = .ok (.iload_n 1, 1) := by decide +kernel
theorem d_X11_run_35 : decode cX11_run 35 = .ok (.aaload, 1) := by decide +kernel
theorem d_X11_run_36 : decode cX11_run 36 = .ok (.astore_n 3, 1) := by decide +kernel
theorem d_X11_run_37 : decode cX11_run 37 = .ok (.aload_n 0, 1) := by decide +kernel
theorem d_X11_run_38 : decode cX11_run 38 = .ok (.getfield 47, 3) := by decide +kernel
theorem d_X11_run_41 : decode cX11_run 41 = .ok (.aload_n 0, 1) := by decide +kernel
theorem d_X11_run_42 : decode cX11_run 42 = .ok (.getfield 43, 3) := by decide +kernel
theorem d_X11_run_45 : decode cX11_run 45 = .ok (.invokevirtual 185, 3) := by decide +kernel
theorem d_X11_run_48 : decode cX11_run 48 = .ok (.iconst 0, 1) := by decide +kernel
theorem d_X11_run_49 : decode cX11_run 49 = .ok (.istore 4, 2) := by decide +kernel
theorem d_X11_run_51 : decode cX11_run 51 = .ok (.iload 4, 2) := by decide +kernel
theorem d_X11_run_53 : decode cX11_run 53 = .ok (.aload_n 3, 1) := by decide +kernel
theorem d_X11_run_54 : decode cX11_run 54 = .ok (.getfield 180, 3) := by decide +kernel
theorem d_X11_run_57 : decode cX11_run 57 = .ok (.if_icmp .ge 43, 3) := by decide +kernel
theorem d_X11_run_60 : decode cX11_run 60 = .ok (.aload_n 0, 1) := by decide +kernel
theorem d_X11_run_61 : decode cX11_run 61 = .ok (.aload_n 0, 1) := by decide +kernel
theorem d_X11_run_62 : decode cX11_run 62 = .ok (.getfield 47, 3) := by decide +kernel
theorem d_X11_run_65 : decode cX11_run 65 = .ok (.aload_n 3, 1) := by decide +kernel
theorem d_X11_run_66 : decode cX11_run 66 = .ok (.iload 4, 2) := by decide +kernel
theorem d_X11_run_68 : decode cX11_run 68 = .ok (.invokevirtual 189, 3) := by decide +kernel
theorem d_X11_run_71 : decode cX11_run 71 = .ok (.aload_n 3, 1) := by decide +kernel
theorem d_X11_run_72 : decode cX11_run 72 = .ok (.iload 4, 2) := by decide +kernel
theorem d_X11_run_74 : decode cX11_run 74 = .ok (.aload_n 0, 1) := by decide +kernel
theorem d_X11_run_75 : decode cX11_run 75 = .ok (.getfield 19, 3) := by decide +kernel
theorem d_X11_run_78 : decode cX11_run 78 = .ok (.invokevirtual 191, 3) := by decide +kernel
theorem d_X11_run_81 : decode cX11_run 81 = .ok (.aload_n 3, 1) := by decide +kernel
theorem d_X11_run_82 : decode cX11_run 82 = .ok (.iload 4, 2) := by decide +kernel
theorem d_X11_run_84 : decode cX11_run 84 = .ok (.invokevirtual 195, 3) := by decide +kernel
theorem d_X11_run_87 : decode cX11_run 87 = .ok (.invokevirtual 198, 3) := by decide +kernel
theorem d_X11_run_90 : decode cX11_run 90 = .ok (.iconst (-1), 1) := by decide +kernel
theorem d_X11_run_91 : decode cX11_run 91 = .ok (.if_icmp .eq 9, 3) := by decide +kernel
theorem d_X11_run_94 : decode cX11_run 94 = .ok (.iinc 4 1, 3) := by decide +kernel
theorem d_X11_run_97 : decode cX11_run 97 = .ok (.goto (-46), 3) := by decide +kernel
theorem d_X11_run_100 : decode cX11_run 100 = .ok (.iload_n 2, 1) := by decide +kernel
theorem d_X11_run_101 : decode cX11_run 101 = .ok (.iconst 1, 1) := by decide +kernel
theorem d_X11_run_102 : decode cX11_run 102 = .ok (.if_icmp .ne 11, 3) := by decide +kernel
theorem d_X11_run_105 : decode cX11_run 105 = .ok (.aload_n 0, 1) := by decide +kernel
theorem d_X11_run_106 : decode cX11_run 106 = .ok (.getfield 47, 3) := by decide +kernel
theorem d_X11_run_109 : decode cX11_run 109 = .ok (.invokevirtual 202, 3) := by decide +kernel
theorem d_X11_run_112 : decode cX11_run 112 = .ok (.ireturn, 1) := by decide +kernel
theorem d_X11_run_113 : decode cX11_run 113 = .ok (.iload 4, 2) := by decide +kernel
theorem d_X11_run_115 : decode cX11_run 115 = .ok (.aload_n 3, 1) := by decide +kernel
theorem d_X11_run_116 : decode cX11_run 116 = .ok (.getfield 180, 3) := by decide +kernel
theorem d_X11_run_119 : decode cX11_run 119 = .ok (.if_icmp .ge 8, 3) := by decide +kernel
theorem d_X11_run_122 : decode cX11_run 122 = .ok (.iload 4, 2) := by decide +kernel
theorem d_X11_run_124 : decode cX11_run 124 = .ok (.goto 4, 3) := by decide +kernel
theorem d_X11_run_127 : decode cX11_run 127 = .ok (.iconst (-1), 1) := by decide +kernel
theorem d_X11_run_128 : decode cX11_run 128 = .ok (.ireturn, 1) := by decide +kernel
def f_X11_run (this : Nat) (a1 : Int32) (a2 : Int32) : sa_M Int32 :=
sa_gd 11 this (
sa_bnd (sa_rdR 11 this 1) fun v1 =>
sa_bnd (f_X1_isEmpty v1) fun v2 =>
sa_jn0 (sa_ret ((-1000000) : Int32)) fun j27 =>
if ¬ v2 = 0 then
j27
else
sa_bnd (f_X11_hasOrders this a1) fun v3 =>
if v3 = 0 then
j27
else
if a2 < 0 then
j27
else
if a2 ≤ 1 then
sa_bnd (sa_rdR 11 this 4) fun v4 =>
sa_bnd (sa_ldR (.object "SaltArmy$Orders") v4 a1) fun v5 =>
sa_bnd (sa_rdR 11 this 7) fun v6 =>
sa_bnd (sa_rdR 11 this 6) fun v7 =>
sa_bnd (f_X0_copyFrom v6 v7) fun _ =>
sa_let (0 : Int32) fun x8 =>
sa_wh1 (fun j51 (x9 : Int32) =>
sa_bnd (sa_rdI 4 v5 1) fun v10 =>
sa_jn0 (if ¬ a2 = 1 then
sa_bnd (sa_rdI 4 v5 1) fun v11 =>
sa_jn1 (fun (y12 : Int32) =>
sa_ret (y12 : Int32)) fun j128 =>
if v11 ≤ x9 then
j128 (-1)
else
j128 x9
else
sa_bnd (sa_rdR 11 this 7) fun v13 =>
sa_bnd (f_X0_livingGrains v13) fun v14 =>
sa_ret (v14 : Int32)) fun j100 =>
if v10 ≤ x9 then
j100
else
sa_bnd (sa_rdR 11 this 7) fun v15 =>
sa_bnd (f_X4_act v5 x9) fun v16 =>
sa_bnd (sa_rdR 11 this 1) fun v17 =>
sa_bnd (f_X4_first v5 x9 v17) fun v18 =>
sa_bnd (f_X4_second v5 x9) fun v19 =>
sa_bnd (f_X11_obey this v15 v16 v18 v19) fun v20 =>
if v20 = (-1) then
j100
else
sa_let ((x9 + 1) : Int32) fun x21 =>
j51 x21) sa_F x8
else
j27)
set_option maxHeartbeats 1000000 in
set_option maxRecDepth 10000 in
theorem b_X11_run {p : Program} {l : Launch} {e : Env} {s : State} {m : MethodId} {args : Array Value} {below : List Frame} {meth : Method} {c : Code} {D : va_G} {ad : Nat → Nat} {cA : FieldType → ClassId} {A : Nat → Prop} (this : Nat) (a1 : Int32) (a2 : Int32) (C : sa_C p s m args meth c cX11_run RX11 "run" 5 (some .int) D ad cA A) : sa_Sg p l e s m args below meth c 5 7 D ad cA A sa_eI 0 [(0, .ref (ad this)), (1, .int a1), (2, .int a2)] [] (f_X11_run this a1 a2) := by
  unfold f_X11_run
  refine sa_gdI ?_
  refine sa_aload_n C d_X11_run_0 rfl 0 rfl ?_
  refine sa_getR C fd_X11_19 rfl d_X11_run_1 (fun v1 => ?_)
  refine sa_invV (ci := 1) C (k_X1_isEmpty v1) q829 ds_X1_isEmpty q116 rfl q827 q828 q826 (gd_X1_isEmpty v1) rfl rfl rfl (Nat.le_of_ble_eq_true rfl) (by decide) (by decide) d_X11_run_4 (fun v2 => ?_)
  refine sa_join0 27 ([]) ([]) (?_) (fun j27 hj27 => ?_)
  · refine sa_ldc (v := (-1000000)) C d_X11_run_27 q976 ?_
    exact sa_iret C d_X11_run_29
  refine sa_if_ne (tgt := 27) C d_X11_run_7 (by decide) ?_ ?_
  · exact sa_sub [] rfl (hj27)
  refine sa_aload_n C d_X11_run_10 rfl 0 rfl ?_
  refine sa_iload_n C d_X11_run_11 rfl 1 rfl ?_
  refine sa_invV (ci := 11) C (k_X11_hasOrders this a1) q967 ds_X11_hasOrders q114 rfl q966 q27 q964 (gd_X11_hasOrders this a1) rfl rfl rfl (Nat.le_of_ble_eq_true rfl) (by decide) (by decide) d_X11_run_12 (fun v3 => ?_)
  refine sa_if_eq (tgt := 27) C d_X11_run_15 (by decide) ?_ ?_
  · exact sa_sub [] rfl (hj27)
  refine sa_iload_n C d_X11_run_18 rfl 2 rfl ?_
  refine sa_if_lt (tgt := 27) C d_X11_run_19 (by decide) ?_ ?_
  · exact sa_sub [] rfl (hj27)
  refine sa_iload_n C d_X11_run_22 rfl 2 rfl ?_
  refine sa_iconst (v := 1) C d_X11_run_23 (by decide) ?_
  refine sa_icmp_le (tgt := 30) C d_X11_run_24 (by decide) ?_ ?_
  · refine sa_aload_n C d_X11_run_30 rfl 0 rfl ?_
    refine sa_getR C fd_X11_35 rfl d_X11_run_31 (fun v4 => ?_)
    refine sa_iload_n C d_X11_run_34 rfl 1 rfl ?_
    refine sa_aaldOrders C d_X11_run_35 (fun v5 => ?_)
    refine sa_astore_n (lv' := [(3, .ref (ad v5)), (0, .ref (ad this)), (1, .int a1), (2, .int a2)]) C d_X11_run_36 rfl (by decide) rfl ?_
    refine sa_aload_n C d_X11_run_37 rfl 1 rfl ?_
    refine sa_getR C fd_X11_47 rfl d_X11_run_38 (fun v6 => ?_)
    refine sa_aload_n C d_X11_run_41 rfl 1 rfl ?_
    refine sa_getR C fd_X11_43 rfl d_X11_run_42 (fun v7 => ?_)
    refine sa_invV (ci := 0) C (k_X0_copyFrom v6 v7) q837 ds_X0_copyFrom q121 rfl q835 q836 q977 (gd_X0_copyFrom v6 v7) rfl rfl rfl (Nat.le_of_ble_eq_true rfl) (by decide) (by decide) d_X11_run_45 (fun _ => ?_)
    refine sa_iconst (v := 0) C d_X11_run_48 (by decide) ?_
    refine sa_topi (fun x8 => ?_)
    refine sa_istore (lv' := [(4, .int x8), (3, .ref (ad v5)), (0, .ref (ad this)), (1, .int a1), (2, .int a2)]) C d_X11_run_49 (by decide) rfl ?_
    refine sa_sub [2, 4, 1, 0] rfl (sa_loop1 (fun x9 => [(0, .ref (ad this)), (2, .int a2), (3, .ref (ad v5)), (4, .int x9)]) (fun x9 => []) (fun j51 hj51 x9 => ?_) _ _)
    refine sa_iload C d_X11_run_51 3 rfl ?_
    refine sa_aload_n C d_X11_run_53 rfl 2 rfl ?_
    refine sa_getI C fd_X11_180 d_X11_run_54 (fun v10 => ?_)
    refine sa_join0 100 ([(0, .ref (ad this)), (2, .int a2), (3, .ref (ad v5)), (4, .int x9)]) ([]) (?_) (fun j100 hj100 => ?_)
    · refine sa_iload_n C d_X11_run_100 rfl 1 rfl ?_
      refine sa_iconst (v := 1) C d_X11_run_101 (by decide) ?_
      refine sa_icmp_ne (tgt := 113) C d_X11_run_102 (by decide) ?_ ?_
      · refine sa_iload C d_X11_run_113 3 rfl ?_
        refine sa_aload_n C d_X11_run_115 rfl 2 rfl ?_
        refine sa_getI C fd_X11_180 d_X11_run_116 (fun v11 => ?_)
        refine sa_join1 128 (fun y12 => []) (fun y12 => [.int y12]) (fun y12 => ?_) (fun j128 hj128 => ?_)
        · exact sa_iret C d_X11_run_128
        refine sa_icmp_ge (tgt := 127) C d_X11_run_119 (by decide) ?_ ?_
        · refine sa_iconst (v := (-1)) C d_X11_run_127 (by decide) ?_
          exact sa_sub [] rfl (hj128 _)
        refine sa_iload C d_X11_run_122 3 rfl ?_
        refine sa_goto (tgt := 128) C d_X11_run_124 (by decide) ?_
        exact sa_sub [] rfl (hj128 _)
      refine sa_aload_n C d_X11_run_105 rfl 0 rfl ?_
      refine sa_getR C fd_X11_47 rfl d_X11_run_106 (fun v13 => ?_)
      refine sa_invV (ci := 0) C (k_X0_livingGrains v13) q998 ds_X0_livingGrains q121 rfl q996 q997 q995 (gd_X0_livingGrains v13) rfl rfl rfl (Nat.le_of_ble_eq_true rfl) (by decide) (by decide) d_X11_run_109 (fun v14 => ?_)
      exact sa_iret C d_X11_run_112
    refine sa_icmp_ge (tgt := 100) C d_X11_run_57 (by decide) ?_ ?_
    · exact sa_sub [0, 1, 2, 3] rfl (hj100)
    refine sa_aload_n C d_X11_run_60 rfl 0 rfl ?_
    refine sa_aload_n C d_X11_run_61 rfl 0 rfl ?_
    refine sa_getR C fd_X11_47 rfl d_X11_run_62 (fun v15 => ?_)
    refine sa_aload_n C d_X11_run_65 rfl 2 rfl ?_
    refine sa_iload C d_X11_run_66 3 rfl ?_
    refine sa_invV (ci := 4) C (k_X4_act v5 x9) q981 ds_X4_act q120 rfl q979 q980 q978 (gd_X4_act v5 x9) rfl rfl rfl (Nat.le_of_ble_eq_true rfl) (by decide) (by decide) d_X11_run_68 (fun v16 => ?_)
    refine sa_aload_n C d_X11_run_71 rfl 2 rfl ?_
    refine sa_iload C d_X11_run_72 3 rfl ?_
    refine sa_aload_n C d_X11_run_74 rfl 0 rfl ?_
    refine sa_getR C fd_X11_19 rfl d_X11_run_75 (fun v17 => ?_)
    refine sa_invV (ci := 4) C (k_X4_first v5 x9 v17) q987 ds_X4_first q120 rfl q985 q986 q984 (gd_X4_first v5 x9 v17) rfl rfl rfl (Nat.le_of_ble_eq_true rfl) (by decide) (by decide) d_X11_run_78 (fun v18 => ?_)
    refine sa_aload_n C d_X11_run_81 rfl 2 rfl ?_
    refine sa_iload C d_X11_run_82 3 rfl ?_
    refine sa_invV (ci := 4) C (k_X4_second v5 x9) q993 ds_X4_second q120 rfl q991 q992 q990 (gd_X4_second v5 x9) rfl rfl rfl (Nat.le_of_ble_eq_true rfl) (by decide) (by decide) d_X11_run_84 (fun v19 => ?_)
    refine sa_invV (ci := 11) C (k_X11_obey this v15 v16 v18 v19) q842 ds_X11_obey q114 rfl q841 q19 q839 (gd_X11_obey this v15 v16 v18 v19) rfl rfl rfl (Nat.le_of_ble_eq_true rfl) (by decide) (by decide) d_X11_run_87 (fun v20 => ?_)
    refine sa_iconst (v := (-1)) C d_X11_run_90 (by decide) ?_
    refine sa_icmp_eq (tgt := 100) C d_X11_run_91 (by decide) ?_ ?_
    · exact sa_sub [0, 1, 2, 3] rfl (hj100)
    refine sa_iinc C (fun zz => [(4, .int zz), (0, .ref (ad this)), (2, .int a2), (3, .ref (ad v5))]) d_X11_run_94 3 rfl rfl (by decide) (fun _ => rfl) (fun x21 => ?_)
    refine sa_goto (tgt := 51) C d_X11_run_97 (by decide) ?_
    exact sa_sub [1, 2, 3, 0] rfl (hj51 _)
  exact sa_sub [] rfl (hj27)
theorem k_X11_run (this : Nat) (a1 : Int32) (a2 : Int32) : sa_Met 7 yX11_run cX11_run 5 (some .int) (fun ad => [.ref (ad this), .int a1, .int a2]) sa_eI (f_X11_run this a1 a2) := sa_mk (by decide) (fun ad => Nat.le_of_ble_eq_true rfl) (fun p l e s m args below meth c D ad cA A C => b_X11_run this a1 a2 C)
theorem gd_X11_run (this : Nat) (a1 : Int32) (a2 : Int32) (σ : sa_St) (r : Int32) (τ : sa_St) (h : f_X11_run this a1 a2 σ = some (r, τ)) : sa_sh this = some (.inl 11) := sa_gd_ok h
theorem d_X11_perform_0 : decode cX11_perform 0 = .ok (.aload_n 0, 1) := by decide +kernel
theorem d_X11_perform_1 : decode cX11_perform 1 = .ok (.getfield 19, 3) := by decide +kernel
theorem d_X11_perform_4 : decode cX11_perform 4 = .ok (.invokevirtual 157, 3) := by decide +kernel
theorem d_X11_perform_7 : decode cX11_perform 7 = .ok (.ifCond .ne 11, 3) := by decide +kernel
theorem d_X11_perform_10 : decode cX11_perform 10 = .ok (.aload_n 0, 1) := by decide +kernel
theorem d_X11_perform_11 : decode cX11_perform 11 = .ok (.iload_n 1, 1) := by decide +kernel
theorem d_X11_perform_12 : decode cX11_perform 12 = .ok (.invokevirtual 177, 3) := by decide +kernel
theorem d_X11_perform_15 : decode cX11_perform 15 = .ok (.ifCond .ne 5, 3) := by decide +kernel
theorem d_X11_perform_18 : decode cX11_perform 18 = .ok (.iconst (-1), 1) := by decide +kernel
theorem d_X11_perform_19 : decode cX11_perform 19 = .ok (.ireturn, 1) := by decide +kernel
theorem d_X11_perform_20 : decode cX11_perform 20 = .ok (.aload_n 0, 1) := by decide +kernel
theorem d_X11_perform_21 : decode cX11_perform 21 = .ok (.getfield 35, 3) := by decide +kernel
theorem d_X11_perform_24 : decode cX11_perform 24 = .ok (.iload_n 1, 1) := by decide +kernel
theorem d_X11_perform_25 : decode cX11_perform 25 = .ok (.aaload, 1) := by decide +kernel
theorem d_X11_perform_26 : decode cX11_perform 26 = .ok (.astore_n 2, 1) := by decide +kernel
theorem d_X11_perform_27 : decode cX11_perform 27 = .ok (.iconst 0, 1) := by decide +kernel
theorem d_X11_perform_28 : decode cX11_perform 28 = .ok (.istore_n 3, 1) := by decide +kernel
theorem d_X11_perform_29 : decode cX11_perform 29 = .ok (.iload_n 3, 1) := by decide +kernel
theorem d_X11_perform_30 : decode cX11_perform 30 = .ok (.aload_n 2, 1) := by decide +kernel
theorem d_X11_perform_31 : decode cX11_perform 31 = .ok (.getfield 180, 3) := by decide +kernel
theorem d_X11_perform_34 : decode cX11_perform 34 = .ok (.if_icmp .ge 36, 3) := by decide +kernel
theorem d_X11_perform_37 : decode cX11_perform 37 = .ok (.aload_n 0, 1) := by decide +kernel
theorem d_X11_perform_38 : decode cX11_perform 38 = .ok (.aload_n 2, 1) := by decide +kernel
theorem d_X11_perform_39 : decode cX11_perform 39 = .ok (.iload_n 3, 1) := by decide +kernel
theorem d_X11_perform_40 : decode cX11_perform 40 = .ok (.invokevirtual 189, 3) := by decide +kernel
theorem d_X11_perform_43 : decode cX11_perform 43 = .ok (.aload_n 2, 1) := by decide +kernel
theorem d_X11_perform_44 : decode cX11_perform 44 = .ok (.iload_n 3, 1) := by decide +kernel
theorem d_X11_perform_45 : decode cX11_perform 45 = .ok (.aload_n 0, 1) := by decide +kernel
theorem d_X11_perform_46 : decode cX11_perform 46 = .ok (.getfield 19, 3) := by decide +kernel
theorem d_X11_perform_49 : decode cX11_perform 49 = .ok (.invokevirtual 191, 3) := by decide +kernel
theorem d_X11_perform_52 : decode cX11_perform 52 = .ok (.aload_n 2, 1) := by decide +kernel
theorem d_X11_perform_53 : decode cX11_perform 53 = .ok (.iload_n 3, 1) := by decide +kernel
theorem d_X11_perform_54 : decode cX11_perform 54 = .ok (.invokevirtual 195, 3) := by decide +kernel
theorem d_X11_perform_57 : decode cX11_perform 57 = .ok (.invokevirtual 151, 3) := by decide +kernel
theorem d_X11_perform_60 : decode cX11_perform 60 = .ok (.iconst (-1), 1) := by decide +kernel
theorem d_X11_perform_61 : decode cX11_perform 61 = .ok (.if_icmp .eq 9, 3) := by decide +kernel
theorem d_X11_perform_64 : decode cX11_perform 64 = .ok (.iinc 3 1, 3) := by decide +kernel
theorem d_X11_perform_67 : decode cX11_perform 67 = .ok (.goto (-38), 3) := by decide +kernel
theorem d_X11_perform_70 : decode cX11_perform 70 = .ok (.iload_n 3, 1) := by decide +kernel
theorem d_X11_perform_71 : decode cX11_perform 71 = .ok (.ireturn, 1) := by decide +kernel
def f_X11_perform (this : Nat) (a1 : Int32) : sa_M Int32 :=
sa_gd 11 this (
sa_bnd (sa_rdR 11 this 1) fun v1 =>
sa_bnd (f_X1_isEmpty v1) fun v2 =>
sa_jn0 (sa_ret ((-1) : Int32)) fun j18 =>
if ¬ v2 = 0 then
j18
else
sa_bnd (f_X11_hasOrders this a1) fun v3 =>
if ¬ v3 = 0 then
sa_bnd (sa_rdR 11 this 4) fun v4 =>
sa_bnd (sa_ldR (.object "SaltArmy$Orders") v4 a1) fun v5 =>
sa_let (0 : Int32) fun x6 =>
sa_wh1 (fun j29 (x7 : Int32) =>
sa_bnd (sa_rdI 4 v5 1) fun v8 =>
sa_jn0 (sa_ret (x7 : Int32)) fun j70 =>
if v8 ≤ x7 then
j70
else
sa_bnd (f_X4_act v5 x7) fun v9 =>
sa_bnd (sa_rdR 11 this 1) fun v10 =>
sa_bnd (f_X4_first v5 x7 v10) fun v11 =>
sa_bnd (f_X4_second v5 x7) fun v12 =>
sa_bnd (f_X11_act this v9 v11 v12) fun v13 =>
if v13 = (-1) then
j70
else
sa_let ((x7 + 1) : Int32) fun x14 =>
j29 x14) sa_F x6
else
j18)
set_option maxHeartbeats 1000000 in
set_option maxRecDepth 10000 in
theorem b_X11_perform {p : Program} {l : Launch} {e : Env} {s : State} {m : MethodId} {args : Array Value} {below : List Frame} {meth : Method} {c : Code} {D : va_G} {ad : Nat → Nat} {cA : FieldType → ClassId} {A : Nat → Prop} (this : Nat) (a1 : Int32) (C : sa_C p s m args meth c cX11_perform RX11 "perform" 4 (some .int) D ad cA A) : sa_Sg p l e s m args below meth c 4 8 D ad cA A sa_eI 0 [(0, .ref (ad this)), (1, .int a1)] [] (f_X11_perform this a1) := by
  unfold f_X11_perform
  refine sa_gdI ?_
  refine sa_aload_n C d_X11_perform_0 rfl 0 rfl ?_
  refine sa_getR C fd_X11_19 rfl d_X11_perform_1 (fun v1 => ?_)
  refine sa_invV (ci := 1) C (k_X1_isEmpty v1) q829 ds_X1_isEmpty q116 rfl q827 q828 q826 (gd_X1_isEmpty v1) rfl rfl rfl (Nat.le_of_ble_eq_true rfl) (by decide) (by decide) d_X11_perform_4 (fun v2 => ?_)
  refine sa_join0 18 ([]) ([]) (?_) (fun j18 hj18 => ?_)
  · refine sa_iconst (v := (-1)) C d_X11_perform_18 (by decide) ?_
    exact sa_iret C d_X11_perform_19
  refine sa_if_ne (tgt := 18) C d_X11_perform_7 (by decide) ?_ ?_
  · exact sa_sub [] rfl (hj18)
  refine sa_aload_n C d_X11_perform_10 rfl 0 rfl ?_
  refine sa_iload_n C d_X11_perform_11 rfl 1 rfl ?_
  refine sa_invV (ci := 11) C (k_X11_hasOrders this a1) q967 ds_X11_hasOrders q114 rfl q966 q27 q964 (gd_X11_hasOrders this a1) rfl rfl rfl (Nat.le_of_ble_eq_true rfl) (by decide) (by decide) d_X11_perform_12 (fun v3 => ?_)
  refine sa_if_ne (tgt := 20) C d_X11_perform_15 (by decide) ?_ ?_
  · refine sa_aload_n C d_X11_perform_20 rfl 0 rfl ?_
    refine sa_getR C fd_X11_35 rfl d_X11_perform_21 (fun v4 => ?_)
    refine sa_iload_n C d_X11_perform_24 rfl 1 rfl ?_
    refine sa_aaldOrders C d_X11_perform_25 (fun v5 => ?_)
    refine sa_astore_n (lv' := [(2, .ref (ad v5)), (0, .ref (ad this)), (1, .int a1)]) C d_X11_perform_26 rfl (by decide) rfl ?_
    refine sa_iconst (v := 0) C d_X11_perform_27 (by decide) ?_
    refine sa_topi (fun x6 => ?_)
    refine sa_istore_n (lv' := [(3, .int x6), (2, .ref (ad v5)), (0, .ref (ad this)), (1, .int a1)]) C d_X11_perform_28 rfl (by decide) rfl ?_
    refine sa_sub [2, 1, 0] rfl (sa_loop1 (fun x7 => [(0, .ref (ad this)), (2, .ref (ad v5)), (3, .int x7)]) (fun x7 => []) (fun j29 hj29 x7 => ?_) _ _)
    refine sa_iload_n C d_X11_perform_29 rfl 2 rfl ?_
    refine sa_aload_n C d_X11_perform_30 rfl 1 rfl ?_
    refine sa_getI C fd_X11_180 d_X11_perform_31 (fun v8 => ?_)
    refine sa_join0 70 ([(3, .int x7)]) ([]) (?_) (fun j70 hj70 => ?_)
    · refine sa_iload_n C d_X11_perform_70 rfl 0 rfl ?_
      exact sa_iret C d_X11_perform_71
    refine sa_icmp_ge (tgt := 70) C d_X11_perform_34 (by decide) ?_ ?_
    · exact sa_sub [2] rfl (hj70)
    refine sa_aload_n C d_X11_perform_37 rfl 0 rfl ?_
    refine sa_aload_n C d_X11_perform_38 rfl 1 rfl ?_
    refine sa_iload_n C d_X11_perform_39 rfl 2 rfl ?_
    refine sa_invV (ci := 4) C (k_X4_act v5 x7) q981 ds_X4_act q120 rfl q979 q980 q978 (gd_X4_act v5 x7) rfl rfl rfl (Nat.le_of_ble_eq_true rfl) (by decide) (by decide) d_X11_perform_40 (fun v9 => ?_)
    refine sa_aload_n C d_X11_perform_43 rfl 1 rfl ?_
    refine sa_iload_n C d_X11_perform_44 rfl 2 rfl ?_
    refine sa_aload_n C d_X11_perform_45 rfl 0 rfl ?_
    refine sa_getR C fd_X11_19 rfl d_X11_perform_46 (fun v10 => ?_)
    refine sa_invV (ci := 4) C (k_X4_first v5 x7 v10) q987 ds_X4_first q120 rfl q985 q986 q984 (gd_X4_first v5 x7 v10) rfl rfl rfl (Nat.le_of_ble_eq_true rfl) (by decide) (by decide) d_X11_perform_49 (fun v11 => ?_)
    refine sa_aload_n C d_X11_perform_52 rfl 1 rfl ?_
    refine sa_iload_n C d_X11_perform_53 rfl 2 rfl ?_
    refine sa_invV (ci := 4) C (k_X4_second v5 x7) q993 ds_X4_second q120 rfl q991 q992 q990 (gd_X4_second v5 x7) rfl rfl rfl (Nat.le_of_ble_eq_true rfl) (by decide) (by decide) d_X11_perform_54 (fun v12 => ?_)
    refine sa_invV (ci := 11) C (k_X11_act this v9 v11 v12) q825 ds_X11_act q114 rfl q824 q18 q822 (gd_X11_act this v9 v11 v12) rfl rfl rfl (Nat.le_of_ble_eq_true rfl) (by decide) (by decide) d_X11_perform_57 (fun v13 => ?_)
    refine sa_iconst (v := (-1)) C d_X11_perform_60 (by decide) ?_
    refine sa_icmp_eq (tgt := 70) C d_X11_perform_61 (by decide) ?_ ?_
    · exact sa_sub [2] rfl (hj70)
    refine sa_iinc C (fun zz => [(3, .int zz), (0, .ref (ad this)), (2, .ref (ad v5))]) d_X11_perform_64 2 rfl rfl (by decide) (fun _ => rfl) (fun x14 => ?_)
    refine sa_goto (tgt := 29) C d_X11_perform_67 (by decide) ?_
    exact sa_sub [1, 2, 0] rfl (hj29 _)
  exact sa_sub [] rfl (hj18)
theorem k_X11_perform (this : Nat) (a1 : Int32) : sa_Met 8 yX11_perform cX11_perform 4 (some .int) (fun ad => [.ref (ad this), .int a1]) sa_eI (f_X11_perform this a1) := sa_mk (by decide) (fun ad => Nat.le_of_ble_eq_true rfl) (fun p l e s m args below meth c D ad cA A C => b_X11_perform this a1 C)
theorem gd_X11_perform (this : Nat) (a1 : Int32) (σ : sa_St) (r : Int32) (τ : sa_St) (h : f_X11_perform this a1 σ = some (r, τ)) : sa_sh this = some (.inl 11) := sa_gd_ok h
theorem d_X11_sky_0 : decode cX11_sky 0 = .ok (.aload_n 0, 1) := by decide +kernel
theorem d_X11_sky_1 : decode cX11_sky 1 = .ok (.getfield 19, 3) := by decide +kernel
theorem d_X11_sky_4 : decode cX11_sky 4 = .ok (.iload_n 1, 1) := by decide +kernel
theorem d_X11_sky_5 : decode cX11_sky 5 = .ok (.invokevirtual 117, 3) := by decide +kernel
theorem d_X11_sky_8 : decode cX11_sky 8 = .ok (.ifCond .ne 5, 3) := by decide +kernel
theorem d_X11_sky_11 : decode cX11_sky 11 = .ok (.iconst (-1), 1) := by decide +kernel
theorem d_X11_sky_12 : decode cX11_sky 12 = .ok (.ireturn, 1) := by decide +kernel
theorem d_X11_sky_13 : decode cX11_sky 13 = .ok (.aload_n 0, 1) := by decide +kernel
theorem d_X11_sky_14 : decode cX11_sky 14 = .ok (.getfield 60, 3) := by decide +kernel
theorem d_X11_sky_17 : decode cX11_sky 17 = .ok (.iload_n 1, 1) := by decide +kernel
theorem d_X11_sky_18 : decode cX11_sky 18 = .ok (.iload_n 2, 1) := by decide +kernel
theorem d_X11_sky_19 : decode cX11_sky 19 = .ok (.iload_n 3, 1) := by decide +kernel
theorem d_X11_sky_20 : decode cX11_sky 20 = .ok (.invokevirtual 205, 3) := by decide +kernel
theorem d_X11_sky_23 : decode cX11_sky 23 = .ok (.ireturn, 1) := by decide +kernel
def f_X11_sky (this : Nat) (a1 : Int32) (a2 : Int32) (a3 : Int32) : sa_M Int32 :=
sa_gd 11 this (
sa_bnd (sa_rdR 11 this 1) fun v1 =>
sa_bnd (f_X1_hasPlace v1 a1) fun v2 =>
if ¬ v2 = 0 then
sa_bnd (sa_rdR 11 this 9) fun v3 =>
sa_bnd (f_X6_tell v3 a1 a2 a3) fun v4 =>
sa_ret (v4 : Int32)
else
sa_ret ((-1) : Int32))
set_option maxHeartbeats 1000000 in
set_option maxRecDepth 10000 in
theorem b_X11_sky {p : Program} {l : Launch} {e : Env} {s : State} {m : MethodId} {args : Array Value} {below : List Frame} {meth : Method} {c : Code} {D : va_G} {ad : Nat → Nat} {cA : FieldType → ClassId} {A : Nat → Prop} (this : Nat) (a1 : Int32) (a2 : Int32) (a3 : Int32) (C : sa_C p s m args meth c cX11_sky RX11 "sky" 4 (some .int) D ad cA A) : sa_Sg p l e s m args below meth c 4 2 D ad cA A sa_eI 0 [(0, .ref (ad this)), (1, .int a1), (2, .int a2), (3, .int a3)] [] (f_X11_sky this a1 a2 a3) := by
  unfold f_X11_sky
  refine sa_gdI ?_
  refine sa_aload_n C d_X11_sky_0 rfl 0 rfl ?_
  refine sa_getR C fd_X11_19 rfl d_X11_sky_1 (fun v1 => ?_)
  refine sa_iload_n C d_X11_sky_4 rfl 1 rfl ?_
  refine sa_invV (ci := 1) C (k_X1_hasPlace v1 a1) q648 ds_X1_hasPlace q116 rfl q646 q647 q772 (gd_X1_hasPlace v1 a1) rfl rfl rfl (Nat.le_of_ble_eq_true rfl) (by decide) (by decide) d_X11_sky_5 (fun v2 => ?_)
  refine sa_if_ne (tgt := 13) C d_X11_sky_8 (by decide) ?_ ?_
  · refine sa_aload_n C d_X11_sky_13 rfl 0 rfl ?_
    refine sa_getR C fd_X11_60 rfl d_X11_sky_14 (fun v3 => ?_)
    refine sa_iload_n C d_X11_sky_17 rfl 1 rfl ?_
    refine sa_iload_n C d_X11_sky_18 rfl 2 rfl ?_
    refine sa_iload_n C d_X11_sky_19 rfl 3 rfl ?_
    refine sa_invV (ci := 6) C (k_X6_tell v3 a1 a2 a3) q1010 ds_X6_tell q123 rfl q1008 q1009 q1007 (gd_X6_tell v3 a1 a2 a3) rfl rfl rfl (Nat.le_of_ble_eq_true rfl) (by decide) (by decide) d_X11_sky_20 (fun v4 => ?_)
    exact sa_iret C d_X11_sky_23
  refine sa_iconst (v := (-1)) C d_X11_sky_11 (by decide) ?_
  exact sa_iret C d_X11_sky_12
theorem k_X11_sky (this : Nat) (a1 : Int32) (a2 : Int32) (a3 : Int32) : sa_Met 2 yX11_sky cX11_sky 4 (some .int) (fun ad => [.ref (ad this), .int a1, .int a2, .int a3]) sa_eI (f_X11_sky this a1 a2 a3) := sa_mk (by decide) (fun ad => Nat.le_of_ble_eq_true rfl) (fun p l e s m args below meth c D ad cA A C => b_X11_sky this a1 a2 a3 C)
theorem gd_X11_sky (this : Nat) (a1 : Int32) (a2 : Int32) (a3 : Int32) (σ : sa_St) (r : Int32) (τ : sa_St) (h : f_X11_sky this a1 a2 a3 σ = some (r, τ)) : sa_sh this = some (.inl 11) := sa_gd_ok h
theorem d_X11_findsJourney_0 : decode cX11_findsJourney 0 = .ok (.aload_n 0, 1) := by decide +kernel
theorem d_X11_findsJourney_1 : decode cX11_findsJourney 1 = .ok (.getfield 69, 3) := by decide +kernel
theorem d_X11_findsJourney_4 : decode cX11_findsJourney 4 = .ok (.aload_n 0, 1) := by decide +kernel
theorem d_X11_findsJourney_5 : decode cX11_findsJourney 5 = .ok (.getfield 19, 3) := by decide +kernel
theorem d_X11_findsJourney_8 : decode cX11_findsJourney 8 = .ok (.aload_n 0, 1) := by decide +kernel
theorem d_X11_findsJourney_9 : decode cX11_findsJourney 9 = .ok (.getfield 43, 3) := by decide +kernel
theorem d_X11_findsJourney_12 : decode cX11_findsJourney 12 = .ok (.iload_n 1, 1) := by decide +kernel
theorem d_X11_findsJourney_13 : decode cX11_findsJourney 13 = .ok (.iload_n 2, 1) := by decide +kernel
theorem d_X11_findsJourney_14 : decode cX11_findsJourney 14 = .ok (.invokevirtual 228, 3) := by decide +kernel
theorem d_X11_findsJourney_17 : decode cX11_findsJourney 17 = .ok (.ifCond .eq 17, 3) := by decide +kernel
theorem d_X11_findsJourney_20 : decode cX11_findsJourney 20 = .ok (.aload_n 0, 1) := by decide +kernel
theorem d_X11_findsJourney_21 : decode cX11_findsJourney 21 = .ok (.getfield 69, 3) := by decide +kernel
theorem d_X11_findsJourney_24 : decode cX11_findsJourney 24 = .ok (.getfield 232, 3) := by decide +kernel
theorem d_X11_findsJourney_27 : decode cX11_findsJourney 27 = .ok (.ifCond .le 7, 3) := by decide +kernel
theorem d_X11_findsJourney_30 : decode cX11_findsJourney 30 = .ok (.iconst 1, 1) := by decide +kernel
theorem d_X11_findsJourney_31 : decode cX11_findsJourney 31 = .ok (.goto 4, 3) := by decide +kernel
theorem d_X11_findsJourney_34 : decode cX11_findsJourney 34 = .ok (.iconst 0, 1) := by decide +kernel
theorem d_X11_findsJourney_35 : decode cX11_findsJourney 35 = .ok (.ireturn, 1) := by decide +kernel
def f_X11_findsJourney (this : Nat) (a1 : Int32) (a2 : Int32) : sa_M Int32 :=
sa_gd 11 this (
sa_bnd (sa_rdR 11 this 10) fun v1 =>
sa_bnd (sa_rdR 11 this 1) fun v2 =>
sa_bnd (sa_rdR 11 this 6) fun v3 =>
sa_bnd (f_X9_find v1 v2 v3 a1 a2) fun v4 =>
sa_jn1 (fun (y5 : Int32) =>
sa_retZ y5) fun j35 =>
sa_jn0 (j35 0) fun j34 =>
if v4 = 0 then
j34
else
sa_bnd (sa_rdR 11 this 10) fun v6 =>
sa_bnd (sa_rdI 9 v6 3) fun v7 =>
if v7 ≤ 0 then
j34
else
j35 1)
set_option maxHeartbeats 1000000 in
set_option maxRecDepth 10000 in
theorem b_X11_findsJourney {p : Program} {l : Launch} {e : Env} {s : State} {m : MethodId} {args : Array Value} {below : List Frame} {meth : Method} {c : Code} {D : va_G} {ad : Nat → Nat} {cA : FieldType → ClassId} {A : Nat → Prop} (this : Nat) (a1 : Int32) (a2 : Int32) (C : sa_C p s m args meth c cX11_findsJourney RX11 "findsJourney" 3 (some .boolean) D ad cA A) : sa_Sg p l e s m args below meth c 3 64 D ad cA A sa_eI 0 [(0, .ref (ad this)), (1, .int a1), (2, .int a2)] [] (f_X11_findsJourney this a1 a2) := by
  unfold f_X11_findsJourney
  refine sa_gdI ?_
  refine sa_aload_n C d_X11_findsJourney_0 rfl 0 rfl ?_
  refine sa_getR C fd_X11_69 rfl d_X11_findsJourney_1 (fun v1 => ?_)
  refine sa_aload_n C d_X11_findsJourney_4 rfl 0 rfl ?_
  refine sa_getR C fd_X11_19 rfl d_X11_findsJourney_5 (fun v2 => ?_)
  refine sa_aload_n C d_X11_findsJourney_8 rfl 0 rfl ?_
  refine sa_getR C fd_X11_43 rfl d_X11_findsJourney_9 (fun v3 => ?_)
  refine sa_iload_n C d_X11_findsJourney_12 rfl 1 rfl ?_
  refine sa_iload_n C d_X11_findsJourney_13 rfl 2 rfl ?_
  refine sa_invV (ci := 9) C (k_X9_find v1 v2 v3 a1 a2) q1022 ds_X9_find q125 rfl q1020 q1021 q1019 (gd_X9_find v1 v2 v3 a1 a2) rfl rfl rfl (Nat.le_of_ble_eq_true rfl) (by decide) (by decide) d_X11_findsJourney_14 (fun v4 => ?_)
  refine sa_join1 35 (fun y5 => []) (fun y5 => [.int y5]) (fun y5 => ?_) (fun j35 hj35 => ?_)
  · exact sa_zret C d_X11_findsJourney_35
  refine sa_join0 34 ([]) ([]) (?_) (fun j34 hj34 => ?_)
  · refine sa_iconst (v := 0) C d_X11_findsJourney_34 (by decide) ?_
    exact sa_sub [] rfl (hj35 _)
  refine sa_if_eq (tgt := 34) C d_X11_findsJourney_17 (by decide) ?_ ?_
  · exact sa_sub [] rfl (hj34)
  refine sa_aload_n C d_X11_findsJourney_20 rfl 0 rfl ?_
  refine sa_getR C fd_X11_69 rfl d_X11_findsJourney_21 (fun v6 => ?_)
  refine sa_getI C fd_X11_232 d_X11_findsJourney_24 (fun v7 => ?_)
  refine sa_if_le (tgt := 34) C d_X11_findsJourney_27 (by decide) ?_ ?_
  · exact sa_sub [] rfl (hj34)
  refine sa_iconst (v := 1) C d_X11_findsJourney_30 (by decide) ?_
  refine sa_goto (tgt := 35) C d_X11_findsJourney_31 (by decide) ?_
  exact sa_sub [] rfl (hj35 _)
theorem k_X11_findsJourney (this : Nat) (a1 : Int32) (a2 : Int32) : sa_Met 64 yX11_findsJourney cX11_findsJourney 3 (some .boolean) (fun ad => [.ref (ad this), .int a1, .int a2]) sa_eI (f_X11_findsJourney this a1 a2) := sa_mk (by decide) (fun ad => Nat.le_of_ble_eq_true rfl) (fun p l e s m args below meth c D ad cA A C => b_X11_findsJourney this a1 a2 C)
theorem gd_X11_findsJourney (this : Nat) (a1 : Int32) (a2 : Int32) (σ : sa_St) (r : Int32) (τ : sa_St) (h : f_X11_findsJourney this a1 a2 σ = some (r, τ)) : sa_sh this = some (.inl 11) := sa_gd_ok h
theorem d_X11_best_0 : decode cX11_best 0 = .ok (.iload_n 3, 1) := by decide +kernel
theorem d_X11_best_1 : decode cX11_best 1 = .ok (.ifCond .lt 22, 3) := by decide +kernel
theorem d_X11_best_4 : decode cX11_best 4 = .ok (.iload_n 3, 1) := by decide +kernel
theorem d_X11_best_5 : decode cX11_best 5 = .ok (.iconst 2, 1) := by decide +kernel
theorem d_X11_best_6 : decode cX11_best 6 = .ok (.if_icmp .gt 17, 3) := by decide +kernel
theorem d_X11_best_9 : decode cX11_best 9 = .ok (.iload 4, 2) := by decide +kernel
theorem d_X11_best_11 : decode cX11_best 11 = .ok (.ifCond .lt 12, 3) := by decide +kernel
theorem d_X11_best_14 : decode cX11_best 14 = .ok (.aload_n 0, 1) := by decide +kernel
theorem d_X11_best_15 : decode cX11_best 15 = .ok (.iload_n 1, 1) := by decide +kernel
theorem d_X11_best_16 : decode cX11_best 16 = .ok (.iload_n 2, 1) := by decide +kernel
theorem d_X11_best_17 : decode cX11_best 17 = .ok (.invokevirtual 209, 3) := by decide +kernel
theorem d_X11_best_20 : decode cX11_best 20 = .ok (.ifCond .ne 6, 3) := by decide +kernel
theorem d_X11_best_23 : decode cX11_best 23 = .ok (.ldc 184, 2) := by decide +kernel
theorem d_X11_best_25 : decode cX11_best 25 = .ok (.ireturn, 1) := by decide +kernel
theorem d_X11_best_26 : decode cX11_best 26 = .ok (.aload_n 0, 1) := by decide +kernel
theorem d_X11_best_27 : decode cX11_best 27 = .ok (.getfield 69, 3) := by decide +kernel
theorem d_X11_best_30 : decode cX11_best 30 = .ok (.iload_n 3, 1) := by decide +kernel
theorem d_X11_best_31 : decode cX11_best 31 = .ok (.invokevirtual 213, 3) := by decide +kernel
theorem d_X11_best_34 : decode cX11_best 34 = .ok (.istore 5, 2) := by decide +kernel
theorem d_X11_best_36 : decode cX11_best 36 = .ok (.iload 4, 2) := by decide +kernel
theorem d_X11_best_38 : decode cX11_best 38 = .ok (.tableswitch 56 0 2 #[26, 36, 46], 26) := by decide +kernel
theorem d_X11_best_64 : decode cX11_best 64 = .ok (.aload_n 0, 1) := by decide +kernel
theorem d_X11_best_65 : decode cX11_best 65 = .ok (.getfield 69, 3) := by decide +kernel
theorem d_X11_best_68 : decode cX11_best 68 = .ok (.iload 5, 2) := by decide +kernel
theorem d_X11_best_70 : decode cX11_best 70 = .ok (.invokevirtual 216, 3) := by decide +kernel
theorem d_X11_best_73 : decode cX11_best 73 = .ok (.ireturn, 1) := by decide +kernel
theorem d_X11_best_74 : decode cX11_best 74 = .ok (.aload_n 0, 1) := by decide +kernel
theorem d_X11_best_75 : decode cX11_best 75 = .ok (.getfield 69, 3) := by decide +kernel
theorem d_X11_best_78 : decode cX11_best 78 = .ok (.iload 5, 2) := by decide +kernel
theorem d_X11_best_80 : decode cX11_best 80 = .ok (.invokevirtual 219, 3) := by decide +kernel
theorem d_X11_best_83 : decode cX11_best 83 = .ok (.ireturn, 1) := by decide +kernel
theorem d_X11_best_84 : decode cX11_best 84 = .ok (.aload_n 0, 1) := by decide +kernel
theorem d_X11_best_85 : decode cX11_best 85 = .ok (.getfield 69, 3) := by decide +kernel
theorem d_X11_best_88 : decode cX11_best 88 = .ok (.iload 5, 2) := by decide +kernel
theorem d_X11_best_90 : decode cX11_best 90 = .ok (.invokevirtual 222, 3) := by decide +kernel
theorem d_X11_best_93 : decode cX11_best 93 = .ok (.ireturn, 1) := by decide +kernel
theorem d_X11_best_94 : decode cX11_best 94 = .ok (.aload_n 0, 1) := by decide +kernel
theorem d_X11_best_95 : decode cX11_best 95 = .ok (.getfield 69, 3) := by decide +kernel
theorem d_X11_best_98 : decode cX11_best 98 = .ok (.iload 5, 2) := by decide +kernel
theorem d_X11_best_100 : decode cX11_best 100 = .ok (.iload 4, 2) := by decide +kernel
theorem d_X11_best_102 : decode cX11_best 102 = .ok (.iconst 3, 1) := by decide +kernel
theorem d_X11_best_103 : decode cX11_best 103 = .ok (.isub, 1) := by decide +kernel
theorem d_X11_best_104 : decode cX11_best 104 = .ok (.invokevirtual 225, 3) := by decide +kernel
theorem d_X11_best_107 : decode cX11_best 107 = .ok (.ireturn, 1) := by decide +kernel
def f_X11_best (this : Nat) (a1 : Int32) (a2 : Int32) (a3 : Int32) (a4 : Int32) : sa_M Int32 :=
sa_gd 11 this (
sa_jn0 (sa_ret ((-1000000) : Int32)) fun j23 =>
if a3 < 0 then
j23
else
if 2 < a3 then
j23
else
if a4 < 0 then
j23
else
sa_bnd (f_X11_findsJourney this a1 a2) fun v1 =>
if ¬ v1 = 0 then
sa_bnd (sa_rdR 11 this 10) fun v2 =>
sa_bnd (f_X9_bestRow v2 a3) fun v3 =>
if a4 = 0 then
sa_bnd (sa_rdR 11 this 10) fun v4 =>
sa_bnd (f_X9_meanOf v4 v3) fun v5 =>
sa_ret (v5 : Int32)
else
if a4 = 1 then
sa_bnd (sa_rdR 11 this 10) fun v6 =>
sa_bnd (f_X9_sureOf v6 v3) fun v7 =>
sa_ret (v7 : Int32)
else
if a4 = 2 then
sa_bnd (sa_rdR 11 this 10) fun v8 =>
sa_bnd (f_X9_hoursOf v8 v3) fun v9 =>
sa_ret (v9 : Int32)
else
sa_bnd (sa_rdR 11 this 10) fun v10 =>
sa_bnd (f_X9_placeOrHidden v10 v3 (a4 - 3)) fun v11 =>
sa_ret (v11 : Int32)
else
j23)
set_option maxHeartbeats 1000000 in
set_option maxRecDepth 10000 in
theorem b_X11_best {p : Program} {l : Launch} {e : Env} {s : State} {m : MethodId} {args : Array Value} {below : List Frame} {meth : Method} {c : Code} {D : va_G} {ad : Nat → Nat} {cA : FieldType → ClassId} {A : Nat → Prop} (this : Nat) (a1 : Int32) (a2 : Int32) (a3 : Int32) (a4 : Int32) (C : sa_C p s m args meth c cX11_best RX11 "best" 6 (some .int) D ad cA A) : sa_Sg p l e s m args below meth c 6 65 D ad cA A sa_eI 0 [(0, .ref (ad this)), (1, .int a1), (2, .int a2), (3, .int a3), (4, .int a4)] [] (f_X11_best this a1 a2 a3 a4) := by
  unfold f_X11_best
  refine sa_gdI ?_
  refine sa_iload_n C d_X11_best_0 rfl 3 rfl ?_
  refine sa_join0 23 ([]) ([]) (?_) (fun j23 hj23 => ?_)
  · refine sa_ldc (v := (-1000000)) C d_X11_best_23 q976 ?_
    exact sa_iret C d_X11_best_25
  refine sa_if_lt (tgt := 23) C d_X11_best_1 (by decide) ?_ ?_
  · exact sa_sub [] rfl (hj23)
  refine sa_iload_n C d_X11_best_4 rfl 3 rfl ?_
  refine sa_iconst (v := 2) C d_X11_best_5 (by decide) ?_
  refine sa_icmp_gt (tgt := 23) C d_X11_best_6 (by decide) ?_ ?_
  · exact sa_sub [] rfl (hj23)
  refine sa_iload C d_X11_best_9 4 rfl ?_
  refine sa_if_lt (tgt := 23) C d_X11_best_11 (by decide) ?_ ?_
  · exact sa_sub [] rfl (hj23)
  refine sa_aload_n C d_X11_best_14 rfl 0 rfl ?_
  refine sa_iload_n C d_X11_best_15 rfl 1 rfl ?_
  refine sa_iload_n C d_X11_best_16 rfl 2 rfl ?_
  refine sa_invV (ci := 11) C (k_X11_findsJourney this a1 a2) q1018 ds_X11_findsJourney q114 rfl q1017 q28 q1015 (gd_X11_findsJourney this a1 a2) rfl rfl rfl (Nat.le_of_ble_eq_true rfl) (by decide) (by decide) d_X11_best_17 (fun v1 => ?_)
  refine sa_if_ne (tgt := 26) C d_X11_best_20 (by decide) ?_ ?_
  · refine sa_aload_n C d_X11_best_26 rfl 0 rfl ?_
    refine sa_getR C fd_X11_69 rfl d_X11_best_27 (fun v2 => ?_)
    refine sa_iload_n C d_X11_best_30 rfl 3 rfl ?_
    refine sa_invV (ci := 9) C (k_X9_bestRow v2 a3) q1047 ds_X9_bestRow q125 rfl q1045 q1046 q1044 (gd_X9_bestRow v2 a3) rfl rfl rfl (Nat.le_of_ble_eq_true rfl) (by decide) (by decide) d_X11_best_31 (fun v3 => ?_)
    refine sa_istore (lv' := [(5, .int v3), (0, .ref (ad this)), (1, .int a1), (2, .int a2), (3, .int a3), (4, .int a4)]) C d_X11_best_34 (by decide) rfl ?_
    refine sa_iload C d_X11_best_36 5 rfl ?_
    refine sa_byc (fun c0 => ?_) (fun c0 => ?_)
    · refine sa_tabIn (tgt := 64) C d_X11_best_38 (by rw [c0]; decide) (by rw [c0]; decide) (by rw [c0]; rfl) (by decide) ?_
      refine sa_aload_n C d_X11_best_64 rfl 1 rfl ?_
      refine sa_getR C fd_X11_69 rfl d_X11_best_65 (fun v4 => ?_)
      refine sa_iload C d_X11_best_68 0 rfl ?_
      refine sa_invV (ci := 9) C (k_X9_meanOf v4 v3) q1096 ds_X9_meanOf q125 rfl q1094 q1095 q1109 (gd_X9_meanOf v4 v3) rfl rfl rfl (Nat.le_of_ble_eq_true rfl) (by decide) (by decide) d_X11_best_70 (fun v5 => ?_)
      exact sa_iret C d_X11_best_73
    refine sa_byc (fun c1 => ?_) (fun c1 => ?_)
    · refine sa_tabIn (tgt := 74) C d_X11_best_38 (by rw [c1]; decide) (by rw [c1]; decide) (by rw [c1]; rfl) (by decide) ?_
      refine sa_aload_n C d_X11_best_74 rfl 1 rfl ?_
      refine sa_getR C fd_X11_69 rfl d_X11_best_75 (fun v6 => ?_)
      refine sa_iload C d_X11_best_78 0 rfl ?_
      refine sa_invV (ci := 9) C (k_X9_sureOf v6 v3) q1064 ds_X9_sureOf q125 rfl q1062 q1063 q1110 (gd_X9_sureOf v6 v3) rfl rfl rfl (Nat.le_of_ble_eq_true rfl) (by decide) (by decide) d_X11_best_80 (fun v7 => ?_)
      exact sa_iret C d_X11_best_83
    refine sa_byc (fun c2 => ?_) (fun c2 => ?_)
    · refine sa_tabIn (tgt := 84) C d_X11_best_38 (by rw [c2]; decide) (by rw [c2]; decide) (by rw [c2]; rfl) (by decide) ?_
      refine sa_aload_n C d_X11_best_84 rfl 1 rfl ?_
      refine sa_getR C fd_X11_69 rfl d_X11_best_85 (fun v8 => ?_)
      refine sa_iload C d_X11_best_88 0 rfl ?_
      refine sa_invV (ci := 9) C (k_X9_hoursOf v8 v3) q1051 ds_X9_hoursOf q125 rfl q1049 q1050 q1111 (gd_X9_hoursOf v8 v3) rfl rfl rfl (Nat.le_of_ble_eq_true rfl) (by decide) (by decide) d_X11_best_90 (fun v9 => ?_)
      exact sa_iret C d_X11_best_93
    refine sa_tabOut (tgt := 94) C d_X11_best_38 (sa_out3 c0 c1 c2) (by decide) ?_
    refine sa_aload_n C d_X11_best_94 rfl 1 rfl ?_
    refine sa_getR C fd_X11_69 rfl d_X11_best_95 (fun v10 => ?_)
    refine sa_iload C d_X11_best_98 0 rfl ?_
    refine sa_iload C d_X11_best_100 5 rfl ?_
    refine sa_iconst (v := 3) C d_X11_best_102 (by decide) ?_
    refine sa_isub C d_X11_best_103 ?_
    refine sa_invV (ci := 9) C (k_X9_placeOrHidden v10 v3 (a4 - 3)) q1115 ds_X9_placeOrHidden q125 rfl q1113 q1114 q1112 (gd_X9_placeOrHidden v10 v3 (a4 - 3)) rfl rfl rfl (Nat.le_of_ble_eq_true rfl) (by decide) (by decide) d_X11_best_104 (fun v11 => ?_)
    exact sa_iret C d_X11_best_107
  exact sa_sub [] rfl (hj23)
theorem k_X11_best (this : Nat) (a1 : Int32) (a2 : Int32) (a3 : Int32) (a4 : Int32) : sa_Met 65 yX11_best cX11_best 6 (some .int) (fun ad => [.ref (ad this), .int a1, .int a2, .int a3, .int a4]) sa_eI (f_X11_best this a1 a2 a3 a4) := sa_mk (by decide) (fun ad => Nat.le_of_ble_eq_true rfl) (fun p l e s m args below meth c D ad cA A C => b_X11_best this a1 a2 a3 a4 C)
theorem gd_X11_best (this : Nat) (a1 : Int32) (a2 : Int32) (a3 : Int32) (a4 : Int32) (σ : sa_St) (r : Int32) (τ : sa_St) (h : f_X11_best this a1 a2 a3 a4 σ = some (r, τ)) : sa_sh this = some (.inl 11) := sa_gd_ok h
theorem d_X11_journeys_0 : decode cX11_journeys 0 = .ok (.aload_n 0, 1) := by decide +kernel
theorem d_X11_journeys_1 : decode cX11_journeys 1 = .ok (.getfield 69, 3) := by decide +kernel
theorem d_X11_journeys_4 : decode cX11_journeys 4 = .ok (.aload_n 0, 1) := by decide +kernel
theorem d_X11_journeys_5 : decode cX11_journeys 5 = .ok (.getfield 19, 3) := by decide +kernel
theorem d_X11_journeys_8 : decode cX11_journeys 8 = .ok (.aload_n 0, 1) := by decide +kernel
theorem d_X11_journeys_9 : decode cX11_journeys 9 = .ok (.getfield 43, 3) := by decide +kernel
theorem d_X11_journeys_12 : decode cX11_journeys 12 = .ok (.iload_n 1, 1) := by decide +kernel
theorem d_X11_journeys_13 : decode cX11_journeys 13 = .ok (.iload_n 2, 1) := by decide +kernel
theorem d_X11_journeys_14 : decode cX11_journeys 14 = .ok (.invokevirtual 228, 3) := by decide +kernel
theorem d_X11_journeys_17 : decode cX11_journeys 17 = .ok (.ifCond .eq 13, 3) := by decide +kernel
theorem d_X11_journeys_20 : decode cX11_journeys 20 = .ok (.aload_n 0, 1) := by decide +kernel
theorem d_X11_journeys_21 : decode cX11_journeys 21 = .ok (.getfield 69, 3) := by decide +kernel
theorem d_X11_journeys_24 : decode cX11_journeys 24 = .ok (.getfield 232, 3) := by decide +kernel
theorem d_X11_journeys_27 : decode cX11_journeys 27 = .ok (.goto 4, 3) := by decide +kernel
theorem d_X11_journeys_30 : decode cX11_journeys 30 = .ok (.iconst (-1), 1) := by decide +kernel
theorem d_X11_journeys_31 : decode cX11_journeys 31 = .ok (.ireturn, 1) := by decide +kernel
def f_X11_journeys (this : Nat) (a1 : Int32) (a2 : Int32) : sa_M Int32 :=
sa_gd 11 this (
sa_bnd (sa_rdR 11 this 10) fun v1 =>
sa_bnd (sa_rdR 11 this 1) fun v2 =>
sa_bnd (sa_rdR 11 this 6) fun v3 =>
sa_bnd (f_X9_find v1 v2 v3 a1 a2) fun v4 =>
sa_jn1 (fun (y5 : Int32) =>
sa_ret (y5 : Int32)) fun j31 =>
if v4 = 0 then
j31 (-1)
else
sa_bnd (sa_rdR 11 this 10) fun v6 =>
sa_bnd (sa_rdI 9 v6 3) fun v7 =>
j31 v7)
set_option maxHeartbeats 1000000 in
set_option maxRecDepth 10000 in
theorem b_X11_journeys {p : Program} {l : Launch} {e : Env} {s : State} {m : MethodId} {args : Array Value} {below : List Frame} {meth : Method} {c : Code} {D : va_G} {ad : Nat → Nat} {cA : FieldType → ClassId} {A : Nat → Prop} (this : Nat) (a1 : Int32) (a2 : Int32) (C : sa_C p s m args meth c cX11_journeys RX11 "journeys" 3 (some .int) D ad cA A) : sa_Sg p l e s m args below meth c 3 64 D ad cA A sa_eI 0 [(0, .ref (ad this)), (1, .int a1), (2, .int a2)] [] (f_X11_journeys this a1 a2) := by
  unfold f_X11_journeys
  refine sa_gdI ?_
  refine sa_aload_n C d_X11_journeys_0 rfl 0 rfl ?_
  refine sa_getR C fd_X11_69 rfl d_X11_journeys_1 (fun v1 => ?_)
  refine sa_aload_n C d_X11_journeys_4 rfl 0 rfl ?_
  refine sa_getR C fd_X11_19 rfl d_X11_journeys_5 (fun v2 => ?_)
  refine sa_aload_n C d_X11_journeys_8 rfl 0 rfl ?_
  refine sa_getR C fd_X11_43 rfl d_X11_journeys_9 (fun v3 => ?_)
  refine sa_iload_n C d_X11_journeys_12 rfl 1 rfl ?_
  refine sa_iload_n C d_X11_journeys_13 rfl 2 rfl ?_
  refine sa_invV (ci := 9) C (k_X9_find v1 v2 v3 a1 a2) q1022 ds_X9_find q125 rfl q1020 q1021 q1019 (gd_X9_find v1 v2 v3 a1 a2) rfl rfl rfl (Nat.le_of_ble_eq_true rfl) (by decide) (by decide) d_X11_journeys_14 (fun v4 => ?_)
  refine sa_join1 31 (fun y5 => []) (fun y5 => [.int y5]) (fun y5 => ?_) (fun j31 hj31 => ?_)
  · exact sa_iret C d_X11_journeys_31
  refine sa_if_eq (tgt := 30) C d_X11_journeys_17 (by decide) ?_ ?_
  · refine sa_iconst (v := (-1)) C d_X11_journeys_30 (by decide) ?_
    exact sa_sub [] rfl (hj31 _)
  refine sa_aload_n C d_X11_journeys_20 rfl 0 rfl ?_
  refine sa_getR C fd_X11_69 rfl d_X11_journeys_21 (fun v6 => ?_)
  refine sa_getI C fd_X11_232 d_X11_journeys_24 (fun v7 => ?_)
  refine sa_goto (tgt := 31) C d_X11_journeys_27 (by decide) ?_
  exact sa_sub [] rfl (hj31 _)
theorem k_X11_journeys (this : Nat) (a1 : Int32) (a2 : Int32) : sa_Met 64 yX11_journeys cX11_journeys 3 (some .int) (fun ad => [.ref (ad this), .int a1, .int a2]) sa_eI (f_X11_journeys this a1 a2) := sa_mk (by decide) (fun ad => Nat.le_of_ble_eq_true rfl) (fun p l e s m args below meth c D ad cA A C => b_X11_journeys this a1 a2 C)
theorem gd_X11_journeys (this : Nat) (a1 : Int32) (a2 : Int32) (σ : sa_St) (r : Int32) (τ : sa_St) (h : f_X11_journeys this a1 a2 σ = some (r, τ)) : sa_sh this = some (.inl 11) := sa_gd_ok h
theorem d_X11_waits_0 : decode cX11_waits 0 = .ok (.iload_n 3, 1) := by decide +kernel
theorem d_X11_waits_1 : decode cX11_waits 1 = .ok (.ifCond .lt 17, 3) := by decide +kernel
theorem d_X11_waits_4 : decode cX11_waits 4 = .ok (.iload_n 3, 1) := by decide +kernel
theorem d_X11_waits_5 : decode cX11_waits 5 = .ok (.iconst 1, 1) := by decide +kernel
theorem d_X11_waits_6 : decode cX11_waits 6 = .ok (.if_icmp .gt 12, 3) := by decide +kernel
theorem d_X11_waits_9 : decode cX11_waits 9 = .ok (.aload_n 0, 1) := by decide +kernel
theorem d_X11_waits_10 : decode cX11_waits 10 = .ok (.iload_n 1, 1) := by decide +kernel
theorem d_X11_waits_11 : decode cX11_waits 11 = .ok (.iload_n 2, 1) := by decide +kernel
theorem d_X11_waits_12 : decode cX11_waits 12 = .ok (.invokevirtual 209, 3) := by decide +kernel
theorem d_X11_waits_15 : decode cX11_waits 15 = .ok (.ifCond .ne 6, 3) := by decide +kernel
theorem d_X11_waits_18 : decode cX11_waits 18 = .ok (.ldc 184, 2) := by decide +kernel
theorem d_X11_waits_20 : decode cX11_waits 20 = .ok (.ireturn, 1) := by decide +kernel
theorem d_X11_waits_21 : decode cX11_waits 21 = .ok (.aload_n 0, 1) := by decide +kernel
theorem d_X11_waits_22 : decode cX11_waits 22 = .ok (.getfield 69, 3) := by decide +kernel
theorem d_X11_waits_25 : decode cX11_waits 25 = .ok (.aload_n 0, 1) := by decide +kernel
theorem d_X11_waits_26 : decode cX11_waits 26 = .ok (.getfield 69, 3) := by decide +kernel
theorem d_X11_waits_29 : decode cX11_waits 29 = .ok (.iconst 2, 1) := by decide +kernel
theorem d_X11_waits_30 : decode cX11_waits 30 = .ok (.invokevirtual 213, 3) := by decide +kernel
theorem d_X11_waits_33 : decode cX11_waits 33 = .ok (.invokevirtual 235, 3) := by decide +kernel
theorem d_X11_waits_36 : decode cX11_waits 36 = .ok (.istore 4, 2) := by decide +kernel
theorem d_X11_waits_38 : decode cX11_waits 38 = .ok (.iload_n 3, 1) := by decide +kernel
theorem d_X11_waits_39 : decode cX11_waits 39 = .ok (.ifCond .ne 8, 3) := by decide +kernel
theorem d_X11_waits_42 : decode cX11_waits 42 = .ok (.iload 4, 2) := by decide +kernel
theorem d_X11_waits_44 : decode cX11_waits 44 = .ok (.goto 10, 3) := by decide +kernel
theorem d_X11_waits_47 : decode cX11_waits 47 = .ok (.aload_n 0, 1) := by decide +kernel
theorem d_X11_waits_48 : decode cX11_waits 48 = .ok (.getfield 69, 3) := by decide +kernel
theorem d_X11_waits_51 : decode cX11_waits 51 = .ok (.getfield 238, 3) := by decide +kernel
theorem d_X11_waits_54 : decode cX11_waits 54 = .ok (.ireturn, 1) := by decide +kernel
def f_X11_waits (this : Nat) (a1 : Int32) (a2 : Int32) (a3 : Int32) : sa_M Int32 :=
sa_gd 11 this (
sa_jn0 (sa_ret ((-1000000) : Int32)) fun j18 =>
if a3 < 0 then
j18
else
if 1 < a3 then
j18
else
sa_bnd (f_X11_findsJourney this a1 a2) fun v1 =>
if ¬ v1 = 0 then
sa_bnd (sa_rdR 11 this 10) fun v2 =>
sa_bnd (sa_rdR 11 this 10) fun v3 =>
sa_bnd (f_X9_bestRow v3 2) fun v4 =>
sa_bnd (f_X9_bestWait v2 v4) fun v5 =>
sa_jn1 (fun (y6 : Int32) =>
sa_ret (y6 : Int32)) fun j54 =>
if ¬ a3 = 0 then
sa_bnd (sa_rdR 11 this 10) fun v7 =>
sa_bnd (sa_rdI 9 v7 4) fun v8 =>
j54 v8
else
j54 v5
else
j18)
set_option maxHeartbeats 1000000 in
set_option maxRecDepth 10000 in
theorem b_X11_waits {p : Program} {l : Launch} {e : Env} {s : State} {m : MethodId} {args : Array Value} {below : List Frame} {meth : Method} {c : Code} {D : va_G} {ad : Nat → Nat} {cA : FieldType → ClassId} {A : Nat → Prop} (this : Nat) (a1 : Int32) (a2 : Int32) (a3 : Int32) (C : sa_C p s m args meth c cX11_waits RX11 "waits" 5 (some .int) D ad cA A) : sa_Sg p l e s m args below meth c 5 65 D ad cA A sa_eI 0 [(0, .ref (ad this)), (1, .int a1), (2, .int a2), (3, .int a3)] [] (f_X11_waits this a1 a2 a3) := by
  unfold f_X11_waits
  refine sa_gdI ?_
  refine sa_iload_n C d_X11_waits_0 rfl 3 rfl ?_
  refine sa_join0 18 ([]) ([]) (?_) (fun j18 hj18 => ?_)
  · refine sa_ldc (v := (-1000000)) C d_X11_waits_18 q976 ?_
    exact sa_iret C d_X11_waits_20
  refine sa_if_lt (tgt := 18) C d_X11_waits_1 (by decide) ?_ ?_
  · exact sa_sub [] rfl (hj18)
  refine sa_iload_n C d_X11_waits_4 rfl 3 rfl ?_
  refine sa_iconst (v := 1) C d_X11_waits_5 (by decide) ?_
  refine sa_icmp_gt (tgt := 18) C d_X11_waits_6 (by decide) ?_ ?_
  · exact sa_sub [] rfl (hj18)
  refine sa_aload_n C d_X11_waits_9 rfl 0 rfl ?_
  refine sa_iload_n C d_X11_waits_10 rfl 1 rfl ?_
  refine sa_iload_n C d_X11_waits_11 rfl 2 rfl ?_
  refine sa_invV (ci := 11) C (k_X11_findsJourney this a1 a2) q1018 ds_X11_findsJourney q114 rfl q1017 q28 q1015 (gd_X11_findsJourney this a1 a2) rfl rfl rfl (Nat.le_of_ble_eq_true rfl) (by decide) (by decide) d_X11_waits_12 (fun v1 => ?_)
  refine sa_if_ne (tgt := 21) C d_X11_waits_15 (by decide) ?_ ?_
  · refine sa_aload_n C d_X11_waits_21 rfl 0 rfl ?_
    refine sa_getR C fd_X11_69 rfl d_X11_waits_22 (fun v2 => ?_)
    refine sa_aload_n C d_X11_waits_25 rfl 0 rfl ?_
    refine sa_getR C fd_X11_69 rfl d_X11_waits_26 (fun v3 => ?_)
    refine sa_iconst (v := 2) C d_X11_waits_29 (by decide) ?_
    refine sa_invV (ci := 9) C (k_X9_bestRow v3 2) q1047 ds_X9_bestRow q125 rfl q1045 q1046 q1044 (gd_X9_bestRow v3 2) rfl rfl rfl (Nat.le_of_ble_eq_true rfl) (by decide) (by decide) d_X11_waits_30 (fun v4 => ?_)
    refine sa_invV (ci := 9) C (k_X9_bestWait v2 v4) q1128 ds_X9_bestWait q125 rfl q1126 q1127 q1125 (gd_X9_bestWait v2 v4) rfl rfl rfl (Nat.le_of_ble_eq_true rfl) (by decide) (by decide) d_X11_waits_33 (fun v5 => ?_)
    refine sa_istore (lv' := [(4, .int v5), (0, .ref (ad this)), (1, .int a1), (2, .int a2), (3, .int a3)]) C d_X11_waits_36 (by decide) rfl ?_
    refine sa_iload_n C d_X11_waits_38 rfl 4 rfl ?_
    refine sa_join1 54 (fun y6 => []) (fun y6 => [.int y6]) (fun y6 => ?_) (fun j54 hj54 => ?_)
    · exact sa_iret C d_X11_waits_54
    refine sa_if_ne (tgt := 47) C d_X11_waits_39 (by decide) ?_ ?_
    · refine sa_aload_n C d_X11_waits_47 rfl 1 rfl ?_
      refine sa_getR C fd_X11_69 rfl d_X11_waits_48 (fun v7 => ?_)
      refine sa_getI C fd_X11_238 d_X11_waits_51 (fun v8 => ?_)
      exact sa_sub [] rfl (hj54 _)
    refine sa_iload C d_X11_waits_42 0 rfl ?_
    refine sa_goto (tgt := 54) C d_X11_waits_44 (by decide) ?_
    exact sa_sub [] rfl (hj54 _)
  exact sa_sub [] rfl (hj18)
theorem k_X11_waits (this : Nat) (a1 : Int32) (a2 : Int32) (a3 : Int32) : sa_Met 65 yX11_waits cX11_waits 5 (some .int) (fun ad => [.ref (ad this), .int a1, .int a2, .int a3]) sa_eI (f_X11_waits this a1 a2 a3) := sa_mk (by decide) (fun ad => Nat.le_of_ble_eq_true rfl) (fun p l e s m args below meth c D ad cA A C => b_X11_waits this a1 a2 a3 C)
theorem gd_X11_waits (this : Nat) (a1 : Int32) (a2 : Int32) (a3 : Int32) (σ : sa_St) (r : Int32) (τ : sa_St) (h : f_X11_waits this a1 a2 a3 σ = some (r, τ)) : sa_sh this = some (.inl 11) := sa_gd_ok h
theorem d_X11_ambush_0 : decode cX11_ambush 0 = .ok (.iload_n 3, 1) := by decide +kernel
theorem d_X11_ambush_1 : decode cX11_ambush 1 = .ok (.ifCond .lt 12, 3) := by decide +kernel
theorem d_X11_ambush_4 : decode cX11_ambush 4 = .ok (.aload_n 0, 1) := by decide +kernel
theorem d_X11_ambush_5 : decode cX11_ambush 5 = .ok (.iload_n 1, 1) := by decide +kernel
theorem d_X11_ambush_6 : decode cX11_ambush 6 = .ok (.iload_n 2, 1) := by decide +kernel
theorem d_X11_ambush_7 : decode cX11_ambush 7 = .ok (.invokevirtual 209, 3) := by decide +kernel
theorem d_X11_ambush_10 : decode cX11_ambush 10 = .ok (.ifCond .ne 6, 3) := by decide +kernel
theorem d_X11_ambush_13 : decode cX11_ambush 13 = .ok (.ldc 184, 2) := by decide +kernel
theorem d_X11_ambush_15 : decode cX11_ambush 15 = .ok (.ireturn, 1) := by decide +kernel
theorem d_X11_ambush_16 : decode cX11_ambush 16 = .ok (.iload_n 3, 1) := by decide +kernel
theorem d_X11_ambush_17 : decode cX11_ambush 17 = .ok (.iconst 1, 1) := by decide +kernel
theorem d_X11_ambush_18 : decode cX11_ambush 18 = .ok (.if_icmp .ne 19, 3) := by decide +kernel
theorem d_X11_ambush_21 : decode cX11_ambush 21 = .ok (.aload_n 0, 1) := by decide +kernel
theorem d_X11_ambush_22 : decode cX11_ambush 22 = .ok (.getfield 69, 3) := by decide +kernel
theorem d_X11_ambush_25 : decode cX11_ambush 25 = .ok (.aload_n 0, 1) := by decide +kernel
theorem d_X11_ambush_26 : decode cX11_ambush 26 = .ok (.getfield 69, 3) := by decide +kernel
theorem d_X11_ambush_29 : decode cX11_ambush 29 = .ok (.iconst 0, 1) := by decide +kernel
theorem d_X11_ambush_30 : decode cX11_ambush 30 = .ok (.invokevirtual 213, 3) := by decide +kernel
theorem d_X11_ambush_33 : decode cX11_ambush 33 = .ok (.invokevirtual 241, 3) := by decide +kernel
theorem d_X11_ambush_36 : decode cX11_ambush 36 = .ok (.ireturn, 1) := by decide +kernel
theorem d_X11_ambush_37 : decode cX11_ambush 37 = .ok (.aload_n 0, 1) := by decide +kernel
theorem d_X11_ambush_38 : decode cX11_ambush 38 = .ok (.getfield 69, 3) := by decide +kernel
theorem d_X11_ambush_41 : decode cX11_ambush 41 = .ok (.iconst 3, 1) := by decide +kernel
theorem d_X11_ambush_42 : decode cX11_ambush 42 = .ok (.invokevirtual 213, 3) := by decide +kernel
theorem d_X11_ambush_45 : decode cX11_ambush 45 = .ok (.istore 4, 2) := by decide +kernel
theorem d_X11_ambush_47 : decode cX11_ambush 47 = .ok (.iload_n 3, 1) := by decide +kernel
theorem d_X11_ambush_48 : decode cX11_ambush 48 = .ok (.ifCond .ne 15, 3) := by decide +kernel
theorem d_X11_ambush_51 : decode cX11_ambush 51 = .ok (.aload_n 0, 1) := by decide +kernel
theorem d_X11_ambush_52 : decode cX11_ambush 52 = .ok (.getfield 69, 3) := by decide +kernel
theorem d_X11_ambush_55 : decode cX11_ambush 55 = .ok (.iload 4, 2) := by decide +kernel
theorem d_X11_ambush_57 : decode cX11_ambush 57 = .ok (.invokevirtual 244, 3) := by decide +kernel
theorem d_X11_ambush_60 : decode cX11_ambush 60 = .ok (.goto 15, 3) := by decide +kernel
theorem d_X11_ambush_63 : decode cX11_ambush 63 = .ok (.aload_n 0, 1) := by decide +kernel
theorem d_X11_ambush_64 : decode cX11_ambush 64 = .ok (.getfield 69, 3) := by decide +kernel
theorem d_X11_ambush_67 : decode cX11_ambush 67 = .ok (.iload 4, 2) := by decide +kernel
theorem d_X11_ambush_69 : decode cX11_ambush 69 = .ok (.iload_n 3, 1) := by decide +kernel
theorem d_X11_ambush_70 : decode cX11_ambush 70 = .ok (.iconst 2, 1) := by decide +kernel
theorem d_X11_ambush_71 : decode cX11_ambush 71 = .ok (.isub, 1) := by decide +kernel
theorem d_X11_ambush_72 : decode cX11_ambush 72 = .ok (.invokevirtual 225, 3) := by decide +kernel
theorem d_X11_ambush_75 : decode cX11_ambush 75 = .ok (.ireturn, 1) := by decide +kernel
def f_X11_ambush (this : Nat) (a1 : Int32) (a2 : Int32) (a3 : Int32) : sa_M Int32 :=
sa_gd 11 this (
sa_jn0 (sa_ret ((-1000000) : Int32)) fun j13 =>
if a3 < 0 then
j13
else
sa_bnd (f_X11_findsJourney this a1 a2) fun v1 =>
if ¬ v1 = 0 then
if ¬ a3 = 1 then
sa_bnd (sa_rdR 11 this 10) fun v2 =>
sa_bnd (f_X9_bestRow v2 3) fun v3 =>
sa_jn1 (fun (y4 : Int32) =>
sa_ret (y4 : Int32)) fun j75 =>
if ¬ a3 = 0 then
sa_bnd (sa_rdR 11 this 10) fun v5 =>
sa_bnd (f_X9_placeOrHidden v5 v3 (a3 - 2)) fun v6 =>
j75 v6
else
sa_bnd (sa_rdR 11 this 10) fun v7 =>
sa_bnd (f_X9_leastMeanOf v7 v3) fun v8 =>
j75 v8
else
sa_bnd (sa_rdR 11 this 10) fun v9 =>
sa_bnd (sa_rdR 11 this 10) fun v10 =>
sa_bnd (f_X9_bestRow v10 0) fun v11 =>
sa_bnd (f_X9_worstPlace v9 v11) fun v12 =>
sa_ret (v12 : Int32)
else
j13)
set_option maxHeartbeats 1000000 in
set_option maxRecDepth 10000 in
theorem b_X11_ambush {p : Program} {l : Launch} {e : Env} {s : State} {m : MethodId} {args : Array Value} {below : List Frame} {meth : Method} {c : Code} {D : va_G} {ad : Nat → Nat} {cA : FieldType → ClassId} {A : Nat → Prop} (this : Nat) (a1 : Int32) (a2 : Int32) (a3 : Int32) (C : sa_C p s m args meth c cX11_ambush RX11 "ambush" 5 (some .int) D ad cA A) : sa_Sg p l e s m args below meth c 5 65 D ad cA A sa_eI 0 [(0, .ref (ad this)), (1, .int a1), (2, .int a2), (3, .int a3)] [] (f_X11_ambush this a1 a2 a3) := by
  unfold f_X11_ambush
  refine sa_gdI ?_
  refine sa_iload_n C d_X11_ambush_0 rfl 3 rfl ?_
  refine sa_join0 13 ([]) ([]) (?_) (fun j13 hj13 => ?_)
  · refine sa_ldc (v := (-1000000)) C d_X11_ambush_13 q976 ?_
    exact sa_iret C d_X11_ambush_15
  refine sa_if_lt (tgt := 13) C d_X11_ambush_1 (by decide) ?_ ?_
  · exact sa_sub [] rfl (hj13)
  refine sa_aload_n C d_X11_ambush_4 rfl 0 rfl ?_
  refine sa_iload_n C d_X11_ambush_5 rfl 1 rfl ?_
  refine sa_iload_n C d_X11_ambush_6 rfl 2 rfl ?_
  refine sa_invV (ci := 11) C (k_X11_findsJourney this a1 a2) q1018 ds_X11_findsJourney q114 rfl q1017 q28 q1015 (gd_X11_findsJourney this a1 a2) rfl rfl rfl (Nat.le_of_ble_eq_true rfl) (by decide) (by decide) d_X11_ambush_7 (fun v1 => ?_)
  refine sa_if_ne (tgt := 16) C d_X11_ambush_10 (by decide) ?_ ?_
  · refine sa_iload_n C d_X11_ambush_16 rfl 3 rfl ?_
    refine sa_iconst (v := 1) C d_X11_ambush_17 (by decide) ?_
    refine sa_icmp_ne (tgt := 37) C d_X11_ambush_18 (by decide) ?_ ?_
    · refine sa_aload_n C d_X11_ambush_37 rfl 0 rfl ?_
      refine sa_getR C fd_X11_69 rfl d_X11_ambush_38 (fun v2 => ?_)
      refine sa_iconst (v := 3) C d_X11_ambush_41 (by decide) ?_
      refine sa_invV (ci := 9) C (k_X9_bestRow v2 3) q1047 ds_X9_bestRow q125 rfl q1045 q1046 q1044 (gd_X9_bestRow v2 3) rfl rfl rfl (Nat.le_of_ble_eq_true rfl) (by decide) (by decide) d_X11_ambush_42 (fun v3 => ?_)
      refine sa_istore (lv' := [(4, .int v3), (0, .ref (ad this)), (1, .int a1), (2, .int a2), (3, .int a3)]) C d_X11_ambush_45 (by decide) rfl ?_
      refine sa_iload_n C d_X11_ambush_47 rfl 4 rfl ?_
      refine sa_join1 75 (fun y4 => []) (fun y4 => [.int y4]) (fun y4 => ?_) (fun j75 hj75 => ?_)
      · exact sa_iret C d_X11_ambush_75
      refine sa_if_ne (tgt := 63) C d_X11_ambush_48 (by decide) ?_ ?_
      · refine sa_aload_n C d_X11_ambush_63 rfl 1 rfl ?_
        refine sa_getR C fd_X11_69 rfl d_X11_ambush_64 (fun v5 => ?_)
        refine sa_iload C d_X11_ambush_67 0 rfl ?_
        refine sa_iload_n C d_X11_ambush_69 rfl 4 rfl ?_
        refine sa_iconst (v := 2) C d_X11_ambush_70 (by decide) ?_
        refine sa_isub C d_X11_ambush_71 ?_
        refine sa_invV (ci := 9) C (k_X9_placeOrHidden v5 v3 (a3 - 2)) q1115 ds_X9_placeOrHidden q125 rfl q1113 q1114 q1112 (gd_X9_placeOrHidden v5 v3 (a3 - 2)) rfl rfl rfl (Nat.le_of_ble_eq_true rfl) (by decide) (by decide) d_X11_ambush_72 (fun v6 => ?_)
        exact sa_sub [] rfl (hj75 _)
      refine sa_aload_n C d_X11_ambush_51 rfl 1 rfl ?_
      refine sa_getR C fd_X11_69 rfl d_X11_ambush_52 (fun v7 => ?_)
      refine sa_iload C d_X11_ambush_55 0 rfl ?_
      refine sa_invV (ci := 9) C (k_X9_leastMeanOf v7 v3) q1104 ds_X9_leastMeanOf q125 rfl q1102 q1103 q1138 (gd_X9_leastMeanOf v7 v3) rfl rfl rfl (Nat.le_of_ble_eq_true rfl) (by decide) (by decide) d_X11_ambush_57 (fun v8 => ?_)
      refine sa_goto (tgt := 75) C d_X11_ambush_60 (by decide) ?_
      exact sa_sub [] rfl (hj75 _)
    refine sa_aload_n C d_X11_ambush_21 rfl 0 rfl ?_
    refine sa_getR C fd_X11_69 rfl d_X11_ambush_22 (fun v9 => ?_)
    refine sa_aload_n C d_X11_ambush_25 rfl 0 rfl ?_
    refine sa_getR C fd_X11_69 rfl d_X11_ambush_26 (fun v10 => ?_)
    refine sa_iconst (v := 0) C d_X11_ambush_29 (by decide) ?_
    refine sa_invV (ci := 9) C (k_X9_bestRow v10 0) q1047 ds_X9_bestRow q125 rfl q1045 q1046 q1044 (gd_X9_bestRow v10 0) rfl rfl rfl (Nat.le_of_ble_eq_true rfl) (by decide) (by decide) d_X11_ambush_30 (fun v11 => ?_)
    refine sa_invV (ci := 9) C (k_X9_worstPlace v9 v11) q1137 ds_X9_worstPlace q125 rfl q1135 q1136 q1134 (gd_X9_worstPlace v9 v11) rfl rfl rfl (Nat.le_of_ble_eq_true rfl) (by decide) (by decide) d_X11_ambush_33 (fun v12 => ?_)
    exact sa_iret C d_X11_ambush_36
  exact sa_sub [] rfl (hj13)
theorem k_X11_ambush (this : Nat) (a1 : Int32) (a2 : Int32) (a3 : Int32) : sa_Met 65 yX11_ambush cX11_ambush 5 (some .int) (fun ad => [.ref (ad this), .int a1, .int a2, .int a3]) sa_eI (f_X11_ambush this a1 a2 a3) := sa_mk (by decide) (fun ad => Nat.le_of_ble_eq_true rfl) (fun p l e s m args below meth c D ad cA A C => b_X11_ambush this a1 a2 a3 C)
theorem gd_X11_ambush (this : Nat) (a1 : Int32) (a2 : Int32) (a3 : Int32) (σ : sa_St) (r : Int32) (τ : sa_St) (h : f_X11_ambush this a1 a2 a3 σ = some (r, τ)) : sa_sh this = some (.inl 11) := sa_gd_ok h
theorem d_X11_areNights_0 : decode cX11_areNights 0 = .ok (.iload_n 0, 1) := by decide +kernel
theorem d_X11_areNights_1 : decode cX11_areNights 1 = .ok (.iconst 1, 1) := by decide +kernel
theorem d_X11_areNights_2 : decode cX11_areNights 2 = .ok (.if_icmp .lt 24, 3) := by decide +kernel
theorem d_X11_areNights_5 : decode cX11_areNights 5 = .ok (.iload_n 0, 1) := by decide +kernel
theorem d_X11_areNights_6 : decode cX11_areNights 6 = .ok (.bipush 6, 2) := by decide +kernel
theorem d_X11_areNights_8 : decode cX11_areNights 8 = .ok (.if_icmp .gt 18, 3) := by decide +kernel
theorem d_X11_areNights_11 : decode cX11_areNights 11 = .ok (.iload_n 1, 1) := by decide +kernel
theorem d_X11_areNights_12 : decode cX11_areNights 12 = .ok (.iconst 1, 1) := by decide +kernel
theorem d_X11_areNights_13 : decode cX11_areNights 13 = .ok (.if_icmp .lt 13, 3) := by decide +kernel
theorem d_X11_areNights_16 : decode cX11_areNights 16 = .ok (.iload_n 1, 1) := by decide +kernel
theorem d_X11_areNights_17 : decode cX11_areNights 17 = .ok (.bipush 9, 2) := by decide +kernel
theorem d_X11_areNights_19 : decode cX11_areNights 19 = .ok (.if_icmp .gt 7, 3) := by decide +kernel
theorem d_X11_areNights_22 : decode cX11_areNights 22 = .ok (.iconst 1, 1) := by decide +kernel
theorem d_X11_areNights_23 : decode cX11_areNights 23 = .ok (.goto 4, 3) := by decide +kernel
theorem d_X11_areNights_26 : decode cX11_areNights 26 = .ok (.iconst 0, 1) := by decide +kernel
theorem d_X11_areNights_27 : decode cX11_areNights 27 = .ok (.ireturn, 1) := by decide +kernel
def f_X11_areNights (a1 : Int32) (a2 : Int32) : sa_M Int32 :=
sa_jn1 (fun (y1 : Int32) =>
sa_retZ y1) fun j27 =>
sa_jn0 (j27 0) fun j26 =>
if a1 < 1 then
j26
else
if 6 < a1 then
j26
else
if a2 < 1 then
j26
else
if 9 < a2 then
j26
else
j27 1
set_option maxHeartbeats 1000000 in
set_option maxRecDepth 10000 in
theorem b_X11_areNights {p : Program} {l : Launch} {e : Env} {s : State} {m : MethodId} {args : Array Value} {below : List Frame} {meth : Method} {c : Code} {D : va_G} {ad : Nat → Nat} {cA : FieldType → ClassId} {A : Nat → Prop} (a1 : Int32) (a2 : Int32) (C : sa_C p s m args meth c cX11_areNights RX11 "areNights" 2 (some .boolean) D ad cA A) : sa_Sg p l e s m args below meth c 2 1 D ad cA A sa_eI 0 [(0, .int a1), (1, .int a2)] [] (f_X11_areNights a1 a2) := by
  unfold f_X11_areNights
  refine sa_iload_n C d_X11_areNights_0 rfl 0 rfl ?_
  refine sa_iconst (v := 1) C d_X11_areNights_1 (by decide) ?_
  refine sa_join1 27 (fun y1 => []) (fun y1 => [.int y1]) (fun y1 => ?_) (fun j27 hj27 => ?_)
  · exact sa_zret C d_X11_areNights_27
  refine sa_join0 26 ([]) ([]) (?_) (fun j26 hj26 => ?_)
  · refine sa_iconst (v := 0) C d_X11_areNights_26 (by decide) ?_
    exact sa_sub [] rfl (hj27 _)
  refine sa_icmp_lt (tgt := 26) C d_X11_areNights_2 (by decide) ?_ ?_
  · exact sa_sub [] rfl (hj26)
  refine sa_iload_n C d_X11_areNights_5 rfl 0 rfl ?_
  refine sa_bipush (v := 6) C d_X11_areNights_6 (by decide) ?_
  refine sa_icmp_gt (tgt := 26) C d_X11_areNights_8 (by decide) ?_ ?_
  · exact sa_sub [] rfl (hj26)
  refine sa_iload_n C d_X11_areNights_11 rfl 1 rfl ?_
  refine sa_iconst (v := 1) C d_X11_areNights_12 (by decide) ?_
  refine sa_icmp_lt (tgt := 26) C d_X11_areNights_13 (by decide) ?_ ?_
  · exact sa_sub [] rfl (hj26)
  refine sa_iload_n C d_X11_areNights_16 rfl 1 rfl ?_
  refine sa_bipush (v := 9) C d_X11_areNights_17 (by decide) ?_
  refine sa_icmp_gt (tgt := 26) C d_X11_areNights_19 (by decide) ?_ ?_
  · exact sa_sub [] rfl (hj26)
  refine sa_iconst (v := 1) C d_X11_areNights_22 (by decide) ?_
  refine sa_goto (tgt := 27) C d_X11_areNights_23 (by decide) ?_
  exact sa_sub [] rfl (hj27 _)
theorem k_X11_areNights (a1 : Int32) (a2 : Int32) : sa_Met 1 yX11_areNights cX11_areNights 2 (some .boolean) (fun ad => [.int a1, .int a2]) sa_eI (f_X11_areNights a1 a2) := sa_mk (by decide) (fun ad => Nat.le_of_ble_eq_true rfl) (fun p l e s m args below meth c D ad cA A C => b_X11_areNights a1 a2 C)
theorem d_X11_pickets_0 : decode cX11_pickets 0 = .ok (.aload_n 0, 1) := by decide +kernel
theorem d_X11_pickets_1 : decode cX11_pickets 1 = .ok (.getfield 19, 3) := by decide +kernel
theorem d_X11_pickets_4 : decode cX11_pickets 4 = .ok (.invokevirtual 157, 3) := by decide +kernel
theorem d_X11_pickets_7 : decode cX11_pickets 7 = .ok (.ifCond .ne 27, 3) := by decide +kernel
theorem d_X11_pickets_10 : decode cX11_pickets 10 = .ok (.iload_n 1, 1) := by decide +kernel
theorem d_X11_pickets_11 : decode cX11_pickets 11 = .ok (.iload_n 2, 1) := by decide +kernel
theorem d_X11_pickets_12 : decode cX11_pickets 12 = .ok (.invokestatic 247, 3) := by decide +kernel
theorem d_X11_pickets_15 : decode cX11_pickets 15 = .ok (.ifCond .eq 19, 3) := by decide +kernel
theorem d_X11_pickets_18 : decode cX11_pickets 18 = .ok (.iload_n 3, 1) := by decide +kernel
theorem d_X11_pickets_19 : decode cX11_pickets 19 = .ok (.ifCond .lt 15, 3) := by decide +kernel
theorem d_X11_pickets_22 : decode cX11_pickets 22 = .ok (.iload_n 3, 1) := by decide +kernel
theorem d_X11_pickets_23 : decode cX11_pickets 23 = .ok (.bipush 99, 2) := by decide +kernel
theorem d_X11_pickets_25 : decode cX11_pickets 25 = .ok (.if_icmp .gt 9, 3) := by decide +kernel
theorem d_X11_pickets_28 : decode cX11_pickets 28 = .ok (.iload 4, 2) := by decide +kernel
theorem d_X11_pickets_30 : decode cX11_pickets 30 = .ok (.iconst (-1), 1) := by decide +kernel
theorem d_X11_pickets_31 : decode cX11_pickets 31 = .ok (.if_icmp .ge 5, 3) := by decide +kernel
theorem d_X11_pickets_34 : decode cX11_pickets 34 = .ok (.iconst (-1), 1) := by decide +kernel
theorem d_X11_pickets_35 : decode cX11_pickets 35 = .ok (.ireturn, 1) := by decide +kernel
theorem d_X11_pickets_36 : decode cX11_pickets 36 = .ok (.aload_n 0, 1) := by decide +kernel
theorem d_X11_pickets_37 : decode cX11_pickets 37 = .ok (.getfield 83, 3) := by decide +kernel
theorem d_X11_pickets_40 : decode cX11_pickets 40 = .ok (.aload_n 0, 1) := by decide +kernel
theorem d_X11_pickets_41 : decode cX11_pickets 41 = .ok (.getfield 43, 3) := by decide +kernel
theorem d_X11_pickets_44 : decode cX11_pickets 44 = .ok (.iload_n 2, 1) := by decide +kernel
theorem d_X11_pickets_45 : decode cX11_pickets 45 = .ok (.iload_n 3, 1) := by decide +kernel
theorem d_X11_pickets_46 : decode cX11_pickets 46 = .ok (.invokevirtual 250, 3) := by decide +kernel
theorem d_X11_pickets_49 : decode cX11_pickets 49 = .ok (.aload_n 0, 1) := by decide +kernel
theorem d_X11_pickets_50 : decode cX11_pickets 50 = .ok (.getfield 83, 3) := by decide +kernel
theorem d_X11_pickets_53 : decode cX11_pickets 53 = .ok (.iload_n 1, 1) := by decide +kernel
theorem d_X11_pickets_54 : decode cX11_pickets 54 = .ok (.invokevirtual 254, 3) := by decide +kernel
theorem d_X11_pickets_57 : decode cX11_pickets 57 = .ok (.istore 5, 2) := by decide +kernel
theorem d_X11_pickets_59 : decode cX11_pickets 59 = .ok (.iload 4, 2) := by decide +kernel
theorem d_X11_pickets_61 : decode cX11_pickets 61 = .ok (.iconst (-1), 1) := by decide +kernel
theorem d_X11_pickets_62 : decode cX11_pickets 62 = .ok (.if_icmp .ne 6, 3) := by decide +kernel
theorem d_X11_pickets_65 : decode cX11_pickets 65 = .ok (.iload 5, 2) := by decide +kernel
theorem d_X11_pickets_67 : decode cX11_pickets 67 = .ok (.ireturn, 1) := by decide +kernel
theorem d_X11_pickets_68 : decode cX11_pickets 68 = .ok (.iload 4, 2) := by decide +kernel
theorem d_X11_pickets_70 : decode cX11_pickets 70 = .ok (.iload 5, 2) := by decide +kernel
theorem d_X11_pickets_72 : decode cX11_pickets 72 = .ok (.if_icmp .ge 16, 3) := by decide +kernel
theorem d_X11_pickets_75 : decode cX11_pickets 75 = .ok (.aload_n 0, 1) := by decide +kernel
theorem d_X11_pickets_76 : decode cX11_pickets 76 = .ok (.getfield 83, 3) := by decide +kernel
theorem d_X11_pickets_79 : decode cX11_pickets 79 = .ok (.iload_n 1, 1) := by decide +kernel
theorem d_X11_pickets_80 : decode cX11_pickets 80 = .ok (.iload 4, 2) := by decide +kernel
theorem d_X11_pickets_82 : decode cX11_pickets 82 = .ok (.invokevirtual 257, 3) := by decide +kernel
theorem d_X11_pickets_85 : decode cX11_pickets 85 = .ok (.goto 4, 3) := by decide +kernel
theorem d_X11_pickets_88 : decode cX11_pickets 88 = .ok (.iconst (-1), 1) := by decide +kernel
theorem d_X11_pickets_89 : decode cX11_pickets 89 = .ok (.ireturn, 1) := by decide +kernel
def f_X11_pickets (this : Nat) (a1 : Int32) (a2 : Int32) (a3 : Int32) (a4 : Int32) : sa_M Int32 :=
sa_gd 11 this (
sa_bnd (sa_rdR 11 this 1) fun v1 =>
sa_bnd (f_X1_isEmpty v1) fun v2 =>
sa_jn0 (sa_ret ((-1) : Int32)) fun j34 =>
if ¬ v2 = 0 then
j34
else
sa_bnd (f_X11_areNights a1 a2) fun v3 =>
if v3 = 0 then
j34
else
if a3 < 0 then
j34
else
if 99 < a3 then
j34
else
if (-1) ≤ a4 then
sa_bnd (sa_rdR 11 this 12) fun v4 =>
sa_bnd (sa_rdR 11 this 6) fun v5 =>
sa_bnd (f_X10_set v4 v5 a2 a3) fun _ =>
sa_bnd (sa_rdR 11 this 12) fun v6 =>
sa_bnd (f_X10_rows v6 a1) fun v7 =>
if ¬ a4 = (-1) then
sa_jn1 (fun (y8 : Int32) =>
sa_ret (y8 : Int32)) fun j89 =>
if v7 ≤ a4 then
j89 (-1)
else
sa_bnd (sa_rdR 11 this 12) fun v9 =>
sa_bnd (f_X10_row v9 a1 a4) fun v10 =>
j89 v10
else
sa_ret (v7 : Int32)
else
j34)
set_option maxHeartbeats 1000000 in
set_option maxRecDepth 10000 in
theorem b_X11_pickets {p : Program} {l : Launch} {e : Env} {s : State} {m : MethodId} {args : Array Value} {below : List Frame} {meth : Method} {c : Code} {D : va_G} {ad : Nat → Nat} {cA : FieldType → ClassId} {A : Nat → Prop} (this : Nat) (a1 : Int32) (a2 : Int32) (a3 : Int32) (a4 : Int32) (C : sa_C p s m args meth c cX11_pickets RX11 "pickets" 6 (some .int) D ad cA A) : sa_Sg p l e s m args below meth c 6 5 D ad cA A sa_eI 0 [(0, .ref (ad this)), (1, .int a1), (2, .int a2), (3, .int a3), (4, .int a4)] [] (f_X11_pickets this a1 a2 a3 a4) := by
  unfold f_X11_pickets
  refine sa_gdI ?_
  refine sa_aload_n C d_X11_pickets_0 rfl 0 rfl ?_
  refine sa_getR C fd_X11_19 rfl d_X11_pickets_1 (fun v1 => ?_)
  refine sa_invV (ci := 1) C (k_X1_isEmpty v1) q829 ds_X1_isEmpty q116 rfl q827 q828 q826 (gd_X1_isEmpty v1) rfl rfl rfl (Nat.le_of_ble_eq_true rfl) (by decide) (by decide) d_X11_pickets_4 (fun v2 => ?_)
  refine sa_join0 34 ([]) ([]) (?_) (fun j34 hj34 => ?_)
  · refine sa_iconst (v := (-1)) C d_X11_pickets_34 (by decide) ?_
    exact sa_iret C d_X11_pickets_35
  refine sa_if_ne (tgt := 34) C d_X11_pickets_7 (by decide) ?_ ?_
  · exact sa_sub [] rfl (hj34)
  refine sa_iload_n C d_X11_pickets_10 rfl 1 rfl ?_
  refine sa_iload_n C d_X11_pickets_11 rfl 2 rfl ?_
  refine sa_invS C (k_X11_areNights a1 a2) q1145 ds_X11_areNights q114 q1144 q1143 rfl rfl rfl (Nat.le_of_ble_eq_true rfl) (by decide) (by decide) d_X11_pickets_12 (fun v3 => ?_)
  refine sa_if_eq (tgt := 34) C d_X11_pickets_15 (by decide) ?_ ?_
  · exact sa_sub [] rfl (hj34)
  refine sa_iload_n C d_X11_pickets_18 rfl 3 rfl ?_
  refine sa_if_lt (tgt := 34) C d_X11_pickets_19 (by decide) ?_ ?_
  · exact sa_sub [] rfl (hj34)
  refine sa_iload_n C d_X11_pickets_22 rfl 3 rfl ?_
  refine sa_bipush (v := 99) C d_X11_pickets_23 (by decide) ?_
  refine sa_icmp_gt (tgt := 34) C d_X11_pickets_25 (by decide) ?_ ?_
  · exact sa_sub [] rfl (hj34)
  refine sa_iload C d_X11_pickets_28 4 rfl ?_
  refine sa_iconst (v := (-1)) C d_X11_pickets_30 (by decide) ?_
  refine sa_icmp_ge (tgt := 36) C d_X11_pickets_31 (by decide) ?_ ?_
  · refine sa_aload_n C d_X11_pickets_36 rfl 0 rfl ?_
    refine sa_getR C fd_X11_83 rfl d_X11_pickets_37 (fun v4 => ?_)
    refine sa_aload_n C d_X11_pickets_40 rfl 0 rfl ?_
    refine sa_getR C fd_X11_43 rfl d_X11_pickets_41 (fun v5 => ?_)
    refine sa_iload_n C d_X11_pickets_44 rfl 2 rfl ?_
    refine sa_iload_n C d_X11_pickets_45 rfl 3 rfl ?_
    refine sa_invV (ci := 10) C (k_X10_set v4 v5 a2 a3) q1149 ds_X10_set q127 rfl q1147 q1148 q1146 (gd_X10_set v4 v5 a2 a3) rfl rfl rfl (Nat.le_of_ble_eq_true rfl) (by decide) (by decide) d_X11_pickets_46 (fun _ => ?_)
    refine sa_aload_n C d_X11_pickets_49 rfl 0 rfl ?_
    refine sa_getR C fd_X11_83 rfl d_X11_pickets_50 (fun v6 => ?_)
    refine sa_iload_n C d_X11_pickets_53 rfl 1 rfl ?_
    refine sa_invV (ci := 10) C (k_X10_rows v6 a1) q1157 ds_X10_rows q127 rfl q1155 q1156 q1154 (gd_X10_rows v6 a1) rfl rfl rfl (Nat.le_of_ble_eq_true rfl) (by decide) (by decide) d_X11_pickets_54 (fun v7 => ?_)
    refine sa_istore (lv' := [(5, .int v7), (0, .ref (ad this)), (1, .int a1), (2, .int a2), (3, .int a3), (4, .int a4)]) C d_X11_pickets_57 (by decide) rfl ?_
    refine sa_iload C d_X11_pickets_59 5 rfl ?_
    refine sa_iconst (v := (-1)) C d_X11_pickets_61 (by decide) ?_
    refine sa_icmp_ne (tgt := 68) C d_X11_pickets_62 (by decide) ?_ ?_
    · refine sa_iload C d_X11_pickets_68 5 rfl ?_
      refine sa_iload C d_X11_pickets_70 0 rfl ?_
      refine sa_join1 89 (fun y8 => []) (fun y8 => [.int y8]) (fun y8 => ?_) (fun j89 hj89 => ?_)
      · exact sa_iret C d_X11_pickets_89
      refine sa_icmp_ge (tgt := 88) C d_X11_pickets_72 (by decide) ?_ ?_
      · refine sa_iconst (v := (-1)) C d_X11_pickets_88 (by decide) ?_
        exact sa_sub [] rfl (hj89 _)
      refine sa_aload_n C d_X11_pickets_75 rfl 1 rfl ?_
      refine sa_getR C fd_X11_83 rfl d_X11_pickets_76 (fun v9 => ?_)
      refine sa_iload_n C d_X11_pickets_79 rfl 2 rfl ?_
      refine sa_iload C d_X11_pickets_80 5 rfl ?_
      refine sa_invV (ci := 10) C (k_X10_row v9 a1 a4) q1164 ds_X10_row q127 rfl q1162 q1163 q1161 (gd_X10_row v9 a1 a4) rfl rfl rfl (Nat.le_of_ble_eq_true rfl) (by decide) (by decide) d_X11_pickets_82 (fun v10 => ?_)
      refine sa_goto (tgt := 89) C d_X11_pickets_85 (by decide) ?_
      exact sa_sub [] rfl (hj89 _)
    refine sa_iload C d_X11_pickets_65 0 rfl ?_
    exact sa_iret C d_X11_pickets_67
  exact sa_sub [] rfl (hj34)
theorem k_X11_pickets (this : Nat) (a1 : Int32) (a2 : Int32) (a3 : Int32) (a4 : Int32) : sa_Met 5 yX11_pickets cX11_pickets 6 (some .int) (fun ad => [.ref (ad this), .int a1, .int a2, .int a3, .int a4]) sa_eI (f_X11_pickets this a1 a2 a3 a4) := sa_mk (by decide) (fun ad => Nat.le_of_ble_eq_true rfl) (fun p l e s m args below meth c D ad cA A C => b_X11_pickets this a1 a2 a3 a4 C)
theorem gd_X11_pickets (this : Nat) (a1 : Int32) (a2 : Int32) (a3 : Int32) (a4 : Int32) (σ : sa_St) (r : Int32) (τ : sa_St) (h : f_X11_pickets this a1 a2 a3 a4 σ = some (r, τ)) : sa_sh this = some (.inl 11) := sa_gd_ok h
theorem d_X11_stock_0 : decode cX11_stock 0 = .ok (.aload_n 0, 1) := by decide +kernel
theorem d_X11_stock_1 : decode cX11_stock 1 = .ok (.getfield 19, 3) := by decide +kernel
theorem d_X11_stock_4 : decode cX11_stock 4 = .ok (.invokevirtual 157, 3) := by decide +kernel
theorem d_X11_stock_7 : decode cX11_stock 7 = .ok (.ifCond .ne 11, 3) := by decide +kernel
theorem d_X11_stock_10 : decode cX11_stock 10 = .ok (.iload_n 1, 1) := by decide +kernel
theorem d_X11_stock_11 : decode cX11_stock 11 = .ok (.iload_n 2, 1) := by decide +kernel
theorem d_X11_stock_12 : decode cX11_stock 12 = .ok (.invokestatic 247, 3) := by decide +kernel
theorem d_X11_stock_15 : decode cX11_stock 15 = .ok (.ifCond .ne 5, 3) := by decide +kernel
theorem d_X11_stock_18 : decode cX11_stock 18 = .ok (.iconst (-1), 1) := by decide +kernel
theorem d_X11_stock_19 : decode cX11_stock 19 = .ok (.ireturn, 1) := by decide +kernel
theorem d_X11_stock_20 : decode cX11_stock 20 = .ok (.iconst 0, 1) := by decide +kernel
theorem d_X11_stock_21 : decode cX11_stock 21 = .ok (.istore_n 3, 1) := by decide +kernel
theorem d_X11_stock_22 : decode cX11_stock 22 = .ok (.iload_n 3, 1) := by decide +kernel
theorem d_X11_stock_23 : decode cX11_stock 23 = .ok (.bipush 100, 2) := by decide +kernel
theorem d_X11_stock_25 : decode cX11_stock 25 = .ok (.if_icmp .ge 35, 3) := by decide +kernel
theorem d_X11_stock_28 : decode cX11_stock 28 = .ok (.aload_n 0, 1) := by decide +kernel
theorem d_X11_stock_29 : decode cX11_stock 29 = .ok (.getfield 83, 3) := by decide +kernel
theorem d_X11_stock_32 : decode cX11_stock 32 = .ok (.aload_n 0, 1) := by decide +kernel
theorem d_X11_stock_33 : decode cX11_stock 33 = .ok (.getfield 43, 3) := by decide +kernel
theorem d_X11_stock_36 : decode cX11_stock 36 = .ok (.iload_n 2, 1) := by decide +kernel
theorem d_X11_stock_37 : decode cX11_stock 37 = .ok (.iload_n 3, 1) := by decide +kernel
theorem d_X11_stock_38 : decode cX11_stock 38 = .ok (.invokevirtual 250, 3) := by decide +kernel
theorem d_X11_stock_41 : decode cX11_stock 41 = .ok (.aload_n 0, 1) := by decide +kernel
theorem d_X11_stock_42 : decode cX11_stock 42 = .ok (.getfield 83, 3) := by decide +kernel
theorem d_X11_stock_45 : decode cX11_stock 45 = .ok (.iload_n 1, 1) := by decide +kernel
theorem d_X11_stock_46 : decode cX11_stock 46 = .ok (.invokevirtual 254, 3) := by decide +kernel
theorem d_X11_stock_49 : decode cX11_stock 49 = .ok (.ifCond .ne 5, 3) := by decide +kernel
theorem d_X11_stock_52 : decode cX11_stock 52 = .ok (.iload_n 3, 1) := by decide +kernel
theorem d_X11_stock_53 : decode cX11_stock 53 = .ok (.ireturn, 1) := by decide +kernel
theorem d_X11_stock_54 : decode cX11_stock 54 = .ok (.iinc 3 1, 3) := by decide +kernel
theorem d_X11_stock_57 : decode cX11_stock 57 = .ok (.goto (-35), 3) := by decide +kernel
theorem d_X11_stock_60 : decode cX11_stock 60 = .ok (.bipush 100, 2) := by decide +kernel
theorem d_X11_stock_62 : decode cX11_stock 62 = .ok (.ireturn, 1) := by decide +kernel
def f_X11_stock (this : Nat) (a1 : Int32) (a2 : Int32) : sa_M Int32 :=
sa_gd 11 this (
sa_bnd (sa_rdR 11 this 1) fun v1 =>
sa_bnd (f_X1_isEmpty v1) fun v2 =>
sa_jn0 (sa_ret ((-1) : Int32)) fun j18 =>
if ¬ v2 = 0 then
j18
else
sa_bnd (f_X11_areNights a1 a2) fun v3 =>
if ¬ v3 = 0 then
sa_let (0 : Int32) fun x4 =>
sa_wh1 (fun j22 (x5 : Int32) =>
if 100 ≤ x5 then
sa_ret (100 : Int32)
else
sa_bnd (sa_rdR 11 this 12) fun v6 =>
sa_bnd (sa_rdR 11 this 6) fun v7 =>
sa_bnd (f_X10_set v6 v7 a2 x5) fun _ =>
sa_bnd (sa_rdR 11 this 12) fun v8 =>
sa_bnd (f_X10_rows v8 a1) fun v9 =>
if ¬ v9 = 0 then
sa_let ((x5 + 1) : Int32) fun x10 =>
j22 x10
else
sa_ret (x5 : Int32)) sa_F x4
else
j18)
set_option maxHeartbeats 1000000 in
set_option maxRecDepth 10000 in
theorem b_X11_stock {p : Program} {l : Launch} {e : Env} {s : State} {m : MethodId} {args : Array Value} {below : List Frame} {meth : Method} {c : Code} {D : va_G} {ad : Nat → Nat} {cA : FieldType → ClassId} {A : Nat → Prop} (this : Nat) (a1 : Int32) (a2 : Int32) (C : sa_C p s m args meth c cX11_stock RX11 "stock" 4 (some .int) D ad cA A) : sa_Sg p l e s m args below meth c 4 4 D ad cA A sa_eI 0 [(0, .ref (ad this)), (1, .int a1), (2, .int a2)] [] (f_X11_stock this a1 a2) := by
  unfold f_X11_stock
  refine sa_gdI ?_
  refine sa_aload_n C d_X11_stock_0 rfl 0 rfl ?_
  refine sa_getR C fd_X11_19 rfl d_X11_stock_1 (fun v1 => ?_)
  refine sa_invV (ci := 1) C (k_X1_isEmpty v1) q829 ds_X1_isEmpty q116 rfl q827 q828 q826 (gd_X1_isEmpty v1) rfl rfl rfl (Nat.le_of_ble_eq_true rfl) (by decide) (by decide) d_X11_stock_4 (fun v2 => ?_)
  refine sa_join0 18 ([]) ([]) (?_) (fun j18 hj18 => ?_)
  · refine sa_iconst (v := (-1)) C d_X11_stock_18 (by decide) ?_
    exact sa_iret C d_X11_stock_19
  refine sa_if_ne (tgt := 18) C d_X11_stock_7 (by decide) ?_ ?_
  · exact sa_sub [] rfl (hj18)
  refine sa_iload_n C d_X11_stock_10 rfl 1 rfl ?_
  refine sa_iload_n C d_X11_stock_11 rfl 2 rfl ?_
  refine sa_invS C (k_X11_areNights a1 a2) q1145 ds_X11_areNights q114 q1144 q1143 rfl rfl rfl (Nat.le_of_ble_eq_true rfl) (by decide) (by decide) d_X11_stock_12 (fun v3 => ?_)
  refine sa_if_ne (tgt := 20) C d_X11_stock_15 (by decide) ?_ ?_
  · refine sa_iconst (v := 0) C d_X11_stock_20 (by decide) ?_
    refine sa_topi (fun x4 => ?_)
    refine sa_istore_n (lv' := [(3, .int x4), (0, .ref (ad this)), (1, .int a1), (2, .int a2)]) C d_X11_stock_21 rfl (by decide) rfl ?_
    refine sa_sub [1, 2, 3, 0] rfl (sa_loop1 (fun x5 => [(0, .ref (ad this)), (1, .int a1), (2, .int a2), (3, .int x5)]) (fun x5 => []) (fun j22 hj22 x5 => ?_) _ _)
    refine sa_iload_n C d_X11_stock_22 rfl 3 rfl ?_
    refine sa_bipush (v := 100) C d_X11_stock_23 (by decide) ?_
    refine sa_icmp_ge (tgt := 60) C d_X11_stock_25 (by decide) ?_ ?_
    · refine sa_bipush (v := 100) C d_X11_stock_60 (by decide) ?_
      exact sa_iret C d_X11_stock_62
    refine sa_aload_n C d_X11_stock_28 rfl 0 rfl ?_
    refine sa_getR C fd_X11_83 rfl d_X11_stock_29 (fun v6 => ?_)
    refine sa_aload_n C d_X11_stock_32 rfl 0 rfl ?_
    refine sa_getR C fd_X11_43 rfl d_X11_stock_33 (fun v7 => ?_)
    refine sa_iload_n C d_X11_stock_36 rfl 2 rfl ?_
    refine sa_iload_n C d_X11_stock_37 rfl 3 rfl ?_
    refine sa_invV (ci := 10) C (k_X10_set v6 v7 a2 x5) q1149 ds_X10_set q127 rfl q1147 q1148 q1146 (gd_X10_set v6 v7 a2 x5) rfl rfl rfl (Nat.le_of_ble_eq_true rfl) (by decide) (by decide) d_X11_stock_38 (fun _ => ?_)
    refine sa_aload_n C d_X11_stock_41 rfl 0 rfl ?_
    refine sa_getR C fd_X11_83 rfl d_X11_stock_42 (fun v8 => ?_)
    refine sa_iload_n C d_X11_stock_45 rfl 1 rfl ?_
    refine sa_invV (ci := 10) C (k_X10_rows v8 a1) q1157 ds_X10_rows q127 rfl q1155 q1156 q1154 (gd_X10_rows v8 a1) rfl rfl rfl (Nat.le_of_ble_eq_true rfl) (by decide) (by decide) d_X11_stock_46 (fun v9 => ?_)
    refine sa_if_ne (tgt := 54) C d_X11_stock_49 (by decide) ?_ ?_
    · refine sa_iinc C (fun zz => [(3, .int zz), (0, .ref (ad this)), (1, .int a1), (2, .int a2)]) d_X11_stock_54 3 rfl rfl (by decide) (fun _ => rfl) (fun x10 => ?_)
      refine sa_goto (tgt := 22) C d_X11_stock_57 (by decide) ?_
      exact sa_sub [1, 2, 3, 0] rfl (hj22 _)
    refine sa_iload_n C d_X11_stock_52 rfl 3 rfl ?_
    exact sa_iret C d_X11_stock_53
  exact sa_sub [] rfl (hj18)
theorem k_X11_stock (this : Nat) (a1 : Int32) (a2 : Int32) : sa_Met 4 yX11_stock cX11_stock 4 (some .int) (fun ad => [.ref (ad this), .int a1, .int a2]) sa_eI (f_X11_stock this a1 a2) := sa_mk (by decide) (fun ad => Nat.le_of_ble_eq_true rfl) (fun p l e s m args below meth c D ad cA A C => b_X11_stock this a1 a2 C)
theorem gd_X11_stock (this : Nat) (a1 : Int32) (a2 : Int32) (σ : sa_St) (r : Int32) (τ : sa_St) (h : f_X11_stock this a1 a2 σ = some (r, τ)) : sa_sh this = some (.inl 11) := sa_gd_ok h
theorem d_X11_streak_0 : decode cX11_streak 0 = .ok (.aload_n 0, 1) := by decide +kernel
theorem d_X11_streak_1 : decode cX11_streak 1 = .ok (.getfield 19, 3) := by decide +kernel
theorem d_X11_streak_4 : decode cX11_streak 4 = .ok (.iload_n 1, 1) := by decide +kernel
theorem d_X11_streak_5 : decode cX11_streak 5 = .ok (.invokevirtual 117, 3) := by decide +kernel
theorem d_X11_streak_8 : decode cX11_streak 8 = .ok (.ifCond .ne 5, 3) := by decide +kernel
theorem d_X11_streak_11 : decode cX11_streak 11 = .ok (.iconst (-1), 1) := by decide +kernel
theorem d_X11_streak_12 : decode cX11_streak 12 = .ok (.ireturn, 1) := by decide +kernel
theorem d_X11_streak_13 : decode cX11_streak 13 = .ok (.aload_n 0, 1) := by decide +kernel
theorem d_X11_streak_14 : decode cX11_streak 14 = .ok (.getfield 76, 3) := by decide +kernel
theorem d_X11_streak_17 : decode cX11_streak 17 = .ok (.iload_n 1, 1) := by decide +kernel
theorem d_X11_streak_18 : decode cX11_streak 18 = .ok (.iload_n 2, 1) := by decide +kernel
theorem d_X11_streak_19 : decode cX11_streak 19 = .ok (.invokevirtual 260, 3) := by decide +kernel
theorem d_X11_streak_22 : decode cX11_streak 22 = .ok (.ireturn, 1) := by decide +kernel
def f_X11_streak (this : Nat) (a1 : Int32) (a2 : Int32) : sa_M Int32 :=
sa_gd 11 this (
sa_bnd (sa_rdR 11 this 1) fun v1 =>
sa_bnd (f_X1_hasPlace v1 a1) fun v2 =>
if ¬ v2 = 0 then
sa_bnd (sa_rdR 11 this 11) fun v3 =>
sa_bnd (f_X8_tell v3 a1 a2) fun v4 =>
sa_ret (v4 : Int32)
else
sa_ret ((-1) : Int32))
set_option maxHeartbeats 1000000 in
set_option maxRecDepth 10000 in
theorem b_X11_streak {p : Program} {l : Launch} {e : Env} {s : State} {m : MethodId} {args : Array Value} {below : List Frame} {meth : Method} {c : Code} {D : va_G} {ad : Nat → Nat} {cA : FieldType → ClassId} {A : Nat → Prop} (this : Nat) (a1 : Int32) (a2 : Int32) (C : sa_C p s m args meth c cX11_streak RX11 "streak" 3 (some .int) D ad cA A) : sa_Sg p l e s m args below meth c 3 2 D ad cA A sa_eI 0 [(0, .ref (ad this)), (1, .int a1), (2, .int a2)] [] (f_X11_streak this a1 a2) := by
  unfold f_X11_streak
  refine sa_gdI ?_
  refine sa_aload_n C d_X11_streak_0 rfl 0 rfl ?_
  refine sa_getR C fd_X11_19 rfl d_X11_streak_1 (fun v1 => ?_)
  refine sa_iload_n C d_X11_streak_4 rfl 1 rfl ?_
  refine sa_invV (ci := 1) C (k_X1_hasPlace v1 a1) q648 ds_X1_hasPlace q116 rfl q646 q647 q772 (gd_X1_hasPlace v1 a1) rfl rfl rfl (Nat.le_of_ble_eq_true rfl) (by decide) (by decide) d_X11_streak_5 (fun v2 => ?_)
  refine sa_if_ne (tgt := 13) C d_X11_streak_8 (by decide) ?_ ?_
  · refine sa_aload_n C d_X11_streak_13 rfl 0 rfl ?_
    refine sa_getR C fd_X11_76 rfl d_X11_streak_14 (fun v3 => ?_)
    refine sa_iload_n C d_X11_streak_17 rfl 1 rfl ?_
    refine sa_iload_n C d_X11_streak_18 rfl 2 rfl ?_
    refine sa_invV (ci := 8) C (k_X8_tell v3 a1 a2) q1181 ds_X8_tell q126 rfl q1179 q1180 q1178 (gd_X8_tell v3 a1 a2) rfl rfl rfl (Nat.le_of_ble_eq_true rfl) (by decide) (by decide) d_X11_streak_19 (fun v4 => ?_)
    exact sa_iret C d_X11_streak_22
  refine sa_iconst (v := (-1)) C d_X11_streak_11 (by decide) ?_
  exact sa_iret C d_X11_streak_12
theorem k_X11_streak (this : Nat) (a1 : Int32) (a2 : Int32) : sa_Met 2 yX11_streak cX11_streak 3 (some .int) (fun ad => [.ref (ad this), .int a1, .int a2]) sa_eI (f_X11_streak this a1 a2) := sa_mk (by decide) (fun ad => Nat.le_of_ble_eq_true rfl) (fun p l e s m args below meth c D ad cA A C => b_X11_streak this a1 a2 C)
theorem gd_X11_streak (this : Nat) (a1 : Int32) (a2 : Int32) (σ : sa_St) (r : Int32) (τ : sa_St) (h : f_X11_streak this a1 a2 σ = some (r, τ)) : sa_sh this = some (.inl 11) := sa_gd_ok h
theorem d_X11_rained_0 : decode cX11_rained 0 = .ok (.iload_n 3, 1) := by decide +kernel
theorem d_X11_rained_1 : decode cX11_rained 1 = .ok (.iconst (-1), 1) := by decide +kernel
theorem d_X11_rained_2 : decode cX11_rained 2 = .ok (.if_icmp .lt 12, 3) := by decide +kernel
theorem d_X11_rained_5 : decode cX11_rained 5 = .ok (.aload_n 0, 1) := by decide +kernel
theorem d_X11_rained_6 : decode cX11_rained 6 = .ok (.iload_n 1, 1) := by decide +kernel
theorem d_X11_rained_7 : decode cX11_rained 7 = .ok (.iload_n 2, 1) := by decide +kernel
theorem d_X11_rained_8 : decode cX11_rained 8 = .ok (.invokevirtual 209, 3) := by decide +kernel
theorem d_X11_rained_11 : decode cX11_rained 11 = .ok (.ifCond .ne 5, 3) := by decide +kernel
theorem d_X11_rained_14 : decode cX11_rained 14 = .ok (.iconst (-1), 1) := by decide +kernel
theorem d_X11_rained_15 : decode cX11_rained 15 = .ok (.ireturn, 1) := by decide +kernel
theorem d_X11_rained_16 : decode cX11_rained 16 = .ok (.aload_n 0, 1) := by decide +kernel
theorem d_X11_rained_17 : decode cX11_rained 17 = .ok (.getfield 69, 3) := by decide +kernel
theorem d_X11_rained_20 : decode cX11_rained 20 = .ok (.iconst 2, 1) := by decide +kernel
theorem d_X11_rained_21 : decode cX11_rained 21 = .ok (.invokevirtual 213, 3) := by decide +kernel
theorem d_X11_rained_24 : decode cX11_rained 24 = .ok (.istore 4, 2) := by decide +kernel
theorem d_X11_rained_26 : decode cX11_rained 26 = .ok (.aload_n 0, 1) := by decide +kernel
theorem d_X11_rained_27 : decode cX11_rained 27 = .ok (.getfield 69, 3) := by decide +kernel
theorem d_X11_rained_30 : decode cX11_rained 30 = .ok (.iload 4, 2) := by decide +kernel
theorem d_X11_rained_32 : decode cX11_rained 32 = .ok (.invokevirtual 222, 3) := by decide +kernel
theorem d_X11_rained_35 : decode cX11_rained 35 = .ok (.bipush 12, 2) := by decide +kernel
theorem d_X11_rained_37 : decode cX11_rained 37 = .ok (.if_icmp .le 5, 3) := by decide +kernel
theorem d_X11_rained_40 : decode cX11_rained 40 = .ok (.iconst (-1), 1) := by decide +kernel
theorem d_X11_rained_41 : decode cX11_rained 41 = .ok (.ireturn, 1) := by decide +kernel
theorem d_X11_rained_42 : decode cX11_rained 42 = .ok (.aload_n 0, 1) := by decide +kernel
theorem d_X11_rained_43 : decode cX11_rained 43 = .ok (.getfield 76, 3) := by decide +kernel
theorem d_X11_rained_46 : decode cX11_rained 46 = .ok (.aload_n 0, 1) := by decide +kernel
theorem d_X11_rained_47 : decode cX11_rained 47 = .ok (.getfield 69, 3) := by decide +kernel
theorem d_X11_rained_50 : decode cX11_rained 50 = .ok (.iload 4, 2) := by decide +kernel
theorem d_X11_rained_52 : decode cX11_rained 52 = .ok (.invokevirtual 262, 3) := by decide +kernel
theorem d_X11_rained_55 : decode cX11_rained 55 = .ok (.iload_n 3, 1) := by decide +kernel
theorem d_X11_rained_56 : decode cX11_rained 56 = .ok (.iconst (-1), 1) := by decide +kernel
theorem d_X11_rained_57 : decode cX11_rained 57 = .ok (.if_icmp .ne 13, 3) := by decide +kernel
theorem d_X11_rained_60 : decode cX11_rained 60 = .ok (.aload_n 0, 1) := by decide +kernel
theorem d_X11_rained_61 : decode cX11_rained 61 = .ok (.getfield 76, 3) := by decide +kernel
theorem d_X11_rained_64 : decode cX11_rained 64 = .ok (.invokevirtual 266, 3) := by decide +kernel
theorem d_X11_rained_67 : decode cX11_rained 67 = .ok (.goto 11, 3) := by decide +kernel
theorem d_X11_rained_70 : decode cX11_rained 70 = .ok (.aload_n 0, 1) := by decide +kernel
theorem d_X11_rained_71 : decode cX11_rained 71 = .ok (.getfield 76, 3) := by decide +kernel
theorem d_X11_rained_74 : decode cX11_rained 74 = .ok (.iload_n 3, 1) := by decide +kernel
theorem d_X11_rained_75 : decode cX11_rained 75 = .ok (.invokevirtual 269, 3) := by decide +kernel
theorem d_X11_rained_78 : decode cX11_rained 78 = .ok (.ireturn, 1) := by decide +kernel
def f_X11_rained (this : Nat) (a1 : Int32) (a2 : Int32) (a3 : Int32) : sa_M Int32 :=
sa_gd 11 this (
sa_jn0 (sa_ret ((-1) : Int32)) fun j14 =>
if a3 < (-1) then
j14
else
sa_bnd (f_X11_findsJourney this a1 a2) fun v1 =>
if ¬ v1 = 0 then
sa_bnd (sa_rdR 11 this 10) fun v2 =>
sa_bnd (f_X9_bestRow v2 2) fun v3 =>
sa_bnd (sa_rdR 11 this 10) fun v4 =>
sa_bnd (f_X9_hoursOf v4 v3) fun v5 =>
if v5 ≤ 12 then
sa_bnd (sa_rdR 11 this 11) fun v6 =>
sa_bnd (sa_rdR 11 this 10) fun v7 =>
sa_bnd (f_X8_weigh v6 v7 v3) fun _ =>
sa_jn1 (fun (y8 : Int32) =>
sa_ret (y8 : Int32)) fun j78 =>
if ¬ a3 = (-1) then
sa_bnd (sa_rdR 11 this 11) fun v9 =>
sa_bnd (f_X8_setThatFits v9 a3) fun v10 =>
j78 v10
else
sa_bnd (sa_rdR 11 this 11) fun v11 =>
sa_bnd (f_X8_setsThatFit v11) fun v12 =>
j78 v12
else
sa_ret ((-1) : Int32)
else
j14)
set_option maxHeartbeats 1000000 in
set_option maxRecDepth 10000 in
theorem b_X11_rained {p : Program} {l : Launch} {e : Env} {s : State} {m : MethodId} {args : Array Value} {below : List Frame} {meth : Method} {c : Code} {D : va_G} {ad : Nat → Nat} {cA : FieldType → ClassId} {A : Nat → Prop} (this : Nat) (a1 : Int32) (a2 : Int32) (a3 : Int32) (C : sa_C p s m args meth c cX11_rained RX11 "rained" 5 (some .int) D ad cA A) : sa_Sg p l e s m args below meth c 5 65 D ad cA A sa_eI 0 [(0, .ref (ad this)), (1, .int a1), (2, .int a2), (3, .int a3)] [] (f_X11_rained this a1 a2 a3) := by
  unfold f_X11_rained
  refine sa_gdI ?_
  refine sa_iload_n C d_X11_rained_0 rfl 3 rfl ?_
  refine sa_iconst (v := (-1)) C d_X11_rained_1 (by decide) ?_
  refine sa_join0 14 ([]) ([]) (?_) (fun j14 hj14 => ?_)
  · refine sa_iconst (v := (-1)) C d_X11_rained_14 (by decide) ?_
    exact sa_iret C d_X11_rained_15
  refine sa_icmp_lt (tgt := 14) C d_X11_rained_2 (by decide) ?_ ?_
  · exact sa_sub [] rfl (hj14)
  refine sa_aload_n C d_X11_rained_5 rfl 0 rfl ?_
  refine sa_iload_n C d_X11_rained_6 rfl 1 rfl ?_
  refine sa_iload_n C d_X11_rained_7 rfl 2 rfl ?_
  refine sa_invV (ci := 11) C (k_X11_findsJourney this a1 a2) q1018 ds_X11_findsJourney q114 rfl q1017 q28 q1015 (gd_X11_findsJourney this a1 a2) rfl rfl rfl (Nat.le_of_ble_eq_true rfl) (by decide) (by decide) d_X11_rained_8 (fun v1 => ?_)
  refine sa_if_ne (tgt := 16) C d_X11_rained_11 (by decide) ?_ ?_
  · refine sa_aload_n C d_X11_rained_16 rfl 0 rfl ?_
    refine sa_getR C fd_X11_69 rfl d_X11_rained_17 (fun v2 => ?_)
    refine sa_iconst (v := 2) C d_X11_rained_20 (by decide) ?_
    refine sa_invV (ci := 9) C (k_X9_bestRow v2 2) q1047 ds_X9_bestRow q125 rfl q1045 q1046 q1044 (gd_X9_bestRow v2 2) rfl rfl rfl (Nat.le_of_ble_eq_true rfl) (by decide) (by decide) d_X11_rained_21 (fun v3 => ?_)
    refine sa_istore (lv' := [(4, .int v3), (0, .ref (ad this)), (1, .int a1), (2, .int a2), (3, .int a3)]) C d_X11_rained_24 (by decide) rfl ?_
    refine sa_aload_n C d_X11_rained_26 rfl 1 rfl ?_
    refine sa_getR C fd_X11_69 rfl d_X11_rained_27 (fun v4 => ?_)
    refine sa_iload C d_X11_rained_30 0 rfl ?_
    refine sa_invV (ci := 9) C (k_X9_hoursOf v4 v3) q1051 ds_X9_hoursOf q125 rfl q1049 q1050 q1111 (gd_X9_hoursOf v4 v3) rfl rfl rfl (Nat.le_of_ble_eq_true rfl) (by decide) (by decide) d_X11_rained_32 (fun v5 => ?_)
    refine sa_bipush (v := 12) C d_X11_rained_35 (by decide) ?_
    refine sa_icmp_le (tgt := 42) C d_X11_rained_37 (by decide) ?_ ?_
    · refine sa_aload_n C d_X11_rained_42 rfl 1 rfl ?_
      refine sa_getR C fd_X11_76 rfl d_X11_rained_43 (fun v6 => ?_)
      refine sa_aload_n C d_X11_rained_46 rfl 1 rfl ?_
      refine sa_getR C fd_X11_69 rfl d_X11_rained_47 (fun v7 => ?_)
      refine sa_iload C d_X11_rained_50 0 rfl ?_
      refine sa_invV (ci := 8) C (k_X8_weigh v6 v7 v3) q1189 ds_X8_weigh q126 rfl q1187 q1188 q1186 (gd_X8_weigh v6 v7 v3) rfl rfl rfl (Nat.le_of_ble_eq_true rfl) (by decide) (by decide) d_X11_rained_52 (fun _ => ?_)
      refine sa_iload_n C d_X11_rained_55 rfl 4 rfl ?_
      refine sa_iconst (v := (-1)) C d_X11_rained_56 (by decide) ?_
      refine sa_join1 78 (fun y8 => []) (fun y8 => [.int y8]) (fun y8 => ?_) (fun j78 hj78 => ?_)
      · exact sa_iret C d_X11_rained_78
      refine sa_icmp_ne (tgt := 70) C d_X11_rained_57 (by decide) ?_ ?_
      · refine sa_aload_n C d_X11_rained_70 rfl 1 rfl ?_
        refine sa_getR C fd_X11_76 rfl d_X11_rained_71 (fun v9 => ?_)
        refine sa_iload_n C d_X11_rained_74 rfl 4 rfl ?_
        refine sa_invV (ci := 8) C (k_X8_setThatFits v9 a3) q1221 ds_X8_setThatFits q126 rfl q1219 q1220 q1218 (gd_X8_setThatFits v9 a3) rfl rfl rfl (Nat.le_of_ble_eq_true rfl) (by decide) (by decide) d_X11_rained_75 (fun v10 => ?_)
        exact sa_sub [] rfl (hj78 _)
      refine sa_aload_n C d_X11_rained_60 rfl 1 rfl ?_
      refine sa_getR C fd_X11_76 rfl d_X11_rained_61 (fun v11 => ?_)
      refine sa_invV (ci := 8) C (k_X8_setsThatFit v11) q1217 ds_X8_setsThatFit q126 rfl q1215 q1216 q1214 (gd_X8_setsThatFit v11) rfl rfl rfl (Nat.le_of_ble_eq_true rfl) (by decide) (by decide) d_X11_rained_64 (fun v12 => ?_)
      refine sa_goto (tgt := 78) C d_X11_rained_67 (by decide) ?_
      exact sa_sub [] rfl (hj78 _)
    refine sa_iconst (v := (-1)) C d_X11_rained_40 (by decide) ?_
    exact sa_iret C d_X11_rained_41
  exact sa_sub [] rfl (hj14)
theorem k_X11_rained (this : Nat) (a1 : Int32) (a2 : Int32) (a3 : Int32) : sa_Met 65 yX11_rained cX11_rained 5 (some .int) (fun ad => [.ref (ad this), .int a1, .int a2, .int a3]) sa_eI (f_X11_rained this a1 a2 a3) := sa_mk (by decide) (fun ad => Nat.le_of_ble_eq_true rfl) (fun p l e s m args below meth c D ad cA A C => b_X11_rained this a1 a2 a3 C)
theorem gd_X11_rained (this : Nat) (a1 : Int32) (a2 : Int32) (a3 : Int32) (σ : sa_St) (r : Int32) (τ : sa_St) (h : f_X11_rained this a1 a2 a3 σ = some (r, τ)) : sa_sh this = some (.inl 11) := sa_gd_ok h
theorem d_X11_knows_0 : decode cX11_knows 0 = .ok (.aload_n 0, 1) := by decide +kernel
theorem d_X11_knows_1 : decode cX11_knows 1 = .ok (.getfield 19, 3) := by decide +kernel
theorem d_X11_knows_4 : decode cX11_knows 4 = .ok (.invokevirtual 157, 3) := by decide +kernel
theorem d_X11_knows_7 : decode cX11_knows 7 = .ok (.ifCond .ne 12, 3) := by decide +kernel
theorem d_X11_knows_10 : decode cX11_knows 10 = .ok (.iload_n 1, 1) := by decide +kernel
theorem d_X11_knows_11 : decode cX11_knows 11 = .ok (.ifCond .lt 8, 3) := by decide +kernel
theorem d_X11_knows_14 : decode cX11_knows 14 = .ok (.iload_n 1, 1) := by decide +kernel
theorem d_X11_knows_15 : decode cX11_knows 15 = .ok (.iconst 4, 1) := by decide +kernel
theorem d_X11_knows_16 : decode cX11_knows 16 = .ok (.if_icmp .lt 5, 3) := by decide +kernel
theorem d_X11_knows_19 : decode cX11_knows 19 = .ok (.iconst (-1), 1) := by decide +kernel
theorem d_X11_knows_20 : decode cX11_knows 20 = .ok (.ireturn, 1) := by decide +kernel
theorem d_X11_knows_21 : decode cX11_knows 21 = .ok (.aload_n 0, 1) := by decide +kernel
theorem d_X11_knows_22 : decode cX11_knows 22 = .ok (.getfield 43, 3) := by decide +kernel
theorem d_X11_knows_25 : decode cX11_knows 25 = .ok (.iload_n 1, 1) := by decide +kernel
theorem d_X11_knows_26 : decode cX11_knows 26 = .ok (.invokevirtual 272, 3) := by decide +kernel
theorem d_X11_knows_29 : decode cX11_knows 29 = .ok (.ireturn, 1) := by decide +kernel
def f_X11_knows (this : Nat) (a1 : Int32) : sa_M Int32 :=
sa_gd 11 this (
sa_bnd (sa_rdR 11 this 1) fun v1 =>
sa_bnd (f_X1_isEmpty v1) fun v2 =>
sa_jn0 (sa_ret ((-1) : Int32)) fun j19 =>
if ¬ v2 = 0 then
j19
else
if a1 < 0 then
j19
else
if a1 < 4 then
sa_bnd (sa_rdR 11 this 6) fun v3 =>
sa_bnd (f_X0_whoKnows v3 a1) fun v4 =>
sa_ret (v4 : Int32)
else
j19)
set_option maxHeartbeats 1000000 in
set_option maxRecDepth 10000 in
theorem b_X11_knows {p : Program} {l : Launch} {e : Env} {s : State} {m : MethodId} {args : Array Value} {below : List Frame} {meth : Method} {c : Code} {D : va_G} {ad : Nat → Nat} {cA : FieldType → ClassId} {A : Nat → Prop} (this : Nat) (a1 : Int32) (C : sa_C p s m args meth c cX11_knows RX11 "knows" 2 (some .int) D ad cA A) : sa_Sg p l e s m args below meth c 2 4 D ad cA A sa_eI 0 [(0, .ref (ad this)), (1, .int a1)] [] (f_X11_knows this a1) := by
  unfold f_X11_knows
  refine sa_gdI ?_
  refine sa_aload_n C d_X11_knows_0 rfl 0 rfl ?_
  refine sa_getR C fd_X11_19 rfl d_X11_knows_1 (fun v1 => ?_)
  refine sa_invV (ci := 1) C (k_X1_isEmpty v1) q829 ds_X1_isEmpty q116 rfl q827 q828 q826 (gd_X1_isEmpty v1) rfl rfl rfl (Nat.le_of_ble_eq_true rfl) (by decide) (by decide) d_X11_knows_4 (fun v2 => ?_)
  refine sa_join0 19 ([]) ([]) (?_) (fun j19 hj19 => ?_)
  · refine sa_iconst (v := (-1)) C d_X11_knows_19 (by decide) ?_
    exact sa_iret C d_X11_knows_20
  refine sa_if_ne (tgt := 19) C d_X11_knows_7 (by decide) ?_ ?_
  · exact sa_sub [] rfl (hj19)
  refine sa_iload_n C d_X11_knows_10 rfl 1 rfl ?_
  refine sa_if_lt (tgt := 19) C d_X11_knows_11 (by decide) ?_ ?_
  · exact sa_sub [] rfl (hj19)
  refine sa_iload_n C d_X11_knows_14 rfl 1 rfl ?_
  refine sa_iconst (v := 4) C d_X11_knows_15 (by decide) ?_
  refine sa_icmp_lt (tgt := 21) C d_X11_knows_16 (by decide) ?_ ?_
  · refine sa_aload_n C d_X11_knows_21 rfl 0 rfl ?_
    refine sa_getR C fd_X11_43 rfl d_X11_knows_22 (fun v3 => ?_)
    refine sa_iload_n C d_X11_knows_25 rfl 1 rfl ?_
    refine sa_invV (ci := 0) C (k_X0_whoKnows v3 a1) q1229 ds_X0_whoKnows q121 rfl q1227 q1228 q1226 (gd_X0_whoKnows v3 a1) rfl rfl rfl (Nat.le_of_ble_eq_true rfl) (by decide) (by decide) d_X11_knows_26 (fun v4 => ?_)
    exact sa_iret C d_X11_knows_29
  exact sa_sub [] rfl (hj19)
theorem k_X11_knows (this : Nat) (a1 : Int32) : sa_Met 4 yX11_knows cX11_knows 2 (some .int) (fun ad => [.ref (ad this), .int a1]) sa_eI (f_X11_knows this a1) := sa_mk (by decide) (fun ad => Nat.le_of_ble_eq_true rfl) (fun p l e s m args below meth c D ad cA A C => b_X11_knows this a1 C)
theorem gd_X11_knows (this : Nat) (a1 : Int32) (σ : sa_St) (r : Int32) (τ : sa_St) (h : f_X11_knows this a1 σ = some (r, τ)) : sa_sh this = some (.inl 11) := sa_gd_ok h
theorem d_X11_hears_0 : decode cX11_hears 0 = .ok (.aload_n 0, 1) := by decide +kernel
theorem d_X11_hears_1 : decode cX11_hears 1 = .ok (.getfield 19, 3) := by decide +kernel
theorem d_X11_hears_4 : decode cX11_hears 4 = .ok (.invokevirtual 157, 3) := by decide +kernel
theorem d_X11_hears_7 : decode cX11_hears 7 = .ok (.ifCond .ne 13, 3) := by decide +kernel
theorem d_X11_hears_10 : decode cX11_hears 10 = .ok (.iload_n 1, 1) := by decide +kernel
theorem d_X11_hears_11 : decode cX11_hears 11 = .ok (.ifCond .lt 9, 3) := by decide +kernel
theorem d_X11_hears_14 : decode cX11_hears 14 = .ok (.iload_n 1, 1) := by decide +kernel
theorem d_X11_hears_15 : decode cX11_hears 15 = .ok (.bipush 7, 2) := by decide +kernel
theorem d_X11_hears_17 : decode cX11_hears 17 = .ok (.if_icmp .le 5, 3) := by decide +kernel
theorem d_X11_hears_20 : decode cX11_hears 20 = .ok (.iconst (-1), 1) := by decide +kernel
theorem d_X11_hears_21 : decode cX11_hears 21 = .ok (.ireturn, 1) := by decide +kernel
theorem d_X11_hears_22 : decode cX11_hears 22 = .ok (.aload_n 0, 1) := by decide +kernel
theorem d_X11_hears_23 : decode cX11_hears 23 = .ok (.getfield 43, 3) := by decide +kernel
theorem d_X11_hears_26 : decode cX11_hears 26 = .ok (.aload_n 0, 1) := by decide +kernel
theorem d_X11_hears_27 : decode cX11_hears 27 = .ok (.getfield 19, 3) := by decide +kernel
theorem d_X11_hears_30 : decode cX11_hears 30 = .ok (.iload_n 1, 1) := by decide +kernel
theorem d_X11_hears_31 : decode cX11_hears 31 = .ok (.invokevirtual 275, 3) := by decide +kernel
theorem d_X11_hears_34 : decode cX11_hears 34 = .ok (.ireturn, 1) := by decide +kernel
def f_X11_hears (this : Nat) (a1 : Int32) : sa_M Int32 :=
sa_gd 11 this (
sa_bnd (sa_rdR 11 this 1) fun v1 =>
sa_bnd (f_X1_isEmpty v1) fun v2 =>
sa_jn0 (sa_ret ((-1) : Int32)) fun j20 =>
if ¬ v2 = 0 then
j20
else
if a1 < 0 then
j20
else
if a1 ≤ 7 then
sa_bnd (sa_rdR 11 this 6) fun v3 =>
sa_bnd (sa_rdR 11 this 1) fun v4 =>
sa_bnd (f_X0_howManyHear v3 v4 a1) fun v5 =>
sa_ret (v5 : Int32)
else
j20)
set_option maxHeartbeats 1000000 in
set_option maxRecDepth 10000 in
theorem b_X11_hears {p : Program} {l : Launch} {e : Env} {s : State} {m : MethodId} {args : Array Value} {below : List Frame} {meth : Method} {c : Code} {D : va_G} {ad : Nat → Nat} {cA : FieldType → ClassId} {A : Nat → Prop} (this : Nat) (a1 : Int32) (C : sa_C p s m args meth c cX11_hears RX11 "hears" 2 (some .int) D ad cA A) : sa_Sg p l e s m args below meth c 2 5 D ad cA A sa_eI 0 [(0, .ref (ad this)), (1, .int a1)] [] (f_X11_hears this a1) := by
  unfold f_X11_hears
  refine sa_gdI ?_
  refine sa_aload_n C d_X11_hears_0 rfl 0 rfl ?_
  refine sa_getR C fd_X11_19 rfl d_X11_hears_1 (fun v1 => ?_)
  refine sa_invV (ci := 1) C (k_X1_isEmpty v1) q829 ds_X1_isEmpty q116 rfl q827 q828 q826 (gd_X1_isEmpty v1) rfl rfl rfl (Nat.le_of_ble_eq_true rfl) (by decide) (by decide) d_X11_hears_4 (fun v2 => ?_)
  refine sa_join0 20 ([]) ([]) (?_) (fun j20 hj20 => ?_)
  · refine sa_iconst (v := (-1)) C d_X11_hears_20 (by decide) ?_
    exact sa_iret C d_X11_hears_21
  refine sa_if_ne (tgt := 20) C d_X11_hears_7 (by decide) ?_ ?_
  · exact sa_sub [] rfl (hj20)
  refine sa_iload_n C d_X11_hears_10 rfl 1 rfl ?_
  refine sa_if_lt (tgt := 20) C d_X11_hears_11 (by decide) ?_ ?_
  · exact sa_sub [] rfl (hj20)
  refine sa_iload_n C d_X11_hears_14 rfl 1 rfl ?_
  refine sa_bipush (v := 7) C d_X11_hears_15 (by decide) ?_
  refine sa_icmp_le (tgt := 22) C d_X11_hears_17 (by decide) ?_ ?_
  · refine sa_aload_n C d_X11_hears_22 rfl 0 rfl ?_
    refine sa_getR C fd_X11_43 rfl d_X11_hears_23 (fun v3 => ?_)
    refine sa_aload_n C d_X11_hears_26 rfl 0 rfl ?_
    refine sa_getR C fd_X11_19 rfl d_X11_hears_27 (fun v4 => ?_)
    refine sa_iload_n C d_X11_hears_30 rfl 1 rfl ?_
    refine sa_invV (ci := 0) C (k_X0_howManyHear v3 v4 a1) q1237 ds_X0_howManyHear q121 rfl q1235 q1236 q1234 (gd_X0_howManyHear v3 v4 a1) rfl rfl rfl (Nat.le_of_ble_eq_true rfl) (by decide) (by decide) d_X11_hears_31 (fun v5 => ?_)
    exact sa_iret C d_X11_hears_34
  exact sa_sub [] rfl (hj20)
theorem k_X11_hears (this : Nat) (a1 : Int32) : sa_Met 5 yX11_hears cX11_hears 2 (some .int) (fun ad => [.ref (ad this), .int a1]) sa_eI (f_X11_hears this a1) := sa_mk (by decide) (fun ad => Nat.le_of_ble_eq_true rfl) (fun p l e s m args below meth c D ad cA A C => b_X11_hears this a1 C)
theorem gd_X11_hears (this : Nat) (a1 : Int32) (σ : sa_St) (r : Int32) (τ : sa_St) (h : f_X11_hears this a1 σ = some (r, τ)) : sa_sh this = some (.inl 11) := sa_gd_ok h
theorem d_X11_weakest_0 : decode cX11_weakest 0 = .ok (.aload_n 0, 1) := by decide +kernel
theorem d_X11_weakest_1 : decode cX11_weakest 1 = .ok (.getfield 43, 3) := by decide +kernel
theorem d_X11_weakest_4 : decode cX11_weakest 4 = .ok (.invokevirtual 279, 3) := by decide +kernel
theorem d_X11_weakest_7 : decode cX11_weakest 7 = .ok (.ireturn, 1) := by decide +kernel
def f_X11_weakest (this : Nat) : sa_M Int32 :=
sa_gd 11 this (
sa_bnd (sa_rdR 11 this 6) fun v1 =>
sa_bnd (f_X0_weakestOne v1) fun v2 =>
sa_ret (v2 : Int32))
set_option maxHeartbeats 1000000 in
set_option maxRecDepth 10000 in
theorem b_X11_weakest {p : Program} {l : Launch} {e : Env} {s : State} {m : MethodId} {args : Array Value} {below : List Frame} {meth : Method} {c : Code} {D : va_G} {ad : Nat → Nat} {cA : FieldType → ClassId} {A : Nat → Prop} (this : Nat) (C : sa_C p s m args meth c cX11_weakest RX11 "weakest" 1 (some .int) D ad cA A) : sa_Sg p l e s m args below meth c 1 4 D ad cA A sa_eI 0 [(0, .ref (ad this))] [] (f_X11_weakest this) := by
  unfold f_X11_weakest
  refine sa_gdI ?_
  refine sa_aload_n C d_X11_weakest_0 rfl 0 rfl ?_
  refine sa_getR C fd_X11_43 rfl d_X11_weakest_1 (fun v1 => ?_)
  refine sa_invV (ci := 0) C (k_X0_weakestOne v1) q1261 ds_X0_weakestOne q121 rfl q1259 q1260 q1258 (gd_X0_weakestOne v1) rfl rfl rfl (Nat.le_of_ble_eq_true rfl) (by decide) (by decide) d_X11_weakest_4 (fun v2 => ?_)
  exact sa_iret C d_X11_weakest_7
theorem k_X11_weakest (this : Nat) : sa_Met 4 yX11_weakest cX11_weakest 1 (some .int) (fun ad => [.ref (ad this)]) sa_eI (f_X11_weakest this) := sa_mk (by decide) (fun ad => Nat.le_of_ble_eq_true rfl) (fun p l e s m args below meth c D ad cA A C => b_X11_weakest this C)
theorem gd_X11_weakest (this : Nat) (σ : sa_St) (r : Int32) (τ : sa_St) (h : f_X11_weakest this σ = some (r, τ)) : sa_sh this = some (.inl 11) := sa_gd_ok h
theorem d_X11_reach_0 : decode cX11_reach 0 = .ok (.aload_n 0, 1) := by decide +kernel
theorem d_X11_reach_1 : decode cX11_reach 1 = .ok (.getfield 19, 3) := by decide +kernel
theorem d_X11_reach_4 : decode cX11_reach 4 = .ok (.iload_n 1, 1) := by decide +kernel
theorem d_X11_reach_5 : decode cX11_reach 5 = .ok (.invokevirtual 117, 3) := by decide +kernel
theorem d_X11_reach_8 : decode cX11_reach 8 = .ok (.ifCond .eq 14, 3) := by decide +kernel
theorem d_X11_reach_11 : decode cX11_reach 11 = .ok (.aload_n 0, 1) := by decide +kernel
theorem d_X11_reach_12 : decode cX11_reach 12 = .ok (.getfield 19, 3) := by decide +kernel
theorem d_X11_reach_15 : decode cX11_reach 15 = .ok (.iload_n 2, 1) := by decide +kernel
theorem d_X11_reach_16 : decode cX11_reach 16 = .ok (.invokevirtual 117, 3) := by decide +kernel
theorem d_X11_reach_19 : decode cX11_reach 19 = .ok (.ifCond .ne 5, 3) := by decide +kernel
theorem d_X11_reach_22 : decode cX11_reach 22 = .ok (.iconst (-1), 1) := by decide +kernel
theorem d_X11_reach_23 : decode cX11_reach 23 = .ok (.ireturn, 1) := by decide +kernel
theorem d_X11_reach_24 : decode cX11_reach 24 = .ok (.aload_n 0, 1) := by decide +kernel
theorem d_X11_reach_25 : decode cX11_reach 25 = .ok (.getfield 19, 3) := by decide +kernel
theorem d_X11_reach_28 : decode cX11_reach 28 = .ok (.iload_n 1, 1) := by decide +kernel
theorem d_X11_reach_29 : decode cX11_reach 29 = .ok (.iload_n 2, 1) := by decide +kernel
theorem d_X11_reach_30 : decode cX11_reach 30 = .ok (.invokevirtual 282, 3) := by decide +kernel
theorem d_X11_reach_33 : decode cX11_reach 33 = .ok (.ireturn, 1) := by decide +kernel
def f_X11_reach (this : Nat) (a1 : Int32) (a2 : Int32) : sa_M Int32 :=
sa_gd 11 this (
sa_bnd (sa_rdR 11 this 1) fun v1 =>
sa_bnd (f_X1_hasPlace v1 a1) fun v2 =>
sa_jn0 (sa_ret ((-1) : Int32)) fun j22 =>
if v2 = 0 then
j22
else
sa_bnd (sa_rdR 11 this 1) fun v3 =>
sa_bnd (f_X1_hasPlace v3 a2) fun v4 =>
if ¬ v4 = 0 then
sa_bnd (sa_rdR 11 this 1) fun v5 =>
sa_bnd (f_X1_hoursBetween v5 a1 a2) fun v6 =>
sa_ret (v6 : Int32)
else
j22)
set_option maxHeartbeats 1000000 in
set_option maxRecDepth 10000 in
theorem b_X11_reach {p : Program} {l : Launch} {e : Env} {s : State} {m : MethodId} {args : Array Value} {below : List Frame} {meth : Method} {c : Code} {D : va_G} {ad : Nat → Nat} {cA : FieldType → ClassId} {A : Nat → Prop} (this : Nat) (a1 : Int32) (a2 : Int32) (C : sa_C p s m args meth c cX11_reach RX11 "reach" 3 (some .int) D ad cA A) : sa_Sg p l e s m args below meth c 3 2 D ad cA A sa_eI 0 [(0, .ref (ad this)), (1, .int a1), (2, .int a2)] [] (f_X11_reach this a1 a2) := by
  unfold f_X11_reach
  refine sa_gdI ?_
  refine sa_aload_n C d_X11_reach_0 rfl 0 rfl ?_
  refine sa_getR C fd_X11_19 rfl d_X11_reach_1 (fun v1 => ?_)
  refine sa_iload_n C d_X11_reach_4 rfl 1 rfl ?_
  refine sa_invV (ci := 1) C (k_X1_hasPlace v1 a1) q648 ds_X1_hasPlace q116 rfl q646 q647 q772 (gd_X1_hasPlace v1 a1) rfl rfl rfl (Nat.le_of_ble_eq_true rfl) (by decide) (by decide) d_X11_reach_5 (fun v2 => ?_)
  refine sa_join0 22 ([]) ([]) (?_) (fun j22 hj22 => ?_)
  · refine sa_iconst (v := (-1)) C d_X11_reach_22 (by decide) ?_
    exact sa_iret C d_X11_reach_23
  refine sa_if_eq (tgt := 22) C d_X11_reach_8 (by decide) ?_ ?_
  · exact sa_sub [] rfl (hj22)
  refine sa_aload_n C d_X11_reach_11 rfl 0 rfl ?_
  refine sa_getR C fd_X11_19 rfl d_X11_reach_12 (fun v3 => ?_)
  refine sa_iload_n C d_X11_reach_15 rfl 2 rfl ?_
  refine sa_invV (ci := 1) C (k_X1_hasPlace v3 a2) q648 ds_X1_hasPlace q116 rfl q646 q647 q772 (gd_X1_hasPlace v3 a2) rfl rfl rfl (Nat.le_of_ble_eq_true rfl) (by decide) (by decide) d_X11_reach_16 (fun v4 => ?_)
  refine sa_if_ne (tgt := 24) C d_X11_reach_19 (by decide) ?_ ?_
  · refine sa_aload_n C d_X11_reach_24 rfl 0 rfl ?_
    refine sa_getR C fd_X11_19 rfl d_X11_reach_25 (fun v5 => ?_)
    refine sa_iload_n C d_X11_reach_28 rfl 1 rfl ?_
    refine sa_iload_n C d_X11_reach_29 rfl 2 rfl ?_
    refine sa_invV (ci := 1) C (k_X1_hoursBetween v5 a1 a2) q1269 ds_X1_hoursBetween q116 rfl q1267 q1268 q1266 (gd_X1_hoursBetween v5 a1 a2) rfl rfl rfl (Nat.le_of_ble_eq_true rfl) (by decide) (by decide) d_X11_reach_30 (fun v6 => ?_)
    exact sa_iret C d_X11_reach_33
  exact sa_sub [] rfl (hj22)
theorem k_X11_reach (this : Nat) (a1 : Int32) (a2 : Int32) : sa_Met 2 yX11_reach cX11_reach 3 (some .int) (fun ad => [.ref (ad this), .int a1, .int a2]) sa_eI (f_X11_reach this a1 a2) := sa_mk (by decide) (fun ad => Nat.le_of_ble_eq_true rfl) (fun p l e s m args below meth c D ad cA A C => b_X11_reach this a1 a2 C)
theorem gd_X11_reach (this : Nat) (a1 : Int32) (a2 : Int32) (σ : sa_St) (r : Int32) (τ : sa_St) (h : f_X11_reach this a1 a2 σ = some (r, τ)) : sa_sh this = some (.inl 11) := sa_gd_ok h
theorem d_X11_dry_0 : decode cX11_dry 0 = .ok (.aload_n 0, 1) := by decide +kernel
theorem d_X11_dry_1 : decode cX11_dry 1 = .ok (.getfield 19, 3) := by decide +kernel
theorem d_X11_dry_4 : decode cX11_dry 4 = .ok (.iload_n 1, 1) := by decide +kernel
theorem d_X11_dry_5 : decode cX11_dry 5 = .ok (.invokevirtual 117, 3) := by decide +kernel
theorem d_X11_dry_8 : decode cX11_dry 8 = .ok (.ifCond .eq 14, 3) := by decide +kernel
theorem d_X11_dry_11 : decode cX11_dry 11 = .ok (.aload_n 0, 1) := by decide +kernel
theorem d_X11_dry_12 : decode cX11_dry 12 = .ok (.getfield 19, 3) := by decide +kernel
theorem d_X11_dry_15 : decode cX11_dry 15 = .ok (.iload_n 1, 1) := by decide +kernel
theorem d_X11_dry_16 : decode cX11_dry 16 = .ok (.invokevirtual 285, 3) := by decide +kernel
theorem d_X11_dry_19 : decode cX11_dry 19 = .ok (.goto 4, 3) := by decide +kernel
theorem d_X11_dry_22 : decode cX11_dry 22 = .ok (.iconst (-1), 1) := by decide +kernel
theorem d_X11_dry_23 : decode cX11_dry 23 = .ok (.ireturn, 1) := by decide +kernel
def f_X11_dry (this : Nat) (a1 : Int32) : sa_M Int32 :=
sa_gd 11 this (
sa_bnd (sa_rdR 11 this 1) fun v1 =>
sa_bnd (f_X1_hasPlace v1 a1) fun v2 =>
sa_jn1 (fun (y3 : Int32) =>
sa_ret (y3 : Int32)) fun j23 =>
if v2 = 0 then
j23 (-1)
else
sa_bnd (sa_rdR 11 this 1) fun v4 =>
sa_bnd (f_X1_hoursToRoof v4 a1) fun v5 =>
j23 v5)
set_option maxHeartbeats 1000000 in
set_option maxRecDepth 10000 in
theorem b_X11_dry {p : Program} {l : Launch} {e : Env} {s : State} {m : MethodId} {args : Array Value} {below : List Frame} {meth : Method} {c : Code} {D : va_G} {ad : Nat → Nat} {cA : FieldType → ClassId} {A : Nat → Prop} (this : Nat) (a1 : Int32) (C : sa_C p s m args meth c cX11_dry RX11 "dry" 2 (some .int) D ad cA A) : sa_Sg p l e s m args below meth c 2 4 D ad cA A sa_eI 0 [(0, .ref (ad this)), (1, .int a1)] [] (f_X11_dry this a1) := by
  unfold f_X11_dry
  refine sa_gdI ?_
  refine sa_aload_n C d_X11_dry_0 rfl 0 rfl ?_
  refine sa_getR C fd_X11_19 rfl d_X11_dry_1 (fun v1 => ?_)
  refine sa_iload_n C d_X11_dry_4 rfl 1 rfl ?_
  refine sa_invV (ci := 1) C (k_X1_hasPlace v1 a1) q648 ds_X1_hasPlace q116 rfl q646 q647 q772 (gd_X1_hasPlace v1 a1) rfl rfl rfl (Nat.le_of_ble_eq_true rfl) (by decide) (by decide) d_X11_dry_5 (fun v2 => ?_)
  refine sa_join1 23 (fun y3 => []) (fun y3 => [.int y3]) (fun y3 => ?_) (fun j23 hj23 => ?_)
  · exact sa_iret C d_X11_dry_23
  refine sa_if_eq (tgt := 22) C d_X11_dry_8 (by decide) ?_ ?_
  · refine sa_iconst (v := (-1)) C d_X11_dry_22 (by decide) ?_
    exact sa_sub [] rfl (hj23 _)
  refine sa_aload_n C d_X11_dry_11 rfl 0 rfl ?_
  refine sa_getR C fd_X11_19 rfl d_X11_dry_12 (fun v4 => ?_)
  refine sa_iload_n C d_X11_dry_15 rfl 1 rfl ?_
  refine sa_invV (ci := 1) C (k_X1_hoursToRoof v4 a1) q1277 ds_X1_hoursToRoof q116 rfl q1275 q1276 q1274 (gd_X1_hoursToRoof v4 a1) rfl rfl rfl (Nat.le_of_ble_eq_true rfl) (by decide) (by decide) d_X11_dry_16 (fun v5 => ?_)
  refine sa_goto (tgt := 23) C d_X11_dry_19 (by decide) ?_
  exact sa_sub [] rfl (hj23 _)
theorem k_X11_dry (this : Nat) (a1 : Int32) : sa_Met 4 yX11_dry cX11_dry 2 (some .int) (fun ad => [.ref (ad this), .int a1]) sa_eI (f_X11_dry this a1) := sa_mk (by decide) (fun ad => Nat.le_of_ble_eq_true rfl) (fun p l e s m args below meth c D ad cA A C => b_X11_dry this a1 C)
theorem gd_X11_dry (this : Nat) (a1 : Int32) (σ : sa_St) (r : Int32) (τ : sa_St) (h : f_X11_dry this a1 σ = some (r, τ)) : sa_sh this = some (.inl 11) := sa_gd_ok h
theorem d_X11_image_0 : decode cX11_image 0 = .ok (.aload_n 0, 1) := by decide +kernel
theorem d_X11_image_1 : decode cX11_image 1 = .ok (.getfield 19, 3) := by decide +kernel
theorem d_X11_image_4 : decode cX11_image 4 = .ok (.invokevirtual 157, 3) := by decide +kernel
theorem d_X11_image_7 : decode cX11_image 7 = .ok (.ifCond .eq 5, 3) := by decide +kernel
theorem d_X11_image_10 : decode cX11_image 10 = .ok (.iconst (-1), 1) := by decide +kernel
theorem d_X11_image_11 : decode cX11_image 11 = .ok (.ireturn, 1) := by decide +kernel
theorem d_X11_image_12 : decode cX11_image 12 = .ok (.aload_n 0, 1) := by decide +kernel
theorem d_X11_image_13 : decode cX11_image 13 = .ok (.getfield 53, 3) := by decide +kernel
theorem d_X11_image_16 : decode cX11_image 16 = .ok (.aload_n 0, 1) := by decide +kernel
theorem d_X11_image_17 : decode cX11_image 17 = .ok (.getfield 43, 3) := by decide +kernel
theorem d_X11_image_20 : decode cX11_image 20 = .ok (.invokevirtual 288, 3) := by decide +kernel
theorem d_X11_image_23 : decode cX11_image 23 = .ok (.aload_n 0, 1) := by decide +kernel
theorem d_X11_image_24 : decode cX11_image 24 = .ok (.getfield 43, 3) := by decide +kernel
theorem d_X11_image_27 : decode cX11_image 27 = .ok (.getfield 120, 3) := by decide +kernel
theorem d_X11_image_30 : decode cX11_image 30 = .ok (.bipush 21, 2) := by decide +kernel
theorem d_X11_image_32 : decode cX11_image 32 = .ok (.iaload, 1) := by decide +kernel
theorem d_X11_image_33 : decode cX11_image 33 = .ok (.ireturn, 1) := by decide +kernel
def f_X11_image (this : Nat) : sa_M Int32 :=
sa_gd 11 this (
sa_bnd (sa_rdR 11 this 1) fun v1 =>
sa_bnd (f_X1_isEmpty v1) fun v2 =>
if v2 = 0 then
sa_bnd (sa_rdR 11 this 8) fun v3 =>
sa_bnd (sa_rdR 11 this 6) fun v4 =>
sa_bnd (f_X5_keepImage v3 v4) fun _ =>
sa_bnd (sa_rdR 11 this 6) fun v5 =>
sa_bnd (sa_rdR 0 v5 0) fun v6 =>
sa_bnd (sa_ldI .int v6 21) fun v7 =>
sa_ret (v7 : Int32)
else
sa_ret ((-1) : Int32))
set_option maxHeartbeats 1000000 in
set_option maxRecDepth 10000 in
theorem b_X11_image {p : Program} {l : Launch} {e : Env} {s : State} {m : MethodId} {args : Array Value} {below : List Frame} {meth : Method} {c : Code} {D : va_G} {ad : Nat → Nat} {cA : FieldType → ClassId} {A : Nat → Prop} (this : Nat) (C : sa_C p s m args meth c cX11_image RX11 "image" 1 (some .int) D ad cA A) : sa_Sg p l e s m args below meth c 1 3 D ad cA A sa_eI 0 [(0, .ref (ad this))] [] (f_X11_image this) := by
  unfold f_X11_image
  refine sa_gdI ?_
  refine sa_aload_n C d_X11_image_0 rfl 0 rfl ?_
  refine sa_getR C fd_X11_19 rfl d_X11_image_1 (fun v1 => ?_)
  refine sa_invV (ci := 1) C (k_X1_isEmpty v1) q829 ds_X1_isEmpty q116 rfl q827 q828 q826 (gd_X1_isEmpty v1) rfl rfl rfl (Nat.le_of_ble_eq_true rfl) (by decide) (by decide) d_X11_image_4 (fun v2 => ?_)
  refine sa_if_eq (tgt := 12) C d_X11_image_7 (by decide) ?_ ?_
  · refine sa_aload_n C d_X11_image_12 rfl 0 rfl ?_
    refine sa_getR C fd_X11_53 rfl d_X11_image_13 (fun v3 => ?_)
    refine sa_aload_n C d_X11_image_16 rfl 0 rfl ?_
    refine sa_getR C fd_X11_43 rfl d_X11_image_17 (fun v4 => ?_)
    refine sa_invV (ci := 5) C (k_X5_keepImage v3 v4) q1286 ds_X5_keepImage q122 rfl q1284 q1285 q1283 (gd_X5_keepImage v3 v4) rfl rfl rfl (Nat.le_of_ble_eq_true rfl) (by decide) (by decide) d_X11_image_20 (fun _ => ?_)
    refine sa_aload_n C d_X11_image_23 rfl 0 rfl ?_
    refine sa_getR C fd_X11_43 rfl d_X11_image_24 (fun v5 => ?_)
    refine sa_getR C fd_X11_120 rfl d_X11_image_27 (fun v6 => ?_)
    refine sa_bipush (v := 21) C d_X11_image_30 (by decide) ?_
    refine sa_iald C d_X11_image_32 (fun v7 => ?_)
    exact sa_iret C d_X11_image_33
  refine sa_iconst (v := (-1)) C d_X11_image_10 (by decide) ?_
  exact sa_iret C d_X11_image_11
theorem k_X11_image (this : Nat) : sa_Met 3 yX11_image cX11_image 1 (some .int) (fun ad => [.ref (ad this)]) sa_eI (f_X11_image this) := sa_mk (by decide) (fun ad => Nat.le_of_ble_eq_true rfl) (fun p l e s m args below meth c D ad cA A C => b_X11_image this C)
theorem gd_X11_image (this : Nat) (σ : sa_St) (r : Int32) (τ : sa_St) (h : f_X11_image this σ = some (r, τ)) : sa_sh this = some (.inl 11) := sa_gd_ok h
