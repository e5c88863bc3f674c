theorem d_X11_back_0 : decode cX11_back 0 = .ok (.aload_n 0, 1) := by decide +kernel
theorem d_X11_back_1 : decode cX11_back 1 = .ok (.getfield 53, 3) := by decide +kernel
theorem d_X11_back_4 : decode cX11_back 4 = .ok (.aload_n 0, 1) := by decide +kernel
theorem d_X11_back_5 : decode cX11_back 5 = .ok (.getfield 43, 3) := by decide +kernel
theorem d_X11_back_8 : decode cX11_back 8 = .ok (.invokevirtual 291, 3) := by decide +kernel
theorem d_X11_back_11 : decode cX11_back 11 = .ok (.ifCond .eq 16, 3) := by decide +kernel
theorem d_X11_back_14 : decode cX11_back 14 = .ok (.aload_n 0, 1) := by decide +kernel
theorem d_X11_back_15 : decode cX11_back 15 = .ok (.getfield 43, 3) := by decide +kernel
theorem d_X11_back_18 : decode cX11_back 18 = .ok (.getfield 120, 3) := by decide +kernel
theorem d_X11_back_21 : decode cX11_back 21 = .ok (.bipush 21, 2) := by decide +kernel
theorem d_X11_back_23 : decode cX11_back 23 = .ok (.iaload, 1) := by decide +kernel
theorem d_X11_back_24 : decode cX11_back 24 = .ok (.goto 4, 3) := by decide +kernel
theorem d_X11_back_27 : decode cX11_back 27 = .ok (.iconst (-1), 1) := by decide +kernel
theorem d_X11_back_28 : decode cX11_back 28 = .ok (.ireturn, 1) := by decide +kernel
def f_X11_back (this : Nat) : sa_M Int32 :=
sa_gd 11 this (
sa_bnd (sa_rdR 11 this 8) fun v1 =>
sa_bnd (sa_rdR 11 this 6) fun v2 =>
sa_bnd (f_X5_goBack v1 v2) fun v3 =>
sa_jn1 (fun (y4 : Int32) =>
sa_ret (y4 : Int32)) fun j28 =>
if v3 = 0 then
j28 (-1)
else
sa_bnd (sa_rdR 11 this 6) fun v5 =>
sa_bnd (sa_rdR 0 v5 0) fun v6 =>
sa_bnd (sa_ldI .int v6 21) fun v7 =>
j28 v7)
set_option maxHeartbeats 1000000 in
set_option maxRecDepth 10000 in
theorem b_X11_back {p : Program} {l : Launch} {e : Env} {s : State} {m : MethodId} {args : Array Value} {below : List Frame} {meth : Method} {c : Code} {D : va_G} {ad : Nat → Nat} {cA : FieldType → ClassId} {A : Nat → Prop} (this : Nat) (C : sa_C p s m args meth c cX11_back RX11 "back" 1 (some .int) D ad cA A) : sa_Sg p l e s m args below meth c 1 3 D ad cA A sa_eI 0 [(0, .ref (ad this))] [] (f_X11_back this) := by
  unfold f_X11_back
  refine sa_gdI ?_
  refine sa_aload_n C d_X11_back_0 rfl 0 rfl ?_
  refine sa_getR C fd_X11_53 rfl d_X11_back_1 (fun v1 => ?_)
  refine sa_aload_n C d_X11_back_4 rfl 0 rfl ?_
  refine sa_getR C fd_X11_43 rfl d_X11_back_5 (fun v2 => ?_)
  refine sa_invV (ci := 5) C (k_X5_goBack v1 v2) q1294 ds_X5_goBack q122 rfl q1292 q1293 q1291 (gd_X5_goBack v1 v2) rfl rfl rfl (Nat.le_of_ble_eq_true rfl) (by decide) (by decide) d_X11_back_8 (fun v3 => ?_)
  refine sa_join1 28 (fun y4 => []) (fun y4 => [.int y4]) (fun y4 => ?_) (fun j28 hj28 => ?_)
  · exact sa_iret C d_X11_back_28
  refine sa_if_eq (tgt := 27) C d_X11_back_11 (by decide) ?_ ?_
  · refine sa_iconst (v := (-1)) C d_X11_back_27 (by decide) ?_
    exact sa_sub [] rfl (hj28 _)
  refine sa_aload_n C d_X11_back_14 rfl 0 rfl ?_
  refine sa_getR C fd_X11_43 rfl d_X11_back_15 (fun v5 => ?_)
  refine sa_getR C fd_X11_120 rfl d_X11_back_18 (fun v6 => ?_)
  refine sa_bipush (v := 21) C d_X11_back_21 (by decide) ?_
  refine sa_iald C d_X11_back_23 (fun v7 => ?_)
  refine sa_goto (tgt := 28) C d_X11_back_24 (by decide) ?_
  exact sa_sub [] rfl (hj28 _)
theorem k_X11_back (this : Nat) : sa_Met 3 yX11_back cX11_back 1 (some .int) (fun ad => [.ref (ad this)]) sa_eI (f_X11_back this) := sa_mk (by decide) (fun ad => Nat.le_of_ble_eq_true rfl) (fun p l e s m args below meth c D ad cA A C => b_X11_back this C)
theorem gd_X11_back (this : Nat) (σ : sa_St) (r : Int32) (τ : sa_St) (h : f_X11_back this σ = some (r, τ)) : sa_sh this = some (.inl 11) := sa_gd_ok h
theorem d_X11_count_0 : decode cX11_count 0 = .ok (.iload_n 1, 1) := by decide +kernel
theorem d_X11_count_1 : decode cX11_count 1 = .ok (.tableswitch 214 0 16 #[83, 83, 93, 83, 104, 112, 117, 125, 133, 144, 152, 163, 174, 182, 190, 198, 206], 83) := by decide +kernel
theorem d_X11_count_84 : decode cX11_count 84 = .ok (.aload_n 0, 1) := by decide +kernel
theorem d_X11_count_85 : decode cX11_count 85 = .ok (.getfield 19, 3) := by decide +kernel
theorem d_X11_count_88 : decode cX11_count 88 = .ok (.getfield 128, 3) := by decide +kernel
theorem d_X11_count_91 : decode cX11_count 91 = .ok (.iload_n 1, 1) := by decide +kernel
theorem d_X11_count_92 : decode cX11_count 92 = .ok (.iaload, 1) := by decide +kernel
theorem d_X11_count_93 : decode cX11_count 93 = .ok (.ireturn, 1) := by decide +kernel
theorem d_X11_count_94 : decode cX11_count 94 = .ok (.aload_n 0, 1) := by decide +kernel
theorem d_X11_count_95 : decode cX11_count 95 = .ok (.getfield 43, 3) := by decide +kernel
theorem d_X11_count_98 : decode cX11_count 98 = .ok (.getfield 120, 3) := by decide +kernel
theorem d_X11_count_101 : decode cX11_count 101 = .ok (.bipush 22, 2) := by decide +kernel
theorem d_X11_count_103 : decode cX11_count 103 = .ok (.iaload, 1) := by decide +kernel
theorem d_X11_count_104 : decode cX11_count 104 = .ok (.ireturn, 1) := by decide +kernel
theorem d_X11_count_105 : decode cX11_count 105 = .ok (.aload_n 0, 1) := by decide +kernel
theorem d_X11_count_106 : decode cX11_count 106 = .ok (.getfield 29, 3) := by decide +kernel
theorem d_X11_count_109 : decode cX11_count 109 = .ok (.getfield 113, 3) := by decide +kernel
theorem d_X11_count_112 : decode cX11_count 112 = .ok (.ireturn, 1) := by decide +kernel
theorem d_X11_count_113 : decode cX11_count 113 = .ok (.aload_n 0, 1) := by decide +kernel
theorem d_X11_count_114 : decode cX11_count 114 = .ok (.getfield 114, 3) := by decide +kernel
theorem d_X11_count_117 : decode cX11_count 117 = .ok (.ireturn, 1) := by decide +kernel
theorem d_X11_count_118 : decode cX11_count 118 = .ok (.aload_n 0, 1) := by decide +kernel
theorem d_X11_count_119 : decode cX11_count 119 = .ok (.getfield 10, 3) := by decide +kernel
theorem d_X11_count_122 : decode cX11_count 122 = .ok (.getfield 91, 3) := by decide +kernel
theorem d_X11_count_125 : decode cX11_count 125 = .ok (.ireturn, 1) := by decide +kernel
theorem d_X11_count_126 : decode cX11_count 126 = .ok (.aload_n 0, 1) := by decide +kernel
theorem d_X11_count_127 : decode cX11_count 127 = .ok (.getfield 29, 3) := by decide +kernel
theorem d_X11_count_130 : decode cX11_count 130 = .ok (.getfield 141, 3) := by decide +kernel
theorem d_X11_count_133 : decode cX11_count 133 = .ok (.ireturn, 1) := by decide +kernel
theorem d_X11_count_134 : decode cX11_count 134 = .ok (.aload_n 0, 1) := by decide +kernel
theorem d_X11_count_135 : decode cX11_count 135 = .ok (.getfield 43, 3) := by decide +kernel
theorem d_X11_count_138 : decode cX11_count 138 = .ok (.getfield 120, 3) := by decide +kernel
theorem d_X11_count_141 : decode cX11_count 141 = .ok (.bipush 21, 2) := by decide +kernel
theorem d_X11_count_143 : decode cX11_count 143 = .ok (.iaload, 1) := by decide +kernel
theorem d_X11_count_144 : decode cX11_count 144 = .ok (.ireturn, 1) := by decide +kernel
theorem d_X11_count_145 : decode cX11_count 145 = .ok (.aload_n 0, 1) := by decide +kernel
theorem d_X11_count_146 : decode cX11_count 146 = .ok (.getfield 43, 3) := by decide +kernel
theorem d_X11_count_149 : decode cX11_count 149 = .ok (.invokevirtual 295, 3) := by decide +kernel
theorem d_X11_count_152 : decode cX11_count 152 = .ok (.ireturn, 1) := by decide +kernel
theorem d_X11_count_153 : decode cX11_count 153 = .ok (.aload_n 0, 1) := by decide +kernel
theorem d_X11_count_154 : decode cX11_count 154 = .ok (.getfield 43, 3) := by decide +kernel
theorem d_X11_count_157 : decode cX11_count 157 = .ok (.getfield 120, 3) := by decide +kernel
theorem d_X11_count_160 : decode cX11_count 160 = .ok (.bipush 19, 2) := by decide +kernel
theorem d_X11_count_162 : decode cX11_count 162 = .ok (.iaload, 1) := by decide +kernel
theorem d_X11_count_163 : decode cX11_count 163 = .ok (.ireturn, 1) := by decide +kernel
theorem d_X11_count_164 : decode cX11_count 164 = .ok (.aload_n 0, 1) := by decide +kernel
theorem d_X11_count_165 : decode cX11_count 165 = .ok (.getfield 43, 3) := by decide +kernel
theorem d_X11_count_168 : decode cX11_count 168 = .ok (.getfield 120, 3) := by decide +kernel
theorem d_X11_count_171 : decode cX11_count 171 = .ok (.bipush 20, 2) := by decide +kernel
theorem d_X11_count_173 : decode cX11_count 173 = .ok (.iaload, 1) := by decide +kernel
theorem d_X11_count_174 : decode cX11_count 174 = .ok (.ireturn, 1) := by decide +kernel
theorem d_X11_count_175 : decode cX11_count 175 = .ok (.aload_n 0, 1) := by decide +kernel
theorem d_X11_count_176 : decode cX11_count 176 = .ok (.getfield 43, 3) := by decide +kernel
theorem d_X11_count_179 : decode cX11_count 179 = .ok (.invokevirtual 298, 3) := by decide +kernel
theorem d_X11_count_182 : decode cX11_count 182 = .ok (.ireturn, 1) := by decide +kernel
theorem d_X11_count_183 : decode cX11_count 183 = .ok (.aload_n 0, 1) := by decide +kernel
theorem d_X11_count_184 : decode cX11_count 184 = .ok (.getfield 60, 3) := by decide +kernel
theorem d_X11_count_187 : decode cX11_count 187 = .ok (.getfield 301, 3) := by decide +kernel
theorem d_X11_count_190 : decode cX11_count 190 = .ok (.ireturn, 1) := by decide +kernel
theorem d_X11_count_191 : decode cX11_count 191 = .ok (.aload_n 0, 1) := by decide +kernel
theorem d_X11_count_192 : decode cX11_count 192 = .ok (.getfield 76, 3) := by decide +kernel
theorem d_X11_count_195 : decode cX11_count 195 = .ok (.getfield 302, 3) := by decide +kernel
theorem d_X11_count_198 : decode cX11_count 198 = .ok (.ireturn, 1) := by decide +kernel
theorem d_X11_count_199 : decode cX11_count 199 = .ok (.aload_n 0, 1) := by decide +kernel
theorem d_X11_count_200 : decode cX11_count 200 = .ok (.getfield 53, 3) := by decide +kernel
theorem d_X11_count_203 : decode cX11_count 203 = .ok (.getfield 303, 3) := by decide +kernel
theorem d_X11_count_206 : decode cX11_count 206 = .ok (.ireturn, 1) := by decide +kernel
theorem d_X11_count_207 : decode cX11_count 207 = .ok (.aload_n 0, 1) := by decide +kernel
theorem d_X11_count_208 : decode cX11_count 208 = .ok (.getfield 43, 3) := by decide +kernel
theorem d_X11_count_211 : decode cX11_count 211 = .ok (.invokevirtual 171, 3) := by decide +kernel
theorem d_X11_count_214 : decode cX11_count 214 = .ok (.ireturn, 1) := by decide +kernel
theorem d_X11_count_215 : decode cX11_count 215 = .ok (.ldc 184, 2) := by decide +kernel
theorem d_X11_count_217 : decode cX11_count 217 = .ok (.ireturn, 1) := by decide +kernel
def f_X11_count (this : Nat) (a1 : Int32) : sa_M Int32 :=
sa_gd 11 this (
if a1 = 0 then
sa_bnd (sa_rdR 11 this 1) fun v1 =>
sa_bnd (sa_rdR 1 v1 0) fun v2 =>
sa_bnd (sa_ldI .int v2 a1) fun v3 =>
sa_ret (v3 : Int32)
else
if a1 = 1 then
sa_bnd (sa_rdR 11 this 1) fun v4 =>
sa_bnd (sa_rdR 1 v4 0) fun v5 =>
sa_bnd (sa_ldI .int v5 a1) fun v6 =>
sa_ret (v6 : Int32)
else
if a1 = 2 then
sa_bnd (sa_rdR 11 this 6) fun v7 =>
sa_bnd (sa_rdR 0 v7 0) fun v8 =>
sa_bnd (sa_ldI .int v8 22) fun v9 =>
sa_ret (v9 : Int32)
else
if a1 = 3 then
sa_bnd (sa_rdR 11 this 1) fun v10 =>
sa_bnd (sa_rdR 1 v10 0) fun v11 =>
sa_bnd (sa_ldI .int v11 a1) fun v12 =>
sa_ret (v12 : Int32)
else
if a1 = 4 then
sa_bnd (sa_rdR 11 this 3) fun v13 =>
sa_bnd (sa_rdI 3 v13 2) fun v14 =>
sa_ret (v14 : Int32)
else
if a1 = 5 then
sa_bnd (sa_rdI 11 this 5) fun v15 =>
sa_ret (v15 : Int32)
else
if a1 = 6 then
sa_bnd (sa_rdR 11 this 0) fun v16 =>
sa_bnd (sa_rdI 7 v16 1) fun v17 =>
sa_ret (v17 : Int32)
else
if a1 = 7 then
sa_bnd (sa_rdR 11 this 3) fun v18 =>
sa_bnd (sa_rdI 3 v18 3) fun v19 =>
sa_ret (v19 : Int32)
else
if a1 = 8 then
sa_bnd (sa_rdR 11 this 6) fun v20 =>
sa_bnd (sa_rdR 0 v20 0) fun v21 =>
sa_bnd (sa_ldI .int v21 21) fun v22 =>
sa_ret (v22 : Int32)
else
if a1 = 9 then
sa_bnd (sa_rdR 11 this 6) fun v23 =>
sa_bnd (f_X0_living v23) fun v24 =>
sa_ret (v24 : Int32)
else
if a1 = 10 then
sa_bnd (sa_rdR 11 this 6) fun v25 =>
sa_bnd (sa_rdR 0 v25 0) fun v26 =>
sa_bnd (sa_ldI .int v26 19) fun v27 =>
sa_ret (v27 : Int32)
else
if a1 = 11 then
sa_bnd (sa_rdR 11 this 6) fun v28 =>
sa_bnd (sa_rdR 0 v28 0) fun v29 =>
sa_bnd (sa_ldI .int v29 20) fun v30 =>
sa_ret (v30 : Int32)
else
if a1 = 12 then
sa_bnd (sa_rdR 11 this 6) fun v31 =>
sa_bnd (f_X0_allGrains v31) fun v32 =>
sa_ret (v32 : Int32)
else
if a1 = 13 then
sa_bnd (sa_rdR 11 this 9) fun v33 =>
sa_bnd (sa_rdI 6 v33 1) fun v34 =>
sa_ret (v34 : Int32)
else
if a1 = 14 then
sa_bnd (sa_rdR 11 this 11) fun v35 =>
sa_bnd (sa_rdI 8 v35 2) fun v36 =>
sa_ret (v36 : Int32)
else
if a1 = 15 then
sa_bnd (sa_rdR 11 this 8) fun v37 =>
sa_bnd (sa_rdI 5 v37 4) fun v38 =>
sa_ret (v38 : Int32)
else
if a1 = 16 then
sa_bnd (sa_rdR 11 this 6) fun v39 =>
sa_bnd (f_X0_logSize v39) fun v40 =>
sa_ret (v40 : Int32)
else
sa_ret ((-1000000) : Int32))
set_option maxHeartbeats 1000000 in
set_option maxRecDepth 10000 in
theorem b_X11_count {p : Program} {l : Launch} {e : Env} {s : State} {m : MethodId} {args : Array Value} {below : List Frame} {meth : Method} {c : Code} {D : va_G} {ad : Nat → Nat} {cA : FieldType → ClassId} {A : Nat → Prop} (this : Nat) (a1 : Int32) (C : sa_C p s m args meth c cX11_count RX11 "count" 2 (some .int) D ad cA A) : sa_Sg p l e s m args below meth c 2 4 D ad cA A sa_eI 0 [(0, .ref (ad this)), (1, .int a1)] [] (f_X11_count this a1) := by
  unfold f_X11_count
  refine sa_gdI ?_
  refine sa_iload_n C d_X11_count_0 rfl 1 rfl ?_
  refine sa_byc (fun c0 => ?_) (fun c0 => ?_)
  · refine sa_tabIn (tgt := 84) C d_X11_count_1 (by rw [c0]; decide) (by rw [c0]; decide) (by rw [c0]; rfl) (by decide) ?_
    refine sa_aload_n C d_X11_count_84 rfl 0 rfl ?_
    refine sa_getR C fd_X11_19 rfl d_X11_count_85 (fun v1 => ?_)
    refine sa_getR C fd_X11_128 rfl d_X11_count_88 (fun v2 => ?_)
    refine sa_iload_n C d_X11_count_91 rfl 1 rfl ?_
    refine sa_iald C d_X11_count_92 (fun v3 => ?_)
    exact sa_iret C d_X11_count_93
  refine sa_byc (fun c1 => ?_) (fun c1 => ?_)
  · refine sa_tabIn (tgt := 84) C d_X11_count_1 (by rw [c1]; decide) (by rw [c1]; decide) (by rw [c1]; rfl) (by decide) ?_
    refine sa_aload_n C d_X11_count_84 rfl 0 rfl ?_
    refine sa_getR C fd_X11_19 rfl d_X11_count_85 (fun v4 => ?_)
    refine sa_getR C fd_X11_128 rfl d_X11_count_88 (fun v5 => ?_)
    refine sa_iload_n C d_X11_count_91 rfl 1 rfl ?_
    refine sa_iald C d_X11_count_92 (fun v6 => ?_)
    exact sa_iret C d_X11_count_93
  refine sa_byc (fun c2 => ?_) (fun c2 => ?_)
  · refine sa_tabIn (tgt := 94) C d_X11_count_1 (by rw [c2]; decide) (by rw [c2]; decide) (by rw [c2]; rfl) (by decide) ?_
    refine sa_aload_n C d_X11_count_94 rfl 0 rfl ?_
    refine sa_getR C fd_X11_43 rfl d_X11_count_95 (fun v7 => ?_)
    refine sa_getR C fd_X11_120 rfl d_X11_count_98 (fun v8 => ?_)
    refine sa_bipush (v := 22) C d_X11_count_101 (by decide) ?_
    refine sa_iald C d_X11_count_103 (fun v9 => ?_)
    exact sa_iret C d_X11_count_104
  refine sa_byc (fun c3 => ?_) (fun c3 => ?_)
  · refine sa_tabIn (tgt := 84) C d_X11_count_1 (by rw [c3]; decide) (by rw [c3]; decide) (by rw [c3]; rfl) (by decide) ?_
    refine sa_aload_n C d_X11_count_84 rfl 0 rfl ?_
    refine sa_getR C fd_X11_19 rfl d_X11_count_85 (fun v10 => ?_)
    refine sa_getR C fd_X11_128 rfl d_X11_count_88 (fun v11 => ?_)
    refine sa_iload_n C d_X11_count_91 rfl 1 rfl ?_
    refine sa_iald C d_X11_count_92 (fun v12 => ?_)
    exact sa_iret C d_X11_count_93
  refine sa_byc (fun c4 => ?_) (fun c4 => ?_)
  · refine sa_tabIn (tgt := 105) C d_X11_count_1 (by rw [c4]; decide) (by rw [c4]; decide) (by rw [c4]; rfl) (by decide) ?_
    refine sa_aload_n C d_X11_count_105 rfl 0 rfl ?_
    refine sa_getR C fd_X11_29 rfl d_X11_count_106 (fun v13 => ?_)
    refine sa_getI C fd_X11_113 d_X11_count_109 (fun v14 => ?_)
    exact sa_iret C d_X11_count_112
  refine sa_byc (fun c5 => ?_) (fun c5 => ?_)
  · refine sa_tabIn (tgt := 113) C d_X11_count_1 (by rw [c5]; decide) (by rw [c5]; decide) (by rw [c5]; rfl) (by decide) ?_
    refine sa_aload_n C d_X11_count_113 rfl 0 rfl ?_
    refine sa_getI C fd_X11_114 d_X11_count_114 (fun v15 => ?_)
    exact sa_iret C d_X11_count_117
  refine sa_byc (fun c6 => ?_) (fun c6 => ?_)
  · refine sa_tabIn (tgt := 118) C d_X11_count_1 (by rw [c6]; decide) (by rw [c6]; decide) (by rw [c6]; rfl) (by decide) ?_
    refine sa_aload_n C d_X11_count_118 rfl 0 rfl ?_
    refine sa_getR C fd_X11_10 rfl d_X11_count_119 (fun v16 => ?_)
    refine sa_getI C fd_X11_91 d_X11_count_122 (fun v17 => ?_)
    exact sa_iret C d_X11_count_125
  refine sa_byc (fun c7 => ?_) (fun c7 => ?_)
  · refine sa_tabIn (tgt := 126) C d_X11_count_1 (by rw [c7]; decide) (by rw [c7]; decide) (by rw [c7]; rfl) (by decide) ?_
    refine sa_aload_n C d_X11_count_126 rfl 0 rfl ?_
    refine sa_getR C fd_X11_29 rfl d_X11_count_127 (fun v18 => ?_)
    refine sa_getI C fd_X11_141 d_X11_count_130 (fun v19 => ?_)
    exact sa_iret C d_X11_count_133
  refine sa_byc (fun c8 => ?_) (fun c8 => ?_)
  · refine sa_tabIn (tgt := 134) C d_X11_count_1 (by rw [c8]; decide) (by rw [c8]; decide) (by rw [c8]; rfl) (by decide) ?_
    refine sa_aload_n C d_X11_count_134 rfl 0 rfl ?_
    refine sa_getR C fd_X11_43 rfl d_X11_count_135 (fun v20 => ?_)
    refine sa_getR C fd_X11_120 rfl d_X11_count_138 (fun v21 => ?_)
    refine sa_bipush (v := 21) C d_X11_count_141 (by decide) ?_
    refine sa_iald C d_X11_count_143 (fun v22 => ?_)
    exact sa_iret C d_X11_count_144
  refine sa_byc (fun c9 => ?_) (fun c9 => ?_)
  · refine sa_tabIn (tgt := 145) C d_X11_count_1 (by rw [c9]; decide) (by rw [c9]; decide) (by rw [c9]; rfl) (by decide) ?_
    refine sa_aload_n C d_X11_count_145 rfl 0 rfl ?_
    refine sa_getR C fd_X11_43 rfl d_X11_count_146 (fun v23 => ?_)
    refine sa_invV (ci := 0) C (k_X0_living v23) q1302 ds_X0_living q121 rfl q1300 q1301 q1299 (gd_X0_living v23) rfl rfl rfl (Nat.le_of_ble_eq_true rfl) (by decide) (by decide) d_X11_count_149 (fun v24 => ?_)
    exact sa_iret C d_X11_count_152
  refine sa_byc (fun c10 => ?_) (fun c10 => ?_)
  · refine sa_tabIn (tgt := 153) C d_X11_count_1 (by rw [c10]; decide) (by rw [c10]; decide) (by rw [c10]; rfl) (by decide) ?_
    refine sa_aload_n C d_X11_count_153 rfl 0 rfl ?_
    refine sa_getR C fd_X11_43 rfl d_X11_count_154 (fun v25 => ?_)
    refine sa_getR C fd_X11_120 rfl d_X11_count_157 (fun v26 => ?_)
    refine sa_bipush (v := 19) C d_X11_count_160 (by decide) ?_
    refine sa_iald C d_X11_count_162 (fun v27 => ?_)
    exact sa_iret C d_X11_count_163
  refine sa_byc (fun c11 => ?_) (fun c11 => ?_)
  · refine sa_tabIn (tgt := 164) C d_X11_count_1 (by rw [c11]; decide) (by rw [c11]; decide) (by rw [c11]; rfl) (by decide) ?_
    refine sa_aload_n C d_X11_count_164 rfl 0 rfl ?_
    refine sa_getR C fd_X11_43 rfl d_X11_count_165 (fun v28 => ?_)
    refine sa_getR C fd_X11_120 rfl d_X11_count_168 (fun v29 => ?_)
    refine sa_bipush (v := 20) C d_X11_count_171 (by decide) ?_
    refine sa_iald C d_X11_count_173 (fun v30 => ?_)
    exact sa_iret C d_X11_count_174
  refine sa_byc (fun c12 => ?_) (fun c12 => ?_)
  · refine sa_tabIn (tgt := 175) C d_X11_count_1 (by rw [c12]; decide) (by rw [c12]; decide) (by rw [c12]; rfl) (by decide) ?_
    refine sa_aload_n C d_X11_count_175 rfl 0 rfl ?_
    refine sa_getR C fd_X11_43 rfl d_X11_count_176 (fun v31 => ?_)
    refine sa_invV (ci := 0) C (k_X0_allGrains v31) q1306 ds_X0_allGrains q121 rfl q1304 q1305 q1303 (gd_X0_allGrains v31) rfl rfl rfl (Nat.le_of_ble_eq_true rfl) (by decide) (by decide) d_X11_count_179 (fun v32 => ?_)
    exact sa_iret C d_X11_count_182
  refine sa_byc (fun c13 => ?_) (fun c13 => ?_)
  · refine sa_tabIn (tgt := 183) C d_X11_count_1 (by rw [c13]; decide) (by rw [c13]; decide) (by rw [c13]; rfl) (by decide) ?_
    refine sa_aload_n C d_X11_count_183 rfl 0 rfl ?_
    refine sa_getR C fd_X11_60 rfl d_X11_count_184 (fun v33 => ?_)
    refine sa_getI C fd_X11_301 d_X11_count_187 (fun v34 => ?_)
    exact sa_iret C d_X11_count_190
  refine sa_byc (fun c14 => ?_) (fun c14 => ?_)
  · refine sa_tabIn (tgt := 191) C d_X11_count_1 (by rw [c14]; decide) (by rw [c14]; decide) (by rw [c14]; rfl) (by decide) ?_
    refine sa_aload_n C d_X11_count_191 rfl 0 rfl ?_
    refine sa_getR C fd_X11_76 rfl d_X11_count_192 (fun v35 => ?_)
    refine sa_getI C fd_X11_302 d_X11_count_195 (fun v36 => ?_)
    exact sa_iret C d_X11_count_198
  refine sa_byc (fun c15 => ?_) (fun c15 => ?_)
  · refine sa_tabIn (tgt := 199) C d_X11_count_1 (by rw [c15]; decide) (by rw [c15]; decide) (by rw [c15]; rfl) (by decide) ?_
    refine sa_aload_n C d_X11_count_199 rfl 0 rfl ?_
    refine sa_getR C fd_X11_53 rfl d_X11_count_200 (fun v37 => ?_)
    refine sa_getI C fd_X11_303 d_X11_count_203 (fun v38 => ?_)
    exact sa_iret C d_X11_count_206
  refine sa_byc (fun c16 => ?_) (fun c16 => ?_)
  · refine sa_tabIn (tgt := 207) C d_X11_count_1 (by rw [c16]; decide) (by rw [c16]; decide) (by rw [c16]; rfl) (by decide) ?_
    refine sa_aload_n C d_X11_count_207 rfl 0 rfl ?_
    refine sa_getR C fd_X11_43 rfl d_X11_count_208 (fun v39 => ?_)
    refine sa_invV (ci := 0) C (k_X0_logSize v39) q955 ds_X0_logSize q121 rfl q953 q954 q952 (gd_X0_logSize v39) rfl rfl rfl (Nat.le_of_ble_eq_true rfl) (by decide) (by decide) d_X11_count_211 (fun v40 => ?_)
    exact sa_iret C d_X11_count_214
  refine sa_tabOut (tgt := 215) C d_X11_count_1 (sa_out17 c0 c1 c2 c3 c4 c5 c6 c7 c8 c9 c10 c11 c12 c13 c14 c15 c16) (by decide) ?_
  refine sa_ldc (v := (-1000000)) C d_X11_count_215 q976 ?_
  exact sa_iret C d_X11_count_217
theorem k_X11_count (this : Nat) (a1 : Int32) : sa_Met 4 yX11_count cX11_count 2 (some .int) (fun ad => [.ref (ad this), .int a1]) sa_eI (f_X11_count this a1) := sa_mk (by decide) (fun ad => Nat.le_of_ble_eq_true rfl) (fun p l e s m args below meth c D ad cA A C => b_X11_count this a1 C)
theorem gd_X11_count (this : Nat) (a1 : Int32) (σ : sa_St) (r : Int32) (τ : sa_St) (h : f_X11_count this a1 σ = some (r, τ)) : sa_sh this = some (.inl 11) := sa_gd_ok h
