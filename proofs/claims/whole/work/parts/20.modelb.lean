theorem d_X12_readClause_0 : decode cX12_readClause 0 = .ok (.aload_n 0, 1) := by decide +kernel
theorem d_X12_readClause_1 : decode cX12_readClause 1 = .ok (.invokevirtual 169, 3) := by decide +kernel
theorem d_X12_readClause_4 : decode cX12_readClause 4 = .ok (.istore_n 1, 1) := by decide +kernel
theorem d_X12_readClause_5 : decode cX12_readClause 5 = .ok (.iload_n 1, 1) := by decide +kernel
theorem d_X12_readClause_6 : decode cX12_readClause 6 = .ok (.bipush 112, 2) := by decide +kernel
theorem d_X12_readClause_8 : decode cX12_readClause 8 = .ok (.if_icmp .ne 12, 3) := by decide +kernel
theorem d_X12_readClause_11 : decode cX12_readClause 11 = .ok (.aload_n 0, 1) := by decide +kernel
theorem d_X12_readClause_12 : decode cX12_readClause 12 = .ok (.getfield 274, 3) := by decide +kernel
theorem d_X12_readClause_15 : decode cX12_readClause 15 = .ok (.bipush 8, 2) := by decide +kernel
theorem d_X12_readClause_17 : decode cX12_readClause 17 = .ok (.if_icmp .lt 46, 3) := by decide +kernel
theorem d_X12_readClause_20 : decode cX12_readClause 20 = .ok (.iload_n 1, 1) := by decide +kernel
theorem d_X12_readClause_21 : decode cX12_readClause 21 = .ok (.bipush 119, 2) := by decide +kernel
theorem d_X12_readClause_23 : decode cX12_readClause 23 = .ok (.if_icmp .ne 12, 3) := by decide +kernel
theorem d_X12_readClause_26 : decode cX12_readClause 26 = .ok (.aload_n 0, 1) := by decide +kernel
theorem d_X12_readClause_27 : decode cX12_readClause 27 = .ok (.getfield 277, 3) := by decide +kernel
theorem d_X12_readClause_30 : decode cX12_readClause 30 = .ok (.bipush 12, 2) := by decide +kernel
theorem d_X12_readClause_32 : decode cX12_readClause 32 = .ok (.if_icmp .lt 31, 3) := by decide +kernel
theorem d_X12_readClause_35 : decode cX12_readClause 35 = .ok (.iload_n 1, 1) := by decide +kernel
theorem d_X12_readClause_36 : decode cX12_readClause 36 = .ok (.bipush 99, 2) := by decide +kernel
theorem d_X12_readClause_38 : decode cX12_readClause 38 = .ok (.if_icmp .ne 11, 3) := by decide +kernel
theorem d_X12_readClause_41 : decode cX12_readClause 41 = .ok (.aload_n 0, 1) := by decide +kernel
theorem d_X12_readClause_42 : decode cX12_readClause 42 = .ok (.getfield 280, 3) := by decide +kernel
theorem d_X12_readClause_45 : decode cX12_readClause 45 = .ok (.iconst 5, 1) := by decide +kernel
theorem d_X12_readClause_46 : decode cX12_readClause 46 = .ok (.if_icmp .lt 17, 3) := by decide +kernel
theorem d_X12_readClause_49 : decode cX12_readClause 49 = .ok (.iload_n 1, 1) := by decide +kernel
theorem d_X12_readClause_50 : decode cX12_readClause 50 = .ok (.bipush 102, 2) := by decide +kernel
theorem d_X12_readClause_52 : decode cX12_readClause 52 = .ok (.if_icmp .ne 15, 3) := by decide +kernel
theorem d_X12_readClause_55 : decode cX12_readClause 55 = .ok (.aload_n 0, 1) := by decide +kernel
theorem d_X12_readClause_56 : decode cX12_readClause 56 = .ok (.getfield 283, 3) := by decide +kernel
theorem d_X12_readClause_59 : decode cX12_readClause 59 = .ok (.iconst 3, 1) := by decide +kernel
theorem d_X12_readClause_60 : decode cX12_readClause 60 = .ok (.if_icmp .ge 7, 3) := by decide +kernel
theorem d_X12_readClause_63 : decode cX12_readClause 63 = .ok (.iconst 1, 1) := by decide +kernel
theorem d_X12_readClause_64 : decode cX12_readClause 64 = .ok (.goto 4, 3) := by decide +kernel
theorem d_X12_readClause_67 : decode cX12_readClause 67 = .ok (.iconst 0, 1) := by decide +kernel
theorem d_X12_readClause_68 : decode cX12_readClause 68 = .ok (.istore_n 2, 1) := by decide +kernel
theorem d_X12_readClause_69 : decode cX12_readClause 69 = .ok (.iload_n 2, 1) := by decide +kernel
theorem d_X12_readClause_70 : decode cX12_readClause 70 = .ok (.ifCond .ne 9, 3) := by decide +kernel
theorem d_X12_readClause_73 : decode cX12_readClause 73 = .ok (.aload_n 0, 1) := by decide +kernel
theorem d_X12_readClause_74 : decode cX12_readClause 74 = .ok (.invokevirtual 165, 3) := by decide +kernel
theorem d_X12_readClause_77 : decode cX12_readClause 77 = .ok (.pop, 1) := by decide +kernel
theorem d_X12_readClause_78 : decode cX12_readClause 78 = .ok (.return_, 1) := by decide +kernel
theorem d_X12_readClause_79 : decode cX12_readClause 79 = .ok (.aload_n 0, 1) := by decide +kernel
theorem d_X12_readClause_80 : decode cX12_readClause 80 = .ok (.dup, 1) := by decide +kernel
theorem d_X12_readClause_81 : decode cX12_readClause 81 = .ok (.getfield 150, 3) := by decide +kernel
theorem d_X12_readClause_84 : decode cX12_readClause 84 = .ok (.iconst 1, 1) := by decide +kernel
theorem d_X12_readClause_85 : decode cX12_readClause 85 = .ok (.iadd, 1) := by decide +kernel
theorem d_X12_readClause_86 : decode cX12_readClause 86 = .ok (.putfield 150, 3) := by decide +kernel
theorem d_X12_readClause_89 : decode cX12_readClause 89 = .ok (.iload_n 1, 1) := by decide +kernel
theorem d_X12_readClause_90 : decode cX12_readClause 90 = .ok (.bipush 112, 2) := by decide +kernel
theorem d_X12_readClause_92 : decode cX12_readClause 92 = .ok (.if_icmp .ne 36, 3) := by decide +kernel
theorem d_X12_readClause_95 : decode cX12_readClause 95 = .ok (.aload_n 0, 1) := by decide +kernel
theorem d_X12_readClause_96 : decode cX12_readClause 96 = .ok (.dup, 1) := by decide +kernel
theorem d_X12_readClause_97 : decode cX12_readClause 97 = .ok (.getfield 274, 3) := by decide +kernel
theorem d_X12_readClause_100 : decode cX12_readClause 100 = .ok (.iconst 1, 1) := by decide +kernel
theorem d_X12_readClause_101 : decode cX12_readClause 101 = .ok (.iadd, 1) := by decide +kernel
theorem d_X12_readClause_102 : decode cX12_readClause 102 = .ok (.putfield 274, 3) := by decide +kernel
theorem d_X12_readClause_105 : decode cX12_readClause 105 = .ok (.aload_n 0, 1) := by decide +kernel
theorem d_X12_readClause_106 : decode cX12_readClause 106 = .ok (.iload_n 1, 1) := by decide +kernel
theorem d_X12_readClause_107 : decode cX12_readClause 107 = .ok (.aload_n 0, 1) := by decide +kernel
theorem d_X12_readClause_108 : decode cX12_readClause 108 = .ok (.getfield 40, 3) := by decide +kernel
theorem d_X12_readClause_111 : decode cX12_readClause 111 = .ok (.iconst 4, 1) := by decide +kernel
theorem d_X12_readClause_112 : decode cX12_readClause 112 = .ok (.aload_n 0, 1) := by decide +kernel
theorem d_X12_readClause_113 : decode cX12_readClause 113 = .ok (.getfield 274, 3) := by decide +kernel
theorem d_X12_readClause_116 : decode cX12_readClause 116 = .ok (.iconst 1, 1) := by decide +kernel
theorem d_X12_readClause_117 : decode cX12_readClause 117 = .ok (.isub, 1) := by decide +kernel
theorem d_X12_readClause_118 : decode cX12_readClause 118 = .ok (.imul, 1) := by decide +kernel
theorem d_X12_readClause_119 : decode cX12_readClause 119 = .ok (.ldc_w 286, 3) := by decide +kernel
theorem d_X12_readClause_122 : decode cX12_readClause 122 = .ok (.invokevirtual 288, 3) := by decide +kernel
theorem d_X12_readClause_125 : decode cX12_readClause 125 = .ok (.goto 111, 3) := by decide +kernel
theorem d_X12_readClause_128 : decode cX12_readClause 128 = .ok (.iload_n 1, 1) := by decide +kernel
theorem d_X12_readClause_129 : decode cX12_readClause 129 = .ok (.bipush 119, 2) := by decide +kernel
theorem d_X12_readClause_131 : decode cX12_readClause 131 = .ok (.if_icmp .ne 36, 3) := by decide +kernel
theorem d_X12_readClause_134 : decode cX12_readClause 134 = .ok (.aload_n 0, 1) := by decide +kernel
theorem d_X12_readClause_135 : decode cX12_readClause 135 = .ok (.dup, 1) := by decide +kernel
theorem d_X12_readClause_136 : decode cX12_readClause 136 = .ok (.getfield 277, 3) := by decide +kernel
theorem d_X12_readClause_139 : decode cX12_readClause 139 = .ok (.iconst 1, 1) := by decide +kernel
theorem d_X12_readClause_140 : decode cX12_readClause 140 = .ok (.iadd, 1) := by decide +kernel
theorem d_X12_readClause_141 : decode cX12_readClause 141 = .ok (.putfield 277, 3) := by decide +kernel
theorem d_X12_readClause_144 : decode cX12_readClause 144 = .ok (.aload_n 0, 1) := by decide +kernel
theorem d_X12_readClause_145 : decode cX12_readClause 145 = .ok (.iload_n 1, 1) := by decide +kernel
theorem d_X12_readClause_146 : decode cX12_readClause 146 = .ok (.aload_n 0, 1) := by decide +kernel
theorem d_X12_readClause_147 : decode cX12_readClause 147 = .ok (.getfield 46, 3) := by decide +kernel
theorem d_X12_readClause_150 : decode cX12_readClause 150 = .ok (.iconst 4, 1) := by decide +kernel
theorem d_X12_readClause_151 : decode cX12_readClause 151 = .ok (.aload_n 0, 1) := by decide +kernel
theorem d_X12_readClause_152 : decode cX12_readClause 152 = .ok (.getfield 277, 3) := by decide +kernel
theorem d_X12_readClause_155 : decode cX12_readClause 155 = .ok (.iconst 1, 1) := by decide +kernel
theorem d_X12_readClause_156 : decode cX12_readClause 156 = .ok (.isub, 1) := by decide +kernel
theorem d_X12_readClause_157 : decode cX12_readClause 157 = .ok (.imul, 1) := by decide +kernel
theorem d_X12_readClause_158 : decode cX12_readClause 158 = .ok (.ldc_w 292, 3) := by decide +kernel
theorem d_X12_readClause_161 : decode cX12_readClause 161 = .ok (.invokevirtual 288, 3) := by decide +kernel
theorem d_X12_readClause_164 : decode cX12_readClause 164 = .ok (.goto 72, 3) := by decide +kernel
theorem d_X12_readClause_167 : decode cX12_readClause 167 = .ok (.iload_n 1, 1) := by decide +kernel
theorem d_X12_readClause_168 : decode cX12_readClause 168 = .ok (.bipush 99, 2) := by decide +kernel
theorem d_X12_readClause_170 : decode cX12_readClause 170 = .ok (.if_icmp .ne 36, 3) := by decide +kernel
theorem d_X12_readClause_173 : decode cX12_readClause 173 = .ok (.aload_n 0, 1) := by decide +kernel
theorem d_X12_readClause_174 : decode cX12_readClause 174 = .ok (.dup, 1) := by decide +kernel
theorem d_X12_readClause_175 : decode cX12_readClause 175 = .ok (.getfield 280, 3) := by decide +kernel
theorem d_X12_readClause_178 : decode cX12_readClause 178 = .ok (.iconst 1, 1) := by decide +kernel
theorem d_X12_readClause_179 : decode cX12_readClause 179 = .ok (.iadd, 1) := by decide +kernel
theorem d_X12_readClause_180 : decode cX12_readClause 180 = .ok (.putfield 280, 3) := by decide +kernel
theorem d_X12_readClause_183 : decode cX12_readClause 183 = .ok (.aload_n 0, 1) := by decide +kernel
theorem d_X12_readClause_184 : decode cX12_readClause 184 = .ok (.iload_n 1, 1) := by decide +kernel
theorem d_X12_readClause_185 : decode cX12_readClause 185 = .ok (.aload_n 0, 1) := by decide +kernel
theorem d_X12_readClause_186 : decode cX12_readClause 186 = .ok (.getfield 49, 3) := by decide +kernel
theorem d_X12_readClause_189 : decode cX12_readClause 189 = .ok (.iconst 5, 1) := by decide +kernel
theorem d_X12_readClause_190 : decode cX12_readClause 190 = .ok (.aload_n 0, 1) := by decide +kernel
theorem d_X12_readClause_191 : decode cX12_readClause 191 = .ok (.getfield 280, 3) := by decide +kernel
theorem d_X12_readClause_194 : decode cX12_readClause 194 = .ok (.iconst 1, 1) := by decide +kernel
theorem d_X12_readClause_195 : decode cX12_readClause 195 = .ok (.isub, 1) := by decide +kernel
theorem d_X12_readClause_196 : decode cX12_readClause 196 = .ok (.imul, 1) := by decide +kernel
theorem d_X12_readClause_197 : decode cX12_readClause 197 = .ok (.ldc_w 294, 3) := by decide +kernel
theorem d_X12_readClause_200 : decode cX12_readClause 200 = .ok (.invokevirtual 288, 3) := by decide +kernel
theorem d_X12_readClause_203 : decode cX12_readClause 203 = .ok (.goto 33, 3) := by decide +kernel
theorem d_X12_readClause_206 : decode cX12_readClause 206 = .ok (.aload_n 0, 1) := by decide +kernel
theorem d_X12_readClause_207 : decode cX12_readClause 207 = .ok (.dup, 1) := by decide +kernel
theorem d_X12_readClause_208 : decode cX12_readClause 208 = .ok (.getfield 283, 3) := by decide +kernel
theorem d_X12_readClause_211 : decode cX12_readClause 211 = .ok (.iconst 1, 1) := by decide +kernel
theorem d_X12_readClause_212 : decode cX12_readClause 212 = .ok (.iadd, 1) := by decide +kernel
theorem d_X12_readClause_213 : decode cX12_readClause 213 = .ok (.putfield 283, 3) := by decide +kernel
theorem d_X12_readClause_216 : decode cX12_readClause 216 = .ok (.aload_n 0, 1) := by decide +kernel
theorem d_X12_readClause_217 : decode cX12_readClause 217 = .ok (.iload_n 1, 1) := by decide +kernel
theorem d_X12_readClause_218 : decode cX12_readClause 218 = .ok (.aload_n 0, 1) := by decide +kernel
theorem d_X12_readClause_219 : decode cX12_readClause 219 = .ok (.getfield 55, 3) := by decide +kernel
theorem d_X12_readClause_222 : decode cX12_readClause 222 = .ok (.iconst 2, 1) := by decide +kernel
theorem d_X12_readClause_223 : decode cX12_readClause 223 = .ok (.aload_n 0, 1) := by decide +kernel
theorem d_X12_readClause_224 : decode cX12_readClause 224 = .ok (.getfield 283, 3) := by decide +kernel
theorem d_X12_readClause_227 : decode cX12_readClause 227 = .ok (.iconst 1, 1) := by decide +kernel
theorem d_X12_readClause_228 : decode cX12_readClause 228 = .ok (.isub, 1) := by decide +kernel
theorem d_X12_readClause_229 : decode cX12_readClause 229 = .ok (.imul, 1) := by decide +kernel
theorem d_X12_readClause_230 : decode cX12_readClause 230 = .ok (.ldc_w 296, 3) := by decide +kernel
theorem d_X12_readClause_233 : decode cX12_readClause 233 = .ok (.invokevirtual 288, 3) := by decide +kernel
theorem d_X12_readClause_236 : decode cX12_readClause 236 = .ok (.return_, 1) := by decide +kernel
def f_X12_readClause (this : Nat) : sa_M Unit :=
sa_gd 12 this (
sa_bnd (f_X12_look this) fun v1 =>
sa_jn1 (fun (y2 : Int32) =>
if ¬ y2 = 0 then
sa_bnd (sa_rdI 12 this 10) fun v3 =>
sa_bnd (sa_wrI 12 this 10 (v3 + 1)) fun _ =>
sa_jn0 (sa_ret ()) fun j236 =>
if ¬ v1 = 112 then
if ¬ v1 = 119 then
if ¬ v1 = 99 then
sa_bnd (sa_rdI 12 this 31) fun v4 =>
sa_bnd (sa_wrI 12 this 31 (v4 + 1)) fun _ =>
sa_bnd (sa_rdR 12 this 24) fun v5 =>
sa_bnd (sa_rdI 12 this 31) fun v6 =>
sa_bnd (f_X12_readItems this v1 v5 (2 * (v6 - 1)) (1000 + 9)) fun _ =>
j236
else
sa_bnd (sa_rdI 12 this 30) fun v7 =>
sa_bnd (sa_wrI 12 this 30 (v7 + 1)) fun _ =>
sa_bnd (sa_rdR 12 this 22) fun v8 =>
sa_bnd (sa_rdI 12 this 30) fun v9 =>
sa_bnd (f_X12_readItems this v1 v8 (5 * (v9 - 1)) (1000 + 8)) fun _ =>
j236
else
sa_bnd (sa_rdI 12 this 29) fun v10 =>
sa_bnd (sa_wrI 12 this 29 (v10 + 1)) fun _ =>
sa_bnd (sa_rdR 12 this 21) fun v11 =>
sa_bnd (sa_rdI 12 this 29) fun v12 =>
sa_bnd (f_X12_readItems this v1 v11 (4 * (v12 - 1)) (1000 + 7)) fun _ =>
j236
else
sa_bnd (sa_rdI 12 this 28) fun v13 =>
sa_bnd (sa_wrI 12 this 28 (v13 + 1)) fun _ =>
sa_bnd (sa_rdR 12 this 19) fun v14 =>
sa_bnd (sa_rdI 12 this 28) fun v15 =>
sa_bnd (f_X12_readItems this v1 v14 (4 * (v15 - 1)) (1000 + 6)) fun _ =>
j236
else
sa_bnd (f_X12_fails this) fun v16 =>
sa_ret ()) fun j68 =>
sa_jn0 (j68 1) fun j63 =>
sa_jn0 (sa_jn0 (sa_jn0 (sa_jn0 (j68 0) fun j67 =>
if ¬ v1 = 102 then
j67
else
sa_bnd (sa_rdI 12 this 31) fun v17 =>
if 3 ≤ v17 then
j67
else
j63) fun j49 =>
if ¬ v1 = 99 then
j49
else
sa_bnd (sa_rdI 12 this 30) fun v18 =>
if v18 < 5 then
j63
else
j49) fun j35 =>
if ¬ v1 = 119 then
j35
else
sa_bnd (sa_rdI 12 this 29) fun v19 =>
if v19 < 12 then
j63
else
j35) fun j20 =>
if ¬ v1 = 112 then
j20
else
sa_bnd (sa_rdI 12 this 28) fun v20 =>
if v20 < 8 then
j63
else
j20)
set_option maxHeartbeats 1000000 in
set_option maxRecDepth 10000 in
theorem b_X12_readClause {p : Program} {l : Launch} {e : Env} {s : State} {m : MethodId} {args : Array Value} {below : List Frame} {meth : Method} {c : Code} {D : va_G} {ad : Nat → Nat} {cA : FieldType → ClassId} {A : Nat → Prop} (this : Nat) (C : sa_C p s m args meth c cX12_readClause RX12 "readClause" 3 none D ad cA A) : sa_Sg p l e s m args below meth c 3 7 D ad cA A sa_eV 0 [(0, .ref (ad this))] [] (f_X12_readClause this) := by
  unfold f_X12_readClause
  refine sa_gdI ?_
  refine sa_aload_n C d_X12_readClause_0 rfl 0 rfl ?_
  refine sa_invV (ci := 12) C (k_X12_look this) q1653 ds_X12_look q128 rfl q1652 q49 q1650 (gd_X12_look this) rfl rfl rfl (Nat.le_of_ble_eq_true rfl) (by decide) (by decide) d_X12_readClause_1 (fun v1 => ?_)
  refine sa_istore_n (lv' := [(1, .int v1), (0, .ref (ad this))]) C d_X12_readClause_4 rfl (by decide) rfl ?_
  refine sa_iload_n C d_X12_readClause_5 rfl 0 rfl ?_
  refine sa_bipush (v := 112) C d_X12_readClause_6 (by decide) ?_
  refine sa_join1 68 (fun y2 => [(0, .ref (ad this)), (1, .int v1)]) (fun y2 => [.int y2]) (fun y2 => ?_) (fun j68 hj68 => ?_)
  · refine sa_istore_n (lv' := [(2, .int y2), (0, .ref (ad this)), (1, .int v1)]) C d_X12_readClause_68 rfl (by decide) rfl ?_
    refine sa_iload_n C d_X12_readClause_69 rfl 0 rfl ?_
    refine sa_if_ne (tgt := 79) C d_X12_readClause_70 (by decide) ?_ ?_
    · refine sa_aload_n C d_X12_readClause_79 rfl 1 rfl ?_
      refine sa_dup C d_X12_readClause_80 rfl ?_
      refine sa_getI C fd_X12_150 d_X12_readClause_81 (fun v3 => ?_)
      refine sa_iconst (v := 1) C d_X12_readClause_84 (by decide) ?_
      refine sa_iadd C d_X12_readClause_85 ?_
      refine sa_putI C fd_X12_150 d_X12_readClause_86 ?_
      refine sa_iload_n C d_X12_readClause_89 rfl 2 rfl ?_
      refine sa_bipush (v := 112) C d_X12_readClause_90 (by decide) ?_
      refine sa_join0 236 ([]) ([]) (?_) (fun j236 hj236 => ?_)
      · exact sa_vret C d_X12_readClause_236
      refine sa_icmp_ne (tgt := 128) C d_X12_readClause_92 (by decide) ?_ ?_
      · refine sa_iload_n C d_X12_readClause_128 rfl 2 rfl ?_
        refine sa_bipush (v := 119) C d_X12_readClause_129 (by decide) ?_
        refine sa_icmp_ne (tgt := 167) C d_X12_readClause_131 (by decide) ?_ ?_
        · refine sa_iload_n C d_X12_readClause_167 rfl 2 rfl ?_
          refine sa_bipush (v := 99) C d_X12_readClause_168 (by decide) ?_
          refine sa_icmp_ne (tgt := 206) C d_X12_readClause_170 (by decide) ?_ ?_
          · refine sa_aload_n C d_X12_readClause_206 rfl 1 rfl ?_
            refine sa_dup C d_X12_readClause_207 rfl ?_
            refine sa_getI C fd_X12_283 d_X12_readClause_208 (fun v4 => ?_)
            refine sa_iconst (v := 1) C d_X12_readClause_211 (by decide) ?_
            refine sa_iadd C d_X12_readClause_212 ?_
            refine sa_putI C fd_X12_283 d_X12_readClause_213 ?_
            refine sa_aload_n C d_X12_readClause_216 rfl 1 rfl ?_
            refine sa_iload_n C d_X12_readClause_217 rfl 2 rfl ?_
            refine sa_aload_n C d_X12_readClause_218 rfl 1 rfl ?_
            refine sa_getR C fd_X12_55 rfl d_X12_readClause_219 (fun v5 => ?_)
            refine sa_iconst (v := 2) C d_X12_readClause_222 (by decide) ?_
            refine sa_aload_n C d_X12_readClause_223 rfl 1 rfl ?_
            refine sa_getI C fd_X12_283 d_X12_readClause_224 (fun v6 => ?_)
            refine sa_iconst (v := 1) C d_X12_readClause_227 (by decide) ?_
            refine sa_isub C d_X12_readClause_228 ?_
            refine sa_imul C d_X12_readClause_229 ?_
            refine sa_ldcSw C 11 rfl d_X12_readClause_230 ?_
            refine sa_invV (ci := 12) C (k_X12_readItems this v1 v5 (2 * (v6 - 1)) (1000 + 9)) q1662 ds_X12_readItems q128 rfl q1661 q51 q1659 (gd_X12_readItems this v1 v5 (2 * (v6 - 1)) (1000 + 9)) rfl rfl rfl (Nat.le_of_ble_eq_true rfl) (by decide) (by decide) d_X12_readClause_233 (fun _ => ?_)
            exact sa_sub [] rfl (hj236)
          refine sa_aload_n C d_X12_readClause_173 rfl 1 rfl ?_
          refine sa_dup C d_X12_readClause_174 rfl ?_
          refine sa_getI C fd_X12_280 d_X12_readClause_175 (fun v7 => ?_)
          refine sa_iconst (v := 1) C d_X12_readClause_178 (by decide) ?_
          refine sa_iadd C d_X12_readClause_179 ?_
          refine sa_putI C fd_X12_280 d_X12_readClause_180 ?_
          refine sa_aload_n C d_X12_readClause_183 rfl 1 rfl ?_
          refine sa_iload_n C d_X12_readClause_184 rfl 2 rfl ?_
          refine sa_aload_n C d_X12_readClause_185 rfl 1 rfl ?_
          refine sa_getR C fd_X12_49 rfl d_X12_readClause_186 (fun v8 => ?_)
          refine sa_iconst (v := 5) C d_X12_readClause_189 (by decide) ?_
          refine sa_aload_n C d_X12_readClause_190 rfl 1 rfl ?_
          refine sa_getI C fd_X12_280 d_X12_readClause_191 (fun v9 => ?_)
          refine sa_iconst (v := 1) C d_X12_readClause_194 (by decide) ?_
          refine sa_isub C d_X12_readClause_195 ?_
          refine sa_imul C d_X12_readClause_196 ?_
          refine sa_ldcSw C 10 rfl d_X12_readClause_197 ?_
          refine sa_invV (ci := 12) C (k_X12_readItems this v1 v8 (5 * (v9 - 1)) (1000 + 8)) q1662 ds_X12_readItems q128 rfl q1661 q51 q1659 (gd_X12_readItems this v1 v8 (5 * (v9 - 1)) (1000 + 8)) rfl rfl rfl (Nat.le_of_ble_eq_true rfl) (by decide) (by decide) d_X12_readClause_200 (fun _ => ?_)
          refine sa_goto (tgt := 236) C d_X12_readClause_203 (by decide) ?_
          exact sa_sub [] rfl (hj236)
        refine sa_aload_n C d_X12_readClause_134 rfl 1 rfl ?_
        refine sa_dup C d_X12_readClause_135 rfl ?_
        refine sa_getI C fd_X12_277 d_X12_readClause_136 (fun v10 => ?_)
        refine sa_iconst (v := 1) C d_X12_readClause_139 (by decide) ?_
        refine sa_iadd C d_X12_readClause_140 ?_
        refine sa_putI C fd_X12_277 d_X12_readClause_141 ?_
        refine sa_aload_n C d_X12_readClause_144 rfl 1 rfl ?_
        refine sa_iload_n C d_X12_readClause_145 rfl 2 rfl ?_
        refine sa_aload_n C d_X12_readClause_146 rfl 1 rfl ?_
        refine sa_getR C fd_X12_46 rfl d_X12_readClause_147 (fun v11 => ?_)
        refine sa_iconst (v := 4) C d_X12_readClause_150 (by decide) ?_
        refine sa_aload_n C d_X12_readClause_151 rfl 1 rfl ?_
        refine sa_getI C fd_X12_277 d_X12_readClause_152 (fun v12 => ?_)
        refine sa_iconst (v := 1) C d_X12_readClause_155 (by decide) ?_
        refine sa_isub C d_X12_readClause_156 ?_
        refine sa_imul C d_X12_readClause_157 ?_
        refine sa_ldcSw C 9 rfl d_X12_readClause_158 ?_
        refine sa_invV (ci := 12) C (k_X12_readItems this v1 v11 (4 * (v12 - 1)) (1000 + 7)) q1662 ds_X12_readItems q128 rfl q1661 q51 q1659 (gd_X12_readItems this v1 v11 (4 * (v12 - 1)) (1000 + 7)) rfl rfl rfl (Nat.le_of_ble_eq_true rfl) (by decide) (by decide) d_X12_readClause_161 (fun _ => ?_)
        refine sa_goto (tgt := 236) C d_X12_readClause_164 (by decide) ?_
        exact sa_sub [] rfl (hj236)
      refine sa_aload_n C d_X12_readClause_95 rfl 1 rfl ?_
      refine sa_dup C d_X12_readClause_96 rfl ?_
      refine sa_getI C fd_X12_274 d_X12_readClause_97 (fun v13 => ?_)
      refine sa_iconst (v := 1) C d_X12_readClause_100 (by decide) ?_
      refine sa_iadd C d_X12_readClause_101 ?_
      refine sa_putI C fd_X12_274 d_X12_readClause_102 ?_
      refine sa_aload_n C d_X12_readClause_105 rfl 1 rfl ?_
      refine sa_iload_n C d_X12_readClause_106 rfl 2 rfl ?_
      refine sa_aload_n C d_X12_readClause_107 rfl 1 rfl ?_
      refine sa_getR C fd_X12_40 rfl d_X12_readClause_108 (fun v14 => ?_)
      refine sa_iconst (v := 4) C d_X12_readClause_111 (by decide) ?_
      refine sa_aload_n C d_X12_readClause_112 rfl 1 rfl ?_
      refine sa_getI C fd_X12_274 d_X12_readClause_113 (fun v15 => ?_)
      refine sa_iconst (v := 1) C d_X12_readClause_116 (by decide) ?_
      refine sa_isub C d_X12_readClause_117 ?_
      refine sa_imul C d_X12_readClause_118 ?_
      refine sa_ldcSw C 8 rfl d_X12_readClause_119 ?_
      refine sa_invV (ci := 12) C (k_X12_readItems this v1 v14 (4 * (v15 - 1)) (1000 + 6)) q1662 ds_X12_readItems q128 rfl q1661 q51 q1659 (gd_X12_readItems this v1 v14 (4 * (v15 - 1)) (1000 + 6)) rfl rfl rfl (Nat.le_of_ble_eq_true rfl) (by decide) (by decide) d_X12_readClause_122 (fun _ => ?_)
      refine sa_goto (tgt := 236) C d_X12_readClause_125 (by decide) ?_
      exact sa_sub [] rfl (hj236)
    refine sa_aload_n C d_X12_readClause_73 rfl 1 rfl ?_
    refine sa_invV (ci := 12) C (k_X12_fails this) q1657 ds_X12_fails q128 rfl q1656 q50 q1654 (gd_X12_fails this) rfl rfl rfl (Nat.le_of_ble_eq_true rfl) (by decide) (by decide) d_X12_readClause_74 (fun v16 => ?_)
    refine sa_pop C d_X12_readClause_77 rfl ?_
    exact sa_vret C d_X12_readClause_78
  refine sa_join0 63 ([(0, .ref (ad this)), (1, .int v1)]) ([]) (?_) (fun j63 hj63 => ?_)
  · refine sa_iconst (v := 1) C d_X12_readClause_63 (by decide) ?_
    refine sa_goto (tgt := 68) C d_X12_readClause_64 (by decide) ?_
    exact sa_sub [0, 1] rfl (hj68 _)
  refine sa_join0 20 ([(0, .ref (ad this)), (1, .int v1)]) ([]) (?_) (fun j20 hj20 => ?_)
  · refine sa_iload_n C d_X12_readClause_20 rfl 1 rfl ?_
    refine sa_bipush (v := 119) C d_X12_readClause_21 (by decide) ?_
    refine sa_join0 35 ([(0, .ref (ad this)), (1, .int v1)]) ([]) (?_) (fun j35 hj35 => ?_)
    · refine sa_iload_n C d_X12_readClause_35 rfl 1 rfl ?_
      refine sa_bipush (v := 99) C d_X12_readClause_36 (by decide) ?_
      refine sa_join0 49 ([(0, .ref (ad this)), (1, .int v1)]) ([]) (?_) (fun j49 hj49 => ?_)
      · refine sa_iload_n C d_X12_readClause_49 rfl 1 rfl ?_
        refine sa_bipush (v := 102) C d_X12_readClause_50 (by decide) ?_
        refine sa_join0 67 ([(0, .ref (ad this)), (1, .int v1)]) ([]) (?_) (fun j67 hj67 => ?_)
        · refine sa_iconst (v := 0) C d_X12_readClause_67 (by decide) ?_
          exact sa_sub [0, 1] rfl (hj68 _)
        refine sa_icmp_ne (tgt := 67) C d_X12_readClause_52 (by decide) ?_ ?_
        · exact sa_sub [0, 1] rfl (hj67)
        refine sa_aload_n C d_X12_readClause_55 rfl 0 rfl ?_
        refine sa_getI C fd_X12_283 d_X12_readClause_56 (fun v17 => ?_)
        refine sa_iconst (v := 3) C d_X12_readClause_59 (by decide) ?_
        refine sa_icmp_ge (tgt := 67) C d_X12_readClause_60 (by decide) ?_ ?_
        · exact sa_sub [0, 1] rfl (hj67)
        exact sa_sub [0, 1] rfl (hj63)
      refine sa_icmp_ne (tgt := 49) C d_X12_readClause_38 (by decide) ?_ ?_
      · exact sa_sub [0, 1] rfl (hj49)
      refine sa_aload_n C d_X12_readClause_41 rfl 0 rfl ?_
      refine sa_getI C fd_X12_280 d_X12_readClause_42 (fun v18 => ?_)
      refine sa_iconst (v := 5) C d_X12_readClause_45 (by decide) ?_
      refine sa_icmp_lt (tgt := 63) C d_X12_readClause_46 (by decide) ?_ ?_
      · exact sa_sub [0, 1] rfl (hj63)
      exact sa_sub [0, 1] rfl (hj49)
    refine sa_icmp_ne (tgt := 35) C d_X12_readClause_23 (by decide) ?_ ?_
    · exact sa_sub [0, 1] rfl (hj35)
    refine sa_aload_n C d_X12_readClause_26 rfl 0 rfl ?_
    refine sa_getI C fd_X12_277 d_X12_readClause_27 (fun v19 => ?_)
    refine sa_bipush (v := 12) C d_X12_readClause_30 (by decide) ?_
    refine sa_icmp_lt (tgt := 63) C d_X12_readClause_32 (by decide) ?_ ?_
    · exact sa_sub [0, 1] rfl (hj63)
    exact sa_sub [0, 1] rfl (hj35)
  refine sa_icmp_ne (tgt := 20) C d_X12_readClause_8 (by decide) ?_ ?_
  · exact sa_sub [1, 0] rfl (hj20)
  refine sa_aload_n C d_X12_readClause_11 rfl 1 rfl ?_
  refine sa_getI C fd_X12_274 d_X12_readClause_12 (fun v20 => ?_)
  refine sa_bipush (v := 8) C d_X12_readClause_15 (by decide) ?_
  refine sa_icmp_lt (tgt := 63) C d_X12_readClause_17 (by decide) ?_ ?_
  · exact sa_sub [1, 0] rfl (hj63)
  exact sa_sub [1, 0] rfl (hj20)
theorem k_X12_readClause (this : Nat) : sa_Met 7 yX12_readClause cX12_readClause 3 none (fun ad => [.ref (ad this)]) sa_eV (f_X12_readClause this) := sa_mk (by decide) (fun ad => Nat.le_of_ble_eq_true rfl) (fun p l e s m args below meth c D ad cA A C => b_X12_readClause this C)
theorem gd_X12_readClause (this : Nat) (σ : sa_St) (r : Unit) (τ : sa_St) (h : f_X12_readClause this σ = some (r, τ)) : sa_sh this = some (.inl 12) := sa_gd_ok h
theorem d_X12_isWhole_0 : decode cX12_isWhole 0 = .ok (.aload_n 0, 1) := by decide +kernel
theorem d_X12_isWhole_1 : decode cX12_isWhole 1 = .ok (.getfield 274, 3) := by decide +kernel
theorem d_X12_isWhole_4 : decode cX12_isWhole 4 = .ok (.iconst 1, 1) := by decide +kernel
theorem d_X12_isWhole_5 : decode cX12_isWhole 5 = .ok (.if_icmp .le 14, 3) := by decide +kernel
theorem d_X12_isWhole_8 : decode cX12_isWhole 8 = .ok (.aload_n 0, 1) := by decide +kernel
theorem d_X12_isWhole_9 : decode cX12_isWhole 9 = .ok (.getfield 280, 3) := by decide +kernel
theorem d_X12_isWhole_12 : decode cX12_isWhole 12 = .ok (.ifCond .le 7, 3) := by decide +kernel
theorem d_X12_isWhole_15 : decode cX12_isWhole 15 = .ok (.iconst 1, 1) := by decide +kernel
theorem d_X12_isWhole_16 : decode cX12_isWhole 16 = .ok (.goto 4, 3) := by decide +kernel
theorem d_X12_isWhole_19 : decode cX12_isWhole 19 = .ok (.iconst 0, 1) := by decide +kernel
theorem d_X12_isWhole_20 : decode cX12_isWhole 20 = .ok (.istore_n 1, 1) := by decide +kernel
theorem d_X12_isWhole_21 : decode cX12_isWhole 21 = .ok (.iconst 0, 1) := by decide +kernel
theorem d_X12_isWhole_22 : decode cX12_isWhole 22 = .ok (.istore_n 2, 1) := by decide +kernel
theorem d_X12_isWhole_23 : decode cX12_isWhole 23 = .ok (.iload_n 2, 1) := by decide +kernel
theorem d_X12_isWhole_24 : decode cX12_isWhole 24 = .ok (.aload_n 0, 1) := by decide +kernel
theorem d_X12_isWhole_25 : decode cX12_isWhole 25 = .ok (.getfield 277, 3) := by decide +kernel
theorem d_X12_isWhole_28 : decode cX12_isWhole 28 = .ok (.if_icmp .ge 72, 3) := by decide +kernel
theorem d_X12_isWhole_31 : decode cX12_isWhole 31 = .ok (.iload_n 1, 1) := by decide +kernel
theorem d_X12_isWhole_32 : decode cX12_isWhole 32 = .ok (.ifCond .eq 60, 3) := by decide +kernel
theorem d_X12_isWhole_35 : decode cX12_isWhole 35 = .ok (.aload_n 0, 1) := by decide +kernel
theorem d_X12_isWhole_36 : decode cX12_isWhole 36 = .ok (.getfield 46, 3) := by decide +kernel
theorem d_X12_isWhole_39 : decode cX12_isWhole 39 = .ok (.iconst 4, 1) := by decide +kernel
theorem d_X12_isWhole_40 : decode cX12_isWhole 40 = .ok (.iload_n 2, 1) := by decide +kernel
theorem d_X12_isWhole_41 : decode cX12_isWhole 41 = .ok (.imul, 1) := by decide +kernel
theorem d_X12_isWhole_42 : decode cX12_isWhole 42 = .ok (.iaload, 1) := by decide +kernel
theorem d_X12_isWhole_43 : decode cX12_isWhole 43 = .ok (.aload_n 0, 1) := by decide +kernel
theorem d_X12_isWhole_44 : decode cX12_isWhole 44 = .ok (.getfield 46, 3) := by decide +kernel
theorem d_X12_isWhole_47 : decode cX12_isWhole 47 = .ok (.iconst 4, 1) := by decide +kernel
theorem d_X12_isWhole_48 : decode cX12_isWhole 48 = .ok (.iload_n 2, 1) := by decide +kernel
theorem d_X12_isWhole_49 : decode cX12_isWhole 49 = .ok (.imul, 1) := by decide +kernel
theorem d_X12_isWhole_50 : decode cX12_isWhole 50 = .ok (.iconst 1, 1) := by decide +kernel
theorem d_X12_isWhole_51 : decode cX12_isWhole 51 = .ok (.iadd, 1) := by decide +kernel
theorem d_X12_isWhole_52 : decode cX12_isWhole 52 = .ok (.iaload, 1) := by decide +kernel
theorem d_X12_isWhole_53 : decode cX12_isWhole 53 = .ok (.if_icmp .eq 39, 3) := by decide +kernel
theorem d_X12_isWhole_56 : decode cX12_isWhole 56 = .ok (.aload_n 0, 1) := by decide +kernel
theorem d_X12_isWhole_57 : decode cX12_isWhole 57 = .ok (.getfield 46, 3) := by decide +kernel
theorem d_X12_isWhole_60 : decode cX12_isWhole 60 = .ok (.iconst 4, 1) := by decide +kernel
theorem d_X12_isWhole_61 : decode cX12_isWhole 61 = .ok (.iload_n 2, 1) := by decide +kernel
theorem d_X12_isWhole_62 : decode cX12_isWhole 62 = .ok (.imul, 1) := by decide +kernel
theorem d_X12_isWhole_63 : decode cX12_isWhole 63 = .ok (.iaload, 1) := by decide +kernel
theorem d_X12_isWhole_64 : decode cX12_isWhole 64 = .ok (.aload_n 0, 1) := by decide +kernel
theorem d_X12_isWhole_65 : decode cX12_isWhole 65 = .ok (.getfield 274, 3) := by decide +kernel
theorem d_X12_isWhole_68 : decode cX12_isWhole 68 = .ok (.if_icmp .ge 24, 3) := by decide +kernel
theorem d_X12_isWhole_71 : decode cX12_isWhole 71 = .ok (.aload_n 0, 1) := by decide +kernel
theorem d_X12_isWhole_72 : decode cX12_isWhole 72 = .ok (.getfield 46, 3) := by decide +kernel
theorem d_X12_isWhole_75 : decode cX12_isWhole 75 = .ok (.iconst 4, 1) := by decide +kernel
theorem d_X12_isWhole_76 : decode cX12_isWhole 76 = .ok (.iload_n 2, 1) := by decide +kernel
theorem d_X12_isWhole_77 : decode cX12_isWhole 77 = .ok (.imul, 1) := by decide +kernel
theorem d_X12_isWhole_78 : decode cX12_isWhole 78 = .ok (.iconst 1, 1) := by decide +kernel
theorem d_X12_isWhole_79 : decode cX12_isWhole 79 = .ok (.iadd, 1) := by decide +kernel
theorem d_X12_isWhole_80 : decode cX12_isWhole 80 = .ok (.iaload, 1) := by decide +kernel
theorem d_X12_isWhole_81 : decode cX12_isWhole 81 = .ok (.aload_n 0, 1) := by decide +kernel
theorem d_X12_isWhole_82 : decode cX12_isWhole 82 = .ok (.getfield 274, 3) := by decide +kernel
theorem d_X12_isWhole_85 : decode cX12_isWhole 85 = .ok (.if_icmp .ge 7, 3) := by decide +kernel
theorem d_X12_isWhole_88 : decode cX12_isWhole 88 = .ok (.iconst 1, 1) := by decide +kernel
theorem d_X12_isWhole_89 : decode cX12_isWhole 89 = .ok (.goto 4, 3) := by decide +kernel
theorem d_X12_isWhole_92 : decode cX12_isWhole 92 = .ok (.iconst 0, 1) := by decide +kernel
theorem d_X12_isWhole_93 : decode cX12_isWhole 93 = .ok (.istore_n 1, 1) := by decide +kernel
theorem d_X12_isWhole_94 : decode cX12_isWhole 94 = .ok (.iinc 2 1, 3) := by decide +kernel
theorem d_X12_isWhole_97 : decode cX12_isWhole 97 = .ok (.goto (-74), 3) := by decide +kernel
theorem d_X12_isWhole_100 : decode cX12_isWhole 100 = .ok (.iconst 0, 1) := by decide +kernel
theorem d_X12_isWhole_101 : decode cX12_isWhole 101 = .ok (.istore_n 2, 1) := by decide +kernel
theorem d_X12_isWhole_102 : decode cX12_isWhole 102 = .ok (.iload_n 2, 1) := by decide +kernel
theorem d_X12_isWhole_103 : decode cX12_isWhole 103 = .ok (.aload_n 0, 1) := by decide +kernel
theorem d_X12_isWhole_104 : decode cX12_isWhole 104 = .ok (.getfield 280, 3) := by decide +kernel
theorem d_X12_isWhole_107 : decode cX12_isWhole 107 = .ok (.if_icmp .ge 34, 3) := by decide +kernel
theorem d_X12_isWhole_110 : decode cX12_isWhole 110 = .ok (.iload_n 1, 1) := by decide +kernel
theorem d_X12_isWhole_111 : decode cX12_isWhole 111 = .ok (.ifCond .eq 22, 3) := by decide +kernel
theorem d_X12_isWhole_114 : decode cX12_isWhole 114 = .ok (.aload_n 0, 1) := by decide +kernel
theorem d_X12_isWhole_115 : decode cX12_isWhole 115 = .ok (.getfield 49, 3) := by decide +kernel
theorem d_X12_isWhole_118 : decode cX12_isWhole 118 = .ok (.iconst 5, 1) := by decide +kernel
theorem d_X12_isWhole_119 : decode cX12_isWhole 119 = .ok (.iload_n 2, 1) := by decide +kernel
theorem d_X12_isWhole_120 : decode cX12_isWhole 120 = .ok (.imul, 1) := by decide +kernel
theorem d_X12_isWhole_121 : decode cX12_isWhole 121 = .ok (.iaload, 1) := by decide +kernel
theorem d_X12_isWhole_122 : decode cX12_isWhole 122 = .ok (.aload_n 0, 1) := by decide +kernel
theorem d_X12_isWhole_123 : decode cX12_isWhole 123 = .ok (.getfield 274, 3) := by decide +kernel
theorem d_X12_isWhole_126 : decode cX12_isWhole 126 = .ok (.if_icmp .ge 7, 3) := by decide +kernel
theorem d_X12_isWhole_129 : decode cX12_isWhole 129 = .ok (.iconst 1, 1) := by decide +kernel
theorem d_X12_isWhole_130 : decode cX12_isWhole 130 = .ok (.goto 4, 3) := by decide +kernel
theorem d_X12_isWhole_133 : decode cX12_isWhole 133 = .ok (.iconst 0, 1) := by decide +kernel
theorem d_X12_isWhole_134 : decode cX12_isWhole 134 = .ok (.istore_n 1, 1) := by decide +kernel
theorem d_X12_isWhole_135 : decode cX12_isWhole 135 = .ok (.iinc 2 1, 3) := by decide +kernel
theorem d_X12_isWhole_138 : decode cX12_isWhole 138 = .ok (.goto (-36), 3) := by decide +kernel
theorem d_X12_isWhole_141 : decode cX12_isWhole 141 = .ok (.iconst 0, 1) := by decide +kernel
theorem d_X12_isWhole_142 : decode cX12_isWhole 142 = .ok (.istore_n 2, 1) := by decide +kernel
theorem d_X12_isWhole_143 : decode cX12_isWhole 143 = .ok (.iload_n 2, 1) := by decide +kernel
theorem d_X12_isWhole_144 : decode cX12_isWhole 144 = .ok (.aload_n 0, 1) := by decide +kernel
theorem d_X12_isWhole_145 : decode cX12_isWhole 145 = .ok (.getfield 283, 3) := by decide +kernel
theorem d_X12_isWhole_148 : decode cX12_isWhole 148 = .ok (.if_icmp .ge 34, 3) := by decide +kernel
theorem d_X12_isWhole_151 : decode cX12_isWhole 151 = .ok (.iload_n 1, 1) := by decide +kernel
theorem d_X12_isWhole_152 : decode cX12_isWhole 152 = .ok (.ifCond .eq 22, 3) := by decide +kernel
theorem d_X12_isWhole_155 : decode cX12_isWhole 155 = .ok (.aload_n 0, 1) := by decide +kernel
theorem d_X12_isWhole_156 : decode cX12_isWhole 156 = .ok (.getfield 55, 3) := by decide +kernel
theorem d_X12_isWhole_159 : decode cX12_isWhole 159 = .ok (.iconst 2, 1) := by decide +kernel
theorem d_X12_isWhole_160 : decode cX12_isWhole 160 = .ok (.iload_n 2, 1) := by decide +kernel
theorem d_X12_isWhole_161 : decode cX12_isWhole 161 = .ok (.imul, 1) := by decide +kernel
theorem d_X12_isWhole_162 : decode cX12_isWhole 162 = .ok (.iaload, 1) := by decide +kernel
theorem d_X12_isWhole_163 : decode cX12_isWhole 163 = .ok (.aload_n 0, 1) := by decide +kernel
theorem d_X12_isWhole_164 : decode cX12_isWhole 164 = .ok (.getfield 274, 3) := by decide +kernel
theorem d_X12_isWhole_167 : decode cX12_isWhole 167 = .ok (.if_icmp .ge 7, 3) := by decide +kernel
theorem d_X12_isWhole_170 : decode cX12_isWhole 170 = .ok (.iconst 1, 1) := by decide +kernel
theorem d_X12_isWhole_171 : decode cX12_isWhole 171 = .ok (.goto 4, 3) := by decide +kernel
theorem d_X12_isWhole_174 : decode cX12_isWhole 174 = .ok (.iconst 0, 1) := by decide +kernel
theorem d_X12_isWhole_175 : decode cX12_isWhole 175 = .ok (.istore_n 1, 1) := by decide +kernel
theorem d_X12_isWhole_176 : decode cX12_isWhole 176 = .ok (.iinc 2 1, 3) := by decide +kernel
theorem d_X12_isWhole_179 : decode cX12_isWhole 179 = .ok (.goto (-36), 3) := by decide +kernel
theorem d_X12_isWhole_182 : decode cX12_isWhole 182 = .ok (.iload_n 1, 1) := by decide +kernel
theorem d_X12_isWhole_183 : decode cX12_isWhole 183 = .ok (.ireturn, 1) := by decide +kernel
def f_X12_isWhole (this : Nat) : sa_M Int32 :=
sa_gd 12 this (
sa_bnd (sa_rdI 12 this 28) fun v1 =>
sa_jn1 (fun (y2 : Int32) =>
sa_let (0 : Int32) fun x3 =>
sa_wh2 (fun j23 (x4 : Int32) (x5 : Int32) =>
sa_bnd (sa_rdI 12 this 29) fun v6 =>
if v6 ≤ x5 then
sa_let (0 : Int32) fun x7 =>
sa_wh2 (fun j102 (x8 : Int32) (x9 : Int32) =>
sa_bnd (sa_rdI 12 this 30) fun v10 =>
if v10 ≤ x9 then
sa_let (0 : Int32) fun x11 =>
sa_wh2 (fun j143 (x12 : Int32) (x13 : Int32) =>
sa_bnd (sa_rdI 12 this 31) fun v14 =>
if v14 ≤ x13 then
sa_retZ x12
else
sa_jn1 (fun (y15 : Int32) =>
sa_let ((x13 + 1) : Int32) fun x16 =>
j143 y15 x16) fun j175 =>
sa_jn0 (j175 0) fun j174 =>
if x12 = 0 then
j174
else
sa_bnd (sa_rdR 12 this 24) fun v17 =>
sa_bnd (sa_ldI .int v17 (2 * x13)) fun v18 =>
sa_bnd (sa_rdI 12 this 28) fun v19 =>
if v19 ≤ v18 then
j174
else
j175 1) sa_F x8 x11
else
sa_jn1 (fun (y20 : Int32) =>
sa_let ((x9 + 1) : Int32) fun x21 =>
j102 y20 x21) fun j134 =>
sa_jn0 (j134 0) fun j133 =>
if x8 = 0 then
j133
else
sa_bnd (sa_rdR 12 this 22) fun v22 =>
sa_bnd (sa_ldI .int v22 (5 * x9)) fun v23 =>
sa_bnd (sa_rdI 12 this 28) fun v24 =>
if v24 ≤ v23 then
j133
else
j134 1) sa_F x4 x7
else
sa_jn1 (fun (y25 : Int32) =>
sa_let ((x5 + 1) : Int32) fun x26 =>
j23 y25 x26) fun j93 =>
sa_jn0 (j93 0) fun j92 =>
if x4 = 0 then
j92
else
sa_bnd (sa_rdR 12 this 21) fun v27 =>
sa_bnd (sa_ldI .int v27 (4 * x5)) fun v28 =>
sa_bnd (sa_rdR 12 this 21) fun v29 =>
sa_bnd (sa_ldI .int v29 ((4 * x5) + 1)) fun v30 =>
if v28 = v30 then
j92
else
sa_bnd (sa_rdR 12 this 21) fun v31 =>
sa_bnd (sa_ldI .int v31 (4 * x5)) fun v32 =>
sa_bnd (sa_rdI 12 this 28) fun v33 =>
if v33 ≤ v32 then
j92
else
sa_bnd (sa_rdR 12 this 21) fun v34 =>
sa_bnd (sa_ldI .int v34 ((4 * x5) + 1)) fun v35 =>
sa_bnd (sa_rdI 12 this 28) fun v36 =>
if v36 ≤ v35 then
j92
else
j93 1) sa_F y2 x3) fun j20 =>
sa_jn0 (j20 0) fun j19 =>
if v1 ≤ 1 then
j19
else
sa_bnd (sa_rdI 12 this 30) fun v37 =>
if v37 ≤ 0 then
j19
else
j20 1)
set_option maxHeartbeats 1000000 in
set_option maxRecDepth 10000 in
theorem b_X12_isWhole {p : Program} {l : Launch} {e : Env} {s : State} {m : MethodId} {args : Array Value} {below : List Frame} {meth : Method} {c : Code} {D : va_G} {ad : Nat → Nat} {cA : FieldType → ClassId} {A : Nat → Prop} (this : Nat) (C : sa_C p s m args meth c cX12_isWhole RX12 "isWhole" 3 (some .boolean) D ad cA A) : sa_Sg p l e s m args below meth c 3 1 D ad cA A sa_eI 0 [(0, .ref (ad this))] [] (f_X12_isWhole this) := by
  unfold f_X12_isWhole
  refine sa_gdI ?_
  refine sa_aload_n C d_X12_isWhole_0 rfl 0 rfl ?_
  refine sa_getI C fd_X12_274 d_X12_isWhole_1 (fun v1 => ?_)
  refine sa_iconst (v := 1) C d_X12_isWhole_4 (by decide) ?_
  refine sa_join1 20 (fun y2 => [(0, .ref (ad this))]) (fun y2 => [.int y2]) (fun y2 => ?_) (fun j20 hj20 => ?_)
  · refine sa_istore_n (lv' := [(1, .int y2), (0, .ref (ad this))]) C d_X12_isWhole_20 rfl (by decide) rfl ?_
    refine sa_iconst (v := 0) C d_X12_isWhole_21 (by decide) ?_
    refine sa_topi (fun x3 => ?_)
    refine sa_istore_n (lv' := [(2, .int x3), (1, .int y2), (0, .ref (ad this))]) C d_X12_isWhole_22 rfl (by decide) rfl ?_
    refine sa_sub [2, 1, 0] rfl (sa_loop2 (fun x4 x5 => [(0, .ref (ad this)), (1, .int x4), (2, .int x5)]) (fun x4 x5 => []) (fun j23 hj23 x4 x5 => ?_) _ _ _)
    refine sa_iload_n C d_X12_isWhole_23 rfl 2 rfl ?_
    refine sa_aload_n C d_X12_isWhole_24 rfl 0 rfl ?_
    refine sa_getI C fd_X12_277 d_X12_isWhole_25 (fun v6 => ?_)
    refine sa_icmp_ge (tgt := 100) C d_X12_isWhole_28 (by decide) ?_ ?_
    · refine sa_iconst (v := 0) C d_X12_isWhole_100 (by decide) ?_
      refine sa_topi (fun x7 => ?_)
      refine sa_istore_n (lv' := [(2, .int x7), (0, .ref (ad this)), (1, .int x4)]) C d_X12_isWhole_101 rfl (by decide) rfl ?_
      refine sa_sub [1, 2, 0] rfl (sa_loop2 (fun x8 x9 => [(0, .ref (ad this)), (1, .int x8), (2, .int x9)]) (fun x8 x9 => []) (fun j102 hj102 x8 x9 => ?_) _ _ _)
      refine sa_iload_n C d_X12_isWhole_102 rfl 2 rfl ?_
      refine sa_aload_n C d_X12_isWhole_103 rfl 0 rfl ?_
      refine sa_getI C fd_X12_280 d_X12_isWhole_104 (fun v10 => ?_)
      refine sa_icmp_ge (tgt := 141) C d_X12_isWhole_107 (by decide) ?_ ?_
      · refine sa_iconst (v := 0) C d_X12_isWhole_141 (by decide) ?_
        refine sa_topi (fun x11 => ?_)
        refine sa_istore_n (lv' := [(2, .int x11), (0, .ref (ad this)), (1, .int x8)]) C d_X12_isWhole_142 rfl (by decide) rfl ?_
        refine sa_sub [1, 2, 0] rfl (sa_loop2 (fun x12 x13 => [(0, .ref (ad this)), (1, .int x12), (2, .int x13)]) (fun x12 x13 => []) (fun j143 hj143 x12 x13 => ?_) _ _ _)
        refine sa_iload_n C d_X12_isWhole_143 rfl 2 rfl ?_
        refine sa_aload_n C d_X12_isWhole_144 rfl 0 rfl ?_
        refine sa_getI C fd_X12_283 d_X12_isWhole_145 (fun v14 => ?_)
        refine sa_icmp_ge (tgt := 182) C d_X12_isWhole_148 (by decide) ?_ ?_
        · refine sa_iload_n C d_X12_isWhole_182 rfl 1 rfl ?_
          exact sa_zret C d_X12_isWhole_183
        refine sa_iload_n C d_X12_isWhole_151 rfl 1 rfl ?_
        refine sa_join1 175 (fun y15 => [(0, .ref (ad this)), (2, .int x13)]) (fun y15 => [.int y15]) (fun y15 => ?_) (fun j175 hj175 => ?_)
        · refine sa_istore_n (lv' := [(1, .int y15), (0, .ref (ad this)), (2, .int x13)]) C d_X12_isWhole_175 rfl (by decide) rfl ?_
          refine sa_iinc C (fun zz => [(2, .int zz), (1, .int y15), (0, .ref (ad this))]) d_X12_isWhole_176 2 rfl rfl (by decide) (fun _ => rfl) (fun x16 => ?_)
          refine sa_goto (tgt := 143) C d_X12_isWhole_179 (by decide) ?_
          exact sa_sub [2, 1, 0] rfl (hj143 _ _)
        refine sa_join0 174 ([(0, .ref (ad this)), (2, .int x13)]) ([]) (?_) (fun j174 hj174 => ?_)
        · refine sa_iconst (v := 0) C d_X12_isWhole_174 (by decide) ?_
          exact sa_sub [0, 1] rfl (hj175 _)
        refine sa_if_eq (tgt := 174) C d_X12_isWhole_152 (by decide) ?_ ?_
        · exact sa_sub [0, 2] rfl (hj174)
        refine sa_aload_n C d_X12_isWhole_155 rfl 0 rfl ?_
        refine sa_getR C fd_X12_55 rfl d_X12_isWhole_156 (fun v17 => ?_)
        refine sa_iconst (v := 2) C d_X12_isWhole_159 (by decide) ?_
        refine sa_iload_n C d_X12_isWhole_160 rfl 2 rfl ?_
        refine sa_imul C d_X12_isWhole_161 ?_
        refine sa_iald C d_X12_isWhole_162 (fun v18 => ?_)
        refine sa_aload_n C d_X12_isWhole_163 rfl 0 rfl ?_
        refine sa_getI C fd_X12_274 d_X12_isWhole_164 (fun v19 => ?_)
        refine sa_icmp_ge (tgt := 174) C d_X12_isWhole_167 (by decide) ?_ ?_
        · exact sa_sub [0, 2] rfl (hj174)
        refine sa_iconst (v := 1) C d_X12_isWhole_170 (by decide) ?_
        refine sa_goto (tgt := 175) C d_X12_isWhole_171 (by decide) ?_
        exact sa_sub [0, 2] rfl (hj175 _)
      refine sa_iload_n C d_X12_isWhole_110 rfl 1 rfl ?_
      refine sa_join1 134 (fun y20 => [(0, .ref (ad this)), (2, .int x9)]) (fun y20 => [.int y20]) (fun y20 => ?_) (fun j134 hj134 => ?_)
      · refine sa_istore_n (lv' := [(1, .int y20), (0, .ref (ad this)), (2, .int x9)]) C d_X12_isWhole_134 rfl (by decide) rfl ?_
        refine sa_iinc C (fun zz => [(2, .int zz), (1, .int y20), (0, .ref (ad this))]) d_X12_isWhole_135 2 rfl rfl (by decide) (fun _ => rfl) (fun x21 => ?_)
        refine sa_goto (tgt := 102) C d_X12_isWhole_138 (by decide) ?_
        exact sa_sub [2, 1, 0] rfl (hj102 _ _)
      refine sa_join0 133 ([(0, .ref (ad this)), (2, .int x9)]) ([]) (?_) (fun j133 hj133 => ?_)
      · refine sa_iconst (v := 0) C d_X12_isWhole_133 (by decide) ?_
        exact sa_sub [0, 1] rfl (hj134 _)
      refine sa_if_eq (tgt := 133) C d_X12_isWhole_111 (by decide) ?_ ?_
      · exact sa_sub [0, 2] rfl (hj133)
      refine sa_aload_n C d_X12_isWhole_114 rfl 0 rfl ?_
      refine sa_getR C fd_X12_49 rfl d_X12_isWhole_115 (fun v22 => ?_)
      refine sa_iconst (v := 5) C d_X12_isWhole_118 (by decide) ?_
      refine sa_iload_n C d_X12_isWhole_119 rfl 2 rfl ?_
      refine sa_imul C d_X12_isWhole_120 ?_
      refine sa_iald C d_X12_isWhole_121 (fun v23 => ?_)
      refine sa_aload_n C d_X12_isWhole_122 rfl 0 rfl ?_
      refine sa_getI C fd_X12_274 d_X12_isWhole_123 (fun v24 => ?_)
      refine sa_icmp_ge (tgt := 133) C d_X12_isWhole_126 (by decide) ?_ ?_
      · exact sa_sub [0, 2] rfl (hj133)
      refine sa_iconst (v := 1) C d_X12_isWhole_129 (by decide) ?_
      refine sa_goto (tgt := 134) C d_X12_isWhole_130 (by decide) ?_
      exact sa_sub [0, 2] rfl (hj134 _)
    refine sa_iload_n C d_X12_isWhole_31 rfl 1 rfl ?_
    refine sa_join1 93 (fun y25 => [(0, .ref (ad this)), (2, .int x5)]) (fun y25 => [.int y25]) (fun y25 => ?_) (fun j93 hj93 => ?_)
    · refine sa_istore_n (lv' := [(1, .int y25), (0, .ref (ad this)), (2, .int x5)]) C d_X12_isWhole_93 rfl (by decide) rfl ?_
      refine sa_iinc C (fun zz => [(2, .int zz), (1, .int y25), (0, .ref (ad this))]) d_X12_isWhole_94 2 rfl rfl (by decide) (fun _ => rfl) (fun x26 => ?_)
      refine sa_goto (tgt := 23) C d_X12_isWhole_97 (by decide) ?_
      exact sa_sub [2, 1, 0] rfl (hj23 _ _)
    refine sa_join0 92 ([(0, .ref (ad this)), (2, .int x5)]) ([]) (?_) (fun j92 hj92 => ?_)
    · refine sa_iconst (v := 0) C d_X12_isWhole_92 (by decide) ?_
      exact sa_sub [0, 1] rfl (hj93 _)
    refine sa_if_eq (tgt := 92) C d_X12_isWhole_32 (by decide) ?_ ?_
    · exact sa_sub [0, 2] rfl (hj92)
    refine sa_aload_n C d_X12_isWhole_35 rfl 0 rfl ?_
    refine sa_getR C fd_X12_46 rfl d_X12_isWhole_36 (fun v27 => ?_)
    refine sa_iconst (v := 4) C d_X12_isWhole_39 (by decide) ?_
    refine sa_iload_n C d_X12_isWhole_40 rfl 2 rfl ?_
    refine sa_imul C d_X12_isWhole_41 ?_
    refine sa_iald C d_X12_isWhole_42 (fun v28 => ?_)
    refine sa_aload_n C d_X12_isWhole_43 rfl 0 rfl ?_
    refine sa_getR C fd_X12_46 rfl d_X12_isWhole_44 (fun v29 => ?_)
    refine sa_iconst (v := 4) C d_X12_isWhole_47 (by decide) ?_
    refine sa_iload_n C d_X12_isWhole_48 rfl 2 rfl ?_
    refine sa_imul C d_X12_isWhole_49 ?_
    refine sa_iconst (v := 1) C d_X12_isWhole_50 (by decide) ?_
    refine sa_iadd C d_X12_isWhole_51 ?_
    refine sa_iald C d_X12_isWhole_52 (fun v30 => ?_)
    refine sa_icmp_eq (tgt := 92) C d_X12_isWhole_53 (by decide) ?_ ?_
    · exact sa_sub [0, 2] rfl (hj92)
    refine sa_aload_n C d_X12_isWhole_56 rfl 0 rfl ?_
    refine sa_getR C fd_X12_46 rfl d_X12_isWhole_57 (fun v31 => ?_)
    refine sa_iconst (v := 4) C d_X12_isWhole_60 (by decide) ?_
    refine sa_iload_n C d_X12_isWhole_61 rfl 2 rfl ?_
    refine sa_imul C d_X12_isWhole_62 ?_
    refine sa_iald C d_X12_isWhole_63 (fun v32 => ?_)
    refine sa_aload_n C d_X12_isWhole_64 rfl 0 rfl ?_
    refine sa_getI C fd_X12_274 d_X12_isWhole_65 (fun v33 => ?_)
    refine sa_icmp_ge (tgt := 92) C d_X12_isWhole_68 (by decide) ?_ ?_
    · exact sa_sub [0, 2] rfl (hj92)
    refine sa_aload_n C d_X12_isWhole_71 rfl 0 rfl ?_
    refine sa_getR C fd_X12_46 rfl d_X12_isWhole_72 (fun v34 => ?_)
    refine sa_iconst (v := 4) C d_X12_isWhole_75 (by decide) ?_
    refine sa_iload_n C d_X12_isWhole_76 rfl 2 rfl ?_
    refine sa_imul C d_X12_isWhole_77 ?_
    refine sa_iconst (v := 1) C d_X12_isWhole_78 (by decide) ?_
    refine sa_iadd C d_X12_isWhole_79 ?_
    refine sa_iald C d_X12_isWhole_80 (fun v35 => ?_)
    refine sa_aload_n C d_X12_isWhole_81 rfl 0 rfl ?_
    refine sa_getI C fd_X12_274 d_X12_isWhole_82 (fun v36 => ?_)
    refine sa_icmp_ge (tgt := 92) C d_X12_isWhole_85 (by decide) ?_ ?_
    · exact sa_sub [0, 2] rfl (hj92)
    refine sa_iconst (v := 1) C d_X12_isWhole_88 (by decide) ?_
    refine sa_goto (tgt := 93) C d_X12_isWhole_89 (by decide) ?_
    exact sa_sub [0, 2] rfl (hj93 _)
  refine sa_join0 19 ([(0, .ref (ad this))]) ([]) (?_) (fun j19 hj19 => ?_)
  · refine sa_iconst (v := 0) C d_X12_isWhole_19 (by decide) ?_
    exact sa_sub [0] rfl (hj20 _)
  refine sa_icmp_le (tgt := 19) C d_X12_isWhole_5 (by decide) ?_ ?_
  · exact sa_sub [0] rfl (hj19)
  refine sa_aload_n C d_X12_isWhole_8 rfl 0 rfl ?_
  refine sa_getI C fd_X12_280 d_X12_isWhole_9 (fun v37 => ?_)
  refine sa_if_le (tgt := 19) C d_X12_isWhole_12 (by decide) ?_ ?_
  · exact sa_sub [0] rfl (hj19)
  refine sa_iconst (v := 1) C d_X12_isWhole_15 (by decide) ?_
  refine sa_goto (tgt := 20) C d_X12_isWhole_16 (by decide) ?_
  exact sa_sub [0] rfl (hj20 _)
theorem k_X12_isWhole (this : Nat) : sa_Met 1 yX12_isWhole cX12_isWhole 3 (some .boolean) (fun ad => [.ref (ad this)]) sa_eI (f_X12_isWhole this) := sa_mk (by decide) (fun ad => Nat.le_of_ble_eq_true rfl) (fun p l e s m args below meth c D ad cA A C => b_X12_isWhole this C)
theorem gd_X12_isWhole (this : Nat) (σ : sa_St) (r : Int32) (τ : sa_St) (h : f_X12_isWhole this σ = some (r, τ)) : sa_sh this = some (.inl 12) := sa_gd_ok h
theorem d_X12_readLand_0 : decode cX12_readLand 0 = .ok (.aload_n 0, 1) := by decide +kernel
theorem d_X12_readLand_1 : decode cX12_readLand 1 = .ok (.aload_n 0, 1) := by decide +kernel
theorem d_X12_readLand_2 : decode cX12_readLand 2 = .ok (.getfield 9, 3) := by decide +kernel
theorem d_X12_readLand_5 : decode cX12_readLand 5 = .ok (.iconst 0, 1) := by decide +kernel
theorem d_X12_readLand_6 : decode cX12_readLand 6 = .ok (.aload_n 0, 1) := by decide +kernel
theorem d_X12_readLand_7 : decode cX12_readLand 7 = .ok (.getfield 140, 3) := by decide +kernel
theorem d_X12_readLand_10 : decode cX12_readLand 10 = .ok (.invokevirtual 238, 3) := by decide +kernel
theorem d_X12_readLand_13 : decode cX12_readLand 13 = .ok (.aload_n 0, 1) := by decide +kernel
theorem d_X12_readLand_14 : decode cX12_readLand 14 = .ok (.iconst 0, 1) := by decide +kernel
theorem d_X12_readLand_15 : decode cX12_readLand 15 = .ok (.putfield 274, 3) := by decide +kernel
theorem d_X12_readLand_18 : decode cX12_readLand 18 = .ok (.aload_n 0, 1) := by decide +kernel
theorem d_X12_readLand_19 : decode cX12_readLand 19 = .ok (.iconst 0, 1) := by decide +kernel
theorem d_X12_readLand_20 : decode cX12_readLand 20 = .ok (.putfield 277, 3) := by decide +kernel
theorem d_X12_readLand_23 : decode cX12_readLand 23 = .ok (.aload_n 0, 1) := by decide +kernel
theorem d_X12_readLand_24 : decode cX12_readLand 24 = .ok (.iconst 0, 1) := by decide +kernel
theorem d_X12_readLand_25 : decode cX12_readLand 25 = .ok (.putfield 280, 3) := by decide +kernel
theorem d_X12_readLand_28 : decode cX12_readLand 28 = .ok (.aload_n 0, 1) := by decide +kernel
theorem d_X12_readLand_29 : decode cX12_readLand 29 = .ok (.iconst 0, 1) := by decide +kernel
theorem d_X12_readLand_30 : decode cX12_readLand 30 = .ok (.putfield 283, 3) := by decide +kernel
theorem d_X12_readLand_33 : decode cX12_readLand 33 = .ok (.iconst 1, 1) := by decide +kernel
theorem d_X12_readLand_34 : decode cX12_readLand 34 = .ok (.istore_n 1, 1) := by decide +kernel
theorem d_X12_readLand_35 : decode cX12_readLand 35 = .ok (.iload_n 1, 1) := by decide +kernel
theorem d_X12_readLand_36 : decode cX12_readLand 36 = .ok (.ifCond .eq 55, 3) := by decide +kernel
theorem d_X12_readLand_39 : decode cX12_readLand 39 = .ok (.aload_n 0, 1) := by decide +kernel
theorem d_X12_readLand_40 : decode cX12_readLand 40 = .ok (.getfield 159, 3) := by decide +kernel
theorem d_X12_readLand_43 : decode cX12_readLand 43 = .ok (.iconst (-1), 1) := by decide +kernel
theorem d_X12_readLand_44 : decode cX12_readLand 44 = .ok (.if_icmp .ne 47, 3) := by decide +kernel
theorem d_X12_readLand_47 : decode cX12_readLand 47 = .ok (.aload_n 0, 1) := by decide +kernel
theorem d_X12_readLand_48 : decode cX12_readLand 48 = .ok (.invokevirtual 298, 3) := by decide +kernel
theorem d_X12_readLand_51 : decode cX12_readLand 51 = .ok (.aload_n 0, 1) := by decide +kernel
theorem d_X12_readLand_52 : decode cX12_readLand 52 = .ok (.getfield 159, 3) := by decide +kernel
theorem d_X12_readLand_55 : decode cX12_readLand 55 = .ok (.iconst (-1), 1) := by decide +kernel
theorem d_X12_readLand_56 : decode cX12_readLand 56 = .ok (.if_icmp .ne 16, 3) := by decide +kernel
theorem d_X12_readLand_59 : decode cX12_readLand 59 = .ok (.aload_n 0, 1) := by decide +kernel
theorem d_X12_readLand_60 : decode cX12_readLand 60 = .ok (.invokevirtual 169, 3) := by decide +kernel
theorem d_X12_readLand_63 : decode cX12_readLand 63 = .ok (.bipush 59, 2) := by decide +kernel
theorem d_X12_readLand_65 : decode cX12_readLand 65 = .ok (.if_icmp .ne 7, 3) := by decide +kernel
theorem d_X12_readLand_68 : decode cX12_readLand 68 = .ok (.iconst 1, 1) := by decide +kernel
theorem d_X12_readLand_69 : decode cX12_readLand 69 = .ok (.goto 4, 3) := by decide +kernel
theorem d_X12_readLand_72 : decode cX12_readLand 72 = .ok (.iconst 0, 1) := by decide +kernel
theorem d_X12_readLand_73 : decode cX12_readLand 73 = .ok (.istore_n 1, 1) := by decide +kernel
theorem d_X12_readLand_74 : decode cX12_readLand 74 = .ok (.iload_n 1, 1) := by decide +kernel
theorem d_X12_readLand_75 : decode cX12_readLand 75 = .ok (.ifCond .eq (-40), 3) := by decide +kernel
theorem d_X12_readLand_78 : decode cX12_readLand 78 = .ok (.aload_n 0, 1) := by decide +kernel
theorem d_X12_readLand_79 : decode cX12_readLand 79 = .ok (.dup, 1) := by decide +kernel
theorem d_X12_readLand_80 : decode cX12_readLand 80 = .ok (.getfield 150, 3) := by decide +kernel
theorem d_X12_readLand_83 : decode cX12_readLand 83 = .ok (.iconst 1, 1) := by decide +kernel
theorem d_X12_readLand_84 : decode cX12_readLand 84 = .ok (.iadd, 1) := by decide +kernel
theorem d_X12_readLand_85 : decode cX12_readLand 85 = .ok (.putfield 150, 3) := by decide +kernel
theorem d_X12_readLand_88 : decode cX12_readLand 88 = .ok (.goto (-53), 3) := by decide +kernel
theorem d_X12_readLand_91 : decode cX12_readLand 91 = .ok (.aload_n 0, 1) := by decide +kernel
theorem d_X12_readLand_92 : decode cX12_readLand 92 = .ok (.getfield 159, 3) := by decide +kernel
theorem d_X12_readLand_95 : decode cX12_readLand 95 = .ok (.iconst (-1), 1) := by decide +kernel
theorem d_X12_readLand_96 : decode cX12_readLand 96 = .ok (.if_icmp .ne 23, 3) := by decide +kernel
theorem d_X12_readLand_99 : decode cX12_readLand 99 = .ok (.aload_n 0, 1) := by decide +kernel
theorem d_X12_readLand_100 : decode cX12_readLand 100 = .ok (.invokevirtual 169, 3) := by decide +kernel
theorem d_X12_readLand_103 : decode cX12_readLand 103 = .ok (.iconst (-1), 1) := by decide +kernel
theorem d_X12_readLand_104 : decode cX12_readLand 104 = .ok (.if_icmp .ne 10, 3) := by decide +kernel
theorem d_X12_readLand_107 : decode cX12_readLand 107 = .ok (.aload_n 0, 1) := by decide +kernel
theorem d_X12_readLand_108 : decode cX12_readLand 108 = .ok (.invokevirtual 301, 3) := by decide +kernel
theorem d_X12_readLand_111 : decode cX12_readLand 111 = .ok (.ifCond .ne 8, 3) := by decide +kernel
theorem d_X12_readLand_114 : decode cX12_readLand 114 = .ok (.aload_n 0, 1) := by decide +kernel
theorem d_X12_readLand_115 : decode cX12_readLand 115 = .ok (.invokevirtual 165, 3) := by decide +kernel
theorem d_X12_readLand_118 : decode cX12_readLand 118 = .ok (.pop, 1) := by decide +kernel
theorem d_X12_readLand_119 : decode cX12_readLand 119 = .ok (.return_, 1) := by decide +kernel
def f_X12_readLand (this : Nat) : sa_M Unit :=
sa_gd 12 this (
sa_bnd (sa_rdR 12 this 1) fun v1 =>
sa_bnd (sa_rdI 12 this 6) fun v2 =>
sa_bnd (f_X12_starts this v1 0 v2) fun _ =>
sa_bnd (sa_wrI 12 this 28 0) fun _ =>
sa_bnd (sa_wrI 12 this 29 0) fun _ =>
sa_bnd (sa_wrI 12 this 30 0) fun _ =>
sa_bnd (sa_wrI 12 this 31 0) fun _ =>
sa_let (1 : Int32) fun x3 =>
sa_wh1 (fun j35 (x4 : Int32) =>
sa_jn0 (sa_bnd (sa_rdI 12 this 11) fun v5 =>
sa_jn0 (sa_ret ()) fun j119 =>
if ¬ v5 = (-1) then
j119
else
sa_bnd (f_X12_look this) fun v6 =>
sa_jn0 (sa_bnd (f_X12_fails this) fun v7 =>
j119) fun j114 =>
if ¬ v6 = (-1) then
j114
else
sa_bnd (f_X12_isWhole this) fun v8 =>
if ¬ v8 = 0 then
j119
else
j114) fun j91 =>
if x4 = 0 then
j91
else
sa_bnd (sa_rdI 12 this 11) fun v9 =>
if ¬ v9 = (-1) then
j91
else
sa_bnd (f_X12_readClause this) fun _ =>
sa_bnd (sa_rdI 12 this 11) fun v10 =>
sa_jn1 (fun (y11 : Int32) =>
if y11 = 0 then
j35 y11
else
sa_bnd (sa_rdI 12 this 10) fun v12 =>
sa_bnd (sa_wrI 12 this 10 (v12 + 1)) fun _ =>
j35 y11) fun j73 =>
sa_jn0 (j73 0) fun j72 =>
if ¬ v10 = (-1) then
j72
else
sa_bnd (f_X12_look this) fun v13 =>
if ¬ v13 = 59 then
j72
else
j73 1) sa_F x3)
set_option maxHeartbeats 1000000 in
set_option maxRecDepth 10000 in
theorem b_X12_readLand {p : Program} {l : Launch} {e : Env} {s : State} {m : MethodId} {args : Array Value} {below : List Frame} {meth : Method} {c : Code} {D : va_G} {ad : Nat → Nat} {cA : FieldType → ClassId} {A : Nat → Prop} (this : Nat) (C : sa_C p s m args meth c cX12_readLand RX12 "readLand" 2 none D ad cA A) : sa_Sg p l e s m args below meth c 2 8 D ad cA A sa_eV 0 [(0, .ref (ad this))] [] (f_X12_readLand this) := by
  unfold f_X12_readLand
  refine sa_gdI ?_
  refine sa_aload_n C d_X12_readLand_0 rfl 0 rfl ?_
  refine sa_aload_n C d_X12_readLand_1 rfl 0 rfl ?_
  refine sa_getR C fd_X12_9 rfl d_X12_readLand_2 (fun v1 => ?_)
  refine sa_iconst (v := 0) C d_X12_readLand_5 (by decide) ?_
  refine sa_aload_n C d_X12_readLand_6 rfl 0 rfl ?_
  refine sa_getI C fd_X12_140 d_X12_readLand_7 (fun v2 => ?_)
  refine sa_invV (ci := 12) C (k_X12_starts this v1 0 v2) q1645 ds_X12_starts q128 rfl q1644 q47 q1642 (gd_X12_starts this v1 0 v2) rfl rfl rfl (Nat.le_of_ble_eq_true rfl) (by decide) (by decide) d_X12_readLand_10 (fun _ => ?_)
  refine sa_aload_n C d_X12_readLand_13 rfl 0 rfl ?_
  refine sa_iconst (v := 0) C d_X12_readLand_14 (by decide) ?_
  refine sa_putI C fd_X12_274 d_X12_readLand_15 ?_
  refine sa_aload_n C d_X12_readLand_18 rfl 0 rfl ?_
  refine sa_iconst (v := 0) C d_X12_readLand_19 (by decide) ?_
  refine sa_putI C fd_X12_277 d_X12_readLand_20 ?_
  refine sa_aload_n C d_X12_readLand_23 rfl 0 rfl ?_
  refine sa_iconst (v := 0) C d_X12_readLand_24 (by decide) ?_
  refine sa_putI C fd_X12_280 d_X12_readLand_25 ?_
  refine sa_aload_n C d_X12_readLand_28 rfl 0 rfl ?_
  refine sa_iconst (v := 0) C d_X12_readLand_29 (by decide) ?_
  refine sa_putI C fd_X12_283 d_X12_readLand_30 ?_
  refine sa_iconst (v := 1) C d_X12_readLand_33 (by decide) ?_
  refine sa_topi (fun x3 => ?_)
  refine sa_istore_n (lv' := [(1, .int x3), (0, .ref (ad this))]) C d_X12_readLand_34 rfl (by decide) rfl ?_
  refine sa_sub [1, 0] rfl (sa_loop1 (fun x4 => [(0, .ref (ad this)), (1, .int x4)]) (fun x4 => []) (fun j35 hj35 x4 => ?_) _ _)
  refine sa_iload_n C d_X12_readLand_35 rfl 1 rfl ?_
  refine sa_join0 91 ([(0, .ref (ad this))]) ([]) (?_) (fun j91 hj91 => ?_)
  · refine sa_aload_n C d_X12_readLand_91 rfl 0 rfl ?_
    refine sa_getI C fd_X12_159 d_X12_readLand_92 (fun v5 => ?_)
    refine sa_iconst (v := (-1)) C d_X12_readLand_95 (by decide) ?_
    refine sa_join0 119 ([]) ([]) (?_) (fun j119 hj119 => ?_)
    · exact sa_vret C d_X12_readLand_119
    refine sa_icmp_ne (tgt := 119) C d_X12_readLand_96 (by decide) ?_ ?_
    · exact sa_sub [] rfl (hj119)
    refine sa_aload_n C d_X12_readLand_99 rfl 0 rfl ?_
    refine sa_invV (ci := 12) C (k_X12_look this) q1653 ds_X12_look q128 rfl q1652 q49 q1650 (gd_X12_look this) rfl rfl rfl (Nat.le_of_ble_eq_true rfl) (by decide) (by decide) d_X12_readLand_100 (fun v6 => ?_)
    refine sa_iconst (v := (-1)) C d_X12_readLand_103 (by decide) ?_
    refine sa_join0 114 ([(0, .ref (ad this))]) ([]) (?_) (fun j114 hj114 => ?_)
    · refine sa_aload_n C d_X12_readLand_114 rfl 0 rfl ?_
      refine sa_invV (ci := 12) C (k_X12_fails this) q1657 ds_X12_fails q128 rfl q1656 q50 q1654 (gd_X12_fails this) rfl rfl rfl (Nat.le_of_ble_eq_true rfl) (by decide) (by decide) d_X12_readLand_115 (fun v7 => ?_)
      refine sa_pop C d_X12_readLand_118 rfl ?_
      exact sa_sub [] rfl (hj119)
    refine sa_icmp_ne (tgt := 114) C d_X12_readLand_104 (by decide) ?_ ?_
    · exact sa_sub [0] rfl (hj114)
    refine sa_aload_n C d_X12_readLand_107 rfl 0 rfl ?_
    refine sa_invV (ci := 12) C (k_X12_isWhole this) q1698 ds_X12_isWhole q128 rfl q1697 q55 q1695 (gd_X12_isWhole this) rfl rfl rfl (Nat.le_of_ble_eq_true rfl) (by decide) (by decide) d_X12_readLand_108 (fun v8 => ?_)
    refine sa_if_ne (tgt := 119) C d_X12_readLand_111 (by decide) ?_ ?_
    · exact sa_sub [] rfl (hj119)
    exact sa_sub [0] rfl (hj114)
  refine sa_if_eq (tgt := 91) C d_X12_readLand_36 (by decide) ?_ ?_
  · exact sa_sub [0] rfl (hj91)
  refine sa_aload_n C d_X12_readLand_39 rfl 0 rfl ?_
  refine sa_getI C fd_X12_159 d_X12_readLand_40 (fun v9 => ?_)
  refine sa_iconst (v := (-1)) C d_X12_readLand_43 (by decide) ?_
  refine sa_icmp_ne (tgt := 91) C d_X12_readLand_44 (by decide) ?_ ?_
  · exact sa_sub [0] rfl (hj91)
  refine sa_aload_n C d_X12_readLand_47 rfl 0 rfl ?_
  refine sa_invV (ci := 12) C (k_X12_readClause this) q1649 ds_X12_readClause q128 rfl q1648 q48 q1646 (gd_X12_readClause this) rfl rfl rfl (Nat.le_of_ble_eq_true rfl) (by decide) (by decide) d_X12_readLand_48 (fun _ => ?_)
  refine sa_aload_n C d_X12_readLand_51 rfl 0 rfl ?_
  refine sa_getI C fd_X12_159 d_X12_readLand_52 (fun v10 => ?_)
  refine sa_iconst (v := (-1)) C d_X12_readLand_55 (by decide) ?_
  refine sa_join1 73 (fun y11 => [(0, .ref (ad this))]) (fun y11 => [.int y11]) (fun y11 => ?_) (fun j73 hj73 => ?_)
  · refine sa_istore_n (lv' := [(1, .int y11), (0, .ref (ad this))]) C d_X12_readLand_73 rfl (by decide) rfl ?_
    refine sa_iload_n C d_X12_readLand_74 rfl 0 rfl ?_
    refine sa_if_eq (tgt := 35) C d_X12_readLand_75 (by decide) ?_ ?_
    · exact sa_sub [1, 0] rfl (hj35 _)
    refine sa_aload_n C d_X12_readLand_78 rfl 1 rfl ?_
    refine sa_dup C d_X12_readLand_79 rfl ?_
    refine sa_getI C fd_X12_150 d_X12_readLand_80 (fun v12 => ?_)
    refine sa_iconst (v := 1) C d_X12_readLand_83 (by decide) ?_
    refine sa_iadd C d_X12_readLand_84 ?_
    refine sa_putI C fd_X12_150 d_X12_readLand_85 ?_
    refine sa_goto (tgt := 35) C d_X12_readLand_88 (by decide) ?_
    exact sa_sub [1, 0] rfl (hj35 _)
  refine sa_join0 72 ([(0, .ref (ad this))]) ([]) (?_) (fun j72 hj72 => ?_)
  · refine sa_iconst (v := 0) C d_X12_readLand_72 (by decide) ?_
    exact sa_sub [0] rfl (hj73 _)
  refine sa_icmp_ne (tgt := 72) C d_X12_readLand_56 (by decide) ?_ ?_
  · exact sa_sub [0] rfl (hj72)
  refine sa_aload_n C d_X12_readLand_59 rfl 0 rfl ?_
  refine sa_invV (ci := 12) C (k_X12_look this) q1653 ds_X12_look q128 rfl q1652 q49 q1650 (gd_X12_look this) rfl rfl rfl (Nat.le_of_ble_eq_true rfl) (by decide) (by decide) d_X12_readLand_60 (fun v13 => ?_)
  refine sa_bipush (v := 59) C d_X12_readLand_63 (by decide) ?_
  refine sa_icmp_ne (tgt := 72) C d_X12_readLand_65 (by decide) ?_ ?_
  · exact sa_sub [0] rfl (hj72)
  refine sa_iconst (v := 1) C d_X12_readLand_68 (by decide) ?_
  refine sa_goto (tgt := 73) C d_X12_readLand_69 (by decide) ?_
  exact sa_sub [0] rfl (hj73 _)
theorem k_X12_readLand (this : Nat) : sa_Met 8 yX12_readLand cX12_readLand 2 none (fun ad => [.ref (ad this)]) sa_eV (f_X12_readLand this) := sa_mk (by decide) (fun ad => Nat.le_of_ble_eq_true rfl) (fun p l e s m args below meth c D ad cA A C => b_X12_readLand this C)
theorem gd_X12_readLand (this : Nat) (σ : sa_St) (r : Unit) (τ : sa_St) (h : f_X12_readLand this σ = some (r, τ)) : sa_sh this = some (.inl 12) := sa_gd_ok h
theorem d_X12_digit_0 : decode cX12_digit 0 = .ok (.aload_n 0, 1) := by decide +kernel
theorem d_X12_digit_1 : decode cX12_digit 1 = .ok (.invokevirtual 169, 3) := by decide +kernel
theorem d_X12_digit_4 : decode cX12_digit 4 = .ok (.pop, 1) := by decide +kernel
theorem d_X12_digit_5 : decode cX12_digit 5 = .ok (.aload_n 0, 1) := by decide +kernel
theorem d_X12_digit_6 : decode cX12_digit 6 = .ok (.invokevirtual 199, 3) := by decide +kernel
theorem d_X12_digit_9 : decode cX12_digit 9 = .ok (.ifCond .ne 10, 3) := by decide +kernel
theorem d_X12_digit_12 : decode cX12_digit 12 = .ok (.aload_n 0, 1) := by decide +kernel
theorem d_X12_digit_13 : decode cX12_digit 13 = .ok (.invokevirtual 165, 3) := by decide +kernel
theorem d_X12_digit_16 : decode cX12_digit 16 = .ok (.pop, 1) := by decide +kernel
theorem d_X12_digit_17 : decode cX12_digit 17 = .ok (.iconst 0, 1) := by decide +kernel
theorem d_X12_digit_18 : decode cX12_digit 18 = .ok (.ireturn, 1) := by decide +kernel
theorem d_X12_digit_19 : decode cX12_digit 19 = .ok (.aload_n 0, 1) := by decide +kernel
theorem d_X12_digit_20 : decode cX12_digit 20 = .ok (.dup, 1) := by decide +kernel
theorem d_X12_digit_21 : decode cX12_digit 21 = .ok (.getfield 150, 3) := by decide +kernel
theorem d_X12_digit_24 : decode cX12_digit 24 = .ok (.iconst 1, 1) := by decide +kernel
theorem d_X12_digit_25 : decode cX12_digit 25 = .ok (.iadd, 1) := by decide +kernel
theorem d_X12_digit_26 : decode cX12_digit 26 = .ok (.putfield 150, 3) := by decide +kernel
theorem d_X12_digit_29 : decode cX12_digit 29 = .ok (.aload_n 0, 1) := by decide +kernel
theorem d_X12_digit_30 : decode cX12_digit 30 = .ok (.getfield 23, 3) := by decide +kernel
theorem d_X12_digit_33 : decode cX12_digit 33 = .ok (.aload_n 0, 1) := by decide +kernel
theorem d_X12_digit_34 : decode cX12_digit 34 = .ok (.getfield 156, 3) := by decide +kernel
theorem d_X12_digit_37 : decode cX12_digit 37 = .ok (.aload_n 0, 1) := by decide +kernel
theorem d_X12_digit_38 : decode cX12_digit 38 = .ok (.getfield 150, 3) := by decide +kernel
theorem d_X12_digit_41 : decode cX12_digit 41 = .ok (.iadd, 1) := by decide +kernel
theorem d_X12_digit_42 : decode cX12_digit 42 = .ok (.iconst 1, 1) := by decide +kernel
theorem d_X12_digit_43 : decode cX12_digit 43 = .ok (.isub, 1) := by decide +kernel
theorem d_X12_digit_44 : decode cX12_digit 44 = .ok (.baload, 1) := by decide +kernel
theorem d_X12_digit_45 : decode cX12_digit 45 = .ok (.bipush 48, 2) := by decide +kernel
theorem d_X12_digit_47 : decode cX12_digit 47 = .ok (.isub, 1) := by decide +kernel
theorem d_X12_digit_48 : decode cX12_digit 48 = .ok (.ireturn, 1) := by decide +kernel
def f_X12_digit (this : Nat) : sa_M Int32 :=
sa_gd 12 this (
sa_bnd (f_X12_look this) fun v1 =>
sa_bnd (f_X12_isDigit this) fun v2 =>
if ¬ v2 = 0 then
sa_bnd (sa_rdI 12 this 10) fun v3 =>
sa_bnd (sa_wrI 12 this 10 (v3 + 1)) fun _ =>
sa_bnd (sa_rdR 12 this 5) fun v4 =>
sa_bnd (sa_rdI 12 this 8) fun v5 =>
sa_bnd (sa_rdI 12 this 10) fun v6 =>
sa_bnd (sa_ldI .byte v4 ((v5 + v6) - 1)) fun v7 =>
sa_ret ((v7 - 48) : Int32)
else
sa_bnd (f_X12_fails this) fun v8 =>
sa_ret (0 : Int32))
set_option maxHeartbeats 1000000 in
set_option maxRecDepth 10000 in
theorem b_X12_digit {p : Program} {l : Launch} {e : Env} {s : State} {m : MethodId} {args : Array Value} {below : List Frame} {meth : Method} {c : Code} {D : va_G} {ad : Nat → Nat} {cA : FieldType → ClassId} {A : Nat → Prop} (this : Nat) (C : sa_C p s m args meth c cX12_digit RX12 "digit" 1 (some .int) D ad cA A) : sa_Sg p l e s m args below meth c 1 2 D ad cA A sa_eI 0 [(0, .ref (ad this))] [] (f_X12_digit this) := by
  unfold f_X12_digit
  refine sa_gdI ?_
  refine sa_aload_n C d_X12_digit_0 rfl 0 rfl ?_
  refine sa_invV (ci := 12) C (k_X12_look this) q1653 ds_X12_look q128 rfl q1652 q49 q1650 (gd_X12_look this) rfl rfl rfl (Nat.le_of_ble_eq_true rfl) (by decide) (by decide) d_X12_digit_1 (fun v1 => ?_)
  refine sa_pop C d_X12_digit_4 rfl ?_
  refine sa_aload_n C d_X12_digit_5 rfl 0 rfl ?_
  refine sa_invV (ci := 12) C (k_X12_isDigit this) q1687 ds_X12_isDigit q128 rfl q1686 q53 q1684 (gd_X12_isDigit this) rfl rfl rfl (Nat.le_of_ble_eq_true rfl) (by decide) (by decide) d_X12_digit_6 (fun v2 => ?_)
  refine sa_if_ne (tgt := 19) C d_X12_digit_9 (by decide) ?_ ?_
  · refine sa_aload_n C d_X12_digit_19 rfl 0 rfl ?_
    refine sa_dup C d_X12_digit_20 rfl ?_
    refine sa_getI C fd_X12_150 d_X12_digit_21 (fun v3 => ?_)
    refine sa_iconst (v := 1) C d_X12_digit_24 (by decide) ?_
    refine sa_iadd C d_X12_digit_25 ?_
    refine sa_putI C fd_X12_150 d_X12_digit_26 ?_
    refine sa_aload_n C d_X12_digit_29 rfl 0 rfl ?_
    refine sa_getR C fd_X12_23 rfl d_X12_digit_30 (fun v4 => ?_)
    refine sa_aload_n C d_X12_digit_33 rfl 0 rfl ?_
    refine sa_getI C fd_X12_156 d_X12_digit_34 (fun v5 => ?_)
    refine sa_aload_n C d_X12_digit_37 rfl 0 rfl ?_
    refine sa_getI C fd_X12_150 d_X12_digit_38 (fun v6 => ?_)
    refine sa_iadd C d_X12_digit_41 ?_
    refine sa_iconst (v := 1) C d_X12_digit_42 (by decide) ?_
    refine sa_isub C d_X12_digit_43 ?_
    refine sa_bald C d_X12_digit_44 (fun v7 => ?_)
    refine sa_bipush (v := 48) C d_X12_digit_45 (by decide) ?_
    refine sa_isub C d_X12_digit_47 ?_
    exact sa_iret C d_X12_digit_48
  refine sa_aload_n C d_X12_digit_12 rfl 0 rfl ?_
  refine sa_invV (ci := 12) C (k_X12_fails this) q1657 ds_X12_fails q128 rfl q1656 q50 q1654 (gd_X12_fails this) rfl rfl rfl (Nat.le_of_ble_eq_true rfl) (by decide) (by decide) d_X12_digit_13 (fun v8 => ?_)
  refine sa_pop C d_X12_digit_16 rfl ?_
  refine sa_iconst (v := 0) C d_X12_digit_17 (by decide) ?_
  exact sa_iret C d_X12_digit_18
theorem k_X12_digit (this : Nat) : sa_Met 2 yX12_digit cX12_digit 1 (some .int) (fun ad => [.ref (ad this)]) sa_eI (f_X12_digit this) := sa_mk (by decide) (fun ad => Nat.le_of_ble_eq_true rfl) (fun p l e s m args below meth c D ad cA A C => b_X12_digit this C)
theorem gd_X12_digit (this : Nat) (σ : sa_St) (r : Int32) (τ : sa_St) (h : f_X12_digit this σ = some (r, τ)) : sa_sh this = some (.inl 12) := sa_gd_ok h
theorem d_X12_readStep_0 : decode cX12_readStep 0 = .ok (.ldc_w 304, 3) := by decide +kernel
theorem d_X12_readStep_3 : decode cX12_readStep 3 = .ok (.aload_n 0, 1) := by decide +kernel
theorem d_X12_readStep_4 : decode cX12_readStep 4 = .ok (.invokevirtual 169, 3) := by decide +kernel
theorem d_X12_readStep_7 : decode cX12_readStep 7 = .ok (.invokestatic 256, 3) := by decide +kernel
theorem d_X12_readStep_10 : decode cX12_readStep 10 = .ok (.istore_n 2, 1) := by decide +kernel
theorem d_X12_readStep_11 : decode cX12_readStep 11 = .ok (.iload_n 2, 1) := by decide +kernel
theorem d_X12_readStep_12 : decode cX12_readStep 12 = .ok (.iconst (-1), 1) := by decide +kernel
theorem d_X12_readStep_13 : decode cX12_readStep 13 = .ok (.if_icmp .ne 9, 3) := by decide +kernel
theorem d_X12_readStep_16 : decode cX12_readStep 16 = .ok (.aload_n 0, 1) := by decide +kernel
theorem d_X12_readStep_17 : decode cX12_readStep 17 = .ok (.invokevirtual 165, 3) := by decide +kernel
theorem d_X12_readStep_20 : decode cX12_readStep 20 = .ok (.pop, 1) := by decide +kernel
theorem d_X12_readStep_21 : decode cX12_readStep 21 = .ok (.return_, 1) := by decide +kernel
theorem d_X12_readStep_22 : decode cX12_readStep 22 = .ok (.aload_n 0, 1) := by decide +kernel
theorem d_X12_readStep_23 : decode cX12_readStep 23 = .ok (.dup, 1) := by decide +kernel
theorem d_X12_readStep_24 : decode cX12_readStep 24 = .ok (.getfield 150, 3) := by decide +kernel
theorem d_X12_readStep_27 : decode cX12_readStep 27 = .ok (.iconst 1, 1) := by decide +kernel
theorem d_X12_readStep_28 : decode cX12_readStep 28 = .ok (.iadd, 1) := by decide +kernel
theorem d_X12_readStep_29 : decode cX12_readStep 29 = .ok (.putfield 150, 3) := by decide +kernel
theorem d_X12_readStep_32 : decode cX12_readStep 32 = .ok (.aload_n 0, 1) := by decide +kernel
theorem d_X12_readStep_33 : decode cX12_readStep 33 = .ok (.getfield 58, 3) := by decide +kernel
theorem d_X12_readStep_36 : decode cX12_readStep 36 = .ok (.iload_n 1, 1) := by decide +kernel
theorem d_X12_readStep_37 : decode cX12_readStep 37 = .ok (.iload_n 2, 1) := by decide +kernel
theorem d_X12_readStep_38 : decode cX12_readStep 38 = .ok (.iastore, 1) := by decide +kernel
theorem d_X12_readStep_39 : decode cX12_readStep 39 = .ok (.aload_n 0, 1) := by decide +kernel
theorem d_X12_readStep_40 : decode cX12_readStep 40 = .ok (.getfield 58, 3) := by decide +kernel
theorem d_X12_readStep_43 : decode cX12_readStep 43 = .ok (.iload_n 1, 1) := by decide +kernel
theorem d_X12_readStep_44 : decode cX12_readStep 44 = .ok (.iconst 1, 1) := by decide +kernel
theorem d_X12_readStep_45 : decode cX12_readStep 45 = .ok (.iadd, 1) := by decide +kernel
theorem d_X12_readStep_46 : decode cX12_readStep 46 = .ok (.iload_n 2, 1) := by decide +kernel
theorem d_X12_readStep_47 : decode cX12_readStep 47 = .ok (.iconst 4, 1) := by decide +kernel
theorem d_X12_readStep_48 : decode cX12_readStep 48 = .ok (.if_icmp .ge 10, 3) := by decide +kernel
theorem d_X12_readStep_51 : decode cX12_readStep 51 = .ok (.aload_n 0, 1) := by decide +kernel
theorem d_X12_readStep_52 : decode cX12_readStep 52 = .ok (.invokevirtual 306, 3) := by decide +kernel
theorem d_X12_readStep_55 : decode cX12_readStep 55 = .ok (.goto 4, 3) := by decide +kernel
theorem d_X12_readStep_58 : decode cX12_readStep 58 = .ok (.iconst (-1), 1) := by decide +kernel
theorem d_X12_readStep_59 : decode cX12_readStep 59 = .ok (.iastore, 1) := by decide +kernel
theorem d_X12_readStep_60 : decode cX12_readStep 60 = .ok (.aload_n 0, 1) := by decide +kernel
theorem d_X12_readStep_61 : decode cX12_readStep 61 = .ok (.getfield 58, 3) := by decide +kernel
theorem d_X12_readStep_64 : decode cX12_readStep 64 = .ok (.iload_n 1, 1) := by decide +kernel
theorem d_X12_readStep_65 : decode cX12_readStep 65 = .ok (.iconst 2, 1) := by decide +kernel
theorem d_X12_readStep_66 : decode cX12_readStep 66 = .ok (.iadd, 1) := by decide +kernel
theorem d_X12_readStep_67 : decode cX12_readStep 67 = .ok (.iload_n 2, 1) := by decide +kernel
theorem d_X12_readStep_68 : decode cX12_readStep 68 = .ok (.iconst 2, 1) := by decide +kernel
theorem d_X12_readStep_69 : decode cX12_readStep 69 = .ok (.if_icmp .ge 18, 3) := by decide +kernel
theorem d_X12_readStep_72 : decode cX12_readStep 72 = .ok (.aload_n 0, 1) := by decide +kernel
theorem d_X12_readStep_73 : decode cX12_readStep 73 = .ok (.getfield 159, 3) := by decide +kernel
theorem d_X12_readStep_76 : decode cX12_readStep 76 = .ok (.iconst (-1), 1) := by decide +kernel
theorem d_X12_readStep_77 : decode cX12_readStep 77 = .ok (.if_icmp .ne 10, 3) := by decide +kernel
theorem d_X12_readStep_80 : decode cX12_readStep 80 = .ok (.aload_n 0, 1) := by decide +kernel
theorem d_X12_readStep_81 : decode cX12_readStep 81 = .ok (.invokevirtual 306, 3) := by decide +kernel
theorem d_X12_readStep_84 : decode cX12_readStep 84 = .ok (.goto 4, 3) := by decide +kernel
theorem d_X12_readStep_87 : decode cX12_readStep 87 = .ok (.iconst (-1), 1) := by decide +kernel
theorem d_X12_readStep_88 : decode cX12_readStep 88 = .ok (.iastore, 1) := by decide +kernel
theorem d_X12_readStep_89 : decode cX12_readStep 89 = .ok (.return_, 1) := by decide +kernel
def f_X12_readStep (this : Nat) (a1 : Int32) : sa_M Unit :=
sa_gd 12 this (
sa_bnd (f_X12_look this) fun v1 =>
sa_bnd (f_X12_placeOf (1000 + 4) v1) fun v2 =>
if ¬ v2 = (-1) then
sa_bnd (sa_rdI 12 this 10) fun v3 =>
sa_bnd (sa_wrI 12 this 10 (v3 + 1)) fun _ =>
sa_bnd (sa_rdR 12 this 32) fun v4 =>
sa_bnd (sa_stI v4 a1 v2) fun _ =>
sa_bnd (sa_rdR 12 this 32) fun v5 =>
sa_jn1 (fun (y6 : Int32) =>
sa_bnd (sa_stI v5 (a1 + 1) y6) fun _ =>
sa_bnd (sa_rdR 12 this 32) fun v7 =>
sa_jn1 (fun (y8 : Int32) =>
sa_bnd (sa_stI v7 (a1 + 2) y8) fun _ =>
sa_ret ()) fun j88 =>
sa_jn0 (j88 (-1)) fun j87 =>
if 2 ≤ v2 then
j87
else
sa_bnd (sa_rdI 12 this 11) fun v9 =>
if ¬ v9 = (-1) then
j87
else
sa_bnd (f_X12_digit this) fun v10 =>
j88 v10) fun j59 =>
if 4 ≤ v2 then
j59 (-1)
else
sa_bnd (f_X12_digit this) fun v11 =>
j59 v11
else
sa_bnd (f_X12_fails this) fun v12 =>
sa_ret ())
set_option maxHeartbeats 1000000 in
set_option maxRecDepth 10000 in
theorem b_X12_readStep {p : Program} {l : Launch} {e : Env} {s : State} {m : MethodId} {args : Array Value} {below : List Frame} {meth : Method} {c : Code} {D : va_G} {ad : Nat → Nat} {cA : FieldType → ClassId} {A : Nat → Prop} (this : Nat) (a1 : Int32) (C : sa_C p s m args meth c cX12_readStep RX12 "readStep" 3 none D ad cA A) : sa_Sg p l e s m args below meth c 3 6 D ad cA A sa_eV 0 [(0, .ref (ad this)), (1, .int a1)] [] (f_X12_readStep this a1) := by
  unfold f_X12_readStep
  refine sa_gdI ?_
  refine sa_ldcSw C 12 rfl d_X12_readStep_0 ?_
  refine sa_aload_n C d_X12_readStep_3 rfl 0 rfl ?_
  refine sa_invV (ci := 12) C (k_X12_look this) q1653 ds_X12_look q128 rfl q1652 q49 q1650 (gd_X12_look this) rfl rfl rfl (Nat.le_of_ble_eq_true rfl) (by decide) (by decide) d_X12_readStep_4 (fun v1 => ?_)
  refine sa_invS C (k_X12_placeOf (1000 + 4) v1) q1669 ds_X12_placeOf q128 q1668 q1667 rfl rfl rfl (Nat.le_of_ble_eq_true rfl) (by decide) (by decide) d_X12_readStep_7 (fun v2 => ?_)
  refine sa_istore_n (lv' := [(2, .int v2), (0, .ref (ad this)), (1, .int a1)]) C d_X12_readStep_10 rfl (by decide) rfl ?_
  refine sa_iload_n C d_X12_readStep_11 rfl 0 rfl ?_
  refine sa_iconst (v := (-1)) C d_X12_readStep_12 (by decide) ?_
  refine sa_icmp_ne (tgt := 22) C d_X12_readStep_13 (by decide) ?_ ?_
  · refine sa_aload_n C d_X12_readStep_22 rfl 1 rfl ?_
    refine sa_dup C d_X12_readStep_23 rfl ?_
    refine sa_getI C fd_X12_150 d_X12_readStep_24 (fun v3 => ?_)
    refine sa_iconst (v := 1) C d_X12_readStep_27 (by decide) ?_
    refine sa_iadd C d_X12_readStep_28 ?_
    refine sa_putI C fd_X12_150 d_X12_readStep_29 ?_
    refine sa_aload_n C d_X12_readStep_32 rfl 1 rfl ?_
    refine sa_getR C fd_X12_58 rfl d_X12_readStep_33 (fun v4 => ?_)
    refine sa_iload_n C d_X12_readStep_36 rfl 2 rfl ?_
    refine sa_iload_n C d_X12_readStep_37 rfl 0 rfl ?_
    refine sa_iast C d_X12_readStep_38 ?_
    refine sa_aload_n C d_X12_readStep_39 rfl 1 rfl ?_
    refine sa_getR C fd_X12_58 rfl d_X12_readStep_40 (fun v5 => ?_)
    refine sa_iload_n C d_X12_readStep_43 rfl 2 rfl ?_
    refine sa_iconst (v := 1) C d_X12_readStep_44 (by decide) ?_
    refine sa_iadd C d_X12_readStep_45 ?_
    refine sa_iload_n C d_X12_readStep_46 rfl 0 rfl ?_
    refine sa_iconst (v := 4) C d_X12_readStep_47 (by decide) ?_
    refine sa_join1 59 (fun y6 => [(0, .ref (ad this)), (1, .int a1), (2, .int v2)]) (fun y6 => [.int y6, .int (a1 + 1), .ref (ad v5)]) (fun y6 => ?_) (fun j59 hj59 => ?_)
    · refine sa_iast C d_X12_readStep_59 ?_
      refine sa_aload_n C d_X12_readStep_60 rfl 0 rfl ?_
      refine sa_getR C fd_X12_58 rfl d_X12_readStep_61 (fun v7 => ?_)
      refine sa_iload_n C d_X12_readStep_64 rfl 1 rfl ?_
      refine sa_iconst (v := 2) C d_X12_readStep_65 (by decide) ?_
      refine sa_iadd C d_X12_readStep_66 ?_
      refine sa_iload_n C d_X12_readStep_67 rfl 2 rfl ?_
      refine sa_iconst (v := 2) C d_X12_readStep_68 (by decide) ?_
      refine sa_join1 88 (fun y8 => []) (fun y8 => [.int y8, .int (a1 + 2), .ref (ad v7)]) (fun y8 => ?_) (fun j88 hj88 => ?_)
      · refine sa_iast C d_X12_readStep_88 ?_
        exact sa_vret C d_X12_readStep_89
      refine sa_join0 87 ([]) ([.int (a1 + 2), .ref (ad v7)]) (?_) (fun j87 hj87 => ?_)
      · refine sa_iconst (v := (-1)) C d_X12_readStep_87 (by decide) ?_
        exact sa_sub [] rfl (hj88 _)
      refine sa_icmp_ge (tgt := 87) C d_X12_readStep_69 (by decide) ?_ ?_
      · exact sa_sub [] rfl (hj87)
      refine sa_aload_n C d_X12_readStep_72 rfl 0 rfl ?_
      refine sa_getI C fd_X12_159 d_X12_readStep_73 (fun v9 => ?_)
      refine sa_iconst (v := (-1)) C d_X12_readStep_76 (by decide) ?_
      refine sa_icmp_ne (tgt := 87) C d_X12_readStep_77 (by decide) ?_ ?_
      · exact sa_sub [] rfl (hj87)
      refine sa_aload_n C d_X12_readStep_80 rfl 0 rfl ?_
      refine sa_invV (ci := 12) C (k_X12_digit this) q1772 ds_X12_digit q128 rfl q1771 q69 q1769 (gd_X12_digit this) rfl rfl rfl (Nat.le_of_ble_eq_true rfl) (by decide) (by decide) d_X12_readStep_81 (fun v10 => ?_)
      refine sa_goto (tgt := 88) C d_X12_readStep_84 (by decide) ?_
      exact sa_sub [] rfl (hj88 _)
    refine sa_icmp_ge (tgt := 58) C d_X12_readStep_48 (by decide) ?_ ?_
    · refine sa_iconst (v := (-1)) C d_X12_readStep_58 (by decide) ?_
      exact sa_sub [1, 2, 0] rfl (hj59 _)
    refine sa_aload_n C d_X12_readStep_51 rfl 1 rfl ?_
    refine sa_invV (ci := 12) C (k_X12_digit this) q1772 ds_X12_digit q128 rfl q1771 q69 q1769 (gd_X12_digit this) rfl rfl rfl (Nat.le_of_ble_eq_true rfl) (by decide) (by decide) d_X12_readStep_52 (fun v11 => ?_)
    refine sa_goto (tgt := 59) C d_X12_readStep_55 (by decide) ?_
    exact sa_sub [1, 2, 0] rfl (hj59 _)
  refine sa_aload_n C d_X12_readStep_16 rfl 1 rfl ?_
  refine sa_invV (ci := 12) C (k_X12_fails this) q1657 ds_X12_fails q128 rfl q1656 q50 q1654 (gd_X12_fails this) rfl rfl rfl (Nat.le_of_ble_eq_true rfl) (by decide) (by decide) d_X12_readStep_17 (fun v12 => ?_)
  refine sa_pop C d_X12_readStep_20 rfl ?_
  exact sa_vret C d_X12_readStep_21
theorem k_X12_readStep (this : Nat) (a1 : Int32) : sa_Met 6 yX12_readStep cX12_readStep 3 none (fun ad => [.ref (ad this), .int a1]) sa_eV (f_X12_readStep this a1) := sa_mk (by decide) (fun ad => Nat.le_of_ble_eq_true rfl) (fun p l e s m args below meth c D ad cA A C => b_X12_readStep this a1 C)
theorem gd_X12_readStep (this : Nat) (a1 : Int32) (σ : sa_St) (r : Unit) (τ : sa_St) (h : f_X12_readStep this a1 σ = some (r, τ)) : sa_sh this = some (.inl 12) := sa_gd_ok h
theorem d_X12_readOrders_0 : decode cX12_readOrders 0 = .ok (.aload_n 0, 1) := by decide +kernel
theorem d_X12_readOrders_1 : decode cX12_readOrders 1 = .ok (.aload_n 0, 1) := by decide +kernel
theorem d_X12_readOrders_2 : decode cX12_readOrders 2 = .ok (.getfield 9, 3) := by decide +kernel
theorem d_X12_readOrders_5 : decode cX12_readOrders 5 = .ok (.iconst 0, 1) := by decide +kernel
theorem d_X12_readOrders_6 : decode cX12_readOrders 6 = .ok (.aload_n 0, 1) := by decide +kernel
theorem d_X12_readOrders_7 : decode cX12_readOrders 7 = .ok (.getfield 140, 3) := by decide +kernel
theorem d_X12_readOrders_10 : decode cX12_readOrders 10 = .ok (.invokevirtual 238, 3) := by decide +kernel
theorem d_X12_readOrders_13 : decode cX12_readOrders 13 = .ok (.iconst 0, 1) := by decide +kernel
theorem d_X12_readOrders_14 : decode cX12_readOrders 14 = .ok (.istore_n 1, 1) := by decide +kernel
theorem d_X12_readOrders_15 : decode cX12_readOrders 15 = .ok (.iconst 1, 1) := by decide +kernel
theorem d_X12_readOrders_16 : decode cX12_readOrders 16 = .ok (.istore_n 2, 1) := by decide +kernel
theorem d_X12_readOrders_17 : decode cX12_readOrders 17 = .ok (.iload_n 2, 1) := by decide +kernel
theorem d_X12_readOrders_18 : decode cX12_readOrders 18 = .ok (.ifCond .eq 73, 3) := by decide +kernel
theorem d_X12_readOrders_21 : decode cX12_readOrders 21 = .ok (.aload_n 0, 1) := by decide +kernel
theorem d_X12_readOrders_22 : decode cX12_readOrders 22 = .ok (.iconst 3, 1) := by decide +kernel
theorem d_X12_readOrders_23 : decode cX12_readOrders 23 = .ok (.bipush 64, 2) := by decide +kernel
theorem d_X12_readOrders_25 : decode cX12_readOrders 25 = .ok (.iload_n 1, 1) := by decide +kernel
theorem d_X12_readOrders_26 : decode cX12_readOrders 26 = .ok (.iadd, 1) := by decide +kernel
theorem d_X12_readOrders_27 : decode cX12_readOrders 27 = .ok (.imul, 1) := by decide +kernel
theorem d_X12_readOrders_28 : decode cX12_readOrders 28 = .ok (.invokevirtual 309, 3) := by decide +kernel
theorem d_X12_readOrders_31 : decode cX12_readOrders 31 = .ok (.aload_n 0, 1) := by decide +kernel
theorem d_X12_readOrders_32 : decode cX12_readOrders 32 = .ok (.getfield 159, 3) := by decide +kernel
theorem d_X12_readOrders_35 : decode cX12_readOrders 35 = .ok (.iconst (-1), 1) := by decide +kernel
theorem d_X12_readOrders_36 : decode cX12_readOrders 36 = .ok (.if_icmp .eq 4, 3) := by decide +kernel
theorem d_X12_readOrders_39 : decode cX12_readOrders 39 = .ok (.return_, 1) := by decide +kernel
theorem d_X12_readOrders_40 : decode cX12_readOrders 40 = .ok (.iinc 1 1, 3) := by decide +kernel
theorem d_X12_readOrders_43 : decode cX12_readOrders 43 = .ok (.aload_n 0, 1) := by decide +kernel
theorem d_X12_readOrders_44 : decode cX12_readOrders 44 = .ok (.invokevirtual 169, 3) := by decide +kernel
theorem d_X12_readOrders_47 : decode cX12_readOrders 47 = .ok (.bipush 59, 2) := by decide +kernel
theorem d_X12_readOrders_49 : decode cX12_readOrders 49 = .ok (.if_icmp .ne 7, 3) := by decide +kernel
theorem d_X12_readOrders_52 : decode cX12_readOrders 52 = .ok (.iconst 1, 1) := by decide +kernel
theorem d_X12_readOrders_53 : decode cX12_readOrders 53 = .ok (.goto 4, 3) := by decide +kernel
theorem d_X12_readOrders_56 : decode cX12_readOrders 56 = .ok (.iconst 0, 1) := by decide +kernel
theorem d_X12_readOrders_57 : decode cX12_readOrders 57 = .ok (.istore_n 2, 1) := by decide +kernel
theorem d_X12_readOrders_58 : decode cX12_readOrders 58 = .ok (.iload_n 2, 1) := by decide +kernel
theorem d_X12_readOrders_59 : decode cX12_readOrders 59 = .ok (.ifCond .eq 15, 3) := by decide +kernel
theorem d_X12_readOrders_62 : decode cX12_readOrders 62 = .ok (.iload_n 1, 1) := by decide +kernel
theorem d_X12_readOrders_63 : decode cX12_readOrders 63 = .ok (.bipush 16, 2) := by decide +kernel
theorem d_X12_readOrders_65 : decode cX12_readOrders 65 = .ok (.if_icmp .ne 9, 3) := by decide +kernel
theorem d_X12_readOrders_68 : decode cX12_readOrders 68 = .ok (.aload_n 0, 1) := by decide +kernel
theorem d_X12_readOrders_69 : decode cX12_readOrders 69 = .ok (.invokevirtual 165, 3) := by decide +kernel
theorem d_X12_readOrders_72 : decode cX12_readOrders 72 = .ok (.pop, 1) := by decide +kernel
theorem d_X12_readOrders_73 : decode cX12_readOrders 73 = .ok (.return_, 1) := by decide +kernel
theorem d_X12_readOrders_74 : decode cX12_readOrders 74 = .ok (.iload_n 2, 1) := by decide +kernel
theorem d_X12_readOrders_75 : decode cX12_readOrders 75 = .ok (.ifCond .eq (-58), 3) := by decide +kernel
theorem d_X12_readOrders_78 : decode cX12_readOrders 78 = .ok (.aload_n 0, 1) := by decide +kernel
theorem d_X12_readOrders_79 : decode cX12_readOrders 79 = .ok (.dup, 1) := by decide +kernel
theorem d_X12_readOrders_80 : decode cX12_readOrders 80 = .ok (.getfield 150, 3) := by decide +kernel
theorem d_X12_readOrders_83 : decode cX12_readOrders 83 = .ok (.iconst 1, 1) := by decide +kernel
theorem d_X12_readOrders_84 : decode cX12_readOrders 84 = .ok (.iadd, 1) := by decide +kernel
theorem d_X12_readOrders_85 : decode cX12_readOrders 85 = .ok (.putfield 150, 3) := by decide +kernel
theorem d_X12_readOrders_88 : decode cX12_readOrders 88 = .ok (.goto (-71), 3) := by decide +kernel
theorem d_X12_readOrders_91 : decode cX12_readOrders 91 = .ok (.aload_n 0, 1) := by decide +kernel
theorem d_X12_readOrders_92 : decode cX12_readOrders 92 = .ok (.getfield 61, 3) := by decide +kernel
theorem d_X12_readOrders_95 : decode cX12_readOrders 95 = .ok (.iconst 4, 1) := by decide +kernel
theorem d_X12_readOrders_96 : decode cX12_readOrders 96 = .ok (.iload_n 1, 1) := by decide +kernel
theorem d_X12_readOrders_97 : decode cX12_readOrders 97 = .ok (.iastore, 1) := by decide +kernel
theorem d_X12_readOrders_98 : decode cX12_readOrders 98 = .ok (.aload_n 0, 1) := by decide +kernel
theorem d_X12_readOrders_99 : decode cX12_readOrders 99 = .ok (.invokevirtual 169, 3) := by decide +kernel
theorem d_X12_readOrders_102 : decode cX12_readOrders 102 = .ok (.iconst (-1), 1) := by decide +kernel
theorem d_X12_readOrders_103 : decode cX12_readOrders 103 = .ok (.if_icmp .eq 8, 3) := by decide +kernel
theorem d_X12_readOrders_106 : decode cX12_readOrders 106 = .ok (.aload_n 0, 1) := by decide +kernel
theorem d_X12_readOrders_107 : decode cX12_readOrders 107 = .ok (.invokevirtual 165, 3) := by decide +kernel
theorem d_X12_readOrders_110 : decode cX12_readOrders 110 = .ok (.pop, 1) := by decide +kernel
theorem d_X12_readOrders_111 : decode cX12_readOrders 111 = .ok (.return_, 1) := by decide +kernel
def f_X12_readOrders (this : Nat) : sa_M Unit :=
sa_gd 12 this (
sa_bnd (sa_rdR 12 this 1) fun v1 =>
sa_bnd (sa_rdI 12 this 6) fun v2 =>
sa_bnd (f_X12_starts this v1 0 v2) fun _ =>
sa_let (0 : Int32) fun x3 =>
sa_let (1 : Int32) fun x4 =>
sa_wh2 (fun j17 (x5 : Int32) (x6 : Int32) =>
if x6 = 0 then
sa_bnd (sa_rdR 12 this 33) fun v7 =>
sa_bnd (sa_stI v7 4 x5) fun _ =>
sa_bnd (f_X12_look this) fun v8 =>
sa_jn0 (sa_ret ()) fun j111 =>
if v8 = (-1) then
j111
else
sa_bnd (f_X12_fails this) fun v9 =>
j111
else
sa_bnd (f_X12_readStep this (3 * (64 + x5))) fun _ =>
sa_bnd (sa_rdI 12 this 11) fun v10 =>
if v10 = (-1) then
sa_let ((x5 + 1) : Int32) fun x11 =>
sa_bnd (f_X12_look this) fun v12 =>
sa_jn1 (fun (y13 : Int32) =>
sa_jn0 (if y13 = 0 then
j17 x11 y13
else
sa_bnd (sa_rdI 12 this 10) fun v14 =>
sa_bnd (sa_wrI 12 this 10 (v14 + 1)) fun _ =>
j17 x11 y13) fun j74 =>
if y13 = 0 then
j74
else
if ¬ x11 = 16 then
j74
else
sa_bnd (f_X12_fails this) fun v15 =>
sa_ret ()) fun j57 =>
if ¬ v12 = 59 then
j57 0
else
j57 1
else
sa_ret ()) sa_F x3 x4)
set_option maxHeartbeats 1000000 in
set_option maxRecDepth 10000 in
theorem b_X12_readOrders {p : Program} {l : Launch} {e : Env} {s : State} {m : MethodId} {args : Array Value} {below : List Frame} {meth : Method} {c : Code} {D : va_G} {ad : Nat → Nat} {cA : FieldType → ClassId} {A : Nat → Prop} (this : Nat) (C : sa_C p s m args meth c cX12_readOrders RX12 "readOrders" 3 none D ad cA A) : sa_Sg p l e s m args below meth c 3 7 D ad cA A sa_eV 0 [(0, .ref (ad this))] [] (f_X12_readOrders this) := by
  unfold f_X12_readOrders
  refine sa_gdI ?_
  refine sa_aload_n C d_X12_readOrders_0 rfl 0 rfl ?_
  refine sa_aload_n C d_X12_readOrders_1 rfl 0 rfl ?_
  refine sa_getR C fd_X12_9 rfl d_X12_readOrders_2 (fun v1 => ?_)
  refine sa_iconst (v := 0) C d_X12_readOrders_5 (by decide) ?_
  refine sa_aload_n C d_X12_readOrders_6 rfl 0 rfl ?_
  refine sa_getI C fd_X12_140 d_X12_readOrders_7 (fun v2 => ?_)
  refine sa_invV (ci := 12) C (k_X12_starts this v1 0 v2) q1645 ds_X12_starts q128 rfl q1644 q47 q1642 (gd_X12_starts this v1 0 v2) rfl rfl rfl (Nat.le_of_ble_eq_true rfl) (by decide) (by decide) d_X12_readOrders_10 (fun _ => ?_)
  refine sa_iconst (v := 0) C d_X12_readOrders_13 (by decide) ?_
  refine sa_topi (fun x3 => ?_)
  refine sa_istore_n (lv' := [(1, .int x3), (0, .ref (ad this))]) C d_X12_readOrders_14 rfl (by decide) rfl ?_
  refine sa_iconst (v := 1) C d_X12_readOrders_15 (by decide) ?_
  refine sa_topi (fun x4 => ?_)
  refine sa_istore_n (lv' := [(2, .int x4), (1, .int x3), (0, .ref (ad this))]) C d_X12_readOrders_16 rfl (by decide) rfl ?_
  refine sa_sub [2, 1, 0] rfl (sa_loop2 (fun x5 x6 => [(0, .ref (ad this)), (1, .int x5), (2, .int x6)]) (fun x5 x6 => []) (fun j17 hj17 x5 x6 => ?_) _ _ _)
  refine sa_iload_n C d_X12_readOrders_17 rfl 2 rfl ?_
  refine sa_if_eq (tgt := 91) C d_X12_readOrders_18 (by decide) ?_ ?_
  · refine sa_aload_n C d_X12_readOrders_91 rfl 0 rfl ?_
    refine sa_getR C fd_X12_61 rfl d_X12_readOrders_92 (fun v7 => ?_)
    refine sa_iconst (v := 4) C d_X12_readOrders_95 (by decide) ?_
    refine sa_iload_n C d_X12_readOrders_96 rfl 1 rfl ?_
    refine sa_iast C d_X12_readOrders_97 ?_
    refine sa_aload_n C d_X12_readOrders_98 rfl 0 rfl ?_
    refine sa_invV (ci := 12) C (k_X12_look this) q1653 ds_X12_look q128 rfl q1652 q49 q1650 (gd_X12_look this) rfl rfl rfl (Nat.le_of_ble_eq_true rfl) (by decide) (by decide) d_X12_readOrders_99 (fun v8 => ?_)
    refine sa_iconst (v := (-1)) C d_X12_readOrders_102 (by decide) ?_
    refine sa_join0 111 ([]) ([]) (?_) (fun j111 hj111 => ?_)
    · exact sa_vret C d_X12_readOrders_111
    refine sa_icmp_eq (tgt := 111) C d_X12_readOrders_103 (by decide) ?_ ?_
    · exact sa_sub [] rfl (hj111)
    refine sa_aload_n C d_X12_readOrders_106 rfl 0 rfl ?_
    refine sa_invV (ci := 12) C (k_X12_fails this) q1657 ds_X12_fails q128 rfl q1656 q50 q1654 (gd_X12_fails this) rfl rfl rfl (Nat.le_of_ble_eq_true rfl) (by decide) (by decide) d_X12_readOrders_107 (fun v9 => ?_)
    refine sa_pop C d_X12_readOrders_110 rfl ?_
    exact sa_sub [] rfl (hj111)
  refine sa_aload_n C d_X12_readOrders_21 rfl 0 rfl ?_
  refine sa_iconst (v := 3) C d_X12_readOrders_22 (by decide) ?_
  refine sa_bipush (v := 64) C d_X12_readOrders_23 (by decide) ?_
  refine sa_iload_n C d_X12_readOrders_25 rfl 1 rfl ?_
  refine sa_iadd C d_X12_readOrders_26 ?_
  refine sa_imul C d_X12_readOrders_27 ?_
  refine sa_invV (ci := 12) C (k_X12_readStep this (3 * (64 + x5))) q1767 ds_X12_readStep q128 rfl q1766 q68 q1764 (gd_X12_readStep this (3 * (64 + x5))) rfl rfl rfl (Nat.le_of_ble_eq_true rfl) (by decide) (by decide) d_X12_readOrders_28 (fun _ => ?_)
  refine sa_aload_n C d_X12_readOrders_31 rfl 0 rfl ?_
  refine sa_getI C fd_X12_159 d_X12_readOrders_32 (fun v10 => ?_)
  refine sa_iconst (v := (-1)) C d_X12_readOrders_35 (by decide) ?_
  refine sa_icmp_eq (tgt := 40) C d_X12_readOrders_36 (by decide) ?_ ?_
  · refine sa_iinc C (fun zz => [(1, .int zz), (0, .ref (ad this)), (2, .int x6)]) d_X12_readOrders_40 1 rfl rfl (by decide) (fun _ => rfl) (fun x11 => ?_)
    refine sa_aload_n C d_X12_readOrders_43 rfl 1 rfl ?_
    refine sa_invV (ci := 12) C (k_X12_look this) q1653 ds_X12_look q128 rfl q1652 q49 q1650 (gd_X12_look this) rfl rfl rfl (Nat.le_of_ble_eq_true rfl) (by decide) (by decide) d_X12_readOrders_44 (fun v12 => ?_)
    refine sa_bipush (v := 59) C d_X12_readOrders_47 (by decide) ?_
    refine sa_join1 57 (fun y13 => [(0, .ref (ad this)), (1, .int x11)]) (fun y13 => [.int y13]) (fun y13 => ?_) (fun j57 hj57 => ?_)
    · refine sa_istore_n (lv' := [(2, .int y13), (0, .ref (ad this)), (1, .int x11)]) C d_X12_readOrders_57 rfl (by decide) rfl ?_
      refine sa_iload_n C d_X12_readOrders_58 rfl 0 rfl ?_
      refine sa_join0 74 ([(0, .ref (ad this)), (1, .int x11), (2, .int y13)]) ([]) (?_) (fun j74 hj74 => ?_)
      · refine sa_iload_n C d_X12_readOrders_74 rfl 2 rfl ?_
        refine sa_if_eq (tgt := 17) C d_X12_readOrders_75 (by decide) ?_ ?_
        · exact sa_sub [0, 1, 2] rfl (hj17 _ _)
        refine sa_aload_n C d_X12_readOrders_78 rfl 0 rfl ?_
        refine sa_dup C d_X12_readOrders_79 rfl ?_
        refine sa_getI C fd_X12_150 d_X12_readOrders_80 (fun v14 => ?_)
        refine sa_iconst (v := 1) C d_X12_readOrders_83 (by decide) ?_
        refine sa_iadd C d_X12_readOrders_84 ?_
        refine sa_putI C fd_X12_150 d_X12_readOrders_85 ?_
        refine sa_goto (tgt := 17) C d_X12_readOrders_88 (by decide) ?_
        exact sa_sub [0, 1, 2] rfl (hj17 _ _)
      refine sa_if_eq (tgt := 74) C d_X12_readOrders_59 (by decide) ?_ ?_
      · exact sa_sub [1, 2, 0] rfl (hj74)
      refine sa_iload_n C d_X12_readOrders_62 rfl 2 rfl ?_
      refine sa_bipush (v := 16) C d_X12_readOrders_63 (by decide) ?_
      refine sa_icmp_ne (tgt := 74) C d_X12_readOrders_65 (by decide) ?_ ?_
      · exact sa_sub [1, 2, 0] rfl (hj74)
      refine sa_aload_n C d_X12_readOrders_68 rfl 1 rfl ?_
      refine sa_invV (ci := 12) C (k_X12_fails this) q1657 ds_X12_fails q128 rfl q1656 q50 q1654 (gd_X12_fails this) rfl rfl rfl (Nat.le_of_ble_eq_true rfl) (by decide) (by decide) d_X12_readOrders_69 (fun v15 => ?_)
      refine sa_pop C d_X12_readOrders_72 rfl ?_
      exact sa_vret C d_X12_readOrders_73
    refine sa_icmp_ne (tgt := 56) C d_X12_readOrders_49 (by decide) ?_ ?_
    · refine sa_iconst (v := 0) C d_X12_readOrders_56 (by decide) ?_
      exact sa_sub [1, 0] rfl (hj57 _)
    refine sa_iconst (v := 1) C d_X12_readOrders_52 (by decide) ?_
    refine sa_goto (tgt := 57) C d_X12_readOrders_53 (by decide) ?_
    exact sa_sub [1, 0] rfl (hj57 _)
  exact sa_vret C d_X12_readOrders_39
theorem k_X12_readOrders (this : Nat) : sa_Met 7 yX12_readOrders cX12_readOrders 3 none (fun ad => [.ref (ad this)]) sa_eV (f_X12_readOrders this) := sa_mk (by decide) (fun ad => Nat.le_of_ble_eq_true rfl) (fun p l e s m args below meth c D ad cA A C => b_X12_readOrders this C)
theorem gd_X12_readOrders (this : Nat) (σ : sa_St) (r : Unit) (τ : sa_St) (h : f_X12_readOrders this σ = some (r, τ)) : sa_sh this = some (.inl 12) := sa_gd_ok h
theorem d_X12_fault_0 : decode cX12_fault 0 = .ok (.aload_n 0, 1) := by decide +kernel
theorem d_X12_fault_1 : decode cX12_fault 1 = .ok (.iconst 0, 1) := by decide +kernel
theorem d_X12_fault_2 : decode cX12_fault 2 = .ok (.putfield 127, 3) := by decide +kernel
theorem d_X12_fault_5 : decode cX12_fault 5 = .ok (.iload_n 1, 1) := by decide +kernel
theorem d_X12_fault_6 : decode cX12_fault 6 = .ok (.i2l, 1) := by decide +kernel
theorem d_X12_fault_7 : decode cX12_fault 7 = .ok (.lconst 0, 1) := by decide +kernel
theorem d_X12_fault_8 : decode cX12_fault 8 = .ok (.ldc2_w 312, 3) := by decide +kernel
theorem d_X12_fault_11 : decode cX12_fault 11 = .ok (.invokestatic 248, 3) := by decide +kernel
theorem d_X12_fault_14 : decode cX12_fault 14 = .ok (.ifCond .ne 6, 3) := by decide +kernel
theorem d_X12_fault_17 : decode cX12_fault 17 = .ok (.bipush (-2), 2) := by decide +kernel
theorem d_X12_fault_19 : decode cX12_fault 19 = .ok (.ireturn, 1) := by decide +kernel
theorem d_X12_fault_20 : decode cX12_fault 20 = .ok (.iload_n 1, 1) := by decide +kernel
theorem d_X12_fault_21 : decode cX12_fault 21 = .ok (.ifCond .ne 7, 3) := by decide +kernel
theorem d_X12_fault_24 : decode cX12_fault 24 = .ok (.aload_n 0, 1) := by decide +kernel
theorem d_X12_fault_25 : decode cX12_fault 25 = .ok (.invokevirtual 314, 3) := by decide +kernel
theorem d_X12_fault_28 : decode cX12_fault 28 = .ok (.iload_n 1, 1) := by decide +kernel
theorem d_X12_fault_29 : decode cX12_fault 29 = .ok (.iconst 1, 1) := by decide +kernel
theorem d_X12_fault_30 : decode cX12_fault 30 = .ok (.if_icmp .ne 16, 3) := by decide +kernel
theorem d_X12_fault_33 : decode cX12_fault 33 = .ok (.aload_n 0, 1) := by decide +kernel
theorem d_X12_fault_34 : decode cX12_fault 34 = .ok (.aload_n 0, 1) := by decide +kernel
theorem d_X12_fault_35 : decode cX12_fault 35 = .ok (.getfield 9, 3) := by decide +kernel
theorem d_X12_fault_38 : decode cX12_fault 38 = .ok (.iconst 0, 1) := by decide +kernel
theorem d_X12_fault_39 : decode cX12_fault 39 = .ok (.aload_n 0, 1) := by decide +kernel
theorem d_X12_fault_40 : decode cX12_fault 40 = .ok (.getfield 140, 3) := by decide +kernel
theorem d_X12_fault_43 : decode cX12_fault 43 = .ok (.invokevirtual 317, 3) := by decide +kernel
theorem d_X12_fault_46 : decode cX12_fault 46 = .ok (.iload_n 1, 1) := by decide +kernel
theorem d_X12_fault_47 : decode cX12_fault 47 = .ok (.iconst 2, 1) := by decide +kernel
theorem d_X12_fault_48 : decode cX12_fault 48 = .ok (.if_icmp .ne 7, 3) := by decide +kernel
theorem d_X12_fault_51 : decode cX12_fault 51 = .ok (.aload_n 0, 1) := by decide +kernel
theorem d_X12_fault_52 : decode cX12_fault 52 = .ok (.invokevirtual 320, 3) := by decide +kernel
theorem d_X12_fault_55 : decode cX12_fault 55 = .ok (.aload_n 0, 1) := by decide +kernel
theorem d_X12_fault_56 : decode cX12_fault 56 = .ok (.getfield 159, 3) := by decide +kernel
theorem d_X12_fault_59 : decode cX12_fault 59 = .ok (.ireturn, 1) := by decide +kernel
def f_X12_fault (this : Nat) (a1 : Int32) : sa_M Int32 :=
sa_gd 12 this (
sa_bnd (sa_wrI 12 this 0 0) fun _ =>
sa_bnd (f_X12_isIn (a1.toInt64) 0 2) fun v1 =>
if ¬ v1 = 0 then
sa_jn0 (sa_jn0 (sa_jn0 (sa_bnd (sa_rdI 12 this 11) fun v2 =>
sa_ret (v2 : Int32)) fun j55 =>
if ¬ a1 = 2 then
j55
else
sa_bnd (f_X12_readOrders this) fun _ =>
j55) fun j46 =>
if ¬ a1 = 1 then
j46
else
sa_bnd (sa_rdR 12 this 1) fun v3 =>
sa_bnd (sa_rdI 12 this 6) fun v4 =>
sa_bnd (f_X12_goThrough this v3 0 v4) fun _ =>
j46) fun j28 =>
if ¬ a1 = 0 then
j28
else
sa_bnd (f_X12_readLand this) fun _ =>
j28
else
sa_ret ((-2) : Int32))
set_option maxHeartbeats 1000000 in
set_option maxRecDepth 10000 in
theorem b_X12_fault {p : Program} {l : Launch} {e : Env} {s : State} {m : MethodId} {args : Array Value} {below : List Frame} {meth : Method} {c : Code} {D : va_G} {ad : Nat → Nat} {cA : FieldType → ClassId} {A : Nat → Prop} (this : Nat) (a1 : Int32) (C : sa_C p s m args meth c cX12_fault RX12 "fault" 2 (some .int) D ad cA A) : sa_Sg p l e s m args below meth c 2 131 D ad cA A sa_eI 0 [(0, .ref (ad this)), (1, .int a1)] [] (f_X12_fault this a1) := by
  unfold f_X12_fault
  refine sa_gdI ?_
  refine sa_aload_n C d_X12_fault_0 rfl 0 rfl ?_
  refine sa_iconst (v := 0) C d_X12_fault_1 (by decide) ?_
  refine sa_putI C fd_X12_127 d_X12_fault_2 ?_
  refine sa_iload_n C d_X12_fault_5 rfl 1 rfl ?_
  refine sa_i2l C d_X12_fault_6 ?_
  refine sa_lconst (v := 0) C d_X12_fault_7 (by decide) ?_
  refine sa_ldc2 (v := 2) C d_X12_fault_8 q1634 ?_
  refine sa_invS C (k_X12_isIn (a1.toInt64) 0 2) q1637 ds_X12_isIn q128 q1636 q1635 rfl rfl rfl (Nat.le_of_ble_eq_true rfl) (by decide) (by decide) d_X12_fault_11 (fun v1 => ?_)
  refine sa_if_ne (tgt := 20) C d_X12_fault_14 (by decide) ?_ ?_
  · refine sa_iload_n C d_X12_fault_20 rfl 1 rfl ?_
    refine sa_join0 28 ([(0, .ref (ad this)), (1, .int a1)]) ([]) (?_) (fun j28 hj28 => ?_)
    · refine sa_iload_n C d_X12_fault_28 rfl 1 rfl ?_
      refine sa_iconst (v := 1) C d_X12_fault_29 (by decide) ?_
      refine sa_join0 46 ([(0, .ref (ad this)), (1, .int a1)]) ([]) (?_) (fun j46 hj46 => ?_)
      · refine sa_iload_n C d_X12_fault_46 rfl 1 rfl ?_
        refine sa_iconst (v := 2) C d_X12_fault_47 (by decide) ?_
        refine sa_join0 55 ([(0, .ref (ad this))]) ([]) (?_) (fun j55 hj55 => ?_)
        · refine sa_aload_n C d_X12_fault_55 rfl 0 rfl ?_
          refine sa_getI C fd_X12_159 d_X12_fault_56 (fun v2 => ?_)
          exact sa_iret C d_X12_fault_59
        refine sa_icmp_ne (tgt := 55) C d_X12_fault_48 (by decide) ?_ ?_
        · exact sa_sub [0] rfl (hj55)
        refine sa_aload_n C d_X12_fault_51 rfl 0 rfl ?_
        refine sa_invV (ci := 12) C (k_X12_readOrders this) q1763 ds_X12_readOrders q128 rfl q1762 q67 q1760 (gd_X12_readOrders this) rfl rfl rfl (Nat.le_of_ble_eq_true rfl) (by decide) (by decide) d_X12_fault_52 (fun _ => ?_)
        exact sa_sub [0] rfl (hj55)
      refine sa_icmp_ne (tgt := 46) C d_X12_fault_30 (by decide) ?_ ?_
      · exact sa_sub [0, 1] rfl (hj46)
      refine sa_aload_n C d_X12_fault_33 rfl 0 rfl ?_
      refine sa_aload_n C d_X12_fault_34 rfl 0 rfl ?_
      refine sa_getR C fd_X12_9 rfl d_X12_fault_35 (fun v3 => ?_)
      refine sa_iconst (v := 0) C d_X12_fault_38 (by decide) ?_
      refine sa_aload_n C d_X12_fault_39 rfl 0 rfl ?_
      refine sa_getI C fd_X12_140 d_X12_fault_40 (fun v4 => ?_)
      refine sa_invV (ci := 12) C (k_X12_goThrough this v3 0 v4) q1702 ds_X12_goThrough q128 rfl q1701 q56 q1699 (gd_X12_goThrough this v3 0 v4) rfl rfl rfl (Nat.le_of_ble_eq_true rfl) (by decide) (by decide) d_X12_fault_43 (fun _ => ?_)
      exact sa_sub [0, 1] rfl (hj46)
    refine sa_if_ne (tgt := 28) C d_X12_fault_21 (by decide) ?_ ?_
    · exact sa_sub [0, 1] rfl (hj28)
    refine sa_aload_n C d_X12_fault_24 rfl 0 rfl ?_
    refine sa_invV (ci := 12) C (k_X12_readLand this) q1641 ds_X12_readLand q128 rfl q1640 q46 q1638 (gd_X12_readLand this) rfl rfl rfl (Nat.le_of_ble_eq_true rfl) (by decide) (by decide) d_X12_fault_25 (fun _ => ?_)
    exact sa_sub [0, 1] rfl (hj28)
  refine sa_bipush (v := (-2)) C d_X12_fault_17 (by decide) ?_
  exact sa_iret C d_X12_fault_19
theorem k_X12_fault (this : Nat) (a1 : Int32) : sa_Met 131 yX12_fault cX12_fault 2 (some .int) (fun ad => [.ref (ad this), .int a1]) sa_eI (f_X12_fault this a1) := sa_mk (by decide) (fun ad => Nat.le_of_ble_eq_true rfl) (fun p l e s m args below meth c D ad cA A C => b_X12_fault this a1 C)
theorem gd_X12_fault (this : Nat) (a1 : Int32) (σ : sa_St) (r : Int32) (τ : sa_St) (h : f_X12_fault this a1 σ = some (r, τ)) : sa_sh this = some (.inl 12) := sa_gd_ok h
theorem d_X12_text_0 : decode cX12_text 0 = .ok (.aload_n 0, 1) := by decide +kernel
theorem d_X12_text_1 : decode cX12_text 1 = .ok (.iconst 0, 1) := by decide +kernel
theorem d_X12_text_2 : decode cX12_text 2 = .ok (.putfield 127, 3) := by decide +kernel
theorem d_X12_text_5 : decode cX12_text 5 = .ok (.iload_n 1, 1) := by decide +kernel
theorem d_X12_text_6 : decode cX12_text 6 = .ok (.i2l, 1) := by decide +kernel
theorem d_X12_text_7 : decode cX12_text 7 = .ok (.lconst 0, 1) := by decide +kernel
theorem d_X12_text_8 : decode cX12_text 8 = .ok (.ldc2_w 312, 3) := by decide +kernel
theorem d_X12_text_11 : decode cX12_text 11 = .ok (.invokestatic 248, 3) := by decide +kernel
theorem d_X12_text_14 : decode cX12_text 14 = .ok (.ifCond .eq 38, 3) := by decide +kernel
theorem d_X12_text_17 : decode cX12_text 17 = .ok (.iload_n 1, 1) := by decide +kernel
theorem d_X12_text_18 : decode cX12_text 18 = .ok (.iconst 1, 1) := by decide +kernel
theorem d_X12_text_19 : decode cX12_text 19 = .ok (.if_icmp .ne 11, 3) := by decide +kernel
theorem d_X12_text_22 : decode cX12_text 22 = .ok (.aload_n 0, 1) := by decide +kernel
theorem d_X12_text_23 : decode cX12_text 23 = .ok (.getfield 323, 3) := by decide +kernel
theorem d_X12_text_26 : decode cX12_text 26 = .ok (.iconst 4, 1) := by decide +kernel
theorem d_X12_text_27 : decode cX12_text 27 = .ok (.if_icmp .eq 25, 3) := by decide +kernel
theorem d_X12_text_30 : decode cX12_text 30 = .ok (.iload_n 1, 1) := by decide +kernel
theorem d_X12_text_31 : decode cX12_text 31 = .ok (.iconst 2, 1) := by decide +kernel
theorem d_X12_text_32 : decode cX12_text 32 = .ok (.if_icmp .ne 11, 3) := by decide +kernel
theorem d_X12_text_35 : decode cX12_text 35 = .ok (.aload_n 0, 1) := by decide +kernel
theorem d_X12_text_36 : decode cX12_text 36 = .ok (.getfield 326, 3) := by decide +kernel
theorem d_X12_text_39 : decode cX12_text 39 = .ok (.iconst 4, 1) := by decide +kernel
theorem d_X12_text_40 : decode cX12_text 40 = .ok (.if_icmp .eq 12, 3) := by decide +kernel
theorem d_X12_text_43 : decode cX12_text 43 = .ok (.aload_n 0, 1) := by decide +kernel
theorem d_X12_text_44 : decode cX12_text 44 = .ok (.iload_n 1, 1) := by decide +kernel
theorem d_X12_text_45 : decode cX12_text 45 = .ok (.invokevirtual 329, 3) := by decide +kernel
theorem d_X12_text_48 : decode cX12_text 48 = .ok (.iconst (-1), 1) := by decide +kernel
theorem d_X12_text_49 : decode cX12_text 49 = .ok (.if_icmp .eq 5, 3) := by decide +kernel
theorem d_X12_text_52 : decode cX12_text 52 = .ok (.iconst (-1), 1) := by decide +kernel
theorem d_X12_text_53 : decode cX12_text 53 = .ok (.ireturn, 1) := by decide +kernel
theorem d_X12_text_54 : decode cX12_text 54 = .ok (.aload_n 0, 1) := by decide +kernel
theorem d_X12_text_55 : decode cX12_text 55 = .ok (.getfield 140, 3) := by decide +kernel
theorem d_X12_text_58 : decode cX12_text 58 = .ok (.istore_n 2, 1) := by decide +kernel
theorem d_X12_text_59 : decode cX12_text 59 = .ok (.aload_n 0, 1) := by decide +kernel
theorem d_X12_text_60 : decode cX12_text 60 = .ok (.iconst 0, 1) := by decide +kernel
theorem d_X12_text_61 : decode cX12_text 61 = .ok (.putfield 140, 3) := by decide +kernel
theorem d_X12_text_64 : decode cX12_text 64 = .ok (.iload_n 1, 1) := by decide +kernel
theorem d_X12_text_65 : decode cX12_text 65 = .ok (.iconst 1, 1) := by decide +kernel
theorem d_X12_text_66 : decode cX12_text 66 = .ok (.if_icmp .ne 64, 3) := by decide +kernel
theorem d_X12_text_69 : decode cX12_text 69 = .ok (.iconst 0, 1) := by decide +kernel
theorem d_X12_text_70 : decode cX12_text 70 = .ok (.istore_n 3, 1) := by decide +kernel
theorem d_X12_text_71 : decode cX12_text 71 = .ok (.iload_n 3, 1) := by decide +kernel
theorem d_X12_text_72 : decode cX12_text 72 = .ok (.iload_n 2, 1) := by decide +kernel
theorem d_X12_text_73 : decode cX12_text 73 = .ok (.if_icmp .ge 30, 3) := by decide +kernel
theorem d_X12_text_76 : decode cX12_text 76 = .ok (.aload_n 0, 1) := by decide +kernel
theorem d_X12_text_77 : decode cX12_text 77 = .ok (.getfield 13, 3) := by decide +kernel
theorem d_X12_text_80 : decode cX12_text 80 = .ok (.sipush 240, 3) := by decide +kernel
theorem d_X12_text_83 : decode cX12_text 83 = .ok (.aload_n 0, 1) := by decide +kernel
theorem d_X12_text_84 : decode cX12_text 84 = .ok (.getfield 323, 3) := by decide +kernel
theorem d_X12_text_87 : decode cX12_text 87 = .ok (.imul, 1) := by decide +kernel
theorem d_X12_text_88 : decode cX12_text 88 = .ok (.iload_n 3, 1) := by decide +kernel
theorem d_X12_text_89 : decode cX12_text 89 = .ok (.iadd, 1) := by decide +kernel
theorem d_X12_text_90 : decode cX12_text 90 = .ok (.aload_n 0, 1) := by decide +kernel
theorem d_X12_text_91 : decode cX12_text 91 = .ok (.getfield 9, 3) := by decide +kernel
theorem d_X12_text_94 : decode cX12_text 94 = .ok (.iload_n 3, 1) := by decide +kernel
theorem d_X12_text_95 : decode cX12_text 95 = .ok (.baload, 1) := by decide +kernel
theorem d_X12_text_96 : decode cX12_text 96 = .ok (.bastore, 1) := by decide +kernel
theorem d_X12_text_97 : decode cX12_text 97 = .ok (.iinc 3 1, 3) := by decide +kernel
theorem d_X12_text_100 : decode cX12_text 100 = .ok (.goto (-29), 3) := by decide +kernel
theorem d_X12_text_103 : decode cX12_text 103 = .ok (.aload_n 0, 1) := by decide +kernel
theorem d_X12_text_104 : decode cX12_text 104 = .ok (.getfield 16, 3) := by decide +kernel
theorem d_X12_text_107 : decode cX12_text 107 = .ok (.aload_n 0, 1) := by decide +kernel
theorem d_X12_text_108 : decode cX12_text 108 = .ok (.getfield 323, 3) := by decide +kernel
theorem d_X12_text_111 : decode cX12_text 111 = .ok (.iload_n 2, 1) := by decide +kernel
theorem d_X12_text_112 : decode cX12_text 112 = .ok (.iastore, 1) := by decide +kernel
theorem d_X12_text_113 : decode cX12_text 113 = .ok (.aload_n 0, 1) := by decide +kernel
theorem d_X12_text_114 : decode cX12_text 114 = .ok (.dup, 1) := by decide +kernel
theorem d_X12_text_115 : decode cX12_text 115 = .ok (.getfield 323, 3) := by decide +kernel
theorem d_X12_text_118 : decode cX12_text 118 = .ok (.iconst 1, 1) := by decide +kernel
theorem d_X12_text_119 : decode cX12_text 119 = .ok (.iadd, 1) := by decide +kernel
theorem d_X12_text_120 : decode cX12_text 120 = .ok (.putfield 323, 3) := by decide +kernel
theorem d_X12_text_123 : decode cX12_text 123 = .ok (.aload_n 0, 1) := by decide +kernel
theorem d_X12_text_124 : decode cX12_text 124 = .ok (.getfield 323, 3) := by decide +kernel
theorem d_X12_text_127 : decode cX12_text 127 = .ok (.iconst 1, 1) := by decide +kernel
theorem d_X12_text_128 : decode cX12_text 128 = .ok (.isub, 1) := by decide +kernel
theorem d_X12_text_129 : decode cX12_text 129 = .ok (.ireturn, 1) := by decide +kernel
theorem d_X12_text_130 : decode cX12_text 130 = .ok (.iload_n 1, 1) := by decide +kernel
theorem d_X12_text_131 : decode cX12_text 131 = .ok (.iconst 2, 1) := by decide +kernel
theorem d_X12_text_132 : decode cX12_text 132 = .ok (.if_icmp .ne 73, 3) := by decide +kernel
theorem d_X12_text_135 : decode cX12_text 135 = .ok (.iconst 0, 1) := by decide +kernel
theorem d_X12_text_136 : decode cX12_text 136 = .ok (.istore_n 3, 1) := by decide +kernel
theorem d_X12_text_137 : decode cX12_text 137 = .ok (.iload_n 3, 1) := by decide +kernel
theorem d_X12_text_138 : decode cX12_text 138 = .ok (.bipush 48, 2) := by decide +kernel
theorem d_X12_text_140 : decode cX12_text 140 = .ok (.if_icmp .ge 33, 3) := by decide +kernel
theorem d_X12_text_143 : decode cX12_text 143 = .ok (.aload_n 0, 1) := by decide +kernel
theorem d_X12_text_144 : decode cX12_text 144 = .ok (.getfield 58, 3) := by decide +kernel
theorem d_X12_text_147 : decode cX12_text 147 = .ok (.bipush 48, 2) := by decide +kernel
theorem d_X12_text_149 : decode cX12_text 149 = .ok (.aload_n 0, 1) := by decide +kernel
theorem d_X12_text_150 : decode cX12_text 150 = .ok (.getfield 326, 3) := by decide +kernel
theorem d_X12_text_153 : decode cX12_text 153 = .ok (.imul, 1) := by decide +kernel
theorem d_X12_text_154 : decode cX12_text 154 = .ok (.iload_n 3, 1) := by decide +kernel
theorem d_X12_text_155 : decode cX12_text 155 = .ok (.iadd, 1) := by decide +kernel
theorem d_X12_text_156 : decode cX12_text 156 = .ok (.aload_n 0, 1) := by decide +kernel
theorem d_X12_text_157 : decode cX12_text 157 = .ok (.getfield 58, 3) := by decide +kernel
theorem d_X12_text_160 : decode cX12_text 160 = .ok (.sipush 192, 3) := by decide +kernel
theorem d_X12_text_163 : decode cX12_text 163 = .ok (.iload_n 3, 1) := by decide +kernel
theorem d_X12_text_164 : decode cX12_text 164 = .ok (.iadd, 1) := by decide +kernel
theorem d_X12_text_165 : decode cX12_text 165 = .ok (.iaload, 1) := by decide +kernel
theorem d_X12_text_166 : decode cX12_text 166 = .ok (.iastore, 1) := by decide +kernel
theorem d_X12_text_167 : decode cX12_text 167 = .ok (.iinc 3 1, 3) := by decide +kernel
theorem d_X12_text_170 : decode cX12_text 170 = .ok (.goto (-33), 3) := by decide +kernel
theorem d_X12_text_173 : decode cX12_text 173 = .ok (.aload_n 0, 1) := by decide +kernel
theorem d_X12_text_174 : decode cX12_text 174 = .ok (.getfield 61, 3) := by decide +kernel
theorem d_X12_text_177 : decode cX12_text 177 = .ok (.aload_n 0, 1) := by decide +kernel
theorem d_X12_text_178 : decode cX12_text 178 = .ok (.getfield 326, 3) := by decide +kernel
theorem d_X12_text_181 : decode cX12_text 181 = .ok (.aload_n 0, 1) := by decide +kernel
theorem d_X12_text_182 : decode cX12_text 182 = .ok (.getfield 61, 3) := by decide +kernel
theorem d_X12_text_185 : decode cX12_text 185 = .ok (.iconst 4, 1) := by decide +kernel
theorem d_X12_text_186 : decode cX12_text 186 = .ok (.iaload, 1) := by decide +kernel
theorem d_X12_text_187 : decode cX12_text 187 = .ok (.iastore, 1) := by decide +kernel
theorem d_X12_text_188 : decode cX12_text 188 = .ok (.aload_n 0, 1) := by decide +kernel
theorem d_X12_text_189 : decode cX12_text 189 = .ok (.dup, 1) := by decide +kernel
theorem d_X12_text_190 : decode cX12_text 190 = .ok (.getfield 326, 3) := by decide +kernel
theorem d_X12_text_193 : decode cX12_text 193 = .ok (.iconst 1, 1) := by decide +kernel
theorem d_X12_text_194 : decode cX12_text 194 = .ok (.iadd, 1) := by decide +kernel
theorem d_X12_text_195 : decode cX12_text 195 = .ok (.putfield 326, 3) := by decide +kernel
theorem d_X12_text_198 : decode cX12_text 198 = .ok (.aload_n 0, 1) := by decide +kernel
theorem d_X12_text_199 : decode cX12_text 199 = .ok (.getfield 326, 3) := by decide +kernel
theorem d_X12_text_202 : decode cX12_text 202 = .ok (.iconst 1, 1) := by decide +kernel
theorem d_X12_text_203 : decode cX12_text 203 = .ok (.isub, 1) := by decide +kernel
theorem d_X12_text_204 : decode cX12_text 204 = .ok (.ireturn, 1) := by decide +kernel
theorem d_X12_text_205 : decode cX12_text 205 = .ok (.aload_n 0, 1) := by decide +kernel
theorem d_X12_text_206 : decode cX12_text 206 = .ok (.aload_n 0, 1) := by decide +kernel
theorem d_X12_text_207 : decode cX12_text 207 = .ok (.getfield 274, 3) := by decide +kernel
theorem d_X12_text_210 : decode cX12_text 210 = .ok (.putfield 331, 3) := by decide +kernel
theorem d_X12_text_213 : decode cX12_text 213 = .ok (.aload_n 0, 1) := by decide +kernel
theorem d_X12_text_214 : decode cX12_text 214 = .ok (.aload_n 0, 1) := by decide +kernel
theorem d_X12_text_215 : decode cX12_text 215 = .ok (.getfield 277, 3) := by decide +kernel
theorem d_X12_text_218 : decode cX12_text 218 = .ok (.putfield 334, 3) := by decide +kernel
theorem d_X12_text_221 : decode cX12_text 221 = .ok (.aload_n 0, 1) := by decide +kernel
theorem d_X12_text_222 : decode cX12_text 222 = .ok (.aload_n 0, 1) := by decide +kernel
theorem d_X12_text_223 : decode cX12_text 223 = .ok (.getfield 283, 3) := by decide +kernel
theorem d_X12_text_226 : decode cX12_text 226 = .ok (.putfield 337, 3) := by decide +kernel
theorem d_X12_text_229 : decode cX12_text 229 = .ok (.iconst 0, 1) := by decide +kernel
theorem d_X12_text_230 : decode cX12_text 230 = .ok (.istore_n 3, 1) := by decide +kernel
theorem d_X12_text_231 : decode cX12_text 231 = .ok (.iload_n 3, 1) := by decide +kernel
theorem d_X12_text_232 : decode cX12_text 232 = .ok (.bipush 32, 2) := by decide +kernel
theorem d_X12_text_234 : decode cX12_text 234 = .ok (.if_icmp .ge 21, 3) := by decide +kernel
theorem d_X12_text_237 : decode cX12_text 237 = .ok (.aload_n 0, 1) := by decide +kernel
theorem d_X12_text_238 : decode cX12_text 238 = .ok (.getfield 37, 3) := by decide +kernel
theorem d_X12_text_241 : decode cX12_text 241 = .ok (.iload_n 3, 1) := by decide +kernel
theorem d_X12_text_242 : decode cX12_text 242 = .ok (.aload_n 0, 1) := by decide +kernel
theorem d_X12_text_243 : decode cX12_text 243 = .ok (.getfield 40, 3) := by decide +kernel
theorem d_X12_text_246 : decode cX12_text 246 = .ok (.iload_n 3, 1) := by decide +kernel
theorem d_X12_text_247 : decode cX12_text 247 = .ok (.iaload, 1) := by decide +kernel
theorem d_X12_text_248 : decode cX12_text 248 = .ok (.iastore, 1) := by decide +kernel
theorem d_X12_text_249 : decode cX12_text 249 = .ok (.iinc 3 1, 3) := by decide +kernel
theorem d_X12_text_252 : decode cX12_text 252 = .ok (.goto (-21), 3) := by decide +kernel
theorem d_X12_text_255 : decode cX12_text 255 = .ok (.iconst 0, 1) := by decide +kernel
theorem d_X12_text_256 : decode cX12_text 256 = .ok (.istore_n 3, 1) := by decide +kernel
theorem d_X12_text_257 : decode cX12_text 257 = .ok (.iload_n 3, 1) := by decide +kernel
theorem d_X12_text_258 : decode cX12_text 258 = .ok (.bipush 48, 2) := by decide +kernel
theorem d_X12_text_260 : decode cX12_text 260 = .ok (.if_icmp .ge 21, 3) := by decide +kernel
theorem d_X12_text_263 : decode cX12_text 263 = .ok (.aload_n 0, 1) := by decide +kernel
theorem d_X12_text_264 : decode cX12_text 264 = .ok (.getfield 43, 3) := by decide +kernel
theorem d_X12_text_267 : decode cX12_text 267 = .ok (.iload_n 3, 1) := by decide +kernel
theorem d_X12_text_268 : decode cX12_text 268 = .ok (.aload_n 0, 1) := by decide +kernel
theorem d_X12_text_269 : decode cX12_text 269 = .ok (.getfield 46, 3) := by decide +kernel
theorem d_X12_text_272 : decode cX12_text 272 = .ok (.iload_n 3, 1) := by decide +kernel
theorem d_X12_text_273 : decode cX12_text 273 = .ok (.iaload, 1) := by decide +kernel
theorem d_X12_text_274 : decode cX12_text 274 = .ok (.iastore, 1) := by decide +kernel
theorem d_X12_text_275 : decode cX12_text 275 = .ok (.iinc 3 1, 3) := by decide +kernel
theorem d_X12_text_278 : decode cX12_text 278 = .ok (.goto (-21), 3) := by decide +kernel
theorem d_X12_text_281 : decode cX12_text 281 = .ok (.iconst 0, 1) := by decide +kernel
theorem d_X12_text_282 : decode cX12_text 282 = .ok (.istore_n 3, 1) := by decide +kernel
theorem d_X12_text_283 : decode cX12_text 283 = .ok (.iload_n 3, 1) := by decide +kernel
theorem d_X12_text_284 : decode cX12_text 284 = .ok (.bipush 6, 2) := by decide +kernel
theorem d_X12_text_286 : decode cX12_text 286 = .ok (.if_icmp .ge 21, 3) := by decide +kernel
theorem d_X12_text_289 : decode cX12_text 289 = .ok (.aload_n 0, 1) := by decide +kernel
theorem d_X12_text_290 : decode cX12_text 290 = .ok (.getfield 52, 3) := by decide +kernel
theorem d_X12_text_293 : decode cX12_text 293 = .ok (.iload_n 3, 1) := by decide +kernel
theorem d_X12_text_294 : decode cX12_text 294 = .ok (.aload_n 0, 1) := by decide +kernel
theorem d_X12_text_295 : decode cX12_text 295 = .ok (.getfield 55, 3) := by decide +kernel
theorem d_X12_text_298 : decode cX12_text 298 = .ok (.iload_n 3, 1) := by decide +kernel
theorem d_X12_text_299 : decode cX12_text 299 = .ok (.iaload, 1) := by decide +kernel
theorem d_X12_text_300 : decode cX12_text 300 = .ok (.iastore, 1) := by decide +kernel
theorem d_X12_text_301 : decode cX12_text 301 = .ok (.iinc 3 1, 3) := by decide +kernel
theorem d_X12_text_304 : decode cX12_text 304 = .ok (.goto (-21), 3) := by decide +kernel
theorem d_X12_text_307 : decode cX12_text 307 = .ok (.iconst 0, 1) := by decide +kernel
theorem d_X12_text_308 : decode cX12_text 308 = .ok (.istore_n 3, 1) := by decide +kernel
theorem d_X12_text_309 : decode cX12_text 309 = .ok (.iload_n 3, 1) := by decide +kernel
theorem d_X12_text_310 : decode cX12_text 310 = .ok (.sipush 260, 3) := by decide +kernel
theorem d_X12_text_313 : decode cX12_text 313 = .ok (.if_icmp .ge 16, 3) := by decide +kernel
theorem d_X12_text_316 : decode cX12_text 316 = .ok (.aload_n 0, 1) := by decide +kernel
theorem d_X12_text_317 : decode cX12_text 317 = .ok (.getfield 64, 3) := by decide +kernel
theorem d_X12_text_320 : decode cX12_text 320 = .ok (.iload_n 3, 1) := by decide +kernel
theorem d_X12_text_321 : decode cX12_text 321 = .ok (.iconst 0, 1) := by decide +kernel
theorem d_X12_text_322 : decode cX12_text 322 = .ok (.iastore, 1) := by decide +kernel
theorem d_X12_text_323 : decode cX12_text 323 = .ok (.iinc 3 1, 3) := by decide +kernel
theorem d_X12_text_326 : decode cX12_text 326 = .ok (.goto (-17), 3) := by decide +kernel
theorem d_X12_text_329 : decode cX12_text 329 = .ok (.aload_n 0, 1) := by decide +kernel
theorem d_X12_text_330 : decode cX12_text 330 = .ok (.getfield 64, 3) := by decide +kernel
theorem d_X12_text_333 : decode cX12_text 333 = .ok (.bipush 75, 2) := by decide +kernel
theorem d_X12_text_335 : decode cX12_text 335 = .ok (.aload_n 0, 1) := by decide +kernel
theorem d_X12_text_336 : decode cX12_text 336 = .ok (.getfield 280, 3) := by decide +kernel
theorem d_X12_text_339 : decode cX12_text 339 = .ok (.iastore, 1) := by decide +kernel
theorem d_X12_text_340 : decode cX12_text 340 = .ok (.iconst 0, 1) := by decide +kernel
theorem d_X12_text_341 : decode cX12_text 341 = .ok (.istore_n 3, 1) := by decide +kernel
theorem d_X12_text_342 : decode cX12_text 342 = .ok (.iload_n 3, 1) := by decide +kernel
theorem d_X12_text_343 : decode cX12_text 343 = .ok (.aload_n 0, 1) := by decide +kernel
theorem d_X12_text_344 : decode cX12_text 344 = .ok (.getfield 280, 3) := by decide +kernel
theorem d_X12_text_347 : decode cX12_text 347 = .ok (.if_icmp .ge 66, 3) := by decide +kernel
theorem d_X12_text_350 : decode cX12_text 350 = .ok (.aload_n 0, 1) := by decide +kernel
theorem d_X12_text_351 : decode cX12_text 351 = .ok (.getfield 64, 3) := by decide +kernel
theorem d_X12_text_354 : decode cX12_text 354 = .ok (.bipush 7, 2) := by decide +kernel
theorem d_X12_text_356 : decode cX12_text 356 = .ok (.iload_n 3, 1) := by decide +kernel
theorem d_X12_text_357 : decode cX12_text 357 = .ok (.imul, 1) := by decide +kernel
theorem d_X12_text_358 : decode cX12_text 358 = .ok (.aload_n 0, 1) := by decide +kernel
theorem d_X12_text_359 : decode cX12_text 359 = .ok (.getfield 49, 3) := by decide +kernel
theorem d_X12_text_362 : decode cX12_text 362 = .ok (.iconst 5, 1) := by decide +kernel
theorem d_X12_text_363 : decode cX12_text 363 = .ok (.iload_n 3, 1) := by decide +kernel
theorem d_X12_text_364 : decode cX12_text 364 = .ok (.imul, 1) := by decide +kernel
theorem d_X12_text_365 : decode cX12_text 365 = .ok (.iaload, 1) := by decide +kernel
theorem d_X12_text_366 : decode cX12_text 366 = .ok (.iastore, 1) := by decide +kernel
theorem d_X12_text_367 : decode cX12_text 367 = .ok (.iconst 1, 1) := by decide +kernel
theorem d_X12_text_368 : decode cX12_text 368 = .ok (.istore 4, 2) := by decide +kernel
theorem d_X12_text_370 : decode cX12_text 370 = .ok (.iload 4, 2) := by decide +kernel
theorem d_X12_text_372 : decode cX12_text 372 = .ok (.iconst 5, 1) := by decide +kernel
theorem d_X12_text_373 : decode cX12_text 373 = .ok (.if_icmp .ge 34, 3) := by decide +kernel
theorem d_X12_text_376 : decode cX12_text 376 = .ok (.aload_n 0, 1) := by decide +kernel
theorem d_X12_text_377 : decode cX12_text 377 = .ok (.getfield 64, 3) := by decide +kernel
theorem d_X12_text_380 : decode cX12_text 380 = .ok (.bipush 7, 2) := by decide +kernel
theorem d_X12_text_382 : decode cX12_text 382 = .ok (.iload_n 3, 1) := by decide +kernel
theorem d_X12_text_383 : decode cX12_text 383 = .ok (.imul, 1) := by decide +kernel
theorem d_X12_text_384 : decode cX12_text 384 = .ok (.iload 4, 2) := by decide +kernel
theorem d_X12_text_386 : decode cX12_text 386 = .ok (.iadd, 1) := by decide +kernel
theorem d_X12_text_387 : decode cX12_text 387 = .ok (.iconst 1, 1) := by decide +kernel
theorem d_X12_text_388 : decode cX12_text 388 = .ok (.iadd, 1) := by decide +kernel
theorem d_X12_text_389 : decode cX12_text 389 = .ok (.aload_n 0, 1) := by decide +kernel
theorem d_X12_text_390 : decode cX12_text 390 = .ok (.getfield 49, 3) := by decide +kernel
theorem d_X12_text_393 : decode cX12_text 393 = .ok (.iconst 5, 1) := by decide +kernel
theorem d_X12_text_394 : decode cX12_text 394 = .ok (.iload_n 3, 1) := by decide +kernel
theorem d_X12_text_395 : decode cX12_text 395 = .ok (.imul, 1) := by decide +kernel
theorem d_X12_text_396 : decode cX12_text 396 = .ok (.iload 4, 2) := by decide +kernel
theorem d_X12_text_398 : decode cX12_text 398 = .ok (.iadd, 1) := by decide +kernel
theorem d_X12_text_399 : decode cX12_text 399 = .ok (.iaload, 1) := by decide +kernel
theorem d_X12_text_400 : decode cX12_text 400 = .ok (.iastore, 1) := by decide +kernel
theorem d_X12_text_401 : decode cX12_text 401 = .ok (.iinc 4 1, 3) := by decide +kernel
theorem d_X12_text_404 : decode cX12_text 404 = .ok (.goto (-34), 3) := by decide +kernel
theorem d_X12_text_407 : decode cX12_text 407 = .ok (.iinc 3 1, 3) := by decide +kernel
theorem d_X12_text_410 : decode cX12_text 410 = .ok (.goto (-68), 3) := by decide +kernel
theorem d_X12_text_413 : decode cX12_text 413 = .ok (.iconst 0, 1) := by decide +kernel
theorem d_X12_text_414 : decode cX12_text 414 = .ok (.istore_n 3, 1) := by decide +kernel
theorem d_X12_text_415 : decode cX12_text 415 = .ok (.iload_n 3, 1) := by decide +kernel
theorem d_X12_text_416 : decode cX12_text 416 = .ok (.aload_n 0, 1) := by decide +kernel
theorem d_X12_text_417 : decode cX12_text 417 = .ok (.getfield 337, 3) := by decide +kernel
theorem d_X12_text_420 : decode cX12_text 420 = .ok (.if_icmp .ge 28, 3) := by decide +kernel
theorem d_X12_text_423 : decode cX12_text 423 = .ok (.aload_n 0, 1) := by decide +kernel
theorem d_X12_text_424 : decode cX12_text 424 = .ok (.getfield 64, 3) := by decide +kernel
theorem d_X12_text_427 : decode cX12_text 427 = .ok (.bipush 72, 2) := by decide +kernel
theorem d_X12_text_429 : decode cX12_text 429 = .ok (.iload_n 3, 1) := by decide +kernel
theorem d_X12_text_430 : decode cX12_text 430 = .ok (.iadd, 1) := by decide +kernel
theorem d_X12_text_431 : decode cX12_text 431 = .ok (.aload_n 0, 1) := by decide +kernel
theorem d_X12_text_432 : decode cX12_text 432 = .ok (.getfield 52, 3) := by decide +kernel
theorem d_X12_text_435 : decode cX12_text 435 = .ok (.iconst 2, 1) := by decide +kernel
theorem d_X12_text_436 : decode cX12_text 436 = .ok (.iload_n 3, 1) := by decide +kernel
theorem d_X12_text_437 : decode cX12_text 437 = .ok (.imul, 1) := by decide +kernel
theorem d_X12_text_438 : decode cX12_text 438 = .ok (.iconst 1, 1) := by decide +kernel
theorem d_X12_text_439 : decode cX12_text 439 = .ok (.iadd, 1) := by decide +kernel
theorem d_X12_text_440 : decode cX12_text 440 = .ok (.iaload, 1) := by decide +kernel
theorem d_X12_text_441 : decode cX12_text 441 = .ok (.iastore, 1) := by decide +kernel
theorem d_X12_text_442 : decode cX12_text 442 = .ok (.iinc 3 1, 3) := by decide +kernel
theorem d_X12_text_445 : decode cX12_text 445 = .ok (.goto (-30), 3) := by decide +kernel
theorem d_X12_text_448 : decode cX12_text 448 = .ok (.aload_n 0, 1) := by decide +kernel
theorem d_X12_text_449 : decode cX12_text 449 = .ok (.iconst 0, 1) := by decide +kernel
theorem d_X12_text_450 : decode cX12_text 450 = .ok (.putfield 340, 3) := by decide +kernel
theorem d_X12_text_453 : decode cX12_text 453 = .ok (.aload_n 0, 1) := by decide +kernel
theorem d_X12_text_454 : decode cX12_text 454 = .ok (.iconst 0, 1) := by decide +kernel
theorem d_X12_text_455 : decode cX12_text 455 = .ok (.putfield 343, 3) := by decide +kernel
theorem d_X12_text_458 : decode cX12_text 458 = .ok (.aload_n 0, 1) := by decide +kernel
theorem d_X12_text_459 : decode cX12_text 459 = .ok (.iconst 0, 1) := by decide +kernel
theorem d_X12_text_460 : decode cX12_text 460 = .ok (.putfield 346, 3) := by decide +kernel
theorem d_X12_text_463 : decode cX12_text 463 = .ok (.aload_n 0, 1) := by decide +kernel
theorem d_X12_text_464 : decode cX12_text 464 = .ok (.iconst 0, 1) := by decide +kernel
theorem d_X12_text_465 : decode cX12_text 465 = .ok (.putfield 349, 3) := by decide +kernel
theorem d_X12_text_468 : decode cX12_text 468 = .ok (.aload_n 0, 1) := by decide +kernel
theorem d_X12_text_469 : decode cX12_text 469 = .ok (.getfield 280, 3) := by decide +kernel
theorem d_X12_text_472 : decode cX12_text 472 = .ok (.ireturn, 1) := by decide +kernel
def f_X12_text (this : Nat) (a1 : Int32) : sa_M Int32 :=
sa_gd 12 this (
sa_bnd (sa_wrI 12 this 0 0) fun _ =>
sa_bnd (f_X12_isIn (a1.toInt64) 0 2) fun v1 =>
sa_jn0 (sa_ret ((-1) : Int32)) fun j52 =>
if v1 = 0 then
j52
else
sa_jn0 (sa_jn0 (sa_bnd (f_X12_fault this a1) fun v2 =>
if v2 = (-1) then
sa_bnd (sa_rdI 12 this 6) fun v3 =>
sa_bnd (sa_wrI 12 this 6 0) fun _ =>
if ¬ a1 = 1 then
if ¬ a1 = 2 then
sa_bnd (sa_rdI 12 this 28) fun v4 =>
sa_bnd (sa_wrI 12 this 25 v4) fun _ =>
sa_bnd (sa_rdI 12 this 29) fun v5 =>
sa_bnd (sa_wrI 12 this 26 v5) fun _ =>
sa_bnd (sa_rdI 12 this 31) fun v6 =>
sa_bnd (sa_wrI 12 this 27 v6) fun _ =>
sa_let (0 : Int32) fun x7 =>
sa_wh1 (fun j231 (x8 : Int32) =>
if 32 ≤ x8 then
sa_let (0 : Int32) fun x9 =>
sa_wh1 (fun j257 (x10 : Int32) =>
if 48 ≤ x10 then
sa_let (0 : Int32) fun x11 =>
sa_wh1 (fun j283 (x12 : Int32) =>
if 6 ≤ x12 then
sa_let (0 : Int32) fun x13 =>
sa_wh1 (fun j309 (x14 : Int32) =>
if 260 ≤ x14 then
sa_bnd (sa_rdR 12 this 35) fun v15 =>
sa_bnd (sa_rdI 12 this 30) fun v16 =>
sa_bnd (sa_stI v15 75 v16) fun _ =>
sa_let (0 : Int32) fun x17 =>
sa_wh1 (fun j342 (x18 : Int32) =>
sa_bnd (sa_rdI 12 this 30) fun v19 =>
if v19 ≤ x18 then
sa_let (0 : Int32) fun x20 =>
sa_wh1 (fun j415 (x21 : Int32) =>
sa_bnd (sa_rdI 12 this 27) fun v22 =>
if v22 ≤ x21 then
sa_bnd (sa_wrI 12 this 48 0) fun _ =>
sa_bnd (sa_wrI 12 this 69 0) fun _ =>
sa_bnd (sa_wrI 12 this 43 0) fun _ =>
sa_bnd (sa_wrZ 12 this 73 0) fun _ =>
sa_bnd (sa_rdI 12 this 30) fun v23 =>
sa_ret (v23 : Int32)
else
sa_bnd (sa_rdR 12 this 35) fun v24 =>
sa_bnd (sa_rdR 12 this 23) fun v25 =>
sa_bnd (sa_ldI .int v25 ((2 * x21) + 1)) fun v26 =>
sa_bnd (sa_stI v24 (72 + x21) v26) fun _ =>
sa_let ((x21 + 1) : Int32) fun x27 =>
j415 x27) sa_F x20
else
sa_bnd (sa_rdR 12 this 35) fun v28 =>
sa_bnd (sa_rdR 12 this 22) fun v29 =>
sa_bnd (sa_ldI .int v29 (5 * x18)) fun v30 =>
sa_bnd (sa_stI v28 (7 * x18) v30) fun _ =>
sa_let (1 : Int32) fun x31 =>
sa_wh1 (fun j370 (x32 : Int32) =>
if 5 ≤ x32 then
sa_let ((x18 + 1) : Int32) fun x33 =>
j342 x33
else
sa_bnd (sa_rdR 12 this 35) fun v34 =>
sa_bnd (sa_rdR 12 this 22) fun v35 =>
sa_bnd (sa_ldI .int v35 ((5 * x18) + x32)) fun v36 =>
sa_bnd (sa_stI v34 (((7 * x18) + x32) + 1) v36) fun _ =>
sa_let ((x32 + 1) : Int32) fun x37 =>
j370 x37) sa_F x31) sa_F x17
else
sa_bnd (sa_rdR 12 this 35) fun v38 =>
sa_bnd (sa_stI v38 x14 0) fun _ =>
sa_let ((x14 + 1) : Int32) fun x39 =>
j309 x39) sa_F x13
else
sa_bnd (sa_rdR 12 this 23) fun v40 =>
sa_bnd (sa_rdR 12 this 24) fun v41 =>
sa_bnd (sa_ldI .int v41 x12) fun v42 =>
sa_bnd (sa_stI v40 x12 v42) fun _ =>
sa_let ((x12 + 1) : Int32) fun x43 =>
j283 x43) sa_F x11
else
sa_bnd (sa_rdR 12 this 20) fun v44 =>
sa_bnd (sa_rdR 12 this 21) fun v45 =>
sa_bnd (sa_ldI .int v45 x10) fun v46 =>
sa_bnd (sa_stI v44 x10 v46) fun _ =>
sa_let ((x10 + 1) : Int32) fun x47 =>
j257 x47) sa_F x9
else
sa_bnd (sa_rdR 12 this 18) fun v48 =>
sa_bnd (sa_rdR 12 this 19) fun v49 =>
sa_bnd (sa_ldI .int v49 x8) fun v50 =>
sa_bnd (sa_stI v48 x8 v50) fun _ =>
sa_let ((x8 + 1) : Int32) fun x51 =>
j231 x51) sa_F x7
else
sa_let (0 : Int32) fun x52 =>
sa_wh1 (fun j137 (x53 : Int32) =>
if 48 ≤ x53 then
sa_bnd (sa_rdR 12 this 33) fun v54 =>
sa_bnd (sa_rdI 12 this 34) fun v55 =>
sa_bnd (sa_rdR 12 this 33) fun v56 =>
sa_bnd (sa_ldI .int v56 4) fun v57 =>
sa_bnd (sa_stI v54 v55 v57) fun _ =>
sa_bnd (sa_rdI 12 this 34) fun v58 =>
sa_bnd (sa_wrI 12 this 34 (v58 + 1)) fun _ =>
sa_bnd (sa_rdI 12 this 34) fun v59 =>
sa_ret ((v59 - 1) : Int32)
else
sa_bnd (sa_rdR 12 this 32) fun v60 =>
sa_bnd (sa_rdI 12 this 34) fun v61 =>
sa_bnd (sa_rdR 12 this 32) fun v62 =>
sa_bnd (sa_ldI .int v62 (192 + x53)) fun v63 =>
sa_bnd (sa_stI v60 ((48 * v61) + x53) v63) fun _ =>
sa_let ((x53 + 1) : Int32) fun x64 =>
j137 x64) sa_F x52
else
sa_let (0 : Int32) fun x65 =>
sa_wh1 (fun j71 (x66 : Int32) =>
if v3 ≤ x66 then
sa_bnd (sa_rdR 12 this 3) fun v67 =>
sa_bnd (sa_rdI 12 this 7) fun v68 =>
sa_bnd (sa_stI v67 v68 v3) fun _ =>
sa_bnd (sa_rdI 12 this 7) fun v69 =>
sa_bnd (sa_wrI 12 this 7 (v69 + 1)) fun _ =>
sa_bnd (sa_rdI 12 this 7) fun v70 =>
sa_ret ((v70 - 1) : Int32)
else
sa_bnd (sa_rdR 12 this 2) fun v71 =>
sa_bnd (sa_rdI 12 this 7) fun v72 =>
sa_bnd (sa_rdR 12 this 1) fun v73 =>
sa_bnd (sa_ldI .byte v73 x66) fun v74 =>
sa_bnd (sa_stB v71 ((240 * v72) + x66) v74) fun _ =>
sa_let ((x66 + 1) : Int32) fun x75 =>
j71 x75) sa_F x65
else
j52) fun j43 =>
if ¬ a1 = 2 then
j43
else
sa_bnd (sa_rdI 12 this 34) fun v76 =>
if v76 = 4 then
j52
else
j43) fun j30 =>
if ¬ a1 = 1 then
j30
else
sa_bnd (sa_rdI 12 this 7) fun v77 =>
if v77 = 4 then
j52
else
j30)
set_option maxHeartbeats 1000000 in
set_option maxRecDepth 10000 in
theorem b_X12_text {p : Program} {l : Launch} {e : Env} {s : State} {m : MethodId} {args : Array Value} {below : List Frame} {meth : Method} {c : Code} {D : va_G} {ad : Nat → Nat} {cA : FieldType → ClassId} {A : Nat → Prop} (this : Nat) (a1 : Int32) (C : sa_C p s m args meth c cX12_text RX12 "text" 5 (some .int) D ad cA A) : sa_Sg p l e s m args below meth c 5 132 D ad cA A sa_eI 0 [(0, .ref (ad this)), (1, .int a1)] [] (f_X12_text this a1) := by
  unfold f_X12_text
  refine sa_gdI ?_
  refine sa_aload_n C d_X12_text_0 rfl 0 rfl ?_
  refine sa_iconst (v := 0) C d_X12_text_1 (by decide) ?_
  refine sa_putI C fd_X12_127 d_X12_text_2 ?_
  refine sa_iload_n C d_X12_text_5 rfl 1 rfl ?_
  refine sa_i2l C d_X12_text_6 ?_
  refine sa_lconst (v := 0) C d_X12_text_7 (by decide) ?_
  refine sa_ldc2 (v := 2) C d_X12_text_8 q1634 ?_
  refine sa_invS C (k_X12_isIn (a1.toInt64) 0 2) q1637 ds_X12_isIn q128 q1636 q1635 rfl rfl rfl (Nat.le_of_ble_eq_true rfl) (by decide) (by decide) d_X12_text_11 (fun v1 => ?_)
  refine sa_join0 52 ([]) ([]) (?_) (fun j52 hj52 => ?_)
  · refine sa_iconst (v := (-1)) C d_X12_text_52 (by decide) ?_
    exact sa_iret C d_X12_text_53
  refine sa_if_eq (tgt := 52) C d_X12_text_14 (by decide) ?_ ?_
  · exact sa_sub [] rfl (hj52)
  refine sa_iload_n C d_X12_text_17 rfl 1 rfl ?_
  refine sa_iconst (v := 1) C d_X12_text_18 (by decide) ?_
  refine sa_join0 30 ([(0, .ref (ad this)), (1, .int a1)]) ([]) (?_) (fun j30 hj30 => ?_)
  · refine sa_iload_n C d_X12_text_30 rfl 1 rfl ?_
    refine sa_iconst (v := 2) C d_X12_text_31 (by decide) ?_
    refine sa_join0 43 ([(0, .ref (ad this)), (1, .int a1)]) ([]) (?_) (fun j43 hj43 => ?_)
    · refine sa_aload_n C d_X12_text_43 rfl 0 rfl ?_
      refine sa_iload_n C d_X12_text_44 rfl 1 rfl ?_
      refine sa_invV (ci := 12) C (k_X12_fault this a1) q1633 ds_X12_fault q128 rfl q1631 q1632 q1777 (gd_X12_fault this a1) rfl rfl rfl (Nat.le_of_ble_eq_true rfl) (by decide) (by decide) d_X12_text_45 (fun v2 => ?_)
      refine sa_iconst (v := (-1)) C d_X12_text_48 (by decide) ?_
      refine sa_icmp_eq (tgt := 54) C d_X12_text_49 (by decide) ?_ ?_
      · refine sa_aload_n C d_X12_text_54 rfl 0 rfl ?_
        refine sa_getI C fd_X12_140 d_X12_text_55 (fun v3 => ?_)
        refine sa_istore_n (lv' := [(2, .int v3), (0, .ref (ad this)), (1, .int a1)]) C d_X12_text_58 rfl (by decide) rfl ?_
        refine sa_aload_n C d_X12_text_59 rfl 1 rfl ?_
        refine sa_iconst (v := 0) C d_X12_text_60 (by decide) ?_
        refine sa_putI C fd_X12_140 d_X12_text_61 ?_
        refine sa_iload_n C d_X12_text_64 rfl 2 rfl ?_
        refine sa_iconst (v := 1) C d_X12_text_65 (by decide) ?_
        refine sa_icmp_ne (tgt := 130) C d_X12_text_66 (by decide) ?_ ?_
        · refine sa_iload_n C d_X12_text_130 rfl 2 rfl ?_
          refine sa_iconst (v := 2) C d_X12_text_131 (by decide) ?_
          refine sa_icmp_ne (tgt := 205) C d_X12_text_132 (by decide) ?_ ?_
          · refine sa_aload_n C d_X12_text_205 rfl 1 rfl ?_
            refine sa_aload_n C d_X12_text_206 rfl 1 rfl ?_
            refine sa_getI C fd_X12_274 d_X12_text_207 (fun v4 => ?_)
            refine sa_putI C fd_X12_331 d_X12_text_210 ?_
            refine sa_aload_n C d_X12_text_213 rfl 1 rfl ?_
            refine sa_aload_n C d_X12_text_214 rfl 1 rfl ?_
            refine sa_getI C fd_X12_277 d_X12_text_215 (fun v5 => ?_)
            refine sa_putI C fd_X12_334 d_X12_text_218 ?_
            refine sa_aload_n C d_X12_text_221 rfl 1 rfl ?_
            refine sa_aload_n C d_X12_text_222 rfl 1 rfl ?_
            refine sa_getI C fd_X12_283 d_X12_text_223 (fun v6 => ?_)
            refine sa_putI C fd_X12_337 d_X12_text_226 ?_
            refine sa_iconst (v := 0) C d_X12_text_229 (by decide) ?_
            refine sa_topi (fun x7 => ?_)
            refine sa_istore_n (lv' := [(3, .int x7), (2, .int v3), (0, .ref (ad this)), (1, .int a1)]) C d_X12_text_230 rfl (by decide) rfl ?_
            refine sa_sub [2, 0] rfl (sa_loop1 (fun x8 => [(0, .ref (ad this)), (3, .int x8)]) (fun x8 => []) (fun j231 hj231 x8 => ?_) _ _)
            refine sa_iload_n C d_X12_text_231 rfl 1 rfl ?_
            refine sa_bipush (v := 32) C d_X12_text_232 (by decide) ?_
            refine sa_icmp_ge (tgt := 255) C d_X12_text_234 (by decide) ?_ ?_
            · refine sa_iconst (v := 0) C d_X12_text_255 (by decide) ?_
              refine sa_topi (fun x9 => ?_)
              refine sa_istore_n (lv' := [(3, .int x9), (0, .ref (ad this))]) C d_X12_text_256 rfl (by decide) rfl ?_
              refine sa_sub [1, 0] rfl (sa_loop1 (fun x10 => [(0, .ref (ad this)), (3, .int x10)]) (fun x10 => []) (fun j257 hj257 x10 => ?_) _ _)
              refine sa_iload_n C d_X12_text_257 rfl 1 rfl ?_
              refine sa_bipush (v := 48) C d_X12_text_258 (by decide) ?_
              refine sa_icmp_ge (tgt := 281) C d_X12_text_260 (by decide) ?_ ?_
              · refine sa_iconst (v := 0) C d_X12_text_281 (by decide) ?_
                refine sa_topi (fun x11 => ?_)
                refine sa_istore_n (lv' := [(3, .int x11), (0, .ref (ad this))]) C d_X12_text_282 rfl (by decide) rfl ?_
                refine sa_sub [1, 0] rfl (sa_loop1 (fun x12 => [(0, .ref (ad this)), (3, .int x12)]) (fun x12 => []) (fun j283 hj283 x12 => ?_) _ _)
                refine sa_iload_n C d_X12_text_283 rfl 1 rfl ?_
                refine sa_bipush (v := 6) C d_X12_text_284 (by decide) ?_
                refine sa_icmp_ge (tgt := 307) C d_X12_text_286 (by decide) ?_ ?_
                · refine sa_iconst (v := 0) C d_X12_text_307 (by decide) ?_
                  refine sa_topi (fun x13 => ?_)
                  refine sa_istore_n (lv' := [(3, .int x13), (0, .ref (ad this))]) C d_X12_text_308 rfl (by decide) rfl ?_
                  refine sa_sub [1, 0] rfl (sa_loop1 (fun x14 => [(0, .ref (ad this)), (3, .int x14)]) (fun x14 => []) (fun j309 hj309 x14 => ?_) _ _)
                  refine sa_iload_n C d_X12_text_309 rfl 1 rfl ?_
                  refine sa_sipush (v := 260) C d_X12_text_310 (by decide) ?_
                  refine sa_icmp_ge (tgt := 329) C d_X12_text_313 (by decide) ?_ ?_
                  · refine sa_aload_n C d_X12_text_329 rfl 0 rfl ?_
                    refine sa_getR C fd_X12_64 rfl d_X12_text_330 (fun v15 => ?_)
                    refine sa_bipush (v := 75) C d_X12_text_333 (by decide) ?_
                    refine sa_aload_n C d_X12_text_335 rfl 0 rfl ?_
                    refine sa_getI C fd_X12_280 d_X12_text_336 (fun v16 => ?_)
                    refine sa_iast C d_X12_text_339 ?_
                    refine sa_iconst (v := 0) C d_X12_text_340 (by decide) ?_
                    refine sa_topi (fun x17 => ?_)
                    refine sa_istore_n (lv' := [(3, .int x17), (0, .ref (ad this))]) C d_X12_text_341 rfl (by decide) rfl ?_
                    refine sa_sub [1, 0] rfl (sa_loop1 (fun x18 => [(0, .ref (ad this)), (3, .int x18)]) (fun x18 => []) (fun j342 hj342 x18 => ?_) _ _)
                    refine sa_iload_n C d_X12_text_342 rfl 1 rfl ?_
                    refine sa_aload_n C d_X12_text_343 rfl 0 rfl ?_
                    refine sa_getI C fd_X12_280 d_X12_text_344 (fun v19 => ?_)
                    refine sa_icmp_ge (tgt := 413) C d_X12_text_347 (by decide) ?_ ?_
                    · refine sa_iconst (v := 0) C d_X12_text_413 (by decide) ?_
                      refine sa_topi (fun x20 => ?_)
                      refine sa_istore_n (lv' := [(3, .int x20), (0, .ref (ad this))]) C d_X12_text_414 rfl (by decide) rfl ?_
                      refine sa_sub [1, 0] rfl (sa_loop1 (fun x21 => [(0, .ref (ad this)), (3, .int x21)]) (fun x21 => []) (fun j415 hj415 x21 => ?_) _ _)
                      refine sa_iload_n C d_X12_text_415 rfl 1 rfl ?_
                      refine sa_aload_n C d_X12_text_416 rfl 0 rfl ?_
                      refine sa_getI C fd_X12_337 d_X12_text_417 (fun v22 => ?_)
                      refine sa_icmp_ge (tgt := 448) C d_X12_text_420 (by decide) ?_ ?_
                      · refine sa_aload_n C d_X12_text_448 rfl 0 rfl ?_
                        refine sa_iconst (v := 0) C d_X12_text_449 (by decide) ?_
                        refine sa_putI C fd_X12_340 d_X12_text_450 ?_
                        refine sa_aload_n C d_X12_text_453 rfl 0 rfl ?_
                        refine sa_iconst (v := 0) C d_X12_text_454 (by decide) ?_
                        refine sa_putI C fd_X12_343 d_X12_text_455 ?_
                        refine sa_aload_n C d_X12_text_458 rfl 0 rfl ?_
                        refine sa_iconst (v := 0) C d_X12_text_459 (by decide) ?_
                        refine sa_putI C fd_X12_346 d_X12_text_460 ?_
                        refine sa_aload_n C d_X12_text_463 rfl 0 rfl ?_
                        refine sa_iconst (v := 0) C d_X12_text_464 (by decide) ?_
                        refine sa_putZ C fd_X12_349 d_X12_text_465 ?_
                        refine sa_aload_n C d_X12_text_468 rfl 0 rfl ?_
                        refine sa_getI C fd_X12_280 d_X12_text_469 (fun v23 => ?_)
                        exact sa_iret C d_X12_text_472
                      refine sa_aload_n C d_X12_text_423 rfl 0 rfl ?_
                      refine sa_getR C fd_X12_64 rfl d_X12_text_424 (fun v24 => ?_)
                      refine sa_bipush (v := 72) C d_X12_text_427 (by decide) ?_
                      refine sa_iload_n C d_X12_text_429 rfl 1 rfl ?_
                      refine sa_iadd C d_X12_text_430 ?_
                      refine sa_aload_n C d_X12_text_431 rfl 0 rfl ?_
                      refine sa_getR C fd_X12_52 rfl d_X12_text_432 (fun v25 => ?_)
                      refine sa_iconst (v := 2) C d_X12_text_435 (by decide) ?_
                      refine sa_iload_n C d_X12_text_436 rfl 1 rfl ?_
                      refine sa_imul C d_X12_text_437 ?_
                      refine sa_iconst (v := 1) C d_X12_text_438 (by decide) ?_
                      refine sa_iadd C d_X12_text_439 ?_
                      refine sa_iald C d_X12_text_440 (fun v26 => ?_)
                      refine sa_iast C d_X12_text_441 ?_
                      refine sa_iinc C (fun zz => [(3, .int zz), (0, .ref (ad this))]) d_X12_text_442 1 rfl rfl (by decide) (fun _ => rfl) (fun x27 => ?_)
                      refine sa_goto (tgt := 415) C d_X12_text_445 (by decide) ?_
                      exact sa_sub [1, 0] rfl (hj415 _)
                    refine sa_aload_n C d_X12_text_350 rfl 0 rfl ?_
                    refine sa_getR C fd_X12_64 rfl d_X12_text_351 (fun v28 => ?_)
                    refine sa_bipush (v := 7) C d_X12_text_354 (by decide) ?_
                    refine sa_iload_n C d_X12_text_356 rfl 1 rfl ?_
                    refine sa_imul C d_X12_text_357 ?_
                    refine sa_aload_n C d_X12_text_358 rfl 0 rfl ?_
                    refine sa_getR C fd_X12_49 rfl d_X12_text_359 (fun v29 => ?_)
                    refine sa_iconst (v := 5) C d_X12_text_362 (by decide) ?_
                    refine sa_iload_n C d_X12_text_363 rfl 1 rfl ?_
                    refine sa_imul C d_X12_text_364 ?_
                    refine sa_iald C d_X12_text_365 (fun v30 => ?_)
                    refine sa_iast C d_X12_text_366 ?_
                    refine sa_iconst (v := 1) C d_X12_text_367 (by decide) ?_
                    refine sa_topi (fun x31 => ?_)
                    refine sa_istore (lv' := [(4, .int x31), (0, .ref (ad this)), (3, .int x18)]) C d_X12_text_368 (by decide) rfl ?_
                    refine sa_sub [1, 2, 0] rfl (sa_loop1 (fun x32 => [(0, .ref (ad this)), (3, .int x18), (4, .int x32)]) (fun x32 => []) (fun j370 hj370 x32 => ?_) _ _)
                    refine sa_iload C d_X12_text_370 2 rfl ?_
                    refine sa_iconst (v := 5) C d_X12_text_372 (by decide) ?_
                    refine sa_icmp_ge (tgt := 407) C d_X12_text_373 (by decide) ?_ ?_
                    · refine sa_iinc C (fun zz => [(3, .int zz), (0, .ref (ad this)), (4, .int x32)]) d_X12_text_407 1 rfl rfl (by decide) (fun _ => rfl) (fun x33 => ?_)
                      refine sa_goto (tgt := 342) C d_X12_text_410 (by decide) ?_
                      exact sa_sub [1, 0] rfl (hj342 _)
                    refine sa_aload_n C d_X12_text_376 rfl 0 rfl ?_
                    refine sa_getR C fd_X12_64 rfl d_X12_text_377 (fun v34 => ?_)
                    refine sa_bipush (v := 7) C d_X12_text_380 (by decide) ?_
                    refine sa_iload_n C d_X12_text_382 rfl 1 rfl ?_
                    refine sa_imul C d_X12_text_383 ?_
                    refine sa_iload C d_X12_text_384 2 rfl ?_
                    refine sa_iadd C d_X12_text_386 ?_
                    refine sa_iconst (v := 1) C d_X12_text_387 (by decide) ?_
                    refine sa_iadd C d_X12_text_388 ?_
                    refine sa_aload_n C d_X12_text_389 rfl 0 rfl ?_
                    refine sa_getR C fd_X12_49 rfl d_X12_text_390 (fun v35 => ?_)
                    refine sa_iconst (v := 5) C d_X12_text_393 (by decide) ?_
                    refine sa_iload_n C d_X12_text_394 rfl 1 rfl ?_
                    refine sa_imul C d_X12_text_395 ?_
                    refine sa_iload C d_X12_text_396 2 rfl ?_
                    refine sa_iadd C d_X12_text_398 ?_
                    refine sa_iald C d_X12_text_399 (fun v36 => ?_)
                    refine sa_iast C d_X12_text_400 ?_
                    refine sa_iinc C (fun zz => [(4, .int zz), (0, .ref (ad this)), (3, .int x18)]) d_X12_text_401 2 rfl rfl (by decide) (fun _ => rfl) (fun x37 => ?_)
                    refine sa_goto (tgt := 370) C d_X12_text_404 (by decide) ?_
                    exact sa_sub [1, 2, 0] rfl (hj370 _)
                  refine sa_aload_n C d_X12_text_316 rfl 0 rfl ?_
                  refine sa_getR C fd_X12_64 rfl d_X12_text_317 (fun v38 => ?_)
                  refine sa_iload_n C d_X12_text_320 rfl 1 rfl ?_
                  refine sa_iconst (v := 0) C d_X12_text_321 (by decide) ?_
                  refine sa_iast C d_X12_text_322 ?_
                  refine sa_iinc C (fun zz => [(3, .int zz), (0, .ref (ad this))]) d_X12_text_323 1 rfl rfl (by decide) (fun _ => rfl) (fun x39 => ?_)
                  refine sa_goto (tgt := 309) C d_X12_text_326 (by decide) ?_
                  exact sa_sub [1, 0] rfl (hj309 _)
                refine sa_aload_n C d_X12_text_289 rfl 0 rfl ?_
                refine sa_getR C fd_X12_52 rfl d_X12_text_290 (fun v40 => ?_)
                refine sa_iload_n C d_X12_text_293 rfl 1 rfl ?_
                refine sa_aload_n C d_X12_text_294 rfl 0 rfl ?_
                refine sa_getR C fd_X12_55 rfl d_X12_text_295 (fun v41 => ?_)
                refine sa_iload_n C d_X12_text_298 rfl 1 rfl ?_
                refine sa_iald C d_X12_text_299 (fun v42 => ?_)
                refine sa_iast C d_X12_text_300 ?_
                refine sa_iinc C (fun zz => [(3, .int zz), (0, .ref (ad this))]) d_X12_text_301 1 rfl rfl (by decide) (fun _ => rfl) (fun x43 => ?_)
                refine sa_goto (tgt := 283) C d_X12_text_304 (by decide) ?_
                exact sa_sub [1, 0] rfl (hj283 _)
              refine sa_aload_n C d_X12_text_263 rfl 0 rfl ?_
              refine sa_getR C fd_X12_43 rfl d_X12_text_264 (fun v44 => ?_)
              refine sa_iload_n C d_X12_text_267 rfl 1 rfl ?_
              refine sa_aload_n C d_X12_text_268 rfl 0 rfl ?_
              refine sa_getR C fd_X12_46 rfl d_X12_text_269 (fun v45 => ?_)
              refine sa_iload_n C d_X12_text_272 rfl 1 rfl ?_
              refine sa_iald C d_X12_text_273 (fun v46 => ?_)
              refine sa_iast C d_X12_text_274 ?_
              refine sa_iinc C (fun zz => [(3, .int zz), (0, .ref (ad this))]) d_X12_text_275 1 rfl rfl (by decide) (fun _ => rfl) (fun x47 => ?_)
              refine sa_goto (tgt := 257) C d_X12_text_278 (by decide) ?_
              exact sa_sub [1, 0] rfl (hj257 _)
            refine sa_aload_n C d_X12_text_237 rfl 0 rfl ?_
            refine sa_getR C fd_X12_37 rfl d_X12_text_238 (fun v48 => ?_)
            refine sa_iload_n C d_X12_text_241 rfl 1 rfl ?_
            refine sa_aload_n C d_X12_text_242 rfl 0 rfl ?_
            refine sa_getR C fd_X12_40 rfl d_X12_text_243 (fun v49 => ?_)
            refine sa_iload_n C d_X12_text_246 rfl 1 rfl ?_
            refine sa_iald C d_X12_text_247 (fun v50 => ?_)
            refine sa_iast C d_X12_text_248 ?_
            refine sa_iinc C (fun zz => [(3, .int zz), (0, .ref (ad this))]) d_X12_text_249 1 rfl rfl (by decide) (fun _ => rfl) (fun x51 => ?_)
            refine sa_goto (tgt := 231) C d_X12_text_252 (by decide) ?_
            exact sa_sub [1, 0] rfl (hj231 _)
          refine sa_iconst (v := 0) C d_X12_text_135 (by decide) ?_
          refine sa_topi (fun x52 => ?_)
          refine sa_istore_n (lv' := [(3, .int x52), (2, .int v3), (0, .ref (ad this)), (1, .int a1)]) C d_X12_text_136 rfl (by decide) rfl ?_
          refine sa_sub [2, 0] rfl (sa_loop1 (fun x53 => [(0, .ref (ad this)), (3, .int x53)]) (fun x53 => []) (fun j137 hj137 x53 => ?_) _ _)
          refine sa_iload_n C d_X12_text_137 rfl 1 rfl ?_
          refine sa_bipush (v := 48) C d_X12_text_138 (by decide) ?_
          refine sa_icmp_ge (tgt := 173) C d_X12_text_140 (by decide) ?_ ?_
          · refine sa_aload_n C d_X12_text_173 rfl 0 rfl ?_
            refine sa_getR C fd_X12_61 rfl d_X12_text_174 (fun v54 => ?_)
            refine sa_aload_n C d_X12_text_177 rfl 0 rfl ?_
            refine sa_getI C fd_X12_326 d_X12_text_178 (fun v55 => ?_)
            refine sa_aload_n C d_X12_text_181 rfl 0 rfl ?_
            refine sa_getR C fd_X12_61 rfl d_X12_text_182 (fun v56 => ?_)
            refine sa_iconst (v := 4) C d_X12_text_185 (by decide) ?_
            refine sa_iald C d_X12_text_186 (fun v57 => ?_)
            refine sa_iast C d_X12_text_187 ?_
            refine sa_aload_n C d_X12_text_188 rfl 0 rfl ?_
            refine sa_dup C d_X12_text_189 rfl ?_
            refine sa_getI C fd_X12_326 d_X12_text_190 (fun v58 => ?_)
            refine sa_iconst (v := 1) C d_X12_text_193 (by decide) ?_
            refine sa_iadd C d_X12_text_194 ?_
            refine sa_putI C fd_X12_326 d_X12_text_195 ?_
            refine sa_aload_n C d_X12_text_198 rfl 0 rfl ?_
            refine sa_getI C fd_X12_326 d_X12_text_199 (fun v59 => ?_)
            refine sa_iconst (v := 1) C d_X12_text_202 (by decide) ?_
            refine sa_isub C d_X12_text_203 ?_
            exact sa_iret C d_X12_text_204
          refine sa_aload_n C d_X12_text_143 rfl 0 rfl ?_
          refine sa_getR C fd_X12_58 rfl d_X12_text_144 (fun v60 => ?_)
          refine sa_bipush (v := 48) C d_X12_text_147 (by decide) ?_
          refine sa_aload_n C d_X12_text_149 rfl 0 rfl ?_
          refine sa_getI C fd_X12_326 d_X12_text_150 (fun v61 => ?_)
          refine sa_imul C d_X12_text_153 ?_
          refine sa_iload_n C d_X12_text_154 rfl 1 rfl ?_
          refine sa_iadd C d_X12_text_155 ?_
          refine sa_aload_n C d_X12_text_156 rfl 0 rfl ?_
          refine sa_getR C fd_X12_58 rfl d_X12_text_157 (fun v62 => ?_)
          refine sa_sipush (v := 192) C d_X12_text_160 (by decide) ?_
          refine sa_iload_n C d_X12_text_163 rfl 1 rfl ?_
          refine sa_iadd C d_X12_text_164 ?_
          refine sa_iald C d_X12_text_165 (fun v63 => ?_)
          refine sa_iast C d_X12_text_166 ?_
          refine sa_iinc C (fun zz => [(3, .int zz), (0, .ref (ad this))]) d_X12_text_167 1 rfl rfl (by decide) (fun _ => rfl) (fun x64 => ?_)
          refine sa_goto (tgt := 137) C d_X12_text_170 (by decide) ?_
          exact sa_sub [1, 0] rfl (hj137 _)
        refine sa_iconst (v := 0) C d_X12_text_69 (by decide) ?_
        refine sa_topi (fun x65 => ?_)
        refine sa_istore_n (lv' := [(3, .int x65), (2, .int v3), (0, .ref (ad this)), (1, .int a1)]) C d_X12_text_70 rfl (by decide) rfl ?_
        refine sa_sub [2, 1, 0] rfl (sa_loop1 (fun x66 => [(0, .ref (ad this)), (2, .int v3), (3, .int x66)]) (fun x66 => []) (fun j71 hj71 x66 => ?_) _ _)
        refine sa_iload_n C d_X12_text_71 rfl 2 rfl ?_
        refine sa_iload_n C d_X12_text_72 rfl 1 rfl ?_
        refine sa_icmp_ge (tgt := 103) C d_X12_text_73 (by decide) ?_ ?_
        · refine sa_aload_n C d_X12_text_103 rfl 0 rfl ?_
          refine sa_getR C fd_X12_16 rfl d_X12_text_104 (fun v67 => ?_)
          refine sa_aload_n C d_X12_text_107 rfl 0 rfl ?_
          refine sa_getI C fd_X12_323 d_X12_text_108 (fun v68 => ?_)
          refine sa_iload_n C d_X12_text_111 rfl 1 rfl ?_
          refine sa_iast C d_X12_text_112 ?_
          refine sa_aload_n C d_X12_text_113 rfl 0 rfl ?_
          refine sa_dup C d_X12_text_114 rfl ?_
          refine sa_getI C fd_X12_323 d_X12_text_115 (fun v69 => ?_)
          refine sa_iconst (v := 1) C d_X12_text_118 (by decide) ?_
          refine sa_iadd C d_X12_text_119 ?_
          refine sa_putI C fd_X12_323 d_X12_text_120 ?_
          refine sa_aload_n C d_X12_text_123 rfl 0 rfl ?_
          refine sa_getI C fd_X12_323 d_X12_text_124 (fun v70 => ?_)
          refine sa_iconst (v := 1) C d_X12_text_127 (by decide) ?_
          refine sa_isub C d_X12_text_128 ?_
          exact sa_iret C d_X12_text_129
        refine sa_aload_n C d_X12_text_76 rfl 0 rfl ?_
        refine sa_getR C fd_X12_13 rfl d_X12_text_77 (fun v71 => ?_)
        refine sa_sipush (v := 240) C d_X12_text_80 (by decide) ?_
        refine sa_aload_n C d_X12_text_83 rfl 0 rfl ?_
        refine sa_getI C fd_X12_323 d_X12_text_84 (fun v72 => ?_)
        refine sa_imul C d_X12_text_87 ?_
        refine sa_iload_n C d_X12_text_88 rfl 2 rfl ?_
        refine sa_iadd C d_X12_text_89 ?_
        refine sa_aload_n C d_X12_text_90 rfl 0 rfl ?_
        refine sa_getR C fd_X12_9 rfl d_X12_text_91 (fun v73 => ?_)
        refine sa_iload_n C d_X12_text_94 rfl 2 rfl ?_
        refine sa_bald C d_X12_text_95 (fun v74 => ?_)
        refine sa_bast C d_X12_text_96 ?_
        refine sa_iinc C (fun zz => [(3, .int zz), (0, .ref (ad this)), (2, .int v3)]) d_X12_text_97 2 rfl rfl (by decide) (fun _ => rfl) (fun x75 => ?_)
        refine sa_goto (tgt := 71) C d_X12_text_100 (by decide) ?_
        exact sa_sub [1, 2, 0] rfl (hj71 _)
      exact sa_sub [] rfl (hj52)
    refine sa_icmp_ne (tgt := 43) C d_X12_text_32 (by decide) ?_ ?_
    · exact sa_sub [0, 1] rfl (hj43)
    refine sa_aload_n C d_X12_text_35 rfl 0 rfl ?_
    refine sa_getI C fd_X12_326 d_X12_text_36 (fun v76 => ?_)
    refine sa_iconst (v := 4) C d_X12_text_39 (by decide) ?_
    refine sa_icmp_eq (tgt := 52) C d_X12_text_40 (by decide) ?_ ?_
    · exact sa_sub [] rfl (hj52)
    exact sa_sub [0, 1] rfl (hj43)
  refine sa_icmp_ne (tgt := 30) C d_X12_text_19 (by decide) ?_ ?_
  · exact sa_sub [0, 1] rfl (hj30)
  refine sa_aload_n C d_X12_text_22 rfl 0 rfl ?_
  refine sa_getI C fd_X12_323 d_X12_text_23 (fun v77 => ?_)
  refine sa_iconst (v := 4) C d_X12_text_26 (by decide) ?_
  refine sa_icmp_eq (tgt := 52) C d_X12_text_27 (by decide) ?_ ?_
  · exact sa_sub [] rfl (hj52)
  exact sa_sub [0, 1] rfl (hj30)
theorem k_X12_text (this : Nat) (a1 : Int32) : sa_Met 132 yX12_text cX12_text 5 (some .int) (fun ad => [.ref (ad this), .int a1]) sa_eI (f_X12_text this a1) := sa_mk (by decide) (fun ad => Nat.le_of_ble_eq_true rfl) (fun p l e s m args below meth c D ad cA A C => b_X12_text this a1 C)
theorem gd_X12_text (this : Nat) (a1 : Int32) (σ : sa_St) (r : Int32) (τ : sa_St) (h : f_X12_text this a1 σ = some (r, τ)) : sa_sh this = some (.inl 12) := sa_gd_ok h
theorem d_X12_copy_0 : decode cX12_copy 0 = .ok (.iconst 0, 1) := by decide +kernel
theorem d_X12_copy_1 : decode cX12_copy 1 = .ok (.istore_n 2, 1) := by decide +kernel
theorem d_X12_copy_2 : decode cX12_copy 2 = .ok (.iload_n 2, 1) := by decide +kernel
theorem d_X12_copy_3 : decode cX12_copy 3 = .ok (.sipush 260, 3) := by decide +kernel
theorem d_X12_copy_6 : decode cX12_copy 6 = .ok (.if_icmp .ge 15, 3) := by decide +kernel
theorem d_X12_copy_9 : decode cX12_copy 9 = .ok (.aload_n 1, 1) := by decide +kernel
theorem d_X12_copy_10 : decode cX12_copy 10 = .ok (.iload_n 2, 1) := by decide +kernel
theorem d_X12_copy_11 : decode cX12_copy 11 = .ok (.aload_n 0, 1) := by decide +kernel
theorem d_X12_copy_12 : decode cX12_copy 12 = .ok (.iload_n 2, 1) := by decide +kernel
theorem d_X12_copy_13 : decode cX12_copy 13 = .ok (.iaload, 1) := by decide +kernel
theorem d_X12_copy_14 : decode cX12_copy 14 = .ok (.iastore, 1) := by decide +kernel
theorem d_X12_copy_15 : decode cX12_copy 15 = .ok (.iinc 2 1, 3) := by decide +kernel
theorem d_X12_copy_18 : decode cX12_copy 18 = .ok (.goto (-16), 3) := by decide +kernel
theorem d_X12_copy_21 : decode cX12_copy 21 = .ok (.return_, 1) := by decide +kernel
def f_X12_copy (a1 : Nat) (a2 : Nat) : sa_M Unit :=
sa_let (0 : Int32) fun x1 =>
sa_wh1 (fun j2 (x2 : Int32) =>
if 260 ≤ x2 then
sa_ret ()
else
sa_bnd (sa_ldI .int a1 x2) fun v3 =>
sa_bnd (sa_stI a2 x2 v3) fun _ =>
sa_let ((x2 + 1) : Int32) fun x4 =>
j2 x4) sa_F x1
set_option maxHeartbeats 1000000 in
set_option maxRecDepth 10000 in
theorem b_X12_copy {p : Program} {l : Launch} {e : Env} {s : State} {m : MethodId} {args : Array Value} {below : List Frame} {meth : Method} {c : Code} {D : va_G} {ad : Nat → Nat} {cA : FieldType → ClassId} {A : Nat → Prop} (a1 : Nat) (a2 : Nat) (C : sa_C p s m args meth c cX12_copy RX12 "copy" 3 none D ad cA A) : sa_Sg p l e s m args below meth c 3 1 D ad cA A sa_eV 0 [(0, .ref (ad a1)), (1, .ref (ad a2))] [] (f_X12_copy a1 a2) := by
  unfold f_X12_copy
  refine sa_iconst (v := 0) C d_X12_copy_0 (by decide) ?_
  refine sa_topi (fun x1 => ?_)
  refine sa_istore_n (lv' := [(2, .int x1), (0, .ref (ad a1)), (1, .ref (ad a2))]) C d_X12_copy_1 rfl (by decide) rfl ?_
  refine sa_sub [1, 2, 0] rfl (sa_loop1 (fun x2 => [(0, .ref (ad a1)), (1, .ref (ad a2)), (2, .int x2)]) (fun x2 => []) (fun j2 hj2 x2 => ?_) _ _)
  refine sa_iload_n C d_X12_copy_2 rfl 2 rfl ?_
  refine sa_sipush (v := 260) C d_X12_copy_3 (by decide) ?_
  refine sa_icmp_ge (tgt := 21) C d_X12_copy_6 (by decide) ?_ ?_
  · exact sa_vret C d_X12_copy_21
  refine sa_aload_n C d_X12_copy_9 rfl 1 rfl ?_
  refine sa_iload_n C d_X12_copy_10 rfl 2 rfl ?_
  refine sa_aload_n C d_X12_copy_11 rfl 0 rfl ?_
  refine sa_iload_n C d_X12_copy_12 rfl 2 rfl ?_
  refine sa_iald C d_X12_copy_13 (fun v3 => ?_)
  refine sa_iast C d_X12_copy_14 ?_
  refine sa_iinc C (fun zz => [(2, .int zz), (0, .ref (ad a1)), (1, .ref (ad a2))]) d_X12_copy_15 2 rfl rfl (by decide) (fun _ => rfl) (fun x4 => ?_)
  refine sa_goto (tgt := 2) C d_X12_copy_18 (by decide) ?_
  exact sa_sub [1, 2, 0] rfl (hj2 _)
theorem k_X12_copy (a1 : Nat) (a2 : Nat) : sa_Met 1 yX12_copy cX12_copy 3 none (fun ad => [.ref (ad a1), .ref (ad a2)]) sa_eV (f_X12_copy a1 a2) := sa_mk (by decide) (fun ad => Nat.le_of_ble_eq_true rfl) (fun p l e s m args below meth c D ad cA A C => b_X12_copy a1 a2 C)
theorem d_X12_isPlace_0 : decode cX12_isPlace 0 = .ok (.iload_n 1, 1) := by decide +kernel
theorem d_X12_isPlace_1 : decode cX12_isPlace 1 = .ok (.ifCond .lt 15, 3) := by decide +kernel
theorem d_X12_isPlace_4 : decode cX12_isPlace 4 = .ok (.iload_n 1, 1) := by decide +kernel
theorem d_X12_isPlace_5 : decode cX12_isPlace 5 = .ok (.aload_n 0, 1) := by decide +kernel
theorem d_X12_isPlace_6 : decode cX12_isPlace 6 = .ok (.getfield 331, 3) := by decide +kernel
theorem d_X12_isPlace_9 : decode cX12_isPlace 9 = .ok (.if_icmp .ge 7, 3) := by decide +kernel
theorem d_X12_isPlace_12 : decode cX12_isPlace 12 = .ok (.iconst 1, 1) := by decide +kernel
theorem d_X12_isPlace_13 : decode cX12_isPlace 13 = .ok (.goto 4, 3) := by decide +kernel
theorem d_X12_isPlace_16 : decode cX12_isPlace 16 = .ok (.iconst 0, 1) := by decide +kernel
theorem d_X12_isPlace_17 : decode cX12_isPlace 17 = .ok (.ireturn, 1) := by decide +kernel
def f_X12_isPlace (this : Nat) (a1 : Int32) : sa_M Int32 :=
sa_gd 12 this (
sa_jn1 (fun (y1 : Int32) =>
sa_retZ y1) fun j17 =>
sa_jn0 (j17 0) fun j16 =>
if a1 < 0 then
j16
else
sa_bnd (sa_rdI 12 this 25) fun v2 =>
if v2 ≤ a1 then
j16
else
j17 1)
set_option maxHeartbeats 1000000 in
set_option maxRecDepth 10000 in
theorem b_X12_isPlace {p : Program} {l : Launch} {e : Env} {s : State} {m : MethodId} {args : Array Value} {below : List Frame} {meth : Method} {c : Code} {D : va_G} {ad : Nat → Nat} {cA : FieldType → ClassId} {A : Nat → Prop} (this : Nat) (a1 : Int32) (C : sa_C p s m args meth c cX12_isPlace RX12 "isPlace" 2 (some .boolean) D ad cA A) : sa_Sg p l e s m args below meth c 2 1 D ad cA A sa_eI 0 [(0, .ref (ad this)), (1, .int a1)] [] (f_X12_isPlace this a1) := by
  unfold f_X12_isPlace
  refine sa_gdI ?_
  refine sa_iload_n C d_X12_isPlace_0 rfl 1 rfl ?_
  refine sa_join1 17 (fun y1 => []) (fun y1 => [.int y1]) (fun y1 => ?_) (fun j17 hj17 => ?_)
  · exact sa_zret C d_X12_isPlace_17
  refine sa_join0 16 ([]) ([]) (?_) (fun j16 hj16 => ?_)
  · refine sa_iconst (v := 0) C d_X12_isPlace_16 (by decide) ?_
    exact sa_sub [] rfl (hj17 _)
  refine sa_if_lt (tgt := 16) C d_X12_isPlace_1 (by decide) ?_ ?_
  · exact sa_sub [] rfl (hj16)
  refine sa_iload_n C d_X12_isPlace_4 rfl 1 rfl ?_
  refine sa_aload_n C d_X12_isPlace_5 rfl 0 rfl ?_
  refine sa_getI C fd_X12_331 d_X12_isPlace_6 (fun v2 => ?_)
  refine sa_icmp_ge (tgt := 16) C d_X12_isPlace_9 (by decide) ?_ ?_
  · exact sa_sub [] rfl (hj16)
  refine sa_iconst (v := 1) C d_X12_isPlace_12 (by decide) ?_
  refine sa_goto (tgt := 17) C d_X12_isPlace_13 (by decide) ?_
  exact sa_sub [] rfl (hj17 _)
theorem k_X12_isPlace (this : Nat) (a1 : Int32) : sa_Met 1 yX12_isPlace cX12_isPlace 2 (some .boolean) (fun ad => [.ref (ad this), .int a1]) sa_eI (f_X12_isPlace this a1) := sa_mk (by decide) (fun ad => Nat.le_of_ble_eq_true rfl) (fun p l e s m args below meth c D ad cA A C => b_X12_isPlace this a1 C)
theorem gd_X12_isPlace (this : Nat) (a1 : Int32) (σ : sa_St) (r : Int32) (τ : sa_St) (h : f_X12_isPlace this a1 σ = some (r, τ)) : sa_sh this = some (.inl 12) := sa_gd_ok h
theorem d_X12_lives_0 : decode cX12_lives 0 = .ok (.iload_n 1, 1) := by decide +kernel
theorem d_X12_lives_1 : decode cX12_lives 1 = .ok (.ifCond .lt 26, 3) := by decide +kernel
theorem d_X12_lives_4 : decode cX12_lives 4 = .ok (.iload_n 1, 1) := by decide +kernel
theorem d_X12_lives_5 : decode cX12_lives 5 = .ok (.aload_n 0, 1) := by decide +kernel
theorem d_X12_lives_6 : decode cX12_lives 6 = .ok (.bipush 75, 2) := by decide +kernel
theorem d_X12_lives_8 : decode cX12_lives 8 = .ok (.iaload, 1) := by decide +kernel
theorem d_X12_lives_9 : decode cX12_lives 9 = .ok (.if_icmp .ge 18, 3) := by decide +kernel
theorem d_X12_lives_12 : decode cX12_lives 12 = .ok (.aload_n 0, 1) := by decide +kernel
theorem d_X12_lives_13 : decode cX12_lives 13 = .ok (.bipush 7, 2) := by decide +kernel
theorem d_X12_lives_15 : decode cX12_lives 15 = .ok (.iload_n 1, 1) := by decide +kernel
theorem d_X12_lives_16 : decode cX12_lives 16 = .ok (.imul, 1) := by decide +kernel
theorem d_X12_lives_17 : decode cX12_lives 17 = .ok (.iconst 2, 1) := by decide +kernel
theorem d_X12_lives_18 : decode cX12_lives 18 = .ok (.iadd, 1) := by decide +kernel
theorem d_X12_lives_19 : decode cX12_lives 19 = .ok (.iaload, 1) := by decide +kernel
theorem d_X12_lives_20 : decode cX12_lives 20 = .ok (.ifCond .le 7, 3) := by decide +kernel
theorem d_X12_lives_23 : decode cX12_lives 23 = .ok (.iconst 1, 1) := by decide +kernel
theorem d_X12_lives_24 : decode cX12_lives 24 = .ok (.goto 4, 3) := by decide +kernel
theorem d_X12_lives_27 : decode cX12_lives 27 = .ok (.iconst 0, 1) := by decide +kernel
theorem d_X12_lives_28 : decode cX12_lives 28 = .ok (.ireturn, 1) := by decide +kernel
def f_X12_lives (a1 : Nat) (a2 : Int32) : sa_M Int32 :=
sa_jn1 (fun (y1 : Int32) =>
sa_retZ y1) fun j28 =>
sa_jn0 (j28 0) fun j27 =>
if a2 < 0 then
j27
else
sa_bnd (sa_ldI .int a1 75) fun v2 =>
if v2 ≤ a2 then
j27
else
sa_bnd (sa_ldI .int a1 ((7 * a2) + 2)) fun v3 =>
if v3 ≤ 0 then
j27
else
j28 1
set_option maxHeartbeats 1000000 in
set_option maxRecDepth 10000 in
theorem b_X12_lives {p : Program} {l : Launch} {e : Env} {s : State} {m : MethodId} {args : Array Value} {below : List Frame} {meth : Method} {c : Code} {D : va_G} {ad : Nat → Nat} {cA : FieldType → ClassId} {A : Nat → Prop} (a1 : Nat) (a2 : Int32) (C : sa_C p s m args meth c cX12_lives RX12 "lives" 2 (some .boolean) D ad cA A) : sa_Sg p l e s m args below meth c 2 1 D ad cA A sa_eI 0 [(0, .ref (ad a1)), (1, .int a2)] [] (f_X12_lives a1 a2) := by
  unfold f_X12_lives
  refine sa_iload_n C d_X12_lives_0 rfl 1 rfl ?_
  refine sa_join1 28 (fun y1 => []) (fun y1 => [.int y1]) (fun y1 => ?_) (fun j28 hj28 => ?_)
  · exact sa_zret C d_X12_lives_28
  refine sa_join0 27 ([]) ([]) (?_) (fun j27 hj27 => ?_)
  · refine sa_iconst (v := 0) C d_X12_lives_27 (by decide) ?_
    exact sa_sub [] rfl (hj28 _)
  refine sa_if_lt (tgt := 27) C d_X12_lives_1 (by decide) ?_ ?_
  · exact sa_sub [] rfl (hj27)
  refine sa_iload_n C d_X12_lives_4 rfl 1 rfl ?_
  refine sa_aload_n C d_X12_lives_5 rfl 0 rfl ?_
  refine sa_bipush (v := 75) C d_X12_lives_6 (by decide) ?_
  refine sa_iald C d_X12_lives_8 (fun v2 => ?_)
  refine sa_icmp_ge (tgt := 27) C d_X12_lives_9 (by decide) ?_ ?_
  · exact sa_sub [] rfl (hj27)
  refine sa_aload_n C d_X12_lives_12 rfl 0 rfl ?_
  refine sa_bipush (v := 7) C d_X12_lives_13 (by decide) ?_
  refine sa_iload_n C d_X12_lives_15 rfl 1 rfl ?_
  refine sa_imul C d_X12_lives_16 ?_
  refine sa_iconst (v := 2) C d_X12_lives_17 (by decide) ?_
  refine sa_iadd C d_X12_lives_18 ?_
  refine sa_iald C d_X12_lives_19 (fun v3 => ?_)
  refine sa_if_le (tgt := 27) C d_X12_lives_20 (by decide) ?_ ?_
  · exact sa_sub [] rfl (hj27)
  refine sa_iconst (v := 1) C d_X12_lives_23 (by decide) ?_
  refine sa_goto (tgt := 28) C d_X12_lives_24 (by decide) ?_
  exact sa_sub [] rfl (hj28 _)
theorem k_X12_lives (a1 : Nat) (a2 : Int32) : sa_Met 1 yX12_lives cX12_lives 2 (some .boolean) (fun ad => [.ref (ad a1), .int a2]) sa_eI (f_X12_lives a1 a2) := sa_mk (by decide) (fun ad => Nat.le_of_ble_eq_true rfl) (fun p l e s m args below meth c D ad cA A C => b_X12_lives a1 a2 C)
theorem d_X12_isThere_0 : decode cX12_isThere 0 = .ok (.aload_n 0, 1) := by decide +kernel
theorem d_X12_isThere_1 : decode cX12_isThere 1 = .ok (.iload_n 1, 1) := by decide +kernel
theorem d_X12_isThere_2 : decode cX12_isThere 2 = .ok (.invokestatic 352, 3) := by decide +kernel
theorem d_X12_isThere_5 : decode cX12_isThere 5 = .ok (.ifCond .eq 18, 3) := by decide +kernel
theorem d_X12_isThere_8 : decode cX12_isThere 8 = .ok (.aload_n 0, 1) := by decide +kernel
theorem d_X12_isThere_9 : decode cX12_isThere 9 = .ok (.bipush 7, 2) := by decide +kernel
theorem d_X12_isThere_11 : decode cX12_isThere 11 = .ok (.iload_n 1, 1) := by decide +kernel
theorem d_X12_isThere_12 : decode cX12_isThere 12 = .ok (.imul, 1) := by decide +kernel
theorem d_X12_isThere_13 : decode cX12_isThere 13 = .ok (.iconst 1, 1) := by decide +kernel
theorem d_X12_isThere_14 : decode cX12_isThere 14 = .ok (.iadd, 1) := by decide +kernel
theorem d_X12_isThere_15 : decode cX12_isThere 15 = .ok (.iaload, 1) := by decide +kernel
theorem d_X12_isThere_16 : decode cX12_isThere 16 = .ok (.ifCond .ne 7, 3) := by decide +kernel
theorem d_X12_isThere_19 : decode cX12_isThere 19 = .ok (.iconst 1, 1) := by decide +kernel
theorem d_X12_isThere_20 : decode cX12_isThere 20 = .ok (.goto 4, 3) := by decide +kernel
theorem d_X12_isThere_23 : decode cX12_isThere 23 = .ok (.iconst 0, 1) := by decide +kernel
theorem d_X12_isThere_24 : decode cX12_isThere 24 = .ok (.ireturn, 1) := by decide +kernel
def f_X12_isThere (a1 : Nat) (a2 : Int32) : sa_M Int32 :=
sa_bnd (f_X12_lives a1 a2) fun v1 =>
sa_jn1 (fun (y2 : Int32) =>
sa_retZ y2) fun j24 =>
sa_jn0 (j24 0) fun j23 =>
if v1 = 0 then
j23
else
sa_bnd (sa_ldI .int a1 ((7 * a2) + 1)) fun v3 =>
if ¬ v3 = 0 then
j23
else
j24 1
set_option maxHeartbeats 1000000 in
set_option maxRecDepth 10000 in
theorem b_X12_isThere {p : Program} {l : Launch} {e : Env} {s : State} {m : MethodId} {args : Array Value} {below : List Frame} {meth : Method} {c : Code} {D : va_G} {ad : Nat → Nat} {cA : FieldType → ClassId} {A : Nat → Prop} (a1 : Nat) (a2 : Int32) (C : sa_C p s m args meth c cX12_isThere RX12 "isThere" 2 (some .boolean) D ad cA A) : sa_Sg p l e s m args below meth c 2 2 D ad cA A sa_eI 0 [(0, .ref (ad a1)), (1, .int a2)] [] (f_X12_isThere a1 a2) := by
  unfold f_X12_isThere
  refine sa_aload_n C d_X12_isThere_0 rfl 0 rfl ?_
  refine sa_iload_n C d_X12_isThere_1 rfl 1 rfl ?_
  refine sa_invS C (k_X12_lives a1 a2) q1810 ds_X12_lives q128 q1809 q1808 rfl rfl rfl (Nat.le_of_ble_eq_true rfl) (by decide) (by decide) d_X12_isThere_2 (fun v1 => ?_)
  refine sa_join1 24 (fun y2 => []) (fun y2 => [.int y2]) (fun y2 => ?_) (fun j24 hj24 => ?_)
  · exact sa_zret C d_X12_isThere_24
  refine sa_join0 23 ([]) ([]) (?_) (fun j23 hj23 => ?_)
  · refine sa_iconst (v := 0) C d_X12_isThere_23 (by decide) ?_
    exact sa_sub [] rfl (hj24 _)
  refine sa_if_eq (tgt := 23) C d_X12_isThere_5 (by decide) ?_ ?_
  · exact sa_sub [] rfl (hj23)
  refine sa_aload_n C d_X12_isThere_8 rfl 0 rfl ?_
  refine sa_bipush (v := 7) C d_X12_isThere_9 (by decide) ?_
  refine sa_iload_n C d_X12_isThere_11 rfl 1 rfl ?_
  refine sa_imul C d_X12_isThere_12 ?_
  refine sa_iconst (v := 1) C d_X12_isThere_13 (by decide) ?_
  refine sa_iadd C d_X12_isThere_14 ?_
  refine sa_iald C d_X12_isThere_15 (fun v3 => ?_)
  refine sa_if_ne (tgt := 23) C d_X12_isThere_16 (by decide) ?_ ?_
  · exact sa_sub [] rfl (hj23)
  refine sa_iconst (v := 1) C d_X12_isThere_19 (by decide) ?_
  refine sa_goto (tgt := 24) C d_X12_isThere_20 (by decide) ?_
  exact sa_sub [] rfl (hj24 _)
theorem k_X12_isThere (a1 : Nat) (a2 : Int32) : sa_Met 2 yX12_isThere cX12_isThere 2 (some .boolean) (fun ad => [.ref (ad a1), .int a2]) sa_eI (f_X12_isThere a1 a2) := sa_mk (by decide) (fun ad => Nat.le_of_ble_eq_true rfl) (fun p l e s m args below meth c D ad cA A C => b_X12_isThere a1 a2 C)
theorem d_X12_isRoofed_0 : decode cX12_isRoofed 0 = .ok (.aload_n 0, 1) := by decide +kernel
theorem d_X12_isRoofed_1 : decode cX12_isRoofed 1 = .ok (.getfield 37, 3) := by decide +kernel
theorem d_X12_isRoofed_4 : decode cX12_isRoofed 4 = .ok (.iconst 4, 1) := by decide +kernel
theorem d_X12_isRoofed_5 : decode cX12_isRoofed 5 = .ok (.iload_n 1, 1) := by decide +kernel
theorem d_X12_isRoofed_6 : decode cX12_isRoofed 6 = .ok (.imul, 1) := by decide +kernel
theorem d_X12_isRoofed_7 : decode cX12_isRoofed 7 = .ok (.iconst 1, 1) := by decide +kernel
theorem d_X12_isRoofed_8 : decode cX12_isRoofed 8 = .ok (.iadd, 1) := by decide +kernel
theorem d_X12_isRoofed_9 : decode cX12_isRoofed 9 = .ok (.iaload, 1) := by decide +kernel
theorem d_X12_isRoofed_10 : decode cX12_isRoofed 10 = .ok (.iconst 1, 1) := by decide +kernel
theorem d_X12_isRoofed_11 : decode cX12_isRoofed 11 = .ok (.if_icmp .ne 7, 3) := by decide +kernel
theorem d_X12_isRoofed_14 : decode cX12_isRoofed 14 = .ok (.iconst 1, 1) := by decide +kernel
theorem d_X12_isRoofed_15 : decode cX12_isRoofed 15 = .ok (.goto 4, 3) := by decide +kernel
theorem d_X12_isRoofed_18 : decode cX12_isRoofed 18 = .ok (.iconst 0, 1) := by decide +kernel
theorem d_X12_isRoofed_19 : decode cX12_isRoofed 19 = .ok (.ireturn, 1) := by decide +kernel
def f_X12_isRoofed (this : Nat) (a1 : Int32) : sa_M Int32 :=
sa_gd 12 this (
sa_bnd (sa_rdR 12 this 18) fun v1 =>
sa_bnd (sa_ldI .int v1 ((4 * a1) + 1)) fun v2 =>
sa_jn1 (fun (y3 : Int32) =>
sa_retZ y3) fun j19 =>
if ¬ v2 = 1 then
j19 0
else
j19 1)
set_option maxHeartbeats 1000000 in
set_option maxRecDepth 10000 in
theorem b_X12_isRoofed {p : Program} {l : Launch} {e : Env} {s : State} {m : MethodId} {args : Array Value} {below : List Frame} {meth : Method} {c : Code} {D : va_G} {ad : Nat → Nat} {cA : FieldType → ClassId} {A : Nat → Prop} (this : Nat) (a1 : Int32) (C : sa_C p s m args meth c cX12_isRoofed RX12 "isRoofed" 2 (some .boolean) D ad cA A) : sa_Sg p l e s m args below meth c 2 1 D ad cA A sa_eI 0 [(0, .ref (ad this)), (1, .int a1)] [] (f_X12_isRoofed this a1) := by
  unfold f_X12_isRoofed
  refine sa_gdI ?_
  refine sa_aload_n C d_X12_isRoofed_0 rfl 0 rfl ?_
  refine sa_getR C fd_X12_37 rfl d_X12_isRoofed_1 (fun v1 => ?_)
  refine sa_iconst (v := 4) C d_X12_isRoofed_4 (by decide) ?_
  refine sa_iload_n C d_X12_isRoofed_5 rfl 1 rfl ?_
  refine sa_imul C d_X12_isRoofed_6 ?_
  refine sa_iconst (v := 1) C d_X12_isRoofed_7 (by decide) ?_
  refine sa_iadd C d_X12_isRoofed_8 ?_
  refine sa_iald C d_X12_isRoofed_9 (fun v2 => ?_)
  refine sa_iconst (v := 1) C d_X12_isRoofed_10 (by decide) ?_
  refine sa_join1 19 (fun y3 => []) (fun y3 => [.int y3]) (fun y3 => ?_) (fun j19 hj19 => ?_)
  · exact sa_zret C d_X12_isRoofed_19
  refine sa_icmp_ne (tgt := 18) C d_X12_isRoofed_11 (by decide) ?_ ?_
  · refine sa_iconst (v := 0) C d_X12_isRoofed_18 (by decide) ?_
    exact sa_sub [] rfl (hj19 _)
  refine sa_iconst (v := 1) C d_X12_isRoofed_14 (by decide) ?_
  refine sa_goto (tgt := 19) C d_X12_isRoofed_15 (by decide) ?_
  exact sa_sub [] rfl (hj19 _)
theorem k_X12_isRoofed (this : Nat) (a1 : Int32) : sa_Met 1 yX12_isRoofed cX12_isRoofed 2 (some .boolean) (fun ad => [.ref (ad this), .int a1]) sa_eI (f_X12_isRoofed this a1) := sa_mk (by decide) (fun ad => Nat.le_of_ble_eq_true rfl) (fun p l e s m args below meth c D ad cA A C => b_X12_isRoofed this a1 C)
theorem gd_X12_isRoofed (this : Nat) (a1 : Int32) (σ : sa_St) (r : Int32) (τ : sa_St) (h : f_X12_isRoofed this a1 σ = some (r, τ)) : sa_sh this = some (.inl 12) := sa_gd_ok h
theorem d_X12_wearBy_0 : decode cX12_wearBy 0 = .ok (.aload_n 0, 1) := by decide +kernel
theorem d_X12_wearBy_1 : decode cX12_wearBy 1 = .ok (.getfield 70, 3) := by decide +kernel
theorem d_X12_wearBy_4 : decode cX12_wearBy 4 = .ok (.iconst (-1), 1) := by decide +kernel
theorem d_X12_wearBy_5 : decode cX12_wearBy 5 = .ok (.if_icmp .ne 18, 3) := by decide +kernel
theorem d_X12_wearBy_8 : decode cX12_wearBy 8 = .ok (.iconst 0, 1) := by decide +kernel
theorem d_X12_wearBy_9 : decode cX12_wearBy 9 = .ok (.bipush 99, 2) := by decide +kernel
theorem d_X12_wearBy_11 : decode cX12_wearBy 11 = .ok (.iload_n 2, 1) := by decide +kernel
theorem d_X12_wearBy_12 : decode cX12_wearBy 12 = .ok (.iload_n 3, 1) := by decide +kernel
theorem d_X12_wearBy_13 : decode cX12_wearBy 13 = .ok (.iconst 3, 1) := by decide +kernel
theorem d_X12_wearBy_14 : decode cX12_wearBy 14 = .ok (.idiv, 1) := by decide +kernel
theorem d_X12_wearBy_15 : decode cX12_wearBy 15 = .ok (.isub, 1) := by decide +kernel
theorem d_X12_wearBy_16 : decode cX12_wearBy 16 = .ok (.invokestatic 356, 3) := by decide +kernel
theorem d_X12_wearBy_19 : decode cX12_wearBy 19 = .ok (.invokestatic 358, 3) := by decide +kernel
theorem d_X12_wearBy_22 : decode cX12_wearBy 22 = .ok (.ireturn, 1) := by decide +kernel
theorem d_X12_wearBy_23 : decode cX12_wearBy 23 = .ok (.iload_n 1, 1) := by decide +kernel
theorem d_X12_wearBy_24 : decode cX12_wearBy 24 = .ok (.i2l, 1) := by decide +kernel
theorem d_X12_wearBy_25 : decode cX12_wearBy 25 = .ok (.ldc2_w 360, 3) := by decide +kernel
theorem d_X12_wearBy_28 : decode cX12_wearBy 28 = .ok (.ladd, 1) := by decide +kernel
theorem d_X12_wearBy_29 : decode cX12_wearBy 29 = .ok (.lstore 6, 2) := by decide +kernel
theorem d_X12_wearBy_31 : decode cX12_wearBy 31 = .ok (.ldc2_w 174, 3) := by decide +kernel
theorem d_X12_wearBy_34 : decode cX12_wearBy 34 = .ok (.lload 6, 2) := by decide +kernel
theorem d_X12_wearBy_36 : decode cX12_wearBy 36 = .ok (.lmul, 1) := by decide +kernel
theorem d_X12_wearBy_37 : decode cX12_wearBy 37 = .ok (.iload 5, 2) := by decide +kernel
theorem d_X12_wearBy_39 : decode cX12_wearBy 39 = .ok (.i2l, 1) := by decide +kernel
theorem d_X12_wearBy_40 : decode cX12_wearBy 40 = .ok (.ladd, 1) := by decide +kernel
theorem d_X12_wearBy_41 : decode cX12_wearBy 41 = .ok (.lstore 6, 2) := by decide +kernel
theorem d_X12_wearBy_43 : decode cX12_wearBy 43 = .ok (.ldc2_w 362, 3) := by decide +kernel
theorem d_X12_wearBy_46 : decode cX12_wearBy 46 = .ok (.lload 6, 2) := by decide +kernel
theorem d_X12_wearBy_48 : decode cX12_wearBy 48 = .ok (.lmul, 1) := by decide +kernel
theorem d_X12_wearBy_49 : decode cX12_wearBy 49 = .ok (.iload_n 2, 1) := by decide +kernel
theorem d_X12_wearBy_50 : decode cX12_wearBy 50 = .ok (.i2l, 1) := by decide +kernel
theorem d_X12_wearBy_51 : decode cX12_wearBy 51 = .ok (.ladd, 1) := by decide +kernel
theorem d_X12_wearBy_52 : decode cX12_wearBy 52 = .ok (.lstore 6, 2) := by decide +kernel
theorem d_X12_wearBy_54 : decode cX12_wearBy 54 = .ok (.ldc2_w 362, 3) := by decide +kernel
theorem d_X12_wearBy_57 : decode cX12_wearBy 57 = .ok (.lload 6, 2) := by decide +kernel
theorem d_X12_wearBy_59 : decode cX12_wearBy 59 = .ok (.lmul, 1) := by decide +kernel
theorem d_X12_wearBy_60 : decode cX12_wearBy 60 = .ok (.iload_n 3, 1) := by decide +kernel
theorem d_X12_wearBy_61 : decode cX12_wearBy 61 = .ok (.i2l, 1) := by decide +kernel
theorem d_X12_wearBy_62 : decode cX12_wearBy 62 = .ok (.ladd, 1) := by decide +kernel
theorem d_X12_wearBy_63 : decode cX12_wearBy 63 = .ok (.lstore 6, 2) := by decide +kernel
theorem d_X12_wearBy_65 : decode cX12_wearBy 65 = .ok (.ldc2_w 364, 3) := by decide +kernel
theorem d_X12_wearBy_68 : decode cX12_wearBy 68 = .ok (.lload 6, 2) := by decide +kernel
theorem d_X12_wearBy_70 : decode cX12_wearBy 70 = .ok (.lmul, 1) := by decide +kernel
theorem d_X12_wearBy_71 : decode cX12_wearBy 71 = .ok (.iload 4, 2) := by decide +kernel
theorem d_X12_wearBy_73 : decode cX12_wearBy 73 = .ok (.i2l, 1) := by decide +kernel
theorem d_X12_wearBy_74 : decode cX12_wearBy 74 = .ok (.ladd, 1) := by decide +kernel
theorem d_X12_wearBy_75 : decode cX12_wearBy 75 = .ok (.lstore 6, 2) := by decide +kernel
theorem d_X12_wearBy_77 : decode cX12_wearBy 77 = .ok (.ldc2_w 364, 3) := by decide +kernel
theorem d_X12_wearBy_80 : decode cX12_wearBy 80 = .ok (.lload 6, 2) := by decide +kernel
theorem d_X12_wearBy_82 : decode cX12_wearBy 82 = .ok (.lmul, 1) := by decide +kernel
theorem d_X12_wearBy_83 : decode cX12_wearBy 83 = .ok (.aload_n 0, 1) := by decide +kernel
theorem d_X12_wearBy_84 : decode cX12_wearBy 84 = .ok (.getfield 70, 3) := by decide +kernel
theorem d_X12_wearBy_87 : decode cX12_wearBy 87 = .ok (.i2l, 1) := by decide +kernel
theorem d_X12_wearBy_88 : decode cX12_wearBy 88 = .ok (.ladd, 1) := by decide +kernel
theorem d_X12_wearBy_89 : decode cX12_wearBy 89 = .ok (.lconst 1, 1) := by decide +kernel
theorem d_X12_wearBy_90 : decode cX12_wearBy 90 = .ok (.ladd, 1) := by decide +kernel
theorem d_X12_wearBy_91 : decode cX12_wearBy 91 = .ok (.lstore 6, 2) := by decide +kernel
theorem d_X12_wearBy_93 : decode cX12_wearBy 93 = .ok (.lload 6, 2) := by decide +kernel
theorem d_X12_wearBy_95 : decode cX12_wearBy 95 = .ok (.ldc2_w 366, 3) := by decide +kernel
theorem d_X12_wearBy_98 : decode cX12_wearBy 98 = .ok (.lrem, 1) := by decide +kernel
theorem d_X12_wearBy_99 : decode cX12_wearBy 99 = .ok (.l2i, 1) := by decide +kernel
theorem d_X12_wearBy_100 : decode cX12_wearBy 100 = .ok (.istore 8, 2) := by decide +kernel
theorem d_X12_wearBy_102 : decode cX12_wearBy 102 = .ok (.aload_n 0, 1) := by decide +kernel
theorem d_X12_wearBy_103 : decode cX12_wearBy 103 = .ok (.getfield 74, 3) := by decide +kernel
theorem d_X12_wearBy_106 : decode cX12_wearBy 106 = .ok (.iload 8, 2) := by decide +kernel
theorem d_X12_wearBy_108 : decode cX12_wearBy 108 = .ok (.laload, 1) := by decide +kernel
theorem d_X12_wearBy_109 : decode cX12_wearBy 109 = .ok (.lload 6, 2) := by decide +kernel
theorem d_X12_wearBy_111 : decode cX12_wearBy 111 = .ok (.lcmp, 1) := by decide +kernel
theorem d_X12_wearBy_112 : decode cX12_wearBy 112 = .ok (.ifCond .eq 90, 3) := by decide +kernel
theorem d_X12_wearBy_115 : decode cX12_wearBy 115 = .ok (.aload_n 0, 1) := by decide +kernel
theorem d_X12_wearBy_116 : decode cX12_wearBy 116 = .ok (.getfield 20, 3) := by decide +kernel
theorem d_X12_wearBy_119 : decode cX12_wearBy 119 = .ok (.bipush 103, 2) := by decide +kernel
theorem d_X12_wearBy_121 : decode cX12_wearBy 121 = .ok (.iload_n 1, 1) := by decide +kernel
theorem d_X12_wearBy_122 : decode cX12_wearBy 122 = .ok (.iastore, 1) := by decide +kernel
theorem d_X12_wearBy_123 : decode cX12_wearBy 123 = .ok (.aload_n 0, 1) := by decide +kernel
theorem d_X12_wearBy_124 : decode cX12_wearBy 124 = .ok (.getfield 20, 3) := by decide +kernel
theorem d_X12_wearBy_127 : decode cX12_wearBy 127 = .ok (.bipush 119, 2) := by decide +kernel
theorem d_X12_wearBy_129 : decode cX12_wearBy 129 = .ok (.iload_n 2, 1) := by decide +kernel
theorem d_X12_wearBy_130 : decode cX12_wearBy 130 = .ok (.iastore, 1) := by decide +kernel
theorem d_X12_wearBy_131 : decode cX12_wearBy 131 = .ok (.aload_n 0, 1) := by decide +kernel
theorem d_X12_wearBy_132 : decode cX12_wearBy 132 = .ok (.getfield 20, 3) := by decide +kernel
theorem d_X12_wearBy_135 : decode cX12_wearBy 135 = .ok (.bipush 104, 2) := by decide +kernel
theorem d_X12_wearBy_137 : decode cX12_wearBy 137 = .ok (.iload_n 3, 1) := by decide +kernel
theorem d_X12_wearBy_138 : decode cX12_wearBy 138 = .ok (.iastore, 1) := by decide +kernel
theorem d_X12_wearBy_139 : decode cX12_wearBy 139 = .ok (.aload_n 0, 1) := by decide +kernel
theorem d_X12_wearBy_140 : decode cX12_wearBy 140 = .ok (.getfield 20, 3) := by decide +kernel
theorem d_X12_wearBy_143 : decode cX12_wearBy 143 = .ok (.bipush 109, 2) := by decide +kernel
theorem d_X12_wearBy_145 : decode cX12_wearBy 145 = .ok (.iload 4, 2) := by decide +kernel
theorem d_X12_wearBy_147 : decode cX12_wearBy 147 = .ok (.iastore, 1) := by decide +kernel
theorem d_X12_wearBy_148 : decode cX12_wearBy 148 = .ok (.aload_n 0, 1) := by decide +kernel
theorem d_X12_wearBy_149 : decode cX12_wearBy 149 = .ok (.getfield 20, 3) := by decide +kernel
theorem d_X12_wearBy_152 : decode cX12_wearBy 152 = .ok (.bipush 116, 2) := by decide +kernel
theorem d_X12_wearBy_154 : decode cX12_wearBy 154 = .ok (.iload 5, 2) := by decide +kernel
theorem d_X12_wearBy_156 : decode cX12_wearBy 156 = .ok (.iastore, 1) := by decide +kernel
theorem d_X12_wearBy_157 : decode cX12_wearBy 157 = .ok (.aload_n 0, 1) := by decide +kernel
theorem d_X12_wearBy_158 : decode cX12_wearBy 158 = .ok (.aload_n 0, 1) := by decide +kernel
theorem d_X12_wearBy_159 : decode cX12_wearBy 159 = .ok (.getfield 13, 3) := by decide +kernel
theorem d_X12_wearBy_162 : decode cX12_wearBy 162 = .ok (.sipush 240, 3) := by decide +kernel
theorem d_X12_wearBy_165 : decode cX12_wearBy 165 = .ok (.aload_n 0, 1) := by decide +kernel
theorem d_X12_wearBy_166 : decode cX12_wearBy 166 = .ok (.getfield 70, 3) := by decide +kernel
theorem d_X12_wearBy_169 : decode cX12_wearBy 169 = .ok (.imul, 1) := by decide +kernel
theorem d_X12_wearBy_170 : decode cX12_wearBy 170 = .ok (.aload_n 0, 1) := by decide +kernel
theorem d_X12_wearBy_171 : decode cX12_wearBy 171 = .ok (.getfield 16, 3) := by decide +kernel
theorem d_X12_wearBy_174 : decode cX12_wearBy 174 = .ok (.aload_n 0, 1) := by decide +kernel
theorem d_X12_wearBy_175 : decode cX12_wearBy 175 = .ok (.getfield 70, 3) := by decide +kernel
theorem d_X12_wearBy_178 : decode cX12_wearBy 178 = .ok (.iaload, 1) := by decide +kernel
theorem d_X12_wearBy_179 : decode cX12_wearBy 179 = .ok (.invokevirtual 317, 3) := by decide +kernel
theorem d_X12_wearBy_182 : decode cX12_wearBy 182 = .ok (.aload_n 0, 1) := by decide +kernel
theorem d_X12_wearBy_183 : decode cX12_wearBy 183 = .ok (.getfield 74, 3) := by decide +kernel
theorem d_X12_wearBy_186 : decode cX12_wearBy 186 = .ok (.iload 8, 2) := by decide +kernel
theorem d_X12_wearBy_188 : decode cX12_wearBy 188 = .ok (.lload 6, 2) := by decide +kernel
theorem d_X12_wearBy_190 : decode cX12_wearBy 190 = .ok (.lastore, 1) := by decide +kernel
theorem d_X12_wearBy_191 : decode cX12_wearBy 191 = .ok (.aload_n 0, 1) := by decide +kernel
theorem d_X12_wearBy_192 : decode cX12_wearBy 192 = .ok (.getfield 78, 3) := by decide +kernel
theorem d_X12_wearBy_195 : decode cX12_wearBy 195 = .ok (.iload 8, 2) := by decide +kernel
theorem d_X12_wearBy_197 : decode cX12_wearBy 197 = .ok (.aload_n 0, 1) := by decide +kernel
theorem d_X12_wearBy_198 : decode cX12_wearBy 198 = .ok (.getfield 235, 3) := by decide +kernel
theorem d_X12_wearBy_201 : decode cX12_wearBy 201 = .ok (.iastore, 1) := by decide +kernel
theorem d_X12_wearBy_202 : decode cX12_wearBy 202 = .ok (.iconst 0, 1) := by decide +kernel
theorem d_X12_wearBy_203 : decode cX12_wearBy 203 = .ok (.bipush 99, 2) := by decide +kernel
theorem d_X12_wearBy_205 : decode cX12_wearBy 205 = .ok (.aload_n 0, 1) := by decide +kernel
theorem d_X12_wearBy_206 : decode cX12_wearBy 206 = .ok (.getfield 78, 3) := by decide +kernel
theorem d_X12_wearBy_209 : decode cX12_wearBy 209 = .ok (.iload 8, 2) := by decide +kernel
theorem d_X12_wearBy_211 : decode cX12_wearBy 211 = .ok (.iaload, 1) := by decide +kernel
theorem d_X12_wearBy_212 : decode cX12_wearBy 212 = .ok (.invokestatic 356, 3) := by decide +kernel
theorem d_X12_wearBy_215 : decode cX12_wearBy 215 = .ok (.invokestatic 358, 3) := by decide +kernel
theorem d_X12_wearBy_218 : decode cX12_wearBy 218 = .ok (.ireturn, 1) := by decide +kernel
def f_X12_wearBy (this : Nat) (a1 : Int32) (a2 : Int32) (a3 : Int32) (a4 : Int32) (a5 : Int32) : sa_M Int32 :=
sa_gd 12 this (
sa_bnd (sa_rdI 12 this 37) fun v1 =>
if ¬ v1 = (-1) then
sa_let (((a1.toInt64) + 100000) : Int64) fun x2 =>
sa_let (((1000000 * x2) + (a5.toInt64)) : Int64) fun x3 =>
sa_let (((10 * x3) + (a2.toInt64)) : Int64) fun x4 =>
sa_let (((10 * x4) + (a3.toInt64)) : Int64) fun x5 =>
sa_let (((4 * x5) + (a4.toInt64)) : Int64) fun x6 =>
sa_bnd (sa_rdI 12 this 37) fun v7 =>
sa_let ((((4 * x6) + (v7.toInt64)) + 1) : Int64) fun x8 =>
sa_bnd (sa_mdL x8 8191) fun v9 =>
sa_let ((v9.toInt32) : Int32) fun x10 =>
sa_bnd (sa_rdR 12 this 38) fun v11 =>
sa_bnd (sa_ldL v11 x10) fun v12 =>
sa_jn0 (sa_bnd (sa_rdR 12 this 39) fun v13 =>
sa_bnd (sa_ldI .int v13 x10) fun v14 =>
sa_ret ((sa_max 0 (sa_min 99 v14)) : Int32)) fun j202 =>
if (lg_cmp v12 x8) = 0 then
j202
else
sa_bnd (sa_rdR 12 this 4) fun v15 =>
sa_bnd (sa_stI v15 103 a1) fun _ =>
sa_bnd (sa_rdR 12 this 4) fun v16 =>
sa_bnd (sa_stI v16 119 a2) fun _ =>
sa_bnd (sa_rdR 12 this 4) fun v17 =>
sa_bnd (sa_stI v17 104 a3) fun _ =>
sa_bnd (sa_rdR 12 this 4) fun v18 =>
sa_bnd (sa_stI v18 109 a4) fun _ =>
sa_bnd (sa_rdR 12 this 4) fun v19 =>
sa_bnd (sa_stI v19 116 a5) fun _ =>
sa_bnd (sa_rdR 12 this 2) fun v20 =>
sa_bnd (sa_rdI 12 this 37) fun v21 =>
sa_bnd (sa_rdR 12 this 3) fun v22 =>
sa_bnd (sa_rdI 12 this 37) fun v23 =>
sa_bnd (sa_ldI .int v22 v23) fun v24 =>
sa_bnd (f_X12_goThrough this v20 (240 * v21) v24) fun _ =>
sa_bnd (sa_rdR 12 this 38) fun v25 =>
sa_bnd (sa_stL v25 x10 x8) fun _ =>
sa_bnd (sa_rdR 12 this 39) fun v26 =>
sa_bnd (sa_rdI 12 this 14) fun v27 =>
sa_bnd (sa_stI v26 x10 v27) fun _ =>
j202
else
sa_bnd (sa_dv a3 3) fun v28 =>
sa_ret ((sa_max 0 (sa_min 99 (a2 - v28))) : Int32))
set_option maxHeartbeats 1000000 in
set_option maxRecDepth 10000 in
theorem b_X12_wearBy {p : Program} {l : Launch} {e : Env} {s : State} {m : MethodId} {args : Array Value} {below : List Frame} {meth : Method} {c : Code} {D : va_G} {ad : Nat → Nat} {cA : FieldType → ClassId} {A : Nat → Prop} (this : Nat) (a1 : Int32) (a2 : Int32) (a3 : Int32) (a4 : Int32) (a5 : Int32) (C : sa_C p s m args meth c cX12_wearBy RX12 "wearBy" 9 (some .int) D ad cA A) : sa_Sg p l e s m args below meth c 9 131 D ad cA A sa_eI 0 [(0, .ref (ad this)), (1, .int a1), (2, .int a2), (3, .int a3), (4, .int a4), (5, .int a5)] [] (f_X12_wearBy this a1 a2 a3 a4 a5) := by
  unfold f_X12_wearBy
  refine sa_gdI ?_
  refine sa_aload_n C d_X12_wearBy_0 rfl 0 rfl ?_
  refine sa_getI C fd_X12_70 d_X12_wearBy_1 (fun v1 => ?_)
  refine sa_iconst (v := (-1)) C d_X12_wearBy_4 (by decide) ?_
  refine sa_icmp_ne (tgt := 23) C d_X12_wearBy_5 (by decide) ?_ ?_
  · refine sa_iload_n C d_X12_wearBy_23 rfl 1 rfl ?_
    refine sa_i2l C d_X12_wearBy_24 ?_
    refine sa_ldc2 (v := 100000) C d_X12_wearBy_25 q1821 ?_
    refine sa_ladd C d_X12_wearBy_28 ?_
    refine sa_topl (fun x2 => ?_)
    refine sa_lstore (lv' := [(6, .long x2), (0, .ref (ad this)), (1, .int a1), (2, .int a2), (3, .int a3), (4, .int a4), (5, .int a5)]) C d_X12_wearBy_29 (by decide) rfl ?_
    refine sa_ldc2 (v := 1000000) C d_X12_wearBy_31 q1746 ?_
    refine sa_lload C d_X12_wearBy_34 0 rfl ?_
    refine sa_lmul C d_X12_wearBy_36 ?_
    refine sa_iload C d_X12_wearBy_37 6 rfl ?_
    refine sa_i2l C d_X12_wearBy_39 ?_
    refine sa_ladd C d_X12_wearBy_40 ?_
    refine sa_topl (fun x3 => ?_)
    refine sa_lstore (lv' := [(6, .long x3), (0, .ref (ad this)), (1, .int a1), (2, .int a2), (3, .int a3), (4, .int a4), (5, .int a5)]) C d_X12_wearBy_41 (by decide) rfl ?_
    refine sa_ldc2 (v := 10) C d_X12_wearBy_43 q1822 ?_
    refine sa_lload C d_X12_wearBy_46 0 rfl ?_
    refine sa_lmul C d_X12_wearBy_48 ?_
    refine sa_iload_n C d_X12_wearBy_49 rfl 3 rfl ?_
    refine sa_i2l C d_X12_wearBy_50 ?_
    refine sa_ladd C d_X12_wearBy_51 ?_
    refine sa_topl (fun x4 => ?_)
    refine sa_lstore (lv' := [(6, .long x4), (0, .ref (ad this)), (1, .int a1), (2, .int a2), (3, .int a3), (4, .int a4), (5, .int a5)]) C d_X12_wearBy_52 (by decide) rfl ?_
    refine sa_ldc2 (v := 10) C d_X12_wearBy_54 q1822 ?_
    refine sa_lload C d_X12_wearBy_57 0 rfl ?_
    refine sa_lmul C d_X12_wearBy_59 ?_
    refine sa_iload_n C d_X12_wearBy_60 rfl 4 rfl ?_
    refine sa_i2l C d_X12_wearBy_61 ?_
    refine sa_ladd C d_X12_wearBy_62 ?_
    refine sa_topl (fun x5 => ?_)
    refine sa_lstore (lv' := [(6, .long x5), (0, .ref (ad this)), (1, .int a1), (2, .int a2), (3, .int a3), (4, .int a4), (5, .int a5)]) C d_X12_wearBy_63 (by decide) rfl ?_
    refine sa_ldc2 (v := 4) C d_X12_wearBy_65 q1823 ?_
    refine sa_lload C d_X12_wearBy_68 0 rfl ?_
    refine sa_lmul C d_X12_wearBy_70 ?_
    refine sa_iload C d_X12_wearBy_71 5 rfl ?_
    refine sa_i2l C d_X12_wearBy_73 ?_
    refine sa_ladd C d_X12_wearBy_74 ?_
    refine sa_topl (fun x6 => ?_)
    refine sa_lstore (lv' := [(6, .long x6), (0, .ref (ad this)), (1, .int a1), (2, .int a2), (3, .int a3), (4, .int a4), (5, .int a5)]) C d_X12_wearBy_75 (by decide) rfl ?_
    refine sa_ldc2 (v := 4) C d_X12_wearBy_77 q1823 ?_
    refine sa_lload C d_X12_wearBy_80 0 rfl ?_
    refine sa_lmul C d_X12_wearBy_82 ?_
    refine sa_aload_n C d_X12_wearBy_83 rfl 1 rfl ?_
    refine sa_getI C fd_X12_70 d_X12_wearBy_84 (fun v7 => ?_)
    refine sa_i2l C d_X12_wearBy_87 ?_
    refine sa_ladd C d_X12_wearBy_88 ?_
    refine sa_lconst (v := 1) C d_X12_wearBy_89 (by decide) ?_
    refine sa_ladd C d_X12_wearBy_90 ?_
    refine sa_topl (fun x8 => ?_)
    refine sa_lstore (lv' := [(6, .long x8), (0, .ref (ad this)), (1, .int a1), (2, .int a2), (3, .int a3), (4, .int a4), (5, .int a5)]) C d_X12_wearBy_91 (by decide) rfl ?_
    refine sa_lload C d_X12_wearBy_93 0 rfl ?_
    refine sa_ldc2 (v := 8191) C d_X12_wearBy_95 q1824 ?_
    refine sa_lrem C d_X12_wearBy_98 (fun v9 => ?_)
    refine sa_l2i C d_X12_wearBy_99 ?_
    refine sa_topi (fun x10 => ?_)
    refine sa_istore (lv' := [(8, .int x10), (6, .long x8), (0, .ref (ad this)), (1, .int a1), (2, .int a2), (3, .int a3), (4, .int a4), (5, .int a5)]) C d_X12_wearBy_100 (by decide) rfl ?_
    refine sa_aload_n C d_X12_wearBy_102 rfl 2 rfl ?_
    refine sa_getR C fd_X12_74 rfl d_X12_wearBy_103 (fun v11 => ?_)
    refine sa_iload C d_X12_wearBy_106 0 rfl ?_
    refine sa_lald C d_X12_wearBy_108 (fun v12 => ?_)
    refine sa_lload C d_X12_wearBy_109 1 rfl ?_
    refine sa_lcmp C d_X12_wearBy_111 ?_
    refine sa_join0 202 ([(0, .ref (ad this)), (8, .int x10)]) ([]) (?_) (fun j202 hj202 => ?_)
    · refine sa_iconst (v := 0) C d_X12_wearBy_202 (by decide) ?_
      refine sa_bipush (v := 99) C d_X12_wearBy_203 (by decide) ?_
      refine sa_aload_n C d_X12_wearBy_205 rfl 0 rfl ?_
      refine sa_getR C fd_X12_78 rfl d_X12_wearBy_206 (fun v13 => ?_)
      refine sa_iload C d_X12_wearBy_209 1 rfl ?_
      refine sa_iald C d_X12_wearBy_211 (fun v14 => ?_)
      refine sa_mmin C q1819 (Nat.le_of_ble_eq_true rfl) (by decide) q530 q130 q531 d_X12_wearBy_212 ?_
      refine sa_mmax C q1820 (Nat.le_of_ble_eq_true rfl) (by decide) q527 q130 q528 d_X12_wearBy_215 ?_
      exact sa_iret C d_X12_wearBy_218
    refine sa_if_eq (tgt := 202) C d_X12_wearBy_112 (by decide) ?_ ?_
    · exact sa_sub [2, 0] rfl (hj202)
    refine sa_aload_n C d_X12_wearBy_115 rfl 2 rfl ?_
    refine sa_getR C fd_X12_20 rfl d_X12_wearBy_116 (fun v15 => ?_)
    refine sa_bipush (v := 103) C d_X12_wearBy_119 (by decide) ?_
    refine sa_iload_n C d_X12_wearBy_121 rfl 3 rfl ?_
    refine sa_iast C d_X12_wearBy_122 ?_
    refine sa_aload_n C d_X12_wearBy_123 rfl 2 rfl ?_
    refine sa_getR C fd_X12_20 rfl d_X12_wearBy_124 (fun v16 => ?_)
    refine sa_bipush (v := 119) C d_X12_wearBy_127 (by decide) ?_
    refine sa_iload_n C d_X12_wearBy_129 rfl 4 rfl ?_
    refine sa_iast C d_X12_wearBy_130 ?_
    refine sa_aload_n C d_X12_wearBy_131 rfl 2 rfl ?_
    refine sa_getR C fd_X12_20 rfl d_X12_wearBy_132 (fun v17 => ?_)
    refine sa_bipush (v := 104) C d_X12_wearBy_135 (by decide) ?_
    refine sa_iload_n C d_X12_wearBy_137 rfl 5 rfl ?_
    refine sa_iast C d_X12_wearBy_138 ?_
    refine sa_aload_n C d_X12_wearBy_139 rfl 2 rfl ?_
    refine sa_getR C fd_X12_20 rfl d_X12_wearBy_140 (fun v18 => ?_)
    refine sa_bipush (v := 109) C d_X12_wearBy_143 (by decide) ?_
    refine sa_iload C d_X12_wearBy_145 6 rfl ?_
    refine sa_iast C d_X12_wearBy_147 ?_
    refine sa_aload_n C d_X12_wearBy_148 rfl 2 rfl ?_
    refine sa_getR C fd_X12_20 rfl d_X12_wearBy_149 (fun v19 => ?_)
    refine sa_bipush (v := 116) C d_X12_wearBy_152 (by decide) ?_
    refine sa_iload C d_X12_wearBy_154 7 rfl ?_
    refine sa_iast C d_X12_wearBy_156 ?_
    refine sa_aload_n C d_X12_wearBy_157 rfl 2 rfl ?_
    refine sa_aload_n C d_X12_wearBy_158 rfl 2 rfl ?_
    refine sa_getR C fd_X12_13 rfl d_X12_wearBy_159 (fun v20 => ?_)
    refine sa_sipush (v := 240) C d_X12_wearBy_162 (by decide) ?_
    refine sa_aload_n C d_X12_wearBy_165 rfl 2 rfl ?_
    refine sa_getI C fd_X12_70 d_X12_wearBy_166 (fun v21 => ?_)
    refine sa_imul C d_X12_wearBy_169 ?_
    refine sa_aload_n C d_X12_wearBy_170 rfl 2 rfl ?_
    refine sa_getR C fd_X12_16 rfl d_X12_wearBy_171 (fun v22 => ?_)
    refine sa_aload_n C d_X12_wearBy_174 rfl 2 rfl ?_
    refine sa_getI C fd_X12_70 d_X12_wearBy_175 (fun v23 => ?_)
    refine sa_iald C d_X12_wearBy_178 (fun v24 => ?_)
    refine sa_invV (ci := 12) C (k_X12_goThrough this v20 (240 * v21) v24) q1702 ds_X12_goThrough q128 rfl q1701 q56 q1699 (gd_X12_goThrough this v20 (240 * v21) v24) rfl rfl rfl (Nat.le_of_ble_eq_true rfl) (by decide) (by decide) d_X12_wearBy_179 (fun _ => ?_)
    refine sa_aload_n C d_X12_wearBy_182 rfl 2 rfl ?_
    refine sa_getR C fd_X12_74 rfl d_X12_wearBy_183 (fun v25 => ?_)
    refine sa_iload C d_X12_wearBy_186 0 rfl ?_
    refine sa_lload C d_X12_wearBy_188 1 rfl ?_
    refine sa_last C d_X12_wearBy_190 ?_
    refine sa_aload_n C d_X12_wearBy_191 rfl 2 rfl ?_
    refine sa_getR C fd_X12_78 rfl d_X12_wearBy_192 (fun v26 => ?_)
    refine sa_iload C d_X12_wearBy_195 0 rfl ?_
    refine sa_aload_n C d_X12_wearBy_197 rfl 2 rfl ?_
    refine sa_getI C fd_X12_235 d_X12_wearBy_198 (fun v27 => ?_)
    refine sa_iast C d_X12_wearBy_201 ?_
    exact sa_sub [2, 0] rfl (hj202)
  refine sa_iconst (v := 0) C d_X12_wearBy_8 (by decide) ?_
  refine sa_bipush (v := 99) C d_X12_wearBy_9 (by decide) ?_
  refine sa_iload_n C d_X12_wearBy_11 rfl 2 rfl ?_
  refine sa_iload_n C d_X12_wearBy_12 rfl 3 rfl ?_
  refine sa_iconst (v := 3) C d_X12_wearBy_13 (by decide) ?_
  refine sa_idiv C d_X12_wearBy_14 (fun v28 => ?_)
  refine sa_isub C d_X12_wearBy_15 ?_
  refine sa_mmin C q1819 (Nat.le_of_ble_eq_true rfl) (by decide) q530 q130 q531 d_X12_wearBy_16 ?_
  refine sa_mmax C q1820 (Nat.le_of_ble_eq_true rfl) (by decide) q527 q130 q528 d_X12_wearBy_19 ?_
  exact sa_iret C d_X12_wearBy_22
theorem k_X12_wearBy (this : Nat) (a1 : Int32) (a2 : Int32) (a3 : Int32) (a4 : Int32) (a5 : Int32) : sa_Met 131 yX12_wearBy cX12_wearBy 9 (some .int) (fun ad => [.ref (ad this), .int a1, .int a2, .int a3, .int a4, .int a5]) sa_eI (f_X12_wearBy this a1 a2 a3 a4 a5) := sa_mk (by decide) (fun ad => Nat.le_of_ble_eq_true rfl) (fun p l e s m args below meth c D ad cA A C => b_X12_wearBy this a1 a2 a3 a4 a5 C)
theorem gd_X12_wearBy (this : Nat) (a1 : Int32) (a2 : Int32) (a3 : Int32) (a4 : Int32) (a5 : Int32) (σ : sa_St) (r : Int32) (τ : sa_St) (h : f_X12_wearBy this a1 a2 a3 a4 a5 σ = some (r, τ)) : sa_sh this = some (.inl 12) := sa_gd_ok h
theorem d_X12_wearOf_0 : decode cX12_wearOf 0 = .ok (.bipush 7, 2) := by decide +kernel
theorem d_X12_wearOf_2 : decode cX12_wearOf 2 = .ok (.iload_n 2, 1) := by decide +kernel
theorem d_X12_wearOf_3 : decode cX12_wearOf 3 = .ok (.imul, 1) := by decide +kernel
theorem d_X12_wearOf_4 : decode cX12_wearOf 4 = .ok (.istore_n 3, 1) := by decide +kernel
theorem d_X12_wearOf_5 : decode cX12_wearOf 5 = .ok (.aload_n 0, 1) := by decide +kernel
theorem d_X12_wearOf_6 : decode cX12_wearOf 6 = .ok (.aload_n 1, 1) := by decide +kernel
theorem d_X12_wearOf_7 : decode cX12_wearOf 7 = .ok (.iload_n 3, 1) := by decide +kernel
theorem d_X12_wearOf_8 : decode cX12_wearOf 8 = .ok (.iconst 2, 1) := by decide +kernel
theorem d_X12_wearOf_9 : decode cX12_wearOf 9 = .ok (.iadd, 1) := by decide +kernel
theorem d_X12_wearOf_10 : decode cX12_wearOf 10 = .ok (.iaload, 1) := by decide +kernel
theorem d_X12_wearOf_11 : decode cX12_wearOf 11 = .ok (.aload_n 1, 1) := by decide +kernel
theorem d_X12_wearOf_12 : decode cX12_wearOf 12 = .ok (.iload_n 3, 1) := by decide +kernel
theorem d_X12_wearOf_13 : decode cX12_wearOf 13 = .ok (.iconst 3, 1) := by decide +kernel
theorem d_X12_wearOf_14 : decode cX12_wearOf 14 = .ok (.iadd, 1) := by decide +kernel
theorem d_X12_wearOf_15 : decode cX12_wearOf 15 = .ok (.iaload, 1) := by decide +kernel
theorem d_X12_wearOf_16 : decode cX12_wearOf 16 = .ok (.aload_n 0, 1) := by decide +kernel
theorem d_X12_wearOf_17 : decode cX12_wearOf 17 = .ok (.getfield 37, 3) := by decide +kernel
theorem d_X12_wearOf_20 : decode cX12_wearOf 20 = .ok (.iconst 4, 1) := by decide +kernel
theorem d_X12_wearOf_21 : decode cX12_wearOf 21 = .ok (.aload_n 1, 1) := by decide +kernel
theorem d_X12_wearOf_22 : decode cX12_wearOf 22 = .ok (.iload_n 3, 1) := by decide +kernel
theorem d_X12_wearOf_23 : decode cX12_wearOf 23 = .ok (.iaload, 1) := by decide +kernel
theorem d_X12_wearOf_24 : decode cX12_wearOf 24 = .ok (.imul, 1) := by decide +kernel
theorem d_X12_wearOf_25 : decode cX12_wearOf 25 = .ok (.iaload, 1) := by decide +kernel
theorem d_X12_wearOf_26 : decode cX12_wearOf 26 = .ok (.aload_n 1, 1) := by decide +kernel
theorem d_X12_wearOf_27 : decode cX12_wearOf 27 = .ok (.iload_n 3, 1) := by decide +kernel
theorem d_X12_wearOf_28 : decode cX12_wearOf 28 = .ok (.iconst 4, 1) := by decide +kernel
theorem d_X12_wearOf_29 : decode cX12_wearOf 29 = .ok (.iadd, 1) := by decide +kernel
theorem d_X12_wearOf_30 : decode cX12_wearOf 30 = .ok (.iaload, 1) := by decide +kernel
theorem d_X12_wearOf_31 : decode cX12_wearOf 31 = .ok (.aload_n 1, 1) := by decide +kernel
theorem d_X12_wearOf_32 : decode cX12_wearOf 32 = .ok (.bipush 76, 2) := by decide +kernel
theorem d_X12_wearOf_34 : decode cX12_wearOf 34 = .ok (.iaload, 1) := by decide +kernel
theorem d_X12_wearOf_35 : decode cX12_wearOf 35 = .ok (.invokevirtual 368, 3) := by decide +kernel
theorem d_X12_wearOf_38 : decode cX12_wearOf 38 = .ok (.ireturn, 1) := by decide +kernel
def f_X12_wearOf (this : Nat) (a1 : Nat) (a2 : Int32) : sa_M Int32 :=
sa_gd 12 this (
sa_let ((7 * a2) : Int32) fun x1 =>
sa_bnd (sa_ldI .int a1 (x1 + 2)) fun v2 =>
sa_bnd (sa_ldI .int a1 (x1 + 3)) fun v3 =>
sa_bnd (sa_rdR 12 this 18) fun v4 =>
sa_bnd (sa_ldI .int a1 x1) fun v5 =>
sa_bnd (sa_ldI .int v4 (4 * v5)) fun v6 =>
sa_bnd (sa_ldI .int a1 (x1 + 4)) fun v7 =>
sa_bnd (sa_ldI .int a1 76) fun v8 =>
sa_bnd (f_X12_wearBy this v2 v3 v6 v7 v8) fun v9 =>
sa_ret (v9 : Int32))
set_option maxHeartbeats 1000000 in
set_option maxRecDepth 10000 in
theorem b_X12_wearOf {p : Program} {l : Launch} {e : Env} {s : State} {m : MethodId} {args : Array Value} {below : List Frame} {meth : Method} {c : Code} {D : va_G} {ad : Nat → Nat} {cA : FieldType → ClassId} {A : Nat → Prop} (this : Nat) (a1 : Nat) (a2 : Int32) (C : sa_C p s m args meth c cX12_wearOf RX12 "wearOf" 4 (some .int) D ad cA A) : sa_Sg p l e s m args below meth c 4 132 D ad cA A sa_eI 0 [(0, .ref (ad this)), (1, .ref (ad a1)), (2, .int a2)] [] (f_X12_wearOf this a1 a2) := by
  unfold f_X12_wearOf
  refine sa_gdI ?_
  refine sa_bipush (v := 7) C d_X12_wearOf_0 (by decide) ?_
  refine sa_iload_n C d_X12_wearOf_2 rfl 2 rfl ?_
  refine sa_imul C d_X12_wearOf_3 ?_
  refine sa_topi (fun x1 => ?_)
  refine sa_istore_n (lv' := [(3, .int x1), (0, .ref (ad this)), (1, .ref (ad a1)), (2, .int a2)]) C d_X12_wearOf_4 rfl (by decide) rfl ?_
  refine sa_aload_n C d_X12_wearOf_5 rfl 1 rfl ?_
  refine sa_aload_n C d_X12_wearOf_6 rfl 2 rfl ?_
  refine sa_iload_n C d_X12_wearOf_7 rfl 0 rfl ?_
  refine sa_iconst (v := 2) C d_X12_wearOf_8 (by decide) ?_
  refine sa_iadd C d_X12_wearOf_9 ?_
  refine sa_iald C d_X12_wearOf_10 (fun v2 => ?_)
  refine sa_aload_n C d_X12_wearOf_11 rfl 2 rfl ?_
  refine sa_iload_n C d_X12_wearOf_12 rfl 0 rfl ?_
  refine sa_iconst (v := 3) C d_X12_wearOf_13 (by decide) ?_
  refine sa_iadd C d_X12_wearOf_14 ?_
  refine sa_iald C d_X12_wearOf_15 (fun v3 => ?_)
  refine sa_aload_n C d_X12_wearOf_16 rfl 1 rfl ?_
  refine sa_getR C fd_X12_37 rfl d_X12_wearOf_17 (fun v4 => ?_)
  refine sa_iconst (v := 4) C d_X12_wearOf_20 (by decide) ?_
  refine sa_aload_n C d_X12_wearOf_21 rfl 2 rfl ?_
  refine sa_iload_n C d_X12_wearOf_22 rfl 0 rfl ?_
  refine sa_iald C d_X12_wearOf_23 (fun v5 => ?_)
  refine sa_imul C d_X12_wearOf_24 ?_
  refine sa_iald C d_X12_wearOf_25 (fun v6 => ?_)
  refine sa_aload_n C d_X12_wearOf_26 rfl 2 rfl ?_
  refine sa_iload_n C d_X12_wearOf_27 rfl 0 rfl ?_
  refine sa_iconst (v := 4) C d_X12_wearOf_28 (by decide) ?_
  refine sa_iadd C d_X12_wearOf_29 ?_
  refine sa_iald C d_X12_wearOf_30 (fun v7 => ?_)
  refine sa_aload_n C d_X12_wearOf_31 rfl 2 rfl ?_
  refine sa_bipush (v := 76) C d_X12_wearOf_32 (by decide) ?_
  refine sa_iald C d_X12_wearOf_34 (fun v8 => ?_)
  refine sa_invV (ci := 12) C (k_X12_wearBy this v2 v3 v6 v7 v8) q1818 ds_X12_wearBy q128 rfl q1817 q72 q1815 (gd_X12_wearBy this v2 v3 v6 v7 v8) rfl rfl rfl (Nat.le_of_ble_eq_true rfl) (by decide) (by decide) d_X12_wearOf_35 (fun v9 => ?_)
  exact sa_iret C d_X12_wearOf_38
theorem k_X12_wearOf (this : Nat) (a1 : Nat) (a2 : Int32) : sa_Met 132 yX12_wearOf cX12_wearOf 4 (some .int) (fun ad => [.ref (ad this), .ref (ad a1), .int a2]) sa_eI (f_X12_wearOf this a1 a2) := sa_mk (by decide) (fun ad => Nat.le_of_ble_eq_true rfl) (fun p l e s m args below meth c D ad cA A C => b_X12_wearOf this a1 a2 C)
theorem gd_X12_wearOf (this : Nat) (a1 : Nat) (a2 : Int32) (σ : sa_St) (r : Int32) (τ : sa_St) (h : f_X12_wearOf this a1 a2 σ = some (r, τ)) : sa_sh this = some (.inl 12) := sa_gd_ok h
theorem d_X12_spot_0 : decode cX12_spot 0 = .ok (.aload_n 0, 1) := by decide +kernel
theorem d_X12_spot_1 : decode cX12_spot 1 = .ok (.iconst 0, 1) := by decide +kernel
theorem d_X12_spot_2 : decode cX12_spot 2 = .ok (.putfield 127, 3) := by decide +kernel
theorem d_X12_spot_5 : decode cX12_spot 5 = .ok (.aload_n 0, 1) := by decide +kernel
theorem d_X12_spot_6 : decode cX12_spot 6 = .ok (.iload_n 1, 1) := by decide +kernel
theorem d_X12_spot_7 : decode cX12_spot 7 = .ok (.invokevirtual 372, 3) := by decide +kernel
theorem d_X12_spot_10 : decode cX12_spot 10 = .ok (.ifCond .eq 15, 3) := by decide +kernel
theorem d_X12_spot_13 : decode cX12_spot 13 = .ok (.iload_n 2, 1) := by decide +kernel
theorem d_X12_spot_14 : decode cX12_spot 14 = .ok (.i2l, 1) := by decide +kernel
theorem d_X12_spot_15 : decode cX12_spot 15 = .ok (.lconst 0, 1) := by decide +kernel
theorem d_X12_spot_16 : decode cX12_spot 16 = .ok (.ldc2_w 375, 3) := by decide +kernel
theorem d_X12_spot_19 : decode cX12_spot 19 = .ok (.invokestatic 248, 3) := by decide +kernel
theorem d_X12_spot_22 : decode cX12_spot 22 = .ok (.ifCond .ne 5, 3) := by decide +kernel
theorem d_X12_spot_25 : decode cX12_spot 25 = .ok (.iconst (-1), 1) := by decide +kernel
theorem d_X12_spot_26 : decode cX12_spot 26 = .ok (.ireturn, 1) := by decide +kernel
theorem d_X12_spot_27 : decode cX12_spot 27 = .ok (.iload_n 2, 1) := by decide +kernel
theorem d_X12_spot_28 : decode cX12_spot 28 = .ok (.iconst 4, 1) := by decide +kernel
theorem d_X12_spot_29 : decode cX12_spot 29 = .ok (.if_icmp .ge 16, 3) := by decide +kernel
theorem d_X12_spot_32 : decode cX12_spot 32 = .ok (.aload_n 0, 1) := by decide +kernel
theorem d_X12_spot_33 : decode cX12_spot 33 = .ok (.getfield 37, 3) := by decide +kernel
theorem d_X12_spot_36 : decode cX12_spot 36 = .ok (.iconst 4, 1) := by decide +kernel
theorem d_X12_spot_37 : decode cX12_spot 37 = .ok (.iload_n 1, 1) := by decide +kernel
theorem d_X12_spot_38 : decode cX12_spot 38 = .ok (.imul, 1) := by decide +kernel
theorem d_X12_spot_39 : decode cX12_spot 39 = .ok (.iload_n 2, 1) := by decide +kernel
theorem d_X12_spot_40 : decode cX12_spot 40 = .ok (.iadd, 1) := by decide +kernel
theorem d_X12_spot_41 : decode cX12_spot 41 = .ok (.iaload, 1) := by decide +kernel
theorem d_X12_spot_42 : decode cX12_spot 42 = .ok (.goto 18, 3) := by decide +kernel
theorem d_X12_spot_45 : decode cX12_spot 45 = .ok (.aload_n 0, 1) := by decide +kernel
theorem d_X12_spot_46 : decode cX12_spot 46 = .ok (.getfield 64, 3) := by decide +kernel
theorem d_X12_spot_49 : decode cX12_spot 49 = .ok (.bipush 56, 2) := by decide +kernel
theorem d_X12_spot_51 : decode cX12_spot 51 = .ok (.iconst 2, 1) := by decide +kernel
theorem d_X12_spot_52 : decode cX12_spot 52 = .ok (.iload_n 1, 1) := by decide +kernel
theorem d_X12_spot_53 : decode cX12_spot 53 = .ok (.imul, 1) := by decide +kernel
theorem d_X12_spot_54 : decode cX12_spot 54 = .ok (.iadd, 1) := by decide +kernel
theorem d_X12_spot_55 : decode cX12_spot 55 = .ok (.iload_n 2, 1) := by decide +kernel
theorem d_X12_spot_56 : decode cX12_spot 56 = .ok (.iadd, 1) := by decide +kernel
theorem d_X12_spot_57 : decode cX12_spot 57 = .ok (.iconst 4, 1) := by decide +kernel
theorem d_X12_spot_58 : decode cX12_spot 58 = .ok (.isub, 1) := by decide +kernel
theorem d_X12_spot_59 : decode cX12_spot 59 = .ok (.iaload, 1) := by decide +kernel
theorem d_X12_spot_60 : decode cX12_spot 60 = .ok (.ireturn, 1) := by decide +kernel
def f_X12_spot (this : Nat) (a1 : Int32) (a2 : Int32) : sa_M Int32 :=
sa_gd 12 this (
sa_bnd (sa_wrI 12 this 0 0) fun _ =>
sa_bnd (f_X12_isPlace this a1) fun v1 =>
sa_jn0 (sa_ret ((-1) : Int32)) fun j25 =>
if v1 = 0 then
j25
else
sa_bnd (f_X12_isIn (a2.toInt64) 0 5) fun v2 =>
if ¬ v2 = 0 then
sa_jn1 (fun (y3 : Int32) =>
sa_ret (y3 : Int32)) fun j60 =>
if 4 ≤ a2 then
sa_bnd (sa_rdR 12 this 35) fun v4 =>
sa_bnd (sa_ldI .int v4 (((56 + (2 * a1)) + a2) - 4)) fun v5 =>
j60 v5
else
sa_bnd (sa_rdR 12 this 18) fun v6 =>
sa_bnd (sa_ldI .int v6 ((4 * a1) + a2)) fun v7 =>
j60 v7
else
j25)
set_option maxHeartbeats 1000000 in
set_option maxRecDepth 10000 in
theorem b_X12_spot {p : Program} {l : Launch} {e : Env} {s : State} {m : MethodId} {args : Array Value} {below : List Frame} {meth : Method} {c : Code} {D : va_G} {ad : Nat → Nat} {cA : FieldType → ClassId} {A : Nat → Prop} (this : Nat) (a1 : Int32) (a2 : Int32) (C : sa_C p s m args meth c cX12_spot RX12 "spot" 3 (some .int) D ad cA A) : sa_Sg p l e s m args below meth c 3 2 D ad cA A sa_eI 0 [(0, .ref (ad this)), (1, .int a1), (2, .int a2)] [] (f_X12_spot this a1 a2) := by
  unfold f_X12_spot
  refine sa_gdI ?_
  refine sa_aload_n C d_X12_spot_0 rfl 0 rfl ?_
  refine sa_iconst (v := 0) C d_X12_spot_1 (by decide) ?_
  refine sa_putI C fd_X12_127 d_X12_spot_2 ?_
  refine sa_aload_n C d_X12_spot_5 rfl 0 rfl ?_
  refine sa_iload_n C d_X12_spot_6 rfl 1 rfl ?_
  refine sa_invV (ci := 12) C (k_X12_isPlace this a1) q1785 ds_X12_isPlace q128 rfl q1784 q70 q1782 (gd_X12_isPlace this a1) rfl rfl rfl (Nat.le_of_ble_eq_true rfl) (by decide) (by decide) d_X12_spot_7 (fun v1 => ?_)
  refine sa_join0 25 ([]) ([]) (?_) (fun j25 hj25 => ?_)
  · refine sa_iconst (v := (-1)) C d_X12_spot_25 (by decide) ?_
    exact sa_iret C d_X12_spot_26
  refine sa_if_eq (tgt := 25) C d_X12_spot_10 (by decide) ?_ ?_
  · exact sa_sub [] rfl (hj25)
  refine sa_iload_n C d_X12_spot_13 rfl 2 rfl ?_
  refine sa_i2l C d_X12_spot_14 ?_
  refine sa_lconst (v := 0) C d_X12_spot_15 (by decide) ?_
  refine sa_ldc2 (v := 5) C d_X12_spot_16 q1786 ?_
  refine sa_invS C (k_X12_isIn (a2.toInt64) 0 5) q1637 ds_X12_isIn q128 q1636 q1635 rfl rfl rfl (Nat.le_of_ble_eq_true rfl) (by decide) (by decide) d_X12_spot_19 (fun v2 => ?_)
  refine sa_if_ne (tgt := 27) C d_X12_spot_22 (by decide) ?_ ?_
  · refine sa_iload_n C d_X12_spot_27 rfl 2 rfl ?_
    refine sa_iconst (v := 4) C d_X12_spot_28 (by decide) ?_
    refine sa_join1 60 (fun y3 => []) (fun y3 => [.int y3]) (fun y3 => ?_) (fun j60 hj60 => ?_)
    · exact sa_iret C d_X12_spot_60
    refine sa_icmp_ge (tgt := 45) C d_X12_spot_29 (by decide) ?_ ?_
    · refine sa_aload_n C d_X12_spot_45 rfl 0 rfl ?_
      refine sa_getR C fd_X12_64 rfl d_X12_spot_46 (fun v4 => ?_)
      refine sa_bipush (v := 56) C d_X12_spot_49 (by decide) ?_
      refine sa_iconst (v := 2) C d_X12_spot_51 (by decide) ?_
      refine sa_iload_n C d_X12_spot_52 rfl 1 rfl ?_
      refine sa_imul C d_X12_spot_53 ?_
      refine sa_iadd C d_X12_spot_54 ?_
      refine sa_iload_n C d_X12_spot_55 rfl 2 rfl ?_
      refine sa_iadd C d_X12_spot_56 ?_
      refine sa_iconst (v := 4) C d_X12_spot_57 (by decide) ?_
      refine sa_isub C d_X12_spot_58 ?_
      refine sa_iald C d_X12_spot_59 (fun v5 => ?_)
      exact sa_sub [] rfl (hj60 _)
    refine sa_aload_n C d_X12_spot_32 rfl 0 rfl ?_
    refine sa_getR C fd_X12_37 rfl d_X12_spot_33 (fun v6 => ?_)
    refine sa_iconst (v := 4) C d_X12_spot_36 (by decide) ?_
    refine sa_iload_n C d_X12_spot_37 rfl 1 rfl ?_
    refine sa_imul C d_X12_spot_38 ?_
    refine sa_iload_n C d_X12_spot_39 rfl 2 rfl ?_
    refine sa_iadd C d_X12_spot_40 ?_
    refine sa_iald C d_X12_spot_41 (fun v7 => ?_)
    refine sa_goto (tgt := 60) C d_X12_spot_42 (by decide) ?_
    exact sa_sub [] rfl (hj60 _)
  exact sa_sub [] rfl (hj25)
theorem k_X12_spot (this : Nat) (a1 : Int32) (a2 : Int32) : sa_Met 2 yX12_spot cX12_spot 3 (some .int) (fun ad => [.ref (ad this), .int a1, .int a2]) sa_eI (f_X12_spot this a1 a2) := sa_mk (by decide) (fun ad => Nat.le_of_ble_eq_true rfl) (fun p l e s m args below meth c D ad cA A C => b_X12_spot this a1 a2 C)
theorem gd_X12_spot (this : Nat) (a1 : Int32) (a2 : Int32) (σ : sa_St) (r : Int32) (τ : sa_St) (h : f_X12_spot this a1 a2 σ = some (r, τ)) : sa_sh this = some (.inl 12) := sa_gd_ok h
theorem d_X12_way_0 : decode cX12_way 0 = .ok (.aload_n 0, 1) := by decide +kernel
theorem d_X12_way_1 : decode cX12_way 1 = .ok (.iconst 0, 1) := by decide +kernel
theorem d_X12_way_2 : decode cX12_way 2 = .ok (.putfield 127, 3) := by decide +kernel
theorem d_X12_way_5 : decode cX12_way 5 = .ok (.iload_n 1, 1) := by decide +kernel
theorem d_X12_way_6 : decode cX12_way 6 = .ok (.ifCond .lt 36, 3) := by decide +kernel
theorem d_X12_way_9 : decode cX12_way 9 = .ok (.iload_n 1, 1) := by decide +kernel
theorem d_X12_way_10 : decode cX12_way 10 = .ok (.aload_n 0, 1) := by decide +kernel
theorem d_X12_way_11 : decode cX12_way 11 = .ok (.getfield 334, 3) := by decide +kernel
theorem d_X12_way_14 : decode cX12_way 14 = .ok (.if_icmp .ge 28, 3) := by decide +kernel
theorem d_X12_way_17 : decode cX12_way 17 = .ok (.iload_n 2, 1) := by decide +kernel
theorem d_X12_way_18 : decode cX12_way 18 = .ok (.i2l, 1) := by decide +kernel
theorem d_X12_way_19 : decode cX12_way 19 = .ok (.lconst 0, 1) := by decide +kernel
theorem d_X12_way_20 : decode cX12_way 20 = .ok (.ldc2_w 377, 3) := by decide +kernel
theorem d_X12_way_23 : decode cX12_way 23 = .ok (.invokestatic 248, 3) := by decide +kernel
theorem d_X12_way_26 : decode cX12_way 26 = .ok (.ifCond .eq 16, 3) := by decide +kernel
theorem d_X12_way_29 : decode cX12_way 29 = .ok (.aload_n 0, 1) := by decide +kernel
theorem d_X12_way_30 : decode cX12_way 30 = .ok (.getfield 43, 3) := by decide +kernel
theorem d_X12_way_33 : decode cX12_way 33 = .ok (.iconst 4, 1) := by decide +kernel
theorem d_X12_way_34 : decode cX12_way 34 = .ok (.iload_n 1, 1) := by decide +kernel
theorem d_X12_way_35 : decode cX12_way 35 = .ok (.imul, 1) := by decide +kernel
theorem d_X12_way_36 : decode cX12_way 36 = .ok (.iload_n 2, 1) := by decide +kernel
theorem d_X12_way_37 : decode cX12_way 37 = .ok (.iadd, 1) := by decide +kernel
theorem d_X12_way_38 : decode cX12_way 38 = .ok (.iaload, 1) := by decide +kernel
theorem d_X12_way_39 : decode cX12_way 39 = .ok (.goto 4, 3) := by decide +kernel
theorem d_X12_way_42 : decode cX12_way 42 = .ok (.iconst (-1), 1) := by decide +kernel
theorem d_X12_way_43 : decode cX12_way 43 = .ok (.ireturn, 1) := by decide +kernel
def f_X12_way (this : Nat) (a1 : Int32) (a2 : Int32) : sa_M Int32 :=
sa_gd 12 this (
sa_bnd (sa_wrI 12 this 0 0) fun _ =>
sa_jn1 (fun (y1 : Int32) =>
sa_ret (y1 : Int32)) fun j43 =>
sa_jn0 (j43 (-1)) fun j42 =>
if a1 < 0 then
j42
else
sa_bnd (sa_rdI 12 this 26) fun v2 =>
if v2 ≤ a1 then
j42
else
sa_bnd (f_X12_isIn (a2.toInt64) 0 3) fun v3 =>
if v3 = 0 then
j42
else
sa_bnd (sa_rdR 12 this 20) fun v4 =>
sa_bnd (sa_ldI .int v4 ((4 * a1) + a2)) fun v5 =>
j43 v5)
set_option maxHeartbeats 1000000 in
set_option maxRecDepth 10000 in
theorem b_X12_way {p : Program} {l : Launch} {e : Env} {s : State} {m : MethodId} {args : Array Value} {below : List Frame} {meth : Method} {c : Code} {D : va_G} {ad : Nat → Nat} {cA : FieldType → ClassId} {A : Nat → Prop} (this : Nat) (a1 : Int32) (a2 : Int32) (C : sa_C p s m args meth c cX12_way RX12 "way" 3 (some .int) D ad cA A) : sa_Sg p l e s m args below meth c 3 2 D ad cA A sa_eI 0 [(0, .ref (ad this)), (1, .int a1), (2, .int a2)] [] (f_X12_way this a1 a2) := by
  unfold f_X12_way
  refine sa_gdI ?_
  refine sa_aload_n C d_X12_way_0 rfl 0 rfl ?_
  refine sa_iconst (v := 0) C d_X12_way_1 (by decide) ?_
  refine sa_putI C fd_X12_127 d_X12_way_2 ?_
  refine sa_iload_n C d_X12_way_5 rfl 1 rfl ?_
  refine sa_join1 43 (fun y1 => []) (fun y1 => [.int y1]) (fun y1 => ?_) (fun j43 hj43 => ?_)
  · exact sa_iret C d_X12_way_43
  refine sa_join0 42 ([]) ([]) (?_) (fun j42 hj42 => ?_)
  · refine sa_iconst (v := (-1)) C d_X12_way_42 (by decide) ?_
    exact sa_sub [] rfl (hj43 _)
  refine sa_if_lt (tgt := 42) C d_X12_way_6 (by decide) ?_ ?_
  · exact sa_sub [] rfl (hj42)
  refine sa_iload_n C d_X12_way_9 rfl 1 rfl ?_
  refine sa_aload_n C d_X12_way_10 rfl 0 rfl ?_
  refine sa_getI C fd_X12_334 d_X12_way_11 (fun v2 => ?_)
  refine sa_icmp_ge (tgt := 42) C d_X12_way_14 (by decide) ?_ ?_
  · exact sa_sub [] rfl (hj42)
  refine sa_iload_n C d_X12_way_17 rfl 2 rfl ?_
  refine sa_i2l C d_X12_way_18 ?_
  refine sa_lconst (v := 0) C d_X12_way_19 (by decide) ?_
  refine sa_ldc2 (v := 3) C d_X12_way_20 q1791 ?_
  refine sa_invS C (k_X12_isIn (a2.toInt64) 0 3) q1637 ds_X12_isIn q128 q1636 q1635 rfl rfl rfl (Nat.le_of_ble_eq_true rfl) (by decide) (by decide) d_X12_way_23 (fun v3 => ?_)
  refine sa_if_eq (tgt := 42) C d_X12_way_26 (by decide) ?_ ?_
  · exact sa_sub [] rfl (hj42)
  refine sa_aload_n C d_X12_way_29 rfl 0 rfl ?_
  refine sa_getR C fd_X12_43 rfl d_X12_way_30 (fun v4 => ?_)
  refine sa_iconst (v := 4) C d_X12_way_33 (by decide) ?_
  refine sa_iload_n C d_X12_way_34 rfl 1 rfl ?_
  refine sa_imul C d_X12_way_35 ?_
  refine sa_iload_n C d_X12_way_36 rfl 2 rfl ?_
  refine sa_iadd C d_X12_way_37 ?_
  refine sa_iald C d_X12_way_38 (fun v5 => ?_)
  refine sa_goto (tgt := 43) C d_X12_way_39 (by decide) ?_
  exact sa_sub [] rfl (hj43 _)
theorem k_X12_way (this : Nat) (a1 : Int32) (a2 : Int32) : sa_Met 2 yX12_way cX12_way 3 (some .int) (fun ad => [.ref (ad this), .int a1, .int a2]) sa_eI (f_X12_way this a1 a2) := sa_mk (by decide) (fun ad => Nat.le_of_ble_eq_true rfl) (fun p l e s m args below meth c D ad cA A C => b_X12_way this a1 a2 C)
theorem gd_X12_way (this : Nat) (a1 : Int32) (a2 : Int32) (σ : sa_St) (r : Int32) (τ : sa_St) (h : f_X12_way this a1 a2 σ = some (r, τ)) : sa_sh this = some (.inl 12) := sa_gd_ok h
theorem d_X12_company_0 : decode cX12_company 0 = .ok (.aload_n 0, 1) := by decide +kernel
theorem d_X12_company_1 : decode cX12_company 1 = .ok (.iload_n 1, 1) := by decide +kernel
theorem d_X12_company_2 : decode cX12_company 2 = .ok (.ifCond .lt 30, 3) := by decide +kernel
theorem d_X12_company_5 : decode cX12_company 5 = .ok (.iload_n 1, 1) := by decide +kernel
theorem d_X12_company_6 : decode cX12_company 6 = .ok (.aload_n 0, 1) := by decide +kernel
theorem d_X12_company_7 : decode cX12_company 7 = .ok (.getfield 64, 3) := by decide +kernel
theorem d_X12_company_10 : decode cX12_company 10 = .ok (.bipush 75, 2) := by decide +kernel
theorem d_X12_company_12 : decode cX12_company 12 = .ok (.iaload, 1) := by decide +kernel
theorem d_X12_company_13 : decode cX12_company 13 = .ok (.if_icmp .ge 19, 3) := by decide +kernel
theorem d_X12_company_16 : decode cX12_company 16 = .ok (.iload_n 2, 1) := by decide +kernel
theorem d_X12_company_17 : decode cX12_company 17 = .ok (.i2l, 1) := by decide +kernel
theorem d_X12_company_18 : decode cX12_company 18 = .ok (.lconst 0, 1) := by decide +kernel
theorem d_X12_company_19 : decode cX12_company 19 = .ok (.ldc2_w 375, 3) := by decide +kernel
theorem d_X12_company_22 : decode cX12_company 22 = .ok (.invokestatic 248, 3) := by decide +kernel
theorem d_X12_company_25 : decode cX12_company 25 = .ok (.ifCond .eq 7, 3) := by decide +kernel
theorem d_X12_company_28 : decode cX12_company 28 = .ok (.iconst 0, 1) := by decide +kernel
theorem d_X12_company_29 : decode cX12_company 29 = .ok (.goto 4, 3) := by decide +kernel
theorem d_X12_company_32 : decode cX12_company 32 = .ok (.iconst 1, 1) := by decide +kernel
theorem d_X12_company_33 : decode cX12_company 33 = .ok (.putfield 127, 3) := by decide +kernel
theorem d_X12_company_36 : decode cX12_company 36 = .ok (.aload_n 0, 1) := by decide +kernel
theorem d_X12_company_37 : decode cX12_company 37 = .ok (.getfield 127, 3) := by decide +kernel
theorem d_X12_company_40 : decode cX12_company 40 = .ok (.ifCond .le 7, 3) := by decide +kernel
theorem d_X12_company_43 : decode cX12_company 43 = .ok (.iconst 0, 1) := by decide +kernel
theorem d_X12_company_44 : decode cX12_company 44 = .ok (.goto 14, 3) := by decide +kernel
theorem d_X12_company_47 : decode cX12_company 47 = .ok (.aload_n 0, 1) := by decide +kernel
theorem d_X12_company_48 : decode cX12_company 48 = .ok (.getfield 64, 3) := by decide +kernel
theorem d_X12_company_51 : decode cX12_company 51 = .ok (.bipush 7, 2) := by decide +kernel
theorem d_X12_company_53 : decode cX12_company 53 = .ok (.iload_n 1, 1) := by decide +kernel
theorem d_X12_company_54 : decode cX12_company 54 = .ok (.imul, 1) := by decide +kernel
theorem d_X12_company_55 : decode cX12_company 55 = .ok (.iload_n 2, 1) := by decide +kernel
theorem d_X12_company_56 : decode cX12_company 56 = .ok (.iadd, 1) := by decide +kernel
theorem d_X12_company_57 : decode cX12_company 57 = .ok (.iaload, 1) := by decide +kernel
theorem d_X12_company_58 : decode cX12_company 58 = .ok (.ireturn, 1) := by decide +kernel
def f_X12_company (this : Nat) (a1 : Int32) (a2 : Int32) : sa_M Int32 :=
sa_gd 12 this (
sa_jn1 (fun (y1 : Int32) =>
sa_bnd (sa_wrI 12 this 0 y1) fun _ =>
sa_bnd (sa_rdI 12 this 0) fun v2 =>
sa_jn1 (fun (y3 : Int32) =>
sa_ret (y3 : Int32)) fun j58 =>
if v2 ≤ 0 then
sa_bnd (sa_rdR 12 this 35) fun v4 =>
sa_bnd (sa_ldI .int v4 ((7 * a1) + a2)) fun v5 =>
j58 v5
else
j58 0) fun j33 =>
sa_jn0 (j33 1) fun j32 =>
if a1 < 0 then
j32
else
sa_bnd (sa_rdR 12 this 35) fun v6 =>
sa_bnd (sa_ldI .int v6 75) fun v7 =>
if v7 ≤ a1 then
j32
else
sa_bnd (f_X12_isIn (a2.toInt64) 0 5) fun v8 =>
if v8 = 0 then
j32
else
j33 0)
set_option maxHeartbeats 1000000 in
set_option maxRecDepth 10000 in
theorem b_X12_company {p : Program} {l : Launch} {e : Env} {s : State} {m : MethodId} {args : Array Value} {below : List Frame} {meth : Method} {c : Code} {D : va_G} {ad : Nat → Nat} {cA : FieldType → ClassId} {A : Nat → Prop} (this : Nat) (a1 : Int32) (a2 : Int32) (C : sa_C p s m args meth c cX12_company RX12 "company" 3 (some .int) D ad cA A) : sa_Sg p l e s m args below meth c 3 2 D ad cA A sa_eI 0 [(0, .ref (ad this)), (1, .int a1), (2, .int a2)] [] (f_X12_company this a1 a2) := by
  unfold f_X12_company
  refine sa_gdI ?_
  refine sa_aload_n C d_X12_company_0 rfl 0 rfl ?_
  refine sa_iload_n C d_X12_company_1 rfl 1 rfl ?_
  refine sa_join1 33 (fun y1 => [(0, .ref (ad this)), (1, .int a1), (2, .int a2)]) (fun y1 => [.int y1, .ref (ad this)]) (fun y1 => ?_) (fun j33 hj33 => ?_)
  · refine sa_putI C fd_X12_127 d_X12_company_33 ?_
    refine sa_aload_n C d_X12_company_36 rfl 0 rfl ?_
    refine sa_getI C fd_X12_127 d_X12_company_37 (fun v2 => ?_)
    refine sa_join1 58 (fun y3 => []) (fun y3 => [.int y3]) (fun y3 => ?_) (fun j58 hj58 => ?_)
    · exact sa_iret C d_X12_company_58
    refine sa_if_le (tgt := 47) C d_X12_company_40 (by decide) ?_ ?_
    · refine sa_aload_n C d_X12_company_47 rfl 0 rfl ?_
      refine sa_getR C fd_X12_64 rfl d_X12_company_48 (fun v4 => ?_)
      refine sa_bipush (v := 7) C d_X12_company_51 (by decide) ?_
      refine sa_iload_n C d_X12_company_53 rfl 1 rfl ?_
      refine sa_imul C d_X12_company_54 ?_
      refine sa_iload_n C d_X12_company_55 rfl 2 rfl ?_
      refine sa_iadd C d_X12_company_56 ?_
      refine sa_iald C d_X12_company_57 (fun v5 => ?_)
      exact sa_sub [] rfl (hj58 _)
    refine sa_iconst (v := 0) C d_X12_company_43 (by decide) ?_
    refine sa_goto (tgt := 58) C d_X12_company_44 (by decide) ?_
    exact sa_sub [] rfl (hj58 _)
  refine sa_join0 32 ([(0, .ref (ad this)), (1, .int a1), (2, .int a2)]) ([.ref (ad this)]) (?_) (fun j32 hj32 => ?_)
  · refine sa_iconst (v := 1) C d_X12_company_32 (by decide) ?_
    exact sa_sub [0, 1, 2] rfl (hj33 _)
  refine sa_if_lt (tgt := 32) C d_X12_company_2 (by decide) ?_ ?_
  · exact sa_sub [0, 1, 2] rfl (hj32)
  refine sa_iload_n C d_X12_company_5 rfl 1 rfl ?_
  refine sa_aload_n C d_X12_company_6 rfl 0 rfl ?_
  refine sa_getR C fd_X12_64 rfl d_X12_company_7 (fun v6 => ?_)
  refine sa_bipush (v := 75) C d_X12_company_10 (by decide) ?_
  refine sa_iald C d_X12_company_12 (fun v7 => ?_)
  refine sa_icmp_ge (tgt := 32) C d_X12_company_13 (by decide) ?_ ?_
  · exact sa_sub [0, 1, 2] rfl (hj32)
  refine sa_iload_n C d_X12_company_16 rfl 2 rfl ?_
  refine sa_i2l C d_X12_company_17 ?_
  refine sa_lconst (v := 0) C d_X12_company_18 (by decide) ?_
  refine sa_ldc2 (v := 5) C d_X12_company_19 q1786 ?_
  refine sa_invS C (k_X12_isIn (a2.toInt64) 0 5) q1637 ds_X12_isIn q128 q1636 q1635 rfl rfl rfl (Nat.le_of_ble_eq_true rfl) (by decide) (by decide) d_X12_company_22 (fun v8 => ?_)
  refine sa_if_eq (tgt := 32) C d_X12_company_25 (by decide) ?_ ?_
  · exact sa_sub [0, 1, 2] rfl (hj32)
  refine sa_iconst (v := 0) C d_X12_company_28 (by decide) ?_
  refine sa_goto (tgt := 33) C d_X12_company_29 (by decide) ?_
  exact sa_sub [0, 1, 2] rfl (hj33 _)
theorem k_X12_company (this : Nat) (a1 : Int32) (a2 : Int32) : sa_Met 2 yX12_company cX12_company 3 (some .int) (fun ad => [.ref (ad this), .int a1, .int a2]) sa_eI (f_X12_company this a1 a2) := sa_mk (by decide) (fun ad => Nat.le_of_ble_eq_true rfl) (fun p l e s m args below meth c D ad cA A C => b_X12_company this a1 a2 C)
theorem gd_X12_company (this : Nat) (a1 : Int32) (a2 : Int32) (σ : sa_St) (r : Int32) (τ : sa_St) (h : f_X12_company this a1 a2 σ = some (r, τ)) : sa_sh this = some (.inl 12) := sa_gd_ok h
theorem d_X12_foe_0 : decode cX12_foe 0 = .ok (.aload_n 0, 1) := by decide +kernel
theorem d_X12_foe_1 : decode cX12_foe 1 = .ok (.iconst 0, 1) := by decide +kernel
theorem d_X12_foe_2 : decode cX12_foe 2 = .ok (.putfield 127, 3) := by decide +kernel
theorem d_X12_foe_5 : decode cX12_foe 5 = .ok (.iload_n 1, 1) := by decide +kernel
theorem d_X12_foe_6 : decode cX12_foe 6 = .ok (.ifCond .lt 21, 3) := by decide +kernel
theorem d_X12_foe_9 : decode cX12_foe 9 = .ok (.iload_n 1, 1) := by decide +kernel
theorem d_X12_foe_10 : decode cX12_foe 10 = .ok (.aload_n 0, 1) := by decide +kernel
theorem d_X12_foe_11 : decode cX12_foe 11 = .ok (.getfield 337, 3) := by decide +kernel
theorem d_X12_foe_14 : decode cX12_foe 14 = .ok (.if_icmp .ge 13, 3) := by decide +kernel
theorem d_X12_foe_17 : decode cX12_foe 17 = .ok (.iload_n 2, 1) := by decide +kernel
theorem d_X12_foe_18 : decode cX12_foe 18 = .ok (.i2l, 1) := by decide +kernel
theorem d_X12_foe_19 : decode cX12_foe 19 = .ok (.lconst 0, 1) := by decide +kernel
theorem d_X12_foe_20 : decode cX12_foe 20 = .ok (.lconst 1, 1) := by decide +kernel
theorem d_X12_foe_21 : decode cX12_foe 21 = .ok (.invokestatic 248, 3) := by decide +kernel
theorem d_X12_foe_24 : decode cX12_foe 24 = .ok (.ifCond .ne 5, 3) := by decide +kernel
theorem d_X12_foe_27 : decode cX12_foe 27 = .ok (.iconst (-1), 1) := by decide +kernel
theorem d_X12_foe_28 : decode cX12_foe 28 = .ok (.ireturn, 1) := by decide +kernel
theorem d_X12_foe_29 : decode cX12_foe 29 = .ok (.iload_n 2, 1) := by decide +kernel
theorem d_X12_foe_30 : decode cX12_foe 30 = .ok (.ifCond .ne 14, 3) := by decide +kernel
theorem d_X12_foe_33 : decode cX12_foe 33 = .ok (.aload_n 0, 1) := by decide +kernel
theorem d_X12_foe_34 : decode cX12_foe 34 = .ok (.getfield 52, 3) := by decide +kernel
theorem d_X12_foe_37 : decode cX12_foe 37 = .ok (.iconst 2, 1) := by decide +kernel
theorem d_X12_foe_38 : decode cX12_foe 38 = .ok (.iload_n 1, 1) := by decide +kernel
theorem d_X12_foe_39 : decode cX12_foe 39 = .ok (.imul, 1) := by decide +kernel
theorem d_X12_foe_40 : decode cX12_foe 40 = .ok (.iaload, 1) := by decide +kernel
theorem d_X12_foe_41 : decode cX12_foe 41 = .ok (.goto 12, 3) := by decide +kernel
theorem d_X12_foe_44 : decode cX12_foe 44 = .ok (.aload_n 0, 1) := by decide +kernel
theorem d_X12_foe_45 : decode cX12_foe 45 = .ok (.getfield 64, 3) := by decide +kernel
theorem d_X12_foe_48 : decode cX12_foe 48 = .ok (.bipush 72, 2) := by decide +kernel
theorem d_X12_foe_50 : decode cX12_foe 50 = .ok (.iload_n 1, 1) := by decide +kernel
theorem d_X12_foe_51 : decode cX12_foe 51 = .ok (.iadd, 1) := by decide +kernel
theorem d_X12_foe_52 : decode cX12_foe 52 = .ok (.iaload, 1) := by decide +kernel
theorem d_X12_foe_53 : decode cX12_foe 53 = .ok (.ireturn, 1) := by decide +kernel
def f_X12_foe (this : Nat) (a1 : Int32) (a2 : Int32) : sa_M Int32 :=
sa_gd 12 this (
sa_bnd (sa_wrI 12 this 0 0) fun _ =>
sa_jn0 (sa_ret ((-1) : Int32)) fun j27 =>
if a1 < 0 then
j27
else
sa_bnd (sa_rdI 12 this 27) fun v1 =>
if v1 ≤ a1 then
j27
else
sa_bnd (f_X12_isIn (a2.toInt64) 0 1) fun v2 =>
if ¬ v2 = 0 then
sa_jn1 (fun (y3 : Int32) =>
sa_ret (y3 : Int32)) fun j53 =>
if ¬ a2 = 0 then
sa_bnd (sa_rdR 12 this 35) fun v4 =>
sa_bnd (sa_ldI .int v4 (72 + a1)) fun v5 =>
j53 v5
else
sa_bnd (sa_rdR 12 this 23) fun v6 =>
sa_bnd (sa_ldI .int v6 (2 * a1)) fun v7 =>
j53 v7
else
j27)
set_option maxHeartbeats 1000000 in
set_option maxRecDepth 10000 in
theorem b_X12_foe {p : Program} {l : Launch} {e : Env} {s : State} {m : MethodId} {args : Array Value} {below : List Frame} {meth : Method} {c : Code} {D : va_G} {ad : Nat → Nat} {cA : FieldType → ClassId} {A : Nat → Prop} (this : Nat) (a1 : Int32) (a2 : Int32) (C : sa_C p s m args meth c cX12_foe RX12 "foe" 3 (some .int) D ad cA A) : sa_Sg p l e s m args below meth c 3 2 D ad cA A sa_eI 0 [(0, .ref (ad this)), (1, .int a1), (2, .int a2)] [] (f_X12_foe this a1 a2) := by
  unfold f_X12_foe
  refine sa_gdI ?_
  refine sa_aload_n C d_X12_foe_0 rfl 0 rfl ?_
  refine sa_iconst (v := 0) C d_X12_foe_1 (by decide) ?_
  refine sa_putI C fd_X12_127 d_X12_foe_2 ?_
  refine sa_iload_n C d_X12_foe_5 rfl 1 rfl ?_
  refine sa_join0 27 ([]) ([]) (?_) (fun j27 hj27 => ?_)
  · refine sa_iconst (v := (-1)) C d_X12_foe_27 (by decide) ?_
    exact sa_iret C d_X12_foe_28
  refine sa_if_lt (tgt := 27) C d_X12_foe_6 (by decide) ?_ ?_
  · exact sa_sub [] rfl (hj27)
  refine sa_iload_n C d_X12_foe_9 rfl 1 rfl ?_
  refine sa_aload_n C d_X12_foe_10 rfl 0 rfl ?_
  refine sa_getI C fd_X12_337 d_X12_foe_11 (fun v1 => ?_)
  refine sa_icmp_ge (tgt := 27) C d_X12_foe_14 (by decide) ?_ ?_
  · exact sa_sub [] rfl (hj27)
  refine sa_iload_n C d_X12_foe_17 rfl 2 rfl ?_
  refine sa_i2l C d_X12_foe_18 ?_
  refine sa_lconst (v := 0) C d_X12_foe_19 (by decide) ?_
  refine sa_lconst (v := 1) C d_X12_foe_20 (by decide) ?_
  refine sa_invS C (k_X12_isIn (a2.toInt64) 0 1) q1637 ds_X12_isIn q128 q1636 q1635 rfl rfl rfl (Nat.le_of_ble_eq_true rfl) (by decide) (by decide) d_X12_foe_21 (fun v2 => ?_)
  refine sa_if_ne (tgt := 29) C d_X12_foe_24 (by decide) ?_ ?_
  · refine sa_iload_n C d_X12_foe_29 rfl 2 rfl ?_
    refine sa_join1 53 (fun y3 => []) (fun y3 => [.int y3]) (fun y3 => ?_) (fun j53 hj53 => ?_)
    · exact sa_iret C d_X12_foe_53
    refine sa_if_ne (tgt := 44) C d_X12_foe_30 (by decide) ?_ ?_
    · refine sa_aload_n C d_X12_foe_44 rfl 0 rfl ?_
      refine sa_getR C fd_X12_64 rfl d_X12_foe_45 (fun v4 => ?_)
      refine sa_bipush (v := 72) C d_X12_foe_48 (by decide) ?_
      refine sa_iload_n C d_X12_foe_50 rfl 1 rfl ?_
      refine sa_iadd C d_X12_foe_51 ?_
      refine sa_iald C d_X12_foe_52 (fun v5 => ?_)
      exact sa_sub [] rfl (hj53 _)
    refine sa_aload_n C d_X12_foe_33 rfl 0 rfl ?_
    refine sa_getR C fd_X12_52 rfl d_X12_foe_34 (fun v6 => ?_)
    refine sa_iconst (v := 2) C d_X12_foe_37 (by decide) ?_
    refine sa_iload_n C d_X12_foe_38 rfl 1 rfl ?_
    refine sa_imul C d_X12_foe_39 ?_
    refine sa_iald C d_X12_foe_40 (fun v7 => ?_)
    refine sa_goto (tgt := 53) C d_X12_foe_41 (by decide) ?_
    exact sa_sub [] rfl (hj53 _)
  exact sa_sub [] rfl (hj27)
theorem k_X12_foe (this : Nat) (a1 : Int32) (a2 : Int32) : sa_Met 2 yX12_foe cX12_foe 3 (some .int) (fun ad => [.ref (ad this), .int a1, .int a2]) sa_eI (f_X12_foe this a1 a2) := sa_mk (by decide) (fun ad => Nat.le_of_ble_eq_true rfl) (fun p l e s m args below meth c D ad cA A C => b_X12_foe this a1 a2 C)
theorem gd_X12_foe (this : Nat) (a1 : Int32) (a2 : Int32) (σ : sa_St) (r : Int32) (τ : sa_St) (h : f_X12_foe this a1 a2 σ = some (r, τ)) : sa_sh this = some (.inl 12) := sa_gd_ok h
theorem d_X12_law_0 : decode cX12_law 0 = .ok (.aload_n 0, 1) := by decide +kernel
theorem d_X12_law_1 : decode cX12_law 1 = .ok (.iconst 0, 1) := by decide +kernel
theorem d_X12_law_2 : decode cX12_law 2 = .ok (.putfield 127, 3) := by decide +kernel
theorem d_X12_law_5 : decode cX12_law 5 = .ok (.iload_n 1, 1) := by decide +kernel
theorem d_X12_law_6 : decode cX12_law 6 = .ok (.iconst (-1), 1) := by decide +kernel
theorem d_X12_law_7 : decode cX12_law 7 = .ok (.if_icmp .eq 21, 3) := by decide +kernel
theorem d_X12_law_10 : decode cX12_law 10 = .ok (.iload_n 1, 1) := by decide +kernel
theorem d_X12_law_11 : decode cX12_law 11 = .ok (.i2l, 1) := by decide +kernel
theorem d_X12_law_12 : decode cX12_law 12 = .ok (.lconst 0, 1) := by decide +kernel
theorem d_X12_law_13 : decode cX12_law 13 = .ok (.aload_n 0, 1) := by decide +kernel
theorem d_X12_law_14 : decode cX12_law 14 = .ok (.getfield 323, 3) := by decide +kernel
theorem d_X12_law_17 : decode cX12_law 17 = .ok (.iconst 1, 1) := by decide +kernel
theorem d_X12_law_18 : decode cX12_law 18 = .ok (.isub, 1) := by decide +kernel
theorem d_X12_law_19 : decode cX12_law 19 = .ok (.i2l, 1) := by decide +kernel
theorem d_X12_law_20 : decode cX12_law 20 = .ok (.invokestatic 248, 3) := by decide +kernel
theorem d_X12_law_23 : decode cX12_law 23 = .ok (.ifCond .ne 5, 3) := by decide +kernel
theorem d_X12_law_26 : decode cX12_law 26 = .ok (.iconst 0, 1) := by decide +kernel
theorem d_X12_law_27 : decode cX12_law 27 = .ok (.ireturn, 1) := by decide +kernel
theorem d_X12_law_28 : decode cX12_law 28 = .ok (.aload_n 0, 1) := by decide +kernel
theorem d_X12_law_29 : decode cX12_law 29 = .ok (.iload_n 1, 1) := by decide +kernel
theorem d_X12_law_30 : decode cX12_law 30 = .ok (.putfield 70, 3) := by decide +kernel
theorem d_X12_law_33 : decode cX12_law 33 = .ok (.iconst 1, 1) := by decide +kernel
theorem d_X12_law_34 : decode cX12_law 34 = .ok (.ireturn, 1) := by decide +kernel
def f_X12_law (this : Nat) (a1 : Int32) : sa_M Int32 :=
sa_gd 12 this (
sa_bnd (sa_wrI 12 this 0 0) fun _ =>
sa_jn0 (sa_bnd (sa_wrI 12 this 37 a1) fun _ =>
sa_retZ 1) fun j28 =>
if a1 = (-1) then
j28
else
sa_bnd (sa_rdI 12 this 7) fun v1 =>
sa_bnd (f_X12_isIn (a1.toInt64) 0 ((v1 - 1).toInt64)) fun v2 =>
if ¬ v2 = 0 then
j28
else
sa_retZ 0)
set_option maxHeartbeats 1000000 in
set_option maxRecDepth 10000 in
theorem b_X12_law {p : Program} {l : Launch} {e : Env} {s : State} {m : MethodId} {args : Array Value} {below : List Frame} {meth : Method} {c : Code} {D : va_G} {ad : Nat → Nat} {cA : FieldType → ClassId} {A : Nat → Prop} (this : Nat) (a1 : Int32) (C : sa_C p s m args meth c cX12_law RX12 "law" 2 (some .boolean) D ad cA A) : sa_Sg p l e s m args below meth c 2 2 D ad cA A sa_eI 0 [(0, .ref (ad this)), (1, .int a1)] [] (f_X12_law this a1) := by
  unfold f_X12_law
  refine sa_gdI ?_
  refine sa_aload_n C d_X12_law_0 rfl 0 rfl ?_
  refine sa_iconst (v := 0) C d_X12_law_1 (by decide) ?_
  refine sa_putI C fd_X12_127 d_X12_law_2 ?_
  refine sa_iload_n C d_X12_law_5 rfl 1 rfl ?_
  refine sa_iconst (v := (-1)) C d_X12_law_6 (by decide) ?_
  refine sa_join0 28 ([(0, .ref (ad this)), (1, .int a1)]) ([]) (?_) (fun j28 hj28 => ?_)
  · refine sa_aload_n C d_X12_law_28 rfl 0 rfl ?_
    refine sa_iload_n C d_X12_law_29 rfl 1 rfl ?_
    refine sa_putI C fd_X12_70 d_X12_law_30 ?_
    refine sa_iconst (v := 1) C d_X12_law_33 (by decide) ?_
    exact sa_zret C d_X12_law_34
  refine sa_icmp_eq (tgt := 28) C d_X12_law_7 (by decide) ?_ ?_
  · exact sa_sub [0, 1] rfl (hj28)
  refine sa_iload_n C d_X12_law_10 rfl 1 rfl ?_
  refine sa_i2l C d_X12_law_11 ?_
  refine sa_lconst (v := 0) C d_X12_law_12 (by decide) ?_
  refine sa_aload_n C d_X12_law_13 rfl 0 rfl ?_
  refine sa_getI C fd_X12_323 d_X12_law_14 (fun v1 => ?_)
  refine sa_iconst (v := 1) C d_X12_law_17 (by decide) ?_
  refine sa_isub C d_X12_law_18 ?_
  refine sa_i2l C d_X12_law_19 ?_
  refine sa_invS C (k_X12_isIn (a1.toInt64) 0 ((v1 - 1).toInt64)) q1637 ds_X12_isIn q128 q1636 q1635 rfl rfl rfl (Nat.le_of_ble_eq_true rfl) (by decide) (by decide) d_X12_law_20 (fun v2 => ?_)
  refine sa_if_ne (tgt := 28) C d_X12_law_23 (by decide) ?_ ?_
  · exact sa_sub [0, 1] rfl (hj28)
  refine sa_iconst (v := 0) C d_X12_law_26 (by decide) ?_
  exact sa_zret C d_X12_law_27
theorem k_X12_law (this : Nat) (a1 : Int32) : sa_Met 2 yX12_law cX12_law 2 (some .boolean) (fun ad => [.ref (ad this), .int a1]) sa_eI (f_X12_law this a1) := sa_mk (by decide) (fun ad => Nat.le_of_ble_eq_true rfl) (fun p l e s m args below meth c D ad cA A C => b_X12_law this a1 C)
theorem gd_X12_law (this : Nat) (a1 : Int32) (σ : sa_St) (r : Int32) (τ : sa_St) (h : f_X12_law this a1 σ = some (r, τ)) : sa_sh this = some (.inl 12) := sa_gd_ok h
theorem d_X12_wear_0 : decode cX12_wear 0 = .ok (.aload_n 0, 1) := by decide +kernel
theorem d_X12_wear_1 : decode cX12_wear 1 = .ok (.iconst 0, 1) := by decide +kernel
theorem d_X12_wear_2 : decode cX12_wear 2 = .ok (.putfield 127, 3) := by decide +kernel
theorem d_X12_wear_5 : decode cX12_wear 5 = .ok (.aload_n 0, 1) := by decide +kernel
theorem d_X12_wear_6 : decode cX12_wear 6 = .ok (.getfield 64, 3) := by decide +kernel
theorem d_X12_wear_9 : decode cX12_wear 9 = .ok (.iload_n 1, 1) := by decide +kernel
theorem d_X12_wear_10 : decode cX12_wear 10 = .ok (.invokestatic 352, 3) := by decide +kernel
theorem d_X12_wear_13 : decode cX12_wear 13 = .ok (.ifCond .eq 29, 3) := by decide +kernel
theorem d_X12_wear_16 : decode cX12_wear 16 = .ok (.aload_n 0, 1) := by decide +kernel
theorem d_X12_wear_17 : decode cX12_wear 17 = .ok (.getfield 64, 3) := by decide +kernel
theorem d_X12_wear_20 : decode cX12_wear 20 = .ok (.bipush 7, 2) := by decide +kernel
theorem d_X12_wear_22 : decode cX12_wear 22 = .ok (.iload_n 1, 1) := by decide +kernel
theorem d_X12_wear_23 : decode cX12_wear 23 = .ok (.imul, 1) := by decide +kernel
theorem d_X12_wear_24 : decode cX12_wear 24 = .ok (.iconst 2, 1) := by decide +kernel
theorem d_X12_wear_25 : decode cX12_wear 25 = .ok (.iadd, 1) := by decide +kernel
theorem d_X12_wear_26 : decode cX12_wear 26 = .ok (.iaload, 1) := by decide +kernel
theorem d_X12_wear_27 : decode cX12_wear 27 = .ok (.aload_n 0, 1) := by decide +kernel
theorem d_X12_wear_28 : decode cX12_wear 28 = .ok (.aload_n 0, 1) := by decide +kernel
theorem d_X12_wear_29 : decode cX12_wear 29 = .ok (.getfield 64, 3) := by decide +kernel
theorem d_X12_wear_32 : decode cX12_wear 32 = .ok (.iload_n 1, 1) := by decide +kernel
theorem d_X12_wear_33 : decode cX12_wear 33 = .ok (.invokevirtual 379, 3) := by decide +kernel
theorem d_X12_wear_36 : decode cX12_wear 36 = .ok (.invokestatic 356, 3) := by decide +kernel
theorem d_X12_wear_39 : decode cX12_wear 39 = .ok (.goto 4, 3) := by decide +kernel
theorem d_X12_wear_42 : decode cX12_wear 42 = .ok (.iconst (-1), 1) := by decide +kernel
theorem d_X12_wear_43 : decode cX12_wear 43 = .ok (.ireturn, 1) := by decide +kernel
def f_X12_wear (this : Nat) (a1 : Int32) : sa_M Int32 :=
sa_gd 12 this (
sa_bnd (sa_wrI 12 this 0 0) fun _ =>
sa_bnd (sa_rdR 12 this 35) fun v1 =>
sa_bnd (f_X12_lives v1 a1) fun v2 =>
sa_jn1 (fun (y3 : Int32) =>
sa_ret (y3 : Int32)) fun j43 =>
if v2 = 0 then
j43 (-1)
else
sa_bnd (sa_rdR 12 this 35) fun v4 =>
sa_bnd (sa_ldI .int v4 ((7 * a1) + 2)) fun v5 =>
sa_bnd (sa_rdR 12 this 35) fun v6 =>
sa_bnd (f_X12_wearOf this v6 a1) fun v7 =>
j43 (sa_min v5 v7))
set_option maxHeartbeats 1000000 in
set_option maxRecDepth 10000 in
theorem b_X12_wear {p : Program} {l : Launch} {e : Env} {s : State} {m : MethodId} {args : Array Value} {below : List Frame} {meth : Method} {c : Code} {D : va_G} {ad : Nat → Nat} {cA : FieldType → ClassId} {A : Nat → Prop} (this : Nat) (a1 : Int32) (C : sa_C p s m args meth c cX12_wear RX12 "wear" 2 (some .int) D ad cA A) : sa_Sg p l e s m args below meth c 2 133 D ad cA A sa_eI 0 [(0, .ref (ad this)), (1, .int a1)] [] (f_X12_wear this a1) := by
  unfold f_X12_wear
  refine sa_gdI ?_
  refine sa_aload_n C d_X12_wear_0 rfl 0 rfl ?_
  refine sa_iconst (v := 0) C d_X12_wear_1 (by decide) ?_
  refine sa_putI C fd_X12_127 d_X12_wear_2 ?_
  refine sa_aload_n C d_X12_wear_5 rfl 0 rfl ?_
  refine sa_getR C fd_X12_64 rfl d_X12_wear_6 (fun v1 => ?_)
  refine sa_iload_n C d_X12_wear_9 rfl 1 rfl ?_
  refine sa_invS C (k_X12_lives v1 a1) q1810 ds_X12_lives q128 q1809 q1808 rfl rfl rfl (Nat.le_of_ble_eq_true rfl) (by decide) (by decide) d_X12_wear_10 (fun v2 => ?_)
  refine sa_join1 43 (fun y3 => []) (fun y3 => [.int y3]) (fun y3 => ?_) (fun j43 hj43 => ?_)
  · exact sa_iret C d_X12_wear_43
  refine sa_if_eq (tgt := 42) C d_X12_wear_13 (by decide) ?_ ?_
  · refine sa_iconst (v := (-1)) C d_X12_wear_42 (by decide) ?_
    exact sa_sub [] rfl (hj43 _)
  refine sa_aload_n C d_X12_wear_16 rfl 0 rfl ?_
  refine sa_getR C fd_X12_64 rfl d_X12_wear_17 (fun v4 => ?_)
  refine sa_bipush (v := 7) C d_X12_wear_20 (by decide) ?_
  refine sa_iload_n C d_X12_wear_22 rfl 1 rfl ?_
  refine sa_imul C d_X12_wear_23 ?_
  refine sa_iconst (v := 2) C d_X12_wear_24 (by decide) ?_
  refine sa_iadd C d_X12_wear_25 ?_
  refine sa_iald C d_X12_wear_26 (fun v5 => ?_)
  refine sa_aload_n C d_X12_wear_27 rfl 0 rfl ?_
  refine sa_aload_n C d_X12_wear_28 rfl 0 rfl ?_
  refine sa_getR C fd_X12_64 rfl d_X12_wear_29 (fun v6 => ?_)
  refine sa_iload_n C d_X12_wear_32 rfl 1 rfl ?_
  refine sa_invV (ci := 12) C (k_X12_wearOf this v6 a1) q1814 ds_X12_wearOf q128 rfl q1813 q71 q1811 (gd_X12_wearOf this v6 a1) rfl rfl rfl (Nat.le_of_ble_eq_true rfl) (by decide) (by decide) d_X12_wear_33 (fun v7 => ?_)
  refine sa_mmin C q1819 (Nat.le_of_ble_eq_true rfl) (by decide) q530 q130 q531 d_X12_wear_36 ?_
  refine sa_goto (tgt := 43) C d_X12_wear_39 (by decide) ?_
  exact sa_sub [] rfl (hj43 _)
theorem k_X12_wear (this : Nat) (a1 : Int32) : sa_Met 133 yX12_wear cX12_wear 2 (some .int) (fun ad => [.ref (ad this), .int a1]) sa_eI (f_X12_wear this a1) := sa_mk (by decide) (fun ad => Nat.le_of_ble_eq_true rfl) (fun p l e s m args below meth c D ad cA A C => b_X12_wear this a1 C)
theorem gd_X12_wear (this : Nat) (a1 : Int32) (σ : sa_St) (r : Int32) (τ : sa_St) (h : f_X12_wear this a1 σ = some (r, τ)) : sa_sh this = some (.inl 12) := sa_gd_ok h
theorem d_X12_loses_0 : decode cX12_loses 0 = .ok (.bipush 7, 2) := by decide +kernel
theorem d_X12_loses_2 : decode cX12_loses 2 = .ok (.iload_n 2, 1) := by decide +kernel
theorem d_X12_loses_3 : decode cX12_loses 3 = .ok (.imul, 1) := by decide +kernel
theorem d_X12_loses_4 : decode cX12_loses 4 = .ok (.istore 5, 2) := by decide +kernel
theorem d_X12_loses_6 : decode cX12_loses 6 = .ok (.iload_n 3, 1) := by decide +kernel
theorem d_X12_loses_7 : decode cX12_loses 7 = .ok (.aload_n 1, 1) := by decide +kernel
theorem d_X12_loses_8 : decode cX12_loses 8 = .ok (.iload 5, 2) := by decide +kernel
theorem d_X12_loses_10 : decode cX12_loses 10 = .ok (.iconst 2, 1) := by decide +kernel
theorem d_X12_loses_11 : decode cX12_loses 11 = .ok (.iadd, 1) := by decide +kernel
theorem d_X12_loses_12 : decode cX12_loses 12 = .ok (.iaload, 1) := by decide +kernel
theorem d_X12_loses_13 : decode cX12_loses 13 = .ok (.invokestatic 356, 3) := by decide +kernel
theorem d_X12_loses_16 : decode cX12_loses 16 = .ok (.istore 6, 2) := by decide +kernel
theorem d_X12_loses_18 : decode cX12_loses 18 = .ok (.bipush 56, 2) := by decide +kernel
theorem d_X12_loses_20 : decode cX12_loses 20 = .ok (.iconst 2, 1) := by decide +kernel
theorem d_X12_loses_21 : decode cX12_loses 21 = .ok (.aload_n 1, 1) := by decide +kernel
theorem d_X12_loses_22 : decode cX12_loses 22 = .ok (.iload 5, 2) := by decide +kernel
theorem d_X12_loses_24 : decode cX12_loses 24 = .ok (.iaload, 1) := by decide +kernel
theorem d_X12_loses_25 : decode cX12_loses 25 = .ok (.imul, 1) := by decide +kernel
theorem d_X12_loses_26 : decode cX12_loses 26 = .ok (.iadd, 1) := by decide +kernel
theorem d_X12_loses_27 : decode cX12_loses 27 = .ok (.istore 7, 2) := by decide +kernel
theorem d_X12_loses_29 : decode cX12_loses 29 = .ok (.aload_n 1, 1) := by decide +kernel
theorem d_X12_loses_30 : decode cX12_loses 30 = .ok (.iload 5, 2) := by decide +kernel
theorem d_X12_loses_32 : decode cX12_loses 32 = .ok (.iconst 2, 1) := by decide +kernel
theorem d_X12_loses_33 : decode cX12_loses 33 = .ok (.iadd, 1) := by decide +kernel
theorem d_X12_loses_34 : decode cX12_loses 34 = .ok (.dup2, 1) := by decide +kernel
theorem d_X12_loses_35 : decode cX12_loses 35 = .ok (.iaload, 1) := by decide +kernel
theorem d_X12_loses_36 : decode cX12_loses 36 = .ok (.iload 6, 2) := by decide +kernel
theorem d_X12_loses_38 : decode cX12_loses 38 = .ok (.isub, 1) := by decide +kernel
theorem d_X12_loses_39 : decode cX12_loses 39 = .ok (.iastore, 1) := by decide +kernel
theorem d_X12_loses_40 : decode cX12_loses 40 = .ok (.aload_n 0, 1) := by decide +kernel
theorem d_X12_loses_41 : decode cX12_loses 41 = .ok (.dup, 1) := by decide +kernel
theorem d_X12_loses_42 : decode cX12_loses 42 = .ok (.getfield 383, 3) := by decide +kernel
theorem d_X12_loses_45 : decode cX12_loses 45 = .ok (.iload 6, 2) := by decide +kernel
theorem d_X12_loses_47 : decode cX12_loses 47 = .ok (.iadd, 1) := by decide +kernel
theorem d_X12_loses_48 : decode cX12_loses 48 = .ok (.putfield 383, 3) := by decide +kernel
theorem d_X12_loses_51 : decode cX12_loses 51 = .ok (.iload 4, 2) := by decide +kernel
theorem d_X12_loses_53 : decode cX12_loses 53 = .ok (.ifCond .eq 15, 3) := by decide +kernel
theorem d_X12_loses_56 : decode cX12_loses 56 = .ok (.aload_n 1, 1) := by decide +kernel
theorem d_X12_loses_57 : decode cX12_loses 57 = .ok (.bipush 77, 2) := by decide +kernel
theorem d_X12_loses_59 : decode cX12_loses 59 = .ok (.dup2, 1) := by decide +kernel
theorem d_X12_loses_60 : decode cX12_loses 60 = .ok (.iaload, 1) := by decide +kernel
theorem d_X12_loses_61 : decode cX12_loses 61 = .ok (.iload 6, 2) := by decide +kernel
theorem d_X12_loses_63 : decode cX12_loses 63 = .ok (.iadd, 1) := by decide +kernel
theorem d_X12_loses_64 : decode cX12_loses 64 = .ok (.iastore, 1) := by decide +kernel
theorem d_X12_loses_65 : decode cX12_loses 65 = .ok (.goto 12, 3) := by decide +kernel
theorem d_X12_loses_68 : decode cX12_loses 68 = .ok (.aload_n 1, 1) := by decide +kernel
theorem d_X12_loses_69 : decode cX12_loses 69 = .ok (.iload 7, 2) := by decide +kernel
theorem d_X12_loses_71 : decode cX12_loses 71 = .ok (.dup2, 1) := by decide +kernel
theorem d_X12_loses_72 : decode cX12_loses 72 = .ok (.iaload, 1) := by decide +kernel
theorem d_X12_loses_73 : decode cX12_loses 73 = .ok (.iload 6, 2) := by decide +kernel
theorem d_X12_loses_75 : decode cX12_loses 75 = .ok (.iadd, 1) := by decide +kernel
theorem d_X12_loses_76 : decode cX12_loses 76 = .ok (.iastore, 1) := by decide +kernel
theorem d_X12_loses_77 : decode cX12_loses 77 = .ok (.aload_n 1, 1) := by decide +kernel
theorem d_X12_loses_78 : decode cX12_loses 78 = .ok (.iload 5, 2) := by decide +kernel
theorem d_X12_loses_80 : decode cX12_loses 80 = .ok (.iconst 2, 1) := by decide +kernel
theorem d_X12_loses_81 : decode cX12_loses 81 = .ok (.iadd, 1) := by decide +kernel
theorem d_X12_loses_82 : decode cX12_loses 82 = .ok (.iaload, 1) := by decide +kernel
theorem d_X12_loses_83 : decode cX12_loses 83 = .ok (.ifCond .le 4, 3) := by decide +kernel
theorem d_X12_loses_86 : decode cX12_loses 86 = .ok (.return_, 1) := by decide +kernel
theorem d_X12_loses_87 : decode cX12_loses 87 = .ok (.aload_n 0, 1) := by decide +kernel
theorem d_X12_loses_88 : decode cX12_loses 88 = .ok (.dup, 1) := by decide +kernel
theorem d_X12_loses_89 : decode cX12_loses 89 = .ok (.getfield 386, 3) := by decide +kernel
theorem d_X12_loses_92 : decode cX12_loses 92 = .ok (.iconst 1, 1) := by decide +kernel
theorem d_X12_loses_93 : decode cX12_loses 93 = .ok (.iadd, 1) := by decide +kernel
theorem d_X12_loses_94 : decode cX12_loses 94 = .ok (.putfield 386, 3) := by decide +kernel
theorem d_X12_loses_97 : decode cX12_loses 97 = .ok (.iload 4, 2) := by decide +kernel
theorem d_X12_loses_99 : decode cX12_loses 99 = .ok (.ifCond .ne 18, 3) := by decide +kernel
theorem d_X12_loses_102 : decode cX12_loses 102 = .ok (.aload_n 1, 1) := by decide +kernel
theorem d_X12_loses_103 : decode cX12_loses 103 = .ok (.iload 7, 2) := by decide +kernel
theorem d_X12_loses_105 : decode cX12_loses 105 = .ok (.iconst 1, 1) := by decide +kernel
theorem d_X12_loses_106 : decode cX12_loses 106 = .ok (.iadd, 1) := by decide +kernel
theorem d_X12_loses_107 : decode cX12_loses 107 = .ok (.dup2, 1) := by decide +kernel
theorem d_X12_loses_108 : decode cX12_loses 108 = .ok (.iaload, 1) := by decide +kernel
theorem d_X12_loses_109 : decode cX12_loses 109 = .ok (.aload_n 1, 1) := by decide +kernel
theorem d_X12_loses_110 : decode cX12_loses 110 = .ok (.iload 5, 2) := by decide +kernel
theorem d_X12_loses_112 : decode cX12_loses 112 = .ok (.iconst 5, 1) := by decide +kernel
theorem d_X12_loses_113 : decode cX12_loses 113 = .ok (.iadd, 1) := by decide +kernel
theorem d_X12_loses_114 : decode cX12_loses 114 = .ok (.iaload, 1) := by decide +kernel
theorem d_X12_loses_115 : decode cX12_loses 115 = .ok (.ior, 1) := by decide +kernel
theorem d_X12_loses_116 : decode cX12_loses 116 = .ok (.iastore, 1) := by decide +kernel
theorem d_X12_loses_117 : decode cX12_loses 117 = .ok (.aload_n 1, 1) := by decide +kernel
theorem d_X12_loses_118 : decode cX12_loses 118 = .ok (.iload 5, 2) := by decide +kernel
theorem d_X12_loses_120 : decode cX12_loses 120 = .ok (.iconst 5, 1) := by decide +kernel
theorem d_X12_loses_121 : decode cX12_loses 121 = .ok (.iadd, 1) := by decide +kernel
theorem d_X12_loses_122 : decode cX12_loses 122 = .ok (.iconst 0, 1) := by decide +kernel
theorem d_X12_loses_123 : decode cX12_loses 123 = .ok (.iastore, 1) := by decide +kernel
theorem d_X12_loses_124 : decode cX12_loses 124 = .ok (.return_, 1) := by decide +kernel
def f_X12_loses (this : Nat) (a1 : Nat) (a2 : Int32) (a3 : Int32) (a4 : Int32) : sa_M Unit :=
sa_gd 12 this (
sa_let ((7 * a2) : Int32) fun x1 =>
sa_bnd (sa_ldI .int a1 (x1 + 2)) fun v2 =>
sa_let ((sa_min a3 v2) : Int32) fun x3 =>
sa_bnd (sa_ldI .int a1 x1) fun v4 =>
sa_let ((56 + (2 * v4)) : Int32) fun x5 =>
sa_bnd (sa_ldI .int a1 (x1 + 2)) fun v6 =>
sa_bnd (sa_stI a1 (x1 + 2) (v6 - x3)) fun _ =>
sa_bnd (sa_rdI 12 this 40) fun v7 =>
sa_bnd (sa_wrI 12 this 40 (v7 + x3)) fun _ =>
sa_jn0 (sa_bnd (sa_ldI .int a1 (x1 + 2)) fun v8 =>
if v8 ≤ 0 then
sa_bnd (sa_rdI 12 this 41) fun v9 =>
sa_bnd (sa_wrI 12 this 41 (v9 + 1)) fun _ =>
sa_jn0 (sa_bnd (sa_stI a1 (x1 + 5) 0) fun _ =>
sa_ret ()) fun j117 =>
if ¬ a4 = 0 then
j117
else
sa_bnd (sa_ldI .int a1 (x5 + 1)) fun v10 =>
sa_bnd (sa_ldI .int a1 (x1 + 5)) fun v11 =>
sa_bnd (sa_stI a1 (x5 + 1) (v10 ||| v11)) fun _ =>
j117
else
sa_ret ()) fun j77 =>
if a4 = 0 then
sa_bnd (sa_ldI .int a1 x5) fun v12 =>
sa_bnd (sa_stI a1 x5 (v12 + x3)) fun _ =>
j77
else
sa_bnd (sa_ldI .int a1 77) fun v13 =>
sa_bnd (sa_stI a1 77 (v13 + x3)) fun _ =>
j77)
set_option maxHeartbeats 1000000 in
set_option maxRecDepth 10000 in
theorem b_X12_loses {p : Program} {l : Launch} {e : Env} {s : State} {m : MethodId} {args : Array Value} {below : List Frame} {meth : Method} {c : Code} {D : va_G} {ad : Nat → Nat} {cA : FieldType → ClassId} {A : Nat → Prop} (this : Nat) (a1 : Nat) (a2 : Int32) (a3 : Int32) (a4 : Int32) (C : sa_C p s m args meth c cX12_loses RX12 "loses" 8 none D ad cA A) : sa_Sg p l e s m args below meth c 8 1 D ad cA A sa_eV 0 [(0, .ref (ad this)), (1, .ref (ad a1)), (2, .int a2), (3, .int a3), (4, .int a4)] [] (f_X12_loses this a1 a2 a3 a4) := by
  unfold f_X12_loses
  refine sa_gdI ?_
  refine sa_bipush (v := 7) C d_X12_loses_0 (by decide) ?_
  refine sa_iload_n C d_X12_loses_2 rfl 2 rfl ?_
  refine sa_imul C d_X12_loses_3 ?_
  refine sa_topi (fun x1 => ?_)
  refine sa_istore (lv' := [(5, .int x1), (0, .ref (ad this)), (1, .ref (ad a1)), (2, .int a2), (3, .int a3), (4, .int a4)]) C d_X12_loses_4 (by decide) rfl ?_
  refine sa_iload_n C d_X12_loses_6 rfl 4 rfl ?_
  refine sa_aload_n C d_X12_loses_7 rfl 2 rfl ?_
  refine sa_iload C d_X12_loses_8 0 rfl ?_
  refine sa_iconst (v := 2) C d_X12_loses_10 (by decide) ?_
  refine sa_iadd C d_X12_loses_11 ?_
  refine sa_iald C d_X12_loses_12 (fun v2 => ?_)
  refine sa_mmin C q1819 (Nat.le_of_ble_eq_true rfl) (by decide) q530 q130 q531 d_X12_loses_13 ?_
  refine sa_topi (fun x3 => ?_)
  refine sa_istore (lv' := [(6, .int x3), (5, .int x1), (0, .ref (ad this)), (1, .ref (ad a1)), (2, .int a2), (3, .int a3), (4, .int a4)]) C d_X12_loses_16 (by decide) rfl ?_
  refine sa_bipush (v := 56) C d_X12_loses_18 (by decide) ?_
  refine sa_iconst (v := 2) C d_X12_loses_20 (by decide) ?_
  refine sa_aload_n C d_X12_loses_21 rfl 3 rfl ?_
  refine sa_iload C d_X12_loses_22 1 rfl ?_
  refine sa_iald C d_X12_loses_24 (fun v4 => ?_)
  refine sa_imul C d_X12_loses_25 ?_
  refine sa_iadd C d_X12_loses_26 ?_
  refine sa_topi (fun x5 => ?_)
  refine sa_istore (lv' := [(7, .int x5), (6, .int x3), (5, .int x1), (0, .ref (ad this)), (1, .ref (ad a1)), (2, .int a2), (3, .int a3), (4, .int a4)]) C d_X12_loses_27 (by decide) rfl ?_
  refine sa_aload_n C d_X12_loses_29 rfl 4 rfl ?_
  refine sa_iload C d_X12_loses_30 2 rfl ?_
  refine sa_iconst (v := 2) C d_X12_loses_32 (by decide) ?_
  refine sa_iadd C d_X12_loses_33 ?_
  refine sa_dup2_11 C d_X12_loses_34 rfl rfl ?_
  refine sa_iald C d_X12_loses_35 (fun v6 => ?_)
  refine sa_iload C d_X12_loses_36 1 rfl ?_
  refine sa_isub C d_X12_loses_38 ?_
  refine sa_iast C d_X12_loses_39 ?_
  refine sa_aload_n C d_X12_loses_40 rfl 3 rfl ?_
  refine sa_dup C d_X12_loses_41 rfl ?_
  refine sa_getI C fd_X12_383 d_X12_loses_42 (fun v7 => ?_)
  refine sa_iload C d_X12_loses_45 1 rfl ?_
  refine sa_iadd C d_X12_loses_47 ?_
  refine sa_putI C fd_X12_383 d_X12_loses_48 ?_
  refine sa_iload C d_X12_loses_51 7 rfl ?_
  refine sa_join0 77 ([(0, .ref (ad this)), (1, .ref (ad a1)), (4, .int a4), (5, .int x1), (7, .int x5)]) ([]) (?_) (fun j77 hj77 => ?_)
  · refine sa_aload_n C d_X12_loses_77 rfl 1 rfl ?_
    refine sa_iload C d_X12_loses_78 3 rfl ?_
    refine sa_iconst (v := 2) C d_X12_loses_80 (by decide) ?_
    refine sa_iadd C d_X12_loses_81 ?_
    refine sa_iald C d_X12_loses_82 (fun v8 => ?_)
    refine sa_if_le (tgt := 87) C d_X12_loses_83 (by decide) ?_ ?_
    · refine sa_aload_n C d_X12_loses_87 rfl 0 rfl ?_
      refine sa_dup C d_X12_loses_88 rfl ?_
      refine sa_getI C fd_X12_386 d_X12_loses_89 (fun v9 => ?_)
      refine sa_iconst (v := 1) C d_X12_loses_92 (by decide) ?_
      refine sa_iadd C d_X12_loses_93 ?_
      refine sa_putI C fd_X12_386 d_X12_loses_94 ?_
      refine sa_iload C d_X12_loses_97 2 rfl ?_
      refine sa_join0 117 ([(1, .ref (ad a1)), (5, .int x1)]) ([]) (?_) (fun j117 hj117 => ?_)
      · refine sa_aload_n C d_X12_loses_117 rfl 0 rfl ?_
        refine sa_iload C d_X12_loses_118 1 rfl ?_
        refine sa_iconst (v := 5) C d_X12_loses_120 (by decide) ?_
        refine sa_iadd C d_X12_loses_121 ?_
        refine sa_iconst (v := 0) C d_X12_loses_122 (by decide) ?_
        refine sa_iast C d_X12_loses_123 ?_
        exact sa_vret C d_X12_loses_124
      refine sa_if_ne (tgt := 117) C d_X12_loses_99 (by decide) ?_ ?_
      · exact sa_sub [1, 3] rfl (hj117)
      refine sa_aload_n C d_X12_loses_102 rfl 1 rfl ?_
      refine sa_iload C d_X12_loses_103 4 rfl ?_
      refine sa_iconst (v := 1) C d_X12_loses_105 (by decide) ?_
      refine sa_iadd C d_X12_loses_106 ?_
      refine sa_dup2_11 C d_X12_loses_107 rfl rfl ?_
      refine sa_iald C d_X12_loses_108 (fun v10 => ?_)
      refine sa_aload_n C d_X12_loses_109 rfl 1 rfl ?_
      refine sa_iload C d_X12_loses_110 3 rfl ?_
      refine sa_iconst (v := 5) C d_X12_loses_112 (by decide) ?_
      refine sa_iadd C d_X12_loses_113 ?_
      refine sa_iald C d_X12_loses_114 (fun v11 => ?_)
      refine sa_ior C d_X12_loses_115 ?_
      refine sa_iast C d_X12_loses_116 ?_
      exact sa_sub [1, 3] rfl (hj117)
    exact sa_vret C d_X12_loses_86
  refine sa_if_eq (tgt := 68) C d_X12_loses_53 (by decide) ?_ ?_
  · refine sa_aload_n C d_X12_loses_68 rfl 4 rfl ?_
    refine sa_iload C d_X12_loses_69 0 rfl ?_
    refine sa_dup2_11 C d_X12_loses_71 rfl rfl ?_
    refine sa_iald C d_X12_loses_72 (fun v12 => ?_)
    refine sa_iload C d_X12_loses_73 1 rfl ?_
    refine sa_iadd C d_X12_loses_75 ?_
    refine sa_iast C d_X12_loses_76 ?_
    exact sa_sub [3, 4, 7, 2, 0] rfl (hj77)
  refine sa_aload_n C d_X12_loses_56 rfl 4 rfl ?_
  refine sa_bipush (v := 77) C d_X12_loses_57 (by decide) ?_
  refine sa_dup2_11 C d_X12_loses_59 rfl rfl ?_
  refine sa_iald C d_X12_loses_60 (fun v13 => ?_)
  refine sa_iload C d_X12_loses_61 1 rfl ?_
  refine sa_iadd C d_X12_loses_63 ?_
  refine sa_iast C d_X12_loses_64 ?_
  refine sa_goto (tgt := 77) C d_X12_loses_65 (by decide) ?_
  exact sa_sub [3, 4, 7, 2, 0] rfl (hj77)
theorem k_X12_loses (this : Nat) (a1 : Nat) (a2 : Int32) (a3 : Int32) (a4 : Int32) : sa_Met 1 yX12_loses cX12_loses 8 none (fun ad => [.ref (ad this), .ref (ad a1), .int a2, .int a3, .int a4]) sa_eV (f_X12_loses this a1 a2 a3 a4) := sa_mk (by decide) (fun ad => Nat.le_of_ble_eq_true rfl) (fun p l e s m args below meth c D ad cA A C => b_X12_loses this a1 a2 a3 a4 C)
theorem gd_X12_loses (this : Nat) (a1 : Nat) (a2 : Int32) (a3 : Int32) (a4 : Int32) (σ : sa_St) (r : Unit) (τ : sa_St) (h : f_X12_loses this a1 a2 a3 a4 σ = some (r, τ)) : sa_sh this = some (.inl 12) := sa_gd_ok h
