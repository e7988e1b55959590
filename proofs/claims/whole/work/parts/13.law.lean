theorem mv_X4_worth : MV yX4_worth cX4_worth 12 (some .int) 6 := ⟨q_671, q_672, q_60, q_673, by decide +kernel, by decide +kernel, by decide +kernel⟩
theorem mv_X4_clear : MV yX4_clear cX4_clear 1 none 0 := ⟨q_525, q_526, q_60, q_527, by decide +kernel, by decide +kernel, by decide +kernel⟩
theorem mv_X4_emit : MV yX4_emit cX4_emit 2 none 1 := ⟨q_548, q_549, q_60, q_550, by decide +kernel, by decide +kernel, by decide +kernel⟩
theorem dX4_worth_0 : decode cX4_worth 0 = .ok (.aload_n 0, 1) := by decide +kernel
theorem dX4_worth_1 : decode cX4_worth 1 = .ok (.getfield 16, 3) := by decide +kernel
theorem dX4_worth_4 : decode cX4_worth 4 = .ok (.iconst 0, 1) := by decide +kernel
theorem dX4_worth_5 : decode cX4_worth 5 = .ok (.iload_n 1, 1) := by decide +kernel
theorem dX4_worth_6 : decode cX4_worth 6 = .ok (.iastore, 1) := by decide +kernel
theorem dX4_worth_7 : decode cX4_worth 7 = .ok (.aload_n 0, 1) := by decide +kernel
theorem dX4_worth_8 : decode cX4_worth 8 = .ok (.getfield 16, 3) := by decide +kernel
theorem dX4_worth_11 : decode cX4_worth 11 = .ok (.iconst 1, 1) := by decide +kernel
theorem dX4_worth_12 : decode cX4_worth 12 = .ok (.iload_n 2, 1) := by decide +kernel
theorem dX4_worth_13 : decode cX4_worth 13 = .ok (.iastore, 1) := by decide +kernel
theorem dX4_worth_14 : decode cX4_worth 14 = .ok (.aload_n 0, 1) := by decide +kernel
theorem dX4_worth_15 : decode cX4_worth 15 = .ok (.getfield 16, 3) := by decide +kernel
theorem dX4_worth_18 : decode cX4_worth 18 = .ok (.iconst 2, 1) := by decide +kernel
theorem dX4_worth_19 : decode cX4_worth 19 = .ok (.iload_n 3, 1) := by decide +kernel
theorem dX4_worth_20 : decode cX4_worth 20 = .ok (.iastore, 1) := by decide +kernel
theorem dX4_worth_21 : decode cX4_worth 21 = .ok (.aload_n 0, 1) := by decide +kernel
theorem dX4_worth_22 : decode cX4_worth 22 = .ok (.getfield 16, 3) := by decide +kernel
theorem dX4_worth_25 : decode cX4_worth 25 = .ok (.iconst 3, 1) := by decide +kernel
theorem dX4_worth_26 : decode cX4_worth 26 = .ok (.iload 4, 2) := by decide +kernel
theorem dX4_worth_28 : decode cX4_worth 28 = .ok (.iastore, 1) := by decide +kernel
theorem dX4_worth_29 : decode cX4_worth 29 = .ok (.aload_n 0, 1) := by decide +kernel
theorem dX4_worth_30 : decode cX4_worth 30 = .ok (.getfield 16, 3) := by decide +kernel
theorem dX4_worth_33 : decode cX4_worth 33 = .ok (.iconst 4, 1) := by decide +kernel
theorem dX4_worth_34 : decode cX4_worth 34 = .ok (.iload 5, 2) := by decide +kernel
theorem dX4_worth_36 : decode cX4_worth 36 = .ok (.iastore, 1) := by decide +kernel
theorem dX4_worth_37 : decode cX4_worth 37 = .ok (.aload_n 0, 1) := by decide +kernel
theorem dX4_worth_38 : decode cX4_worth 38 = .ok (.getfield 16, 3) := by decide +kernel
theorem dX4_worth_41 : decode cX4_worth 41 = .ok (.iconst 5, 1) := by decide +kernel
theorem dX4_worth_42 : decode cX4_worth 42 = .ok (.iload 6, 2) := by decide +kernel
theorem dX4_worth_44 : decode cX4_worth 44 = .ok (.iastore, 1) := by decide +kernel
theorem dX4_worth_45 : decode cX4_worth 45 = .ok (.iconst 0, 1) := by decide +kernel
theorem dX4_worth_46 : decode cX4_worth 46 = .ok (.istore 7, 2) := by decide +kernel
theorem dX4_worth_48 : decode cX4_worth 48 = .ok (.iconst 0, 1) := by decide +kernel
theorem dX4_worth_49 : decode cX4_worth 49 = .ok (.istore 8, 2) := by decide +kernel
theorem dX4_worth_51 : decode cX4_worth 51 = .ok (.iconst 0, 1) := by decide +kernel
theorem dX4_worth_52 : decode cX4_worth 52 = .ok (.istore 9, 2) := by decide +kernel
theorem dX4_worth_54 : decode cX4_worth 54 = .ok (.iload 9, 2) := by decide +kernel
theorem dX4_worth_56 : decode cX4_worth 56 = .ok (.aload_n 0, 1) := by decide +kernel
theorem dX4_worth_57 : decode cX4_worth 57 = .ok (.getfield 19, 3) := by decide +kernel
theorem dX4_worth_60 : decode cX4_worth 60 = .ok (.if_icmp .ge 193, 3) := by decide +kernel
theorem dX4_worth_63 : decode cX4_worth 63 = .ok (.aload_n 0, 1) := by decide +kernel
theorem dX4_worth_64 : decode cX4_worth 64 = .ok (.getfield 9, 3) := by decide +kernel
theorem dX4_worth_67 : decode cX4_worth 67 = .ok (.iload 9, 2) := by decide +kernel
theorem dX4_worth_69 : decode cX4_worth 69 = .ok (.iaload, 1) := by decide +kernel
theorem dX4_worth_70 : decode cX4_worth 70 = .ok (.istore 10, 2) := by decide +kernel
theorem dX4_worth_72 : decode cX4_worth 72 = .ok (.iload 10, 2) := by decide +kernel
theorem dX4_worth_74 : decode cX4_worth 74 = .ok (.bipush (-59), 2) := by decide +kernel
theorem dX4_worth_76 : decode cX4_worth 76 = .ok (.if_icmp .ne 15, 3) := by decide +kernel
theorem dX4_worth_79 : decode cX4_worth 79 = .ok (.iload 8, 2) := by decide +kernel
theorem dX4_worth_81 : decode cX4_worth 81 = .ok (.ifCond .ne 10, 3) := by decide +kernel
theorem dX4_worth_84 : decode cX4_worth 84 = .ok (.aload_n 0, 1) := by decide +kernel
theorem dX4_worth_85 : decode cX4_worth 85 = .ok (.getfield 13, 3) := by decide +kernel
theorem dX4_worth_88 : decode cX4_worth 88 = .ok (.iconst 0, 1) := by decide +kernel
theorem dX4_worth_89 : decode cX4_worth 89 = .ok (.iaload, 1) := by decide +kernel
theorem dX4_worth_90 : decode cX4_worth 90 = .ok (.ireturn, 1) := by decide +kernel
theorem dX4_worth_91 : decode cX4_worth 91 = .ok (.iload 10, 2) := by decide +kernel
theorem dX4_worth_93 : decode cX4_worth 93 = .ok (.bipush (-59), 2) := by decide +kernel
theorem dX4_worth_95 : decode cX4_worth 95 = .ok (.if_icmp .eq 10, 3) := by decide +kernel
theorem dX4_worth_98 : decode cX4_worth 98 = .ok (.iload 10, 2) := by decide +kernel
theorem dX4_worth_100 : decode cX4_worth 100 = .ok (.bipush (-63), 2) := by decide +kernel
theorem dX4_worth_102 : decode cX4_worth 102 = .ok (.if_icmp .ne 32, 3) := by decide +kernel
theorem dX4_worth_105 : decode cX4_worth 105 = .ok (.iload 10, 2) := by decide +kernel
theorem dX4_worth_107 : decode cX4_worth 107 = .ok (.bipush (-63), 2) := by decide +kernel
theorem dX4_worth_109 : decode cX4_worth 109 = .ok (.if_icmp .ne 16, 3) := by decide +kernel
theorem dX4_worth_112 : decode cX4_worth 112 = .ok (.aload_n 0, 1) := by decide +kernel
theorem dX4_worth_113 : decode cX4_worth 113 = .ok (.getfield 13, 3) := by decide +kernel
theorem dX4_worth_116 : decode cX4_worth 116 = .ok (.iconst 0, 1) := by decide +kernel
theorem dX4_worth_117 : decode cX4_worth 117 = .ok (.iaload, 1) := by decide +kernel
theorem dX4_worth_118 : decode cX4_worth 118 = .ok (.ifCond .ne 7, 3) := by decide +kernel
theorem dX4_worth_121 : decode cX4_worth 121 = .ok (.iconst 1, 1) := by decide +kernel
theorem dX4_worth_122 : decode cX4_worth 122 = .ok (.goto 4, 3) := by decide +kernel
theorem dX4_worth_125 : decode cX4_worth 125 = .ok (.iconst 0, 1) := by decide +kernel
theorem dX4_worth_126 : decode cX4_worth 126 = .ok (.istore 8, 2) := by decide +kernel
theorem dX4_worth_128 : decode cX4_worth 128 = .ok (.iconst 0, 1) := by decide +kernel
theorem dX4_worth_129 : decode cX4_worth 129 = .ok (.istore 7, 2) := by decide +kernel
theorem dX4_worth_131 : decode cX4_worth 131 = .ok (.goto 116, 3) := by decide +kernel
theorem dX4_worth_134 : decode cX4_worth 134 = .ok (.iload 8, 2) := by decide +kernel
theorem dX4_worth_136 : decode cX4_worth 136 = .ok (.ifCond .ne 111, 3) := by decide +kernel
theorem dX4_worth_139 : decode cX4_worth 139 = .ok (.iload 10, 2) := by decide +kernel
theorem dX4_worth_141 : decode cX4_worth 141 = .ok (.bipush (-6), 2) := by decide +kernel
theorem dX4_worth_143 : decode cX4_worth 143 = .ok (.if_icmp .ge 67, 3) := by decide +kernel
theorem dX4_worth_146 : decode cX4_worth 146 = .ok (.iload 10, 2) := by decide +kernel
theorem dX4_worth_148 : decode cX4_worth 148 = .ok (.bipush (-126), 2) := by decide +kernel
theorem dX4_worth_150 : decode cX4_worth 150 = .ok (.if_icmp .eq 10, 3) := by decide +kernel
theorem dX4_worth_153 : decode cX4_worth 153 = .ok (.iload 10, 2) := by decide +kernel
theorem dX4_worth_155 : decode cX4_worth 155 = .ok (.bipush (-33), 2) := by decide +kernel
theorem dX4_worth_157 : decode cX4_worth 157 = .ok (.if_icmp .ne 7, 3) := by decide +kernel
theorem dX4_worth_160 : decode cX4_worth 160 = .ok (.iconst 1, 1) := by decide +kernel
theorem dX4_worth_161 : decode cX4_worth 161 = .ok (.goto 4, 3) := by decide +kernel
theorem dX4_worth_164 : decode cX4_worth 164 = .ok (.iconst 2, 1) := by decide +kernel
theorem dX4_worth_165 : decode cX4_worth 165 = .ok (.istore 11, 2) := by decide +kernel
theorem dX4_worth_167 : decode cX4_worth 167 = .ok (.iload 7, 2) := by decide +kernel
theorem dX4_worth_169 : decode cX4_worth 169 = .ok (.iload 11, 2) := by decide +kernel
theorem dX4_worth_171 : decode cX4_worth 171 = .ok (.isub, 1) := by decide +kernel
theorem dX4_worth_172 : decode cX4_worth 172 = .ok (.iconst 0, 1) := by decide +kernel
theorem dX4_worth_173 : decode cX4_worth 173 = .ok (.invokestatic 23, 3) := by decide +kernel
theorem dX4_worth_176 : decode cX4_worth 176 = .ok (.istore 7, 2) := by decide +kernel
theorem dX4_worth_178 : decode cX4_worth 178 = .ok (.aload_n 0, 1) := by decide +kernel
theorem dX4_worth_179 : decode cX4_worth 179 = .ok (.getfield 13, 3) := by decide +kernel
theorem dX4_worth_182 : decode cX4_worth 182 = .ok (.iload 7, 2) := by decide +kernel
theorem dX4_worth_184 : decode cX4_worth 184 = .ok (.iload 10, 2) := by decide +kernel
theorem dX4_worth_186 : decode cX4_worth 186 = .ok (.ineg, 1) := by decide +kernel
theorem dX4_worth_187 : decode cX4_worth 187 = .ok (.aload_n 0, 1) := by decide +kernel
theorem dX4_worth_188 : decode cX4_worth 188 = .ok (.getfield 13, 3) := by decide +kernel
theorem dX4_worth_191 : decode cX4_worth 191 = .ok (.iload 7, 2) := by decide +kernel
theorem dX4_worth_193 : decode cX4_worth 193 = .ok (.iaload, 1) := by decide +kernel
theorem dX4_worth_194 : decode cX4_worth 194 = .ok (.aload_n 0, 1) := by decide +kernel
theorem dX4_worth_195 : decode cX4_worth 195 = .ok (.getfield 13, 3) := by decide +kernel
theorem dX4_worth_198 : decode cX4_worth 198 = .ok (.iload 7, 2) := by decide +kernel
theorem dX4_worth_200 : decode cX4_worth 200 = .ok (.iconst 1, 1) := by decide +kernel
theorem dX4_worth_201 : decode cX4_worth 201 = .ok (.iadd, 1) := by decide +kernel
theorem dX4_worth_202 : decode cX4_worth 202 = .ok (.iaload, 1) := by decide +kernel
theorem dX4_worth_203 : decode cX4_worth 203 = .ok (.invokestatic 29, 3) := by decide +kernel
theorem dX4_worth_206 : decode cX4_worth 206 = .ok (.iastore, 1) := by decide +kernel
theorem dX4_worth_207 : decode cX4_worth 207 = .ok (.goto 29, 3) := by decide +kernel
theorem dX4_worth_210 : decode cX4_worth 210 = .ok (.aload_n 0, 1) := by decide +kernel
theorem dX4_worth_211 : decode cX4_worth 211 = .ok (.getfield 13, 3) := by decide +kernel
theorem dX4_worth_214 : decode cX4_worth 214 = .ok (.iload 7, 2) := by decide +kernel
theorem dX4_worth_216 : decode cX4_worth 216 = .ok (.iload 10, 2) := by decide +kernel
theorem dX4_worth_218 : decode cX4_worth 218 = .ok (.ifCond .lt 8, 3) := by decide +kernel
theorem dX4_worth_221 : decode cX4_worth 221 = .ok (.iload 10, 2) := by decide +kernel
theorem dX4_worth_223 : decode cX4_worth 223 = .ok (.goto 12, 3) := by decide +kernel
theorem dX4_worth_226 : decode cX4_worth 226 = .ok (.aload_n 0, 1) := by decide +kernel
theorem dX4_worth_227 : decode cX4_worth 227 = .ok (.getfield 16, 3) := by decide +kernel
theorem dX4_worth_230 : decode cX4_worth 230 = .ok (.iconst (-1), 1) := by decide +kernel
theorem dX4_worth_231 : decode cX4_worth 231 = .ok (.iload 10, 2) := by decide +kernel
theorem dX4_worth_233 : decode cX4_worth 233 = .ok (.isub, 1) := by decide +kernel
theorem dX4_worth_234 : decode cX4_worth 234 = .ok (.iaload, 1) := by decide +kernel
theorem dX4_worth_235 : decode cX4_worth 235 = .ok (.iastore, 1) := by decide +kernel
theorem dX4_worth_236 : decode cX4_worth 236 = .ok (.iload 7, 2) := by decide +kernel
theorem dX4_worth_238 : decode cX4_worth 238 = .ok (.iconst 1, 1) := by decide +kernel
theorem dX4_worth_239 : decode cX4_worth 239 = .ok (.iadd, 1) := by decide +kernel
theorem dX4_worth_240 : decode cX4_worth 240 = .ok (.bipush 127, 2) := by decide +kernel
theorem dX4_worth_242 : decode cX4_worth 242 = .ok (.invokestatic 33, 3) := by decide +kernel
theorem dX4_worth_245 : decode cX4_worth 245 = .ok (.istore 7, 2) := by decide +kernel
theorem dX4_worth_247 : decode cX4_worth 247 = .ok (.iinc 9 1, 3) := by decide +kernel
theorem dX4_worth_250 : decode cX4_worth 250 = .ok (.goto (-196), 3) := by decide +kernel
theorem dX4_worth_253 : decode cX4_worth 253 = .ok (.iconst 0, 1) := by decide +kernel
theorem dX4_worth_254 : decode cX4_worth 254 = .ok (.ireturn, 1) := by decide +kernel
def f_X4_worth_b126 (k54 : St → Nat → Int32 → Int32 → Int32 → Option (Int32 × St)) (σ : St) (o0 : Nat) (x9 : Int32) (s0 : Int32) : Option (Int32 × St) := bnd (x9 + 1) (fun v32 => k54 σ o0 (0 : Int32) s0 v32)
def f_X4_worth_b125 (k54 : St → Nat → Int32 → Int32 → Int32 → Option (Int32 × St)) (σ : St) (o0 : Nat) (x9 : Int32) : Option (Int32 × St) := f_X4_worth_b126 k54 σ o0 x9 (0 : Int32)
def f_X4_worth_b105 (k54 : St → Nat → Int32 → Int32 → Int32 → Option (Int32 × St)) (σ : St) (o0 : Nat) (x9 : Int32) (x10 : Int32) : Option (Int32 × St) := if x10 = (-63 : Int32) then (if σ.2.2.1 201 o0 (0 : Int32).toNatClampNeg = 0 then (f_X4_worth_b126 k54 σ o0 x9 (1 : Int32)) else (f_X4_worth_b125 k54 σ o0 x9)) else (f_X4_worth_b125 k54 σ o0 x9)
def f_X4_worth_b236 (k54 : St → Nat → Int32 → Int32 → Int32 → Option (Int32 × St)) (σ : St) (o0 : Nat) (x7 : Int32) (x8 : Int32) (x9 : Int32) : Option (Int32 × St) := bnd (if (127 : Int32) < x7 + (1 : Int32) then (127 : Int32) else x7 + (1 : Int32)) (fun v33 => bnd (x9 + 1) (fun v34 => k54 σ o0 v33 x8 v34))
def f_X4_worth_b165 (k54 : St → Nat → Int32 → Int32 → Int32 → Option (Int32 × St)) (σ : St) (o0 : Nat) (x7 : Int32) (x8 : Int32) (x9 : Int32) (x10 : Int32) (s0 : Int32) : Option (Int32 × St) := bnd (if x7 - s0 < (0 : Int32) then (0 : Int32) else x7 - s0) (fun v25 => chk (v25 < 0 ∨ 129 ≤ v25.toNatClampNeg) (chk (v25 + (1 : Int32) < 0 ∨ 129 ≤ (v25 + (1 : Int32)).toNatClampNeg) (bnd1 (f_X4_made (-x10) (σ.2.2.1 201 o0 v25.toNatClampNeg) (σ.2.2.1 201 o0 (v25 + (1 : Int32)).toNatClampNeg)) (fun r29 => chk (v25 < 0 ∨ 129 ≤ v25.toNatClampNeg) (bnd (sA σ 201 o0 (upd (σ.2.2.1 201 o0) v25.toNatClampNeg r29)) (fun σ31 => f_X4_worth_b236 k54 σ31 o0 v25 x8 x9))))))
def f_X4_worth_b160 (k54 : St → Nat → Int32 → Int32 → Int32 → Option (Int32 × St)) (σ : St) (o0 : Nat) (x7 : Int32) (x8 : Int32) (x9 : Int32) (x10 : Int32) : Option (Int32 × St) := f_X4_worth_b165 k54 σ o0 x7 x8 x9 x10 (1 : Int32)
def f_X4_worth_b235 (k54 : St → Nat → Int32 → Int32 → Int32 → Option (Int32 × St)) (σ : St) (o0 : Nat) (x7 : Int32) (x8 : Int32) (x9 : Int32) (s0 : Int32) (s1 : Int32) : Option (Int32 × St) := chk (s1 < 0 ∨ 129 ≤ s1.toNatClampNeg) (bnd (sA σ 201 o0 (upd (σ.2.2.1 201 o0) s1.toNatClampNeg s0)) (fun σ24 => f_X4_worth_b236 k54 σ24 o0 x7 x8 x9))
def f_X4_worth_b91 (k54 : St → Nat → Int32 → Int32 → Int32 → Option (Int32 × St)) (σ : St) (o0 : Nat) (x7 : Int32) (x8 : Int32) (x9 : Int32) (x10 : Int32) : Option (Int32 × St) := if x10 = (-59 : Int32) then (f_X4_worth_b105 k54 σ o0 x9 x10) else (if x10 = (-63 : Int32) then (f_X4_worth_b105 k54 σ o0 x9 x10) else (if x8 = 0 then (if (-6 : Int32) ≤ x10 then (if x10 < 0 then (chk ((-1 : Int32) - x10 < 0 ∨ 6 ≤ ((-1 : Int32) - x10).toNatClampNeg) (f_X4_worth_b235 k54 σ o0 x7 x8 x9 (σ.2.2.1 202 o0 ((-1 : Int32) - x10).toNatClampNeg) x7)) else (f_X4_worth_b235 k54 σ o0 x7 x8 x9 x10 x7)) else (if x10 = (-126 : Int32) then (f_X4_worth_b160 k54 σ o0 x7 x8 x9 x10) else (if x10 = (-33 : Int32) then (f_X4_worth_b160 k54 σ o0 x7 x8 x9 x10) else (f_X4_worth_b165 k54 σ o0 x7 x8 x9 x10 (2 : Int32))))) else (bnd (x9 + 1) (fun v15 => k54 σ o0 x7 x8 v15))))
def f_X4_worth_b54 : Nat → St → Nat → Int32 → Int32 → Int32 → Option (Int32 × St)
  | 0, _, _, _, _, _ => none
  | n + 1, σ, o0, x7, x8, x9 => if σ.1 203 o0 ≤ x9 then (some ((0 : Int32), σ)) else (chk (x9 < 0 ∨ 128 ≤ x9.toNatClampNeg) (bnd (σ.2.2.1 200 o0 x9.toNatClampNeg) (fun v9 => if v9 = (-59 : Int32) then (if x8 = 0 then (some (σ.2.2.1 201 o0 (0 : Int32).toNatClampNeg, σ)) else (f_X4_worth_b91 (f_X4_worth_b54 n) σ o0 x7 x8 x9 v9)) else (f_X4_worth_b91 (f_X4_worth_b54 n) σ o0 x7 x8 x9 v9))))
def f_X4_worth (σ : St) (i0 : Nat) (p1 : Int32) (p2 : Int32) (p3 : Int32) (p4 : Int32) (p5 : Int32) (p6 : Int32) : Option (Int32 × St) := bnd (sA σ 202 i0 (upd (σ.2.2.1 202 i0) (0 : Int32).toNatClampNeg p1)) (fun σ1 => bnd (sA σ1 202 i0 (upd (σ1.2.2.1 202 i0) (1 : Int32).toNatClampNeg p2)) (fun σ2 => bnd (sA σ2 202 i0 (upd (σ2.2.2.1 202 i0) (2 : Int32).toNatClampNeg p3)) (fun σ3 => bnd (sA σ3 202 i0 (upd (σ3.2.2.1 202 i0) (3 : Int32).toNatClampNeg p4)) (fun σ4 => bnd (sA σ4 202 i0 (upd (σ4.2.2.1 202 i0) (4 : Int32).toNatClampNeg p5)) (fun σ5 => bnd (sA σ5 202 i0 (upd (σ5.2.2.1 202 i0) (5 : Int32).toNatClampNeg p6)) (fun σ6 => f_X4_worth_b54 256 σ6 i0 (0 : Int32) (0 : Int32) (0 : Int32)))))))
set_option maxHeartbeats 4000000 in
set_option maxRecDepth 100000 in
theorem w_X4_worth_b126 {p : Program} {l : Launch} {e : Env} {s : State} {m : MethodId} {args : Array Value} {below : List Frame} {meth : Method} {c : Code} {g : va_G} {ts : ClassId × ClassId × ClassId} {A : Nat → Prop} {Q : State → Prop} {a : Nat → Nat} {r : Int32} {σ' : St} {k54 : St → Nat → Int32 → Int32 → Int32 → Option (Int32 × St)} (C : FX p s m args meth c RX4 cX4_worth 12 g ts A) (hQ : RetI p l e (rk 1 22) s m args below meth c cX4_worth g (WC ts a) A r σ' Q) (hk54 : ∀ (σ : St) (o0 : Nat) (x7 : Int32) (x8 : Int32) (x9 : Int32) (H : Heap) (locs : List Loc) (ls : Array Slot), k54 σ o0 x7 x8 x9 = some (r, σ') → va_P g classes (WC ts a σ) H → va_D A (WC ts a σ) → va_S A s.heap H locs → lawOk σ o0 → lv_has ls 12 [(0, .ref (a (48 + 4 * o0))), (7, .int x7), (8, .int x8), (9, .int x9)] → W p l e (rk 1 22) s m args below meth c H locs 0 0 Q (F0 m 54 ls [])) : ∀ (σ : St) (o0 : Nat) (x9 : Int32) (s0 : Int32) (H : Heap) (locs : List Loc) (ls : Array Slot), f_X4_worth_b126 k54 σ o0 x9 s0 = some (r, σ') → va_P g classes (WC ts a σ) H → va_D A (WC ts a σ) → va_S A s.heap H locs → lawOk σ o0 → lv_has ls 12 [(0, .ref (a (48 + 4 * o0))), (9, .int x9)] → W p l e (rk 1 22) s m args below meth c H locs 0 0 Q (F0 m 126 ls [.int s0]) := by
  have hx := C.1
  have hb := C.2.1
  have hown := C.2.2.2.1
  have hts := C.2.2.2.2.1
  intro σ o0 x9 s0 H locs ls hf hP hD hS ho0 hl
  rw [f_X4_worth_b126] at hf
  refine lv_istore (lv' := [(8, .int s0), (0, .ref (a (48 + 4 * o0))), (9, .int x9)]) hx hb dX4_worth_126 hl (by decide) rfl (fun ls hl => ?_)
  refine lv_iconst (v := 0) hx hb dX4_worth_128 (by decide) ?_
  refine lv_istore (lv' := [(7, .int (0 : Int32)), (8, .int s0), (0, .ref (a (48 + 4 * o0))), (9, .int x9)]) hx hb dX4_worth_129 hl (by decide) rfl (fun ls hl => ?_)
  refine lv_goto (tgt := 247) hx hb dX4_worth_131 (by decide) ?_
  obtain ⟨v32, ev32⟩ : ∃ z : Int32, z = x9 + 1 := ⟨_, rfl⟩
  replace hf := bnd_at ev32 hf
  refine lv_iinc (v := v32) (lv' := [(9, .int v32), (7, .int (0 : Int32)), (8, .int s0), (0, .ref (a (48 + 4 * o0)))]) hx hb dX4_worth_247 hl (k := 3) rfl (by rw [ev32]; rfl) (by decide) rfl (fun ls hl => ?_)
  refine lv_goto (tgt := 54) hx hb dX4_worth_250 (by decide) ?_
  exact hk54 _ _ _ _ _ _ _ _ hf hP hD hS ho0 (lv_sub hl [3, 1, 2, 0] rfl)
set_option maxHeartbeats 4000000 in
set_option maxRecDepth 100000 in
theorem w_X4_worth_b125 {p : Program} {l : Launch} {e : Env} {s : State} {m : MethodId} {args : Array Value} {below : List Frame} {meth : Method} {c : Code} {g : va_G} {ts : ClassId × ClassId × ClassId} {A : Nat → Prop} {Q : State → Prop} {a : Nat → Nat} {r : Int32} {σ' : St} {k54 : St → Nat → Int32 → Int32 → Int32 → Option (Int32 × St)} (C : FX p s m args meth c RX4 cX4_worth 12 g ts A) (hQ : RetI p l e (rk 1 22) s m args below meth c cX4_worth g (WC ts a) A r σ' Q) (hk54 : ∀ (σ : St) (o0 : Nat) (x7 : Int32) (x8 : Int32) (x9 : Int32) (H : Heap) (locs : List Loc) (ls : Array Slot), k54 σ o0 x7 x8 x9 = some (r, σ') → va_P g classes (WC ts a σ) H → va_D A (WC ts a σ) → va_S A s.heap H locs → lawOk σ o0 → lv_has ls 12 [(0, .ref (a (48 + 4 * o0))), (7, .int x7), (8, .int x8), (9, .int x9)] → W p l e (rk 1 22) s m args below meth c H locs 0 0 Q (F0 m 54 ls [])) : ∀ (σ : St) (o0 : Nat) (x9 : Int32) (H : Heap) (locs : List Loc) (ls : Array Slot), f_X4_worth_b125 k54 σ o0 x9 = some (r, σ') → va_P g classes (WC ts a σ) H → va_D A (WC ts a σ) → va_S A s.heap H locs → lawOk σ o0 → lv_has ls 12 [(0, .ref (a (48 + 4 * o0))), (9, .int x9)] → W p l e (rk 1 22) s m args below meth c H locs 0 0 Q (F0 m 125 ls []) := by
  have hx := C.1
  have hb := C.2.1
  have hown := C.2.2.2.1
  have hts := C.2.2.2.2.1
  intro σ o0 x9 H locs ls hf hP hD hS ho0 hl
  rw [f_X4_worth_b125] at hf
  refine lv_iconst (v := 0) hx hb dX4_worth_125 (by decide) ?_
  exact w_X4_worth_b126 C hQ hk54 _ _ _ _ _ _ _ hf hP hD hS ho0 (lv_sub hl [0, 1] rfl)
set_option maxHeartbeats 4000000 in
set_option maxRecDepth 100000 in
theorem w_X4_worth_b105 {p : Program} {l : Launch} {e : Env} {s : State} {m : MethodId} {args : Array Value} {below : List Frame} {meth : Method} {c : Code} {g : va_G} {ts : ClassId × ClassId × ClassId} {A : Nat → Prop} {Q : State → Prop} {a : Nat → Nat} {r : Int32} {σ' : St} {k54 : St → Nat → Int32 → Int32 → Int32 → Option (Int32 × St)} (C : FX p s m args meth c RX4 cX4_worth 12 g ts A) (hQ : RetI p l e (rk 1 22) s m args below meth c cX4_worth g (WC ts a) A r σ' Q) (hk54 : ∀ (σ : St) (o0 : Nat) (x7 : Int32) (x8 : Int32) (x9 : Int32) (H : Heap) (locs : List Loc) (ls : Array Slot), k54 σ o0 x7 x8 x9 = some (r, σ') → va_P g classes (WC ts a σ) H → va_D A (WC ts a σ) → va_S A s.heap H locs → lawOk σ o0 → lv_has ls 12 [(0, .ref (a (48 + 4 * o0))), (7, .int x7), (8, .int x8), (9, .int x9)] → W p l e (rk 1 22) s m args below meth c H locs 0 0 Q (F0 m 54 ls [])) : ∀ (σ : St) (o0 : Nat) (x9 : Int32) (x10 : Int32) (H : Heap) (locs : List Loc) (ls : Array Slot), f_X4_worth_b105 k54 σ o0 x9 x10 = some (r, σ') → va_P g classes (WC ts a σ) H → va_D A (WC ts a σ) → va_S A s.heap H locs → lawOk σ o0 → lv_has ls 12 [(0, .ref (a (48 + 4 * o0))), (9, .int x9), (10, .int x10)] → W p l e (rk 1 22) s m args below meth c H locs 0 0 Q (F0 m 105 ls []) := by
  have hx := C.1
  have hb := C.2.1
  have hown := C.2.2.2.1
  have hts := C.2.2.2.2.1
  intro σ o0 x9 x10 H locs ls hf hP hD hS ho0 hl
  rw [f_X4_worth_b105] at hf
  refine lv_iload hx hb dX4_worth_105 (lv_at hl 2 rfl) ?_
  refine lv_bipush (v := -63) hx hb dX4_worth_107 (by decide) ?_
  refine lv_icmp_ne (tgt := 125) hx hb dX4_worth_109 (by decide) (fun c21 => ?_) (fun c21 => ?_)
  · replace hf := ineg c21 hf
    exact w_X4_worth_b125 C hQ hk54 _ _ _ _ _ _ hf hP hD hS ho0 (lv_sub hl [0, 1] rfl)
  · replace hf := ipos c21 hf
    refine lv_aload_n hx hb dX4_worth_112 rfl (lv_at hl 0 rfl) ?_
    refine G_X4_stack ho0 C hP q_100 dX4_worth_113 ?_
    refine lv_iconst (v := 0) hx hb dX4_worth_116 (by decide) ?_
    refine AL_X4_stack ho0 C hP (by decide) dX4_worth_117 ?_
    refine lv_if_ne (tgt := 125) hx hb dX4_worth_118 (by decide) (fun c22 => ?_) (fun c22 => ?_)
    · replace hf := ineg c22 hf
      exact w_X4_worth_b125 C hQ hk54 _ _ _ _ _ _ hf hP hD hS ho0 (lv_sub hl [0, 1] rfl)
    · replace hf := ipos c22 hf
      refine lv_iconst (v := 1) hx hb dX4_worth_121 (by decide) ?_
      refine lv_goto (tgt := 126) hx hb dX4_worth_122 (by decide) ?_
      exact w_X4_worth_b126 C hQ hk54 _ _ _ _ _ _ _ hf hP hD hS ho0 (lv_sub hl [0, 1] rfl)
set_option maxHeartbeats 4000000 in
set_option maxRecDepth 100000 in
theorem w_X4_worth_b236 {p : Program} {l : Launch} {e : Env} {s : State} {m : MethodId} {args : Array Value} {below : List Frame} {meth : Method} {c : Code} {g : va_G} {ts : ClassId × ClassId × ClassId} {A : Nat → Prop} {Q : State → Prop} {a : Nat → Nat} {r : Int32} {σ' : St} {k54 : St → Nat → Int32 → Int32 → Int32 → Option (Int32 × St)} (C : FX p s m args meth c RX4 cX4_worth 12 g ts A) (hQ : RetI p l e (rk 1 22) s m args below meth c cX4_worth g (WC ts a) A r σ' Q) (hk54 : ∀ (σ : St) (o0 : Nat) (x7 : Int32) (x8 : Int32) (x9 : Int32) (H : Heap) (locs : List Loc) (ls : Array Slot), k54 σ o0 x7 x8 x9 = some (r, σ') → va_P g classes (WC ts a σ) H → va_D A (WC ts a σ) → va_S A s.heap H locs → lawOk σ o0 → lv_has ls 12 [(0, .ref (a (48 + 4 * o0))), (7, .int x7), (8, .int x8), (9, .int x9)] → W p l e (rk 1 22) s m args below meth c H locs 0 0 Q (F0 m 54 ls [])) : ∀ (σ : St) (o0 : Nat) (x7 : Int32) (x8 : Int32) (x9 : Int32) (H : Heap) (locs : List Loc) (ls : Array Slot), f_X4_worth_b236 k54 σ o0 x7 x8 x9 = some (r, σ') → va_P g classes (WC ts a σ) H → va_D A (WC ts a σ) → va_S A s.heap H locs → lawOk σ o0 → lv_has ls 12 [(0, .ref (a (48 + 4 * o0))), (7, .int x7), (8, .int x8), (9, .int x9)] → W p l e (rk 1 22) s m args below meth c H locs 0 0 Q (F0 m 236 ls []) := by
  have hx := C.1
  have hb := C.2.1
  have hown := C.2.2.2.1
  have hts := C.2.2.2.2.1
  intro σ o0 x7 x8 x9 H locs ls hf hP hD hS ho0 hl
  rw [f_X4_worth_b236] at hf
  refine lv_iload hx hb dX4_worth_236 (lv_at hl 1 rfl) ?_
  refine lv_iconst (v := 1) hx hb dX4_worth_238 (by decide) ?_
  refine lv_iadd hx hb dX4_worth_239 ?_
  refine lv_bipush (v := 127) hx hb dX4_worth_240 (by decide) ?_
  refine va_mmin hx hb (C.2.2.1.trans hl.1.symm) hown (hts _ q_678) (hts _ q_584) (hts _ q_74) (hts _ q_585) (Nat.le_of_ble_eq_true rfl) (Nat.le_of_ble_eq_true rfl) (Nat.zero_le _) (Nat.zero_le _) dX4_worth_242 ?_
  refine lv_topi (fun v33 ev33 => ?_)
  replace hf := bnd_at ev33 hf
  refine lv_istore (lv' := [(7, .int v33), (0, .ref (a (48 + 4 * o0))), (8, .int x8), (9, .int x9)]) hx hb dX4_worth_245 hl (by decide) rfl (fun ls hl => ?_)
  obtain ⟨v34, ev34⟩ : ∃ z : Int32, z = x9 + 1 := ⟨_, rfl⟩
  replace hf := bnd_at ev34 hf
  refine lv_iinc (v := v34) (lv' := [(9, .int v34), (7, .int v33), (0, .ref (a (48 + 4 * o0))), (8, .int x8)]) hx hb dX4_worth_247 hl (k := 3) rfl (by rw [ev34]; rfl) (by decide) rfl (fun ls hl => ?_)
  refine lv_goto (tgt := 54) hx hb dX4_worth_250 (by decide) ?_
  exact hk54 _ _ _ _ _ _ _ _ hf hP hD hS ho0 (lv_sub hl [2, 1, 3, 0] rfl)
set_option maxHeartbeats 4000000 in
set_option maxRecDepth 100000 in
theorem w_X4_worth_b165 {p : Program} {l : Launch} {e : Env} {s : State} {m : MethodId} {args : Array Value} {below : List Frame} {meth : Method} {c : Code} {g : va_G} {ts : ClassId × ClassId × ClassId} {A : Nat → Prop} {Q : State → Prop} {a : Nat → Nat} {r : Int32} {σ' : St} {k54 : St → Nat → Int32 → Int32 → Int32 → Option (Int32 × St)} (C : FX p s m args meth c RX4 cX4_worth 12 g ts A) (hQ : RetI p l e (rk 1 22) s m args below meth c cX4_worth g (WC ts a) A r σ' Q) (hk54 : ∀ (σ : St) (o0 : Nat) (x7 : Int32) (x8 : Int32) (x9 : Int32) (H : Heap) (locs : List Loc) (ls : Array Slot), k54 σ o0 x7 x8 x9 = some (r, σ') → va_P g classes (WC ts a σ) H → va_D A (WC ts a σ) → va_S A s.heap H locs → lawOk σ o0 → lv_has ls 12 [(0, .ref (a (48 + 4 * o0))), (7, .int x7), (8, .int x8), (9, .int x9)] → W p l e (rk 1 22) s m args below meth c H locs 0 0 Q (F0 m 54 ls [])) : ∀ (σ : St) (o0 : Nat) (x7 : Int32) (x8 : Int32) (x9 : Int32) (x10 : Int32) (s0 : Int32) (H : Heap) (locs : List Loc) (ls : Array Slot), f_X4_worth_b165 k54 σ o0 x7 x8 x9 x10 s0 = some (r, σ') → va_P g classes (WC ts a σ) H → va_D A (WC ts a σ) → va_S A s.heap H locs → lawOk σ o0 → lv_has ls 12 [(0, .ref (a (48 + 4 * o0))), (7, .int x7), (8, .int x8), (9, .int x9), (10, .int x10)] → W p l e (rk 1 22) s m args below meth c H locs 0 0 Q (F0 m 165 ls [.int s0]) := by
  have hx := C.1
  have hb := C.2.1
  have hown := C.2.2.2.1
  have hts := C.2.2.2.2.1
  intro σ o0 x7 x8 x9 x10 s0 H locs ls hf hP hD hS ho0 hl
  rw [f_X4_worth_b165] at hf
  refine lv_istore (lv' := [(11, .int s0), (0, .ref (a (48 + 4 * o0))), (7, .int x7), (8, .int x8), (9, .int x9), (10, .int x10)]) hx hb dX4_worth_165 hl (by decide) rfl (fun ls hl => ?_)
  refine lv_iload hx hb dX4_worth_167 (lv_at hl 2 rfl) ?_
  refine lv_iload hx hb dX4_worth_169 (lv_at hl 0 rfl) ?_
  refine lv_isub hx hb dX4_worth_171 ?_
  refine lv_iconst (v := 0) hx hb dX4_worth_172 (by decide) ?_
  refine va_mmax hx hb (C.2.2.1.trans hl.1.symm) hown (hts _ q_674) (hts _ q_581) (hts _ q_74) (hts _ q_582) (Nat.le_of_ble_eq_true rfl) (Nat.le_of_ble_eq_true rfl) (Nat.zero_le _) (Nat.zero_le _) dX4_worth_173 ?_
  refine lv_topi (fun v25 ev25 => ?_)
  replace hf := bnd_at ev25 hf
  refine lv_istore (lv' := [(7, .int v25), (11, .int s0), (0, .ref (a (48 + 4 * o0))), (8, .int x8), (9, .int x9), (10, .int x10)]) hx hb dX4_worth_176 hl (by decide) rfl (fun ls hl => ?_)
  refine lv_aload_n hx hb dX4_worth_178 rfl (lv_at hl 2 rfl) ?_
  refine G_X4_stack ho0 C hP q_100 dX4_worth_179 ?_
  refine lv_iload hx hb dX4_worth_182 (lv_at hl 0 rfl) ?_
  refine lv_iload hx hb dX4_worth_184 (lv_at hl 5 rfl) ?_
  refine lv_ineg hx hb dX4_worth_186 ?_
  refine lv_aload_n hx hb dX4_worth_187 rfl (lv_at hl 2 rfl) ?_
  refine G_X4_stack ho0 C hP q_100 dX4_worth_188 ?_
  refine lv_iload hx hb dX4_worth_191 (lv_at hl 0 rfl) ?_
  obtain ⟨h26, hf⟩ := chk_some hf
  refine AL_X4_stack ho0 C hP h26 dX4_worth_193 ?_
  refine lv_aload_n hx hb dX4_worth_194 rfl (lv_at hl 2 rfl) ?_
  refine G_X4_stack ho0 C hP q_100 dX4_worth_195 ?_
  refine lv_iload hx hb dX4_worth_198 (lv_at hl 0 rfl) ?_
  refine lv_iconst (v := 1) hx hb dX4_worth_200 (by decide) ?_
  refine lv_iadd hx hb dX4_worth_201 ?_
  obtain ⟨h27, hf⟩ := chk_some hf
  refine AL_X4_stack ho0 C hP h27 dX4_worth_202 ?_
  obtain ⟨r29, h28, hf⟩ := bnd1_some hf
  refine tI [.int v25, .ref (a (48 + 4 * o0 + 2))] C hP hD hS (c_X4_made h28) ms_X4_made q_675 dX4_worth_203 ⟨Nat.le_of_ble_eq_true rfl, Nat.le_of_ble_eq_true rfl⟩ ⟨Nat.zero_le _, Nat.zero_le _⟩ rfl rfl (Nat.le_of_ble_eq_true rfl) hl.1 (fun H locs hP hD hS => ?_)
  obtain ⟨h30, hf⟩ := chk_some hf
  refine AS_X4_stack ho0 C hP hD hS h30 dX4_worth_206 (fun H locs hP hD hS => ?_)
  refine nameL hP hD hf ho0 (fun σ31 hP hD hf ho0 => ?_)
  refine lv_goto (tgt := 236) hx hb dX4_worth_207 (by decide) ?_
  exact w_X4_worth_b236 C hQ hk54 _ _ _ _ _ _ _ _ hf hP hD hS ho0 (lv_sub hl [2, 0, 3, 4] rfl)
set_option maxHeartbeats 4000000 in
set_option maxRecDepth 100000 in
theorem w_X4_worth_b160 {p : Program} {l : Launch} {e : Env} {s : State} {m : MethodId} {args : Array Value} {below : List Frame} {meth : Method} {c : Code} {g : va_G} {ts : ClassId × ClassId × ClassId} {A : Nat → Prop} {Q : State → Prop} {a : Nat → Nat} {r : Int32} {σ' : St} {k54 : St → Nat → Int32 → Int32 → Int32 → Option (Int32 × St)} (C : FX p s m args meth c RX4 cX4_worth 12 g ts A) (hQ : RetI p l e (rk 1 22) s m args below meth c cX4_worth g (WC ts a) A r σ' Q) (hk54 : ∀ (σ : St) (o0 : Nat) (x7 : Int32) (x8 : Int32) (x9 : Int32) (H : Heap) (locs : List Loc) (ls : Array Slot), k54 σ o0 x7 x8 x9 = some (r, σ') → va_P g classes (WC ts a σ) H → va_D A (WC ts a σ) → va_S A s.heap H locs → lawOk σ o0 → lv_has ls 12 [(0, .ref (a (48 + 4 * o0))), (7, .int x7), (8, .int x8), (9, .int x9)] → W p l e (rk 1 22) s m args below meth c H locs 0 0 Q (F0 m 54 ls [])) : ∀ (σ : St) (o0 : Nat) (x7 : Int32) (x8 : Int32) (x9 : Int32) (x10 : Int32) (H : Heap) (locs : List Loc) (ls : Array Slot), f_X4_worth_b160 k54 σ o0 x7 x8 x9 x10 = some (r, σ') → va_P g classes (WC ts a σ) H → va_D A (WC ts a σ) → va_S A s.heap H locs → lawOk σ o0 → lv_has ls 12 [(0, .ref (a (48 + 4 * o0))), (7, .int x7), (8, .int x8), (9, .int x9), (10, .int x10)] → W p l e (rk 1 22) s m args below meth c H locs 0 0 Q (F0 m 160 ls []) := by
  have hx := C.1
  have hb := C.2.1
  have hown := C.2.2.2.1
  have hts := C.2.2.2.2.1
  intro σ o0 x7 x8 x9 x10 H locs ls hf hP hD hS ho0 hl
  rw [f_X4_worth_b160] at hf
  refine lv_iconst (v := 1) hx hb dX4_worth_160 (by decide) ?_
  refine lv_goto (tgt := 165) hx hb dX4_worth_161 (by decide) ?_
  exact w_X4_worth_b165 C hQ hk54 _ _ _ _ _ _ _ _ _ _ hf hP hD hS ho0 (lv_sub hl [0, 1, 2, 3, 4] rfl)
set_option maxHeartbeats 4000000 in
set_option maxRecDepth 100000 in
theorem w_X4_worth_b235 {p : Program} {l : Launch} {e : Env} {s : State} {m : MethodId} {args : Array Value} {below : List Frame} {meth : Method} {c : Code} {g : va_G} {ts : ClassId × ClassId × ClassId} {A : Nat → Prop} {Q : State → Prop} {a : Nat → Nat} {r : Int32} {σ' : St} {k54 : St → Nat → Int32 → Int32 → Int32 → Option (Int32 × St)} (C : FX p s m args meth c RX4 cX4_worth 12 g ts A) (hQ : RetI p l e (rk 1 22) s m args below meth c cX4_worth g (WC ts a) A r σ' Q) (hk54 : ∀ (σ : St) (o0 : Nat) (x7 : Int32) (x8 : Int32) (x9 : Int32) (H : Heap) (locs : List Loc) (ls : Array Slot), k54 σ o0 x7 x8 x9 = some (r, σ') → va_P g classes (WC ts a σ) H → va_D A (WC ts a σ) → va_S A s.heap H locs → lawOk σ o0 → lv_has ls 12 [(0, .ref (a (48 + 4 * o0))), (7, .int x7), (8, .int x8), (9, .int x9)] → W p l e (rk 1 22) s m args below meth c H locs 0 0 Q (F0 m 54 ls [])) : ∀ (σ : St) (o0 : Nat) (x7 : Int32) (x8 : Int32) (x9 : Int32) (s0 : Int32) (s1 : Int32) (H : Heap) (locs : List Loc) (ls : Array Slot), f_X4_worth_b235 k54 σ o0 x7 x8 x9 s0 s1 = some (r, σ') → va_P g classes (WC ts a σ) H → va_D A (WC ts a σ) → va_S A s.heap H locs → lawOk σ o0 → lv_has ls 12 [(0, .ref (a (48 + 4 * o0))), (7, .int x7), (8, .int x8), (9, .int x9)] → W p l e (rk 1 22) s m args below meth c H locs 0 0 Q (F0 m 235 ls [.int s0, .int s1, .ref (a (48 + 4 * o0 + 2))]) := by
  have hx := C.1
  have hb := C.2.1
  have hown := C.2.2.2.1
  have hts := C.2.2.2.2.1
  intro σ o0 x7 x8 x9 s0 s1 H locs ls hf hP hD hS ho0 hl
  rw [f_X4_worth_b235] at hf
  obtain ⟨h23, hf⟩ := chk_some hf
  refine AS_X4_stack ho0 C hP hD hS h23 dX4_worth_235 (fun H locs hP hD hS => ?_)
  refine nameL hP hD hf ho0 (fun σ24 hP hD hf ho0 => ?_)
  exact w_X4_worth_b236 C hQ hk54 _ _ _ _ _ _ _ _ hf hP hD hS ho0 (lv_sub hl [0, 1, 2, 3] rfl)
set_option maxHeartbeats 4000000 in
set_option maxRecDepth 100000 in
theorem w_X4_worth_b91 {p : Program} {l : Launch} {e : Env} {s : State} {m : MethodId} {args : Array Value} {below : List Frame} {meth : Method} {c : Code} {g : va_G} {ts : ClassId × ClassId × ClassId} {A : Nat → Prop} {Q : State → Prop} {a : Nat → Nat} {r : Int32} {σ' : St} {k54 : St → Nat → Int32 → Int32 → Int32 → Option (Int32 × St)} (C : FX p s m args meth c RX4 cX4_worth 12 g ts A) (hQ : RetI p l e (rk 1 22) s m args below meth c cX4_worth g (WC ts a) A r σ' Q) (hk54 : ∀ (σ : St) (o0 : Nat) (x7 : Int32) (x8 : Int32) (x9 : Int32) (H : Heap) (locs : List Loc) (ls : Array Slot), k54 σ o0 x7 x8 x9 = some (r, σ') → va_P g classes (WC ts a σ) H → va_D A (WC ts a σ) → va_S A s.heap H locs → lawOk σ o0 → lv_has ls 12 [(0, .ref (a (48 + 4 * o0))), (7, .int x7), (8, .int x8), (9, .int x9)] → W p l e (rk 1 22) s m args below meth c H locs 0 0 Q (F0 m 54 ls [])) : ∀ (σ : St) (o0 : Nat) (x7 : Int32) (x8 : Int32) (x9 : Int32) (x10 : Int32) (H : Heap) (locs : List Loc) (ls : Array Slot), f_X4_worth_b91 k54 σ o0 x7 x8 x9 x10 = some (r, σ') → va_P g classes (WC ts a σ) H → va_D A (WC ts a σ) → va_S A s.heap H locs → lawOk σ o0 → lv_has ls 12 [(0, .ref (a (48 + 4 * o0))), (7, .int x7), (8, .int x8), (9, .int x9), (10, .int x10)] → W p l e (rk 1 22) s m args below meth c H locs 0 0 Q (F0 m 91 ls []) := by
  have hx := C.1
  have hb := C.2.1
  have hown := C.2.2.2.1
  have hts := C.2.2.2.2.1
  intro σ o0 x7 x8 x9 x10 H locs ls hf hP hD hS ho0 hl
  rw [f_X4_worth_b91] at hf
  refine lv_iload hx hb dX4_worth_91 (lv_at hl 4 rfl) ?_
  refine lv_bipush (v := -59) hx hb dX4_worth_93 (by decide) ?_
  refine lv_icmp_eq (tgt := 105) hx hb dX4_worth_95 (by decide) (fun c12 => ?_) (fun c12 => ?_)
  · replace hf := ipos c12 hf
    exact w_X4_worth_b105 C hQ hk54 _ _ _ _ _ _ _ hf hP hD hS ho0 (lv_sub hl [0, 3, 4] rfl)
  · replace hf := ineg c12 hf
    refine lv_iload hx hb dX4_worth_98 (lv_at hl 4 rfl) ?_
    refine lv_bipush (v := -63) hx hb dX4_worth_100 (by decide) ?_
    refine lv_icmp_ne (tgt := 134) hx hb dX4_worth_102 (by decide) (fun c13 => ?_) (fun c13 => ?_)
    · replace hf := ineg c13 hf
      refine lv_iload hx hb dX4_worth_134 (lv_at hl 2 rfl) ?_
      refine lv_if_ne (tgt := 247) hx hb dX4_worth_136 (by decide) (fun c14 => ?_) (fun c14 => ?_)
      · replace hf := ineg c14 hf
        obtain ⟨v15, ev15⟩ : ∃ z : Int32, z = x9 + 1 := ⟨_, rfl⟩
        replace hf := bnd_at ev15 hf
        refine lv_iinc (v := v15) (lv' := [(9, .int v15), (0, .ref (a (48 + 4 * o0))), (7, .int x7), (8, .int x8), (10, .int x10)]) hx hb dX4_worth_247 hl (k := 3) rfl (by rw [ev15]; rfl) (by decide) rfl (fun ls hl => ?_)
        refine lv_goto (tgt := 54) hx hb dX4_worth_250 (by decide) ?_
        exact hk54 _ _ _ _ _ _ _ _ hf hP hD hS ho0 (lv_sub hl [1, 2, 3, 0] rfl)
      · replace hf := ipos c14 hf
        refine lv_iload hx hb dX4_worth_139 (lv_at hl 4 rfl) ?_
        refine lv_bipush (v := -6) hx hb dX4_worth_141 (by decide) ?_
        refine lv_icmp_ge (tgt := 210) hx hb dX4_worth_143 (by decide) (fun c16 => ?_) (fun c16 => ?_)
        · replace hf := ipos c16 hf
          refine lv_aload_n hx hb dX4_worth_210 rfl (lv_at hl 0 rfl) ?_
          refine G_X4_stack ho0 C hP q_100 dX4_worth_211 ?_
          refine lv_iload hx hb dX4_worth_214 (lv_at hl 1 rfl) ?_
          refine lv_iload hx hb dX4_worth_216 (lv_at hl 4 rfl) ?_
          refine lv_if_lt (tgt := 226) hx hb dX4_worth_218 (by decide) (fun c17 => ?_) (fun c17 => ?_)
          · replace hf := ipos c17 hf
            refine lv_aload_n hx hb dX4_worth_226 rfl (lv_at hl 0 rfl) ?_
            refine G_X4_values ho0 C hP q_101 dX4_worth_227 ?_
            refine lv_iconst (v := -1) hx hb dX4_worth_230 (by decide) ?_
            refine lv_iload hx hb dX4_worth_231 (lv_at hl 4 rfl) ?_
            refine lv_isub hx hb dX4_worth_233 ?_
            obtain ⟨h18, hf⟩ := chk_some hf
            refine AL_X4_values ho0 C hP h18 dX4_worth_234 ?_
            exact w_X4_worth_b235 C hQ hk54 _ _ _ _ _ _ _ _ _ _ hf hP hD hS ho0 (lv_sub hl [0, 1, 2, 3] rfl)
          · replace hf := ineg c17 hf
            refine lv_iload hx hb dX4_worth_221 (lv_at hl 4 rfl) ?_
            refine lv_goto (tgt := 235) hx hb dX4_worth_223 (by decide) ?_
            exact w_X4_worth_b235 C hQ hk54 _ _ _ _ _ _ _ _ _ _ hf hP hD hS ho0 (lv_sub hl [0, 1, 2, 3] rfl)
        · replace hf := ineg c16 hf
          refine lv_iload hx hb dX4_worth_146 (lv_at hl 4 rfl) ?_
          refine lv_bipush (v := -126) hx hb dX4_worth_148 (by decide) ?_
          refine lv_icmp_eq (tgt := 160) hx hb dX4_worth_150 (by decide) (fun c19 => ?_) (fun c19 => ?_)
          · replace hf := ipos c19 hf
            exact w_X4_worth_b160 C hQ hk54 _ _ _ _ _ _ _ _ _ hf hP hD hS ho0 (lv_sub hl [0, 1, 2, 3, 4] rfl)
          · replace hf := ineg c19 hf
            refine lv_iload hx hb dX4_worth_153 (lv_at hl 4 rfl) ?_
            refine lv_bipush (v := -33) hx hb dX4_worth_155 (by decide) ?_
            refine lv_icmp_ne (tgt := 164) hx hb dX4_worth_157 (by decide) (fun c20 => ?_) (fun c20 => ?_)
            · replace hf := ineg c20 hf
              refine lv_iconst (v := 2) hx hb dX4_worth_164 (by decide) ?_
              exact w_X4_worth_b165 C hQ hk54 _ _ _ _ _ _ _ _ _ _ hf hP hD hS ho0 (lv_sub hl [0, 1, 2, 3, 4] rfl)
            · replace hf := ipos c20 hf
              exact w_X4_worth_b160 C hQ hk54 _ _ _ _ _ _ _ _ _ hf hP hD hS ho0 (lv_sub hl [0, 1, 2, 3, 4] rfl)
    · replace hf := ipos c13 hf
      exact w_X4_worth_b105 C hQ hk54 _ _ _ _ _ _ _ hf hP hD hS ho0 (lv_sub hl [0, 3, 4] rfl)
set_option maxHeartbeats 4000000 in
set_option maxRecDepth 100000 in
theorem w_X4_worth_b54 {p : Program} {l : Launch} {e : Env} {s : State} {m : MethodId} {args : Array Value} {below : List Frame} {meth : Method} {c : Code} {g : va_G} {ts : ClassId × ClassId × ClassId} {A : Nat → Prop} {Q : State → Prop} {a : Nat → Nat} {r : Int32} {σ' : St} (C : FX p s m args meth c RX4 cX4_worth 12 g ts A) (hQ : RetI p l e (rk 1 22) s m args below meth c cX4_worth g (WC ts a) A r σ' Q) : ∀ (n : Nat) (σ : St) (o0 : Nat) (x7 : Int32) (x8 : Int32) (x9 : Int32) (H : Heap) (locs : List Loc) (ls : Array Slot), f_X4_worth_b54 n σ o0 x7 x8 x9 = some (r, σ') → va_P g classes (WC ts a σ) H → va_D A (WC ts a σ) → va_S A s.heap H locs → lawOk σ o0 → lv_has ls 12 [(0, .ref (a (48 + 4 * o0))), (7, .int x7), (8, .int x8), (9, .int x9)] → W p l e (rk 1 22) s m args below meth c H locs 0 0 Q (F0 m 54 ls []) := by
  have hx := C.1
  have hb := C.2.1
  have hown := C.2.2.2.1
  have hts := C.2.2.2.2.1
  intro n
  induction n with
  | zero =>
    intro σ o0 x7 x8 x9 H locs ls hf
    cases hf
  | succ n ih =>
    intro σ o0 x7 x8 x9 H locs ls hf hP hD hS ho0 hl
    rw [f_X4_worth_b54] at hf
    refine lv_iload hx hb dX4_worth_54 (lv_at hl 3 rfl) ?_
    refine lv_aload_n hx hb dX4_worth_56 rfl (lv_at hl 0 rfl) ?_
    refine G_X4_length ho0 C hP q_102 dX4_worth_57 ?_
    refine lv_icmp_ge (tgt := 253) hx hb dX4_worth_60 (by decide) (fun c7 => ?_) (fun c7 => ?_)
    · replace hf := ipos c7 hf
      refine lv_iconst (v := 0) hx hb dX4_worth_253 (by decide) ?_
      exact retI hQ hf dX4_worth_254 hP hD hS
    · replace hf := ineg c7 hf
      refine lv_aload_n hx hb dX4_worth_63 rfl (lv_at hl 0 rfl) ?_
      refine G_X4_code ho0 C hP q_99 dX4_worth_64 ?_
      refine lv_iload hx hb dX4_worth_67 (lv_at hl 3 rfl) ?_
      obtain ⟨h8, hf⟩ := chk_some hf
      refine AL_X4_code ho0 C hP h8 dX4_worth_69 ?_
      refine lv_topi (fun v9 ev9 => ?_)
      replace hf := bnd_at ev9 hf
      refine lv_istore (lv' := [(10, .int v9), (0, .ref (a (48 + 4 * o0))), (7, .int x7), (8, .int x8), (9, .int x9)]) hx hb dX4_worth_70 hl (by decide) rfl (fun ls hl => ?_)
      refine lv_iload hx hb dX4_worth_72 (lv_at hl 0 rfl) ?_
      refine lv_bipush (v := -59) hx hb dX4_worth_74 (by decide) ?_
      refine lv_icmp_ne (tgt := 91) hx hb dX4_worth_76 (by decide) (fun c10 => ?_) (fun c10 => ?_)
      · replace hf := ineg c10 hf
        exact w_X4_worth_b91 C hQ ih _ _ _ _ _ _ _ _ _ hf hP hD hS ho0 (lv_sub hl [1, 2, 3, 4, 0] rfl)
      · replace hf := ipos c10 hf
        refine lv_iload hx hb dX4_worth_79 (lv_at hl 3 rfl) ?_
        refine lv_if_ne (tgt := 91) hx hb dX4_worth_81 (by decide) (fun c11 => ?_) (fun c11 => ?_)
        · replace hf := ineg c11 hf
          exact w_X4_worth_b91 C hQ ih _ _ _ _ _ _ _ _ _ hf hP hD hS ho0 (lv_sub hl [1, 2, 3, 4, 0] rfl)
        · replace hf := ipos c11 hf
          refine lv_aload_n hx hb dX4_worth_84 rfl (lv_at hl 1 rfl) ?_
          refine G_X4_stack ho0 C hP q_100 dX4_worth_85 ?_
          refine lv_iconst (v := 0) hx hb dX4_worth_88 (by decide) ?_
          refine AL_X4_stack ho0 C hP (by decide) dX4_worth_89 ?_
          exact retI hQ hf dX4_worth_90 hP hD hS
set_option maxHeartbeats 4000000 in
set_option maxRecDepth 100000 in
theorem c_X4_worth {l : Launch} {g : va_G} {ts : ClassId × ClassId × ClassId} {a : Nat → Nat} {σ : St} {i0 : Nat} {p1 : Int32} {p2 : Int32} {p3 : Int32} {p4 : Int32} {p5 : Int32} {p6 : Int32} {r : Int32} {σ' : St} (hi0 : lawOk σ i0) (hf : f_X4_worth σ i0 p1 p2 p3 p4 p5 p6 = some (r, σ')) : ConI l g ts (WC ts a) yX4_worth cX4_worth 12 (some .int) (rk 1 22) σ [.ref (a (48 + 4 * i0)), .int p1, .int p2, .int p3, .int p4, .int p5, .int p6] r σ' := by
  refine ConI_mk .int rfl rfl rfl rfl (by decide) (Nat.le_of_ble_eq_true rfl) ?_
  intro p e s m below meth c A Q ls C hQ hP hD hS hl
  have C : FX p s m _ meth c RX4 cX4_worth 12 g ts A := C
  have hx := C.1
  have hb := C.2.1
  have hown := C.2.2.2.1
  have hts := C.2.2.2.2.1
  have hl : lv_has ls 12 [(0, .ref (a (48 + 4 * i0))), (1, .int p1), (2, .int p2), (3, .int p3), (4, .int p4), (5, .int p5), (6, .int p6)] := hl
  rw [f_X4_worth] at hf
  refine lv_aload_n hx hb dX4_worth_0 rfl (lv_at hl 0 rfl) ?_
  refine G_X4_values hi0 C hP q_101 dX4_worth_1 ?_
  refine lv_iconst (v := 0) hx hb dX4_worth_4 (by decide) ?_
  refine lv_iload_n hx hb dX4_worth_5 rfl (lv_at hl 1 rfl) ?_
  refine AS_X4_values hi0 C hP hD hS (by decide) dX4_worth_6 (fun H locs hP hD hS => ?_)
  refine nameL hP hD hf hi0 (fun σ1 hP hD hf hi0 => ?_)
  refine lv_aload_n hx hb dX4_worth_7 rfl (lv_at hl 0 rfl) ?_
  refine G_X4_values hi0 C hP q_101 dX4_worth_8 ?_
  refine lv_iconst (v := 1) hx hb dX4_worth_11 (by decide) ?_
  refine lv_iload_n hx hb dX4_worth_12 rfl (lv_at hl 2 rfl) ?_
  refine AS_X4_values hi0 C hP hD hS (by decide) dX4_worth_13 (fun H locs hP hD hS => ?_)
  refine nameL hP hD hf hi0 (fun σ2 hP hD hf hi0 => ?_)
  refine lv_aload_n hx hb dX4_worth_14 rfl (lv_at hl 0 rfl) ?_
  refine G_X4_values hi0 C hP q_101 dX4_worth_15 ?_
  refine lv_iconst (v := 2) hx hb dX4_worth_18 (by decide) ?_
  refine lv_iload_n hx hb dX4_worth_19 rfl (lv_at hl 3 rfl) ?_
  refine AS_X4_values hi0 C hP hD hS (by decide) dX4_worth_20 (fun H locs hP hD hS => ?_)
  refine nameL hP hD hf hi0 (fun σ3 hP hD hf hi0 => ?_)
  refine lv_aload_n hx hb dX4_worth_21 rfl (lv_at hl 0 rfl) ?_
  refine G_X4_values hi0 C hP q_101 dX4_worth_22 ?_
  refine lv_iconst (v := 3) hx hb dX4_worth_25 (by decide) ?_
  refine lv_iload hx hb dX4_worth_26 (lv_at hl 4 rfl) ?_
  refine AS_X4_values hi0 C hP hD hS (by decide) dX4_worth_28 (fun H locs hP hD hS => ?_)
  refine nameL hP hD hf hi0 (fun σ4 hP hD hf hi0 => ?_)
  refine lv_aload_n hx hb dX4_worth_29 rfl (lv_at hl 0 rfl) ?_
  refine G_X4_values hi0 C hP q_101 dX4_worth_30 ?_
  refine lv_iconst (v := 4) hx hb dX4_worth_33 (by decide) ?_
  refine lv_iload hx hb dX4_worth_34 (lv_at hl 5 rfl) ?_
  refine AS_X4_values hi0 C hP hD hS (by decide) dX4_worth_36 (fun H locs hP hD hS => ?_)
  refine nameL hP hD hf hi0 (fun σ5 hP hD hf hi0 => ?_)
  refine lv_aload_n hx hb dX4_worth_37 rfl (lv_at hl 0 rfl) ?_
  refine G_X4_values hi0 C hP q_101 dX4_worth_38 ?_
  refine lv_iconst (v := 5) hx hb dX4_worth_41 (by decide) ?_
  refine lv_iload hx hb dX4_worth_42 (lv_at hl 6 rfl) ?_
  refine AS_X4_values hi0 C hP hD hS (by decide) dX4_worth_44 (fun H locs hP hD hS => ?_)
  refine nameL hP hD hf hi0 (fun σ6 hP hD hf hi0 => ?_)
  refine lv_iconst (v := 0) hx hb dX4_worth_45 (by decide) ?_
  refine lv_istore (lv' := [(7, .int (0 : Int32)), (0, .ref (a (48 + 4 * i0))), (1, .int p1), (2, .int p2), (3, .int p3), (4, .int p4), (5, .int p5), (6, .int p6)]) hx hb dX4_worth_46 hl (by decide) rfl (fun ls hl => ?_)
  refine lv_iconst (v := 0) hx hb dX4_worth_48 (by decide) ?_
  refine lv_istore (lv' := [(8, .int (0 : Int32)), (7, .int (0 : Int32)), (0, .ref (a (48 + 4 * i0))), (1, .int p1), (2, .int p2), (3, .int p3), (4, .int p4), (5, .int p5), (6, .int p6)]) hx hb dX4_worth_49 hl (by decide) rfl (fun ls hl => ?_)
  refine lv_iconst (v := 0) hx hb dX4_worth_51 (by decide) ?_
  refine lv_istore (lv' := [(9, .int (0 : Int32)), (8, .int (0 : Int32)), (7, .int (0 : Int32)), (0, .ref (a (48 + 4 * i0))), (1, .int p1), (2, .int p2), (3, .int p3), (4, .int p4), (5, .int p5), (6, .int p6)]) hx hb dX4_worth_52 hl (by decide) rfl (fun ls hl => ?_)
  exact w_X4_worth_b54 C hQ 256 _ _ _ _ _ _ _ _ hf hP hD hS hi0 (lv_sub hl [3, 2, 1, 0] rfl)
theorem dX4_clear_0 : decode cX4_clear 0 = .ok (.aload_n 0, 1) := by decide +kernel
theorem dX4_clear_1 : decode cX4_clear 1 = .ok (.iconst 0, 1) := by decide +kernel
theorem dX4_clear_2 : decode cX4_clear 2 = .ok (.putfield 19, 3) := by decide +kernel
theorem dX4_clear_5 : decode cX4_clear 5 = .ok (.return_, 1) := by decide +kernel
def f_X4_clear (σ : St) (i0 : Nat) : Option St := some (sI σ 203 i0 (0 : Int32))
set_option maxHeartbeats 4000000 in
set_option maxRecDepth 100000 in
theorem c_X4_clear {l : Launch} {g : va_G} {ts : ClassId × ClassId × ClassId} {a : Nat → Nat} {σ : St} {i0 : Nat} {σ' : St} (hi0 : lawOk σ i0) (hf : f_X4_clear σ i0 = some σ') : ConV l g ts (WC ts a) yX4_clear cX4_clear 1 none (rk 0 0) σ [.ref (a (48 + 4 * i0))] σ' := by
  refine ConV_mk rfl rfl (by decide) (Nat.le_of_ble_eq_true rfl) ?_
  intro p e s m below meth c A Q ls C hQ hP hD hS hl
  have C : FX p s m _ meth c RX4 cX4_clear 1 g ts A := C
  have hx := C.1
  have hb := C.2.1
  have hown := C.2.2.2.1
  have hts := C.2.2.2.2.1
  have hl : lv_has ls 1 [(0, .ref (a (48 + 4 * i0)))] := hl
  rw [f_X4_clear] at hf
  refine lv_aload_n hx hb dX4_clear_0 rfl (lv_at hl 0 rfl) ?_
  refine lv_iconst (v := 0) hx hb dX4_clear_1 (by decide) ?_
  refine S_X4_length hi0 C hP hD hS q_102 dX4_clear_2 (fun H locs hP hD hS => ?_)
  exact retV hQ hf dX4_clear_5 hP hD hS
theorem dX4_emit_0 : decode cX4_emit 0 = .ok (.aload_n 0, 1) := by decide +kernel
theorem dX4_emit_1 : decode cX4_emit 1 = .ok (.getfield 19, 3) := by decide +kernel
theorem dX4_emit_4 : decode cX4_emit 4 = .ok (.sipush 128, 3) := by decide +kernel
theorem dX4_emit_7 : decode cX4_emit 7 = .ok (.if_icmp .ge 23, 3) := by decide +kernel
theorem dX4_emit_10 : decode cX4_emit 10 = .ok (.aload_n 0, 1) := by decide +kernel
theorem dX4_emit_11 : decode cX4_emit 11 = .ok (.getfield 9, 3) := by decide +kernel
theorem dX4_emit_14 : decode cX4_emit 14 = .ok (.aload_n 0, 1) := by decide +kernel
theorem dX4_emit_15 : decode cX4_emit 15 = .ok (.getfield 19, 3) := by decide +kernel
theorem dX4_emit_18 : decode cX4_emit 18 = .ok (.iload_n 1, 1) := by decide +kernel
theorem dX4_emit_19 : decode cX4_emit 19 = .ok (.iastore, 1) := by decide +kernel
theorem dX4_emit_20 : decode cX4_emit 20 = .ok (.aload_n 0, 1) := by decide +kernel
theorem dX4_emit_21 : decode cX4_emit 21 = .ok (.dup, 1) := by decide +kernel
theorem dX4_emit_22 : decode cX4_emit 22 = .ok (.getfield 19, 3) := by decide +kernel
theorem dX4_emit_25 : decode cX4_emit 25 = .ok (.iconst 1, 1) := by decide +kernel
theorem dX4_emit_26 : decode cX4_emit 26 = .ok (.iadd, 1) := by decide +kernel
theorem dX4_emit_27 : decode cX4_emit 27 = .ok (.putfield 19, 3) := by decide +kernel
theorem dX4_emit_30 : decode cX4_emit 30 = .ok (.return_, 1) := by decide +kernel
def f_X4_emit (σ : St) (i0 : Nat) (p1 : Int32) : Option St := if (128 : Int32) ≤ σ.1 203 i0 then (some σ) else (chk (σ.1 203 i0 < 0 ∨ 128 ≤ (σ.1 203 i0).toNatClampNeg) (bnd (sA σ 200 i0 (upd (σ.2.2.1 200 i0) (σ.1 203 i0).toNatClampNeg p1)) (fun σ3 => some (sI σ3 203 i0 ((σ3.1 203 i0) + (1 : Int32))))))
set_option maxHeartbeats 4000000 in
set_option maxRecDepth 100000 in
theorem c_X4_emit {l : Launch} {g : va_G} {ts : ClassId × ClassId × ClassId} {a : Nat → Nat} {σ : St} {i0 : Nat} {p1 : Int32} {σ' : St} (hi0 : lawOk σ i0) (hf : f_X4_emit σ i0 p1 = some σ') : ConV l g ts (WC ts a) yX4_emit cX4_emit 2 none (rk 0 0) σ [.ref (a (48 + 4 * i0)), .int p1] σ' := by
  refine ConV_mk rfl rfl (by decide) (Nat.le_of_ble_eq_true rfl) ?_
  intro p e s m below meth c A Q ls C hQ hP hD hS hl
  have C : FX p s m _ meth c RX4 cX4_emit 2 g ts A := C
  have hx := C.1
  have hb := C.2.1
  have hown := C.2.2.2.1
  have hts := C.2.2.2.2.1
  have hl : lv_has ls 2 [(0, .ref (a (48 + 4 * i0))), (1, .int p1)] := hl
  rw [f_X4_emit] at hf
  refine lv_aload_n hx hb dX4_emit_0 rfl (lv_at hl 0 rfl) ?_
  refine G_X4_length hi0 C hP q_102 dX4_emit_1 ?_
  refine lv_sipush (v := 128) hx hb dX4_emit_4 (by decide) ?_
  refine lv_icmp_ge (tgt := 30) hx hb dX4_emit_7 (by decide) (fun c1 => ?_) (fun c1 => ?_)
  · replace hf := ipos c1 hf
    exact retV hQ hf dX4_emit_30 hP hD hS
  · replace hf := ineg c1 hf
    refine lv_aload_n hx hb dX4_emit_10 rfl (lv_at hl 0 rfl) ?_
    refine G_X4_code hi0 C hP q_99 dX4_emit_11 ?_
    refine lv_aload_n hx hb dX4_emit_14 rfl (lv_at hl 0 rfl) ?_
    refine G_X4_length hi0 C hP q_102 dX4_emit_15 ?_
    refine lv_iload_n hx hb dX4_emit_18 rfl (lv_at hl 1 rfl) ?_
    obtain ⟨h2, hf⟩ := chk_some hf
    refine AS_X4_code hi0 C hP hD hS h2 dX4_emit_19 (fun H locs hP hD hS => ?_)
    refine nameL hP hD hf hi0 (fun σ3 hP hD hf hi0 => ?_)
    refine lv_aload_n hx hb dX4_emit_20 rfl (lv_at hl 0 rfl) ?_
    refine lv_dup hx hb dX4_emit_21 rfl ?_
    refine G_X4_length hi0 C hP q_102 dX4_emit_22 ?_
    refine lv_iconst (v := 1) hx hb dX4_emit_25 (by decide) ?_
    refine lv_iadd hx hb dX4_emit_26 ?_
    refine S_X4_length hi0 C hP hD hS q_102 dX4_emit_27 (fun H locs hP hD hS => ?_)
    exact retV hQ hf dX4_emit_30 hP hD hS
