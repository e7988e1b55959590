theorem ms_X11_nextDraw : MS yX11_nextDraw cX11_nextDraw 1 (some .int) 1 := ⟨q_885, q_58, q_886, by decide +kernel, by decide +kernel, by decide +kernel⟩
theorem ms_X4_made : MS yX4_made cX4_made 3 (some .int) 3 := ⟨q_676, q_60, q_677, by decide +kernel, by decide +kernel, by decide +kernel⟩
theorem ms_X11_isLetter : MS yX11_isLetter cX11_isLetter 2 (some .boolean) 1 := ⟨q_449, q_58, q_450, by decide +kernel, by decide +kernel, by decide +kernel⟩
theorem ms_X7_rankOf : MS yX7_rankOf cX7_rankOf 1 (some .int) 1 := ⟨q_647, q_66, q_648, by decide +kernel, by decide +kernel, by decide +kernel⟩
theorem ms_X7_isDigit : MS yX7_isDigit cX7_isDigit 1 (some .boolean) 1 := ⟨q_541, q_66, q_542, by decide +kernel, by decide +kernel, by decide +kernel⟩
theorem ms_X10_isUnder : MS yX10_isUnder cX10_isUnder 4 (some .boolean) 2 := ⟨q_1060, q_69, q_1061, by decide +kernel, by decide +kernel, by decide +kernel⟩
theorem ms_X11_shelfThere : MS yX11_shelfThere cX11_shelfThere 1 (some .boolean) 1 := ⟨q_426, q_58, q_427, by decide +kernel, by decide +kernel, by decide +kernel⟩
theorem ms_X11_twoLetters : MS yX11_twoLetters cX11_twoLetters 1 (some .boolean) 1 := ⟨q_470, q_58, q_471, by decide +kernel, by decide +kernel, by decide +kernel⟩
theorem ms_X11_within : MS yX11_within cX11_within 4 (some .boolean) 2 := ⟨q_474, q_58, q_475, by decide +kernel, by decide +kernel, by decide +kernel⟩
theorem ms_X11_fractionPart : MS yX11_fractionPart cX11_fractionPart 1 (some .boolean) 1 := ⟨q_659, q_58, q_660, by decide +kernel, by decide +kernel, by decide +kernel⟩
theorem ms_X11_lowest : MS yX11_lowest cX11_lowest 12 (some .long) 3 := ⟨q_680, q_58, q_681, by decide +kernel, by decide +kernel, by decide +kernel⟩
theorem ms_X11_ofTwelve : MS yX11_ofTwelve cX11_ofTwelve 1 (some .boolean) 1 := ⟨q_720, q_58, q_721, by decide +kernel, by decide +kernel, by decide +kernel⟩
theorem dX11_nextDraw_0 : decode cX11_nextDraw 0 = .ok (.iload_n 0, 1) := by decide +kernel
theorem dX11_nextDraw_1 : decode cX11_nextDraw 1 = .ok (.ldc_w 422, 3) := by decide +kernel
theorem dX11_nextDraw_4 : decode cX11_nextDraw 4 = .ok (.imul, 1) := by decide +kernel
theorem dX11_nextDraw_5 : decode cX11_nextDraw 5 = .ok (.sipush 12345, 3) := by decide +kernel
theorem dX11_nextDraw_8 : decode cX11_nextDraw 8 = .ok (.iadd, 1) := by decide +kernel
theorem dX11_nextDraw_9 : decode cX11_nextDraw 9 = .ok (.ireturn, 1) := by decide +kernel
def f_X11_nextDraw (p1 : Int32) : Option Int32 := some ((p1 * (1103515245 : Int32)) + (12345 : Int32))
set_option maxHeartbeats 4000000 in
set_option maxRecDepth 100000 in
theorem c_X11_nextDraw {l : Launch} {g : va_G} {ts : ClassId × ClassId × ClassId} {wf : St → va_W} {σ : St} {p1 : Int32} {r : Int32} (hf : f_X11_nextDraw p1 = some r) : ConI l g ts (wf) yX11_nextDraw cX11_nextDraw 1 (some .int) (rk 0 0) σ [.int p1] r σ := by
  refine ConI_mk .int rfl rfl rfl rfl (by decide) (Nat.le_of_ble_eq_true rfl) ?_
  intro p e s m below meth c A Q ls C hQ hP hD hS hl
  have C : FX p s m _ meth c RX11 cX11_nextDraw 1 g ts A := C
  have hx := C.1
  have hb := C.2.1
  have hown := C.2.2.2.1
  have hts := C.2.2.2.2.1
  have hl : lv_has ls 1 [(0, .int p1)] := hl
  rw [f_X11_nextDraw] at hf
  refine lv_iload_n hx hb dX11_nextDraw_0 rfl (lv_at hl 0 rfl) ?_
  refine lv_ldcw hx hb hown (hts _ q_887) dX11_nextDraw_1 ?_
  refine lv_imul hx hb dX11_nextDraw_4 ?_
  refine lv_sipush (v := 12345) hx hb dX11_nextDraw_5 (by decide) ?_
  refine lv_iadd hx hb dX11_nextDraw_8 ?_
  exact retIp hQ hf dX11_nextDraw_9 hP hD hS
theorem dX4_made_0 : decode cX4_made 0 = .ok (.iload_n 0, 1) := by decide +kernel
theorem dX4_made_1 : decode cX4_made 1 = .ok (.lookupswitch 197 #[(33, 102), (38, 126), (42, 181), (43, 173), (45, 177), (47, 185), (60, 140), (61, 151), (62, 162), (124, 112), (126, 99)], 99) := by decide +kernel
theorem dX4_made_100 : decode cX4_made 100 = .ok (.iload_n 1, 1) := by decide +kernel
theorem dX4_made_101 : decode cX4_made 101 = .ok (.ineg, 1) := by decide +kernel
theorem dX4_made_102 : decode cX4_made 102 = .ok (.ireturn, 1) := by decide +kernel
theorem dX4_made_103 : decode cX4_made 103 = .ok (.iload_n 1, 1) := by decide +kernel
theorem dX4_made_104 : decode cX4_made 104 = .ok (.ifCond .ne 7, 3) := by decide +kernel
theorem dX4_made_107 : decode cX4_made 107 = .ok (.iconst 1, 1) := by decide +kernel
theorem dX4_made_108 : decode cX4_made 108 = .ok (.goto 4, 3) := by decide +kernel
theorem dX4_made_111 : decode cX4_made 111 = .ok (.iconst 0, 1) := by decide +kernel
theorem dX4_made_112 : decode cX4_made 112 = .ok (.ireturn, 1) := by decide +kernel
theorem dX4_made_113 : decode cX4_made 113 = .ok (.iload_n 1, 1) := by decide +kernel
theorem dX4_made_114 : decode cX4_made 114 = .ok (.ifCond .ne 7, 3) := by decide +kernel
theorem dX4_made_117 : decode cX4_made 117 = .ok (.iload_n 2, 1) := by decide +kernel
theorem dX4_made_118 : decode cX4_made 118 = .ok (.ifCond .eq 7, 3) := by decide +kernel
theorem dX4_made_121 : decode cX4_made 121 = .ok (.iconst 1, 1) := by decide +kernel
theorem dX4_made_122 : decode cX4_made 122 = .ok (.goto 4, 3) := by decide +kernel
theorem dX4_made_125 : decode cX4_made 125 = .ok (.iconst 0, 1) := by decide +kernel
theorem dX4_made_126 : decode cX4_made 126 = .ok (.ireturn, 1) := by decide +kernel
theorem dX4_made_127 : decode cX4_made 127 = .ok (.iload_n 1, 1) := by decide +kernel
theorem dX4_made_128 : decode cX4_made 128 = .ok (.ifCond .eq 11, 3) := by decide +kernel
theorem dX4_made_131 : decode cX4_made 131 = .ok (.iload_n 2, 1) := by decide +kernel
theorem dX4_made_132 : decode cX4_made 132 = .ok (.ifCond .eq 7, 3) := by decide +kernel
theorem dX4_made_135 : decode cX4_made 135 = .ok (.iconst 1, 1) := by decide +kernel
theorem dX4_made_136 : decode cX4_made 136 = .ok (.goto 4, 3) := by decide +kernel
theorem dX4_made_139 : decode cX4_made 139 = .ok (.iconst 0, 1) := by decide +kernel
theorem dX4_made_140 : decode cX4_made 140 = .ok (.ireturn, 1) := by decide +kernel
theorem dX4_made_141 : decode cX4_made 141 = .ok (.iload_n 1, 1) := by decide +kernel
theorem dX4_made_142 : decode cX4_made 142 = .ok (.iload_n 2, 1) := by decide +kernel
theorem dX4_made_143 : decode cX4_made 143 = .ok (.if_icmp .ge 7, 3) := by decide +kernel
theorem dX4_made_146 : decode cX4_made 146 = .ok (.iconst 1, 1) := by decide +kernel
theorem dX4_made_147 : decode cX4_made 147 = .ok (.goto 4, 3) := by decide +kernel
theorem dX4_made_150 : decode cX4_made 150 = .ok (.iconst 0, 1) := by decide +kernel
theorem dX4_made_151 : decode cX4_made 151 = .ok (.ireturn, 1) := by decide +kernel
theorem dX4_made_152 : decode cX4_made 152 = .ok (.iload_n 1, 1) := by decide +kernel
theorem dX4_made_153 : decode cX4_made 153 = .ok (.iload_n 2, 1) := by decide +kernel
theorem dX4_made_154 : decode cX4_made 154 = .ok (.if_icmp .ne 7, 3) := by decide +kernel
theorem dX4_made_157 : decode cX4_made 157 = .ok (.iconst 1, 1) := by decide +kernel
theorem dX4_made_158 : decode cX4_made 158 = .ok (.goto 4, 3) := by decide +kernel
theorem dX4_made_161 : decode cX4_made 161 = .ok (.iconst 0, 1) := by decide +kernel
theorem dX4_made_162 : decode cX4_made 162 = .ok (.ireturn, 1) := by decide +kernel
theorem dX4_made_163 : decode cX4_made 163 = .ok (.iload_n 1, 1) := by decide +kernel
theorem dX4_made_164 : decode cX4_made 164 = .ok (.iload_n 2, 1) := by decide +kernel
theorem dX4_made_165 : decode cX4_made 165 = .ok (.if_icmp .le 7, 3) := by decide +kernel
theorem dX4_made_168 : decode cX4_made 168 = .ok (.iconst 1, 1) := by decide +kernel
theorem dX4_made_169 : decode cX4_made 169 = .ok (.goto 4, 3) := by decide +kernel
theorem dX4_made_172 : decode cX4_made 172 = .ok (.iconst 0, 1) := by decide +kernel
theorem dX4_made_173 : decode cX4_made 173 = .ok (.ireturn, 1) := by decide +kernel
theorem dX4_made_174 : decode cX4_made 174 = .ok (.iload_n 1, 1) := by decide +kernel
theorem dX4_made_175 : decode cX4_made 175 = .ok (.iload_n 2, 1) := by decide +kernel
theorem dX4_made_176 : decode cX4_made 176 = .ok (.iadd, 1) := by decide +kernel
theorem dX4_made_177 : decode cX4_made 177 = .ok (.ireturn, 1) := by decide +kernel
theorem dX4_made_178 : decode cX4_made 178 = .ok (.iload_n 1, 1) := by decide +kernel
theorem dX4_made_179 : decode cX4_made 179 = .ok (.iload_n 2, 1) := by decide +kernel
theorem dX4_made_180 : decode cX4_made 180 = .ok (.isub, 1) := by decide +kernel
theorem dX4_made_181 : decode cX4_made 181 = .ok (.ireturn, 1) := by decide +kernel
theorem dX4_made_182 : decode cX4_made 182 = .ok (.iload_n 1, 1) := by decide +kernel
theorem dX4_made_183 : decode cX4_made 183 = .ok (.iload_n 2, 1) := by decide +kernel
theorem dX4_made_184 : decode cX4_made 184 = .ok (.imul, 1) := by decide +kernel
theorem dX4_made_185 : decode cX4_made 185 = .ok (.ireturn, 1) := by decide +kernel
theorem dX4_made_186 : decode cX4_made 186 = .ok (.iload_n 2, 1) := by decide +kernel
theorem dX4_made_187 : decode cX4_made 187 = .ok (.ifCond .ne 7, 3) := by decide +kernel
theorem dX4_made_190 : decode cX4_made 190 = .ok (.iconst 0, 1) := by decide +kernel
theorem dX4_made_191 : decode cX4_made 191 = .ok (.goto 6, 3) := by decide +kernel
theorem dX4_made_194 : decode cX4_made 194 = .ok (.iload_n 1, 1) := by decide +kernel
theorem dX4_made_195 : decode cX4_made 195 = .ok (.iload_n 2, 1) := by decide +kernel
theorem dX4_made_196 : decode cX4_made 196 = .ok (.idiv, 1) := by decide +kernel
theorem dX4_made_197 : decode cX4_made 197 = .ok (.ireturn, 1) := by decide +kernel
theorem dX4_made_198 : decode cX4_made 198 = .ok (.iload_n 2, 1) := by decide +kernel
theorem dX4_made_199 : decode cX4_made 199 = .ok (.ifCond .ne 7, 3) := by decide +kernel
theorem dX4_made_202 : decode cX4_made 202 = .ok (.iconst 0, 1) := by decide +kernel
theorem dX4_made_203 : decode cX4_made 203 = .ok (.goto 6, 3) := by decide +kernel
theorem dX4_made_206 : decode cX4_made 206 = .ok (.iload_n 1, 1) := by decide +kernel
theorem dX4_made_207 : decode cX4_made 207 = .ok (.iload_n 2, 1) := by decide +kernel
theorem dX4_made_208 : decode cX4_made 208 = .ok (.irem, 1) := by decide +kernel
theorem dX4_made_209 : decode cX4_made 209 = .ok (.ireturn, 1) := by decide +kernel
def f_X4_made (p1 : Int32) (p2 : Int32) (p3 : Int32) : Option Int32 := if p1 = 33 then (if p2 = 0 then (some (1 : Int32)) else (some (0 : Int32))) else (if p1 = 38 then (if p2 = 0 then (some (0 : Int32)) else (if p3 = 0 then (some (0 : Int32)) else (some (1 : Int32)))) else (if p1 = 42 then (some (p2 * p3)) else (if p1 = 43 then (some (p2 + p3)) else (if p1 = 45 then (some (p2 - p3)) else (if p1 = 47 then (if p3 = 0 then (some (0 : Int32)) else (chk (p3 = 0) (some (p2 / p3)))) else (if p1 = 60 then (if p3 ≤ p2 then (some (0 : Int32)) else (some (1 : Int32))) else (if p1 = 61 then (if p2 = p3 then (some (1 : Int32)) else (some (0 : Int32))) else (if p1 = 62 then (if p2 ≤ p3 then (some (0 : Int32)) else (some (1 : Int32))) else (if p1 = 124 then (if p2 = 0 then (if p3 = 0 then (some (0 : Int32)) else (some (1 : Int32))) else (some (1 : Int32))) else (if p1 = 126 then (some (-p2)) else (if p3 = 0 then (some (0 : Int32)) else (chk (p3 = 0) (some (p2 - p2 / p3 * p3))))))))))))))
set_option maxHeartbeats 4000000 in
set_option maxRecDepth 100000 in
theorem c_X4_made {l : Launch} {g : va_G} {ts : ClassId × ClassId × ClassId} {wf : St → va_W} {σ : St} {p1 : Int32} {p2 : Int32} {p3 : Int32} {r : Int32} (hf : f_X4_made p1 p2 p3 = some r) : ConI l g ts (wf) yX4_made cX4_made 3 (some .int) (rk 0 0) σ [.int p1, .int p2, .int p3] r σ := by
  refine ConI_mk .int rfl rfl rfl rfl (by decide) (Nat.le_of_ble_eq_true rfl) ?_
  intro p e s m below meth c A Q ls C hQ hP hD hS hl
  have C : FX p s m _ meth c RX4 cX4_made 3 g ts A := C
  have hx := C.1
  have hb := C.2.1
  have hown := C.2.2.2.1
  have hts := C.2.2.2.2.1
  have hl : lv_has ls 3 [(0, .int p1), (1, .int p2), (2, .int p3)] := hl
  rw [f_X4_made] at hf
  refine lv_iload_n hx hb dX4_made_0 rfl (lv_at hl 0 rfl) ?_
  by_cases c1 : p1 = 33
  · replace hf := ipos c1 hf
    refine lv_lookup (off := 102) (tgt := 103) hx hb dX4_made_1 (by decide) (by rw [c1]; decide) (by decide) ?_
    refine lv_iload_n hx hb dX4_made_103 rfl (lv_at hl 1 rfl) ?_
    refine lv_if_ne (tgt := 111) hx hb dX4_made_104 (by decide) (fun c2 => ?_) (fun c2 => ?_)
    · replace hf := ineg c2 hf
      refine lv_iconst (v := 0) hx hb dX4_made_111 (by decide) ?_
      exact retIp hQ hf dX4_made_112 hP hD hS
    · replace hf := ipos c2 hf
      refine lv_iconst (v := 1) hx hb dX4_made_107 (by decide) ?_
      refine lv_goto (tgt := 112) hx hb dX4_made_108 (by decide) ?_
      exact retIp hQ hf dX4_made_112 hP hD hS
  · replace hf := ineg c1 hf
    by_cases c3 : p1 = 38
    · replace hf := ipos c3 hf
      refine lv_lookup (off := 126) (tgt := 127) hx hb dX4_made_1 (by decide) (by rw [c3]; decide) (by decide) ?_
      refine lv_iload_n hx hb dX4_made_127 rfl (lv_at hl 1 rfl) ?_
      refine lv_if_eq (tgt := 139) hx hb dX4_made_128 (by decide) (fun c4 => ?_) (fun c4 => ?_)
      · replace hf := ipos c4 hf
        refine lv_iconst (v := 0) hx hb dX4_made_139 (by decide) ?_
        exact retIp hQ hf dX4_made_140 hP hD hS
      · replace hf := ineg c4 hf
        refine lv_iload_n hx hb dX4_made_131 rfl (lv_at hl 2 rfl) ?_
        refine lv_if_eq (tgt := 139) hx hb dX4_made_132 (by decide) (fun c5 => ?_) (fun c5 => ?_)
        · replace hf := ipos c5 hf
          refine lv_iconst (v := 0) hx hb dX4_made_139 (by decide) ?_
          exact retIp hQ hf dX4_made_140 hP hD hS
        · replace hf := ineg c5 hf
          refine lv_iconst (v := 1) hx hb dX4_made_135 (by decide) ?_
          refine lv_goto (tgt := 140) hx hb dX4_made_136 (by decide) ?_
          exact retIp hQ hf dX4_made_140 hP hD hS
    · replace hf := ineg c3 hf
      by_cases c6 : p1 = 42
      · replace hf := ipos c6 hf
        refine lv_lookup (off := 181) (tgt := 182) hx hb dX4_made_1 (by decide) (by rw [c6]; decide) (by decide) ?_
        refine lv_iload_n hx hb dX4_made_182 rfl (lv_at hl 1 rfl) ?_
        refine lv_iload_n hx hb dX4_made_183 rfl (lv_at hl 2 rfl) ?_
        refine lv_imul hx hb dX4_made_184 ?_
        exact retIp hQ hf dX4_made_185 hP hD hS
      · replace hf := ineg c6 hf
        by_cases c7 : p1 = 43
        · replace hf := ipos c7 hf
          refine lv_lookup (off := 173) (tgt := 174) hx hb dX4_made_1 (by decide) (by rw [c7]; decide) (by decide) ?_
          refine lv_iload_n hx hb dX4_made_174 rfl (lv_at hl 1 rfl) ?_
          refine lv_iload_n hx hb dX4_made_175 rfl (lv_at hl 2 rfl) ?_
          refine lv_iadd hx hb dX4_made_176 ?_
          exact retIp hQ hf dX4_made_177 hP hD hS
        · replace hf := ineg c7 hf
          by_cases c8 : p1 = 45
          · replace hf := ipos c8 hf
            refine lv_lookup (off := 177) (tgt := 178) hx hb dX4_made_1 (by decide) (by rw [c8]; decide) (by decide) ?_
            refine lv_iload_n hx hb dX4_made_178 rfl (lv_at hl 1 rfl) ?_
            refine lv_iload_n hx hb dX4_made_179 rfl (lv_at hl 2 rfl) ?_
            refine lv_isub hx hb dX4_made_180 ?_
            exact retIp hQ hf dX4_made_181 hP hD hS
          · replace hf := ineg c8 hf
            by_cases c9 : p1 = 47
            · replace hf := ipos c9 hf
              refine lv_lookup (off := 185) (tgt := 186) hx hb dX4_made_1 (by decide) (by rw [c9]; decide) (by decide) ?_
              refine lv_iload_n hx hb dX4_made_186 rfl (lv_at hl 2 rfl) ?_
              refine lv_if_ne (tgt := 194) hx hb dX4_made_187 (by decide) (fun c10 => ?_) (fun c10 => ?_)
              · replace hf := ineg c10 hf
                refine lv_iload_n hx hb dX4_made_194 rfl (lv_at hl 1 rfl) ?_
                refine lv_iload_n hx hb dX4_made_195 rfl (lv_at hl 2 rfl) ?_
                obtain ⟨h11, hf⟩ := chk_some hf
                refine lv_idiv hx hb dX4_made_196 h11 ?_
                exact retIp hQ hf dX4_made_197 hP hD hS
              · replace hf := ipos c10 hf
                refine lv_iconst (v := 0) hx hb dX4_made_190 (by decide) ?_
                refine lv_goto (tgt := 197) hx hb dX4_made_191 (by decide) ?_
                exact retIp hQ hf dX4_made_197 hP hD hS
            · replace hf := ineg c9 hf
              by_cases c12 : p1 = 60
              · replace hf := ipos c12 hf
                refine lv_lookup (off := 140) (tgt := 141) hx hb dX4_made_1 (by decide) (by rw [c12]; decide) (by decide) ?_
                refine lv_iload_n hx hb dX4_made_141 rfl (lv_at hl 1 rfl) ?_
                refine lv_iload_n hx hb dX4_made_142 rfl (lv_at hl 2 rfl) ?_
                refine lv_icmp_ge (tgt := 150) hx hb dX4_made_143 (by decide) (fun c13 => ?_) (fun c13 => ?_)
                · replace hf := ipos c13 hf
                  refine lv_iconst (v := 0) hx hb dX4_made_150 (by decide) ?_
                  exact retIp hQ hf dX4_made_151 hP hD hS
                · replace hf := ineg c13 hf
                  refine lv_iconst (v := 1) hx hb dX4_made_146 (by decide) ?_
                  refine lv_goto (tgt := 151) hx hb dX4_made_147 (by decide) ?_
                  exact retIp hQ hf dX4_made_151 hP hD hS
              · replace hf := ineg c12 hf
                by_cases c14 : p1 = 61
                · replace hf := ipos c14 hf
                  refine lv_lookup (off := 151) (tgt := 152) hx hb dX4_made_1 (by decide) (by rw [c14]; decide) (by decide) ?_
                  refine lv_iload_n hx hb dX4_made_152 rfl (lv_at hl 1 rfl) ?_
                  refine lv_iload_n hx hb dX4_made_153 rfl (lv_at hl 2 rfl) ?_
                  refine lv_icmp_ne (tgt := 161) hx hb dX4_made_154 (by decide) (fun c15 => ?_) (fun c15 => ?_)
                  · replace hf := ineg c15 hf
                    refine lv_iconst (v := 0) hx hb dX4_made_161 (by decide) ?_
                    exact retIp hQ hf dX4_made_162 hP hD hS
                  · replace hf := ipos c15 hf
                    refine lv_iconst (v := 1) hx hb dX4_made_157 (by decide) ?_
                    refine lv_goto (tgt := 162) hx hb dX4_made_158 (by decide) ?_
                    exact retIp hQ hf dX4_made_162 hP hD hS
                · replace hf := ineg c14 hf
                  by_cases c16 : p1 = 62
                  · replace hf := ipos c16 hf
                    refine lv_lookup (off := 162) (tgt := 163) hx hb dX4_made_1 (by decide) (by rw [c16]; decide) (by decide) ?_
                    refine lv_iload_n hx hb dX4_made_163 rfl (lv_at hl 1 rfl) ?_
                    refine lv_iload_n hx hb dX4_made_164 rfl (lv_at hl 2 rfl) ?_
                    refine lv_icmp_le (tgt := 172) hx hb dX4_made_165 (by decide) (fun c17 => ?_) (fun c17 => ?_)
                    · replace hf := ipos c17 hf
                      refine lv_iconst (v := 0) hx hb dX4_made_172 (by decide) ?_
                      exact retIp hQ hf dX4_made_173 hP hD hS
                    · replace hf := ineg c17 hf
                      refine lv_iconst (v := 1) hx hb dX4_made_168 (by decide) ?_
                      refine lv_goto (tgt := 173) hx hb dX4_made_169 (by decide) ?_
                      exact retIp hQ hf dX4_made_173 hP hD hS
                  · replace hf := ineg c16 hf
                    by_cases c18 : p1 = 124
                    · replace hf := ipos c18 hf
                      refine lv_lookup (off := 112) (tgt := 113) hx hb dX4_made_1 (by decide) (by rw [c18]; decide) (by decide) ?_
                      refine lv_iload_n hx hb dX4_made_113 rfl (lv_at hl 1 rfl) ?_
                      refine lv_if_ne (tgt := 121) hx hb dX4_made_114 (by decide) (fun c19 => ?_) (fun c19 => ?_)
                      · replace hf := ineg c19 hf
                        refine lv_iconst (v := 1) hx hb dX4_made_121 (by decide) ?_
                        refine lv_goto (tgt := 126) hx hb dX4_made_122 (by decide) ?_
                        exact retIp hQ hf dX4_made_126 hP hD hS
                      · replace hf := ipos c19 hf
                        refine lv_iload_n hx hb dX4_made_117 rfl (lv_at hl 2 rfl) ?_
                        refine lv_if_eq (tgt := 125) hx hb dX4_made_118 (by decide) (fun c20 => ?_) (fun c20 => ?_)
                        · replace hf := ipos c20 hf
                          refine lv_iconst (v := 0) hx hb dX4_made_125 (by decide) ?_
                          exact retIp hQ hf dX4_made_126 hP hD hS
                        · replace hf := ineg c20 hf
                          refine lv_iconst (v := 1) hx hb dX4_made_121 (by decide) ?_
                          refine lv_goto (tgt := 126) hx hb dX4_made_122 (by decide) ?_
                          exact retIp hQ hf dX4_made_126 hP hD hS
                    · replace hf := ineg c18 hf
                      by_cases c21 : p1 = 126
                      · replace hf := ipos c21 hf
                        refine lv_lookup (off := 99) (tgt := 100) hx hb dX4_made_1 (by decide) (by rw [c21]; decide) (by decide) ?_
                        refine lv_iload_n hx hb dX4_made_100 rfl (lv_at hl 1 rfl) ?_
                        refine lv_ineg hx hb dX4_made_101 ?_
                        exact retIp hQ hf dX4_made_102 hP hD hS
                      · replace hf := ineg c21 hf
                        refine lv_lookup (off := 197) (tgt := 198) hx hb dX4_made_1 (by decide) (by show Op.lookupswitch.offset [(33, 102), (38, 126), (42, 181), (43, 173), (45, 177), (47, 185), (60, 140), (61, 151), (62, 162), (124, 112), (126, 99)] 197 (p1).toInt = _; rw [lv_osw c1 (by decide), lv_osw c3 (by decide), lv_osw c6 (by decide), lv_osw c7 (by decide), lv_osw c8 (by decide), lv_osw c9 (by decide), lv_osw c12 (by decide), lv_osw c14 (by decide), lv_osw c16 (by decide), lv_osw c18 (by decide), lv_osw c21 (by decide)]; rfl) (by decide) ?_
                        refine lv_iload_n hx hb dX4_made_198 rfl (lv_at hl 2 rfl) ?_
                        refine lv_if_ne (tgt := 206) hx hb dX4_made_199 (by decide) (fun c22 => ?_) (fun c22 => ?_)
                        · replace hf := ineg c22 hf
                          refine lv_iload_n hx hb dX4_made_206 rfl (lv_at hl 1 rfl) ?_
                          refine lv_iload_n hx hb dX4_made_207 rfl (lv_at hl 2 rfl) ?_
                          obtain ⟨h23, hf⟩ := chk_some hf
                          refine lv_irem hx hb dX4_made_208 h23 ?_
                          exact retIp hQ hf dX4_made_209 hP hD hS
                        · replace hf := ipos c22 hf
                          refine lv_iconst (v := 0) hx hb dX4_made_202 (by decide) ?_
                          refine lv_goto (tgt := 209) hx hb dX4_made_203 (by decide) ?_
                          exact retIp hQ hf dX4_made_209 hP hD hS
theorem dX11_isLetter_0 : decode cX11_isLetter 0 = .ok (.lload_n 0, 1) := by decide +kernel
theorem dX11_isLetter_1 : decode cX11_isLetter 1 = .ok (.lconst 0, 1) := by decide +kernel
theorem dX11_isLetter_2 : decode cX11_isLetter 2 = .ok (.lcmp, 1) := by decide +kernel
theorem dX11_isLetter_3 : decode cX11_isLetter 3 = .ok (.ifCond .lt 15, 3) := by decide +kernel
theorem dX11_isLetter_6 : decode cX11_isLetter 6 = .ok (.lload_n 0, 1) := by decide +kernel
theorem dX11_isLetter_7 : decode cX11_isLetter 7 = .ok (.ldc2_w 187, 3) := by decide +kernel
theorem dX11_isLetter_10 : decode cX11_isLetter 10 = .ok (.lcmp, 1) := by decide +kernel
theorem dX11_isLetter_11 : decode cX11_isLetter 11 = .ok (.ifCond .ge 7, 3) := by decide +kernel
theorem dX11_isLetter_14 : decode cX11_isLetter 14 = .ok (.iconst 1, 1) := by decide +kernel
theorem dX11_isLetter_15 : decode cX11_isLetter 15 = .ok (.goto 4, 3) := by decide +kernel
theorem dX11_isLetter_18 : decode cX11_isLetter 18 = .ok (.iconst 0, 1) := by decide +kernel
theorem dX11_isLetter_19 : decode cX11_isLetter 19 = .ok (.ireturn, 1) := by decide +kernel
def f_X11_isLetter0 (p1 : Int64) : Option Int32 := if p1 < (0 : Int64) then (some (0 : Int32)) else (if (12 : Int64) ≤ p1 then (some (0 : Int32)) else (some (1 : Int32)))
def f_X11_isLetter (p1 : Int64) : Option Int32 := chkB1 (f_X11_isLetter0 p1)
set_option maxHeartbeats 4000000 in
set_option maxRecDepth 100000 in
theorem c_X11_isLetter {l : Launch} {g : va_G} {ts : ClassId × ClassId × ClassId} {wf : St → va_W} {σ : St} {p1 : Int64} {r : Int32} (hf : f_X11_isLetter p1 = some r) : ConI l g ts (wf) yX11_isLetter cX11_isLetter 2 (some .boolean) (rk 0 0) σ [.long p1] r σ := by
  rw [f_X11_isLetter] at hf
  obtain ⟨hf, hn⟩ := chkB1_some hf
  refine ConI_mk .boolean rfl hn rfl rfl (by decide) (Nat.le_of_ble_eq_true rfl) ?_
  intro p e s m below meth c A Q ls C hQ hP hD hS hl
  have C : FX p s m _ meth c RX11 cX11_isLetter 2 g ts A := C
  have hx := C.1
  have hb := C.2.1
  have hown := C.2.2.2.1
  have hts := C.2.2.2.2.1
  have hl : lv_has ls 2 [(0, .long p1)] := hl
  rw [f_X11_isLetter0] at hf
  refine lv_lload_n hx hb dX11_isLetter_0 rfl (lv_at hl 0 rfl) ?_
  refine lv_lconst (v := 0) hx hb dX11_isLetter_1 (by decide) ?_
  refine lb_lt (tgt := 18) hx hb dX11_isLetter_2 dX11_isLetter_3 (by decide) (fun c1 => ?_) (fun c1 => ?_)
  · replace hf := ipos c1 hf
    refine lv_iconst (v := 0) hx hb dX11_isLetter_18 (by decide) ?_
    exact retIp hQ hf dX11_isLetter_19 hP hD hS
  · replace hf := ineg c1 hf
    refine lv_lload_n hx hb dX11_isLetter_6 rfl (lv_at hl 0 rfl) ?_
    refine lv_ldc2 hx hb hown (hts _ q_451) dX11_isLetter_7 ?_
    refine lb_ge (tgt := 18) hx hb dX11_isLetter_10 dX11_isLetter_11 (by decide) (fun c2 => ?_) (fun c2 => ?_)
    · replace hf := ipos c2 hf
      refine lv_iconst (v := 0) hx hb dX11_isLetter_18 (by decide) ?_
      exact retIp hQ hf dX11_isLetter_19 hP hD hS
    · replace hf := ineg c2 hf
      refine lv_iconst (v := 1) hx hb dX11_isLetter_14 (by decide) ?_
      refine lv_goto (tgt := 19) hx hb dX11_isLetter_15 (by decide) ?_
      exact retIp hQ hf dX11_isLetter_19 hP hD hS
theorem dX7_rankOf_0 : decode cX7_rankOf 0 = .ok (.iload_n 0, 1) := by decide +kernel
theorem dX7_rankOf_1 : decode cX7_rankOf 1 = .ok (.lookupswitch 101 #[(37, 99), (38, 93), (42, 99), (43, 97), (45, 97), (47, 99), (60, 95), (61, 95), (62, 95), (124, 91)], 91) := by decide +kernel
theorem dX7_rankOf_92 : decode cX7_rankOf 92 = .ok (.iconst 0, 1) := by decide +kernel
theorem dX7_rankOf_93 : decode cX7_rankOf 93 = .ok (.ireturn, 1) := by decide +kernel
theorem dX7_rankOf_94 : decode cX7_rankOf 94 = .ok (.iconst 1, 1) := by decide +kernel
theorem dX7_rankOf_95 : decode cX7_rankOf 95 = .ok (.ireturn, 1) := by decide +kernel
theorem dX7_rankOf_96 : decode cX7_rankOf 96 = .ok (.iconst 2, 1) := by decide +kernel
theorem dX7_rankOf_97 : decode cX7_rankOf 97 = .ok (.ireturn, 1) := by decide +kernel
theorem dX7_rankOf_98 : decode cX7_rankOf 98 = .ok (.iconst 3, 1) := by decide +kernel
theorem dX7_rankOf_99 : decode cX7_rankOf 99 = .ok (.ireturn, 1) := by decide +kernel
theorem dX7_rankOf_100 : decode cX7_rankOf 100 = .ok (.iconst 4, 1) := by decide +kernel
theorem dX7_rankOf_101 : decode cX7_rankOf 101 = .ok (.ireturn, 1) := by decide +kernel
theorem dX7_rankOf_102 : decode cX7_rankOf 102 = .ok (.iconst (-1), 1) := by decide +kernel
theorem dX7_rankOf_103 : decode cX7_rankOf 103 = .ok (.ireturn, 1) := by decide +kernel
def f_X7_rankOf (p1 : Int32) : Option Int32 := if p1 = 37 then (some (4 : Int32)) else (if p1 = 38 then (some (1 : Int32)) else (if p1 = 42 then (some (4 : Int32)) else (if p1 = 43 then (some (3 : Int32)) else (if p1 = 45 then (some (3 : Int32)) else (if p1 = 47 then (some (4 : Int32)) else (if p1 = 60 then (some (2 : Int32)) else (if p1 = 61 then (some (2 : Int32)) else (if p1 = 62 then (some (2 : Int32)) else (if p1 = 124 then (some (0 : Int32)) else (some (-1 : Int32)))))))))))
set_option maxHeartbeats 4000000 in
set_option maxRecDepth 100000 in
theorem c_X7_rankOf {l : Launch} {g : va_G} {ts : ClassId × ClassId × ClassId} {wf : St → va_W} {σ : St} {p1 : Int32} {r : Int32} (hf : f_X7_rankOf p1 = some r) : ConI l g ts (wf) yX7_rankOf cX7_rankOf 1 (some .int) (rk 0 0) σ [.int p1] r σ := by
  refine ConI_mk .int rfl rfl rfl rfl (by decide) (Nat.le_of_ble_eq_true rfl) ?_
  intro p e s m below meth c A Q ls C hQ hP hD hS hl
  have C : FX p s m _ meth c RX7 cX7_rankOf 1 g ts A := C
  have hx := C.1
  have hb := C.2.1
  have hown := C.2.2.2.1
  have hts := C.2.2.2.2.1
  have hl : lv_has ls 1 [(0, .int p1)] := hl
  rw [f_X7_rankOf] at hf
  refine lv_iload_n hx hb dX7_rankOf_0 rfl (lv_at hl 0 rfl) ?_
  by_cases c1 : p1 = 37
  · replace hf := ipos c1 hf
    refine lv_lookup (off := 99) (tgt := 100) hx hb dX7_rankOf_1 (by decide) (by rw [c1]; decide) (by decide) ?_
    refine lv_iconst (v := 4) hx hb dX7_rankOf_100 (by decide) ?_
    exact retIp hQ hf dX7_rankOf_101 hP hD hS
  · replace hf := ineg c1 hf
    by_cases c2 : p1 = 38
    · replace hf := ipos c2 hf
      refine lv_lookup (off := 93) (tgt := 94) hx hb dX7_rankOf_1 (by decide) (by rw [c2]; decide) (by decide) ?_
      refine lv_iconst (v := 1) hx hb dX7_rankOf_94 (by decide) ?_
      exact retIp hQ hf dX7_rankOf_95 hP hD hS
    · replace hf := ineg c2 hf
      by_cases c3 : p1 = 42
      · replace hf := ipos c3 hf
        refine lv_lookup (off := 99) (tgt := 100) hx hb dX7_rankOf_1 (by decide) (by rw [c3]; decide) (by decide) ?_
        refine lv_iconst (v := 4) hx hb dX7_rankOf_100 (by decide) ?_
        exact retIp hQ hf dX7_rankOf_101 hP hD hS
      · replace hf := ineg c3 hf
        by_cases c4 : p1 = 43
        · replace hf := ipos c4 hf
          refine lv_lookup (off := 97) (tgt := 98) hx hb dX7_rankOf_1 (by decide) (by rw [c4]; decide) (by decide) ?_
          refine lv_iconst (v := 3) hx hb dX7_rankOf_98 (by decide) ?_
          exact retIp hQ hf dX7_rankOf_99 hP hD hS
        · replace hf := ineg c4 hf
          by_cases c5 : p1 = 45
          · replace hf := ipos c5 hf
            refine lv_lookup (off := 97) (tgt := 98) hx hb dX7_rankOf_1 (by decide) (by rw [c5]; decide) (by decide) ?_
            refine lv_iconst (v := 3) hx hb dX7_rankOf_98 (by decide) ?_
            exact retIp hQ hf dX7_rankOf_99 hP hD hS
          · replace hf := ineg c5 hf
            by_cases c6 : p1 = 47
            · replace hf := ipos c6 hf
              refine lv_lookup (off := 99) (tgt := 100) hx hb dX7_rankOf_1 (by decide) (by rw [c6]; decide) (by decide) ?_
              refine lv_iconst (v := 4) hx hb dX7_rankOf_100 (by decide) ?_
              exact retIp hQ hf dX7_rankOf_101 hP hD hS
            · replace hf := ineg c6 hf
              by_cases c7 : p1 = 60
              · replace hf := ipos c7 hf
                refine lv_lookup (off := 95) (tgt := 96) hx hb dX7_rankOf_1 (by decide) (by rw [c7]; decide) (by decide) ?_
                refine lv_iconst (v := 2) hx hb dX7_rankOf_96 (by decide) ?_
                exact retIp hQ hf dX7_rankOf_97 hP hD hS
              · replace hf := ineg c7 hf
                by_cases c8 : p1 = 61
                · replace hf := ipos c8 hf
                  refine lv_lookup (off := 95) (tgt := 96) hx hb dX7_rankOf_1 (by decide) (by rw [c8]; decide) (by decide) ?_
                  refine lv_iconst (v := 2) hx hb dX7_rankOf_96 (by decide) ?_
                  exact retIp hQ hf dX7_rankOf_97 hP hD hS
                · replace hf := ineg c8 hf
                  by_cases c9 : p1 = 62
                  · replace hf := ipos c9 hf
                    refine lv_lookup (off := 95) (tgt := 96) hx hb dX7_rankOf_1 (by decide) (by rw [c9]; decide) (by decide) ?_
                    refine lv_iconst (v := 2) hx hb dX7_rankOf_96 (by decide) ?_
                    exact retIp hQ hf dX7_rankOf_97 hP hD hS
                  · replace hf := ineg c9 hf
                    by_cases c10 : p1 = 124
                    · replace hf := ipos c10 hf
                      refine lv_lookup (off := 91) (tgt := 92) hx hb dX7_rankOf_1 (by decide) (by rw [c10]; decide) (by decide) ?_
                      refine lv_iconst (v := 0) hx hb dX7_rankOf_92 (by decide) ?_
                      exact retIp hQ hf dX7_rankOf_93 hP hD hS
                    · replace hf := ineg c10 hf
                      refine lv_lookup (off := 101) (tgt := 102) hx hb dX7_rankOf_1 (by decide) (by show Op.lookupswitch.offset [(37, 99), (38, 93), (42, 99), (43, 97), (45, 97), (47, 99), (60, 95), (61, 95), (62, 95), (124, 91)] 101 (p1).toInt = _; rw [lv_osw c1 (by decide), lv_osw c2 (by decide), lv_osw c3 (by decide), lv_osw c4 (by decide), lv_osw c5 (by decide), lv_osw c6 (by decide), lv_osw c7 (by decide), lv_osw c8 (by decide), lv_osw c9 (by decide), lv_osw c10 (by decide)]; rfl) (by decide) ?_
                      refine lv_iconst (v := -1) hx hb dX7_rankOf_102 (by decide) ?_
                      exact retIp hQ hf dX7_rankOf_103 hP hD hS
theorem dX7_isDigit_0 : decode cX7_isDigit 0 = .ok (.iload_n 0, 1) := by decide +kernel
theorem dX7_isDigit_1 : decode cX7_isDigit 1 = .ok (.bipush 48, 2) := by decide +kernel
theorem dX7_isDigit_3 : decode cX7_isDigit 3 = .ok (.if_icmp .lt 13, 3) := by decide +kernel
theorem dX7_isDigit_6 : decode cX7_isDigit 6 = .ok (.iload_n 0, 1) := by decide +kernel
theorem dX7_isDigit_7 : decode cX7_isDigit 7 = .ok (.bipush 57, 2) := by decide +kernel
theorem dX7_isDigit_9 : decode cX7_isDigit 9 = .ok (.if_icmp .gt 7, 3) := by decide +kernel
theorem dX7_isDigit_12 : decode cX7_isDigit 12 = .ok (.iconst 1, 1) := by decide +kernel
theorem dX7_isDigit_13 : decode cX7_isDigit 13 = .ok (.goto 4, 3) := by decide +kernel
theorem dX7_isDigit_16 : decode cX7_isDigit 16 = .ok (.iconst 0, 1) := by decide +kernel
theorem dX7_isDigit_17 : decode cX7_isDigit 17 = .ok (.ireturn, 1) := by decide +kernel
def f_X7_isDigit0 (p1 : Int32) : Option Int32 := if p1 < (48 : Int32) then (some (0 : Int32)) else (if (57 : Int32) < p1 then (some (0 : Int32)) else (some (1 : Int32)))
def f_X7_isDigit (p1 : Int32) : Option Int32 := chkB1 (f_X7_isDigit0 p1)
set_option maxHeartbeats 4000000 in
set_option maxRecDepth 100000 in
theorem c_X7_isDigit {l : Launch} {g : va_G} {ts : ClassId × ClassId × ClassId} {wf : St → va_W} {σ : St} {p1 : Int32} {r : Int32} (hf : f_X7_isDigit p1 = some r) : ConI l g ts (wf) yX7_isDigit cX7_isDigit 1 (some .boolean) (rk 0 0) σ [.int p1] r σ := by
  rw [f_X7_isDigit] at hf
  obtain ⟨hf, hn⟩ := chkB1_some hf
  refine ConI_mk .boolean rfl hn rfl rfl (by decide) (Nat.le_of_ble_eq_true rfl) ?_
  intro p e s m below meth c A Q ls C hQ hP hD hS hl
  have C : FX p s m _ meth c RX7 cX7_isDigit 1 g ts A := C
  have hx := C.1
  have hb := C.2.1
  have hown := C.2.2.2.1
  have hts := C.2.2.2.2.1
  have hl : lv_has ls 1 [(0, .int p1)] := hl
  rw [f_X7_isDigit0] at hf
  refine lv_iload_n hx hb dX7_isDigit_0 rfl (lv_at hl 0 rfl) ?_
  refine lv_bipush (v := 48) hx hb dX7_isDigit_1 (by decide) ?_
  refine lv_icmp_lt (tgt := 16) hx hb dX7_isDigit_3 (by decide) (fun c1 => ?_) (fun c1 => ?_)
  · replace hf := ipos c1 hf
    refine lv_iconst (v := 0) hx hb dX7_isDigit_16 (by decide) ?_
    exact retIp hQ hf dX7_isDigit_17 hP hD hS
  · replace hf := ineg c1 hf
    refine lv_iload_n hx hb dX7_isDigit_6 rfl (lv_at hl 0 rfl) ?_
    refine lv_bipush (v := 57) hx hb dX7_isDigit_7 (by decide) ?_
    refine lv_icmp_gt (tgt := 16) hx hb dX7_isDigit_9 (by decide) (fun c2 => ?_) (fun c2 => ?_)
    · replace hf := ipos c2 hf
      refine lv_iconst (v := 0) hx hb dX7_isDigit_16 (by decide) ?_
      exact retIp hQ hf dX7_isDigit_17 hP hD hS
    · replace hf := ineg c2 hf
      refine lv_iconst (v := 1) hx hb dX7_isDigit_12 (by decide) ?_
      refine lv_goto (tgt := 17) hx hb dX7_isDigit_13 (by decide) ?_
      exact retIp hQ hf dX7_isDigit_17 hP hD hS
theorem dX10_isUnder_0 : decode cX10_isUnder 0 = .ok (.iload_n 0, 1) := by decide +kernel
theorem dX10_isUnder_1 : decode cX10_isUnder 1 = .ok (.istore_n 2, 1) := by decide +kernel
theorem dX10_isUnder_2 : decode cX10_isUnder 2 = .ok (.iconst 0, 1) := by decide +kernel
theorem dX10_isUnder_3 : decode cX10_isUnder 3 = .ok (.istore_n 3, 1) := by decide +kernel
theorem dX10_isUnder_4 : decode cX10_isUnder 4 = .ok (.iload_n 3, 1) := by decide +kernel
theorem dX10_isUnder_5 : decode cX10_isUnder 5 = .ok (.bipush 8, 2) := by decide +kernel
theorem dX10_isUnder_7 : decode cX10_isUnder 7 = .ok (.if_icmp .ge 20, 3) := by decide +kernel
theorem dX10_isUnder_10 : decode cX10_isUnder 10 = .ok (.iload_n 2, 1) := by decide +kernel
theorem dX10_isUnder_11 : decode cX10_isUnder 11 = .ok (.iload_n 1, 1) := by decide +kernel
theorem dX10_isUnder_12 : decode cX10_isUnder 12 = .ok (.if_icmp .eq 15, 3) := by decide +kernel
theorem dX10_isUnder_15 : decode cX10_isUnder 15 = .ok (.getstatic 22, 3) := by decide +kernel
theorem dX10_isUnder_18 : decode cX10_isUnder 18 = .ok (.iload_n 2, 1) := by decide +kernel
theorem dX10_isUnder_19 : decode cX10_isUnder 19 = .ok (.iaload, 1) := by decide +kernel
theorem dX10_isUnder_20 : decode cX10_isUnder 20 = .ok (.istore_n 2, 1) := by decide +kernel
theorem dX10_isUnder_21 : decode cX10_isUnder 21 = .ok (.iinc 3 1, 3) := by decide +kernel
theorem dX10_isUnder_24 : decode cX10_isUnder 24 = .ok (.goto (-20), 3) := by decide +kernel
theorem dX10_isUnder_27 : decode cX10_isUnder 27 = .ok (.iload_n 2, 1) := by decide +kernel
theorem dX10_isUnder_28 : decode cX10_isUnder 28 = .ok (.iload_n 1, 1) := by decide +kernel
theorem dX10_isUnder_29 : decode cX10_isUnder 29 = .ok (.if_icmp .ne 7, 3) := by decide +kernel
theorem dX10_isUnder_32 : decode cX10_isUnder 32 = .ok (.iconst 1, 1) := by decide +kernel
theorem dX10_isUnder_33 : decode cX10_isUnder 33 = .ok (.goto 4, 3) := by decide +kernel
theorem dX10_isUnder_36 : decode cX10_isUnder 36 = .ok (.iconst 0, 1) := by decide +kernel
theorem dX10_isUnder_37 : decode cX10_isUnder 37 = .ok (.ireturn, 1) := by decide +kernel
def f_X10_isUnder_b27 (x1 : Int32) (x2 : Int32) : Option Int32 := if x2 = x1 then (some (1 : Int32)) else (some (0 : Int32))
def f_X10_isUnder_b4 : Nat → Int32 → Int32 → Int32 → Option Int32
  | 0, _, _, _ => none
  | n + 1, x1, x2, x3 => if (8 : Int32) ≤ x3 then (f_X10_isUnder_b27 x1 x2) else (if x2 = x1 then (f_X10_isUnder_b27 x1 x2) else (chk (x2 < 0 ∨ 8 ≤ x2.toNatClampNeg) (bnd (aboveA x2.toNatClampNeg) (fun v5 => bnd (x3 + 1) (fun v6 => f_X10_isUnder_b4 n x1 v5 v6)))))
def f_X10_isUnder0 (p1 : Int32) (p2 : Int32) : Option Int32 := f_X10_isUnder_b4 256 p2 p1 (0 : Int32)
def f_X10_isUnder (p1 : Int32) (p2 : Int32) : Option Int32 := chkB1 (f_X10_isUnder0 p1 p2)
set_option maxHeartbeats 4000000 in
set_option maxRecDepth 100000 in
theorem w_X10_isUnder_b27 {p : Program} {l : Launch} {e : Env} {s : State} {m : MethodId} {args : Array Value} {below : List Frame} {meth : Method} {c : Code} {g : va_G} {ts : ClassId × ClassId × ClassId} {A : Nat → Prop} {Q : State → Prop} {wf : St → va_W} {σ : St} {r : Int32} (C : FX p s m args meth c RX10 cX10_isUnder 4 g ts A) (hQ : RetI p l e (rk 0 0) s m args below meth c cX10_isUnder g (wf) A r σ Q) : ∀ (x1 : Int32) (x2 : Int32) (H : Heap) (locs : List Loc) (ls : Array Slot), f_X10_isUnder_b27 x1 x2 = some r → va_P g classes (wf σ) H → va_D A (wf σ) → va_S A s.heap H locs → lv_has ls 4 [(1, .int x1), (2, .int x2)] → W p l e (rk 0 0) s m args below meth c H locs 0 0 Q (F0 m 27 ls []) := by
  have hx := C.1
  have hb := C.2.1
  have hown := C.2.2.2.1
  have hts := C.2.2.2.2.1
  intro x1 x2 H locs ls hf hP hD hS hl
  rw [f_X10_isUnder_b27] at hf
  refine lv_iload_n hx hb dX10_isUnder_27 rfl (lv_at hl 1 rfl) ?_
  refine lv_iload_n hx hb dX10_isUnder_28 rfl (lv_at hl 0 rfl) ?_
  refine lv_icmp_ne (tgt := 36) hx hb dX10_isUnder_29 (by decide) (fun c7 => ?_) (fun c7 => ?_)
  · replace hf := ineg c7 hf
    refine lv_iconst (v := 0) hx hb dX10_isUnder_36 (by decide) ?_
    exact retIp hQ hf dX10_isUnder_37 hP hD hS
  · replace hf := ipos c7 hf
    refine lv_iconst (v := 1) hx hb dX10_isUnder_32 (by decide) ?_
    refine lv_goto (tgt := 37) hx hb dX10_isUnder_33 (by decide) ?_
    exact retIp hQ hf dX10_isUnder_37 hP hD hS
set_option maxHeartbeats 4000000 in
set_option maxRecDepth 100000 in
theorem w_X10_isUnder_b4 {p : Program} {l : Launch} {e : Env} {s : State} {m : MethodId} {args : Array Value} {below : List Frame} {meth : Method} {c : Code} {g : va_G} {ts : ClassId × ClassId × ClassId} {A : Nat → Prop} {Q : State → Prop} {wf : St → va_W} {σ : St} {r : Int32} (C : FX p s m args meth c RX10 cX10_isUnder 4 g ts A) (hQ : RetI p l e (rk 0 0) s m args below meth c cX10_isUnder g (wf) A r σ Q) : ∀ (n : Nat) (x1 : Int32) (x2 : Int32) (x3 : Int32) (H : Heap) (locs : List Loc) (ls : Array Slot), f_X10_isUnder_b4 n x1 x2 x3 = some r → va_P g classes (wf σ) H → va_D A (wf σ) → va_S A s.heap H locs → lv_has ls 4 [(1, .int x1), (2, .int x2), (3, .int x3)] → W p l e (rk 0 0) s m args below meth c H locs 0 0 Q (F0 m 4 ls []) := by
  have hx := C.1
  have hb := C.2.1
  have hown := C.2.2.2.1
  have hts := C.2.2.2.2.1
  intro n
  induction n with
  | zero =>
    intro x1 x2 x3 H locs ls hf
    cases hf
  | succ n ih =>
    intro x1 x2 x3 H locs ls hf hP hD hS hl
    rw [f_X10_isUnder_b4] at hf
    refine lv_iload_n hx hb dX10_isUnder_4 rfl (lv_at hl 2 rfl) ?_
    refine lv_bipush (v := 8) hx hb dX10_isUnder_5 (by decide) ?_
    refine lv_icmp_ge (tgt := 27) hx hb dX10_isUnder_7 (by decide) (fun c1 => ?_) (fun c1 => ?_)
    · replace hf := ipos c1 hf
      exact w_X10_isUnder_b27 C hQ _ _ _ _ _ hf hP hD hS (lv_sub hl [0, 1] rfl)
    · replace hf := ineg c1 hf
      refine lv_iload_n hx hb dX10_isUnder_10 rfl (lv_at hl 1 rfl) ?_
      refine lv_iload_n hx hb dX10_isUnder_11 rfl (lv_at hl 0 rfl) ?_
      refine lv_icmp_eq (tgt := 27) hx hb dX10_isUnder_12 (by decide) (fun c2 => ?_) (fun c2 => ?_)
      · replace hf := ipos c2 hf
        exact w_X10_isUnder_b27 C hQ _ _ _ _ _ hf hP hD hS (lv_sub hl [0, 1] rfl)
      · replace hf := ineg c2 hf
        obtain ⟨t3, hZt3, hTt3⟩ := C.2.2.2.2.2.2.2.2.2.1
        refine va_gets hx hb hZt3 hS hown (hts _ q_1001) (fun _ h => h) dX10_isUnder_15 ?_
        refine lv_iload_n hx hb dX10_isUnder_18 rfl (lv_at hl 1 rfl) ?_
        obtain ⟨h4, hf⟩ := chk_some hf
        refine va_ti hx hb hTt3 hS h4 rfl dX10_isUnder_19 ?_
        refine lv_topi (fun v5 ev5 => ?_)
        replace hf := bnd_at ev5 hf
        refine lv_istore_n (lv' := [(2, .int v5), (1, .int x1), (3, .int x3)]) hx hb dX10_isUnder_20 rfl hl (by decide) rfl (fun ls hl => ?_)
        obtain ⟨v6, ev6⟩ : ∃ z : Int32, z = x3 + 1 := ⟨_, rfl⟩
        replace hf := bnd_at ev6 hf
        refine lv_iinc (v := v6) (lv' := [(3, .int v6), (2, .int v5), (1, .int x1)]) hx hb dX10_isUnder_21 hl (k := 2) rfl (by rw [ev6]; rfl) (by decide) rfl (fun ls hl => ?_)
        refine lv_goto (tgt := 4) hx hb dX10_isUnder_24 (by decide) ?_
        exact ih _ _ _ _ _ _ hf hP hD hS (lv_sub hl [2, 1, 0] rfl)
set_option maxHeartbeats 4000000 in
set_option maxRecDepth 100000 in
theorem c_X10_isUnder {l : Launch} {g : va_G} {ts : ClassId × ClassId × ClassId} {wf : St → va_W} {σ : St} {p1 : Int32} {p2 : Int32} {r : Int32} (hf : f_X10_isUnder p1 p2 = some r) : ConI l g ts (wf) yX10_isUnder cX10_isUnder 4 (some .boolean) (rk 0 0) σ [.int p1, .int p2] r σ := by
  rw [f_X10_isUnder] at hf
  obtain ⟨hf, hn⟩ := chkB1_some hf
  refine ConI_mk .boolean rfl hn rfl rfl (by decide) (Nat.le_of_ble_eq_true rfl) ?_
  intro p e s m below meth c A Q ls C hQ hP hD hS hl
  have C : FX p s m _ meth c RX10 cX10_isUnder 4 g ts A := C
  have hx := C.1
  have hb := C.2.1
  have hown := C.2.2.2.1
  have hts := C.2.2.2.2.1
  have hl : lv_has ls 4 [(0, .int p1), (1, .int p2)] := hl
  rw [f_X10_isUnder0] at hf
  refine lv_iload_n hx hb dX10_isUnder_0 rfl (lv_at hl 0 rfl) ?_
  refine lv_istore_n (lv' := [(2, .int p1), (0, .int p1), (1, .int p2)]) hx hb dX10_isUnder_1 rfl hl (by decide) rfl (fun ls hl => ?_)
  refine lv_iconst (v := 0) hx hb dX10_isUnder_2 (by decide) ?_
  refine lv_istore_n (lv' := [(3, .int (0 : Int32)), (2, .int p1), (0, .int p1), (1, .int p2)]) hx hb dX10_isUnder_3 rfl hl (by decide) rfl (fun ls hl => ?_)
  exact w_X10_isUnder_b4 C hQ 256 _ _ _ _ _ _ hf hP hD hS (lv_sub hl [3, 1, 0] rfl)
theorem dX11_shelfThere_0 : decode cX11_shelfThere 0 = .ok (.iload_n 0, 1) := by decide +kernel
theorem dX11_shelfThere_1 : decode cX11_shelfThere 1 = .ok (.ifCond .lt 13, 3) := by decide +kernel
theorem dX11_shelfThere_4 : decode cX11_shelfThere 4 = .ok (.iload_n 0, 1) := by decide +kernel
theorem dX11_shelfThere_5 : decode cX11_shelfThere 5 = .ok (.bipush 6, 2) := by decide +kernel
theorem dX11_shelfThere_7 : decode cX11_shelfThere 7 = .ok (.if_icmp .ge 7, 3) := by decide +kernel
theorem dX11_shelfThere_10 : decode cX11_shelfThere 10 = .ok (.iconst 1, 1) := by decide +kernel
theorem dX11_shelfThere_11 : decode cX11_shelfThere 11 = .ok (.goto 4, 3) := by decide +kernel
theorem dX11_shelfThere_14 : decode cX11_shelfThere 14 = .ok (.iconst 0, 1) := by decide +kernel
theorem dX11_shelfThere_15 : decode cX11_shelfThere 15 = .ok (.ireturn, 1) := by decide +kernel
def f_X11_shelfThere0 (p1 : Int32) : Option Int32 := if p1 < 0 then (some (0 : Int32)) else (if (6 : Int32) ≤ p1 then (some (0 : Int32)) else (some (1 : Int32)))
def f_X11_shelfThere (p1 : Int32) : Option Int32 := chkB1 (f_X11_shelfThere0 p1)
set_option maxHeartbeats 4000000 in
set_option maxRecDepth 100000 in
theorem c_X11_shelfThere {l : Launch} {g : va_G} {ts : ClassId × ClassId × ClassId} {wf : St → va_W} {σ : St} {p1 : Int32} {r : Int32} (hf : f_X11_shelfThere p1 = some r) : ConI l g ts (wf) yX11_shelfThere cX11_shelfThere 1 (some .boolean) (rk 0 0) σ [.int p1] r σ := by
  rw [f_X11_shelfThere] at hf
  obtain ⟨hf, hn⟩ := chkB1_some hf
  refine ConI_mk .boolean rfl hn rfl rfl (by decide) (Nat.le_of_ble_eq_true rfl) ?_
  intro p e s m below meth c A Q ls C hQ hP hD hS hl
  have C : FX p s m _ meth c RX11 cX11_shelfThere 1 g ts A := C
  have hx := C.1
  have hb := C.2.1
  have hown := C.2.2.2.1
  have hts := C.2.2.2.2.1
  have hl : lv_has ls 1 [(0, .int p1)] := hl
  rw [f_X11_shelfThere0] at hf
  refine lv_iload_n hx hb dX11_shelfThere_0 rfl (lv_at hl 0 rfl) ?_
  refine lv_if_lt (tgt := 14) hx hb dX11_shelfThere_1 (by decide) (fun c1 => ?_) (fun c1 => ?_)
  · replace hf := ipos c1 hf
    refine lv_iconst (v := 0) hx hb dX11_shelfThere_14 (by decide) ?_
    exact retIp hQ hf dX11_shelfThere_15 hP hD hS
  · replace hf := ineg c1 hf
    refine lv_iload_n hx hb dX11_shelfThere_4 rfl (lv_at hl 0 rfl) ?_
    refine lv_bipush (v := 6) hx hb dX11_shelfThere_5 (by decide) ?_
    refine lv_icmp_ge (tgt := 14) hx hb dX11_shelfThere_7 (by decide) (fun c2 => ?_) (fun c2 => ?_)
    · replace hf := ipos c2 hf
      refine lv_iconst (v := 0) hx hb dX11_shelfThere_14 (by decide) ?_
      exact retIp hQ hf dX11_shelfThere_15 hP hD hS
    · replace hf := ineg c2 hf
      refine lv_iconst (v := 1) hx hb dX11_shelfThere_10 (by decide) ?_
      refine lv_goto (tgt := 15) hx hb dX11_shelfThere_11 (by decide) ?_
      exact retIp hQ hf dX11_shelfThere_15 hP hD hS
theorem dX11_twoLetters_0 : decode cX11_twoLetters 0 = .ok (.iload_n 0, 1) := by decide +kernel
theorem dX11_twoLetters_1 : decode cX11_twoLetters 1 = .ok (.ifCond .lt 29, 3) := by decide +kernel
theorem dX11_twoLetters_4 : decode cX11_twoLetters 4 = .ok (.iload_n 0, 1) := by decide +kernel
theorem dX11_twoLetters_5 : decode cX11_twoLetters 5 = .ok (.bipush 100, 2) := by decide +kernel
theorem dX11_twoLetters_7 : decode cX11_twoLetters 7 = .ok (.idiv, 1) := by decide +kernel
theorem dX11_twoLetters_8 : decode cX11_twoLetters 8 = .ok (.i2l, 1) := by decide +kernel
theorem dX11_twoLetters_9 : decode cX11_twoLetters 9 = .ok (.invokestatic 400, 3) := by decide +kernel
theorem dX11_twoLetters_12 : decode cX11_twoLetters 12 = .ok (.ifCond .eq 18, 3) := by decide +kernel
theorem dX11_twoLetters_15 : decode cX11_twoLetters 15 = .ok (.iload_n 0, 1) := by decide +kernel
theorem dX11_twoLetters_16 : decode cX11_twoLetters 16 = .ok (.bipush 100, 2) := by decide +kernel
theorem dX11_twoLetters_18 : decode cX11_twoLetters 18 = .ok (.irem, 1) := by decide +kernel
theorem dX11_twoLetters_19 : decode cX11_twoLetters 19 = .ok (.i2l, 1) := by decide +kernel
theorem dX11_twoLetters_20 : decode cX11_twoLetters 20 = .ok (.invokestatic 400, 3) := by decide +kernel
theorem dX11_twoLetters_23 : decode cX11_twoLetters 23 = .ok (.ifCond .eq 7, 3) := by decide +kernel
theorem dX11_twoLetters_26 : decode cX11_twoLetters 26 = .ok (.iconst 1, 1) := by decide +kernel
theorem dX11_twoLetters_27 : decode cX11_twoLetters 27 = .ok (.goto 4, 3) := by decide +kernel
theorem dX11_twoLetters_30 : decode cX11_twoLetters 30 = .ok (.iconst 0, 1) := by decide +kernel
theorem dX11_twoLetters_31 : decode cX11_twoLetters 31 = .ok (.ireturn, 1) := by decide +kernel
def f_X11_twoLetters0 (p1 : Int32) : Option Int32 := if p1 < 0 then (some (0 : Int32)) else (bnd1 (f_X11_isLetter (((p1 / (100 : Int32)) : Int32).toInt64)) (fun r3 => if r3 = 0 then (some (0 : Int32)) else (bnd1 (f_X11_isLetter (((p1 - p1 / (100 : Int32) * (100 : Int32)) : Int32).toInt64)) (fun r6 => if r6 = 0 then (some (0 : Int32)) else (some (1 : Int32))))))
def f_X11_twoLetters (p1 : Int32) : Option Int32 := chkB1 (f_X11_twoLetters0 p1)
set_option maxHeartbeats 4000000 in
set_option maxRecDepth 100000 in
theorem c_X11_twoLetters {l : Launch} {g : va_G} {ts : ClassId × ClassId × ClassId} {wf : St → va_W} {σ : St} {p1 : Int32} {r : Int32} (hf : f_X11_twoLetters p1 = some r) : ConI l g ts (wf) yX11_twoLetters cX11_twoLetters 1 (some .boolean) (rk 1 21) σ [.int p1] r σ := by
  rw [f_X11_twoLetters] at hf
  obtain ⟨hf, hn⟩ := chkB1_some hf
  refine ConI_mk .boolean rfl hn rfl rfl (by decide) (Nat.le_of_ble_eq_true rfl) ?_
  intro p e s m below meth c A Q ls C hQ hP hD hS hl
  have C : FX p s m _ meth c RX11 cX11_twoLetters 1 g ts A := C
  have hx := C.1
  have hb := C.2.1
  have hown := C.2.2.2.1
  have hts := C.2.2.2.2.1
  have hl : lv_has ls 1 [(0, .int p1)] := hl
  rw [f_X11_twoLetters0] at hf
  refine lv_iload_n hx hb dX11_twoLetters_0 rfl (lv_at hl 0 rfl) ?_
  refine lv_if_lt (tgt := 30) hx hb dX11_twoLetters_1 (by decide) (fun c1 => ?_) (fun c1 => ?_)
  · replace hf := ipos c1 hf
    refine lv_iconst (v := 0) hx hb dX11_twoLetters_30 (by decide) ?_
    exact retIp hQ hf dX11_twoLetters_31 hP hD hS
  · replace hf := ineg c1 hf
    refine lv_iload_n hx hb dX11_twoLetters_4 rfl (lv_at hl 0 rfl) ?_
    refine lv_bipush (v := 100) hx hb dX11_twoLetters_5 (by decide) ?_
    refine lv_idiv hx hb dX11_twoLetters_7 (by decide) ?_
    refine lv_i2l (v := ((p1 / (100 : Int32)) : Int32).toInt64) hx hb dX11_twoLetters_8 rfl ?_
    obtain ⟨r3, h2, hf⟩ := bnd1_some hf
    refine tI [] C hP hD hS (c_X11_isLetter h2) ms_X11_isLetter q_472 dX11_twoLetters_9 ⟨Nat.le_of_ble_eq_true rfl, Nat.le_of_ble_eq_true rfl⟩ ⟨Nat.zero_le _, Nat.zero_le _⟩ rfl rfl (Nat.le_of_ble_eq_true rfl) hl.1 (fun H locs hP hD hS => ?_)
    refine lv_if_eq (tgt := 30) hx hb dX11_twoLetters_12 (by decide) (fun c4 => ?_) (fun c4 => ?_)
    · replace hf := ipos c4 hf
      refine lv_iconst (v := 0) hx hb dX11_twoLetters_30 (by decide) ?_
      exact retIp hQ hf dX11_twoLetters_31 hP hD hS
    · replace hf := ineg c4 hf
      refine lv_iload_n hx hb dX11_twoLetters_15 rfl (lv_at hl 0 rfl) ?_
      refine lv_bipush (v := 100) hx hb dX11_twoLetters_16 (by decide) ?_
      refine lv_irem hx hb dX11_twoLetters_18 (by decide) ?_
      refine lv_i2l (v := ((p1 - p1 / (100 : Int32) * (100 : Int32)) : Int32).toInt64) hx hb dX11_twoLetters_19 rfl ?_
      obtain ⟨r6, h5, hf⟩ := bnd1_some hf
      refine tI [] C hP hD hS (c_X11_isLetter h5) ms_X11_isLetter q_472 dX11_twoLetters_20 ⟨Nat.le_of_ble_eq_true rfl, Nat.le_of_ble_eq_true rfl⟩ ⟨Nat.zero_le _, Nat.zero_le _⟩ rfl rfl (Nat.le_of_ble_eq_true rfl) hl.1 (fun H locs hP hD hS => ?_)
      refine lv_if_eq (tgt := 30) hx hb dX11_twoLetters_23 (by decide) (fun c7 => ?_) (fun c7 => ?_)
      · replace hf := ipos c7 hf
        refine lv_iconst (v := 0) hx hb dX11_twoLetters_30 (by decide) ?_
        exact retIp hQ hf dX11_twoLetters_31 hP hD hS
      · replace hf := ineg c7 hf
        refine lv_iconst (v := 1) hx hb dX11_twoLetters_26 (by decide) ?_
        refine lv_goto (tgt := 31) hx hb dX11_twoLetters_27 (by decide) ?_
        exact retIp hQ hf dX11_twoLetters_31 hP hD hS
theorem dX11_within_0 : decode cX11_within 0 = .ok (.iload_n 0, 1) := by decide +kernel
theorem dX11_within_1 : decode cX11_within 1 = .ok (.iconst 2, 1) := by decide +kernel
theorem dX11_within_2 : decode cX11_within 2 = .ok (.if_icmp .ne 7, 3) := by decide +kernel
theorem dX11_within_5 : decode cX11_within 5 = .ok (.iconst 1, 1) := by decide +kernel
theorem dX11_within_6 : decode cX11_within 6 = .ok (.goto 4, 3) := by decide +kernel
theorem dX11_within_9 : decode cX11_within 9 = .ok (.iconst 0, 1) := by decide +kernel
theorem dX11_within_10 : decode cX11_within 10 = .ok (.istore_n 2, 1) := by decide +kernel
theorem dX11_within_11 : decode cX11_within 11 = .ok (.iload_n 0, 1) := by decide +kernel
theorem dX11_within_12 : decode cX11_within 12 = .ok (.iconst 3, 1) := by decide +kernel
theorem dX11_within_13 : decode cX11_within 13 = .ok (.if_icmp .ne 8, 3) := by decide +kernel
theorem dX11_within_16 : decode cX11_within 16 = .ok (.bipush 12, 2) := by decide +kernel
theorem dX11_within_18 : decode cX11_within 18 = .ok (.goto 5, 3) := by decide +kernel
theorem dX11_within_21 : decode cX11_within 21 = .ok (.bipush 9, 2) := by decide +kernel
theorem dX11_within_23 : decode cX11_within 23 = .ok (.istore_n 3, 1) := by decide +kernel
theorem dX11_within_24 : decode cX11_within 24 = .ok (.iload_n 1, 1) := by decide +kernel
theorem dX11_within_25 : decode cX11_within 25 = .ok (.iload_n 2, 1) := by decide +kernel
theorem dX11_within_26 : decode cX11_within 26 = .ok (.if_icmp .lt 12, 3) := by decide +kernel
theorem dX11_within_29 : decode cX11_within 29 = .ok (.iload_n 1, 1) := by decide +kernel
theorem dX11_within_30 : decode cX11_within 30 = .ok (.iload_n 3, 1) := by decide +kernel
theorem dX11_within_31 : decode cX11_within 31 = .ok (.if_icmp .gt 7, 3) := by decide +kernel
theorem dX11_within_34 : decode cX11_within 34 = .ok (.iconst 1, 1) := by decide +kernel
theorem dX11_within_35 : decode cX11_within 35 = .ok (.goto 4, 3) := by decide +kernel
theorem dX11_within_38 : decode cX11_within 38 = .ok (.iconst 0, 1) := by decide +kernel
theorem dX11_within_39 : decode cX11_within 39 = .ok (.ireturn, 1) := by decide +kernel
def f_X11_within_b23 (x1 : Int32) (x2 : Int32) (s0 : Int32) : Option Int32 := if x1 < x2 then (some (0 : Int32)) else (if s0 < x1 then (some (0 : Int32)) else (some (1 : Int32)))
def f_X11_within_b10 (x0 : Int32) (x1 : Int32) (s0 : Int32) : Option Int32 := if x0 = (3 : Int32) then (f_X11_within_b23 x1 s0 (12 : Int32)) else (f_X11_within_b23 x1 s0 (9 : Int32))
def f_X11_within0 (p1 : Int32) (p2 : Int32) : Option Int32 := if p1 = (2 : Int32) then (f_X11_within_b10 p1 p2 (1 : Int32)) else (f_X11_within_b10 p1 p2 (0 : Int32))
def f_X11_within (p1 : Int32) (p2 : Int32) : Option Int32 := chkB1 (f_X11_within0 p1 p2)
set_option maxHeartbeats 4000000 in
set_option maxRecDepth 100000 in
theorem w_X11_within_b23 {p : Program} {l : Launch} {e : Env} {s : State} {m : MethodId} {args : Array Value} {below : List Frame} {meth : Method} {c : Code} {g : va_G} {ts : ClassId × ClassId × ClassId} {A : Nat → Prop} {Q : State → Prop} {wf : St → va_W} {σ : St} {r : Int32} (C : FX p s m args meth c RX11 cX11_within 4 g ts A) (hQ : RetI p l e (rk 0 0) s m args below meth c cX11_within g (wf) A r σ Q) : ∀ (x1 : Int32) (x2 : Int32) (s0 : Int32) (H : Heap) (locs : List Loc) (ls : Array Slot), f_X11_within_b23 x1 x2 s0 = some r → va_P g classes (wf σ) H → va_D A (wf σ) → va_S A s.heap H locs → lv_has ls 4 [(1, .int x1), (2, .int x2)] → W p l e (rk 0 0) s m args below meth c H locs 0 0 Q (F0 m 23 ls [.int s0]) := by
  have hx := C.1
  have hb := C.2.1
  have hown := C.2.2.2.1
  have hts := C.2.2.2.2.1
  intro x1 x2 s0 H locs ls hf hP hD hS hl
  rw [f_X11_within_b23] at hf
  refine lv_istore_n (lv' := [(3, .int s0), (1, .int x1), (2, .int x2)]) hx hb dX11_within_23 rfl hl (by decide) rfl (fun ls hl => ?_)
  refine lv_iload_n hx hb dX11_within_24 rfl (lv_at hl 1 rfl) ?_
  refine lv_iload_n hx hb dX11_within_25 rfl (lv_at hl 2 rfl) ?_
  refine lv_icmp_lt (tgt := 38) hx hb dX11_within_26 (by decide) (fun c3 => ?_) (fun c3 => ?_)
  · replace hf := ipos c3 hf
    refine lv_iconst (v := 0) hx hb dX11_within_38 (by decide) ?_
    exact retIp hQ hf dX11_within_39 hP hD hS
  · replace hf := ineg c3 hf
    refine lv_iload_n hx hb dX11_within_29 rfl (lv_at hl 1 rfl) ?_
    refine lv_iload_n hx hb dX11_within_30 rfl (lv_at hl 0 rfl) ?_
    refine lv_icmp_gt (tgt := 38) hx hb dX11_within_31 (by decide) (fun c4 => ?_) (fun c4 => ?_)
    · replace hf := ipos c4 hf
      refine lv_iconst (v := 0) hx hb dX11_within_38 (by decide) ?_
      exact retIp hQ hf dX11_within_39 hP hD hS
    · replace hf := ineg c4 hf
      refine lv_iconst (v := 1) hx hb dX11_within_34 (by decide) ?_
      refine lv_goto (tgt := 39) hx hb dX11_within_35 (by decide) ?_
      exact retIp hQ hf dX11_within_39 hP hD hS
set_option maxHeartbeats 4000000 in
set_option maxRecDepth 100000 in
theorem w_X11_within_b10 {p : Program} {l : Launch} {e : Env} {s : State} {m : MethodId} {args : Array Value} {below : List Frame} {meth : Method} {c : Code} {g : va_G} {ts : ClassId × ClassId × ClassId} {A : Nat → Prop} {Q : State → Prop} {wf : St → va_W} {σ : St} {r : Int32} (C : FX p s m args meth c RX11 cX11_within 4 g ts A) (hQ : RetI p l e (rk 0 0) s m args below meth c cX11_within g (wf) A r σ Q) : ∀ (x0 : Int32) (x1 : Int32) (s0 : Int32) (H : Heap) (locs : List Loc) (ls : Array Slot), f_X11_within_b10 x0 x1 s0 = some r → va_P g classes (wf σ) H → va_D A (wf σ) → va_S A s.heap H locs → lv_has ls 4 [(0, .int x0), (1, .int x1)] → W p l e (rk 0 0) s m args below meth c H locs 0 0 Q (F0 m 10 ls [.int s0]) := by
  have hx := C.1
  have hb := C.2.1
  have hown := C.2.2.2.1
  have hts := C.2.2.2.2.1
  intro x0 x1 s0 H locs ls hf hP hD hS hl
  rw [f_X11_within_b10] at hf
  refine lv_istore_n (lv' := [(2, .int s0), (0, .int x0), (1, .int x1)]) hx hb dX11_within_10 rfl hl (by decide) rfl (fun ls hl => ?_)
  refine lv_iload_n hx hb dX11_within_11 rfl (lv_at hl 1 rfl) ?_
  refine lv_iconst (v := 3) hx hb dX11_within_12 (by decide) ?_
  refine lv_icmp_ne (tgt := 21) hx hb dX11_within_13 (by decide) (fun c2 => ?_) (fun c2 => ?_)
  · replace hf := ineg c2 hf
    refine lv_bipush (v := 9) hx hb dX11_within_21 (by decide) ?_
    exact w_X11_within_b23 C hQ _ _ _ _ _ _ hf hP hD hS (lv_sub hl [2, 0] rfl)
  · replace hf := ipos c2 hf
    refine lv_bipush (v := 12) hx hb dX11_within_16 (by decide) ?_
    refine lv_goto (tgt := 23) hx hb dX11_within_18 (by decide) ?_
    exact w_X11_within_b23 C hQ _ _ _ _ _ _ hf hP hD hS (lv_sub hl [2, 0] rfl)
set_option maxHeartbeats 4000000 in
set_option maxRecDepth 100000 in
theorem c_X11_within {l : Launch} {g : va_G} {ts : ClassId × ClassId × ClassId} {wf : St → va_W} {σ : St} {p1 : Int32} {p2 : Int32} {r : Int32} (hf : f_X11_within p1 p2 = some r) : ConI l g ts (wf) yX11_within cX11_within 4 (some .boolean) (rk 0 0) σ [.int p1, .int p2] r σ := by
  rw [f_X11_within] at hf
  obtain ⟨hf, hn⟩ := chkB1_some hf
  refine ConI_mk .boolean rfl hn rfl rfl (by decide) (Nat.le_of_ble_eq_true rfl) ?_
  intro p e s m below meth c A Q ls C hQ hP hD hS hl
  have C : FX p s m _ meth c RX11 cX11_within 4 g ts A := C
  have hx := C.1
  have hb := C.2.1
  have hown := C.2.2.2.1
  have hts := C.2.2.2.2.1
  have hl : lv_has ls 4 [(0, .int p1), (1, .int p2)] := hl
  rw [f_X11_within0] at hf
  refine lv_iload_n hx hb dX11_within_0 rfl (lv_at hl 0 rfl) ?_
  refine lv_iconst (v := 2) hx hb dX11_within_1 (by decide) ?_
  refine lv_icmp_ne (tgt := 9) hx hb dX11_within_2 (by decide) (fun c1 => ?_) (fun c1 => ?_)
  · replace hf := ineg c1 hf
    refine lv_iconst (v := 0) hx hb dX11_within_9 (by decide) ?_
    exact w_X11_within_b10 C hQ _ _ _ _ _ _ hf hP hD hS (lv_sub hl [0, 1] rfl)
  · replace hf := ipos c1 hf
    refine lv_iconst (v := 1) hx hb dX11_within_5 (by decide) ?_
    refine lv_goto (tgt := 10) hx hb dX11_within_6 (by decide) ?_
    exact w_X11_within_b10 C hQ _ _ _ _ _ _ hf hP hD hS (lv_sub hl [0, 1] rfl)
theorem dX11_fractionPart_0 : decode cX11_fractionPart 0 = .ok (.iload_n 0, 1) := by decide +kernel
theorem dX11_fractionPart_1 : decode cX11_fractionPart 1 = .ok (.ifCond .eq 8, 3) := by decide +kernel
theorem dX11_fractionPart_4 : decode cX11_fractionPart 4 = .ok (.iload_n 0, 1) := by decide +kernel
theorem dX11_fractionPart_5 : decode cX11_fractionPart 5 = .ok (.iconst 1, 1) := by decide +kernel
theorem dX11_fractionPart_6 : decode cX11_fractionPart 6 = .ok (.if_icmp .ne 7, 3) := by decide +kernel
theorem dX11_fractionPart_9 : decode cX11_fractionPart 9 = .ok (.iconst 1, 1) := by decide +kernel
theorem dX11_fractionPart_10 : decode cX11_fractionPart 10 = .ok (.goto 4, 3) := by decide +kernel
theorem dX11_fractionPart_13 : decode cX11_fractionPart 13 = .ok (.iconst 0, 1) := by decide +kernel
theorem dX11_fractionPart_14 : decode cX11_fractionPart 14 = .ok (.ireturn, 1) := by decide +kernel
def f_X11_fractionPart0 (p1 : Int32) : Option Int32 := if p1 = 0 then (some (1 : Int32)) else (if p1 = (1 : Int32) then (some (1 : Int32)) else (some (0 : Int32)))
def f_X11_fractionPart (p1 : Int32) : Option Int32 := chkB1 (f_X11_fractionPart0 p1)
set_option maxHeartbeats 4000000 in
set_option maxRecDepth 100000 in
theorem c_X11_fractionPart {l : Launch} {g : va_G} {ts : ClassId × ClassId × ClassId} {wf : St → va_W} {σ : St} {p1 : Int32} {r : Int32} (hf : f_X11_fractionPart p1 = some r) : ConI l g ts (wf) yX11_fractionPart cX11_fractionPart 1 (some .boolean) (rk 0 0) σ [.int p1] r σ := by
  rw [f_X11_fractionPart] at hf
  obtain ⟨hf, hn⟩ := chkB1_some hf
  refine ConI_mk .boolean rfl hn rfl rfl (by decide) (Nat.le_of_ble_eq_true rfl) ?_
  intro p e s m below meth c A Q ls C hQ hP hD hS hl
  have C : FX p s m _ meth c RX11 cX11_fractionPart 1 g ts A := C
  have hx := C.1
  have hb := C.2.1
  have hown := C.2.2.2.1
  have hts := C.2.2.2.2.1
  have hl : lv_has ls 1 [(0, .int p1)] := hl
  rw [f_X11_fractionPart0] at hf
  refine lv_iload_n hx hb dX11_fractionPart_0 rfl (lv_at hl 0 rfl) ?_
  refine lv_if_eq (tgt := 9) hx hb dX11_fractionPart_1 (by decide) (fun c1 => ?_) (fun c1 => ?_)
  · replace hf := ipos c1 hf
    refine lv_iconst (v := 1) hx hb dX11_fractionPart_9 (by decide) ?_
    refine lv_goto (tgt := 14) hx hb dX11_fractionPart_10 (by decide) ?_
    exact retIp hQ hf dX11_fractionPart_14 hP hD hS
  · replace hf := ineg c1 hf
    refine lv_iload_n hx hb dX11_fractionPart_4 rfl (lv_at hl 0 rfl) ?_
    refine lv_iconst (v := 1) hx hb dX11_fractionPart_5 (by decide) ?_
    refine lv_icmp_ne (tgt := 13) hx hb dX11_fractionPart_6 (by decide) (fun c2 => ?_) (fun c2 => ?_)
    · replace hf := ineg c2 hf
      refine lv_iconst (v := 0) hx hb dX11_fractionPart_13 (by decide) ?_
      exact retIp hQ hf dX11_fractionPart_14 hP hD hS
    · replace hf := ipos c2 hf
      refine lv_iconst (v := 1) hx hb dX11_fractionPart_9 (by decide) ?_
      refine lv_goto (tgt := 14) hx hb dX11_fractionPart_10 (by decide) ?_
      exact retIp hQ hf dX11_fractionPart_14 hP hD hS
theorem dX11_lowest_0 : decode cX11_lowest 0 = .ok (.lload_n 2, 1) := by decide +kernel
theorem dX11_lowest_1 : decode cX11_lowest 1 = .ok (.lstore 5, 2) := by decide +kernel
theorem dX11_lowest_3 : decode cX11_lowest 3 = .ok (.lload_n 0, 1) := by decide +kernel
theorem dX11_lowest_4 : decode cX11_lowest 4 = .ok (.lstore 7, 2) := by decide +kernel
theorem dX11_lowest_6 : decode cX11_lowest 6 = .ok (.iconst 0, 1) := by decide +kernel
theorem dX11_lowest_7 : decode cX11_lowest 7 = .ok (.istore 9, 2) := by decide +kernel
theorem dX11_lowest_9 : decode cX11_lowest 9 = .ok (.iload 9, 2) := by decide +kernel
theorem dX11_lowest_11 : decode cX11_lowest 11 = .ok (.sipush 200, 3) := by decide +kernel
theorem dX11_lowest_14 : decode cX11_lowest 14 = .ok (.if_icmp .ge 31, 3) := by decide +kernel
theorem dX11_lowest_17 : decode cX11_lowest 17 = .ok (.lload 7, 2) := by decide +kernel
theorem dX11_lowest_19 : decode cX11_lowest 19 = .ok (.lconst 0, 1) := by decide +kernel
theorem dX11_lowest_20 : decode cX11_lowest 20 = .ok (.lcmp, 1) := by decide +kernel
theorem dX11_lowest_21 : decode cX11_lowest 21 = .ok (.ifCond .eq 24, 3) := by decide +kernel
theorem dX11_lowest_24 : decode cX11_lowest 24 = .ok (.lload 5, 2) := by decide +kernel
theorem dX11_lowest_26 : decode cX11_lowest 26 = .ok (.lload 7, 2) := by decide +kernel
theorem dX11_lowest_28 : decode cX11_lowest 28 = .ok (.lrem, 1) := by decide +kernel
theorem dX11_lowest_29 : decode cX11_lowest 29 = .ok (.lstore 10, 2) := by decide +kernel
theorem dX11_lowest_31 : decode cX11_lowest 31 = .ok (.lload 7, 2) := by decide +kernel
theorem dX11_lowest_33 : decode cX11_lowest 33 = .ok (.lstore 5, 2) := by decide +kernel
theorem dX11_lowest_35 : decode cX11_lowest 35 = .ok (.lload 10, 2) := by decide +kernel
theorem dX11_lowest_37 : decode cX11_lowest 37 = .ok (.lstore 7, 2) := by decide +kernel
theorem dX11_lowest_39 : decode cX11_lowest 39 = .ok (.iinc 9 1, 3) := by decide +kernel
theorem dX11_lowest_42 : decode cX11_lowest 42 = .ok (.goto (-33), 3) := by decide +kernel
theorem dX11_lowest_45 : decode cX11_lowest 45 = .ok (.lload 5, 2) := by decide +kernel
theorem dX11_lowest_47 : decode cX11_lowest 47 = .ok (.lconst 0, 1) := by decide +kernel
theorem dX11_lowest_48 : decode cX11_lowest 48 = .ok (.lcmp, 1) := by decide +kernel
theorem dX11_lowest_49 : decode cX11_lowest 49 = .ok (.ifCond .ne 7, 3) := by decide +kernel
theorem dX11_lowest_52 : decode cX11_lowest 52 = .ok (.ldc2_w 153, 3) := by decide +kernel
theorem dX11_lowest_55 : decode cX11_lowest 55 = .ok (.lreturn, 1) := by decide +kernel
theorem dX11_lowest_56 : decode cX11_lowest 56 = .ok (.iload 4, 2) := by decide +kernel
theorem dX11_lowest_58 : decode cX11_lowest 58 = .ok (.ifCond .ne 7, 3) := by decide +kernel
theorem dX11_lowest_61 : decode cX11_lowest 61 = .ok (.lload_n 0, 1) := by decide +kernel
theorem dX11_lowest_62 : decode cX11_lowest 62 = .ok (.goto 4, 3) := by decide +kernel
theorem dX11_lowest_65 : decode cX11_lowest 65 = .ok (.lload_n 2, 1) := by decide +kernel
theorem dX11_lowest_66 : decode cX11_lowest 66 = .ok (.lload 5, 2) := by decide +kernel
theorem dX11_lowest_68 : decode cX11_lowest 68 = .ok (.ldiv, 1) := by decide +kernel
theorem dX11_lowest_69 : decode cX11_lowest 69 = .ok (.lreturn, 1) := by decide +kernel
def f_X11_lowest_b45 (x0 : Int64) (x2 : Int64) (x4 : Int32) (x5 : Int64) : Option Int64 := if x5 = (0 : Int64) then (some (-9223372036854775808 : Int64)) else (if x4 = 0 then (chk (x5 = 0) (some (x0 / x5))) else (chk (x5 = 0) (some (x2 / x5))))
def f_X11_lowest_b9 : Nat → Int64 → Int64 → Int32 → Int64 → Int64 → Int32 → Option Int64
  | 0, _, _, _, _, _, _ => none
  | n + 1, x0, x2, x4, x5, x7, x9 => if (200 : Int32) ≤ x9 then (f_X11_lowest_b45 x0 x2 x4 x5) else (if x7 = (0 : Int64) then (f_X11_lowest_b45 x0 x2 x4 x5) else (chk (x7 = 0) (bnd (x5 - x5 / x7 * x7) (fun v4 => bnd (x9 + 1) (fun v5 => f_X11_lowest_b9 n x0 x2 x4 x7 v4 v5)))))
def f_X11_lowest (p1 : Int64) (p2 : Int64) (p3 : Int32) : Option Int64 := f_X11_lowest_b9 256 p1 p2 p3 p2 p1 (0 : Int32)
set_option maxHeartbeats 4000000 in
set_option maxRecDepth 100000 in
theorem w_X11_lowest_b45 {p : Program} {l : Launch} {e : Env} {s : State} {m : MethodId} {args : Array Value} {below : List Frame} {meth : Method} {c : Code} {g : va_G} {ts : ClassId × ClassId × ClassId} {A : Nat → Prop} {Q : State → Prop} {wf : St → va_W} {σ : St} {r : Int64} (C : FX p s m args meth c RX11 cX11_lowest 12 g ts A) (hQ : RetL p l e (rk 0 0) s m args below meth c cX11_lowest g (wf) A r σ Q) : ∀ (x0 : Int64) (x2 : Int64) (x4 : Int32) (x5 : Int64) (H : Heap) (locs : List Loc) (ls : Array Slot), f_X11_lowest_b45 x0 x2 x4 x5 = some r → va_P g classes (wf σ) H → va_D A (wf σ) → va_S A s.heap H locs → lv_has ls 12 [(0, .long x0), (2, .long x2), (4, .int x4), (5, .long x5)] → W p l e (rk 0 0) s m args below meth c H locs 0 0 Q (F0 m 45 ls []) := by
  have hx := C.1
  have hb := C.2.1
  have hown := C.2.2.2.1
  have hts := C.2.2.2.2.1
  intro x0 x2 x4 x5 H locs ls hf hP hD hS hl
  rw [f_X11_lowest_b45] at hf
  refine lv_lload hx hb dX11_lowest_45 (lv_at hl 3 rfl) ?_
  refine lv_lconst (v := 0) hx hb dX11_lowest_47 (by decide) ?_
  refine lb_ne (tgt := 56) hx hb dX11_lowest_48 dX11_lowest_49 (by decide) (fun c6 => ?_) (fun c6 => ?_)
  · replace hf := ineg c6 hf
    refine lv_iload hx hb dX11_lowest_56 (lv_at hl 2 rfl) ?_
    refine lv_if_ne (tgt := 65) hx hb dX11_lowest_58 (by decide) (fun c7 => ?_) (fun c7 => ?_)
    · replace hf := ineg c7 hf
      refine lv_lload_n hx hb dX11_lowest_65 rfl (lv_at hl 1 rfl) ?_
      refine lv_lload hx hb dX11_lowest_66 (lv_at hl 3 rfl) ?_
      obtain ⟨h8, hf⟩ := chk_some hf
      refine lv_ldiv hx hb dX11_lowest_68 h8 ?_
      exact retLp hQ hf dX11_lowest_69 hP hD hS
    · replace hf := ipos c7 hf
      refine lv_lload_n hx hb dX11_lowest_61 rfl (lv_at hl 0 rfl) ?_
      refine lv_goto (tgt := 66) hx hb dX11_lowest_62 (by decide) ?_
      refine lv_lload hx hb dX11_lowest_66 (lv_at hl 3 rfl) ?_
      obtain ⟨h9, hf⟩ := chk_some hf
      refine lv_ldiv hx hb dX11_lowest_68 h9 ?_
      exact retLp hQ hf dX11_lowest_69 hP hD hS
  · replace hf := ipos c6 hf
    refine lv_ldc2 hx hb hown (hts _ q_661) dX11_lowest_52 ?_
    exact retLp hQ hf dX11_lowest_55 hP hD hS
set_option maxHeartbeats 4000000 in
set_option maxRecDepth 100000 in
theorem w_X11_lowest_b9 {p : Program} {l : Launch} {e : Env} {s : State} {m : MethodId} {args : Array Value} {below : List Frame} {meth : Method} {c : Code} {g : va_G} {ts : ClassId × ClassId × ClassId} {A : Nat → Prop} {Q : State → Prop} {wf : St → va_W} {σ : St} {r : Int64} (C : FX p s m args meth c RX11 cX11_lowest 12 g ts A) (hQ : RetL p l e (rk 0 0) s m args below meth c cX11_lowest g (wf) A r σ Q) : ∀ (n : Nat) (x0 : Int64) (x2 : Int64) (x4 : Int32) (x5 : Int64) (x7 : Int64) (x9 : Int32) (H : Heap) (locs : List Loc) (ls : Array Slot), f_X11_lowest_b9 n x0 x2 x4 x5 x7 x9 = some r → va_P g classes (wf σ) H → va_D A (wf σ) → va_S A s.heap H locs → lv_has ls 12 [(0, .long x0), (2, .long x2), (4, .int x4), (5, .long x5), (7, .long x7), (9, .int x9)] → W p l e (rk 0 0) s m args below meth c H locs 0 0 Q (F0 m 9 ls []) := by
  have hx := C.1
  have hb := C.2.1
  have hown := C.2.2.2.1
  have hts := C.2.2.2.2.1
  intro n
  induction n with
  | zero =>
    intro x0 x2 x4 x5 x7 x9 H locs ls hf
    cases hf
  | succ n ih =>
    intro x0 x2 x4 x5 x7 x9 H locs ls hf hP hD hS hl
    rw [f_X11_lowest_b9] at hf
    refine lv_iload hx hb dX11_lowest_9 (lv_at hl 5 rfl) ?_
    refine lv_sipush (v := 200) hx hb dX11_lowest_11 (by decide) ?_
    refine lv_icmp_ge (tgt := 45) hx hb dX11_lowest_14 (by decide) (fun c1 => ?_) (fun c1 => ?_)
    · replace hf := ipos c1 hf
      exact w_X11_lowest_b45 C hQ _ _ _ _ _ _ _ hf hP hD hS (lv_sub hl [0, 1, 2, 3] rfl)
    · replace hf := ineg c1 hf
      refine lv_lload hx hb dX11_lowest_17 (lv_at hl 4 rfl) ?_
      refine lv_lconst (v := 0) hx hb dX11_lowest_19 (by decide) ?_
      refine lb_eq (tgt := 45) hx hb dX11_lowest_20 dX11_lowest_21 (by decide) (fun c2 => ?_) (fun c2 => ?_)
      · replace hf := ipos c2 hf
        exact w_X11_lowest_b45 C hQ _ _ _ _ _ _ _ hf hP hD hS (lv_sub hl [0, 1, 2, 3] rfl)
      · replace hf := ineg c2 hf
        refine lv_lload hx hb dX11_lowest_24 (lv_at hl 3 rfl) ?_
        refine lv_lload hx hb dX11_lowest_26 (lv_at hl 4 rfl) ?_
        obtain ⟨h3, hf⟩ := chk_some hf
        refine lv_lrem hx hb dX11_lowest_28 h3 ?_
        refine lv_topl (fun v4 ev4 => ?_)
        replace hf := bnd_at ev4 hf
        refine lv_lstore (lv' := [(10, .long v4), (0, .long x0), (2, .long x2), (4, .int x4), (5, .long x5), (7, .long x7), (9, .int x9)]) hx hb dX11_lowest_29 hl (by decide) rfl (fun ls hl => ?_)
        refine lv_lload hx hb dX11_lowest_31 (lv_at hl 5 rfl) ?_
        refine lv_lstore (lv' := [(5, .long x7), (10, .long v4), (0, .long x0), (2, .long x2), (4, .int x4), (7, .long x7), (9, .int x9)]) hx hb dX11_lowest_33 hl (by decide) rfl (fun ls hl => ?_)
        refine lv_lload hx hb dX11_lowest_35 (lv_at hl 1 rfl) ?_
        refine lv_lstore (lv' := [(7, .long v4), (5, .long x7), (10, .long v4), (0, .long x0), (2, .long x2), (4, .int x4), (9, .int x9)]) hx hb dX11_lowest_37 hl (by decide) rfl (fun ls hl => ?_)
        obtain ⟨v5, ev5⟩ : ∃ z : Int32, z = x9 + 1 := ⟨_, rfl⟩
        replace hf := bnd_at ev5 hf
        refine lv_iinc (v := v5) (lv' := [(9, .int v5), (7, .long v4), (5, .long x7), (10, .long v4), (0, .long x0), (2, .long x2), (4, .int x4)]) hx hb dX11_lowest_39 hl (k := 6) rfl (by rw [ev5]; rfl) (by decide) rfl (fun ls hl => ?_)
        refine lv_goto (tgt := 9) hx hb dX11_lowest_42 (by decide) ?_
        exact ih _ _ _ _ _ _ _ _ _ hf hP hD hS (lv_sub hl [4, 5, 6, 2, 1, 0] rfl)
set_option maxHeartbeats 4000000 in
set_option maxRecDepth 100000 in
theorem c_X11_lowest {l : Launch} {g : va_G} {ts : ClassId × ClassId × ClassId} {wf : St → va_W} {σ : St} {p1 : Int64} {p2 : Int64} {p3 : Int32} {r : Int64} (hf : f_X11_lowest p1 p2 p3 = some r) : ConL l g ts (wf) yX11_lowest cX11_lowest 12 (some .long) (rk 0 0) σ [.long p1, .long p2, .int p3] r σ := by
  refine ConL_mk rfl rfl (by decide) (Nat.le_of_ble_eq_true rfl) ?_
  intro p e s m below meth c A Q ls C hQ hP hD hS hl
  have C : FX p s m _ meth c RX11 cX11_lowest 12 g ts A := C
  have hx := C.1
  have hb := C.2.1
  have hown := C.2.2.2.1
  have hts := C.2.2.2.2.1
  have hl : lv_has ls 12 [(0, .long p1), (2, .long p2), (4, .int p3)] := hl
  rw [f_X11_lowest] at hf
  refine lv_lload_n hx hb dX11_lowest_0 rfl (lv_at hl 1 rfl) ?_
  refine lv_lstore (lv' := [(5, .long p2), (0, .long p1), (2, .long p2), (4, .int p3)]) hx hb dX11_lowest_1 hl (by decide) rfl (fun ls hl => ?_)
  refine lv_lload_n hx hb dX11_lowest_3 rfl (lv_at hl 1 rfl) ?_
  refine lv_lstore (lv' := [(7, .long p1), (5, .long p2), (0, .long p1), (2, .long p2), (4, .int p3)]) hx hb dX11_lowest_4 hl (by decide) rfl (fun ls hl => ?_)
  refine lv_iconst (v := 0) hx hb dX11_lowest_6 (by decide) ?_
  refine lv_istore (lv' := [(9, .int (0 : Int32)), (7, .long p1), (5, .long p2), (0, .long p1), (2, .long p2), (4, .int p3)]) hx hb dX11_lowest_7 hl (by decide) rfl (fun ls hl => ?_)
  exact w_X11_lowest_b9 C hQ 256 _ _ _ _ _ _ _ _ _ hf hP hD hS (lv_sub hl [3, 4, 5, 2, 1, 0] rfl)
theorem dX11_ofTwelve_0 : decode cX11_ofTwelve 0 = .ok (.iload_n 0, 1) := by decide +kernel
theorem dX11_ofTwelve_1 : decode cX11_ofTwelve 1 = .ok (.ifCond .lt 13, 3) := by decide +kernel
theorem dX11_ofTwelve_4 : decode cX11_ofTwelve 4 = .ok (.iload_n 0, 1) := by decide +kernel
theorem dX11_ofTwelve_5 : decode cX11_ofTwelve 5 = .ok (.bipush 12, 2) := by decide +kernel
theorem dX11_ofTwelve_7 : decode cX11_ofTwelve 7 = .ok (.if_icmp .ge 7, 3) := by decide +kernel
theorem dX11_ofTwelve_10 : decode cX11_ofTwelve 10 = .ok (.iconst 1, 1) := by decide +kernel
theorem dX11_ofTwelve_11 : decode cX11_ofTwelve 11 = .ok (.goto 4, 3) := by decide +kernel
theorem dX11_ofTwelve_14 : decode cX11_ofTwelve 14 = .ok (.iconst 0, 1) := by decide +kernel
theorem dX11_ofTwelve_15 : decode cX11_ofTwelve 15 = .ok (.ireturn, 1) := by decide +kernel
def f_X11_ofTwelve0 (p1 : Int32) : Option Int32 := if p1 < 0 then (some (0 : Int32)) else (if (12 : Int32) ≤ p1 then (some (0 : Int32)) else (some (1 : Int32)))
def f_X11_ofTwelve (p1 : Int32) : Option Int32 := chkB1 (f_X11_ofTwelve0 p1)
set_option maxHeartbeats 4000000 in
set_option maxRecDepth 100000 in
theorem c_X11_ofTwelve {l : Launch} {g : va_G} {ts : ClassId × ClassId × ClassId} {wf : St → va_W} {σ : St} {p1 : Int32} {r : Int32} (hf : f_X11_ofTwelve p1 = some r) : ConI l g ts (wf) yX11_ofTwelve cX11_ofTwelve 1 (some .boolean) (rk 0 0) σ [.int p1] r σ := by
  rw [f_X11_ofTwelve] at hf
  obtain ⟨hf, hn⟩ := chkB1_some hf
  refine ConI_mk .boolean rfl hn rfl rfl (by decide) (Nat.le_of_ble_eq_true rfl) ?_
  intro p e s m below meth c A Q ls C hQ hP hD hS hl
  have C : FX p s m _ meth c RX11 cX11_ofTwelve 1 g ts A := C
  have hx := C.1
  have hb := C.2.1
  have hown := C.2.2.2.1
  have hts := C.2.2.2.2.1
  have hl : lv_has ls 1 [(0, .int p1)] := hl
  rw [f_X11_ofTwelve0] at hf
  refine lv_iload_n hx hb dX11_ofTwelve_0 rfl (lv_at hl 0 rfl) ?_
  refine lv_if_lt (tgt := 14) hx hb dX11_ofTwelve_1 (by decide) (fun c1 => ?_) (fun c1 => ?_)
  · replace hf := ipos c1 hf
    refine lv_iconst (v := 0) hx hb dX11_ofTwelve_14 (by decide) ?_
    exact retIp hQ hf dX11_ofTwelve_15 hP hD hS
  · replace hf := ineg c1 hf
    refine lv_iload_n hx hb dX11_ofTwelve_4 rfl (lv_at hl 0 rfl) ?_
    refine lv_bipush (v := 12) hx hb dX11_ofTwelve_5 (by decide) ?_
    refine lv_icmp_ge (tgt := 14) hx hb dX11_ofTwelve_7 (by decide) (fun c2 => ?_) (fun c2 => ?_)
    · replace hf := ipos c2 hf
      refine lv_iconst (v := 0) hx hb dX11_ofTwelve_14 (by decide) ?_
      exact retIp hQ hf dX11_ofTwelve_15 hP hD hS
    · replace hf := ineg c2 hf
      refine lv_iconst (v := 1) hx hb dX11_ofTwelve_10 (by decide) ?_
      refine lv_goto (tgt := 15) hx hb dX11_ofTwelve_11 (by decide) ?_
      exact retIp hQ hf dX11_ofTwelve_15 hP hD hS
