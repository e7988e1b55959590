theorem mv_X12_becomes : MV yX12_becomes cX12_becomes 5 (some .int) 2 := ⟨q_1256, q_20, q_71, q_1257, by decide +kernel, by decide +kernel, by decide +kernel⟩
theorem mv_X12_undo : MV yX12_undo cX12_undo 1 (some .int) 0 := ⟨q_1203, q_1204, q_71, q_1205, by decide +kernel, by decide +kernel, by decide +kernel⟩
theorem mv_X12_redo : MV yX12_redo cX12_redo 1 (some .int) 0 := ⟨q_1207, q_1208, q_71, q_1209, by decide +kernel, by decide +kernel, by decide +kernel⟩
theorem mv_X12_isName : MV yX12_isName cX12_isName 2 (some .boolean) 1 := ⟨q_1244, q_19, q_71, q_1245, by decide +kernel, by decide +kernel, by decide +kernel⟩
theorem mv_X12_at1 : MV yX12_at1 cX12_at1 3 (some .int) 2 := ⟨q_1268, q_21, q_71, q_1269, by decide +kernel, by decide +kernel, by decide +kernel⟩
theorem mv_X12_bytesIs : MV yX12_bytesIs cX12_bytesIs 2 (some .int) 1 := ⟨q_1224, q_16, q_71, q_1225, by decide +kernel, by decide +kernel, by decide +kernel⟩
theorem mv_X12_itemAt : MV yX12_itemAt cX12_itemAt 3 (some .long) 2 := ⟨q_1228, q_17, q_71, q_1229, by decide +kernel, by decide +kernel, by decide +kernel⟩
theorem mv_X12_name : MV yX12_name cX12_name 6 (some .int) 2 := ⟨q_1211, q_1212, q_71, q_1213, by decide +kernel, by decide +kernel, by decide +kernel⟩
theorem mv_X12_placeOf : MV yX12_placeOf cX12_placeOf 3 (some .int) 2 := ⟨q_1240, q_18, q_71, q_1241, by decide +kernel, by decide +kernel, by decide +kernel⟩
theorem mv_X12_mend : MV yX12_mend cX12_mend 5 (some .int) 3 := ⟨q_1235, q_1236, q_71, q_1237, by decide +kernel, by decide +kernel, by decide +kernel⟩
theorem mv_X12_of : MV yX12_of cX12_of 4 (some .int) 2 := ⟨q_1259, q_1260, q_71, q_1261, by decide +kernel, by decide +kernel, by decide +kernel⟩
theorem mv_X12_letter : MV yX12_letter cX12_letter 3 (some .int) 2 := ⟨q_1263, q_1264, q_71, q_1265, by decide +kernel, by decide +kernel, by decide +kernel⟩
theorem mv_X12_feed : MV yX12_feed cX12_feed 2 (some .int) 1 := ⟨q_1271, q_1272, q_71, q_1273, by decide +kernel, by decide +kernel, by decide +kernel⟩
theorem mv_X12_workOut : MV yX12_workOut cX12_workOut 8 (some .int) 2 := ⟨q_1281, q_22, q_71, q_1282, by decide +kernel, by decide +kernel, by decide +kernel⟩
theorem mv_X12_law : MV yX12_law cX12_law 4 (some .int) 0 := ⟨q_1276, q_1277, q_71, q_1278, by decide +kernel, by decide +kernel, by decide +kernel⟩
theorem mv_X12_asksWeights : MV yX12_asksWeights cX12_asksWeights 7 (some .int) 2 := ⟨q_1329, q_32, q_71, q_1330, by decide +kernel, by decide +kernel, by decide +kernel⟩
theorem mv_X12_partOfHeard : MV yX12_partOfHeard cX12_partOfHeard 6 (some .int) 3 := ⟨q_1351, q_35, q_71, q_1352, by decide +kernel, by decide +kernel, by decide +kernel⟩
theorem mv_X12_heard : MV yX12_heard cX12_heard 5 (some .long) 3 := ⟨q_1323, q_1324, q_71, q_1325, by decide +kernel, by decide +kernel, by decide +kernel⟩
theorem mv_X12_productOf : MV yX12_productOf cX12_productOf 6 (some .long) 2 := ⟨q_1347, q_34, q_71, q_1348, by decide +kernel, by decide +kernel, by decide +kernel⟩
theorem mv_X12_asksProducts : MV yX12_asksProducts cX12_asksProducts 5 (some .long) 1 := ⟨q_1343, q_33, q_71, q_1344, by decide +kernel, by decide +kernel, by decide +kernel⟩
theorem mv_X12_likely : MV yX12_likely cX12_likely 6 (some .long) 3 := ⟨q_1338, q_1339, q_71, q_1340, by decide +kernel, by decide +kernel, by decide +kernel⟩
theorem mv_X12_likeliestNow : MV yX12_likeliestNow cX12_likeliestNow 3 (some .int) 0 := ⟨q_1360, q_36, q_71, q_1361, by decide +kernel, by decide +kernel, by decide +kernel⟩
theorem mv_X12_likeliest : MV yX12_likeliest cX12_likeliest 2 (some .int) 1 := ⟨q_1355, q_1356, q_71, q_1357, by decide +kernel, by decide +kernel, by decide +kernel⟩
theorem dX12_becomes_0 : decode cX12_becomes 0 = .ok (.aload_n 0, 1) := by decide +kernel
theorem dX12_becomes_1 : decode cX12_becomes 1 = .ok (.getfield 11, 3) := by decide +kernel
theorem dX12_becomes_4 : decode cX12_becomes 4 = .ok (.iload_n 1, 1) := by decide +kernel
theorem dX12_becomes_5 : decode cX12_becomes 5 = .ok (.iaload, 1) := by decide +kernel
theorem dX12_becomes_6 : decode cX12_becomes 6 = .ok (.istore_n 3, 1) := by decide +kernel
theorem dX12_becomes_7 : decode cX12_becomes 7 = .ok (.iload_n 3, 1) := by decide +kernel
theorem dX12_becomes_8 : decode cX12_becomes 8 = .ok (.iload_n 2, 1) := by decide +kernel
theorem dX12_becomes_9 : decode cX12_becomes 9 = .ok (.if_icmp .ne 5, 3) := by decide +kernel
theorem dX12_becomes_12 : decode cX12_becomes 12 = .ok (.iload_n 3, 1) := by decide +kernel
theorem dX12_becomes_13 : decode cX12_becomes 13 = .ok (.ireturn, 1) := by decide +kernel
theorem dX12_becomes_14 : decode cX12_becomes 14 = .ok (.aload_n 0, 1) := by decide +kernel
theorem dX12_becomes_15 : decode cX12_becomes 15 = .ok (.getfield 83, 3) := by decide +kernel
theorem dX12_becomes_18 : decode cX12_becomes 18 = .ok (.bipush 40, 2) := by decide +kernel
theorem dX12_becomes_20 : decode cX12_becomes 20 = .ok (.if_icmp .ne 77, 3) := by decide +kernel
theorem dX12_becomes_23 : decode cX12_becomes 23 = .ok (.iconst 1, 1) := by decide +kernel
theorem dX12_becomes_24 : decode cX12_becomes 24 = .ok (.istore 4, 2) := by decide +kernel
theorem dX12_becomes_26 : decode cX12_becomes 26 = .ok (.iload 4, 2) := by decide +kernel
theorem dX12_becomes_28 : decode cX12_becomes 28 = .ok (.bipush 40, 2) := by decide +kernel
theorem dX12_becomes_30 : decode cX12_becomes 30 = .ok (.if_icmp .ge 57, 3) := by decide +kernel
theorem dX12_becomes_33 : decode cX12_becomes 33 = .ok (.aload_n 0, 1) := by decide +kernel
theorem dX12_becomes_34 : decode cX12_becomes 34 = .ok (.getfield 15, 3) := by decide +kernel
theorem dX12_becomes_37 : decode cX12_becomes 37 = .ok (.iload 4, 2) := by decide +kernel
theorem dX12_becomes_39 : decode cX12_becomes 39 = .ok (.iconst 1, 1) := by decide +kernel
theorem dX12_becomes_40 : decode cX12_becomes 40 = .ok (.isub, 1) := by decide +kernel
theorem dX12_becomes_41 : decode cX12_becomes 41 = .ok (.aload_n 0, 1) := by decide +kernel
theorem dX12_becomes_42 : decode cX12_becomes 42 = .ok (.getfield 15, 3) := by decide +kernel
theorem dX12_becomes_45 : decode cX12_becomes 45 = .ok (.iload 4, 2) := by decide +kernel
theorem dX12_becomes_47 : decode cX12_becomes 47 = .ok (.iaload, 1) := by decide +kernel
theorem dX12_becomes_48 : decode cX12_becomes 48 = .ok (.iastore, 1) := by decide +kernel
theorem dX12_becomes_49 : decode cX12_becomes 49 = .ok (.aload_n 0, 1) := by decide +kernel
theorem dX12_becomes_50 : decode cX12_becomes 50 = .ok (.getfield 18, 3) := by decide +kernel
theorem dX12_becomes_53 : decode cX12_becomes 53 = .ok (.iload 4, 2) := by decide +kernel
theorem dX12_becomes_55 : decode cX12_becomes 55 = .ok (.iconst 1, 1) := by decide +kernel
theorem dX12_becomes_56 : decode cX12_becomes 56 = .ok (.isub, 1) := by decide +kernel
theorem dX12_becomes_57 : decode cX12_becomes 57 = .ok (.aload_n 0, 1) := by decide +kernel
theorem dX12_becomes_58 : decode cX12_becomes 58 = .ok (.getfield 18, 3) := by decide +kernel
theorem dX12_becomes_61 : decode cX12_becomes 61 = .ok (.iload 4, 2) := by decide +kernel
theorem dX12_becomes_63 : decode cX12_becomes 63 = .ok (.iaload, 1) := by decide +kernel
theorem dX12_becomes_64 : decode cX12_becomes 64 = .ok (.iastore, 1) := by decide +kernel
theorem dX12_becomes_65 : decode cX12_becomes 65 = .ok (.aload_n 0, 1) := by decide +kernel
theorem dX12_becomes_66 : decode cX12_becomes 66 = .ok (.getfield 21, 3) := by decide +kernel
theorem dX12_becomes_69 : decode cX12_becomes 69 = .ok (.iload 4, 2) := by decide +kernel
theorem dX12_becomes_71 : decode cX12_becomes 71 = .ok (.iconst 1, 1) := by decide +kernel
theorem dX12_becomes_72 : decode cX12_becomes 72 = .ok (.isub, 1) := by decide +kernel
theorem dX12_becomes_73 : decode cX12_becomes 73 = .ok (.aload_n 0, 1) := by decide +kernel
theorem dX12_becomes_74 : decode cX12_becomes 74 = .ok (.getfield 21, 3) := by decide +kernel
theorem dX12_becomes_77 : decode cX12_becomes 77 = .ok (.iload 4, 2) := by decide +kernel
theorem dX12_becomes_79 : decode cX12_becomes 79 = .ok (.iaload, 1) := by decide +kernel
theorem dX12_becomes_80 : decode cX12_becomes 80 = .ok (.iastore, 1) := by decide +kernel
theorem dX12_becomes_81 : decode cX12_becomes 81 = .ok (.iinc 4 1, 3) := by decide +kernel
theorem dX12_becomes_84 : decode cX12_becomes 84 = .ok (.goto (-58), 3) := by decide +kernel
theorem dX12_becomes_87 : decode cX12_becomes 87 = .ok (.aload_n 0, 1) := by decide +kernel
theorem dX12_becomes_88 : decode cX12_becomes 88 = .ok (.dup, 1) := by decide +kernel
theorem dX12_becomes_89 : decode cX12_becomes 89 = .ok (.getfield 83, 3) := by decide +kernel
theorem dX12_becomes_92 : decode cX12_becomes 92 = .ok (.iconst 1, 1) := by decide +kernel
theorem dX12_becomes_93 : decode cX12_becomes 93 = .ok (.isub, 1) := by decide +kernel
theorem dX12_becomes_94 : decode cX12_becomes 94 = .ok (.putfield 83, 3) := by decide +kernel
theorem dX12_becomes_97 : decode cX12_becomes 97 = .ok (.aload_n 0, 1) := by decide +kernel
theorem dX12_becomes_98 : decode cX12_becomes 98 = .ok (.getfield 15, 3) := by decide +kernel
theorem dX12_becomes_101 : decode cX12_becomes 101 = .ok (.aload_n 0, 1) := by decide +kernel
theorem dX12_becomes_102 : decode cX12_becomes 102 = .ok (.getfield 83, 3) := by decide +kernel
theorem dX12_becomes_105 : decode cX12_becomes 105 = .ok (.iload_n 1, 1) := by decide +kernel
theorem dX12_becomes_106 : decode cX12_becomes 106 = .ok (.iastore, 1) := by decide +kernel
theorem dX12_becomes_107 : decode cX12_becomes 107 = .ok (.aload_n 0, 1) := by decide +kernel
theorem dX12_becomes_108 : decode cX12_becomes 108 = .ok (.getfield 18, 3) := by decide +kernel
theorem dX12_becomes_111 : decode cX12_becomes 111 = .ok (.aload_n 0, 1) := by decide +kernel
theorem dX12_becomes_112 : decode cX12_becomes 112 = .ok (.getfield 83, 3) := by decide +kernel
theorem dX12_becomes_115 : decode cX12_becomes 115 = .ok (.iload_n 3, 1) := by decide +kernel
theorem dX12_becomes_116 : decode cX12_becomes 116 = .ok (.iastore, 1) := by decide +kernel
theorem dX12_becomes_117 : decode cX12_becomes 117 = .ok (.aload_n 0, 1) := by decide +kernel
theorem dX12_becomes_118 : decode cX12_becomes 118 = .ok (.getfield 21, 3) := by decide +kernel
theorem dX12_becomes_121 : decode cX12_becomes 121 = .ok (.aload_n 0, 1) := by decide +kernel
theorem dX12_becomes_122 : decode cX12_becomes 122 = .ok (.getfield 83, 3) := by decide +kernel
theorem dX12_becomes_125 : decode cX12_becomes 125 = .ok (.iload_n 2, 1) := by decide +kernel
theorem dX12_becomes_126 : decode cX12_becomes 126 = .ok (.iastore, 1) := by decide +kernel
theorem dX12_becomes_127 : decode cX12_becomes 127 = .ok (.aload_n 0, 1) := by decide +kernel
theorem dX12_becomes_128 : decode cX12_becomes 128 = .ok (.dup, 1) := by decide +kernel
theorem dX12_becomes_129 : decode cX12_becomes 129 = .ok (.getfield 83, 3) := by decide +kernel
theorem dX12_becomes_132 : decode cX12_becomes 132 = .ok (.iconst 1, 1) := by decide +kernel
theorem dX12_becomes_133 : decode cX12_becomes 133 = .ok (.iadd, 1) := by decide +kernel
theorem dX12_becomes_134 : decode cX12_becomes 134 = .ok (.putfield 83, 3) := by decide +kernel
theorem dX12_becomes_137 : decode cX12_becomes 137 = .ok (.aload_n 0, 1) := by decide +kernel
theorem dX12_becomes_138 : decode cX12_becomes 138 = .ok (.aload_n 0, 1) := by decide +kernel
theorem dX12_becomes_139 : decode cX12_becomes 139 = .ok (.getfield 83, 3) := by decide +kernel
theorem dX12_becomes_142 : decode cX12_becomes 142 = .ok (.putfield 86, 3) := by decide +kernel
theorem dX12_becomes_145 : decode cX12_becomes 145 = .ok (.aload_n 0, 1) := by decide +kernel
theorem dX12_becomes_146 : decode cX12_becomes 146 = .ok (.getfield 11, 3) := by decide +kernel
theorem dX12_becomes_149 : decode cX12_becomes 149 = .ok (.iload_n 1, 1) := by decide +kernel
theorem dX12_becomes_150 : decode cX12_becomes 150 = .ok (.iload_n 2, 1) := by decide +kernel
theorem dX12_becomes_151 : decode cX12_becomes 151 = .ok (.iastore, 1) := by decide +kernel
theorem dX12_becomes_152 : decode cX12_becomes 152 = .ok (.iload_n 3, 1) := by decide +kernel
theorem dX12_becomes_153 : decode cX12_becomes 153 = .ok (.ireturn, 1) := by decide +kernel
def f_X12_becomes_b97 (σ : St) (x1 : Int32) (x2 : Int32) (x3 : Int32) : Option (Int32 × St) := chk (σ.1 605 0 < 0 ∨ 40 ≤ (σ.1 605 0).toNatClampNeg) (bnd (sA σ 601 0 (upd (σ.2.2.1 601 0) (σ.1 605 0).toNatClampNeg x1)) (fun σ6 => chk (σ6.1 605 0 < 0 ∨ 40 ≤ (σ6.1 605 0).toNatClampNeg) (bnd (sA σ6 602 0 (upd (σ6.2.2.1 602 0) (σ6.1 605 0).toNatClampNeg x3)) (fun σ8 => chk (σ8.1 605 0 < 0 ∨ 40 ≤ (σ8.1 605 0).toNatClampNeg) (bnd (sA σ8 603 0 (upd (σ8.2.2.1 603 0) (σ8.1 605 0).toNatClampNeg x2)) (fun σ10 => bnd (sI (sI σ10 605 0 ((σ10.1 605 0) + (1 : Int32))) 604 0 ((sI σ10 605 0 ((σ10.1 605 0) + (1 : Int32))).1 605 0)) (fun σ11 => chk (x1 < 0 ∨ 179 ≤ x1.toNatClampNeg) (bnd (sA σ11 600 0 (upd (σ11.2.2.1 600 0) x1.toNatClampNeg x2)) (fun σ13 => some (x3, σ13))))))))))
def f_X12_becomes_b26 : Nat → St → Int32 → Int32 → Int32 → Int32 → Option (Int32 × St)
  | 0, _, _, _, _, _ => none
  | n + 1, σ, x1, x2, x3, x4 => if (40 : Int32) ≤ x4 then (f_X12_becomes_b97 (sI σ 605 0 ((σ.1 605 0) - (1 : Int32))) x1 x2 x3) else (chk (x4 < 0 ∨ 40 ≤ x4.toNatClampNeg) (chk (x4 - (1 : Int32) < 0 ∨ 40 ≤ (x4 - (1 : Int32)).toNatClampNeg) (bnd (sA σ 601 0 (upd (σ.2.2.1 601 0) (x4 - (1 : Int32)).toNatClampNeg (σ.2.2.1 601 0 x4.toNatClampNeg))) (fun σ17 => chk (x4 < 0 ∨ 40 ≤ x4.toNatClampNeg) (chk (x4 - (1 : Int32) < 0 ∨ 40 ≤ (x4 - (1 : Int32)).toNatClampNeg) (bnd (sA σ17 602 0 (upd (σ17.2.2.1 602 0) (x4 - (1 : Int32)).toNatClampNeg (σ17.2.2.1 602 0 x4.toNatClampNeg))) (fun σ20 => chk (x4 < 0 ∨ 40 ≤ x4.toNatClampNeg) (chk (x4 - (1 : Int32) < 0 ∨ 40 ≤ (x4 - (1 : Int32)).toNatClampNeg) (bnd (sA σ20 603 0 (upd (σ20.2.2.1 603 0) (x4 - (1 : Int32)).toNatClampNeg (σ20.2.2.1 603 0 x4.toNatClampNeg))) (fun σ23 => bnd (x4 + 1) (fun v24 => f_X12_becomes_b26 n σ23 x1 x2 x3 v24)))))))))))
def f_X12_becomes (σ : St) (p1 : Int32) (p2 : Int32) : Option (Int32 × St) := chk (p1 < 0 ∨ 179 ≤ p1.toNatClampNeg) (bnd (σ.2.2.1 600 0 p1.toNatClampNeg) (fun v2 => if v2 = p2 then (some (v2, σ)) else (if σ.1 605 0 = (40 : Int32) then (f_X12_becomes_b26 256 σ p1 p2 v2 (1 : Int32)) else (f_X12_becomes_b97 σ p1 p2 v2))))
set_option maxHeartbeats 4000000 in
set_option maxRecDepth 100000 in
theorem w_X12_becomes_b97 {p : Program} {l : Launch} {e : Env} {s : State} {m : MethodId} {args : Array Value} {below : List Frame} {meth : Method} {c : Code} {g : va_G} {ts : ClassId × ClassId × ClassId} {A : Nat → Prop} {Q : State → Prop} {a : Nat → Nat} {r : Int32} {σ' : St} (C : FX p s m args meth c RX12 cX12_becomes 5 g ts A) (hQ : RetI p l e (rk 0 0) s m args below meth c cX12_becomes g (WM ts a) A r σ' Q) : ∀ (σ : St) (x1 : Int32) (x2 : Int32) (x3 : Int32) (H : Heap) (locs : List Loc) (ls : Array Slot), f_X12_becomes_b97 σ x1 x2 x3 = some (r, σ') → va_P g classes (WM ts a σ) H → va_D A (WM ts a σ) → va_S A s.heap H locs → lv_has ls 5 [(0, .ref (a 0)), (1, .int x1), (2, .int x2), (3, .int x3)] → W p l e (rk 0 0) s m args below meth c H locs 0 0 Q (F0 m 97 ls []) := by
  have hx := C.1
  have hb := C.2.1
  have hown := C.2.2.2.1
  have hts := C.2.2.2.2.1
  intro σ x1 x2 x3 H locs ls hf hP hD hS hl
  rw [f_X12_becomes_b97] at hf
  refine lv_aload_n hx hb dX12_becomes_97 rfl (lv_at hl 0 rfl) ?_
  refine G_X12_changeAt C hP q_1073 dX12_becomes_98 ?_
  refine lv_aload_n hx hb dX12_becomes_101 rfl (lv_at hl 0 rfl) ?_
  refine G_X12_done C hP q_1077 dX12_becomes_102 ?_
  refine lv_iload_n hx hb dX12_becomes_105 rfl (lv_at hl 1 rfl) ?_
  obtain ⟨h5, hf⟩ := chk_some hf
  refine AS_X12_changeAt C hP hD hS h5 dX12_becomes_106 (fun H locs hP hD hS => ?_)
  refine nameS hP hD hf (fun σ6 hP hD hf => ?_)
  refine lv_aload_n hx hb dX12_becomes_107 rfl (lv_at hl 0 rfl) ?_
  refine G_X12_changeWas C hP q_1074 dX12_becomes_108 ?_
  refine lv_aload_n hx hb dX12_becomes_111 rfl (lv_at hl 0 rfl) ?_
  refine G_X12_done C hP q_1077 dX12_becomes_112 ?_
  refine lv_iload_n hx hb dX12_becomes_115 rfl (lv_at hl 3 rfl) ?_
  obtain ⟨h7, hf⟩ := chk_some hf
  refine AS_X12_changeWas C hP hD hS h7 dX12_becomes_116 (fun H locs hP hD hS => ?_)
  refine nameS hP hD hf (fun σ8 hP hD hf => ?_)
  refine lv_aload_n hx hb dX12_becomes_117 rfl (lv_at hl 0 rfl) ?_
  refine G_X12_changeIs C hP q_1075 dX12_becomes_118 ?_
  refine lv_aload_n hx hb dX12_becomes_121 rfl (lv_at hl 0 rfl) ?_
  refine G_X12_done C hP q_1077 dX12_becomes_122 ?_
  refine lv_iload_n hx hb dX12_becomes_125 rfl (lv_at hl 2 rfl) ?_
  obtain ⟨h9, hf⟩ := chk_some hf
  refine AS_X12_changeIs C hP hD hS h9 dX12_becomes_126 (fun H locs hP hD hS => ?_)
  refine nameS hP hD hf (fun σ10 hP hD hf => ?_)
  refine lv_aload_n hx hb dX12_becomes_127 rfl (lv_at hl 0 rfl) ?_
  refine lv_dup hx hb dX12_becomes_128 rfl ?_
  refine G_X12_done C hP q_1077 dX12_becomes_129 ?_
  refine lv_iconst (v := 1) hx hb dX12_becomes_132 (by decide) ?_
  refine lv_iadd hx hb dX12_becomes_133 ?_
  refine S_X12_done C hP hD hS q_1077 dX12_becomes_134 (fun H locs hP hD hS => ?_)
  refine lv_aload_n hx hb dX12_becomes_137 rfl (lv_at hl 0 rfl) ?_
  refine lv_aload_n hx hb dX12_becomes_138 rfl (lv_at hl 0 rfl) ?_
  refine G_X12_done C hP q_1077 dX12_becomes_139 ?_
  refine S_X12_keptMany C hP hD hS q_1076 dX12_becomes_142 (fun H locs hP hD hS => ?_)
  refine nameS hP hD hf (fun σ11 hP hD hf => ?_)
  refine lv_aload_n hx hb dX12_becomes_145 rfl (lv_at hl 0 rfl) ?_
  refine G_X12_may C hP q_1072 dX12_becomes_146 ?_
  refine lv_iload_n hx hb dX12_becomes_149 rfl (lv_at hl 1 rfl) ?_
  refine lv_iload_n hx hb dX12_becomes_150 rfl (lv_at hl 2 rfl) ?_
  obtain ⟨h12, hf⟩ := chk_some hf
  refine AS_X12_may C hP hD hS h12 dX12_becomes_151 (fun H locs hP hD hS => ?_)
  refine nameS hP hD hf (fun σ13 hP hD hf => ?_)
  refine lv_iload_n hx hb dX12_becomes_152 rfl (lv_at hl 3 rfl) ?_
  exact retI hQ hf dX12_becomes_153 hP hD hS
set_option maxHeartbeats 4000000 in
set_option maxRecDepth 100000 in
theorem w_X12_becomes_b26 {p : Program} {l : Launch} {e : Env} {s : State} {m : MethodId} {args : Array Value} {below : List Frame} {meth : Method} {c : Code} {g : va_G} {ts : ClassId × ClassId × ClassId} {A : Nat → Prop} {Q : State → Prop} {a : Nat → Nat} {r : Int32} {σ' : St} (C : FX p s m args meth c RX12 cX12_becomes 5 g ts A) (hQ : RetI p l e (rk 0 0) s m args below meth c cX12_becomes g (WM ts a) A r σ' Q) : ∀ (n : Nat) (σ : St) (x1 : Int32) (x2 : Int32) (x3 : Int32) (x4 : Int32) (H : Heap) (locs : List Loc) (ls : Array Slot), f_X12_becomes_b26 n σ x1 x2 x3 x4 = some (r, σ') → va_P g classes (WM ts a σ) H → va_D A (WM ts a σ) → va_S A s.heap H locs → lv_has ls 5 [(0, .ref (a 0)), (1, .int x1), (2, .int x2), (3, .int x3), (4, .int x4)] → W p l e (rk 0 0) s m args below meth c H locs 0 0 Q (F0 m 26 ls []) := by
  have hx := C.1
  have hb := C.2.1
  have hown := C.2.2.2.1
  have hts := C.2.2.2.2.1
  intro n
  induction n with
  | zero =>
    intro σ x1 x2 x3 x4 H locs ls hf
    cases hf
  | succ n ih =>
    intro σ x1 x2 x3 x4 H locs ls hf hP hD hS hl
    rw [f_X12_becomes_b26] at hf
    refine lv_iload hx hb dX12_becomes_26 (lv_at hl 4 rfl) ?_
    refine lv_bipush (v := 40) hx hb dX12_becomes_28 (by decide) ?_
    refine lv_icmp_ge (tgt := 87) hx hb dX12_becomes_30 (by decide) (fun c14 => ?_) (fun c14 => ?_)
    · replace hf := ipos c14 hf
      refine lv_aload_n hx hb dX12_becomes_87 rfl (lv_at hl 0 rfl) ?_
      refine lv_dup hx hb dX12_becomes_88 rfl ?_
      refine G_X12_done C hP q_1077 dX12_becomes_89 ?_
      refine lv_iconst (v := 1) hx hb dX12_becomes_92 (by decide) ?_
      refine lv_isub hx hb dX12_becomes_93 ?_
      refine S_X12_done C hP hD hS q_1077 dX12_becomes_94 (fun H locs hP hD hS => ?_)
      exact w_X12_becomes_b97 C hQ _ _ _ _ _ _ _ hf hP hD hS (lv_sub hl [0, 1, 2, 3] rfl)
    · replace hf := ineg c14 hf
      refine lv_aload_n hx hb dX12_becomes_33 rfl (lv_at hl 0 rfl) ?_
      refine G_X12_changeAt C hP q_1073 dX12_becomes_34 ?_
      refine lv_iload hx hb dX12_becomes_37 (lv_at hl 4 rfl) ?_
      refine lv_iconst (v := 1) hx hb dX12_becomes_39 (by decide) ?_
      refine lv_isub hx hb dX12_becomes_40 ?_
      refine lv_aload_n hx hb dX12_becomes_41 rfl (lv_at hl 0 rfl) ?_
      refine G_X12_changeAt C hP q_1073 dX12_becomes_42 ?_
      refine lv_iload hx hb dX12_becomes_45 (lv_at hl 4 rfl) ?_
      obtain ⟨h15, hf⟩ := chk_some hf
      refine AL_X12_changeAt C hP h15 dX12_becomes_47 ?_
      obtain ⟨h16, hf⟩ := chk_some hf
      refine AS_X12_changeAt C hP hD hS h16 dX12_becomes_48 (fun H locs hP hD hS => ?_)
      refine nameS hP hD hf (fun σ17 hP hD hf => ?_)
      refine lv_aload_n hx hb dX12_becomes_49 rfl (lv_at hl 0 rfl) ?_
      refine G_X12_changeWas C hP q_1074 dX12_becomes_50 ?_
      refine lv_iload hx hb dX12_becomes_53 (lv_at hl 4 rfl) ?_
      refine lv_iconst (v := 1) hx hb dX12_becomes_55 (by decide) ?_
      refine lv_isub hx hb dX12_becomes_56 ?_
      refine lv_aload_n hx hb dX12_becomes_57 rfl (lv_at hl 0 rfl) ?_
      refine G_X12_changeWas C hP q_1074 dX12_becomes_58 ?_
      refine lv_iload hx hb dX12_becomes_61 (lv_at hl 4 rfl) ?_
      obtain ⟨h18, hf⟩ := chk_some hf
      refine AL_X12_changeWas C hP h18 dX12_becomes_63 ?_
      obtain ⟨h19, hf⟩ := chk_some hf
      refine AS_X12_changeWas C hP hD hS h19 dX12_becomes_64 (fun H locs hP hD hS => ?_)
      refine nameS hP hD hf (fun σ20 hP hD hf => ?_)
      refine lv_aload_n hx hb dX12_becomes_65 rfl (lv_at hl 0 rfl) ?_
      refine G_X12_changeIs C hP q_1075 dX12_becomes_66 ?_
      refine lv_iload hx hb dX12_becomes_69 (lv_at hl 4 rfl) ?_
      refine lv_iconst (v := 1) hx hb dX12_becomes_71 (by decide) ?_
      refine lv_isub hx hb dX12_becomes_72 ?_
      refine lv_aload_n hx hb dX12_becomes_73 rfl (lv_at hl 0 rfl) ?_
      refine G_X12_changeIs C hP q_1075 dX12_becomes_74 ?_
      refine lv_iload hx hb dX12_becomes_77 (lv_at hl 4 rfl) ?_
      obtain ⟨h21, hf⟩ := chk_some hf
      refine AL_X12_changeIs C hP h21 dX12_becomes_79 ?_
      obtain ⟨h22, hf⟩ := chk_some hf
      refine AS_X12_changeIs C hP hD hS h22 dX12_becomes_80 (fun H locs hP hD hS => ?_)
      refine nameS hP hD hf (fun σ23 hP hD hf => ?_)
      obtain ⟨v24, ev24⟩ : ∃ z : Int32, z = x4 + 1 := ⟨_, rfl⟩
      replace hf := bnd_at ev24 hf
      refine lv_iinc (v := v24) (lv' := [(4, .int v24), (0, .ref (a 0)), (1, .int x1), (2, .int x2), (3, .int x3)]) hx hb dX12_becomes_81 hl (k := 4) rfl (by rw [ev24]; rfl) (by decide) rfl (fun ls hl => ?_)
      refine lv_goto (tgt := 26) hx hb dX12_becomes_84 (by decide) ?_
      exact ih _ _ _ _ _ _ _ _ hf hP hD hS (lv_sub hl [1, 2, 3, 4, 0] rfl)
set_option maxHeartbeats 4000000 in
set_option maxRecDepth 100000 in
theorem c_X12_becomes {l : Launch} {g : va_G} {ts : ClassId × ClassId × ClassId} {a : Nat → Nat} {σ : St} {p1 : Int32} {p2 : Int32} {r : Int32} {σ' : St} (hf : f_X12_becomes σ p1 p2 = some (r, σ')) : ConI l g ts (WM ts a) yX12_becomes cX12_becomes 5 (some .int) (rk 0 0) σ [.ref (a 0), .int p1, .int p2] r σ' := by
  refine ConI_mk .int rfl rfl rfl rfl (by decide) (Nat.le_of_ble_eq_true rfl) ?_
  intro p e s m below meth c A Q ls C hQ hP hD hS hl
  have C : FX p s m _ meth c RX12 cX12_becomes 5 g ts A := C
  have hx := C.1
  have hb := C.2.1
  have hown := C.2.2.2.1
  have hts := C.2.2.2.2.1
  have hl : lv_has ls 5 [(0, .ref (a 0)), (1, .int p1), (2, .int p2)] := hl
  rw [f_X12_becomes] at hf
  refine lv_aload_n hx hb dX12_becomes_0 rfl (lv_at hl 0 rfl) ?_
  refine G_X12_may C hP q_1072 dX12_becomes_1 ?_
  refine lv_iload_n hx hb dX12_becomes_4 rfl (lv_at hl 1 rfl) ?_
  obtain ⟨h1, hf⟩ := chk_some hf
  refine AL_X12_may C hP h1 dX12_becomes_5 ?_
  refine lv_topi (fun v2 ev2 => ?_)
  replace hf := bnd_at ev2 hf
  refine lv_istore_n (lv' := [(3, .int v2), (0, .ref (a 0)), (1, .int p1), (2, .int p2)]) hx hb dX12_becomes_6 rfl hl (by decide) rfl (fun ls hl => ?_)
  refine lv_iload_n hx hb dX12_becomes_7 rfl (lv_at hl 0 rfl) ?_
  refine lv_iload_n hx hb dX12_becomes_8 rfl (lv_at hl 3 rfl) ?_
  refine lv_icmp_ne (tgt := 14) hx hb dX12_becomes_9 (by decide) (fun c3 => ?_) (fun c3 => ?_)
  · replace hf := ineg c3 hf
    refine lv_aload_n hx hb dX12_becomes_14 rfl (lv_at hl 1 rfl) ?_
    refine G_X12_done C hP q_1077 dX12_becomes_15 ?_
    refine lv_bipush (v := 40) hx hb dX12_becomes_18 (by decide) ?_
    refine lv_icmp_ne (tgt := 97) hx hb dX12_becomes_20 (by decide) (fun c4 => ?_) (fun c4 => ?_)
    · replace hf := ineg c4 hf
      exact w_X12_becomes_b97 C hQ _ _ _ _ _ _ _ hf hP hD hS (lv_sub hl [1, 2, 3, 0] rfl)
    · replace hf := ipos c4 hf
      refine lv_iconst (v := 1) hx hb dX12_becomes_23 (by decide) ?_
      refine lv_istore (lv' := [(4, .int (1 : Int32)), (3, .int v2), (0, .ref (a 0)), (1, .int p1), (2, .int p2)]) hx hb dX12_becomes_24 hl (by decide) rfl (fun ls hl => ?_)
      exact w_X12_becomes_b26 C hQ 256 _ _ _ _ _ _ _ _ hf hP hD hS (lv_sub hl [2, 3, 4, 1, 0] rfl)
  · replace hf := ipos c3 hf
    refine lv_iload_n hx hb dX12_becomes_12 rfl (lv_at hl 0 rfl) ?_
    exact retI hQ hf dX12_becomes_13 hP hD hS
theorem dX12_undo_0 : decode cX12_undo 0 = .ok (.aload_n 0, 1) := by decide +kernel
theorem dX12_undo_1 : decode cX12_undo 1 = .ok (.getfield 83, 3) := by decide +kernel
theorem dX12_undo_4 : decode cX12_undo 4 = .ok (.ifCond .ne 6, 3) := by decide +kernel
theorem dX12_undo_7 : decode cX12_undo 7 = .ok (.bipush (-5), 2) := by decide +kernel
theorem dX12_undo_9 : decode cX12_undo 9 = .ok (.ireturn, 1) := by decide +kernel
theorem dX12_undo_10 : decode cX12_undo 10 = .ok (.aload_n 0, 1) := by decide +kernel
theorem dX12_undo_11 : decode cX12_undo 11 = .ok (.dup, 1) := by decide +kernel
theorem dX12_undo_12 : decode cX12_undo 12 = .ok (.getfield 83, 3) := by decide +kernel
theorem dX12_undo_15 : decode cX12_undo 15 = .ok (.iconst 1, 1) := by decide +kernel
theorem dX12_undo_16 : decode cX12_undo 16 = .ok (.isub, 1) := by decide +kernel
theorem dX12_undo_17 : decode cX12_undo 17 = .ok (.putfield 83, 3) := by decide +kernel
theorem dX12_undo_20 : decode cX12_undo 20 = .ok (.aload_n 0, 1) := by decide +kernel
theorem dX12_undo_21 : decode cX12_undo 21 = .ok (.getfield 11, 3) := by decide +kernel
theorem dX12_undo_24 : decode cX12_undo 24 = .ok (.aload_n 0, 1) := by decide +kernel
theorem dX12_undo_25 : decode cX12_undo 25 = .ok (.getfield 15, 3) := by decide +kernel
theorem dX12_undo_28 : decode cX12_undo 28 = .ok (.aload_n 0, 1) := by decide +kernel
theorem dX12_undo_29 : decode cX12_undo 29 = .ok (.getfield 83, 3) := by decide +kernel
theorem dX12_undo_32 : decode cX12_undo 32 = .ok (.iaload, 1) := by decide +kernel
theorem dX12_undo_33 : decode cX12_undo 33 = .ok (.aload_n 0, 1) := by decide +kernel
theorem dX12_undo_34 : decode cX12_undo 34 = .ok (.getfield 18, 3) := by decide +kernel
theorem dX12_undo_37 : decode cX12_undo 37 = .ok (.aload_n 0, 1) := by decide +kernel
theorem dX12_undo_38 : decode cX12_undo 38 = .ok (.getfield 83, 3) := by decide +kernel
theorem dX12_undo_41 : decode cX12_undo 41 = .ok (.iaload, 1) := by decide +kernel
theorem dX12_undo_42 : decode cX12_undo 42 = .ok (.iastore, 1) := by decide +kernel
theorem dX12_undo_43 : decode cX12_undo 43 = .ok (.aload_n 0, 1) := by decide +kernel
theorem dX12_undo_44 : decode cX12_undo 44 = .ok (.getfield 83, 3) := by decide +kernel
theorem dX12_undo_47 : decode cX12_undo 47 = .ok (.ireturn, 1) := by decide +kernel
def f_X12_undo (σ : St) : Option (Int32 × St) := if σ.1 605 0 = 0 then (some ((-5 : Int32), σ)) else (chk ((sI σ 605 0 ((σ.1 605 0) - (1 : Int32))).1 605 0 < 0 ∨ 40 ≤ ((sI σ 605 0 ((σ.1 605 0) - (1 : Int32))).1 605 0).toNatClampNeg) (chk ((sI σ 605 0 ((σ.1 605 0) - (1 : Int32))).1 605 0 < 0 ∨ 40 ≤ ((sI σ 605 0 ((σ.1 605 0) - (1 : Int32))).1 605 0).toNatClampNeg) (chk ((sI σ 605 0 ((σ.1 605 0) - (1 : Int32))).2.2.1 601 0 ((sI σ 605 0 ((σ.1 605 0) - (1 : Int32))).1 605 0).toNatClampNeg < 0 ∨ 179 ≤ ((sI σ 605 0 ((σ.1 605 0) - (1 : Int32))).2.2.1 601 0 ((sI σ 605 0 ((σ.1 605 0) - (1 : Int32))).1 605 0).toNatClampNeg).toNatClampNeg) (bnd (sA (sI σ 605 0 ((σ.1 605 0) - (1 : Int32))) 600 0 (upd ((sI σ 605 0 ((σ.1 605 0) - (1 : Int32))).2.2.1 600 0) ((sI σ 605 0 ((σ.1 605 0) - (1 : Int32))).2.2.1 601 0 ((sI σ 605 0 ((σ.1 605 0) - (1 : Int32))).1 605 0).toNatClampNeg).toNatClampNeg ((sI σ 605 0 ((σ.1 605 0) - (1 : Int32))).2.2.1 602 0 ((sI σ 605 0 ((σ.1 605 0) - (1 : Int32))).1 605 0).toNatClampNeg))) (fun σ5 => some (σ5.1 605 0, σ5))))))
set_option maxHeartbeats 4000000 in
set_option maxRecDepth 100000 in
theorem c_X12_undo {l : Launch} {g : va_G} {ts : ClassId × ClassId × ClassId} {a : Nat → Nat} {σ : St} {r : Int32} {σ' : St} (hf : f_X12_undo σ = some (r, σ')) : ConI l g ts (WM ts a) yX12_undo cX12_undo 1 (some .int) (rk 0 0) σ [.ref (a 0)] r σ' := by
  refine ConI_mk .int rfl rfl rfl rfl (by decide) (Nat.le_of_ble_eq_true rfl) ?_
  intro p e s m below meth c A Q ls C hQ hP hD hS hl
  have C : FX p s m _ meth c RX12 cX12_undo 1 g ts A := C
  have hx := C.1
  have hb := C.2.1
  have hown := C.2.2.2.1
  have hts := C.2.2.2.2.1
  have hl : lv_has ls 1 [(0, .ref (a 0))] := hl
  rw [f_X12_undo] at hf
  refine lv_aload_n hx hb dX12_undo_0 rfl (lv_at hl 0 rfl) ?_
  refine G_X12_done C hP q_1077 dX12_undo_1 ?_
  refine lv_if_ne (tgt := 10) hx hb dX12_undo_4 (by decide) (fun c1 => ?_) (fun c1 => ?_)
  · replace hf := ineg c1 hf
    refine lv_aload_n hx hb dX12_undo_10 rfl (lv_at hl 0 rfl) ?_
    refine lv_dup hx hb dX12_undo_11 rfl ?_
    refine G_X12_done C hP q_1077 dX12_undo_12 ?_
    refine lv_iconst (v := 1) hx hb dX12_undo_15 (by decide) ?_
    refine lv_isub hx hb dX12_undo_16 ?_
    refine S_X12_done C hP hD hS q_1077 dX12_undo_17 (fun H locs hP hD hS => ?_)
    refine lv_aload_n hx hb dX12_undo_20 rfl (lv_at hl 0 rfl) ?_
    refine G_X12_may C hP q_1072 dX12_undo_21 ?_
    refine lv_aload_n hx hb dX12_undo_24 rfl (lv_at hl 0 rfl) ?_
    refine G_X12_changeAt C hP q_1073 dX12_undo_25 ?_
    refine lv_aload_n hx hb dX12_undo_28 rfl (lv_at hl 0 rfl) ?_
    refine G_X12_done C hP q_1077 dX12_undo_29 ?_
    obtain ⟨h2, hf⟩ := chk_some hf
    refine AL_X12_changeAt C hP h2 dX12_undo_32 ?_
    refine lv_aload_n hx hb dX12_undo_33 rfl (lv_at hl 0 rfl) ?_
    refine G_X12_changeWas C hP q_1074 dX12_undo_34 ?_
    refine lv_aload_n hx hb dX12_undo_37 rfl (lv_at hl 0 rfl) ?_
    refine G_X12_done C hP q_1077 dX12_undo_38 ?_
    obtain ⟨h3, hf⟩ := chk_some hf
    refine AL_X12_changeWas C hP h3 dX12_undo_41 ?_
    obtain ⟨h4, hf⟩ := chk_some hf
    refine AS_X12_may C hP hD hS h4 dX12_undo_42 (fun H locs hP hD hS => ?_)
    refine nameS hP hD hf (fun σ5 hP hD hf => ?_)
    refine lv_aload_n hx hb dX12_undo_43 rfl (lv_at hl 0 rfl) ?_
    refine G_X12_done C hP q_1077 dX12_undo_44 ?_
    exact retI hQ hf dX12_undo_47 hP hD hS
  · replace hf := ipos c1 hf
    refine lv_bipush (v := -5) hx hb dX12_undo_7 (by decide) ?_
    exact retI hQ hf dX12_undo_9 hP hD hS
theorem dX12_redo_0 : decode cX12_redo 0 = .ok (.aload_n 0, 1) := by decide +kernel
theorem dX12_redo_1 : decode cX12_redo 1 = .ok (.getfield 83, 3) := by decide +kernel
theorem dX12_redo_4 : decode cX12_redo 4 = .ok (.aload_n 0, 1) := by decide +kernel
theorem dX12_redo_5 : decode cX12_redo 5 = .ok (.getfield 86, 3) := by decide +kernel
theorem dX12_redo_8 : decode cX12_redo 8 = .ok (.if_icmp .ne 6, 3) := by decide +kernel
theorem dX12_redo_11 : decode cX12_redo 11 = .ok (.bipush (-5), 2) := by decide +kernel
theorem dX12_redo_13 : decode cX12_redo 13 = .ok (.ireturn, 1) := by decide +kernel
theorem dX12_redo_14 : decode cX12_redo 14 = .ok (.aload_n 0, 1) := by decide +kernel
theorem dX12_redo_15 : decode cX12_redo 15 = .ok (.getfield 11, 3) := by decide +kernel
theorem dX12_redo_18 : decode cX12_redo 18 = .ok (.aload_n 0, 1) := by decide +kernel
theorem dX12_redo_19 : decode cX12_redo 19 = .ok (.getfield 15, 3) := by decide +kernel
theorem dX12_redo_22 : decode cX12_redo 22 = .ok (.aload_n 0, 1) := by decide +kernel
theorem dX12_redo_23 : decode cX12_redo 23 = .ok (.getfield 83, 3) := by decide +kernel
theorem dX12_redo_26 : decode cX12_redo 26 = .ok (.iaload, 1) := by decide +kernel
theorem dX12_redo_27 : decode cX12_redo 27 = .ok (.aload_n 0, 1) := by decide +kernel
theorem dX12_redo_28 : decode cX12_redo 28 = .ok (.getfield 21, 3) := by decide +kernel
theorem dX12_redo_31 : decode cX12_redo 31 = .ok (.aload_n 0, 1) := by decide +kernel
theorem dX12_redo_32 : decode cX12_redo 32 = .ok (.getfield 83, 3) := by decide +kernel
theorem dX12_redo_35 : decode cX12_redo 35 = .ok (.iaload, 1) := by decide +kernel
theorem dX12_redo_36 : decode cX12_redo 36 = .ok (.iastore, 1) := by decide +kernel
theorem dX12_redo_37 : decode cX12_redo 37 = .ok (.aload_n 0, 1) := by decide +kernel
theorem dX12_redo_38 : decode cX12_redo 38 = .ok (.dup, 1) := by decide +kernel
theorem dX12_redo_39 : decode cX12_redo 39 = .ok (.getfield 83, 3) := by decide +kernel
theorem dX12_redo_42 : decode cX12_redo 42 = .ok (.iconst 1, 1) := by decide +kernel
theorem dX12_redo_43 : decode cX12_redo 43 = .ok (.iadd, 1) := by decide +kernel
theorem dX12_redo_44 : decode cX12_redo 44 = .ok (.putfield 83, 3) := by decide +kernel
theorem dX12_redo_47 : decode cX12_redo 47 = .ok (.aload_n 0, 1) := by decide +kernel
theorem dX12_redo_48 : decode cX12_redo 48 = .ok (.getfield 86, 3) := by decide +kernel
theorem dX12_redo_51 : decode cX12_redo 51 = .ok (.aload_n 0, 1) := by decide +kernel
theorem dX12_redo_52 : decode cX12_redo 52 = .ok (.getfield 83, 3) := by decide +kernel
theorem dX12_redo_55 : decode cX12_redo 55 = .ok (.isub, 1) := by decide +kernel
theorem dX12_redo_56 : decode cX12_redo 56 = .ok (.ireturn, 1) := by decide +kernel
def f_X12_redo (σ : St) : Option (Int32 × St) := if σ.1 605 0 = σ.1 604 0 then (some ((-5 : Int32), σ)) else (chk (σ.1 605 0 < 0 ∨ 40 ≤ (σ.1 605 0).toNatClampNeg) (chk (σ.1 605 0 < 0 ∨ 40 ≤ (σ.1 605 0).toNatClampNeg) (chk (σ.2.2.1 601 0 (σ.1 605 0).toNatClampNeg < 0 ∨ 179 ≤ (σ.2.2.1 601 0 (σ.1 605 0).toNatClampNeg).toNatClampNeg) (bnd (sA σ 600 0 (upd (σ.2.2.1 600 0) (σ.2.2.1 601 0 (σ.1 605 0).toNatClampNeg).toNatClampNeg (σ.2.2.1 603 0 (σ.1 605 0).toNatClampNeg))) (fun σ5 => some (((sI σ5 605 0 ((σ5.1 605 0) + (1 : Int32))).1 604 0) - ((sI σ5 605 0 ((σ5.1 605 0) + (1 : Int32))).1 605 0), sI σ5 605 0 ((σ5.1 605 0) + (1 : Int32))))))))
set_option maxHeartbeats 4000000 in
set_option maxRecDepth 100000 in
theorem c_X12_redo {l : Launch} {g : va_G} {ts : ClassId × ClassId × ClassId} {a : Nat → Nat} {σ : St} {r : Int32} {σ' : St} (hf : f_X12_redo σ = some (r, σ')) : ConI l g ts (WM ts a) yX12_redo cX12_redo 1 (some .int) (rk 0 0) σ [.ref (a 0)] r σ' := by
  refine ConI_mk .int rfl rfl rfl rfl (by decide) (Nat.le_of_ble_eq_true rfl) ?_
  intro p e s m below meth c A Q ls C hQ hP hD hS hl
  have C : FX p s m _ meth c RX12 cX12_redo 1 g ts A := C
  have hx := C.1
  have hb := C.2.1
  have hown := C.2.2.2.1
  have hts := C.2.2.2.2.1
  have hl : lv_has ls 1 [(0, .ref (a 0))] := hl
  rw [f_X12_redo] at hf
  refine lv_aload_n hx hb dX12_redo_0 rfl (lv_at hl 0 rfl) ?_
  refine G_X12_done C hP q_1077 dX12_redo_1 ?_
  refine lv_aload_n hx hb dX12_redo_4 rfl (lv_at hl 0 rfl) ?_
  refine G_X12_keptMany C hP q_1076 dX12_redo_5 ?_
  refine lv_icmp_ne (tgt := 14) hx hb dX12_redo_8 (by decide) (fun c1 => ?_) (fun c1 => ?_)
  · replace hf := ineg c1 hf
    refine lv_aload_n hx hb dX12_redo_14 rfl (lv_at hl 0 rfl) ?_
    refine G_X12_may C hP q_1072 dX12_redo_15 ?_
    refine lv_aload_n hx hb dX12_redo_18 rfl (lv_at hl 0 rfl) ?_
    refine G_X12_changeAt C hP q_1073 dX12_redo_19 ?_
    refine lv_aload_n hx hb dX12_redo_22 rfl (lv_at hl 0 rfl) ?_
    refine G_X12_done C hP q_1077 dX12_redo_23 ?_
    obtain ⟨h2, hf⟩ := chk_some hf
    refine AL_X12_changeAt C hP h2 dX12_redo_26 ?_
    refine lv_aload_n hx hb dX12_redo_27 rfl (lv_at hl 0 rfl) ?_
    refine G_X12_changeIs C hP q_1075 dX12_redo_28 ?_
    refine lv_aload_n hx hb dX12_redo_31 rfl (lv_at hl 0 rfl) ?_
    refine G_X12_done C hP q_1077 dX12_redo_32 ?_
    obtain ⟨h3, hf⟩ := chk_some hf
    refine AL_X12_changeIs C hP h3 dX12_redo_35 ?_
    obtain ⟨h4, hf⟩ := chk_some hf
    refine AS_X12_may C hP hD hS h4 dX12_redo_36 (fun H locs hP hD hS => ?_)
    refine nameS hP hD hf (fun σ5 hP hD hf => ?_)
    refine lv_aload_n hx hb dX12_redo_37 rfl (lv_at hl 0 rfl) ?_
    refine lv_dup hx hb dX12_redo_38 rfl ?_
    refine G_X12_done C hP q_1077 dX12_redo_39 ?_
    refine lv_iconst (v := 1) hx hb dX12_redo_42 (by decide) ?_
    refine lv_iadd hx hb dX12_redo_43 ?_
    refine S_X12_done C hP hD hS q_1077 dX12_redo_44 (fun H locs hP hD hS => ?_)
    refine lv_aload_n hx hb dX12_redo_47 rfl (lv_at hl 0 rfl) ?_
    refine G_X12_keptMany C hP q_1076 dX12_redo_48 ?_
    refine lv_aload_n hx hb dX12_redo_51 rfl (lv_at hl 0 rfl) ?_
    refine G_X12_done C hP q_1077 dX12_redo_52 ?_
    refine lv_isub hx hb dX12_redo_55 ?_
    exact retI hQ hf dX12_redo_56 hP hD hS
  · replace hf := ipos c1 hf
    refine lv_bipush (v := -5) hx hb dX12_redo_11 (by decide) ?_
    exact retI hQ hf dX12_redo_13 hP hD hS
theorem dX12_isName_0 : decode cX12_isName 0 = .ok (.iload_n 1, 1) := by decide +kernel
theorem dX12_isName_1 : decode cX12_isName 1 = .ok (.i2l, 1) := by decide +kernel
theorem dX12_isName_2 : decode cX12_isName 2 = .ok (.lconst 0, 1) := by decide +kernel
theorem dX12_isName_3 : decode cX12_isName 3 = .ok (.aload_n 0, 1) := by decide +kernel
theorem dX12_isName_4 : decode cX12_isName 4 = .ok (.getfield 95, 3) := by decide +kernel
theorem dX12_isName_7 : decode cX12_isName 7 = .ok (.iconst 1, 1) := by decide +kernel
theorem dX12_isName_8 : decode cX12_isName 8 = .ok (.isub, 1) := by decide +kernel
theorem dX12_isName_9 : decode cX12_isName 9 = .ok (.i2l, 1) := by decide +kernel
theorem dX12_isName_10 : decode cX12_isName 10 = .ok (.invokestatic 91, 3) := by decide +kernel
theorem dX12_isName_13 : decode cX12_isName 13 = .ok (.ireturn, 1) := by decide +kernel
def f_X12_isName0 (σ : St) (p1 : Int32) : Option (Int32 × St) := bnd1 (f_X12_within ((p1 : Int32).toInt64) (0 : Int64) ((((σ.1 606 0) - (1 : Int32)) : Int32).toInt64)) (fun r2 => some (r2, σ))
def f_X12_isName (σ : St) (p1 : Int32) : Option (Int32 × St) := chkB (f_X12_isName0 σ p1)
set_option maxHeartbeats 4000000 in
set_option maxRecDepth 100000 in
theorem c_X12_isName {l : Launch} {g : va_G} {ts : ClassId × ClassId × ClassId} {a : Nat → Nat} {σ : St} {p1 : Int32} {r : Int32} {σ' : St} (hf : f_X12_isName σ p1 = some (r, σ')) : ConI l g ts (WM ts a) yX12_isName cX12_isName 2 (some .boolean) (rk 1 25) σ [.ref (a 0), .int p1] r σ' := by
  rw [f_X12_isName] at hf
  obtain ⟨hf, hn⟩ := chkB_some hf
  refine ConI_mk .boolean rfl hn rfl rfl (by decide) (Nat.le_of_ble_eq_true rfl) ?_
  intro p e s m below meth c A Q ls C hQ hP hD hS hl
  have C : FX p s m _ meth c RX12 cX12_isName 2 g ts A := C
  have hx := C.1
  have hb := C.2.1
  have hown := C.2.2.2.1
  have hts := C.2.2.2.2.1
  have hl : lv_has ls 2 [(0, .ref (a 0)), (1, .int p1)] := hl
  rw [f_X12_isName0] at hf
  refine lv_iload_n hx hb dX12_isName_0 rfl (lv_at hl 1 rfl) ?_
  refine lv_i2l (v := (p1 : Int32).toInt64) hx hb dX12_isName_1 rfl ?_
  refine lv_lconst (v := 0) hx hb dX12_isName_2 (by decide) ?_
  refine lv_aload_n hx hb dX12_isName_3 rfl (lv_at hl 0 rfl) ?_
  refine G_X12_namesMany C hP q_1078 dX12_isName_4 ?_
  refine lv_iconst (v := 1) hx hb dX12_isName_7 (by decide) ?_
  refine lv_isub hx hb dX12_isName_8 ?_
  refine lv_i2l (v := (((σ.1 606 0) - (1 : Int32)) : Int32).toInt64) hx hb dX12_isName_9 rfl ?_
  obtain ⟨r2, h1, hf⟩ := bnd1_some hf
  refine tI [] C hP hD hS (c_X12_within h1) ms_X12_within q_1218 dX12_isName_10 ⟨Nat.le_of_ble_eq_true rfl, Nat.le_of_ble_eq_true rfl⟩ ⟨Nat.zero_le _, Nat.zero_le _⟩ rfl rfl (Nat.le_of_ble_eq_true rfl) hl.1 (fun H locs hP hD hS => ?_)
  exact retI hQ hf dX12_isName_13 hP hD hS
theorem dX12_at1_0 : decode cX12_at1 0 = .ok (.aload_n 0, 1) := by decide +kernel
theorem dX12_at1_1 : decode cX12_at1 1 = .ok (.getfield 27, 3) := by decide +kernel
theorem dX12_at1_4 : decode cX12_at1 4 = .ok (.bipush 6, 2) := by decide +kernel
theorem dX12_at1_6 : decode cX12_at1 6 = .ok (.iload_n 1, 1) := by decide +kernel
theorem dX12_at1_7 : decode cX12_at1 7 = .ok (.imul, 1) := by decide +kernel
theorem dX12_at1_8 : decode cX12_at1 8 = .ok (.iload_n 2, 1) := by decide +kernel
theorem dX12_at1_9 : decode cX12_at1 9 = .ok (.iadd, 1) := by decide +kernel
theorem dX12_at1_10 : decode cX12_at1 10 = .ok (.iaload, 1) := by decide +kernel
theorem dX12_at1_11 : decode cX12_at1 11 = .ok (.ireturn, 1) := by decide +kernel
def f_X12_at1 (σ : St) (p1 : Int32) (p2 : Int32) : Option (Int32 × St) := chk (((6 : Int32) * p1) + p2 < 0 ∨ 60 ≤ (((6 : Int32) * p1) + p2).toNatClampNeg) (some (σ.2.2.1 608 0 (((6 : Int32) * p1) + p2).toNatClampNeg, σ))
set_option maxHeartbeats 4000000 in
set_option maxRecDepth 100000 in
theorem c_X12_at1 {l : Launch} {g : va_G} {ts : ClassId × ClassId × ClassId} {a : Nat → Nat} {σ : St} {p1 : Int32} {p2 : Int32} {r : Int32} {σ' : St} (hf : f_X12_at1 σ p1 p2 = some (r, σ')) : ConI l g ts (WM ts a) yX12_at1 cX12_at1 3 (some .int) (rk 0 0) σ [.ref (a 0), .int p1, .int p2] r σ' := by
  refine ConI_mk .int rfl rfl rfl rfl (by decide) (Nat.le_of_ble_eq_true rfl) ?_
  intro p e s m below meth c A Q ls C hQ hP hD hS hl
  have C : FX p s m _ meth c RX12 cX12_at1 3 g ts A := C
  have hx := C.1
  have hb := C.2.1
  have hown := C.2.2.2.1
  have hts := C.2.2.2.2.1
  have hl : lv_has ls 3 [(0, .ref (a 0)), (1, .int p1), (2, .int p2)] := hl
  rw [f_X12_at1] at hf
  refine lv_aload_n hx hb dX12_at1_0 rfl (lv_at hl 0 rfl) ?_
  refine G_X12_letters C hP q_1080 dX12_at1_1 ?_
  refine lv_bipush (v := 6) hx hb dX12_at1_4 (by decide) ?_
  refine lv_iload_n hx hb dX12_at1_6 rfl (lv_at hl 1 rfl) ?_
  refine lv_imul hx hb dX12_at1_7 ?_
  refine lv_iload_n hx hb dX12_at1_8 rfl (lv_at hl 2 rfl) ?_
  refine lv_iadd hx hb dX12_at1_9 ?_
  obtain ⟨h1, hf⟩ := chk_some hf
  refine AL_X12_letters C hP h1 dX12_at1_10 ?_
  exact retI hQ hf dX12_at1_11 hP hD hS
theorem dX12_bytesIs_0 : decode cX12_bytesIs 0 = .ok (.iload_n 1, 1) := by decide +kernel
theorem dX12_bytesIs_1 : decode cX12_bytesIs 1 = .ok (.invokestatic 98, 3) := by decide +kernel
theorem dX12_bytesIs_4 : decode cX12_bytesIs 4 = .ok (.ifCond .ne 7, 3) := by decide +kernel
theorem dX12_bytesIs_7 : decode cX12_bytesIs 7 = .ok (.iconst (-1), 1) := by decide +kernel
theorem dX12_bytesIs_8 : decode cX12_bytesIs 8 = .ok (.goto 34, 3) := by decide +kernel
theorem dX12_bytesIs_11 : decode cX12_bytesIs 11 = .ok (.aload_n 0, 1) := by decide +kernel
theorem dX12_bytesIs_12 : decode cX12_bytesIs 12 = .ok (.getfield 64, 3) := by decide +kernel
theorem dX12_bytesIs_15 : decode cX12_bytesIs 15 = .ok (.iload_n 1, 1) := by decide +kernel
theorem dX12_bytesIs_16 : decode cX12_bytesIs 16 = .ok (.iaload, 1) := by decide +kernel
theorem dX12_bytesIs_17 : decode cX12_bytesIs 17 = .ok (.ifCond .ge 8, 3) := by decide +kernel
theorem dX12_bytesIs_20 : decode cX12_bytesIs 20 = .ok (.bipush (-11), 2) := by decide +kernel
theorem dX12_bytesIs_22 : decode cX12_bytesIs 22 = .ok (.goto 20, 3) := by decide +kernel
theorem dX12_bytesIs_25 : decode cX12_bytesIs 25 = .ok (.aload_n 0, 1) := by decide +kernel
theorem dX12_bytesIs_26 : decode cX12_bytesIs 26 = .ok (.getfield 64, 3) := by decide +kernel
theorem dX12_bytesIs_29 : decode cX12_bytesIs 29 = .ok (.iload_n 1, 1) := by decide +kernel
theorem dX12_bytesIs_30 : decode cX12_bytesIs 30 = .ok (.iaload, 1) := by decide +kernel
theorem dX12_bytesIs_31 : decode cX12_bytesIs 31 = .ok (.bipush 50, 2) := by decide +kernel
theorem dX12_bytesIs_33 : decode cX12_bytesIs 33 = .ok (.if_icmp .ne 7, 3) := by decide +kernel
theorem dX12_bytesIs_36 : decode cX12_bytesIs 36 = .ok (.iconst 1, 1) := by decide +kernel
theorem dX12_bytesIs_37 : decode cX12_bytesIs 37 = .ok (.goto 5, 3) := by decide +kernel
theorem dX12_bytesIs_40 : decode cX12_bytesIs 40 = .ok (.bipush (-12), 2) := by decide +kernel
theorem dX12_bytesIs_42 : decode cX12_bytesIs 42 = .ok (.ireturn, 1) := by decide +kernel
def f_X12_bytesIs (σ : St) (p1 : Int32) : Option (Int32 × St) := bnd1 (f_X12_isShelf p1) (fun r2 => if r2 = 0 then (some ((-1 : Int32), σ)) else (chk (p1 < 0 ∨ 6 ≤ p1.toNatClampNeg) (if 0 ≤ σ.2.2.1 639 0 p1.toNatClampNeg then (chk (p1 < 0 ∨ 6 ≤ p1.toNatClampNeg) (if σ.2.2.1 639 0 p1.toNatClampNeg = (50 : Int32) then (some ((1 : Int32), σ)) else (some ((-12 : Int32), σ)))) else (some ((-11 : Int32), σ)))))
set_option maxHeartbeats 4000000 in
set_option maxRecDepth 100000 in
theorem c_X12_bytesIs {l : Launch} {g : va_G} {ts : ClassId × ClassId × ClassId} {a : Nat → Nat} {σ : St} {p1 : Int32} {r : Int32} {σ' : St} (hf : f_X12_bytesIs σ p1 = some (r, σ')) : ConI l g ts (WM ts a) yX12_bytesIs cX12_bytesIs 2 (some .int) (rk 2 45) σ [.ref (a 0), .int p1] r σ' := by
  refine ConI_mk .int rfl rfl rfl rfl (by decide) (Nat.le_of_ble_eq_true rfl) ?_
  intro p e s m below meth c A Q ls C hQ hP hD hS hl
  have C : FX p s m _ meth c RX12 cX12_bytesIs 2 g ts A := C
  have hx := C.1
  have hb := C.2.1
  have hown := C.2.2.2.1
  have hts := C.2.2.2.2.1
  have hl : lv_has ls 2 [(0, .ref (a 0)), (1, .int p1)] := hl
  rw [f_X12_bytesIs] at hf
  refine lv_iload_n hx hb dX12_bytesIs_0 rfl (lv_at hl 1 rfl) ?_
  obtain ⟨r2, h1, hf⟩ := bnd1_some hf
  refine tI [] C hP hD hS (c_X12_isShelf h1) ms_X12_isShelf q_1214 dX12_bytesIs_1 ⟨Nat.le_of_ble_eq_true rfl, Nat.le_of_ble_eq_true rfl⟩ ⟨Nat.zero_le _, Nat.zero_le _⟩ rfl rfl (Nat.le_of_ble_eq_true rfl) hl.1 (fun H locs hP hD hS => ?_)
  refine lv_if_ne (tgt := 11) hx hb dX12_bytesIs_4 (by decide) (fun c3 => ?_) (fun c3 => ?_)
  · replace hf := ineg c3 hf
    refine lv_aload_n hx hb dX12_bytesIs_11 rfl (lv_at hl 0 rfl) ?_
    refine G_X12_shelf C hP q_1111 dX12_bytesIs_12 ?_
    refine lv_iload_n hx hb dX12_bytesIs_15 rfl (lv_at hl 1 rfl) ?_
    obtain ⟨h4, hf⟩ := chk_some hf
    refine AL_X12_shelf C hP h4 dX12_bytesIs_16 ?_
    refine lv_if_ge (tgt := 25) hx hb dX12_bytesIs_17 (by decide) (fun c5 => ?_) (fun c5 => ?_)
    · replace hf := ipos c5 hf
      refine lv_aload_n hx hb dX12_bytesIs_25 rfl (lv_at hl 0 rfl) ?_
      refine G_X12_shelf C hP q_1111 dX12_bytesIs_26 ?_
      refine lv_iload_n hx hb dX12_bytesIs_29 rfl (lv_at hl 1 rfl) ?_
      obtain ⟨h6, hf⟩ := chk_some hf
      refine AL_X12_shelf C hP h6 dX12_bytesIs_30 ?_
      refine lv_bipush (v := 50) hx hb dX12_bytesIs_31 (by decide) ?_
      refine lv_icmp_ne (tgt := 40) hx hb dX12_bytesIs_33 (by decide) (fun c7 => ?_) (fun c7 => ?_)
      · replace hf := ineg c7 hf
        refine lv_bipush (v := -12) hx hb dX12_bytesIs_40 (by decide) ?_
        exact retI hQ hf dX12_bytesIs_42 hP hD hS
      · replace hf := ipos c7 hf
        refine lv_iconst (v := 1) hx hb dX12_bytesIs_36 (by decide) ?_
        refine lv_goto (tgt := 42) hx hb dX12_bytesIs_37 (by decide) ?_
        exact retI hQ hf dX12_bytesIs_42 hP hD hS
    · replace hf := ineg c5 hf
      refine lv_bipush (v := -11) hx hb dX12_bytesIs_20 (by decide) ?_
      refine lv_goto (tgt := 42) hx hb dX12_bytesIs_22 (by decide) ?_
      exact retI hQ hf dX12_bytesIs_42 hP hD hS
  · replace hf := ipos c3 hf
    refine lv_iconst (v := -1) hx hb dX12_bytesIs_7 (by decide) ?_
    refine lv_goto (tgt := 42) hx hb dX12_bytesIs_8 (by decide) ?_
    exact retI hQ hf dX12_bytesIs_42 hP hD hS
theorem dX12_itemAt_0 : decode cX12_itemAt 0 = .ok (.aload_n 0, 1) := by decide +kernel
theorem dX12_itemAt_1 : decode cX12_itemAt 1 = .ok (.getfield 70, 3) := by decide +kernel
theorem dX12_itemAt_4 : decode cX12_itemAt 4 = .ok (.bipush 60, 2) := by decide +kernel
theorem dX12_itemAt_6 : decode cX12_itemAt 6 = .ok (.iload_n 1, 1) := by decide +kernel
theorem dX12_itemAt_7 : decode cX12_itemAt 7 = .ok (.imul, 1) := by decide +kernel
theorem dX12_itemAt_8 : decode cX12_itemAt 8 = .ok (.iload_n 2, 1) := by decide +kernel
theorem dX12_itemAt_9 : decode cX12_itemAt 9 = .ok (.iadd, 1) := by decide +kernel
theorem dX12_itemAt_10 : decode cX12_itemAt 10 = .ok (.laload, 1) := by decide +kernel
theorem dX12_itemAt_11 : decode cX12_itemAt 11 = .ok (.lreturn, 1) := by decide +kernel
def f_X12_itemAt (σ : St) (p1 : Int32) (p2 : Int32) : Option (Int64 × St) := chk (((60 : Int32) * p1) + p2 < 0 ∨ 360 ≤ (((60 : Int32) * p1) + p2).toNatClampNeg) (some (σ.2.2.2.1 641 0 (((60 : Int32) * p1) + p2).toNatClampNeg, σ))
set_option maxHeartbeats 4000000 in
set_option maxRecDepth 100000 in
theorem c_X12_itemAt {l : Launch} {g : va_G} {ts : ClassId × ClassId × ClassId} {a : Nat → Nat} {σ : St} {p1 : Int32} {p2 : Int32} {r : Int64} {σ' : St} (hf : f_X12_itemAt σ p1 p2 = some (r, σ')) : ConL l g ts (WM ts a) yX12_itemAt cX12_itemAt 3 (some .long) (rk 0 0) σ [.ref (a 0), .int p1, .int p2] r σ' := by
  refine ConL_mk rfl rfl (by decide) (Nat.le_of_ble_eq_true rfl) ?_
  intro p e s m below meth c A Q ls C hQ hP hD hS hl
  have C : FX p s m _ meth c RX12 cX12_itemAt 3 g ts A := C
  have hx := C.1
  have hb := C.2.1
  have hown := C.2.2.2.1
  have hts := C.2.2.2.2.1
  have hl : lv_has ls 3 [(0, .ref (a 0)), (1, .int p1), (2, .int p2)] := hl
  rw [f_X12_itemAt] at hf
  refine lv_aload_n hx hb dX12_itemAt_0 rfl (lv_at hl 0 rfl) ?_
  refine G_X12_items C hP q_1113 dX12_itemAt_1 ?_
  refine lv_bipush (v := 60) hx hb dX12_itemAt_4 (by decide) ?_
  refine lv_iload_n hx hb dX12_itemAt_6 rfl (lv_at hl 1 rfl) ?_
  refine lv_imul hx hb dX12_itemAt_7 ?_
  refine lv_iload_n hx hb dX12_itemAt_8 rfl (lv_at hl 2 rfl) ?_
  refine lv_iadd hx hb dX12_itemAt_9 ?_
  obtain ⟨h1, hf⟩ := chk_some hf
  refine AL_X12_items C hP h1 dX12_itemAt_10 ?_
  exact retL hQ hf dX12_itemAt_11 hP hD hS
theorem dX12_name_0 : decode cX12_name 0 = .ok (.iload_n 1, 1) := by decide +kernel
theorem dX12_name_1 : decode cX12_name 1 = .ok (.invokestatic 98, 3) := by decide +kernel
theorem dX12_name_4 : decode cX12_name 4 = .ok (.ifCond .eq 22, 3) := by decide +kernel
theorem dX12_name_7 : decode cX12_name 7 = .ok (.iload_n 2, 1) := by decide +kernel
theorem dX12_name_8 : decode cX12_name 8 = .ok (.ifCond .lt 18, 3) := by decide +kernel
theorem dX12_name_11 : decode cX12_name 11 = .ok (.iload_n 2, 1) := by decide +kernel
theorem dX12_name_12 : decode cX12_name 12 = .ok (.bipush 10, 2) := by decide +kernel
theorem dX12_name_14 : decode cX12_name 14 = .ok (.irem, 1) := by decide +kernel
theorem dX12_name_15 : decode cX12_name 15 = .ok (.i2l, 1) := by decide +kernel
theorem dX12_name_16 : decode cX12_name 16 = .ok (.lconst 1, 1) := by decide +kernel
theorem dX12_name_17 : decode cX12_name 17 = .ok (.ldc2_w 102, 3) := by decide +kernel
theorem dX12_name_20 : decode cX12_name 20 = .ok (.invokestatic 91, 3) := by decide +kernel
theorem dX12_name_23 : decode cX12_name 23 = .ok (.ifCond .ne 5, 3) := by decide +kernel
theorem dX12_name_26 : decode cX12_name 26 = .ok (.iconst (-1), 1) := by decide +kernel
theorem dX12_name_27 : decode cX12_name 27 = .ok (.ireturn, 1) := by decide +kernel
theorem dX12_name_28 : decode cX12_name 28 = .ok (.aload_n 0, 1) := by decide +kernel
theorem dX12_name_29 : decode cX12_name 29 = .ok (.iload_n 1, 1) := by decide +kernel
theorem dX12_name_30 : decode cX12_name 30 = .ok (.invokevirtual 104, 3) := by decide +kernel
theorem dX12_name_33 : decode cX12_name 33 = .ok (.ifCond .ge 9, 3) := by decide +kernel
theorem dX12_name_36 : decode cX12_name 36 = .ok (.aload_n 0, 1) := by decide +kernel
theorem dX12_name_37 : decode cX12_name 37 = .ok (.iload_n 1, 1) := by decide +kernel
theorem dX12_name_38 : decode cX12_name 38 = .ok (.invokevirtual 104, 3) := by decide +kernel
theorem dX12_name_41 : decode cX12_name 41 = .ok (.ireturn, 1) := by decide +kernel
theorem dX12_name_42 : decode cX12_name 42 = .ok (.iload_n 2, 1) := by decide +kernel
theorem dX12_name_43 : decode cX12_name 43 = .ok (.bipush 10, 2) := by decide +kernel
theorem dX12_name_45 : decode cX12_name 45 = .ok (.idiv, 1) := by decide +kernel
theorem dX12_name_46 : decode cX12_name 46 = .ok (.istore_n 3, 1) := by decide +kernel
theorem dX12_name_47 : decode cX12_name 47 = .ok (.iload_n 2, 1) := by decide +kernel
theorem dX12_name_48 : decode cX12_name 48 = .ok (.bipush 10, 2) := by decide +kernel
theorem dX12_name_50 : decode cX12_name 50 = .ok (.irem, 1) := by decide +kernel
theorem dX12_name_51 : decode cX12_name 51 = .ok (.istore 4, 2) := by decide +kernel
theorem dX12_name_53 : decode cX12_name 53 = .ok (.iconst 0, 1) := by decide +kernel
theorem dX12_name_54 : decode cX12_name 54 = .ok (.istore 5, 2) := by decide +kernel
theorem dX12_name_56 : decode cX12_name 56 = .ok (.iload 5, 2) := by decide +kernel
theorem dX12_name_58 : decode cX12_name 58 = .ok (.iload 4, 2) := by decide +kernel
theorem dX12_name_60 : decode cX12_name 60 = .ok (.if_icmp .ge 39, 3) := by decide +kernel
theorem dX12_name_63 : decode cX12_name 63 = .ok (.iload_n 3, 1) := by decide +kernel
theorem dX12_name_64 : decode cX12_name 64 = .ok (.iload 5, 2) := by decide +kernel
theorem dX12_name_66 : decode cX12_name 66 = .ok (.iadd, 1) := by decide +kernel
theorem dX12_name_67 : decode cX12_name 67 = .ok (.aload_n 0, 1) := by decide +kernel
theorem dX12_name_68 : decode cX12_name 68 = .ok (.getfield 67, 3) := by decide +kernel
theorem dX12_name_71 : decode cX12_name 71 = .ok (.iload_n 1, 1) := by decide +kernel
theorem dX12_name_72 : decode cX12_name 72 = .ok (.iaload, 1) := by decide +kernel
theorem dX12_name_73 : decode cX12_name 73 = .ok (.if_icmp .ge 18, 3) := by decide +kernel
theorem dX12_name_76 : decode cX12_name 76 = .ok (.aload_n 0, 1) := by decide +kernel
theorem dX12_name_77 : decode cX12_name 77 = .ok (.iload_n 1, 1) := by decide +kernel
theorem dX12_name_78 : decode cX12_name 78 = .ok (.iload_n 3, 1) := by decide +kernel
theorem dX12_name_79 : decode cX12_name 79 = .ok (.iload 5, 2) := by decide +kernel
theorem dX12_name_81 : decode cX12_name 81 = .ok (.iadd, 1) := by decide +kernel
theorem dX12_name_82 : decode cX12_name 82 = .ok (.invokevirtual 108, 3) := by decide +kernel
theorem dX12_name_85 : decode cX12_name 85 = .ok (.invokestatic 112, 3) := by decide +kernel
theorem dX12_name_88 : decode cX12_name 88 = .ok (.ifCond .ne 5, 3) := by decide +kernel
theorem dX12_name_91 : decode cX12_name 91 = .ok (.iconst (-1), 1) := by decide +kernel
theorem dX12_name_92 : decode cX12_name 92 = .ok (.ireturn, 1) := by decide +kernel
theorem dX12_name_93 : decode cX12_name 93 = .ok (.iinc 5 1, 3) := by decide +kernel
theorem dX12_name_96 : decode cX12_name 96 = .ok (.goto (-40), 3) := by decide +kernel
theorem dX12_name_99 : decode cX12_name 99 = .ok (.aload_n 0, 1) := by decide +kernel
theorem dX12_name_100 : decode cX12_name 100 = .ok (.getfield 95, 3) := by decide +kernel
theorem dX12_name_103 : decode cX12_name 103 = .ok (.bipush 10, 2) := by decide +kernel
theorem dX12_name_105 : decode cX12_name 105 = .ok (.if_icmp .ne 6, 3) := by decide +kernel
theorem dX12_name_108 : decode cX12_name 108 = .ok (.bipush (-3), 2) := by decide +kernel
theorem dX12_name_110 : decode cX12_name 110 = .ok (.ireturn, 1) := by decide +kernel
theorem dX12_name_111 : decode cX12_name 111 = .ok (.iconst 0, 1) := by decide +kernel
theorem dX12_name_112 : decode cX12_name 112 = .ok (.istore 5, 2) := by decide +kernel
theorem dX12_name_114 : decode cX12_name 114 = .ok (.iload 5, 2) := by decide +kernel
theorem dX12_name_116 : decode cX12_name 116 = .ok (.iload 4, 2) := by decide +kernel
theorem dX12_name_118 : decode cX12_name 118 = .ok (.if_icmp .ge 34, 3) := by decide +kernel
theorem dX12_name_121 : decode cX12_name 121 = .ok (.aload_n 0, 1) := by decide +kernel
theorem dX12_name_122 : decode cX12_name 122 = .ok (.getfield 27, 3) := by decide +kernel
theorem dX12_name_125 : decode cX12_name 125 = .ok (.bipush 6, 2) := by decide +kernel
theorem dX12_name_127 : decode cX12_name 127 = .ok (.aload_n 0, 1) := by decide +kernel
theorem dX12_name_128 : decode cX12_name 128 = .ok (.getfield 95, 3) := by decide +kernel
theorem dX12_name_131 : decode cX12_name 131 = .ok (.imul, 1) := by decide +kernel
theorem dX12_name_132 : decode cX12_name 132 = .ok (.iload 5, 2) := by decide +kernel
theorem dX12_name_134 : decode cX12_name 134 = .ok (.iadd, 1) := by decide +kernel
theorem dX12_name_135 : decode cX12_name 135 = .ok (.aload_n 0, 1) := by decide +kernel
theorem dX12_name_136 : decode cX12_name 136 = .ok (.iload_n 1, 1) := by decide +kernel
theorem dX12_name_137 : decode cX12_name 137 = .ok (.iload_n 3, 1) := by decide +kernel
theorem dX12_name_138 : decode cX12_name 138 = .ok (.iload 5, 2) := by decide +kernel
theorem dX12_name_140 : decode cX12_name 140 = .ok (.iadd, 1) := by decide +kernel
theorem dX12_name_141 : decode cX12_name 141 = .ok (.invokevirtual 108, 3) := by decide +kernel
theorem dX12_name_144 : decode cX12_name 144 = .ok (.l2i, 1) := by decide +kernel
theorem dX12_name_145 : decode cX12_name 145 = .ok (.iastore, 1) := by decide +kernel
theorem dX12_name_146 : decode cX12_name 146 = .ok (.iinc 5 1, 3) := by decide +kernel
theorem dX12_name_149 : decode cX12_name 149 = .ok (.goto (-35), 3) := by decide +kernel
theorem dX12_name_152 : decode cX12_name 152 = .ok (.aload_n 0, 1) := by decide +kernel
theorem dX12_name_153 : decode cX12_name 153 = .ok (.getfield 24, 3) := by decide +kernel
theorem dX12_name_156 : decode cX12_name 156 = .ok (.aload_n 0, 1) := by decide +kernel
theorem dX12_name_157 : decode cX12_name 157 = .ok (.getfield 95, 3) := by decide +kernel
theorem dX12_name_160 : decode cX12_name 160 = .ok (.iload 4, 2) := by decide +kernel
theorem dX12_name_162 : decode cX12_name 162 = .ok (.iastore, 1) := by decide +kernel
theorem dX12_name_163 : decode cX12_name 163 = .ok (.aload_n 0, 1) := by decide +kernel
theorem dX12_name_164 : decode cX12_name 164 = .ok (.getfield 11, 3) := by decide +kernel
theorem dX12_name_167 : decode cX12_name 167 = .ok (.aload_n 0, 1) := by decide +kernel
theorem dX12_name_168 : decode cX12_name 168 = .ok (.getfield 95, 3) := by decide +kernel
theorem dX12_name_171 : decode cX12_name 171 = .ok (.iconst 1, 1) := by decide +kernel
theorem dX12_name_172 : decode cX12_name 172 = .ok (.iastore, 1) := by decide +kernel
theorem dX12_name_173 : decode cX12_name 173 = .ok (.aload_n 0, 1) := by decide +kernel
theorem dX12_name_174 : decode cX12_name 174 = .ok (.dup, 1) := by decide +kernel
theorem dX12_name_175 : decode cX12_name 175 = .ok (.getfield 95, 3) := by decide +kernel
theorem dX12_name_178 : decode cX12_name 178 = .ok (.iconst 1, 1) := by decide +kernel
theorem dX12_name_179 : decode cX12_name 179 = .ok (.iadd, 1) := by decide +kernel
theorem dX12_name_180 : decode cX12_name 180 = .ok (.putfield 95, 3) := by decide +kernel
theorem dX12_name_183 : decode cX12_name 183 = .ok (.aload_n 0, 1) := by decide +kernel
theorem dX12_name_184 : decode cX12_name 184 = .ok (.getfield 95, 3) := by decide +kernel
theorem dX12_name_187 : decode cX12_name 187 = .ok (.iconst 1, 1) := by decide +kernel
theorem dX12_name_188 : decode cX12_name 188 = .ok (.isub, 1) := by decide +kernel
theorem dX12_name_189 : decode cX12_name 189 = .ok (.ireturn, 1) := by decide +kernel
def f_X12_name_b114 : Nat → St → Int32 → Int32 → Int32 → Int32 → Option (Int32 × St)
  | 0, _, _, _, _, _ => none
  | n + 1, σ, x1, x3, x4, x5 => if x4 ≤ x5 then (chk (σ.1 606 0 < 0 ∨ 10 ≤ (σ.1 606 0).toNatClampNeg) (bnd (sA σ 607 0 (upd (σ.2.2.1 607 0) (σ.1 606 0).toNatClampNeg x4)) (fun σ30 => chk (σ30.1 606 0 < 0 ∨ 179 ≤ (σ30.1 606 0).toNatClampNeg) (bnd (sA σ30 600 0 (upd (σ30.2.2.1 600 0) (σ30.1 606 0).toNatClampNeg (1 : Int32))) (fun σ32 => some (((sI σ32 606 0 ((σ32.1 606 0) + (1 : Int32))).1 606 0) - (1 : Int32), sI σ32 606 0 ((σ32.1 606 0) + (1 : Int32)))))))) else (bnd2 (f_X12_itemAt σ x1 (x3 + x5)) (fun r34 σ35 => chk (((6 : Int32) * (σ.1 606 0)) + x5 < 0 ∨ 60 ≤ (((6 : Int32) * (σ.1 606 0)) + x5).toNatClampNeg) (bnd (sA σ35 608 0 (upd (σ35.2.2.1 608 0) (((6 : Int32) * (σ.1 606 0)) + x5).toNatClampNeg ((r34 : Int64).toInt32))) (fun σ37 => bnd (x5 + 1) (fun v38 => f_X12_name_b114 n σ37 x1 x3 x4 v38)))))
def f_X12_name_b56 : Nat → St → Int32 → Int32 → Int32 → Int32 → Option (Int32 × St)
  | 0, _, _, _, _, _ => none
  | n + 1, σ, x1, x3, x4, x5 => if x4 ≤ x5 then (if σ.1 606 0 = (10 : Int32) then (some ((-3 : Int32), σ)) else (f_X12_name_b114 256 σ x1 x3 x4 (0 : Int32))) else (chk (x1 < 0 ∨ 6 ≤ x1.toNatClampNeg) (if σ.2.2.1 640 0 x1.toNatClampNeg ≤ x3 + x5 then (some ((-1 : Int32), σ)) else (bnd2 (f_X12_itemAt σ x1 (x3 + x5)) (fun r22 σ23 => bnd1 (f_X12_isLetter r22) (fun r25 => if r25 = 0 then (some ((-1 : Int32), σ23)) else (bnd (x5 + 1) (fun v27 => f_X12_name_b56 n σ23 x1 x3 x4 v27)))))))
def f_X12_name (σ : St) (p1 : Int32) (p2 : Int32) : Option (Int32 × St) := bnd1 (f_X12_isShelf p1) (fun r2 => if r2 = 0 then (some ((-1 : Int32), σ)) else (if p2 < 0 then (some ((-1 : Int32), σ)) else (bnd1 (f_X12_within (((p2 - p2 / (10 : Int32) * (10 : Int32)) : Int32).toInt64) (1 : Int64) (6 : Int64)) (fun r6 => if r6 = 0 then (some ((-1 : Int32), σ)) else (bnd2 (f_X12_bytesIs σ p1) (fun r9 σ10 => if 0 ≤ r9 then (bnd (p2 / (10 : Int32)) (fun v12 => bnd (p2 - p2 / (10 : Int32) * (10 : Int32)) (fun v13 => f_X12_name_b56 256 σ10 p1 v12 v13 (0 : Int32)))) else (bnd2 (f_X12_bytesIs σ10 p1) (fun r15 σ16 => some (r15, σ16)))))))))
set_option maxHeartbeats 4000000 in
set_option maxRecDepth 100000 in
theorem w_X12_name_b114 {p : Program} {l : Launch} {e : Env} {s : State} {m : MethodId} {args : Array Value} {below : List Frame} {meth : Method} {c : Code} {g : va_G} {ts : ClassId × ClassId × ClassId} {A : Nat → Prop} {Q : State → Prop} {a : Nat → Nat} {r : Int32} {σ' : St} (C : FX p s m args meth c RX12 cX12_name 6 g ts A) (hQ : RetI p l e (rk 3 66) s m args below meth c cX12_name g (WM ts a) A r σ' Q) : ∀ (n : Nat) (σ : St) (x1 : Int32) (x3 : Int32) (x4 : Int32) (x5 : Int32) (H : Heap) (locs : List Loc) (ls : Array Slot), f_X12_name_b114 n σ x1 x3 x4 x5 = some (r, σ') → va_P g classes (WM ts a σ) H → va_D A (WM ts a σ) → va_S A s.heap H locs → lv_has ls 6 [(0, .ref (a 0)), (1, .int x1), (3, .int x3), (4, .int x4), (5, .int x5)] → W p l e (rk 3 66) s m args below meth c H locs 0 0 Q (F0 m 114 ls []) := by
  have hx := C.1
  have hb := C.2.1
  have hown := C.2.2.2.1
  have hts := C.2.2.2.2.1
  intro n
  induction n with
  | zero =>
    intro σ x1 x3 x4 x5 H locs ls hf
    cases hf
  | succ n ih =>
    intro σ x1 x3 x4 x5 H locs ls hf hP hD hS hl
    rw [f_X12_name_b114] at hf
    refine lv_iload hx hb dX12_name_114 (lv_at hl 4 rfl) ?_
    refine lv_iload hx hb dX12_name_116 (lv_at hl 3 rfl) ?_
    refine lv_icmp_ge (tgt := 152) hx hb dX12_name_118 (by decide) (fun c28 => ?_) (fun c28 => ?_)
    · replace hf := ipos c28 hf
      refine lv_aload_n hx hb dX12_name_152 rfl (lv_at hl 0 rfl) ?_
      refine G_X12_longs C hP q_1079 dX12_name_153 ?_
      refine lv_aload_n hx hb dX12_name_156 rfl (lv_at hl 0 rfl) ?_
      refine G_X12_namesMany C hP q_1078 dX12_name_157 ?_
      refine lv_iload hx hb dX12_name_160 (lv_at hl 3 rfl) ?_
      obtain ⟨h29, hf⟩ := chk_some hf
      refine AS_X12_longs C hP hD hS h29 dX12_name_162 (fun H locs hP hD hS => ?_)
      refine nameS hP hD hf (fun σ30 hP hD hf => ?_)
      refine lv_aload_n hx hb dX12_name_163 rfl (lv_at hl 0 rfl) ?_
      refine G_X12_may C hP q_1072 dX12_name_164 ?_
      refine lv_aload_n hx hb dX12_name_167 rfl (lv_at hl 0 rfl) ?_
      refine G_X12_namesMany C hP q_1078 dX12_name_168 ?_
      refine lv_iconst (v := 1) hx hb dX12_name_171 (by decide) ?_
      obtain ⟨h31, hf⟩ := chk_some hf
      refine AS_X12_may C hP hD hS h31 dX12_name_172 (fun H locs hP hD hS => ?_)
      refine nameS hP hD hf (fun σ32 hP hD hf => ?_)
      refine lv_aload_n hx hb dX12_name_173 rfl (lv_at hl 0 rfl) ?_
      refine lv_dup hx hb dX12_name_174 rfl ?_
      refine G_X12_namesMany C hP q_1078 dX12_name_175 ?_
      refine lv_iconst (v := 1) hx hb dX12_name_178 (by decide) ?_
      refine lv_iadd hx hb dX12_name_179 ?_
      refine S_X12_namesMany C hP hD hS q_1078 dX12_name_180 (fun H locs hP hD hS => ?_)
      refine lv_aload_n hx hb dX12_name_183 rfl (lv_at hl 0 rfl) ?_
      refine G_X12_namesMany C hP q_1078 dX12_name_184 ?_
      refine lv_iconst (v := 1) hx hb dX12_name_187 (by decide) ?_
      refine lv_isub hx hb dX12_name_188 ?_
      exact retI hQ hf dX12_name_189 hP hD hS
    · replace hf := ineg c28 hf
      refine lv_aload_n hx hb dX12_name_121 rfl (lv_at hl 0 rfl) ?_
      refine G_X12_letters C hP q_1080 dX12_name_122 ?_
      refine lv_bipush (v := 6) hx hb dX12_name_125 (by decide) ?_
      refine lv_aload_n hx hb dX12_name_127 rfl (lv_at hl 0 rfl) ?_
      refine G_X12_namesMany C hP q_1078 dX12_name_128 ?_
      refine lv_imul hx hb dX12_name_131 ?_
      refine lv_iload hx hb dX12_name_132 (lv_at hl 4 rfl) ?_
      refine lv_iadd hx hb dX12_name_134 ?_
      refine lv_aload_n hx hb dX12_name_135 rfl (lv_at hl 0 rfl) ?_
      refine lv_iload_n hx hb dX12_name_136 rfl (lv_at hl 1 rfl) ?_
      refine lv_iload_n hx hb dX12_name_137 rfl (lv_at hl 2 rfl) ?_
      refine lv_iload hx hb dX12_name_138 (lv_at hl 4 rfl) ?_
      refine lv_iadd hx hb dX12_name_140 ?_
      obtain ⟨r34, σ35, h33, hf⟩ := bnd2_some hf
      refine vL [.int (((6 : Int32) * (σ.1 606 0)) + x5), .ref (a 6)] C hP hD hS (c_X12_itemAt h33) mv_X12_itemAt q_1226 rv_X12 dX12_name_141 ⟨Nat.le_of_ble_eq_true rfl, Nat.le_of_ble_eq_true rfl⟩ ⟨Nat.zero_le _, Nat.zero_le _⟩ rfl rfl (Nat.le_of_ble_eq_true rfl) hl.1 (fun H locs hP hD hS => ?_)
      refine lv_l2i (v := (r34 : Int64).toInt32) hx hb dX12_name_144 rfl ?_
      obtain ⟨h36, hf⟩ := chk_some hf
      refine AS_X12_letters C hP hD hS h36 dX12_name_145 (fun H locs hP hD hS => ?_)
      refine nameS hP hD hf (fun σ37 hP hD hf => ?_)
      obtain ⟨v38, ev38⟩ : ∃ z : Int32, z = x5 + 1 := ⟨_, rfl⟩
      replace hf := bnd_at ev38 hf
      refine lv_iinc (v := v38) (lv' := [(5, .int v38), (0, .ref (a 0)), (1, .int x1), (3, .int x3), (4, .int x4)]) hx hb dX12_name_146 hl (k := 4) rfl (by rw [ev38]; rfl) (by decide) rfl (fun ls hl => ?_)
      refine lv_goto (tgt := 114) hx hb dX12_name_149 (by decide) ?_
      exact ih _ _ _ _ _ _ _ _ hf hP hD hS (lv_sub hl [1, 2, 3, 4, 0] rfl)
set_option maxHeartbeats 4000000 in
set_option maxRecDepth 100000 in
theorem w_X12_name_b56 {p : Program} {l : Launch} {e : Env} {s : State} {m : MethodId} {args : Array Value} {below : List Frame} {meth : Method} {c : Code} {g : va_G} {ts : ClassId × ClassId × ClassId} {A : Nat → Prop} {Q : State → Prop} {a : Nat → Nat} {r : Int32} {σ' : St} (C : FX p s m args meth c RX12 cX12_name 6 g ts A) (hQ : RetI p l e (rk 3 66) s m args below meth c cX12_name g (WM ts a) A r σ' Q) : ∀ (n : Nat) (σ : St) (x1 : Int32) (x3 : Int32) (x4 : Int32) (x5 : Int32) (H : Heap) (locs : List Loc) (ls : Array Slot), f_X12_name_b56 n σ x1 x3 x4 x5 = some (r, σ') → va_P g classes (WM ts a σ) H → va_D A (WM ts a σ) → va_S A s.heap H locs → lv_has ls 6 [(0, .ref (a 0)), (1, .int x1), (3, .int x3), (4, .int x4), (5, .int x5)] → W p l e (rk 3 66) s m args below meth c H locs 0 0 Q (F0 m 56 ls []) := by
  have hx := C.1
  have hb := C.2.1
  have hown := C.2.2.2.1
  have hts := C.2.2.2.2.1
  intro n
  induction n with
  | zero =>
    intro σ x1 x3 x4 x5 H locs ls hf
    cases hf
  | succ n ih =>
    intro σ x1 x3 x4 x5 H locs ls hf hP hD hS hl
    rw [f_X12_name_b56] at hf
    refine lv_iload hx hb dX12_name_56 (lv_at hl 4 rfl) ?_
    refine lv_iload hx hb dX12_name_58 (lv_at hl 3 rfl) ?_
    refine lv_icmp_ge (tgt := 99) hx hb dX12_name_60 (by decide) (fun c17 => ?_) (fun c17 => ?_)
    · replace hf := ipos c17 hf
      refine lv_aload_n hx hb dX12_name_99 rfl (lv_at hl 0 rfl) ?_
      refine G_X12_namesMany C hP q_1078 dX12_name_100 ?_
      refine lv_bipush (v := 10) hx hb dX12_name_103 (by decide) ?_
      refine lv_icmp_ne (tgt := 111) hx hb dX12_name_105 (by decide) (fun c18 => ?_) (fun c18 => ?_)
      · replace hf := ineg c18 hf
        refine lv_iconst (v := 0) hx hb dX12_name_111 (by decide) ?_
        refine lv_istore (lv' := [(5, .int (0 : Int32)), (0, .ref (a 0)), (1, .int x1), (3, .int x3), (4, .int x4)]) hx hb dX12_name_112 hl (by decide) rfl (fun ls hl => ?_)
        exact w_X12_name_b114 C hQ 256 _ _ _ _ _ _ _ _ hf hP hD hS (lv_sub hl [1, 2, 3, 4, 0] rfl)
      · replace hf := ipos c18 hf
        refine lv_bipush (v := -3) hx hb dX12_name_108 (by decide) ?_
        exact retI hQ hf dX12_name_110 hP hD hS
    · replace hf := ineg c17 hf
      refine lv_iload_n hx hb dX12_name_63 rfl (lv_at hl 2 rfl) ?_
      refine lv_iload hx hb dX12_name_64 (lv_at hl 4 rfl) ?_
      refine lv_iadd hx hb dX12_name_66 ?_
      refine lv_aload_n hx hb dX12_name_67 rfl (lv_at hl 0 rfl) ?_
      refine G_X12_many C hP q_1112 dX12_name_68 ?_
      refine lv_iload_n hx hb dX12_name_71 rfl (lv_at hl 1 rfl) ?_
      obtain ⟨h19, hf⟩ := chk_some hf
      refine AL_X12_many C hP h19 dX12_name_72 ?_
      refine lv_icmp_ge (tgt := 91) hx hb dX12_name_73 (by decide) (fun c20 => ?_) (fun c20 => ?_)
      · replace hf := ipos c20 hf
        refine lv_iconst (v := -1) hx hb dX12_name_91 (by decide) ?_
        exact retI hQ hf dX12_name_92 hP hD hS
      · replace hf := ineg c20 hf
        refine lv_aload_n hx hb dX12_name_76 rfl (lv_at hl 0 rfl) ?_
        refine lv_iload_n hx hb dX12_name_77 rfl (lv_at hl 1 rfl) ?_
        refine lv_iload_n hx hb dX12_name_78 rfl (lv_at hl 2 rfl) ?_
        refine lv_iload hx hb dX12_name_79 (lv_at hl 4 rfl) ?_
        refine lv_iadd hx hb dX12_name_81 ?_
        obtain ⟨r22, σ23, h21, hf⟩ := bnd2_some hf
        refine vL [] C hP hD hS (c_X12_itemAt h21) mv_X12_itemAt q_1226 rv_X12 dX12_name_82 ⟨Nat.le_of_ble_eq_true rfl, Nat.le_of_ble_eq_true rfl⟩ ⟨Nat.zero_le _, Nat.zero_le _⟩ rfl rfl (Nat.le_of_ble_eq_true rfl) hl.1 (fun H locs hP hD hS => ?_)
        obtain ⟨r25, h24, hf⟩ := bnd1_some hf
        refine tI [] C hP hD hS (c_X12_isLetter h24) ms_X12_isLetter q_1230 dX12_name_85 ⟨Nat.le_of_ble_eq_true rfl, Nat.le_of_ble_eq_true rfl⟩ ⟨Nat.zero_le _, Nat.zero_le _⟩ rfl rfl (Nat.le_of_ble_eq_true rfl) hl.1 (fun H locs hP hD hS => ?_)
        refine lv_if_ne (tgt := 93) hx hb dX12_name_88 (by decide) (fun c26 => ?_) (fun c26 => ?_)
        · replace hf := ineg c26 hf
          obtain ⟨v27, ev27⟩ : ∃ z : Int32, z = x5 + 1 := ⟨_, rfl⟩
          replace hf := bnd_at ev27 hf
          refine lv_iinc (v := v27) (lv' := [(5, .int v27), (0, .ref (a 0)), (1, .int x1), (3, .int x3), (4, .int x4)]) hx hb dX12_name_93 hl (k := 4) rfl (by rw [ev27]; rfl) (by decide) rfl (fun ls hl => ?_)
          refine lv_goto (tgt := 56) hx hb dX12_name_96 (by decide) ?_
          exact ih _ _ _ _ _ _ _ _ hf hP hD hS (lv_sub hl [1, 2, 3, 4, 0] rfl)
        · replace hf := ipos c26 hf
          refine lv_iconst (v := -1) hx hb dX12_name_91 (by decide) ?_
          exact retI hQ hf dX12_name_92 hP hD hS
set_option maxHeartbeats 4000000 in
set_option maxRecDepth 100000 in
theorem c_X12_name {l : Launch} {g : va_G} {ts : ClassId × ClassId × ClassId} {a : Nat → Nat} {σ : St} {p1 : Int32} {p2 : Int32} {r : Int32} {σ' : St} (hf : f_X12_name σ p1 p2 = some (r, σ')) : ConI l g ts (WM ts a) yX12_name cX12_name 6 (some .int) (rk 3 66) σ [.ref (a 0), .int p1, .int p2] r σ' := by
  refine ConI_mk .int rfl rfl rfl rfl (by decide) (Nat.le_of_ble_eq_true rfl) ?_
  intro p e s m below meth c A Q ls C hQ hP hD hS hl
  have C : FX p s m _ meth c RX12 cX12_name 6 g ts A := C
  have hx := C.1
  have hb := C.2.1
  have hown := C.2.2.2.1
  have hts := C.2.2.2.2.1
  have hl : lv_has ls 6 [(0, .ref (a 0)), (1, .int p1), (2, .int p2)] := hl
  rw [f_X12_name] at hf
  refine lv_iload_n hx hb dX12_name_0 rfl (lv_at hl 1 rfl) ?_
  obtain ⟨r2, h1, hf⟩ := bnd1_some hf
  refine tI [] C hP hD hS (c_X12_isShelf h1) ms_X12_isShelf q_1214 dX12_name_1 ⟨Nat.le_of_ble_eq_true rfl, Nat.le_of_ble_eq_true rfl⟩ ⟨Nat.zero_le _, Nat.zero_le _⟩ rfl rfl (Nat.le_of_ble_eq_true rfl) hl.1 (fun H locs hP hD hS => ?_)
  refine lv_if_eq (tgt := 26) hx hb dX12_name_4 (by decide) (fun c3 => ?_) (fun c3 => ?_)
  · replace hf := ipos c3 hf
    refine lv_iconst (v := -1) hx hb dX12_name_26 (by decide) ?_
    exact retI hQ hf dX12_name_27 hP hD hS
  · replace hf := ineg c3 hf
    refine lv_iload_n hx hb dX12_name_7 rfl (lv_at hl 2 rfl) ?_
    refine lv_if_lt (tgt := 26) hx hb dX12_name_8 (by decide) (fun c4 => ?_) (fun c4 => ?_)
    · replace hf := ipos c4 hf
      refine lv_iconst (v := -1) hx hb dX12_name_26 (by decide) ?_
      exact retI hQ hf dX12_name_27 hP hD hS
    · replace hf := ineg c4 hf
      refine lv_iload_n hx hb dX12_name_11 rfl (lv_at hl 2 rfl) ?_
      refine lv_bipush (v := 10) hx hb dX12_name_12 (by decide) ?_
      refine lv_irem hx hb dX12_name_14 (by decide) ?_
      refine lv_i2l (v := ((p2 - p2 / (10 : Int32) * (10 : Int32)) : Int32).toInt64) hx hb dX12_name_15 rfl ?_
      refine lv_lconst (v := 1) hx hb dX12_name_16 (by decide) ?_
      refine lv_ldc2 hx hb hown (hts _ q_1221) dX12_name_17 ?_
      obtain ⟨r6, h5, hf⟩ := bnd1_some hf
      refine tI [] C hP hD hS (c_X12_within h5) ms_X12_within q_1218 dX12_name_20 ⟨Nat.le_of_ble_eq_true rfl, Nat.le_of_ble_eq_true rfl⟩ ⟨Nat.zero_le _, Nat.zero_le _⟩ rfl rfl (Nat.le_of_ble_eq_true rfl) hl.1 (fun H locs hP hD hS => ?_)
      refine lv_if_ne (tgt := 28) hx hb dX12_name_23 (by decide) (fun c7 => ?_) (fun c7 => ?_)
      · replace hf := ineg c7 hf
        refine lv_aload_n hx hb dX12_name_28 rfl (lv_at hl 0 rfl) ?_
        refine lv_iload_n hx hb dX12_name_29 rfl (lv_at hl 1 rfl) ?_
        obtain ⟨r9, σ10, h8, hf⟩ := bnd2_some hf
        refine vI [] C hP hD hS (c_X12_bytesIs h8) mv_X12_bytesIs q_1222 rv_X12 dX12_name_30 ⟨Nat.le_of_ble_eq_true rfl, Nat.le_of_ble_eq_true rfl⟩ ⟨Nat.zero_le _, Nat.zero_le _⟩ rfl rfl (Nat.le_of_ble_eq_true rfl) hl.1 (fun H locs hP hD hS => ?_)
        refine lv_if_ge (tgt := 42) hx hb dX12_name_33 (by decide) (fun c11 => ?_) (fun c11 => ?_)
        · replace hf := ipos c11 hf
          refine lv_iload_n hx hb dX12_name_42 rfl (lv_at hl 2 rfl) ?_
          refine lv_bipush (v := 10) hx hb dX12_name_43 (by decide) ?_
          refine lv_idiv hx hb dX12_name_45 (by decide) ?_
          refine lv_topi (fun v12 ev12 => ?_)
          replace hf := bnd_at ev12 hf
          refine lv_istore_n (lv' := [(3, .int v12), (0, .ref (a 0)), (1, .int p1), (2, .int p2)]) hx hb dX12_name_46 rfl hl (by decide) rfl (fun ls hl => ?_)
          refine lv_iload_n hx hb dX12_name_47 rfl (lv_at hl 3 rfl) ?_
          refine lv_bipush (v := 10) hx hb dX12_name_48 (by decide) ?_
          refine lv_irem hx hb dX12_name_50 (by decide) ?_
          refine lv_topi (fun v13 ev13 => ?_)
          replace hf := bnd_at ev13 hf
          refine lv_istore (lv' := [(4, .int v13), (3, .int v12), (0, .ref (a 0)), (1, .int p1), (2, .int p2)]) hx hb dX12_name_51 hl (by decide) rfl (fun ls hl => ?_)
          refine lv_iconst (v := 0) hx hb dX12_name_53 (by decide) ?_
          refine lv_istore (lv' := [(5, .int (0 : Int32)), (4, .int v13), (3, .int v12), (0, .ref (a 0)), (1, .int p1), (2, .int p2)]) hx hb dX12_name_54 hl (by decide) rfl (fun ls hl => ?_)
          exact w_X12_name_b56 C hQ 256 _ _ _ _ _ _ _ _ hf hP hD hS (lv_sub hl [3, 4, 2, 1, 0] rfl)
        · replace hf := ineg c11 hf
          refine lv_aload_n hx hb dX12_name_36 rfl (lv_at hl 0 rfl) ?_
          refine lv_iload_n hx hb dX12_name_37 rfl (lv_at hl 1 rfl) ?_
          obtain ⟨r15, σ16, h14, hf⟩ := bnd2_some hf
          refine vI [] C hP hD hS (c_X12_bytesIs h14) mv_X12_bytesIs q_1222 rv_X12 dX12_name_38 ⟨Nat.le_of_ble_eq_true rfl, Nat.le_of_ble_eq_true rfl⟩ ⟨Nat.zero_le _, Nat.zero_le _⟩ rfl rfl (Nat.le_of_ble_eq_true rfl) hl.1 (fun H locs hP hD hS => ?_)
          exact retI hQ hf dX12_name_41 hP hD hS
      · replace hf := ipos c7 hf
        refine lv_iconst (v := -1) hx hb dX12_name_26 (by decide) ?_
        exact retI hQ hf dX12_name_27 hP hD hS
theorem dX12_placeOf_0 : decode cX12_placeOf 0 = .ok (.iload_n 2, 1) := by decide +kernel
theorem dX12_placeOf_1 : decode cX12_placeOf 1 = .ok (.tableswitch 131 0 4 #[35, 49, 83, 101, 119], 35) := by decide +kernel
theorem dX12_placeOf_36 : decode cX12_placeOf 36 = .ok (.aload_n 0, 1) := by decide +kernel
theorem dX12_placeOf_37 : decode cX12_placeOf 37 = .ok (.iload_n 1, 1) := by decide +kernel
theorem dX12_placeOf_38 : decode cX12_placeOf 38 = .ok (.invokevirtual 116, 3) := by decide +kernel
theorem dX12_placeOf_41 : decode cX12_placeOf 41 = .ok (.ifCond .eq 7, 3) := by decide +kernel
theorem dX12_placeOf_44 : decode cX12_placeOf 44 = .ok (.iload_n 1, 1) := by decide +kernel
theorem dX12_placeOf_45 : decode cX12_placeOf 45 = .ok (.goto 4, 3) := by decide +kernel
theorem dX12_placeOf_48 : decode cX12_placeOf 48 = .ok (.iconst (-1), 1) := by decide +kernel
theorem dX12_placeOf_49 : decode cX12_placeOf 49 = .ok (.ireturn, 1) := by decide +kernel
theorem dX12_placeOf_50 : decode cX12_placeOf 50 = .ok (.iload_n 1, 1) := by decide +kernel
theorem dX12_placeOf_51 : decode cX12_placeOf 51 = .ok (.invokestatic 119, 3) := by decide +kernel
theorem dX12_placeOf_54 : decode cX12_placeOf 54 = .ok (.ifCond .eq 28, 3) := by decide +kernel
theorem dX12_placeOf_57 : decode cX12_placeOf 57 = .ok (.iload_n 1, 1) := by decide +kernel
theorem dX12_placeOf_58 : decode cX12_placeOf 58 = .ok (.bipush 100, 2) := by decide +kernel
theorem dX12_placeOf_60 : decode cX12_placeOf 60 = .ok (.idiv, 1) := by decide +kernel
theorem dX12_placeOf_61 : decode cX12_placeOf 61 = .ok (.iload_n 1, 1) := by decide +kernel
theorem dX12_placeOf_62 : decode cX12_placeOf 62 = .ok (.bipush 100, 2) := by decide +kernel
theorem dX12_placeOf_64 : decode cX12_placeOf 64 = .ok (.irem, 1) := by decide +kernel
theorem dX12_placeOf_65 : decode cX12_placeOf 65 = .ok (.if_icmp .eq 17, 3) := by decide +kernel
theorem dX12_placeOf_68 : decode cX12_placeOf 68 = .ok (.iload_n 1, 1) := by decide +kernel
theorem dX12_placeOf_69 : decode cX12_placeOf 69 = .ok (.bipush 100, 2) := by decide +kernel
theorem dX12_placeOf_71 : decode cX12_placeOf 71 = .ok (.idiv, 1) := by decide +kernel
theorem dX12_placeOf_72 : decode cX12_placeOf 72 = .ok (.iload_n 1, 1) := by decide +kernel
theorem dX12_placeOf_73 : decode cX12_placeOf 73 = .ok (.bipush 100, 2) := by decide +kernel
theorem dX12_placeOf_75 : decode cX12_placeOf 75 = .ok (.irem, 1) := by decide +kernel
theorem dX12_placeOf_76 : decode cX12_placeOf 76 = .ok (.invokestatic 122, 3) := by decide +kernel
theorem dX12_placeOf_79 : decode cX12_placeOf 79 = .ok (.goto 4, 3) := by decide +kernel
theorem dX12_placeOf_82 : decode cX12_placeOf 82 = .ok (.iconst (-1), 1) := by decide +kernel
theorem dX12_placeOf_83 : decode cX12_placeOf 83 = .ok (.ireturn, 1) := by decide +kernel
theorem dX12_placeOf_84 : decode cX12_placeOf 84 = .ok (.iload_n 1, 1) := by decide +kernel
theorem dX12_placeOf_85 : decode cX12_placeOf 85 = .ok (.i2l, 1) := by decide +kernel
theorem dX12_placeOf_86 : decode cX12_placeOf 86 = .ok (.invokestatic 112, 3) := by decide +kernel
theorem dX12_placeOf_89 : decode cX12_placeOf 89 = .ok (.ifCond .eq 11, 3) := by decide +kernel
theorem dX12_placeOf_92 : decode cX12_placeOf 92 = .ok (.sipush 154, 3) := by decide +kernel
theorem dX12_placeOf_95 : decode cX12_placeOf 95 = .ok (.iload_n 1, 1) := by decide +kernel
theorem dX12_placeOf_96 : decode cX12_placeOf 96 = .ok (.iadd, 1) := by decide +kernel
theorem dX12_placeOf_97 : decode cX12_placeOf 97 = .ok (.goto 4, 3) := by decide +kernel
theorem dX12_placeOf_100 : decode cX12_placeOf 100 = .ok (.iconst (-1), 1) := by decide +kernel
theorem dX12_placeOf_101 : decode cX12_placeOf 101 = .ok (.ireturn, 1) := by decide +kernel
theorem dX12_placeOf_102 : decode cX12_placeOf 102 = .ok (.iload_n 1, 1) := by decide +kernel
theorem dX12_placeOf_103 : decode cX12_placeOf 103 = .ok (.i2l, 1) := by decide +kernel
theorem dX12_placeOf_104 : decode cX12_placeOf 104 = .ok (.invokestatic 112, 3) := by decide +kernel
theorem dX12_placeOf_107 : decode cX12_placeOf 107 = .ok (.ifCond .eq 11, 3) := by decide +kernel
theorem dX12_placeOf_110 : decode cX12_placeOf 110 = .ok (.sipush 166, 3) := by decide +kernel
theorem dX12_placeOf_113 : decode cX12_placeOf 113 = .ok (.iload_n 1, 1) := by decide +kernel
theorem dX12_placeOf_114 : decode cX12_placeOf 114 = .ok (.iadd, 1) := by decide +kernel
theorem dX12_placeOf_115 : decode cX12_placeOf 115 = .ok (.goto 4, 3) := by decide +kernel
theorem dX12_placeOf_118 : decode cX12_placeOf 118 = .ok (.iconst (-1), 1) := by decide +kernel
theorem dX12_placeOf_119 : decode cX12_placeOf 119 = .ok (.ireturn, 1) := by decide +kernel
theorem dX12_placeOf_120 : decode cX12_placeOf 120 = .ok (.iload_n 1, 1) := by decide +kernel
theorem dX12_placeOf_121 : decode cX12_placeOf 121 = .ok (.ifCond .ne 9, 3) := by decide +kernel
theorem dX12_placeOf_124 : decode cX12_placeOf 124 = .ok (.sipush 178, 3) := by decide +kernel
theorem dX12_placeOf_127 : decode cX12_placeOf 127 = .ok (.goto 4, 3) := by decide +kernel
theorem dX12_placeOf_130 : decode cX12_placeOf 130 = .ok (.iconst (-1), 1) := by decide +kernel
theorem dX12_placeOf_131 : decode cX12_placeOf 131 = .ok (.ireturn, 1) := by decide +kernel
theorem dX12_placeOf_132 : decode cX12_placeOf 132 = .ok (.iconst (-1), 1) := by decide +kernel
theorem dX12_placeOf_133 : decode cX12_placeOf 133 = .ok (.ireturn, 1) := by decide +kernel
def f_X12_placeOf (σ : St) (p1 : Int32) (p2 : Int32) : Option (Int32 × St) := if p2 = 0 then (bnd2 (f_X12_isName σ p1) (fun r3 σ4 => if r3 = 0 then (some ((-1 : Int32), σ4)) else (some (p1, σ4)))) else (if p2 = 1 then (bnd1 (f_X12_isTwo p1) (fun r8 => if r8 = 0 then (some ((-1 : Int32), σ)) else (if p1 / (100 : Int32) = p1 - p1 / (100 : Int32) * (100 : Int32) then (some ((-1 : Int32), σ)) else (bnd1 (f_X12_alikeAt (p1 / (100 : Int32)) (p1 - p1 / (100 : Int32) * (100 : Int32))) (fun r12 => some (r12, σ)))))) else (if p2 = 2 then (bnd1 (f_X12_isLetter ((p1 : Int32).toInt64)) (fun r15 => if r15 = 0 then (some ((-1 : Int32), σ)) else (some ((154 : Int32) + p1, σ)))) else (if p2 = 3 then (bnd1 (f_X12_isLetter ((p1 : Int32).toInt64)) (fun r19 => if r19 = 0 then (some ((-1 : Int32), σ)) else (some ((166 : Int32) + p1, σ)))) else (if p2 = 4 then (if p1 = 0 then (some ((178 : Int32), σ)) else (some ((-1 : Int32), σ))) else (some ((-1 : Int32), σ))))))
set_option maxHeartbeats 4000000 in
set_option maxRecDepth 100000 in
theorem c_X12_placeOf {l : Launch} {g : va_G} {ts : ClassId × ClassId × ClassId} {a : Nat → Nat} {σ : St} {p1 : Int32} {p2 : Int32} {r : Int32} {σ' : St} (hf : f_X12_placeOf σ p1 p2 = some (r, σ')) : ConI l g ts (WM ts a) yX12_placeOf cX12_placeOf 3 (some .int) (rk 3 66) σ [.ref (a 0), .int p1, .int p2] r σ' := by
  refine ConI_mk .int rfl rfl rfl rfl (by decide) (Nat.le_of_ble_eq_true rfl) ?_
  intro p e s m below meth c A Q ls C hQ hP hD hS hl
  have C : FX p s m _ meth c RX12 cX12_placeOf 3 g ts A := C
  have hx := C.1
  have hb := C.2.1
  have hown := C.2.2.2.1
  have hts := C.2.2.2.2.1
  have hl : lv_has ls 3 [(0, .ref (a 0)), (1, .int p1), (2, .int p2)] := hl
  rw [f_X12_placeOf] at hf
  refine lv_iload_n hx hb dX12_placeOf_0 rfl (lv_at hl 2 rfl) ?_
  by_cases c1 : p2 = 0
  · replace hf := ipos c1 hf
    refine lv_tableIn (off := 35) (tgt := 36) hx hb dX12_placeOf_1 (by rw [c1]; decide) (by rw [c1]; decide) (by rw [c1]; rfl) (by decide) ?_
    refine lv_aload_n hx hb dX12_placeOf_36 rfl (lv_at hl 0 rfl) ?_
    refine lv_iload_n hx hb dX12_placeOf_37 rfl (lv_at hl 1 rfl) ?_
    obtain ⟨r3, σ4, h2, hf⟩ := bnd2_some hf
    refine vI [] C hP hD hS (c_X12_isName h2) mv_X12_isName q_1242 rv_X12 dX12_placeOf_38 ⟨Nat.le_of_ble_eq_true rfl, Nat.le_of_ble_eq_true rfl⟩ ⟨Nat.zero_le _, Nat.zero_le _⟩ rfl rfl (Nat.le_of_ble_eq_true rfl) hl.1 (fun H locs hP hD hS => ?_)
    refine lv_if_eq (tgt := 48) hx hb dX12_placeOf_41 (by decide) (fun c5 => ?_) (fun c5 => ?_)
    · replace hf := ipos c5 hf
      refine lv_iconst (v := -1) hx hb dX12_placeOf_48 (by decide) ?_
      exact retI hQ hf dX12_placeOf_49 hP hD hS
    · replace hf := ineg c5 hf
      refine lv_iload_n hx hb dX12_placeOf_44 rfl (lv_at hl 1 rfl) ?_
      refine lv_goto (tgt := 49) hx hb dX12_placeOf_45 (by decide) ?_
      exact retI hQ hf dX12_placeOf_49 hP hD hS
  · replace hf := ineg c1 hf
    by_cases c6 : p2 = 1
    · replace hf := ipos c6 hf
      refine lv_tableIn (off := 49) (tgt := 50) hx hb dX12_placeOf_1 (by rw [c6]; decide) (by rw [c6]; decide) (by rw [c6]; rfl) (by decide) ?_
      refine lv_iload_n hx hb dX12_placeOf_50 rfl (lv_at hl 1 rfl) ?_
      obtain ⟨r8, h7, hf⟩ := bnd1_some hf
      refine tI [] C hP hD hS (c_X12_isTwo h7) ms_X12_isTwo q_1246 dX12_placeOf_51 ⟨Nat.le_of_ble_eq_true rfl, Nat.le_of_ble_eq_true rfl⟩ ⟨Nat.zero_le _, Nat.zero_le _⟩ rfl rfl (Nat.le_of_ble_eq_true rfl) hl.1 (fun H locs hP hD hS => ?_)
      refine lv_if_eq (tgt := 82) hx hb dX12_placeOf_54 (by decide) (fun c9 => ?_) (fun c9 => ?_)
      · replace hf := ipos c9 hf
        refine lv_iconst (v := -1) hx hb dX12_placeOf_82 (by decide) ?_
        exact retI hQ hf dX12_placeOf_83 hP hD hS
      · replace hf := ineg c9 hf
        refine lv_iload_n hx hb dX12_placeOf_57 rfl (lv_at hl 1 rfl) ?_
        refine lv_bipush (v := 100) hx hb dX12_placeOf_58 (by decide) ?_
        refine lv_idiv hx hb dX12_placeOf_60 (by decide) ?_
        refine lv_iload_n hx hb dX12_placeOf_61 rfl (lv_at hl 1 rfl) ?_
        refine lv_bipush (v := 100) hx hb dX12_placeOf_62 (by decide) ?_
        refine lv_irem hx hb dX12_placeOf_64 (by decide) ?_
        refine lv_icmp_eq (tgt := 82) hx hb dX12_placeOf_65 (by decide) (fun c10 => ?_) (fun c10 => ?_)
        · replace hf := ipos c10 hf
          refine lv_iconst (v := -1) hx hb dX12_placeOf_82 (by decide) ?_
          exact retI hQ hf dX12_placeOf_83 hP hD hS
        · replace hf := ineg c10 hf
          refine lv_iload_n hx hb dX12_placeOf_68 rfl (lv_at hl 1 rfl) ?_
          refine lv_bipush (v := 100) hx hb dX12_placeOf_69 (by decide) ?_
          refine lv_idiv hx hb dX12_placeOf_71 (by decide) ?_
          refine lv_iload_n hx hb dX12_placeOf_72 rfl (lv_at hl 1 rfl) ?_
          refine lv_bipush (v := 100) hx hb dX12_placeOf_73 (by decide) ?_
          refine lv_irem hx hb dX12_placeOf_75 (by decide) ?_
          obtain ⟨r12, h11, hf⟩ := bnd1_some hf
          refine tI [] C hP hD hS (c_X12_alikeAt h11) ms_X12_alikeAt q_1249 dX12_placeOf_76 ⟨Nat.le_of_ble_eq_true rfl, Nat.le_of_ble_eq_true rfl⟩ ⟨Nat.zero_le _, Nat.zero_le _⟩ rfl rfl (Nat.le_of_ble_eq_true rfl) hl.1 (fun H locs hP hD hS => ?_)
          refine lv_goto (tgt := 83) hx hb dX12_placeOf_79 (by decide) ?_
          exact retI hQ hf dX12_placeOf_83 hP hD hS
    · replace hf := ineg c6 hf
      by_cases c13 : p2 = 2
      · replace hf := ipos c13 hf
        refine lv_tableIn (off := 83) (tgt := 84) hx hb dX12_placeOf_1 (by rw [c13]; decide) (by rw [c13]; decide) (by rw [c13]; rfl) (by decide) ?_
        refine lv_iload_n hx hb dX12_placeOf_84 rfl (lv_at hl 1 rfl) ?_
        refine lv_i2l (v := (p1 : Int32).toInt64) hx hb dX12_placeOf_85 rfl ?_
        obtain ⟨r15, h14, hf⟩ := bnd1_some hf
        refine tI [] C hP hD hS (c_X12_isLetter h14) ms_X12_isLetter q_1230 dX12_placeOf_86 ⟨Nat.le_of_ble_eq_true rfl, Nat.le_of_ble_eq_true rfl⟩ ⟨Nat.zero_le _, Nat.zero_le _⟩ rfl rfl (Nat.le_of_ble_eq_true rfl) hl.1 (fun H locs hP hD hS => ?_)
        refine lv_if_eq (tgt := 100) hx hb dX12_placeOf_89 (by decide) (fun c16 => ?_) (fun c16 => ?_)
        · replace hf := ipos c16 hf
          refine lv_iconst (v := -1) hx hb dX12_placeOf_100 (by decide) ?_
          exact retI hQ hf dX12_placeOf_101 hP hD hS
        · replace hf := ineg c16 hf
          refine lv_sipush (v := 154) hx hb dX12_placeOf_92 (by decide) ?_
          refine lv_iload_n hx hb dX12_placeOf_95 rfl (lv_at hl 1 rfl) ?_
          refine lv_iadd hx hb dX12_placeOf_96 ?_
          refine lv_goto (tgt := 101) hx hb dX12_placeOf_97 (by decide) ?_
          exact retI hQ hf dX12_placeOf_101 hP hD hS
      · replace hf := ineg c13 hf
        by_cases c17 : p2 = 3
        · replace hf := ipos c17 hf
          refine lv_tableIn (off := 101) (tgt := 102) hx hb dX12_placeOf_1 (by rw [c17]; decide) (by rw [c17]; decide) (by rw [c17]; rfl) (by decide) ?_
          refine lv_iload_n hx hb dX12_placeOf_102 rfl (lv_at hl 1 rfl) ?_
          refine lv_i2l (v := (p1 : Int32).toInt64) hx hb dX12_placeOf_103 rfl ?_
          obtain ⟨r19, h18, hf⟩ := bnd1_some hf
          refine tI [] C hP hD hS (c_X12_isLetter h18) ms_X12_isLetter q_1230 dX12_placeOf_104 ⟨Nat.le_of_ble_eq_true rfl, Nat.le_of_ble_eq_true rfl⟩ ⟨Nat.zero_le _, Nat.zero_le _⟩ rfl rfl (Nat.le_of_ble_eq_true rfl) hl.1 (fun H locs hP hD hS => ?_)
          refine lv_if_eq (tgt := 118) hx hb dX12_placeOf_107 (by decide) (fun c20 => ?_) (fun c20 => ?_)
          · replace hf := ipos c20 hf
            refine lv_iconst (v := -1) hx hb dX12_placeOf_118 (by decide) ?_
            exact retI hQ hf dX12_placeOf_119 hP hD hS
          · replace hf := ineg c20 hf
            refine lv_sipush (v := 166) hx hb dX12_placeOf_110 (by decide) ?_
            refine lv_iload_n hx hb dX12_placeOf_113 rfl (lv_at hl 1 rfl) ?_
            refine lv_iadd hx hb dX12_placeOf_114 ?_
            refine lv_goto (tgt := 119) hx hb dX12_placeOf_115 (by decide) ?_
            exact retI hQ hf dX12_placeOf_119 hP hD hS
        · replace hf := ineg c17 hf
          by_cases c21 : p2 = 4
          · replace hf := ipos c21 hf
            refine lv_tableIn (off := 119) (tgt := 120) hx hb dX12_placeOf_1 (by rw [c21]; decide) (by rw [c21]; decide) (by rw [c21]; rfl) (by decide) ?_
            refine lv_iload_n hx hb dX12_placeOf_120 rfl (lv_at hl 1 rfl) ?_
            refine lv_if_ne (tgt := 130) hx hb dX12_placeOf_121 (by decide) (fun c22 => ?_) (fun c22 => ?_)
            · replace hf := ineg c22 hf
              refine lv_iconst (v := -1) hx hb dX12_placeOf_130 (by decide) ?_
              exact retI hQ hf dX12_placeOf_131 hP hD hS
            · replace hf := ipos c22 hf
              refine lv_sipush (v := 178) hx hb dX12_placeOf_124 (by decide) ?_
              refine lv_goto (tgt := 131) hx hb dX12_placeOf_127 (by decide) ?_
              exact retI hQ hf dX12_placeOf_131 hP hD hS
          · replace hf := ineg c21 hf
            refine lv_tableOut (tgt := 132) hx hb dX12_placeOf_1 (by have uc1 := lv_neT c1 (a := 0) (by decide); have uc6 := lv_neT c6 (a := 1) (by decide); have uc13 := lv_neT c13 (a := 2) (by decide); have uc17 := lv_neT c17 (a := 3) (by decide); have uc21 := lv_neT c21 (a := 4) (by decide); omega) (by decide) ?_
            refine lv_iconst (v := -1) hx hb dX12_placeOf_132 (by decide) ?_
            exact retI hQ hf dX12_placeOf_133 hP hD hS
theorem dX12_mend_0 : decode cX12_mend 0 = .ok (.aload_n 0, 1) := by decide +kernel
theorem dX12_mend_1 : decode cX12_mend 1 = .ok (.iload_n 1, 1) := by decide +kernel
theorem dX12_mend_2 : decode cX12_mend 2 = .ok (.iload_n 2, 1) := by decide +kernel
theorem dX12_mend_3 : decode cX12_mend 3 = .ok (.invokevirtual 126, 3) := by decide +kernel
theorem dX12_mend_6 : decode cX12_mend 6 = .ok (.istore 4, 2) := by decide +kernel
theorem dX12_mend_8 : decode cX12_mend 8 = .ok (.iload 4, 2) := by decide +kernel
theorem dX12_mend_10 : decode cX12_mend 10 = .ok (.ifCond .lt 45, 3) := by decide +kernel
theorem dX12_mend_13 : decode cX12_mend 13 = .ok (.iload_n 3, 1) := by decide +kernel
theorem dX12_mend_14 : decode cX12_mend 14 = .ok (.i2l, 1) := by decide +kernel
theorem dX12_mend_15 : decode cX12_mend 15 = .ok (.iload_n 2, 1) := by decide +kernel
theorem dX12_mend_16 : decode cX12_mend 16 = .ok (.iconst 2, 1) := by decide +kernel
theorem dX12_mend_17 : decode cX12_mend 17 = .ok (.if_icmp .ne 7, 3) := by decide +kernel
theorem dX12_mend_20 : decode cX12_mend 20 = .ok (.lconst 1, 1) := by decide +kernel
theorem dX12_mend_21 : decode cX12_mend 21 = .ok (.goto 4, 3) := by decide +kernel
theorem dX12_mend_24 : decode cX12_mend 24 = .ok (.lconst 0, 1) := by decide +kernel
theorem dX12_mend_25 : decode cX12_mend 25 = .ok (.iload_n 2, 1) := by decide +kernel
theorem dX12_mend_26 : decode cX12_mend 26 = .ok (.iconst 3, 1) := by decide +kernel
theorem dX12_mend_27 : decode cX12_mend 27 = .ok (.if_icmp .ne 9, 3) := by decide +kernel
theorem dX12_mend_30 : decode cX12_mend 30 = .ok (.ldc2_w 129, 3) := by decide +kernel
theorem dX12_mend_33 : decode cX12_mend 33 = .ok (.goto 6, 3) := by decide +kernel
theorem dX12_mend_36 : decode cX12_mend 36 = .ok (.ldc2_w 131, 3) := by decide +kernel
theorem dX12_mend_39 : decode cX12_mend 39 = .ok (.invokestatic 91, 3) := by decide +kernel
theorem dX12_mend_42 : decode cX12_mend 42 = .ok (.ifCond .eq 13, 3) := by decide +kernel
theorem dX12_mend_45 : decode cX12_mend 45 = .ok (.aload_n 0, 1) := by decide +kernel
theorem dX12_mend_46 : decode cX12_mend 46 = .ok (.iload 4, 2) := by decide +kernel
theorem dX12_mend_48 : decode cX12_mend 48 = .ok (.iload_n 3, 1) := by decide +kernel
theorem dX12_mend_49 : decode cX12_mend 49 = .ok (.invokevirtual 133, 3) := by decide +kernel
theorem dX12_mend_52 : decode cX12_mend 52 = .ok (.goto 4, 3) := by decide +kernel
theorem dX12_mend_55 : decode cX12_mend 55 = .ok (.iconst (-1), 1) := by decide +kernel
theorem dX12_mend_56 : decode cX12_mend 56 = .ok (.ireturn, 1) := by decide +kernel
def f_X12_mend_b39 (σ : St) (x3 : Int32) (x4 : Int32) (s0 : Int64) (s1 : Int64) (s2 : Int64) : Option (Int32 × St) := bnd1 (f_X12_within s2 s1 s0) (fun r8 => if r8 = 0 then (some ((-1 : Int32), σ)) else (bnd2 (f_X12_becomes σ x4 x3) (fun r11 σ12 => some (r11, σ12))))
def f_X12_mend_b25 (σ : St) (x2 : Int32) (x3 : Int32) (x4 : Int32) (s0 : Int64) (s1 : Int64) : Option (Int32 × St) := if x2 = (3 : Int32) then (f_X12_mend_b39 σ x3 x4 (12 : Int64) s0 s1) else (f_X12_mend_b39 σ x3 x4 (9 : Int64) s0 s1)
def f_X12_mend (σ : St) (p1 : Int32) (p2 : Int32) (p3 : Int32) : Option (Int32 × St) := bnd2 (f_X12_placeOf σ p1 p2) (fun r2 σ3 => if r2 < 0 then (some ((-1 : Int32), σ3)) else (if p2 = (2 : Int32) then (f_X12_mend_b25 σ3 p2 p3 r2 (1 : Int64) ((p3 : Int32).toInt64)) else (f_X12_mend_b25 σ3 p2 p3 r2 (0 : Int64) ((p3 : Int32).toInt64))))
set_option maxHeartbeats 4000000 in
set_option maxRecDepth 100000 in
theorem w_X12_mend_b39 {p : Program} {l : Launch} {e : Env} {s : State} {m : MethodId} {args : Array Value} {below : List Frame} {meth : Method} {c : Code} {g : va_G} {ts : ClassId × ClassId × ClassId} {A : Nat → Prop} {Q : State → Prop} {a : Nat → Nat} {r : Int32} {σ' : St} (C : FX p s m args meth c RX12 cX12_mend 5 g ts A) (hQ : RetI p l e (rk 4 88) s m args below meth c cX12_mend g (WM ts a) A r σ' Q) : ∀ (σ : St) (x3 : Int32) (x4 : Int32) (s0 : Int64) (s1 : Int64) (s2 : Int64) (H : Heap) (locs : List Loc) (ls : Array Slot), f_X12_mend_b39 σ x3 x4 s0 s1 s2 = some (r, σ') → va_P g classes (WM ts a σ) H → va_D A (WM ts a σ) → va_S A s.heap H locs → lv_has ls 5 [(0, .ref (a 0)), (3, .int x3), (4, .int x4)] → W p l e (rk 4 88) s m args below meth c H locs 0 0 Q (F0 m 39 ls [.long s0, .long s1, .long s2]) := by
  have hx := C.1
  have hb := C.2.1
  have hown := C.2.2.2.1
  have hts := C.2.2.2.2.1
  intro σ x3 x4 s0 s1 s2 H locs ls hf hP hD hS hl
  rw [f_X12_mend_b39] at hf
  obtain ⟨r8, h7, hf⟩ := bnd1_some hf
  refine tI [] C hP hD hS (c_X12_within h7) ms_X12_within q_1218 dX12_mend_39 ⟨Nat.le_of_ble_eq_true rfl, Nat.le_of_ble_eq_true rfl⟩ ⟨Nat.zero_le _, Nat.zero_le _⟩ rfl rfl (Nat.le_of_ble_eq_true rfl) hl.1 (fun H locs hP hD hS => ?_)
  refine lv_if_eq (tgt := 55) hx hb dX12_mend_42 (by decide) (fun c9 => ?_) (fun c9 => ?_)
  · replace hf := ipos c9 hf
    refine lv_iconst (v := -1) hx hb dX12_mend_55 (by decide) ?_
    exact retI hQ hf dX12_mend_56 hP hD hS
  · replace hf := ineg c9 hf
    refine lv_aload_n hx hb dX12_mend_45 rfl (lv_at hl 0 rfl) ?_
    refine lv_iload hx hb dX12_mend_46 (lv_at hl 2 rfl) ?_
    refine lv_iload_n hx hb dX12_mend_48 rfl (lv_at hl 1 rfl) ?_
    obtain ⟨r11, σ12, h10, hf⟩ := bnd2_some hf
    refine vI [] C hP hD hS (c_X12_becomes h10) mv_X12_becomes q_1254 rv_X12 dX12_mend_49 ⟨Nat.le_of_ble_eq_true rfl, Nat.le_of_ble_eq_true rfl⟩ ⟨Nat.zero_le _, Nat.zero_le _⟩ rfl rfl (Nat.le_of_ble_eq_true rfl) hl.1 (fun H locs hP hD hS => ?_)
    refine lv_goto (tgt := 56) hx hb dX12_mend_52 (by decide) ?_
    exact retI hQ hf dX12_mend_56 hP hD hS
set_option maxHeartbeats 4000000 in
set_option maxRecDepth 100000 in
theorem w_X12_mend_b25 {p : Program} {l : Launch} {e : Env} {s : State} {m : MethodId} {args : Array Value} {below : List Frame} {meth : Method} {c : Code} {g : va_G} {ts : ClassId × ClassId × ClassId} {A : Nat → Prop} {Q : State → Prop} {a : Nat → Nat} {r : Int32} {σ' : St} (C : FX p s m args meth c RX12 cX12_mend 5 g ts A) (hQ : RetI p l e (rk 4 88) s m args below meth c cX12_mend g (WM ts a) A r σ' Q) : ∀ (σ : St) (x2 : Int32) (x3 : Int32) (x4 : Int32) (s0 : Int64) (s1 : Int64) (H : Heap) (locs : List Loc) (ls : Array Slot), f_X12_mend_b25 σ x2 x3 x4 s0 s1 = some (r, σ') → va_P g classes (WM ts a σ) H → va_D A (WM ts a σ) → va_S A s.heap H locs → lv_has ls 5 [(0, .ref (a 0)), (2, .int x2), (3, .int x3), (4, .int x4)] → W p l e (rk 4 88) s m args below meth c H locs 0 0 Q (F0 m 25 ls [.long s0, .long s1]) := by
  have hx := C.1
  have hb := C.2.1
  have hown := C.2.2.2.1
  have hts := C.2.2.2.2.1
  intro σ x2 x3 x4 s0 s1 H locs ls hf hP hD hS hl
  rw [f_X12_mend_b25] at hf
  refine lv_iload_n hx hb dX12_mend_25 rfl (lv_at hl 1 rfl) ?_
  refine lv_iconst (v := 3) hx hb dX12_mend_26 (by decide) ?_
  refine lv_icmp_ne (tgt := 36) hx hb dX12_mend_27 (by decide) (fun c6 => ?_) (fun c6 => ?_)
  · replace hf := ineg c6 hf
    refine lv_ldc2 hx hb hown (hts _ q_1253) dX12_mend_36 ?_
    exact w_X12_mend_b39 C hQ _ _ _ _ _ _ _ _ _ hf hP hD hS (lv_sub hl [0, 2, 3] rfl)
  · replace hf := ipos c6 hf
    refine lv_ldc2 hx hb hown (hts _ q_1252) dX12_mend_30 ?_
    refine lv_goto (tgt := 39) hx hb dX12_mend_33 (by decide) ?_
    exact w_X12_mend_b39 C hQ _ _ _ _ _ _ _ _ _ hf hP hD hS (lv_sub hl [0, 2, 3] rfl)
set_option maxHeartbeats 4000000 in
set_option maxRecDepth 100000 in
theorem c_X12_mend {l : Launch} {g : va_G} {ts : ClassId × ClassId × ClassId} {a : Nat → Nat} {σ : St} {p1 : Int32} {p2 : Int32} {p3 : Int32} {r : Int32} {σ' : St} (hf : f_X12_mend σ p1 p2 p3 = some (r, σ')) : ConI l g ts (WM ts a) yX12_mend cX12_mend 5 (some .int) (rk 4 88) σ [.ref (a 0), .int p1, .int p2, .int p3] r σ' := by
  refine ConI_mk .int rfl rfl rfl rfl (by decide) (Nat.le_of_ble_eq_true rfl) ?_
  intro p e s m below meth c A Q ls C hQ hP hD hS hl
  have C : FX p s m _ meth c RX12 cX12_mend 5 g ts A := C
  have hx := C.1
  have hb := C.2.1
  have hown := C.2.2.2.1
  have hts := C.2.2.2.2.1
  have hl : lv_has ls 5 [(0, .ref (a 0)), (1, .int p1), (2, .int p2), (3, .int p3)] := hl
  rw [f_X12_mend] at hf
  refine lv_aload_n hx hb dX12_mend_0 rfl (lv_at hl 0 rfl) ?_
  refine lv_iload_n hx hb dX12_mend_1 rfl (lv_at hl 1 rfl) ?_
  refine lv_iload_n hx hb dX12_mend_2 rfl (lv_at hl 2 rfl) ?_
  obtain ⟨r2, σ3, h1, hf⟩ := bnd2_some hf
  refine vI [] C hP hD hS (c_X12_placeOf h1) mv_X12_placeOf q_1238 rv_X12 dX12_mend_3 ⟨Nat.le_of_ble_eq_true rfl, Nat.le_of_ble_eq_true rfl⟩ ⟨Nat.zero_le _, Nat.zero_le _⟩ rfl rfl (Nat.le_of_ble_eq_true rfl) hl.1 (fun H locs hP hD hS => ?_)
  refine lv_istore (lv' := [(4, .int r2), (0, .ref (a 0)), (1, .int p1), (2, .int p2), (3, .int p3)]) hx hb dX12_mend_6 hl (by decide) rfl (fun ls hl => ?_)
  refine lv_iload hx hb dX12_mend_8 (lv_at hl 0 rfl) ?_
  refine lv_if_lt (tgt := 55) hx hb dX12_mend_10 (by decide) (fun c4 => ?_) (fun c4 => ?_)
  · replace hf := ipos c4 hf
    refine lv_iconst (v := -1) hx hb dX12_mend_55 (by decide) ?_
    exact retI hQ hf dX12_mend_56 hP hD hS
  · replace hf := ineg c4 hf
    refine lv_iload_n hx hb dX12_mend_13 rfl (lv_at hl 4 rfl) ?_
    refine lv_i2l (v := (p3 : Int32).toInt64) hx hb dX12_mend_14 rfl ?_
    refine lv_iload_n hx hb dX12_mend_15 rfl (lv_at hl 3 rfl) ?_
    refine lv_iconst (v := 2) hx hb dX12_mend_16 (by decide) ?_
    refine lv_icmp_ne (tgt := 24) hx hb dX12_mend_17 (by decide) (fun c5 => ?_) (fun c5 => ?_)
    · replace hf := ineg c5 hf
      refine lv_lconst (v := 0) hx hb dX12_mend_24 (by decide) ?_
      exact w_X12_mend_b25 C hQ _ _ _ _ _ _ _ _ _ hf hP hD hS (lv_sub hl [1, 3, 4, 0] rfl)
    · replace hf := ipos c5 hf
      refine lv_lconst (v := 1) hx hb dX12_mend_20 (by decide) ?_
      refine lv_goto (tgt := 25) hx hb dX12_mend_21 (by decide) ?_
      exact w_X12_mend_b25 C hQ _ _ _ _ _ _ _ _ _ hf hP hD hS (lv_sub hl [1, 3, 4, 0] rfl)
theorem dX12_of_0 : decode cX12_of 0 = .ok (.aload_n 0, 1) := by decide +kernel
theorem dX12_of_1 : decode cX12_of 1 = .ok (.iload_n 1, 1) := by decide +kernel
theorem dX12_of_2 : decode cX12_of 2 = .ok (.iload_n 2, 1) := by decide +kernel
theorem dX12_of_3 : decode cX12_of 3 = .ok (.invokevirtual 126, 3) := by decide +kernel
theorem dX12_of_6 : decode cX12_of 6 = .ok (.istore_n 3, 1) := by decide +kernel
theorem dX12_of_7 : decode cX12_of 7 = .ok (.iload_n 3, 1) := by decide +kernel
theorem dX12_of_8 : decode cX12_of 8 = .ok (.ifCond .lt 10, 3) := by decide +kernel
theorem dX12_of_11 : decode cX12_of 11 = .ok (.aload_n 0, 1) := by decide +kernel
theorem dX12_of_12 : decode cX12_of 12 = .ok (.getfield 11, 3) := by decide +kernel
theorem dX12_of_15 : decode cX12_of 15 = .ok (.iload_n 3, 1) := by decide +kernel
theorem dX12_of_16 : decode cX12_of 16 = .ok (.iaload, 1) := by decide +kernel
theorem dX12_of_17 : decode cX12_of 17 = .ok (.ireturn, 1) := by decide +kernel
theorem dX12_of_18 : decode cX12_of 18 = .ok (.iload_n 2, 1) := by decide +kernel
theorem dX12_of_19 : decode cX12_of 19 = .ok (.iconst 1, 1) := by decide +kernel
theorem dX12_of_20 : decode cX12_of 20 = .ok (.if_icmp .ne 17, 3) := by decide +kernel
theorem dX12_of_23 : decode cX12_of 23 = .ok (.iload_n 1, 1) := by decide +kernel
theorem dX12_of_24 : decode cX12_of 24 = .ok (.invokestatic 119, 3) := by decide +kernel
theorem dX12_of_27 : decode cX12_of 27 = .ok (.ifCond .eq 8, 3) := by decide +kernel
theorem dX12_of_30 : decode cX12_of 30 = .ok (.bipush 9, 2) := by decide +kernel
theorem dX12_of_32 : decode cX12_of 32 = .ok (.goto 4, 3) := by decide +kernel
theorem dX12_of_35 : decode cX12_of 35 = .ok (.iconst (-1), 1) := by decide +kernel
theorem dX12_of_36 : decode cX12_of 36 = .ok (.ireturn, 1) := by decide +kernel
theorem dX12_of_37 : decode cX12_of 37 = .ok (.iload_n 2, 1) := by decide +kernel
theorem dX12_of_38 : decode cX12_of 38 = .ok (.iconst 5, 1) := by decide +kernel
theorem dX12_of_39 : decode cX12_of 39 = .ok (.if_icmp .ne 20, 3) := by decide +kernel
theorem dX12_of_42 : decode cX12_of 42 = .ok (.aload_n 0, 1) := by decide +kernel
theorem dX12_of_43 : decode cX12_of 43 = .ok (.iload_n 1, 1) := by decide +kernel
theorem dX12_of_44 : decode cX12_of 44 = .ok (.invokevirtual 116, 3) := by decide +kernel
theorem dX12_of_47 : decode cX12_of 47 = .ok (.ifCond .eq 12, 3) := by decide +kernel
theorem dX12_of_50 : decode cX12_of 50 = .ok (.aload_n 0, 1) := by decide +kernel
theorem dX12_of_51 : decode cX12_of 51 = .ok (.getfield 24, 3) := by decide +kernel
theorem dX12_of_54 : decode cX12_of 54 = .ok (.iload_n 1, 1) := by decide +kernel
theorem dX12_of_55 : decode cX12_of 55 = .ok (.iaload, 1) := by decide +kernel
theorem dX12_of_56 : decode cX12_of 56 = .ok (.goto 4, 3) := by decide +kernel
theorem dX12_of_59 : decode cX12_of 59 = .ok (.iconst (-1), 1) := by decide +kernel
theorem dX12_of_60 : decode cX12_of 60 = .ok (.ireturn, 1) := by decide +kernel
def f_X12_of (σ : St) (p1 : Int32) (p2 : Int32) : Option (Int32 × St) := bnd2 (f_X12_placeOf σ p1 p2) (fun r2 σ3 => if r2 < 0 then (if p2 = (1 : Int32) then (bnd1 (f_X12_isTwo p1) (fun r13 => if r13 = 0 then (some ((-1 : Int32), σ3)) else (some ((9 : Int32), σ3)))) else (if p2 = (5 : Int32) then (bnd2 (f_X12_isName σ3 p1) (fun r8 σ9 => if r8 = 0 then (some ((-1 : Int32), σ9)) else (chk (p1 < 0 ∨ 10 ≤ p1.toNatClampNeg) (some (σ9.2.2.1 607 0 p1.toNatClampNeg, σ9))))) else (some ((-1 : Int32), σ3)))) else (chk (r2 < 0 ∨ 179 ≤ r2.toNatClampNeg) (some (σ3.2.2.1 600 0 r2.toNatClampNeg, σ3))))
set_option maxHeartbeats 4000000 in
set_option maxRecDepth 100000 in
theorem c_X12_of {l : Launch} {g : va_G} {ts : ClassId × ClassId × ClassId} {a : Nat → Nat} {σ : St} {p1 : Int32} {p2 : Int32} {r : Int32} {σ' : St} (hf : f_X12_of σ p1 p2 = some (r, σ')) : ConI l g ts (WM ts a) yX12_of cX12_of 4 (some .int) (rk 4 88) σ [.ref (a 0), .int p1, .int p2] r σ' := by
  refine ConI_mk .int rfl rfl rfl rfl (by decide) (Nat.le_of_ble_eq_true rfl) ?_
  intro p e s m below meth c A Q ls C hQ hP hD hS hl
  have C : FX p s m _ meth c RX12 cX12_of 4 g ts A := C
  have hx := C.1
  have hb := C.2.1
  have hown := C.2.2.2.1
  have hts := C.2.2.2.2.1
  have hl : lv_has ls 4 [(0, .ref (a 0)), (1, .int p1), (2, .int p2)] := hl
  rw [f_X12_of] at hf
  refine lv_aload_n hx hb dX12_of_0 rfl (lv_at hl 0 rfl) ?_
  refine lv_iload_n hx hb dX12_of_1 rfl (lv_at hl 1 rfl) ?_
  refine lv_iload_n hx hb dX12_of_2 rfl (lv_at hl 2 rfl) ?_
  obtain ⟨r2, σ3, h1, hf⟩ := bnd2_some hf
  refine vI [] C hP hD hS (c_X12_placeOf h1) mv_X12_placeOf q_1238 rv_X12 dX12_of_3 ⟨Nat.le_of_ble_eq_true rfl, Nat.le_of_ble_eq_true rfl⟩ ⟨Nat.zero_le _, Nat.zero_le _⟩ rfl rfl (Nat.le_of_ble_eq_true rfl) hl.1 (fun H locs hP hD hS => ?_)
  refine lv_istore_n (lv' := [(3, .int r2), (0, .ref (a 0)), (1, .int p1), (2, .int p2)]) hx hb dX12_of_6 rfl hl (by decide) rfl (fun ls hl => ?_)
  refine lv_iload_n hx hb dX12_of_7 rfl (lv_at hl 0 rfl) ?_
  refine lv_if_lt (tgt := 18) hx hb dX12_of_8 (by decide) (fun c4 => ?_) (fun c4 => ?_)
  · replace hf := ipos c4 hf
    refine lv_iload_n hx hb dX12_of_18 rfl (lv_at hl 3 rfl) ?_
    refine lv_iconst (v := 1) hx hb dX12_of_19 (by decide) ?_
    refine lv_icmp_ne (tgt := 37) hx hb dX12_of_20 (by decide) (fun c5 => ?_) (fun c5 => ?_)
    · replace hf := ineg c5 hf
      refine lv_iload_n hx hb dX12_of_37 rfl (lv_at hl 3 rfl) ?_
      refine lv_iconst (v := 5) hx hb dX12_of_38 (by decide) ?_
      refine lv_icmp_ne (tgt := 59) hx hb dX12_of_39 (by decide) (fun c6 => ?_) (fun c6 => ?_)
      · replace hf := ineg c6 hf
        refine lv_iconst (v := -1) hx hb dX12_of_59 (by decide) ?_
        exact retI hQ hf dX12_of_60 hP hD hS
      · replace hf := ipos c6 hf
        refine lv_aload_n hx hb dX12_of_42 rfl (lv_at hl 1 rfl) ?_
        refine lv_iload_n hx hb dX12_of_43 rfl (lv_at hl 2 rfl) ?_
        obtain ⟨r8, σ9, h7, hf⟩ := bnd2_some hf
        refine vI [] C hP hD hS (c_X12_isName h7) mv_X12_isName q_1242 rv_X12 dX12_of_44 ⟨Nat.le_of_ble_eq_true rfl, Nat.le_of_ble_eq_true rfl⟩ ⟨Nat.zero_le _, Nat.zero_le _⟩ rfl rfl (Nat.le_of_ble_eq_true rfl) hl.1 (fun H locs hP hD hS => ?_)
        refine lv_if_eq (tgt := 59) hx hb dX12_of_47 (by decide) (fun c10 => ?_) (fun c10 => ?_)
        · replace hf := ipos c10 hf
          refine lv_iconst (v := -1) hx hb dX12_of_59 (by decide) ?_
          exact retI hQ hf dX12_of_60 hP hD hS
        · replace hf := ineg c10 hf
          refine lv_aload_n hx hb dX12_of_50 rfl (lv_at hl 1 rfl) ?_
          refine G_X12_longs C hP q_1079 dX12_of_51 ?_
          refine lv_iload_n hx hb dX12_of_54 rfl (lv_at hl 2 rfl) ?_
          obtain ⟨h11, hf⟩ := chk_some hf
          refine AL_X12_longs C hP h11 dX12_of_55 ?_
          refine lv_goto (tgt := 60) hx hb dX12_of_56 (by decide) ?_
          exact retI hQ hf dX12_of_60 hP hD hS
    · replace hf := ipos c5 hf
      refine lv_iload_n hx hb dX12_of_23 rfl (lv_at hl 2 rfl) ?_
      obtain ⟨r13, h12, hf⟩ := bnd1_some hf
      refine tI [] C hP hD hS (c_X12_isTwo h12) ms_X12_isTwo q_1246 dX12_of_24 ⟨Nat.le_of_ble_eq_true rfl, Nat.le_of_ble_eq_true rfl⟩ ⟨Nat.zero_le _, Nat.zero_le _⟩ rfl rfl (Nat.le_of_ble_eq_true rfl) hl.1 (fun H locs hP hD hS => ?_)
      refine lv_if_eq (tgt := 35) hx hb dX12_of_27 (by decide) (fun c14 => ?_) (fun c14 => ?_)
      · replace hf := ipos c14 hf
        refine lv_iconst (v := -1) hx hb dX12_of_35 (by decide) ?_
        exact retI hQ hf dX12_of_36 hP hD hS
      · replace hf := ineg c14 hf
        refine lv_bipush (v := 9) hx hb dX12_of_30 (by decide) ?_
        refine lv_goto (tgt := 36) hx hb dX12_of_32 (by decide) ?_
        exact retI hQ hf dX12_of_36 hP hD hS
  · replace hf := ineg c4 hf
    refine lv_aload_n hx hb dX12_of_11 rfl (lv_at hl 1 rfl) ?_
    refine G_X12_may C hP q_1072 dX12_of_12 ?_
    refine lv_iload_n hx hb dX12_of_15 rfl (lv_at hl 0 rfl) ?_
    obtain ⟨h15, hf⟩ := chk_some hf
    refine AL_X12_may C hP h15 dX12_of_16 ?_
    exact retI hQ hf dX12_of_17 hP hD hS
theorem dX12_letter_0 : decode cX12_letter 0 = .ok (.aload_n 0, 1) := by decide +kernel
theorem dX12_letter_1 : decode cX12_letter 1 = .ok (.iload_n 1, 1) := by decide +kernel
theorem dX12_letter_2 : decode cX12_letter 2 = .ok (.invokevirtual 116, 3) := by decide +kernel
theorem dX12_letter_5 : decode cX12_letter 5 = .ok (.ifCond .eq 7, 3) := by decide +kernel
theorem dX12_letter_8 : decode cX12_letter 8 = .ok (.iload_n 2, 1) := by decide +kernel
theorem dX12_letter_9 : decode cX12_letter 9 = .ok (.ifCond .ge 5, 3) := by decide +kernel
theorem dX12_letter_12 : decode cX12_letter 12 = .ok (.iconst (-1), 1) := by decide +kernel
theorem dX12_letter_13 : decode cX12_letter 13 = .ok (.ireturn, 1) := by decide +kernel
theorem dX12_letter_14 : decode cX12_letter 14 = .ok (.iload_n 2, 1) := by decide +kernel
theorem dX12_letter_15 : decode cX12_letter 15 = .ok (.aload_n 0, 1) := by decide +kernel
theorem dX12_letter_16 : decode cX12_letter 16 = .ok (.getfield 24, 3) := by decide +kernel
theorem dX12_letter_19 : decode cX12_letter 19 = .ok (.iload_n 1, 1) := by decide +kernel
theorem dX12_letter_20 : decode cX12_letter 20 = .ok (.iaload, 1) := by decide +kernel
theorem dX12_letter_21 : decode cX12_letter 21 = .ok (.if_icmp .ge 12, 3) := by decide +kernel
theorem dX12_letter_24 : decode cX12_letter 24 = .ok (.aload_n 0, 1) := by decide +kernel
theorem dX12_letter_25 : decode cX12_letter 25 = .ok (.iload_n 1, 1) := by decide +kernel
theorem dX12_letter_26 : decode cX12_letter 26 = .ok (.iload_n 2, 1) := by decide +kernel
theorem dX12_letter_27 : decode cX12_letter 27 = .ok (.invokevirtual 136, 3) := by decide +kernel
theorem dX12_letter_30 : decode cX12_letter 30 = .ok (.goto 5, 3) := by decide +kernel
theorem dX12_letter_33 : decode cX12_letter 33 = .ok (.bipush (-2), 2) := by decide +kernel
theorem dX12_letter_35 : decode cX12_letter 35 = .ok (.ireturn, 1) := by decide +kernel
def f_X12_letter (σ : St) (p1 : Int32) (p2 : Int32) : Option (Int32 × St) := bnd2 (f_X12_isName σ p1) (fun r2 σ3 => if r2 = 0 then (some ((-1 : Int32), σ3)) else (if 0 ≤ p2 then (chk (p1 < 0 ∨ 10 ≤ p1.toNatClampNeg) (if σ3.2.2.1 607 0 p1.toNatClampNeg ≤ p2 then (some ((-2 : Int32), σ3)) else (bnd2 (f_X12_at1 σ3 p1 p2) (fun r9 σ10 => some (r9, σ10))))) else (some ((-1 : Int32), σ3))))
set_option maxHeartbeats 4000000 in
set_option maxRecDepth 100000 in
theorem c_X12_letter {l : Launch} {g : va_G} {ts : ClassId × ClassId × ClassId} {a : Nat → Nat} {σ : St} {p1 : Int32} {p2 : Int32} {r : Int32} {σ' : St} (hf : f_X12_letter σ p1 p2 = some (r, σ')) : ConI l g ts (WM ts a) yX12_letter cX12_letter 3 (some .int) (rk 2 46) σ [.ref (a 0), .int p1, .int p2] r σ' := by
  refine ConI_mk .int rfl rfl rfl rfl (by decide) (Nat.le_of_ble_eq_true rfl) ?_
  intro p e s m below meth c A Q ls C hQ hP hD hS hl
  have C : FX p s m _ meth c RX12 cX12_letter 3 g ts A := C
  have hx := C.1
  have hb := C.2.1
  have hown := C.2.2.2.1
  have hts := C.2.2.2.2.1
  have hl : lv_has ls 3 [(0, .ref (a 0)), (1, .int p1), (2, .int p2)] := hl
  rw [f_X12_letter] at hf
  refine lv_aload_n hx hb dX12_letter_0 rfl (lv_at hl 0 rfl) ?_
  refine lv_iload_n hx hb dX12_letter_1 rfl (lv_at hl 1 rfl) ?_
  obtain ⟨r2, σ3, h1, hf⟩ := bnd2_some hf
  refine vI [] C hP hD hS (c_X12_isName h1) mv_X12_isName q_1242 rv_X12 dX12_letter_2 ⟨Nat.le_of_ble_eq_true rfl, Nat.le_of_ble_eq_true rfl⟩ ⟨Nat.zero_le _, Nat.zero_le _⟩ rfl rfl (Nat.le_of_ble_eq_true rfl) hl.1 (fun H locs hP hD hS => ?_)
  refine lv_if_eq (tgt := 12) hx hb dX12_letter_5 (by decide) (fun c4 => ?_) (fun c4 => ?_)
  · replace hf := ipos c4 hf
    refine lv_iconst (v := -1) hx hb dX12_letter_12 (by decide) ?_
    exact retI hQ hf dX12_letter_13 hP hD hS
  · replace hf := ineg c4 hf
    refine lv_iload_n hx hb dX12_letter_8 rfl (lv_at hl 2 rfl) ?_
    refine lv_if_ge (tgt := 14) hx hb dX12_letter_9 (by decide) (fun c5 => ?_) (fun c5 => ?_)
    · replace hf := ipos c5 hf
      refine lv_iload_n hx hb dX12_letter_14 rfl (lv_at hl 2 rfl) ?_
      refine lv_aload_n hx hb dX12_letter_15 rfl (lv_at hl 0 rfl) ?_
      refine G_X12_longs C hP q_1079 dX12_letter_16 ?_
      refine lv_iload_n hx hb dX12_letter_19 rfl (lv_at hl 1 rfl) ?_
      obtain ⟨h6, hf⟩ := chk_some hf
      refine AL_X12_longs C hP h6 dX12_letter_20 ?_
      refine lv_icmp_ge (tgt := 33) hx hb dX12_letter_21 (by decide) (fun c7 => ?_) (fun c7 => ?_)
      · replace hf := ipos c7 hf
        refine lv_bipush (v := -2) hx hb dX12_letter_33 (by decide) ?_
        exact retI hQ hf dX12_letter_35 hP hD hS
      · replace hf := ineg c7 hf
        refine lv_aload_n hx hb dX12_letter_24 rfl (lv_at hl 0 rfl) ?_
        refine lv_iload_n hx hb dX12_letter_25 rfl (lv_at hl 1 rfl) ?_
        refine lv_iload_n hx hb dX12_letter_26 rfl (lv_at hl 2 rfl) ?_
        obtain ⟨r9, σ10, h8, hf⟩ := bnd2_some hf
        refine vI [] C hP hD hS (c_X12_at1 h8) mv_X12_at1 q_1266 rv_X12 dX12_letter_27 ⟨Nat.le_of_ble_eq_true rfl, Nat.le_of_ble_eq_true rfl⟩ ⟨Nat.zero_le _, Nat.zero_le _⟩ rfl rfl (Nat.le_of_ble_eq_true rfl) hl.1 (fun H locs hP hD hS => ?_)
        refine lv_goto (tgt := 35) hx hb dX12_letter_30 (by decide) ?_
        exact retI hQ hf dX12_letter_35 hP hD hS
    · replace hf := ineg c5 hf
      refine lv_iconst (v := -1) hx hb dX12_letter_12 (by decide) ?_
      exact retI hQ hf dX12_letter_13 hP hD hS
theorem dX12_feed_0 : decode cX12_feed 0 = .ok (.iload_n 1, 1) := by decide +kernel
theorem dX12_feed_1 : decode cX12_feed 1 = .ok (.i2l, 1) := by decide +kernel
theorem dX12_feed_2 : decode cX12_feed 2 = .ok (.lconst 0, 1) := by decide +kernel
theorem dX12_feed_3 : decode cX12_feed 3 = .ok (.ldc2_w 139, 3) := by decide +kernel
theorem dX12_feed_6 : decode cX12_feed 6 = .ok (.invokestatic 91, 3) := by decide +kernel
theorem dX12_feed_9 : decode cX12_feed 9 = .ok (.ifCond .ne 5, 3) := by decide +kernel
theorem dX12_feed_12 : decode cX12_feed 12 = .ok (.iconst (-1), 1) := by decide +kernel
theorem dX12_feed_13 : decode cX12_feed 13 = .ok (.ireturn, 1) := by decide +kernel
theorem dX12_feed_14 : decode cX12_feed 14 = .ok (.aload_n 0, 1) := by decide +kernel
theorem dX12_feed_15 : decode cX12_feed 15 = .ok (.getfield 141, 3) := by decide +kernel
theorem dX12_feed_18 : decode cX12_feed 18 = .ok (.bipush 120, 2) := by decide +kernel
theorem dX12_feed_20 : decode cX12_feed 20 = .ok (.if_icmp .ne 6, 3) := by decide +kernel
theorem dX12_feed_23 : decode cX12_feed 23 = .ok (.bipush (-3), 2) := by decide +kernel
theorem dX12_feed_25 : decode cX12_feed 25 = .ok (.ireturn, 1) := by decide +kernel
theorem dX12_feed_26 : decode cX12_feed 26 = .ok (.aload_n 0, 1) := by decide +kernel
theorem dX12_feed_27 : decode cX12_feed 27 = .ok (.getfield 30, 3) := by decide +kernel
theorem dX12_feed_30 : decode cX12_feed 30 = .ok (.aload_n 0, 1) := by decide +kernel
theorem dX12_feed_31 : decode cX12_feed 31 = .ok (.getfield 141, 3) := by decide +kernel
theorem dX12_feed_34 : decode cX12_feed 34 = .ok (.iload_n 1, 1) := by decide +kernel
theorem dX12_feed_35 : decode cX12_feed 35 = .ok (.iastore, 1) := by decide +kernel
theorem dX12_feed_36 : decode cX12_feed 36 = .ok (.aload_n 0, 1) := by decide +kernel
theorem dX12_feed_37 : decode cX12_feed 37 = .ok (.dup, 1) := by decide +kernel
theorem dX12_feed_38 : decode cX12_feed 38 = .ok (.getfield 141, 3) := by decide +kernel
theorem dX12_feed_41 : decode cX12_feed 41 = .ok (.iconst 1, 1) := by decide +kernel
theorem dX12_feed_42 : decode cX12_feed 42 = .ok (.iadd, 1) := by decide +kernel
theorem dX12_feed_43 : decode cX12_feed 43 = .ok (.putfield 141, 3) := by decide +kernel
theorem dX12_feed_46 : decode cX12_feed 46 = .ok (.aload_n 0, 1) := by decide +kernel
theorem dX12_feed_47 : decode cX12_feed 47 = .ok (.getfield 141, 3) := by decide +kernel
theorem dX12_feed_50 : decode cX12_feed 50 = .ok (.ireturn, 1) := by decide +kernel
def f_X12_feed (σ : St) (p1 : Int32) : Option (Int32 × St) := bnd1 (f_X12_within ((p1 : Int32).toInt64) (0 : Int64) (255 : Int64)) (fun r2 => if r2 = 0 then (some ((-1 : Int32), σ)) else (if σ.1 610 0 = (120 : Int32) then (some ((-3 : Int32), σ)) else (chk (σ.1 610 0 < 0 ∨ 120 ≤ (σ.1 610 0).toNatClampNeg) (bnd (sA σ 609 0 (upd (σ.2.2.1 609 0) (σ.1 610 0).toNatClampNeg p1)) (fun σ6 => some ((sI σ6 610 0 ((σ6.1 610 0) + (1 : Int32))).1 610 0, sI σ6 610 0 ((σ6.1 610 0) + (1 : Int32))))))))
set_option maxHeartbeats 4000000 in
set_option maxRecDepth 100000 in
theorem c_X12_feed {l : Launch} {g : va_G} {ts : ClassId × ClassId × ClassId} {a : Nat → Nat} {σ : St} {p1 : Int32} {r : Int32} {σ' : St} (hf : f_X12_feed σ p1 = some (r, σ')) : ConI l g ts (WM ts a) yX12_feed cX12_feed 2 (some .int) (rk 1 25) σ [.ref (a 0), .int p1] r σ' := by
  refine ConI_mk .int rfl rfl rfl rfl (by decide) (Nat.le_of_ble_eq_true rfl) ?_
  intro p e s m below meth c A Q ls C hQ hP hD hS hl
  have C : FX p s m _ meth c RX12 cX12_feed 2 g ts A := C
  have hx := C.1
  have hb := C.2.1
  have hown := C.2.2.2.1
  have hts := C.2.2.2.2.1
  have hl : lv_has ls 2 [(0, .ref (a 0)), (1, .int p1)] := hl
  rw [f_X12_feed] at hf
  refine lv_iload_n hx hb dX12_feed_0 rfl (lv_at hl 1 rfl) ?_
  refine lv_i2l (v := (p1 : Int32).toInt64) hx hb dX12_feed_1 rfl ?_
  refine lv_lconst (v := 0) hx hb dX12_feed_2 (by decide) ?_
  refine lv_ldc2 hx hb hown (hts _ q_1274) dX12_feed_3 ?_
  obtain ⟨r2, h1, hf⟩ := bnd1_some hf
  refine tI [] C hP hD hS (c_X12_within h1) ms_X12_within q_1218 dX12_feed_6 ⟨Nat.le_of_ble_eq_true rfl, Nat.le_of_ble_eq_true rfl⟩ ⟨Nat.zero_le _, Nat.zero_le _⟩ rfl rfl (Nat.le_of_ble_eq_true rfl) hl.1 (fun H locs hP hD hS => ?_)
  refine lv_if_ne (tgt := 14) hx hb dX12_feed_9 (by decide) (fun c3 => ?_) (fun c3 => ?_)
  · replace hf := ineg c3 hf
    refine lv_aload_n hx hb dX12_feed_14 rfl (lv_at hl 0 rfl) ?_
    refine G_X12_tapeMany C hP q_1082 dX12_feed_15 ?_
    refine lv_bipush (v := 120) hx hb dX12_feed_18 (by decide) ?_
    refine lv_icmp_ne (tgt := 26) hx hb dX12_feed_20 (by decide) (fun c4 => ?_) (fun c4 => ?_)
    · replace hf := ineg c4 hf
      refine lv_aload_n hx hb dX12_feed_26 rfl (lv_at hl 0 rfl) ?_
      refine G_X12_tape C hP q_1081 dX12_feed_27 ?_
      refine lv_aload_n hx hb dX12_feed_30 rfl (lv_at hl 0 rfl) ?_
      refine G_X12_tapeMany C hP q_1082 dX12_feed_31 ?_
      refine lv_iload_n hx hb dX12_feed_34 rfl (lv_at hl 1 rfl) ?_
      obtain ⟨h5, hf⟩ := chk_some hf
      refine AS_X12_tape C hP hD hS h5 dX12_feed_35 (fun H locs hP hD hS => ?_)
      refine nameS hP hD hf (fun σ6 hP hD hf => ?_)
      refine lv_aload_n hx hb dX12_feed_36 rfl (lv_at hl 0 rfl) ?_
      refine lv_dup hx hb dX12_feed_37 rfl ?_
      refine G_X12_tapeMany C hP q_1082 dX12_feed_38 ?_
      refine lv_iconst (v := 1) hx hb dX12_feed_41 (by decide) ?_
      refine lv_iadd hx hb dX12_feed_42 ?_
      refine S_X12_tapeMany C hP hD hS q_1082 dX12_feed_43 (fun H locs hP hD hS => ?_)
      refine lv_aload_n hx hb dX12_feed_46 rfl (lv_at hl 0 rfl) ?_
      refine G_X12_tapeMany C hP q_1082 dX12_feed_47 ?_
      exact retI hQ hf dX12_feed_50 hP hD hS
    · replace hf := ipos c4 hf
      refine lv_bipush (v := -3) hx hb dX12_feed_23 (by decide) ?_
      exact retI hQ hf dX12_feed_25 hP hD hS
  · replace hf := ipos c3 hf
    refine lv_iconst (v := -1) hx hb dX12_feed_12 (by decide) ?_
    exact retI hQ hf dX12_feed_13 hP hD hS
theorem dX12_workOut_0 : decode cX12_workOut 0 = .ok (.aload_n 0, 1) := by decide +kernel
theorem dX12_workOut_1 : decode cX12_workOut 1 = .ok (.iload_n 1, 1) := by decide +kernel
theorem dX12_workOut_2 : decode cX12_workOut 2 = .ok (.putfield 150, 3) := by decide +kernel
theorem dX12_workOut_5 : decode cX12_workOut 5 = .ok (.aload_n 0, 1) := by decide +kernel
theorem dX12_workOut_6 : decode cX12_workOut 6 = .ok (.iconst 0, 1) := by decide +kernel
theorem dX12_workOut_7 : decode cX12_workOut 7 = .ok (.putfield 144, 3) := by decide +kernel
theorem dX12_workOut_10 : decode cX12_workOut 10 = .ok (.aload_n 0, 1) := by decide +kernel
theorem dX12_workOut_11 : decode cX12_workOut 11 = .ok (.iload_n 2, 1) := by decide +kernel
theorem dX12_workOut_12 : decode cX12_workOut 12 = .ok (.putfield 147, 3) := by decide +kernel
theorem dX12_workOut_15 : decode cX12_workOut 15 = .ok (.aload_n 0, 1) := by decide +kernel
theorem dX12_workOut_16 : decode cX12_workOut 16 = .ok (.iconst (-1), 1) := by decide +kernel
theorem dX12_workOut_17 : decode cX12_workOut 17 = .ok (.putfield 153, 3) := by decide +kernel
theorem dX12_workOut_20 : decode cX12_workOut 20 = .ok (.aload_n 0, 1) := by decide +kernel
theorem dX12_workOut_21 : decode cX12_workOut 21 = .ok (.iconst 0, 1) := by decide +kernel
theorem dX12_workOut_22 : decode cX12_workOut 22 = .ok (.putfield 178, 3) := by decide +kernel
theorem dX12_workOut_25 : decode cX12_workOut 25 = .ok (.iconst 0, 1) := by decide +kernel
theorem dX12_workOut_26 : decode cX12_workOut 26 = .ok (.istore_n 3, 1) := by decide +kernel
theorem dX12_workOut_27 : decode cX12_workOut 27 = .ok (.iconst 0, 1) := by decide +kernel
theorem dX12_workOut_28 : decode cX12_workOut 28 = .ok (.istore 4, 2) := by decide +kernel
theorem dX12_workOut_30 : decode cX12_workOut 30 = .ok (.iconst 1, 1) := by decide +kernel
theorem dX12_workOut_31 : decode cX12_workOut 31 = .ok (.istore 5, 2) := by decide +kernel
theorem dX12_workOut_33 : decode cX12_workOut 33 = .ok (.iload 5, 2) := by decide +kernel
theorem dX12_workOut_35 : decode cX12_workOut 35 = .ok (.ifCond .eq 72, 3) := by decide +kernel
theorem dX12_workOut_38 : decode cX12_workOut 38 = .ok (.aload_n 0, 1) := by decide +kernel
theorem dX12_workOut_39 : decode cX12_workOut 39 = .ok (.invokevirtual 184, 3) := by decide +kernel
theorem dX12_workOut_42 : decode cX12_workOut 42 = .ok (.istore 6, 2) := by decide +kernel
theorem dX12_workOut_44 : decode cX12_workOut 44 = .ok (.iconst 1, 1) := by decide +kernel
theorem dX12_workOut_45 : decode cX12_workOut 45 = .ok (.istore 7, 2) := by decide +kernel
theorem dX12_workOut_47 : decode cX12_workOut 47 = .ok (.aload_n 0, 1) := by decide +kernel
theorem dX12_workOut_48 : decode cX12_workOut 48 = .ok (.bipush 63, 2) := by decide +kernel
theorem dX12_workOut_50 : decode cX12_workOut 50 = .ok (.invokevirtual 163, 3) := by decide +kernel
theorem dX12_workOut_53 : decode cX12_workOut 53 = .ok (.ifCond .eq 21, 3) := by decide +kernel
theorem dX12_workOut_56 : decode cX12_workOut 56 = .ok (.iload 6, 2) := by decide +kernel
theorem dX12_workOut_58 : decode cX12_workOut 58 = .ok (.ifCond .eq 7, 3) := by decide +kernel
theorem dX12_workOut_61 : decode cX12_workOut 61 = .ok (.iconst 1, 1) := by decide +kernel
theorem dX12_workOut_62 : decode cX12_workOut 62 = .ok (.goto 4, 3) := by decide +kernel
theorem dX12_workOut_65 : decode cX12_workOut 65 = .ok (.iconst 0, 1) := by decide +kernel
theorem dX12_workOut_66 : decode cX12_workOut 66 = .ok (.istore 7, 2) := by decide +kernel
theorem dX12_workOut_68 : decode cX12_workOut 68 = .ok (.aload_n 0, 1) := by decide +kernel
theorem dX12_workOut_69 : decode cX12_workOut 69 = .ok (.invokevirtual 184, 3) := by decide +kernel
theorem dX12_workOut_72 : decode cX12_workOut 72 = .ok (.istore 6, 2) := by decide +kernel
theorem dX12_workOut_74 : decode cX12_workOut 74 = .ok (.aload_n 0, 1) := by decide +kernel
theorem dX12_workOut_75 : decode cX12_workOut 75 = .ok (.getfield 153, 3) := by decide +kernel
theorem dX12_workOut_78 : decode cX12_workOut 78 = .ok (.ifCond .ge 18, 3) := by decide +kernel
theorem dX12_workOut_81 : decode cX12_workOut 81 = .ok (.iload 7, 2) := by decide +kernel
theorem dX12_workOut_83 : decode cX12_workOut 83 = .ok (.ifCond .eq 13, 3) := by decide +kernel
theorem dX12_workOut_86 : decode cX12_workOut 86 = .ok (.iload_n 3, 1) := by decide +kernel
theorem dX12_workOut_87 : decode cX12_workOut 87 = .ok (.ifCond .ne 9, 3) := by decide +kernel
theorem dX12_workOut_90 : decode cX12_workOut 90 = .ok (.iconst 1, 1) := by decide +kernel
theorem dX12_workOut_91 : decode cX12_workOut 91 = .ok (.istore_n 3, 1) := by decide +kernel
theorem dX12_workOut_92 : decode cX12_workOut 92 = .ok (.iload 6, 2) := by decide +kernel
theorem dX12_workOut_94 : decode cX12_workOut 94 = .ok (.istore 4, 2) := by decide +kernel
theorem dX12_workOut_96 : decode cX12_workOut 96 = .ok (.aload_n 0, 1) := by decide +kernel
theorem dX12_workOut_97 : decode cX12_workOut 97 = .ok (.bipush 59, 2) := by decide +kernel
theorem dX12_workOut_99 : decode cX12_workOut 99 = .ok (.invokevirtual 163, 3) := by decide +kernel
theorem dX12_workOut_102 : decode cX12_workOut 102 = .ok (.istore 5, 2) := by decide +kernel
theorem dX12_workOut_104 : decode cX12_workOut 104 = .ok (.goto (-71), 3) := by decide +kernel
theorem dX12_workOut_107 : decode cX12_workOut 107 = .ok (.aload_n 0, 1) := by decide +kernel
theorem dX12_workOut_108 : decode cX12_workOut 108 = .ok (.getfield 153, 3) := by decide +kernel
theorem dX12_workOut_111 : decode cX12_workOut 111 = .ok (.ifCond .ge 19, 3) := by decide +kernel
theorem dX12_workOut_114 : decode cX12_workOut 114 = .ok (.aload_n 0, 1) := by decide +kernel
theorem dX12_workOut_115 : decode cX12_workOut 115 = .ok (.getfield 144, 3) := by decide +kernel
theorem dX12_workOut_118 : decode cX12_workOut 118 = .ok (.aload_n 0, 1) := by decide +kernel
theorem dX12_workOut_119 : decode cX12_workOut 119 = .ok (.getfield 147, 3) := by decide +kernel
theorem dX12_workOut_122 : decode cX12_workOut 122 = .ok (.if_icmp .ge 8, 3) := by decide +kernel
theorem dX12_workOut_125 : decode cX12_workOut 125 = .ok (.aload_n 0, 1) := by decide +kernel
theorem dX12_workOut_126 : decode cX12_workOut 126 = .ok (.invokevirtual 181, 3) := by decide +kernel
theorem dX12_workOut_129 : decode cX12_workOut 129 = .ok (.ireturn, 1) := by decide +kernel
theorem dX12_workOut_130 : decode cX12_workOut 130 = .ok (.iload 4, 2) := by decide +kernel
theorem dX12_workOut_132 : decode cX12_workOut 132 = .ok (.ireturn, 1) := by decide +kernel
def f_X12_workOut_b96 (k33 : St → Int32 → Int32 → Int32 → Option (Int32 × St)) (σ : St) (x3 : Int32) (x4 : Int32) : Option (Int32 × St) := bnd2 (f_X12_takes σ (59 : Int32)) (fun r23 σ24 => k33 σ24 x3 x4 r23)
def f_X12_workOut_b74 (k33 : St → Int32 → Int32 → Int32 → Option (Int32 × St)) (σ : St) (x3 : Int32) (x4 : Int32) (x6 : Int32) (x7 : Int32) : Option (Int32 × St) := if 0 ≤ σ.1 616 0 then (f_X12_workOut_b96 k33 σ x3 x4) else (if x7 = 0 then (f_X12_workOut_b96 k33 σ x3 x4) else (if x3 = 0 then (f_X12_workOut_b96 k33 σ (1 : Int32) x6) else (f_X12_workOut_b96 k33 σ x3 x4)))
def f_X12_workOut_b66 (k33 : St → Int32 → Int32 → Int32 → Option (Int32 × St)) (σ : St) (x3 : Int32) (x4 : Int32) (s0 : Int32) : Option (Int32 × St) := bnd2 (f_X12_either σ) (fun r20 σ21 => f_X12_workOut_b74 k33 σ21 x3 x4 r20 s0)
def f_X12_workOut_b33 : Nat → St → Int32 → Int32 → Int32 → Option (Int32 × St)
  | 0, _, _, _, _ => none
  | n + 1, σ, x3, x4, x5 => if x5 = 0 then (if 0 ≤ σ.1 616 0 then (some (x4, σ)) else (if σ.1 615 0 ≤ σ.1 614 0 then (some (x4, σ)) else (bnd2 (f_X12_wrong σ) (fun r6 σ7 => some (r6, σ7))))) else (bnd2 (f_X12_either σ) (fun r9 σ10 => bnd2 (f_X12_takes σ10 (63 : Int32)) (fun r12 σ13 => if r12 = 0 then (f_X12_workOut_b74 (f_X12_workOut_b33 n) σ13 x3 x4 r9 (1 : Int32)) else (if r9 = 0 then (f_X12_workOut_b66 (f_X12_workOut_b33 n) σ13 x3 x4 (0 : Int32)) else (f_X12_workOut_b66 (f_X12_workOut_b33 n) σ13 x3 x4 (1 : Int32))))))
def f_X12_workOut (σ : St) (p1 : Int32) (p2 : Int32) : Option (Int32 × St) := bnd (sI (sI (sI (sI σ 613 0 p1) 614 0 (0 : Int32)) 615 0 p2) 616 0 (-1 : Int32)) (fun σ1 => f_X12_workOut_b33 256 (sI σ1 617 0 (0 : Int32)) (0 : Int32) (0 : Int32) (1 : Int32))
set_option maxHeartbeats 4000000 in
set_option maxRecDepth 100000 in
theorem w_X12_workOut_b96 {p : Program} {l : Launch} {e : Env} {s : State} {m : MethodId} {args : Array Value} {below : List Frame} {meth : Method} {c : Code} {g : va_G} {ts : ClassId × ClassId × ClassId} {A : Nat → Prop} {Q : State → Prop} {a : Nat → Nat} {r : Int32} {σ' : St} {k33 : St → Int32 → Int32 → Int32 → Option (Int32 × St)} (C : FX p s m args meth c RX12 cX12_workOut 8 g ts A) (hQ : RetI p l e (rk 98 2104) s m args below meth c cX12_workOut g (WM ts a) A r σ' Q) (hk33 : ∀ (σ : St) (x3 : Int32) (x4 : Int32) (x5 : Int32) (H : Heap) (locs : List Loc) (ls : Array Slot), k33 σ x3 x4 x5 = some (r, σ') → va_P g classes (WM ts a σ) H → va_D A (WM ts a σ) → va_S A s.heap H locs → lv_has ls 8 [(0, .ref (a 0)), (3, .int x3), (4, .int x4), (5, .int x5)] → W p l e (rk 98 2104) s m args below meth c H locs 0 0 Q (F0 m 33 ls [])) : ∀ (σ : St) (x3 : Int32) (x4 : Int32) (H : Heap) (locs : List Loc) (ls : Array Slot), f_X12_workOut_b96 k33 σ x3 x4 = some (r, σ') → va_P g classes (WM ts a σ) H → va_D A (WM ts a σ) → va_S A s.heap H locs → lv_has ls 8 [(0, .ref (a 0)), (3, .int x3), (4, .int x4)] → W p l e (rk 98 2104) s m args below meth c H locs 0 0 Q (F0 m 96 ls []) := by
  have hx := C.1
  have hb := C.2.1
  have hown := C.2.2.2.1
  have hts := C.2.2.2.2.1
  intro σ x3 x4 H locs ls hf hP hD hS hl
  rw [f_X12_workOut_b96] at hf
  refine lv_aload_n hx hb dX12_workOut_96 rfl (lv_at hl 0 rfl) ?_
  refine lv_bipush (v := 59) hx hb dX12_workOut_97 (by decide) ?_
  obtain ⟨r23, σ24, h22, hf⟩ := bnd2_some hf
  refine vI [] C hP hD hS (c_X12_takes h22) mv_X12_takes q_1315 rv_X12 dX12_workOut_99 ⟨Nat.le_of_ble_eq_true rfl, Nat.le_of_ble_eq_true rfl⟩ ⟨Nat.zero_le _, Nat.zero_le _⟩ rfl rfl (Nat.le_of_ble_eq_true rfl) hl.1 (fun H locs hP hD hS => ?_)
  refine lv_istore (lv' := [(5, .int r23), (0, .ref (a 0)), (3, .int x3), (4, .int x4)]) hx hb dX12_workOut_102 hl (by decide) rfl (fun ls hl => ?_)
  refine lv_goto (tgt := 33) hx hb dX12_workOut_104 (by decide) ?_
  exact hk33 _ _ _ _ _ _ _ hf hP hD hS (lv_sub hl [1, 2, 3, 0] rfl)
set_option maxHeartbeats 4000000 in
set_option maxRecDepth 100000 in
theorem w_X12_workOut_b74 {p : Program} {l : Launch} {e : Env} {s : State} {m : MethodId} {args : Array Value} {below : List Frame} {meth : Method} {c : Code} {g : va_G} {ts : ClassId × ClassId × ClassId} {A : Nat → Prop} {Q : State → Prop} {a : Nat → Nat} {r : Int32} {σ' : St} {k33 : St → Int32 → Int32 → Int32 → Option (Int32 × St)} (C : FX p s m args meth c RX12 cX12_workOut 8 g ts A) (hQ : RetI p l e (rk 98 2104) s m args below meth c cX12_workOut g (WM ts a) A r σ' Q) (hk33 : ∀ (σ : St) (x3 : Int32) (x4 : Int32) (x5 : Int32) (H : Heap) (locs : List Loc) (ls : Array Slot), k33 σ x3 x4 x5 = some (r, σ') → va_P g classes (WM ts a σ) H → va_D A (WM ts a σ) → va_S A s.heap H locs → lv_has ls 8 [(0, .ref (a 0)), (3, .int x3), (4, .int x4), (5, .int x5)] → W p l e (rk 98 2104) s m args below meth c H locs 0 0 Q (F0 m 33 ls [])) : ∀ (σ : St) (x3 : Int32) (x4 : Int32) (x6 : Int32) (x7 : Int32) (H : Heap) (locs : List Loc) (ls : Array Slot), f_X12_workOut_b74 k33 σ x3 x4 x6 x7 = some (r, σ') → va_P g classes (WM ts a σ) H → va_D A (WM ts a σ) → va_S A s.heap H locs → lv_has ls 8 [(0, .ref (a 0)), (3, .int x3), (4, .int x4), (6, .int x6), (7, .int x7)] → W p l e (rk 98 2104) s m args below meth c H locs 0 0 Q (F0 m 74 ls []) := by
  have hx := C.1
  have hb := C.2.1
  have hown := C.2.2.2.1
  have hts := C.2.2.2.2.1
  intro σ x3 x4 x6 x7 H locs ls hf hP hD hS hl
  rw [f_X12_workOut_b74] at hf
  refine lv_aload_n hx hb dX12_workOut_74 rfl (lv_at hl 0 rfl) ?_
  refine G_X12_fault C hP q_1088 dX12_workOut_75 ?_
  refine lv_if_ge (tgt := 96) hx hb dX12_workOut_78 (by decide) (fun c16 => ?_) (fun c16 => ?_)
  · replace hf := ipos c16 hf
    exact w_X12_workOut_b96 C hQ hk33 _ _ _ _ _ _ hf hP hD hS (lv_sub hl [0, 1, 2] rfl)
  · replace hf := ineg c16 hf
    refine lv_iload hx hb dX12_workOut_81 (lv_at hl 4 rfl) ?_
    refine lv_if_eq (tgt := 96) hx hb dX12_workOut_83 (by decide) (fun c17 => ?_) (fun c17 => ?_)
    · replace hf := ipos c17 hf
      exact w_X12_workOut_b96 C hQ hk33 _ _ _ _ _ _ hf hP hD hS (lv_sub hl [0, 1, 2] rfl)
    · replace hf := ineg c17 hf
      refine lv_iload_n hx hb dX12_workOut_86 rfl (lv_at hl 1 rfl) ?_
      refine lv_if_ne (tgt := 96) hx hb dX12_workOut_87 (by decide) (fun c18 => ?_) (fun c18 => ?_)
      · replace hf := ineg c18 hf
        exact w_X12_workOut_b96 C hQ hk33 _ _ _ _ _ _ hf hP hD hS (lv_sub hl [0, 1, 2] rfl)
      · replace hf := ipos c18 hf
        refine lv_iconst (v := 1) hx hb dX12_workOut_90 (by decide) ?_
        refine lv_istore_n (lv' := [(3, .int (1 : Int32)), (0, .ref (a 0)), (4, .int x4), (6, .int x6), (7, .int x7)]) hx hb dX12_workOut_91 rfl hl (by decide) rfl (fun ls hl => ?_)
        refine lv_iload hx hb dX12_workOut_92 (lv_at hl 3 rfl) ?_
        refine lv_istore (lv' := [(4, .int x6), (3, .int (1 : Int32)), (0, .ref (a 0)), (6, .int x6), (7, .int x7)]) hx hb dX12_workOut_94 hl (by decide) rfl (fun ls hl => ?_)
        exact w_X12_workOut_b96 C hQ hk33 _ _ _ _ _ _ hf hP hD hS (lv_sub hl [2, 1, 0] rfl)
set_option maxHeartbeats 4000000 in
set_option maxRecDepth 100000 in
theorem w_X12_workOut_b66 {p : Program} {l : Launch} {e : Env} {s : State} {m : MethodId} {args : Array Value} {below : List Frame} {meth : Method} {c : Code} {g : va_G} {ts : ClassId × ClassId × ClassId} {A : Nat → Prop} {Q : State → Prop} {a : Nat → Nat} {r : Int32} {σ' : St} {k33 : St → Int32 → Int32 → Int32 → Option (Int32 × St)} (C : FX p s m args meth c RX12 cX12_workOut 8 g ts A) (hQ : RetI p l e (rk 98 2104) s m args below meth c cX12_workOut g (WM ts a) A r σ' Q) (hk33 : ∀ (σ : St) (x3 : Int32) (x4 : Int32) (x5 : Int32) (H : Heap) (locs : List Loc) (ls : Array Slot), k33 σ x3 x4 x5 = some (r, σ') → va_P g classes (WM ts a σ) H → va_D A (WM ts a σ) → va_S A s.heap H locs → lv_has ls 8 [(0, .ref (a 0)), (3, .int x3), (4, .int x4), (5, .int x5)] → W p l e (rk 98 2104) s m args below meth c H locs 0 0 Q (F0 m 33 ls [])) : ∀ (σ : St) (x3 : Int32) (x4 : Int32) (s0 : Int32) (H : Heap) (locs : List Loc) (ls : Array Slot), f_X12_workOut_b66 k33 σ x3 x4 s0 = some (r, σ') → va_P g classes (WM ts a σ) H → va_D A (WM ts a σ) → va_S A s.heap H locs → lv_has ls 8 [(0, .ref (a 0)), (3, .int x3), (4, .int x4)] → W p l e (rk 98 2104) s m args below meth c H locs 0 0 Q (F0 m 66 ls [.int s0]) := by
  have hx := C.1
  have hb := C.2.1
  have hown := C.2.2.2.1
  have hts := C.2.2.2.2.1
  intro σ x3 x4 s0 H locs ls hf hP hD hS hl
  rw [f_X12_workOut_b66] at hf
  refine lv_istore (lv' := [(7, .int s0), (0, .ref (a 0)), (3, .int x3), (4, .int x4)]) hx hb dX12_workOut_66 hl (by decide) rfl (fun ls hl => ?_)
  refine lv_aload_n hx hb dX12_workOut_68 rfl (lv_at hl 1 rfl) ?_
  obtain ⟨r20, σ21, h19, hf⟩ := bnd2_some hf
  refine vI [] C hP hD hS (c_X12_either h19) mv_X12_either q_1283 rv_X12 dX12_workOut_69 ⟨Nat.le_of_ble_eq_true rfl, Nat.le_of_ble_eq_true rfl⟩ ⟨Nat.zero_le _, Nat.zero_le _⟩ rfl rfl (Nat.le_of_ble_eq_true rfl) hl.1 (fun H locs hP hD hS => ?_)
  refine lv_istore (lv' := [(6, .int r20), (7, .int s0), (0, .ref (a 0)), (3, .int x3), (4, .int x4)]) hx hb dX12_workOut_72 hl (by decide) rfl (fun ls hl => ?_)
  exact w_X12_workOut_b74 C hQ hk33 _ _ _ _ _ _ _ _ hf hP hD hS (lv_sub hl [2, 3, 4, 0, 1] rfl)
set_option maxHeartbeats 4000000 in
set_option maxRecDepth 100000 in
theorem w_X12_workOut_b33 {p : Program} {l : Launch} {e : Env} {s : State} {m : MethodId} {args : Array Value} {below : List Frame} {meth : Method} {c : Code} {g : va_G} {ts : ClassId × ClassId × ClassId} {A : Nat → Prop} {Q : State → Prop} {a : Nat → Nat} {r : Int32} {σ' : St} (C : FX p s m args meth c RX12 cX12_workOut 8 g ts A) (hQ : RetI p l e (rk 98 2104) s m args below meth c cX12_workOut g (WM ts a) A r σ' Q) : ∀ (n : Nat) (σ : St) (x3 : Int32) (x4 : Int32) (x5 : Int32) (H : Heap) (locs : List Loc) (ls : Array Slot), f_X12_workOut_b33 n σ x3 x4 x5 = some (r, σ') → va_P g classes (WM ts a σ) H → va_D A (WM ts a σ) → va_S A s.heap H locs → lv_has ls 8 [(0, .ref (a 0)), (3, .int x3), (4, .int x4), (5, .int x5)] → W p l e (rk 98 2104) s m args below meth c H locs 0 0 Q (F0 m 33 ls []) := by
  have hx := C.1
  have hb := C.2.1
  have hown := C.2.2.2.1
  have hts := C.2.2.2.2.1
  intro n
  induction n with
  | zero =>
    intro σ x3 x4 x5 H locs ls hf
    cases hf
  | succ n ih =>
    intro σ x3 x4 x5 H locs ls hf hP hD hS hl
    rw [f_X12_workOut_b33] at hf
    refine lv_iload hx hb dX12_workOut_33 (lv_at hl 3 rfl) ?_
    refine lv_if_eq (tgt := 107) hx hb dX12_workOut_35 (by decide) (fun c2 => ?_) (fun c2 => ?_)
    · replace hf := ipos c2 hf
      refine lv_aload_n hx hb dX12_workOut_107 rfl (lv_at hl 0 rfl) ?_
      refine G_X12_fault C hP q_1088 dX12_workOut_108 ?_
      refine lv_if_ge (tgt := 130) hx hb dX12_workOut_111 (by decide) (fun c3 => ?_) (fun c3 => ?_)
      · replace hf := ipos c3 hf
        refine lv_iload hx hb dX12_workOut_130 (lv_at hl 2 rfl) ?_
        exact retI hQ hf dX12_workOut_132 hP hD hS
      · replace hf := ineg c3 hf
        refine lv_aload_n hx hb dX12_workOut_114 rfl (lv_at hl 0 rfl) ?_
        refine G_X12_at C hP q_1086 dX12_workOut_115 ?_
        refine lv_aload_n hx hb dX12_workOut_118 rfl (lv_at hl 0 rfl) ?_
        refine G_X12_ends C hP q_1087 dX12_workOut_119 ?_
        refine lv_icmp_ge (tgt := 130) hx hb dX12_workOut_122 (by decide) (fun c4 => ?_) (fun c4 => ?_)
        · replace hf := ipos c4 hf
          refine lv_iload hx hb dX12_workOut_130 (lv_at hl 2 rfl) ?_
          exact retI hQ hf dX12_workOut_132 hP hD hS
        · replace hf := ineg c4 hf
          refine lv_aload_n hx hb dX12_workOut_125 rfl (lv_at hl 0 rfl) ?_
          obtain ⟨r6, σ7, h5, hf⟩ := bnd2_some hf
          refine vI [] C hP hD hS (c_X12_wrong h5) mv_X12_wrong q_1311 rv_X12 dX12_workOut_126 ⟨Nat.le_of_ble_eq_true rfl, Nat.le_of_ble_eq_true rfl⟩ ⟨Nat.zero_le _, Nat.zero_le _⟩ rfl rfl (Nat.le_of_ble_eq_true rfl) hl.1 (fun H locs hP hD hS => ?_)
          exact retI hQ hf dX12_workOut_129 hP hD hS
    · replace hf := ineg c2 hf
      refine lv_aload_n hx hb dX12_workOut_38 rfl (lv_at hl 0 rfl) ?_
      obtain ⟨r9, σ10, h8, hf⟩ := bnd2_some hf
      refine vI [] C hP hD hS (c_X12_either h8) mv_X12_either q_1283 rv_X12 dX12_workOut_39 ⟨Nat.le_of_ble_eq_true rfl, Nat.le_of_ble_eq_true rfl⟩ ⟨Nat.zero_le _, Nat.zero_le _⟩ rfl rfl (Nat.le_of_ble_eq_true rfl) hl.1 (fun H locs hP hD hS => ?_)
      refine lv_istore (lv' := [(6, .int r9), (0, .ref (a 0)), (3, .int x3), (4, .int x4), (5, .int x5)]) hx hb dX12_workOut_42 hl (by decide) rfl (fun ls hl => ?_)
      refine lv_iconst (v := 1) hx hb dX12_workOut_44 (by decide) ?_
      refine lv_istore (lv' := [(7, .int (1 : Int32)), (6, .int r9), (0, .ref (a 0)), (3, .int x3), (4, .int x4), (5, .int x5)]) hx hb dX12_workOut_45 hl (by decide) rfl (fun ls hl => ?_)
      refine lv_aload_n hx hb dX12_workOut_47 rfl (lv_at hl 2 rfl) ?_
      refine lv_bipush (v := 63) hx hb dX12_workOut_48 (by decide) ?_
      obtain ⟨r12, σ13, h11, hf⟩ := bnd2_some hf
      refine vI [] C hP hD hS (c_X12_takes h11) mv_X12_takes q_1315 rv_X12 dX12_workOut_50 ⟨Nat.le_of_ble_eq_true rfl, Nat.le_of_ble_eq_true rfl⟩ ⟨Nat.zero_le _, Nat.zero_le _⟩ rfl rfl (Nat.le_of_ble_eq_true rfl) hl.1 (fun H locs hP hD hS => ?_)
      refine lv_if_eq (tgt := 74) hx hb dX12_workOut_53 (by decide) (fun c14 => ?_) (fun c14 => ?_)
      · replace hf := ipos c14 hf
        exact w_X12_workOut_b74 C hQ ih _ _ _ _ _ _ _ _ hf hP hD hS (lv_sub hl [2, 3, 4, 1, 0] rfl)
      · replace hf := ineg c14 hf
        refine lv_iload hx hb dX12_workOut_56 (lv_at hl 1 rfl) ?_
        refine lv_if_eq (tgt := 65) hx hb dX12_workOut_58 (by decide) (fun c15 => ?_) (fun c15 => ?_)
        · replace hf := ipos c15 hf
          refine lv_iconst (v := 0) hx hb dX12_workOut_65 (by decide) ?_
          exact w_X12_workOut_b66 C hQ ih _ _ _ _ _ _ _ hf hP hD hS (lv_sub hl [2, 3, 4] rfl)
        · replace hf := ineg c15 hf
          refine lv_iconst (v := 1) hx hb dX12_workOut_61 (by decide) ?_
          refine lv_goto (tgt := 66) hx hb dX12_workOut_62 (by decide) ?_
          exact w_X12_workOut_b66 C hQ ih _ _ _ _ _ _ _ hf hP hD hS (lv_sub hl [2, 3, 4] rfl)
set_option maxHeartbeats 4000000 in
set_option maxRecDepth 100000 in
theorem c_X12_workOut {l : Launch} {g : va_G} {ts : ClassId × ClassId × ClassId} {a : Nat → Nat} {σ : St} {p1 : Int32} {p2 : Int32} {r : Int32} {σ' : St} (hf : f_X12_workOut σ p1 p2 = some (r, σ')) : ConI l g ts (WM ts a) yX12_workOut cX12_workOut 8 (some .int) (rk 98 2104) σ [.ref (a 0), .int p1, .int p2] r σ' := by
  refine ConI_mk .int rfl rfl rfl rfl (by decide) (Nat.le_of_ble_eq_true rfl) ?_
  intro p e s m below meth c A Q ls C hQ hP hD hS hl
  have C : FX p s m _ meth c RX12 cX12_workOut 8 g ts A := C
  have hx := C.1
  have hb := C.2.1
  have hown := C.2.2.2.1
  have hts := C.2.2.2.2.1
  have hl : lv_has ls 8 [(0, .ref (a 0)), (1, .int p1), (2, .int p2)] := hl
  rw [f_X12_workOut] at hf
  refine lv_aload_n hx hb dX12_workOut_0 rfl (lv_at hl 0 rfl) ?_
  refine lv_iload_n hx hb dX12_workOut_1 rfl (lv_at hl 1 rfl) ?_
  refine S_X12_base C hP hD hS q_1085 dX12_workOut_2 (fun H locs hP hD hS => ?_)
  refine lv_aload_n hx hb dX12_workOut_5 rfl (lv_at hl 0 rfl) ?_
  refine lv_iconst (v := 0) hx hb dX12_workOut_6 (by decide) ?_
  refine S_X12_at C hP hD hS q_1086 dX12_workOut_7 (fun H locs hP hD hS => ?_)
  refine lv_aload_n hx hb dX12_workOut_10 rfl (lv_at hl 0 rfl) ?_
  refine lv_iload_n hx hb dX12_workOut_11 rfl (lv_at hl 2 rfl) ?_
  refine S_X12_ends C hP hD hS q_1087 dX12_workOut_12 (fun H locs hP hD hS => ?_)
  refine lv_aload_n hx hb dX12_workOut_15 rfl (lv_at hl 0 rfl) ?_
  refine lv_iconst (v := -1) hx hb dX12_workOut_16 (by decide) ?_
  refine S_X12_fault C hP hD hS q_1088 dX12_workOut_17 (fun H locs hP hD hS => ?_)
  refine nameS hP hD hf (fun σ1 hP hD hf => ?_)
  refine lv_aload_n hx hb dX12_workOut_20 rfl (lv_at hl 0 rfl) ?_
  refine lv_iconst (v := 0) hx hb dX12_workOut_21 (by decide) ?_
  refine S_X12_opened C hP hD hS q_1089 dX12_workOut_22 (fun H locs hP hD hS => ?_)
  refine lv_iconst (v := 0) hx hb dX12_workOut_25 (by decide) ?_
  refine lv_istore_n (lv' := [(3, .int (0 : Int32)), (0, .ref (a 0)), (1, .int p1), (2, .int p2)]) hx hb dX12_workOut_26 rfl hl (by decide) rfl (fun ls hl => ?_)
  refine lv_iconst (v := 0) hx hb dX12_workOut_27 (by decide) ?_
  refine lv_istore (lv' := [(4, .int (0 : Int32)), (3, .int (0 : Int32)), (0, .ref (a 0)), (1, .int p1), (2, .int p2)]) hx hb dX12_workOut_28 hl (by decide) rfl (fun ls hl => ?_)
  refine lv_iconst (v := 1) hx hb dX12_workOut_30 (by decide) ?_
  refine lv_istore (lv' := [(5, .int (1 : Int32)), (4, .int (0 : Int32)), (3, .int (0 : Int32)), (0, .ref (a 0)), (1, .int p1), (2, .int p2)]) hx hb dX12_workOut_31 hl (by decide) rfl (fun ls hl => ?_)
  exact w_X12_workOut_b33 C hQ 256 _ _ _ _ _ _ _ hf hP hD hS (lv_sub hl [3, 2, 1, 0] rfl)
theorem dX12_law_0 : decode cX12_law 0 = .ok (.aload_n 0, 1) := by decide +kernel
theorem dX12_law_1 : decode cX12_law 1 = .ok (.iconst (-1), 1) := by decide +kernel
theorem dX12_law_2 : decode cX12_law 2 = .ok (.aload_n 0, 1) := by decide +kernel
theorem dX12_law_3 : decode cX12_law 3 = .ok (.getfield 141, 3) := by decide +kernel
theorem dX12_law_6 : decode cX12_law 6 = .ok (.invokevirtual 190, 3) := by decide +kernel
theorem dX12_law_9 : decode cX12_law 9 = .ok (.istore_n 1, 1) := by decide +kernel
theorem dX12_law_10 : decode cX12_law 10 = .ok (.aload_n 0, 1) := by decide +kernel
theorem dX12_law_11 : decode cX12_law 11 = .ok (.getfield 141, 3) := by decide +kernel
theorem dX12_law_14 : decode cX12_law 14 = .ok (.istore_n 2, 1) := by decide +kernel
theorem dX12_law_15 : decode cX12_law 15 = .ok (.aload_n 0, 1) := by decide +kernel
theorem dX12_law_16 : decode cX12_law 16 = .ok (.iconst 0, 1) := by decide +kernel
theorem dX12_law_17 : decode cX12_law 17 = .ok (.putfield 141, 3) := by decide +kernel
theorem dX12_law_20 : decode cX12_law 20 = .ok (.aload_n 0, 1) := by decide +kernel
theorem dX12_law_21 : decode cX12_law 21 = .ok (.getfield 153, 3) := by decide +kernel
theorem dX12_law_24 : decode cX12_law 24 = .ok (.ifCond .lt 11, 3) := by decide +kernel
theorem dX12_law_27 : decode cX12_law 27 = .ok (.bipush (-100), 2) := by decide +kernel
theorem dX12_law_29 : decode cX12_law 29 = .ok (.aload_n 0, 1) := by decide +kernel
theorem dX12_law_30 : decode cX12_law 30 = .ok (.getfield 153, 3) := by decide +kernel
theorem dX12_law_33 : decode cX12_law 33 = .ok (.isub, 1) := by decide +kernel
theorem dX12_law_34 : decode cX12_law 34 = .ok (.ireturn, 1) := by decide +kernel
theorem dX12_law_35 : decode cX12_law 35 = .ok (.iconst 0, 1) := by decide +kernel
theorem dX12_law_36 : decode cX12_law 36 = .ok (.istore_n 3, 1) := by decide +kernel
theorem dX12_law_37 : decode cX12_law 37 = .ok (.iload_n 3, 1) := by decide +kernel
theorem dX12_law_38 : decode cX12_law 38 = .ok (.iload_n 2, 1) := by decide +kernel
theorem dX12_law_39 : decode cX12_law 39 = .ok (.if_icmp .ge 21, 3) := by decide +kernel
theorem dX12_law_42 : decode cX12_law 42 = .ok (.aload_n 0, 1) := by decide +kernel
theorem dX12_law_43 : decode cX12_law 43 = .ok (.getfield 33, 3) := by decide +kernel
theorem dX12_law_46 : decode cX12_law 46 = .ok (.iload_n 3, 1) := by decide +kernel
theorem dX12_law_47 : decode cX12_law 47 = .ok (.aload_n 0, 1) := by decide +kernel
theorem dX12_law_48 : decode cX12_law 48 = .ok (.getfield 30, 3) := by decide +kernel
theorem dX12_law_51 : decode cX12_law 51 = .ok (.iload_n 3, 1) := by decide +kernel
theorem dX12_law_52 : decode cX12_law 52 = .ok (.iaload, 1) := by decide +kernel
theorem dX12_law_53 : decode cX12_law 53 = .ok (.iastore, 1) := by decide +kernel
theorem dX12_law_54 : decode cX12_law 54 = .ok (.iinc 3 1, 3) := by decide +kernel
theorem dX12_law_57 : decode cX12_law 57 = .ok (.goto (-20), 3) := by decide +kernel
theorem dX12_law_60 : decode cX12_law 60 = .ok (.aload_n 0, 1) := by decide +kernel
theorem dX12_law_61 : decode cX12_law 61 = .ok (.iload_n 2, 1) := by decide +kernel
theorem dX12_law_62 : decode cX12_law 62 = .ok (.putfield 76, 3) := by decide +kernel
theorem dX12_law_65 : decode cX12_law 65 = .ok (.iconst 1, 1) := by decide +kernel
theorem dX12_law_66 : decode cX12_law 66 = .ok (.ireturn, 1) := by decide +kernel
def f_X12_law_b37 : Nat → St → Int32 → Int32 → Option (Int32 × St)
  | 0, _, _, _ => none
  | n + 1, σ, x2, x3 => if x2 ≤ x3 then (some ((1 : Int32), sI σ 612 0 x2)) else (chk (x3 < 0 ∨ 120 ≤ x3.toNatClampNeg) (chk (x3 < 0 ∨ 120 ≤ x3.toNatClampNeg) (bnd (sA σ 611 0 (upd (σ.2.2.1 611 0) x3.toNatClampNeg (σ.2.2.1 609 0 x3.toNatClampNeg))) (fun σ9 => bnd (x3 + 1) (fun v10 => f_X12_law_b37 n σ9 x2 v10)))))
def f_X12_law (σ : St) : Option (Int32 × St) := bnd2 (f_X12_workOut σ (-1 : Int32) (σ.1 610 0)) (fun r2 σ3 => bnd (σ3.1 610 0) (fun v4 => if (sI σ3 610 0 (0 : Int32)).1 616 0 < 0 then (f_X12_law_b37 256 (sI σ3 610 0 (0 : Int32)) v4 (0 : Int32)) else (some ((-100 : Int32) - ((sI σ3 610 0 (0 : Int32)).1 616 0), sI σ3 610 0 (0 : Int32)))))
set_option maxHeartbeats 4000000 in
set_option maxRecDepth 100000 in
theorem w_X12_law_b37 {p : Program} {l : Launch} {e : Env} {s : State} {m : MethodId} {args : Array Value} {below : List Frame} {meth : Method} {c : Code} {g : va_G} {ts : ClassId × ClassId × ClassId} {A : Nat → Prop} {Q : State → Prop} {a : Nat → Nat} {r : Int32} {σ' : St} (C : FX p s m args meth c RX12 cX12_law 4 g ts A) (hQ : RetI p l e (rk 99 2131) s m args below meth c cX12_law g (WM ts a) A r σ' Q) : ∀ (n : Nat) (σ : St) (x2 : Int32) (x3 : Int32) (H : Heap) (locs : List Loc) (ls : Array Slot), f_X12_law_b37 n σ x2 x3 = some (r, σ') → va_P g classes (WM ts a σ) H → va_D A (WM ts a σ) → va_S A s.heap H locs → lv_has ls 4 [(0, .ref (a 0)), (2, .int x2), (3, .int x3)] → W p l e (rk 99 2131) s m args below meth c H locs 0 0 Q (F0 m 37 ls []) := by
  have hx := C.1
  have hb := C.2.1
  have hown := C.2.2.2.1
  have hts := C.2.2.2.2.1
  intro n
  induction n with
  | zero =>
    intro σ x2 x3 H locs ls hf
    cases hf
  | succ n ih =>
    intro σ x2 x3 H locs ls hf hP hD hS hl
    rw [f_X12_law_b37] at hf
    refine lv_iload_n hx hb dX12_law_37 rfl (lv_at hl 2 rfl) ?_
    refine lv_iload_n hx hb dX12_law_38 rfl (lv_at hl 1 rfl) ?_
    refine lv_icmp_ge (tgt := 60) hx hb dX12_law_39 (by decide) (fun c6 => ?_) (fun c6 => ?_)
    · replace hf := ipos c6 hf
      refine lv_aload_n hx hb dX12_law_60 rfl (lv_at hl 0 rfl) ?_
      refine lv_iload_n hx hb dX12_law_61 rfl (lv_at hl 1 rfl) ?_
      refine S_X12_textMany C hP hD hS q_1084 dX12_law_62 (fun H locs hP hD hS => ?_)
      refine lv_iconst (v := 1) hx hb dX12_law_65 (by decide) ?_
      exact retI hQ hf dX12_law_66 hP hD hS
    · replace hf := ineg c6 hf
      refine lv_aload_n hx hb dX12_law_42 rfl (lv_at hl 0 rfl) ?_
      refine G_X12_text C hP q_1083 dX12_law_43 ?_
      refine lv_iload_n hx hb dX12_law_46 rfl (lv_at hl 2 rfl) ?_
      refine lv_aload_n hx hb dX12_law_47 rfl (lv_at hl 0 rfl) ?_
      refine G_X12_tape C hP q_1081 dX12_law_48 ?_
      refine lv_iload_n hx hb dX12_law_51 rfl (lv_at hl 2 rfl) ?_
      obtain ⟨h7, hf⟩ := chk_some hf
      refine AL_X12_tape C hP h7 dX12_law_52 ?_
      obtain ⟨h8, hf⟩ := chk_some hf
      refine AS_X12_text C hP hD hS h8 dX12_law_53 (fun H locs hP hD hS => ?_)
      refine nameS hP hD hf (fun σ9 hP hD hf => ?_)
      obtain ⟨v10, ev10⟩ : ∃ z : Int32, z = x3 + 1 := ⟨_, rfl⟩
      replace hf := bnd_at ev10 hf
      refine lv_iinc (v := v10) (lv' := [(3, .int v10), (0, .ref (a 0)), (2, .int x2)]) hx hb dX12_law_54 hl (k := 2) rfl (by rw [ev10]; rfl) (by decide) rfl (fun ls hl => ?_)
      refine lv_goto (tgt := 37) hx hb dX12_law_57 (by decide) ?_
      exact ih _ _ _ _ _ _ hf hP hD hS (lv_sub hl [1, 2, 0] rfl)
set_option maxHeartbeats 4000000 in
set_option maxRecDepth 100000 in
theorem c_X12_law {l : Launch} {g : va_G} {ts : ClassId × ClassId × ClassId} {a : Nat → Nat} {σ : St} {r : Int32} {σ' : St} (hf : f_X12_law σ = some (r, σ')) : ConI l g ts (WM ts a) yX12_law cX12_law 4 (some .int) (rk 99 2131) σ [.ref (a 0)] r σ' := by
  refine ConI_mk .int rfl rfl rfl rfl (by decide) (Nat.le_of_ble_eq_true rfl) ?_
  intro p e s m below meth c A Q ls C hQ hP hD hS hl
  have C : FX p s m _ meth c RX12 cX12_law 4 g ts A := C
  have hx := C.1
  have hb := C.2.1
  have hown := C.2.2.2.1
  have hts := C.2.2.2.2.1
  have hl : lv_has ls 4 [(0, .ref (a 0))] := hl
  rw [f_X12_law] at hf
  refine lv_aload_n hx hb dX12_law_0 rfl (lv_at hl 0 rfl) ?_
  refine lv_iconst (v := -1) hx hb dX12_law_1 (by decide) ?_
  refine lv_aload_n hx hb dX12_law_2 rfl (lv_at hl 0 rfl) ?_
  refine G_X12_tapeMany C hP q_1082 dX12_law_3 ?_
  obtain ⟨r2, σ3, h1, hf⟩ := bnd2_some hf
  refine vI [] C hP hD hS (c_X12_workOut h1) mv_X12_workOut q_1279 rv_X12 dX12_law_6 ⟨Nat.le_of_ble_eq_true rfl, Nat.le_of_ble_eq_true rfl⟩ ⟨Nat.zero_le _, Nat.zero_le _⟩ rfl rfl (Nat.le_of_ble_eq_true rfl) hl.1 (fun H locs hP hD hS => ?_)
  refine lv_istore_n (lv' := [(1, .int r2), (0, .ref (a 0))]) hx hb dX12_law_9 rfl hl (by decide) rfl (fun ls hl => ?_)
  refine lv_aload_n hx hb dX12_law_10 rfl (lv_at hl 1 rfl) ?_
  refine G_X12_tapeMany C hP q_1082 dX12_law_11 ?_
  refine lv_topi (fun v4 ev4 => ?_)
  replace hf := bnd_at ev4 hf
  refine lv_istore_n (lv' := [(2, .int v4), (1, .int r2), (0, .ref (a 0))]) hx hb dX12_law_14 rfl hl (by decide) rfl (fun ls hl => ?_)
  refine lv_aload_n hx hb dX12_law_15 rfl (lv_at hl 2 rfl) ?_
  refine lv_iconst (v := 0) hx hb dX12_law_16 (by decide) ?_
  refine S_X12_tapeMany C hP hD hS q_1082 dX12_law_17 (fun H locs hP hD hS => ?_)
  refine lv_aload_n hx hb dX12_law_20 rfl (lv_at hl 2 rfl) ?_
  refine G_X12_fault C hP q_1088 dX12_law_21 ?_
  refine lv_if_lt (tgt := 35) hx hb dX12_law_24 (by decide) (fun c5 => ?_) (fun c5 => ?_)
  · replace hf := ipos c5 hf
    refine lv_iconst (v := 0) hx hb dX12_law_35 (by decide) ?_
    refine lv_istore_n (lv' := [(3, .int (0 : Int32)), (2, .int v4), (1, .int r2), (0, .ref (a 0))]) hx hb dX12_law_36 rfl hl (by decide) rfl (fun ls hl => ?_)
    exact w_X12_law_b37 C hQ 256 _ _ _ _ _ _ hf hP hD hS (lv_sub hl [3, 1, 0] rfl)
  · replace hf := ineg c5 hf
    refine lv_bipush (v := -100) hx hb dX12_law_27 (by decide) ?_
    refine lv_aload_n hx hb dX12_law_29 rfl (lv_at hl 2 rfl) ?_
    refine G_X12_fault C hP q_1088 dX12_law_30 ?_
    refine lv_isub hx hb dX12_law_33 ?_
    exact retI hQ hf dX12_law_34 hP hD hS
theorem dX12_asksWeights_0 : decode cX12_asksWeights 0 = .ok (.iconst 0, 1) := by decide +kernel
theorem dX12_asksWeights_1 : decode cX12_asksWeights 1 = .ok (.istore_n 3, 1) := by decide +kernel
theorem dX12_asksWeights_2 : decode cX12_asksWeights 2 = .ok (.iconst 0, 1) := by decide +kernel
theorem dX12_asksWeights_3 : decode cX12_asksWeights 3 = .ok (.istore 4, 2) := by decide +kernel
theorem dX12_asksWeights_5 : decode cX12_asksWeights 5 = .ok (.iload 4, 2) := by decide +kernel
theorem dX12_asksWeights_7 : decode cX12_asksWeights 7 = .ok (.bipush 12, 2) := by decide +kernel
theorem dX12_asksWeights_9 : decode cX12_asksWeights 9 = .ok (.if_icmp .ge 182, 3) := by decide +kernel
theorem dX12_asksWeights_12 : decode cX12_asksWeights 12 = .ok (.iload_n 1, 1) := by decide +kernel
theorem dX12_asksWeights_13 : decode cX12_asksWeights 13 = .ok (.iload 4, 2) := by decide +kernel
theorem dX12_asksWeights_15 : decode cX12_asksWeights 15 = .ok (.if_icmp .ne 8, 3) := by decide +kernel
theorem dX12_asksWeights_18 : decode cX12_asksWeights 18 = .ok (.bipush 9, 2) := by decide +kernel
theorem dX12_asksWeights_20 : decode cX12_asksWeights 20 = .ok (.goto 14, 3) := by decide +kernel
theorem dX12_asksWeights_23 : decode cX12_asksWeights 23 = .ok (.aload_n 0, 1) := by decide +kernel
theorem dX12_asksWeights_24 : decode cX12_asksWeights 24 = .ok (.getfield 11, 3) := by decide +kernel
theorem dX12_asksWeights_27 : decode cX12_asksWeights 27 = .ok (.iload_n 1, 1) := by decide +kernel
theorem dX12_asksWeights_28 : decode cX12_asksWeights 28 = .ok (.iload 4, 2) := by decide +kernel
theorem dX12_asksWeights_30 : decode cX12_asksWeights 30 = .ok (.invokestatic 122, 3) := by decide +kernel
theorem dX12_asksWeights_33 : decode cX12_asksWeights 33 = .ok (.iaload, 1) := by decide +kernel
theorem dX12_asksWeights_34 : decode cX12_asksWeights 34 = .ok (.istore 5, 2) := by decide +kernel
theorem dX12_asksWeights_36 : decode cX12_asksWeights 36 = .ok (.iload_n 1, 1) := by decide +kernel
theorem dX12_asksWeights_37 : decode cX12_asksWeights 37 = .ok (.iload 4, 2) := by decide +kernel
theorem dX12_asksWeights_39 : decode cX12_asksWeights 39 = .ok (.if_icmp .ne 8, 3) := by decide +kernel
theorem dX12_asksWeights_42 : decode cX12_asksWeights 42 = .ok (.bipush 9, 2) := by decide +kernel
theorem dX12_asksWeights_44 : decode cX12_asksWeights 44 = .ok (.goto 4, 3) := by decide +kernel
theorem dX12_asksWeights_47 : decode cX12_asksWeights 47 = .ok (.iconst 0, 1) := by decide +kernel
theorem dX12_asksWeights_48 : decode cX12_asksWeights 48 = .ok (.iload 5, 2) := by decide +kernel
theorem dX12_asksWeights_50 : decode cX12_asksWeights 50 = .ok (.aload_n 0, 1) := by decide +kernel
theorem dX12_asksWeights_51 : decode cX12_asksWeights 51 = .ok (.getfield 11, 3) := by decide +kernel
theorem dX12_asksWeights_54 : decode cX12_asksWeights 54 = .ok (.sipush 178, 3) := by decide +kernel
theorem dX12_asksWeights_57 : decode cX12_asksWeights 57 = .ok (.iaload, 1) := by decide +kernel
theorem dX12_asksWeights_58 : decode cX12_asksWeights 58 = .ok (.imul, 1) := by decide +kernel
theorem dX12_asksWeights_59 : decode cX12_asksWeights 59 = .ok (.iadd, 1) := by decide +kernel
theorem dX12_asksWeights_60 : decode cX12_asksWeights 60 = .ok (.iconst 2, 1) := by decide +kernel
theorem dX12_asksWeights_61 : decode cX12_asksWeights 61 = .ok (.iload_n 2, 1) := by decide +kernel
theorem dX12_asksWeights_62 : decode cX12_asksWeights 62 = .ok (.imul, 1) := by decide +kernel
theorem dX12_asksWeights_63 : decode cX12_asksWeights 63 = .ok (.isub, 1) := by decide +kernel
theorem dX12_asksWeights_64 : decode cX12_asksWeights 64 = .ok (.istore 6, 2) := by decide +kernel
theorem dX12_asksWeights_66 : decode cX12_asksWeights 66 = .ok (.aload_n 0, 1) := by decide +kernel
theorem dX12_asksWeights_67 : decode cX12_asksWeights 67 = .ok (.getfield 76, 3) := by decide +kernel
theorem dX12_asksWeights_70 : decode cX12_asksWeights 70 = .ok (.ifCond .lt 75, 3) := by decide +kernel
theorem dX12_asksWeights_73 : decode cX12_asksWeights 73 = .ok (.aload_n 0, 1) := by decide +kernel
theorem dX12_asksWeights_74 : decode cX12_asksWeights 74 = .ok (.getfield 36, 3) := by decide +kernel
theorem dX12_asksWeights_77 : decode cX12_asksWeights 77 = .ok (.iconst 0, 1) := by decide +kernel
theorem dX12_asksWeights_78 : decode cX12_asksWeights 78 = .ok (.iload 5, 2) := by decide +kernel
theorem dX12_asksWeights_80 : decode cX12_asksWeights 80 = .ok (.iastore, 1) := by decide +kernel
theorem dX12_asksWeights_81 : decode cX12_asksWeights 81 = .ok (.aload_n 0, 1) := by decide +kernel
theorem dX12_asksWeights_82 : decode cX12_asksWeights 82 = .ok (.getfield 36, 3) := by decide +kernel
theorem dX12_asksWeights_85 : decode cX12_asksWeights 85 = .ok (.iconst 1, 1) := by decide +kernel
theorem dX12_asksWeights_86 : decode cX12_asksWeights 86 = .ok (.aload_n 0, 1) := by decide +kernel
theorem dX12_asksWeights_87 : decode cX12_asksWeights 87 = .ok (.getfield 11, 3) := by decide +kernel
theorem dX12_asksWeights_90 : decode cX12_asksWeights 90 = .ok (.sipush 178, 3) := by decide +kernel
theorem dX12_asksWeights_93 : decode cX12_asksWeights 93 = .ok (.iaload, 1) := by decide +kernel
theorem dX12_asksWeights_94 : decode cX12_asksWeights 94 = .ok (.iastore, 1) := by decide +kernel
theorem dX12_asksWeights_95 : decode cX12_asksWeights 95 = .ok (.aload_n 0, 1) := by decide +kernel
theorem dX12_asksWeights_96 : decode cX12_asksWeights 96 = .ok (.getfield 36, 3) := by decide +kernel
theorem dX12_asksWeights_99 : decode cX12_asksWeights 99 = .ok (.iconst 2, 1) := by decide +kernel
theorem dX12_asksWeights_100 : decode cX12_asksWeights 100 = .ok (.iload_n 1, 1) := by decide +kernel
theorem dX12_asksWeights_101 : decode cX12_asksWeights 101 = .ok (.iload 4, 2) := by decide +kernel
theorem dX12_asksWeights_103 : decode cX12_asksWeights 103 = .ok (.if_icmp .ne 7, 3) := by decide +kernel
theorem dX12_asksWeights_106 : decode cX12_asksWeights 106 = .ok (.iconst 1, 1) := by decide +kernel
theorem dX12_asksWeights_107 : decode cX12_asksWeights 107 = .ok (.goto 4, 3) := by decide +kernel
theorem dX12_asksWeights_110 : decode cX12_asksWeights 110 = .ok (.iconst 0, 1) := by decide +kernel
theorem dX12_asksWeights_111 : decode cX12_asksWeights 111 = .ok (.iastore, 1) := by decide +kernel
theorem dX12_asksWeights_112 : decode cX12_asksWeights 112 = .ok (.aload_n 0, 1) := by decide +kernel
theorem dX12_asksWeights_113 : decode cX12_asksWeights 113 = .ok (.getfield 36, 3) := by decide +kernel
theorem dX12_asksWeights_116 : decode cX12_asksWeights 116 = .ok (.iconst 3, 1) := by decide +kernel
theorem dX12_asksWeights_117 : decode cX12_asksWeights 117 = .ok (.iload_n 1, 1) := by decide +kernel
theorem dX12_asksWeights_118 : decode cX12_asksWeights 118 = .ok (.iastore, 1) := by decide +kernel
theorem dX12_asksWeights_119 : decode cX12_asksWeights 119 = .ok (.aload_n 0, 1) := by decide +kernel
theorem dX12_asksWeights_120 : decode cX12_asksWeights 120 = .ok (.getfield 36, 3) := by decide +kernel
theorem dX12_asksWeights_123 : decode cX12_asksWeights 123 = .ok (.iconst 4, 1) := by decide +kernel
theorem dX12_asksWeights_124 : decode cX12_asksWeights 124 = .ok (.iload 4, 2) := by decide +kernel
theorem dX12_asksWeights_126 : decode cX12_asksWeights 126 = .ok (.iastore, 1) := by decide +kernel
theorem dX12_asksWeights_127 : decode cX12_asksWeights 127 = .ok (.aload_n 0, 1) := by decide +kernel
theorem dX12_asksWeights_128 : decode cX12_asksWeights 128 = .ok (.getfield 36, 3) := by decide +kernel
theorem dX12_asksWeights_131 : decode cX12_asksWeights 131 = .ok (.iconst 5, 1) := by decide +kernel
theorem dX12_asksWeights_132 : decode cX12_asksWeights 132 = .ok (.iload_n 2, 1) := by decide +kernel
theorem dX12_asksWeights_133 : decode cX12_asksWeights 133 = .ok (.iastore, 1) := by decide +kernel
theorem dX12_asksWeights_134 : decode cX12_asksWeights 134 = .ok (.aload_n 0, 1) := by decide +kernel
theorem dX12_asksWeights_135 : decode cX12_asksWeights 135 = .ok (.iconst 0, 1) := by decide +kernel
theorem dX12_asksWeights_136 : decode cX12_asksWeights 136 = .ok (.aload_n 0, 1) := by decide +kernel
theorem dX12_asksWeights_137 : decode cX12_asksWeights 137 = .ok (.getfield 76, 3) := by decide +kernel
theorem dX12_asksWeights_140 : decode cX12_asksWeights 140 = .ok (.invokevirtual 190, 3) := by decide +kernel
theorem dX12_asksWeights_143 : decode cX12_asksWeights 143 = .ok (.istore 6, 2) := by decide +kernel
theorem dX12_asksWeights_145 : decode cX12_asksWeights 145 = .ok (.aload_n 0, 1) := by decide +kernel
theorem dX12_asksWeights_146 : decode cX12_asksWeights 146 = .ok (.getfield 39, 3) := by decide +kernel
theorem dX12_asksWeights_149 : decode cX12_asksWeights 149 = .ok (.iload 4, 2) := by decide +kernel
theorem dX12_asksWeights_151 : decode cX12_asksWeights 151 = .ok (.iload 6, 2) := by decide +kernel
theorem dX12_asksWeights_153 : decode cX12_asksWeights 153 = .ok (.ifCond .ge 7, 3) := by decide +kernel
theorem dX12_asksWeights_156 : decode cX12_asksWeights 156 = .ok (.iconst 0, 1) := by decide +kernel
theorem dX12_asksWeights_157 : decode cX12_asksWeights 157 = .ok (.goto 17, 3) := by decide +kernel
theorem dX12_asksWeights_160 : decode cX12_asksWeights 160 = .ok (.iload 6, 2) := by decide +kernel
theorem dX12_asksWeights_162 : decode cX12_asksWeights 162 = .ok (.bipush 99, 2) := by decide +kernel
theorem dX12_asksWeights_164 : decode cX12_asksWeights 164 = .ok (.if_icmp .le 8, 3) := by decide +kernel
theorem dX12_asksWeights_167 : decode cX12_asksWeights 167 = .ok (.bipush 99, 2) := by decide +kernel
theorem dX12_asksWeights_169 : decode cX12_asksWeights 169 = .ok (.goto 5, 3) := by decide +kernel
theorem dX12_asksWeights_172 : decode cX12_asksWeights 172 = .ok (.iload 6, 2) := by decide +kernel
theorem dX12_asksWeights_174 : decode cX12_asksWeights 174 = .ok (.iastore, 1) := by decide +kernel
theorem dX12_asksWeights_175 : decode cX12_asksWeights 175 = .ok (.iload_n 3, 1) := by decide +kernel
theorem dX12_asksWeights_176 : decode cX12_asksWeights 176 = .ok (.aload_n 0, 1) := by decide +kernel
theorem dX12_asksWeights_177 : decode cX12_asksWeights 177 = .ok (.getfield 39, 3) := by decide +kernel
theorem dX12_asksWeights_180 : decode cX12_asksWeights 180 = .ok (.iload 4, 2) := by decide +kernel
theorem dX12_asksWeights_182 : decode cX12_asksWeights 182 = .ok (.iaload, 1) := by decide +kernel
theorem dX12_asksWeights_183 : decode cX12_asksWeights 183 = .ok (.iadd, 1) := by decide +kernel
theorem dX12_asksWeights_184 : decode cX12_asksWeights 184 = .ok (.istore_n 3, 1) := by decide +kernel
theorem dX12_asksWeights_185 : decode cX12_asksWeights 185 = .ok (.iinc 4 1, 3) := by decide +kernel
theorem dX12_asksWeights_188 : decode cX12_asksWeights 188 = .ok (.goto (-183), 3) := by decide +kernel
theorem dX12_asksWeights_191 : decode cX12_asksWeights 191 = .ok (.iload_n 3, 1) := by decide +kernel
theorem dX12_asksWeights_192 : decode cX12_asksWeights 192 = .ok (.ireturn, 1) := by decide +kernel
def f_X12_asksWeights_b174 (k5 : St → Int32 → Int32 → Int32 → Int32 → Option (Int32 × St)) (σ : St) (x1 : Int32) (x2 : Int32) (x3 : Int32) (x4 : Int32) (s0 : Int32) (s1 : Int32) : Option (Int32 × St) := chk (s1 < 0 ∨ 12 ≤ s1.toNatClampNeg) (bnd (sA σ 619 0 (upd (σ.2.2.1 619 0) s1.toNatClampNeg s0)) (fun σ23 => chk (x4 < 0 ∨ 12 ≤ x4.toNatClampNeg) (bnd (x3 + (σ23.2.2.1 619 0 x4.toNatClampNeg)) (fun v25 => bnd (x4 + 1) (fun v26 => k5 σ23 x1 x2 v25 v26)))))
def f_X12_asksWeights_b145 (k5 : St → Int32 → Int32 → Int32 → Int32 → Option (Int32 × St)) (σ : St) (x1 : Int32) (x2 : Int32) (x3 : Int32) (x4 : Int32) (x6 : Int32) : Option (Int32 × St) := if 0 ≤ x6 then (if x6 ≤ (99 : Int32) then (f_X12_asksWeights_b174 k5 σ x1 x2 x3 x4 x6 x4) else (f_X12_asksWeights_b174 k5 σ x1 x2 x3 x4 (99 : Int32) x4)) else (f_X12_asksWeights_b174 k5 σ x1 x2 x3 x4 (0 : Int32) x4)
def f_X12_asksWeights_b111 (k5 : St → Int32 → Int32 → Int32 → Int32 → Option (Int32 × St)) (σ : St) (x1 : Int32) (x2 : Int32) (x3 : Int32) (x4 : Int32) (s0 : Int32) (s1 : Int32) : Option (Int32 × St) := chk (s1 < 0 ∨ 6 ≤ s1.toNatClampNeg) (bnd (sA σ 618 0 (upd (σ.2.2.1 618 0) s1.toNatClampNeg s0)) (fun σ15 => bnd (sA σ15 618 0 (upd (σ15.2.2.1 618 0) (3 : Int32).toNatClampNeg x1)) (fun σ16 => bnd (sA σ16 618 0 (upd (σ16.2.2.1 618 0) (4 : Int32).toNatClampNeg x4)) (fun σ17 => bnd (sA σ17 618 0 (upd (σ17.2.2.1 618 0) (5 : Int32).toNatClampNeg x2)) (fun σ18 => bnd2 (f_X12_workOut σ18 (0 : Int32) (σ18.1 612 0)) (fun r20 σ21 => f_X12_asksWeights_b145 k5 σ21 x1 x2 x3 x4 r20))))))
def f_X12_asksWeights_b48 (k5 : St → Int32 → Int32 → Int32 → Int32 → Option (Int32 × St)) (σ : St) (x1 : Int32) (x2 : Int32) (x3 : Int32) (x4 : Int32) (x5 : Int32) (s0 : Int32) : Option (Int32 × St) := bnd ((s0 + (x5 * (σ.2.2.1 600 0 (178 : Int32).toNatClampNeg))) - ((2 : Int32) * x2)) (fun v7 => if σ.1 612 0 < 0 then (f_X12_asksWeights_b145 k5 σ x1 x2 x3 x4 v7) else (bnd (sA σ 618 0 (upd (σ.2.2.1 618 0) (0 : Int32).toNatClampNeg x5)) (fun σ9 => bnd (sA σ9 618 0 (upd (σ9.2.2.1 618 0) (1 : Int32).toNatClampNeg (σ9.2.2.1 600 0 (178 : Int32).toNatClampNeg))) (fun σ10 => if x1 = x4 then (f_X12_asksWeights_b111 k5 σ10 x1 x2 x3 x4 (1 : Int32) (2 : Int32)) else (f_X12_asksWeights_b111 k5 σ10 x1 x2 x3 x4 (0 : Int32) (2 : Int32))))))
def f_X12_asksWeights_b34 (k5 : St → Int32 → Int32 → Int32 → Int32 → Option (Int32 × St)) (σ : St) (x1 : Int32) (x2 : Int32) (x3 : Int32) (x4 : Int32) (s0 : Int32) : Option (Int32 × St) := if x1 = x4 then (f_X12_asksWeights_b48 k5 σ x1 x2 x3 x4 s0 (9 : Int32)) else (f_X12_asksWeights_b48 k5 σ x1 x2 x3 x4 s0 (0 : Int32))
def f_X12_asksWeights_b5 : Nat → St → Int32 → Int32 → Int32 → Int32 → Option (Int32 × St)
  | 0, _, _, _, _, _ => none
  | n + 1, σ, x1, x2, x3, x4 => if (12 : Int32) ≤ x4 then (some (x3, σ)) else (if x1 = x4 then (f_X12_asksWeights_b34 (f_X12_asksWeights_b5 n) σ x1 x2 x3 x4 (9 : Int32)) else (bnd1 (f_X12_alikeAt x1 x4) (fun r4 => chk (r4 < 0 ∨ 179 ≤ r4.toNatClampNeg) (f_X12_asksWeights_b34 (f_X12_asksWeights_b5 n) σ x1 x2 x3 x4 (σ.2.2.1 600 0 r4.toNatClampNeg)))))
def f_X12_asksWeights (σ : St) (p1 : Int32) (p2 : Int32) : Option (Int32 × St) := f_X12_asksWeights_b5 256 σ p1 p2 (0 : Int32) (0 : Int32)
set_option maxHeartbeats 4000000 in
set_option maxRecDepth 100000 in
theorem w_X12_asksWeights_b174 {p : Program} {l : Launch} {e : Env} {s : State} {m : MethodId} {args : Array Value} {below : List Frame} {meth : Method} {c : Code} {g : va_G} {ts : ClassId × ClassId × ClassId} {A : Nat → Prop} {Q : State → Prop} {a : Nat → Nat} {r : Int32} {σ' : St} {k5 : St → Int32 → Int32 → Int32 → Int32 → Option (Int32 × St)} (C : FX p s m args meth c RX12 cX12_asksWeights 7 g ts A) (hQ : RetI p l e (rk 99 2131) s m args below meth c cX12_asksWeights g (WM ts a) A r σ' Q) (hk5 : ∀ (σ : St) (x1 : Int32) (x2 : Int32) (x3 : Int32) (x4 : Int32) (H : Heap) (locs : List Loc) (ls : Array Slot), k5 σ x1 x2 x3 x4 = some (r, σ') → va_P g classes (WM ts a σ) H → va_D A (WM ts a σ) → va_S A s.heap H locs → lv_has ls 7 [(0, .ref (a 0)), (1, .int x1), (2, .int x2), (3, .int x3), (4, .int x4)] → W p l e (rk 99 2131) s m args below meth c H locs 0 0 Q (F0 m 5 ls [])) : ∀ (σ : St) (x1 : Int32) (x2 : Int32) (x3 : Int32) (x4 : Int32) (s0 : Int32) (s1 : Int32) (H : Heap) (locs : List Loc) (ls : Array Slot), f_X12_asksWeights_b174 k5 σ x1 x2 x3 x4 s0 s1 = some (r, σ') → va_P g classes (WM ts a σ) H → va_D A (WM ts a σ) → va_S A s.heap H locs → lv_has ls 7 [(0, .ref (a 0)), (1, .int x1), (2, .int x2), (3, .int x3), (4, .int x4)] → W p l e (rk 99 2131) s m args below meth c H locs 0 0 Q (F0 m 174 ls [.int s0, .int s1, .ref (a 10)]) := by
  have hx := C.1
  have hb := C.2.1
  have hown := C.2.2.2.1
  have hts := C.2.2.2.2.1
  intro σ x1 x2 x3 x4 s0 s1 H locs ls hf hP hD hS hl
  rw [f_X12_asksWeights_b174] at hf
  obtain ⟨h22, hf⟩ := chk_some hf
  refine AS_X12_weights C hP hD hS h22 dX12_asksWeights_174 (fun H locs hP hD hS => ?_)
  refine nameS hP hD hf (fun σ23 hP hD hf => ?_)
  refine lv_iload_n hx hb dX12_asksWeights_175 rfl (lv_at hl 3 rfl) ?_
  refine lv_aload_n hx hb dX12_asksWeights_176 rfl (lv_at hl 0 rfl) ?_
  refine G_X12_weights C hP q_1091 dX12_asksWeights_177 ?_
  refine lv_iload hx hb dX12_asksWeights_180 (lv_at hl 4 rfl) ?_
  obtain ⟨h24, hf⟩ := chk_some hf
  refine AL_X12_weights C hP h24 dX12_asksWeights_182 ?_
  refine lv_iadd hx hb dX12_asksWeights_183 ?_
  refine lv_topi (fun v25 ev25 => ?_)
  replace hf := bnd_at ev25 hf
  refine lv_istore_n (lv' := [(3, .int v25), (0, .ref (a 0)), (1, .int x1), (2, .int x2), (4, .int x4)]) hx hb dX12_asksWeights_184 rfl hl (by decide) rfl (fun ls hl => ?_)
  obtain ⟨v26, ev26⟩ : ∃ z : Int32, z = x4 + 1 := ⟨_, rfl⟩
  replace hf := bnd_at ev26 hf
  refine lv_iinc (v := v26) (lv' := [(4, .int v26), (3, .int v25), (0, .ref (a 0)), (1, .int x1), (2, .int x2)]) hx hb dX12_asksWeights_185 hl (k := 4) rfl (by rw [ev26]; rfl) (by decide) rfl (fun ls hl => ?_)
  refine lv_goto (tgt := 5) hx hb dX12_asksWeights_188 (by decide) ?_
  exact hk5 _ _ _ _ _ _ _ _ hf hP hD hS (lv_sub hl [2, 3, 4, 1, 0] rfl)
set_option maxHeartbeats 4000000 in
set_option maxRecDepth 100000 in
theorem w_X12_asksWeights_b145 {p : Program} {l : Launch} {e : Env} {s : State} {m : MethodId} {args : Array Value} {below : List Frame} {meth : Method} {c : Code} {g : va_G} {ts : ClassId × ClassId × ClassId} {A : Nat → Prop} {Q : State → Prop} {a : Nat → Nat} {r : Int32} {σ' : St} {k5 : St → Int32 → Int32 → Int32 → Int32 → Option (Int32 × St)} (C : FX p s m args meth c RX12 cX12_asksWeights 7 g ts A) (hQ : RetI p l e (rk 99 2131) s m args below meth c cX12_asksWeights g (WM ts a) A r σ' Q) (hk5 : ∀ (σ : St) (x1 : Int32) (x2 : Int32) (x3 : Int32) (x4 : Int32) (H : Heap) (locs : List Loc) (ls : Array Slot), k5 σ x1 x2 x3 x4 = some (r, σ') → va_P g classes (WM ts a σ) H → va_D A (WM ts a σ) → va_S A s.heap H locs → lv_has ls 7 [(0, .ref (a 0)), (1, .int x1), (2, .int x2), (3, .int x3), (4, .int x4)] → W p l e (rk 99 2131) s m args below meth c H locs 0 0 Q (F0 m 5 ls [])) : ∀ (σ : St) (x1 : Int32) (x2 : Int32) (x3 : Int32) (x4 : Int32) (x6 : Int32) (H : Heap) (locs : List Loc) (ls : Array Slot), f_X12_asksWeights_b145 k5 σ x1 x2 x3 x4 x6 = some (r, σ') → va_P g classes (WM ts a σ) H → va_D A (WM ts a σ) → va_S A s.heap H locs → lv_has ls 7 [(0, .ref (a 0)), (1, .int x1), (2, .int x2), (3, .int x3), (4, .int x4), (6, .int x6)] → W p l e (rk 99 2131) s m args below meth c H locs 0 0 Q (F0 m 145 ls []) := by
  have hx := C.1
  have hb := C.2.1
  have hown := C.2.2.2.1
  have hts := C.2.2.2.2.1
  intro σ x1 x2 x3 x4 x6 H locs ls hf hP hD hS hl
  rw [f_X12_asksWeights_b145] at hf
  refine lv_aload_n hx hb dX12_asksWeights_145 rfl (lv_at hl 0 rfl) ?_
  refine G_X12_weights C hP q_1091 dX12_asksWeights_146 ?_
  refine lv_iload hx hb dX12_asksWeights_149 (lv_at hl 4 rfl) ?_
  refine lv_iload hx hb dX12_asksWeights_151 (lv_at hl 5 rfl) ?_
  refine lv_if_ge (tgt := 160) hx hb dX12_asksWeights_153 (by decide) (fun c12 => ?_) (fun c12 => ?_)
  · replace hf := ipos c12 hf
    refine lv_iload hx hb dX12_asksWeights_160 (lv_at hl 5 rfl) ?_
    refine lv_bipush (v := 99) hx hb dX12_asksWeights_162 (by decide) ?_
    refine lv_icmp_le (tgt := 172) hx hb dX12_asksWeights_164 (by decide) (fun c13 => ?_) (fun c13 => ?_)
    · replace hf := ipos c13 hf
      refine lv_iload hx hb dX12_asksWeights_172 (lv_at hl 5 rfl) ?_
      exact w_X12_asksWeights_b174 C hQ hk5 _ _ _ _ _ _ _ _ _ _ hf hP hD hS (lv_sub hl [0, 1, 2, 3, 4] rfl)
    · replace hf := ineg c13 hf
      refine lv_bipush (v := 99) hx hb dX12_asksWeights_167 (by decide) ?_
      refine lv_goto (tgt := 174) hx hb dX12_asksWeights_169 (by decide) ?_
      exact w_X12_asksWeights_b174 C hQ hk5 _ _ _ _ _ _ _ _ _ _ hf hP hD hS (lv_sub hl [0, 1, 2, 3, 4] rfl)
  · replace hf := ineg c12 hf
    refine lv_iconst (v := 0) hx hb dX12_asksWeights_156 (by decide) ?_
    refine lv_goto (tgt := 174) hx hb dX12_asksWeights_157 (by decide) ?_
    exact w_X12_asksWeights_b174 C hQ hk5 _ _ _ _ _ _ _ _ _ _ hf hP hD hS (lv_sub hl [0, 1, 2, 3, 4] rfl)
set_option maxHeartbeats 4000000 in
set_option maxRecDepth 100000 in
theorem w_X12_asksWeights_b111 {p : Program} {l : Launch} {e : Env} {s : State} {m : MethodId} {args : Array Value} {below : List Frame} {meth : Method} {c : Code} {g : va_G} {ts : ClassId × ClassId × ClassId} {A : Nat → Prop} {Q : State → Prop} {a : Nat → Nat} {r : Int32} {σ' : St} {k5 : St → Int32 → Int32 → Int32 → Int32 → Option (Int32 × St)} (C : FX p s m args meth c RX12 cX12_asksWeights 7 g ts A) (hQ : RetI p l e (rk 99 2131) s m args below meth c cX12_asksWeights g (WM ts a) A r σ' Q) (hk5 : ∀ (σ : St) (x1 : Int32) (x2 : Int32) (x3 : Int32) (x4 : Int32) (H : Heap) (locs : List Loc) (ls : Array Slot), k5 σ x1 x2 x3 x4 = some (r, σ') → va_P g classes (WM ts a σ) H → va_D A (WM ts a σ) → va_S A s.heap H locs → lv_has ls 7 [(0, .ref (a 0)), (1, .int x1), (2, .int x2), (3, .int x3), (4, .int x4)] → W p l e (rk 99 2131) s m args below meth c H locs 0 0 Q (F0 m 5 ls [])) : ∀ (σ : St) (x1 : Int32) (x2 : Int32) (x3 : Int32) (x4 : Int32) (s0 : Int32) (s1 : Int32) (H : Heap) (locs : List Loc) (ls : Array Slot), f_X12_asksWeights_b111 k5 σ x1 x2 x3 x4 s0 s1 = some (r, σ') → va_P g classes (WM ts a σ) H → va_D A (WM ts a σ) → va_S A s.heap H locs → lv_has ls 7 [(0, .ref (a 0)), (1, .int x1), (2, .int x2), (3, .int x3), (4, .int x4)] → W p l e (rk 99 2131) s m args below meth c H locs 0 0 Q (F0 m 111 ls [.int s0, .int s1, .ref (a 9)]) := by
  have hx := C.1
  have hb := C.2.1
  have hown := C.2.2.2.1
  have hts := C.2.2.2.2.1
  intro σ x1 x2 x3 x4 s0 s1 H locs ls hf hP hD hS hl
  rw [f_X12_asksWeights_b111] at hf
  obtain ⟨h14, hf⟩ := chk_some hf
  refine AS_X12_names C hP hD hS h14 dX12_asksWeights_111 (fun H locs hP hD hS => ?_)
  refine nameS hP hD hf (fun σ15 hP hD hf => ?_)
  refine lv_aload_n hx hb dX12_asksWeights_112 rfl (lv_at hl 0 rfl) ?_
  refine G_X12_names C hP q_1090 dX12_asksWeights_113 ?_
  refine lv_iconst (v := 3) hx hb dX12_asksWeights_116 (by decide) ?_
  refine lv_iload_n hx hb dX12_asksWeights_117 rfl (lv_at hl 1 rfl) ?_
  refine AS_X12_names C hP hD hS (by decide) dX12_asksWeights_118 (fun H locs hP hD hS => ?_)
  refine nameS hP hD hf (fun σ16 hP hD hf => ?_)
  refine lv_aload_n hx hb dX12_asksWeights_119 rfl (lv_at hl 0 rfl) ?_
  refine G_X12_names C hP q_1090 dX12_asksWeights_120 ?_
  refine lv_iconst (v := 4) hx hb dX12_asksWeights_123 (by decide) ?_
  refine lv_iload hx hb dX12_asksWeights_124 (lv_at hl 4 rfl) ?_
  refine AS_X12_names C hP hD hS (by decide) dX12_asksWeights_126 (fun H locs hP hD hS => ?_)
  refine nameS hP hD hf (fun σ17 hP hD hf => ?_)
  refine lv_aload_n hx hb dX12_asksWeights_127 rfl (lv_at hl 0 rfl) ?_
  refine G_X12_names C hP q_1090 dX12_asksWeights_128 ?_
  refine lv_iconst (v := 5) hx hb dX12_asksWeights_131 (by decide) ?_
  refine lv_iload_n hx hb dX12_asksWeights_132 rfl (lv_at hl 2 rfl) ?_
  refine AS_X12_names C hP hD hS (by decide) dX12_asksWeights_133 (fun H locs hP hD hS => ?_)
  refine nameS hP hD hf (fun σ18 hP hD hf => ?_)
  refine lv_aload_n hx hb dX12_asksWeights_134 rfl (lv_at hl 0 rfl) ?_
  refine lv_iconst (v := 0) hx hb dX12_asksWeights_135 (by decide) ?_
  refine lv_aload_n hx hb dX12_asksWeights_136 rfl (lv_at hl 0 rfl) ?_
  refine G_X12_textMany C hP q_1084 dX12_asksWeights_137 ?_
  obtain ⟨r20, σ21, h19, hf⟩ := bnd2_some hf
  refine vI [] C hP hD hS (c_X12_workOut h19) mv_X12_workOut q_1279 rv_X12 dX12_asksWeights_140 ⟨Nat.le_of_ble_eq_true rfl, Nat.le_of_ble_eq_true rfl⟩ ⟨Nat.zero_le _, Nat.zero_le _⟩ rfl rfl (Nat.le_of_ble_eq_true rfl) hl.1 (fun H locs hP hD hS => ?_)
  refine lv_istore (lv' := [(6, .int r20), (0, .ref (a 0)), (1, .int x1), (2, .int x2), (3, .int x3), (4, .int x4)]) hx hb dX12_asksWeights_143 hl (by decide) rfl (fun ls hl => ?_)
  exact w_X12_asksWeights_b145 C hQ hk5 _ _ _ _ _ _ _ _ _ hf hP hD hS (lv_sub hl [1, 2, 3, 4, 5, 0] rfl)
set_option maxHeartbeats 4000000 in
set_option maxRecDepth 100000 in
theorem w_X12_asksWeights_b48 {p : Program} {l : Launch} {e : Env} {s : State} {m : MethodId} {args : Array Value} {below : List Frame} {meth : Method} {c : Code} {g : va_G} {ts : ClassId × ClassId × ClassId} {A : Nat → Prop} {Q : State → Prop} {a : Nat → Nat} {r : Int32} {σ' : St} {k5 : St → Int32 → Int32 → Int32 → Int32 → Option (Int32 × St)} (C : FX p s m args meth c RX12 cX12_asksWeights 7 g ts A) (hQ : RetI p l e (rk 99 2131) s m args below meth c cX12_asksWeights g (WM ts a) A r σ' Q) (hk5 : ∀ (σ : St) (x1 : Int32) (x2 : Int32) (x3 : Int32) (x4 : Int32) (H : Heap) (locs : List Loc) (ls : Array Slot), k5 σ x1 x2 x3 x4 = some (r, σ') → va_P g classes (WM ts a σ) H → va_D A (WM ts a σ) → va_S A s.heap H locs → lv_has ls 7 [(0, .ref (a 0)), (1, .int x1), (2, .int x2), (3, .int x3), (4, .int x4)] → W p l e (rk 99 2131) s m args below meth c H locs 0 0 Q (F0 m 5 ls [])) : ∀ (σ : St) (x1 : Int32) (x2 : Int32) (x3 : Int32) (x4 : Int32) (x5 : Int32) (s0 : Int32) (H : Heap) (locs : List Loc) (ls : Array Slot), f_X12_asksWeights_b48 k5 σ x1 x2 x3 x4 x5 s0 = some (r, σ') → va_P g classes (WM ts a σ) H → va_D A (WM ts a σ) → va_S A s.heap H locs → lv_has ls 7 [(0, .ref (a 0)), (1, .int x1), (2, .int x2), (3, .int x3), (4, .int x4), (5, .int x5)] → W p l e (rk 99 2131) s m args below meth c H locs 0 0 Q (F0 m 48 ls [.int s0]) := by
  have hx := C.1
  have hb := C.2.1
  have hown := C.2.2.2.1
  have hts := C.2.2.2.2.1
  intro σ x1 x2 x3 x4 x5 s0 H locs ls hf hP hD hS hl
  rw [f_X12_asksWeights_b48] at hf
  refine lv_iload hx hb dX12_asksWeights_48 (lv_at hl 5 rfl) ?_
  refine lv_aload_n hx hb dX12_asksWeights_50 rfl (lv_at hl 0 rfl) ?_
  refine G_X12_may C hP q_1072 dX12_asksWeights_51 ?_
  refine lv_sipush (v := 178) hx hb dX12_asksWeights_54 (by decide) ?_
  refine AL_X12_may C hP (by decide) dX12_asksWeights_57 ?_
  refine lv_imul hx hb dX12_asksWeights_58 ?_
  refine lv_iadd hx hb dX12_asksWeights_59 ?_
  refine lv_iconst (v := 2) hx hb dX12_asksWeights_60 (by decide) ?_
  refine lv_iload_n hx hb dX12_asksWeights_61 rfl (lv_at hl 2 rfl) ?_
  refine lv_imul hx hb dX12_asksWeights_62 ?_
  refine lv_isub hx hb dX12_asksWeights_63 ?_
  refine lv_topi (fun v7 ev7 => ?_)
  replace hf := bnd_at ev7 hf
  refine lv_istore (lv' := [(6, .int v7), (0, .ref (a 0)), (1, .int x1), (2, .int x2), (3, .int x3), (4, .int x4), (5, .int x5)]) hx hb dX12_asksWeights_64 hl (by decide) rfl (fun ls hl => ?_)
  refine lv_aload_n hx hb dX12_asksWeights_66 rfl (lv_at hl 1 rfl) ?_
  refine G_X12_textMany C hP q_1084 dX12_asksWeights_67 ?_
  refine lv_if_lt (tgt := 145) hx hb dX12_asksWeights_70 (by decide) (fun c8 => ?_) (fun c8 => ?_)
  · replace hf := ipos c8 hf
    exact w_X12_asksWeights_b145 C hQ hk5 _ _ _ _ _ _ _ _ _ hf hP hD hS (lv_sub hl [1, 2, 3, 4, 5, 0] rfl)
  · replace hf := ineg c8 hf
    refine lv_aload_n hx hb dX12_asksWeights_73 rfl (lv_at hl 1 rfl) ?_
    refine G_X12_names C hP q_1090 dX12_asksWeights_74 ?_
    refine lv_iconst (v := 0) hx hb dX12_asksWeights_77 (by decide) ?_
    refine lv_iload hx hb dX12_asksWeights_78 (lv_at hl 6 rfl) ?_
    refine AS_X12_names C hP hD hS (by decide) dX12_asksWeights_80 (fun H locs hP hD hS => ?_)
    refine nameS hP hD hf (fun σ9 hP hD hf => ?_)
    refine lv_aload_n hx hb dX12_asksWeights_81 rfl (lv_at hl 1 rfl) ?_
    refine G_X12_names C hP q_1090 dX12_asksWeights_82 ?_
    refine lv_iconst (v := 1) hx hb dX12_asksWeights_85 (by decide) ?_
    refine lv_aload_n hx hb dX12_asksWeights_86 rfl (lv_at hl 1 rfl) ?_
    refine G_X12_may C hP q_1072 dX12_asksWeights_87 ?_
    refine lv_sipush (v := 178) hx hb dX12_asksWeights_90 (by decide) ?_
    refine AL_X12_may C hP (by decide) dX12_asksWeights_93 ?_
    refine AS_X12_names C hP hD hS (by decide) dX12_asksWeights_94 (fun H locs hP hD hS => ?_)
    refine nameS hP hD hf (fun σ10 hP hD hf => ?_)
    refine lv_aload_n hx hb dX12_asksWeights_95 rfl (lv_at hl 1 rfl) ?_
    refine G_X12_names C hP q_1090 dX12_asksWeights_96 ?_
    refine lv_iconst (v := 2) hx hb dX12_asksWeights_99 (by decide) ?_
    refine lv_iload_n hx hb dX12_asksWeights_100 rfl (lv_at hl 2 rfl) ?_
    refine lv_iload hx hb dX12_asksWeights_101 (lv_at hl 5 rfl) ?_
    refine lv_icmp_ne (tgt := 110) hx hb dX12_asksWeights_103 (by decide) (fun c11 => ?_) (fun c11 => ?_)
    · replace hf := ineg c11 hf
      refine lv_iconst (v := 0) hx hb dX12_asksWeights_110 (by decide) ?_
      exact w_X12_asksWeights_b111 C hQ hk5 _ _ _ _ _ _ _ _ _ _ hf hP hD hS (lv_sub hl [1, 2, 3, 4, 5] rfl)
    · replace hf := ipos c11 hf
      refine lv_iconst (v := 1) hx hb dX12_asksWeights_106 (by decide) ?_
      refine lv_goto (tgt := 111) hx hb dX12_asksWeights_107 (by decide) ?_
      exact w_X12_asksWeights_b111 C hQ hk5 _ _ _ _ _ _ _ _ _ _ hf hP hD hS (lv_sub hl [1, 2, 3, 4, 5] rfl)
set_option maxHeartbeats 4000000 in
set_option maxRecDepth 100000 in
theorem w_X12_asksWeights_b34 {p : Program} {l : Launch} {e : Env} {s : State} {m : MethodId} {args : Array Value} {below : List Frame} {meth : Method} {c : Code} {g : va_G} {ts : ClassId × ClassId × ClassId} {A : Nat → Prop} {Q : State → Prop} {a : Nat → Nat} {r : Int32} {σ' : St} {k5 : St → Int32 → Int32 → Int32 → Int32 → Option (Int32 × St)} (C : FX p s m args meth c RX12 cX12_asksWeights 7 g ts A) (hQ : RetI p l e (rk 99 2131) s m args below meth c cX12_asksWeights g (WM ts a) A r σ' Q) (hk5 : ∀ (σ : St) (x1 : Int32) (x2 : Int32) (x3 : Int32) (x4 : Int32) (H : Heap) (locs : List Loc) (ls : Array Slot), k5 σ x1 x2 x3 x4 = some (r, σ') → va_P g classes (WM ts a σ) H → va_D A (WM ts a σ) → va_S A s.heap H locs → lv_has ls 7 [(0, .ref (a 0)), (1, .int x1), (2, .int x2), (3, .int x3), (4, .int x4)] → W p l e (rk 99 2131) s m args below meth c H locs 0 0 Q (F0 m 5 ls [])) : ∀ (σ : St) (x1 : Int32) (x2 : Int32) (x3 : Int32) (x4 : Int32) (s0 : Int32) (H : Heap) (locs : List Loc) (ls : Array Slot), f_X12_asksWeights_b34 k5 σ x1 x2 x3 x4 s0 = some (r, σ') → va_P g classes (WM ts a σ) H → va_D A (WM ts a σ) → va_S A s.heap H locs → lv_has ls 7 [(0, .ref (a 0)), (1, .int x1), (2, .int x2), (3, .int x3), (4, .int x4)] → W p l e (rk 99 2131) s m args below meth c H locs 0 0 Q (F0 m 34 ls [.int s0]) := by
  have hx := C.1
  have hb := C.2.1
  have hown := C.2.2.2.1
  have hts := C.2.2.2.2.1
  intro σ x1 x2 x3 x4 s0 H locs ls hf hP hD hS hl
  rw [f_X12_asksWeights_b34] at hf
  refine lv_istore (lv' := [(5, .int s0), (0, .ref (a 0)), (1, .int x1), (2, .int x2), (3, .int x3), (4, .int x4)]) hx hb dX12_asksWeights_34 hl (by decide) rfl (fun ls hl => ?_)
  refine lv_iload_n hx hb dX12_asksWeights_36 rfl (lv_at hl 2 rfl) ?_
  refine lv_iload hx hb dX12_asksWeights_37 (lv_at hl 5 rfl) ?_
  refine lv_icmp_ne (tgt := 47) hx hb dX12_asksWeights_39 (by decide) (fun c6 => ?_) (fun c6 => ?_)
  · replace hf := ineg c6 hf
    refine lv_iconst (v := 0) hx hb dX12_asksWeights_47 (by decide) ?_
    exact w_X12_asksWeights_b48 C hQ hk5 _ _ _ _ _ _ _ _ _ _ hf hP hD hS (lv_sub hl [1, 2, 3, 4, 5, 0] rfl)
  · replace hf := ipos c6 hf
    refine lv_bipush (v := 9) hx hb dX12_asksWeights_42 (by decide) ?_
    refine lv_goto (tgt := 48) hx hb dX12_asksWeights_44 (by decide) ?_
    exact w_X12_asksWeights_b48 C hQ hk5 _ _ _ _ _ _ _ _ _ _ hf hP hD hS (lv_sub hl [1, 2, 3, 4, 5, 0] rfl)
set_option maxHeartbeats 4000000 in
set_option maxRecDepth 100000 in
theorem w_X12_asksWeights_b5 {p : Program} {l : Launch} {e : Env} {s : State} {m : MethodId} {args : Array Value} {below : List Frame} {meth : Method} {c : Code} {g : va_G} {ts : ClassId × ClassId × ClassId} {A : Nat → Prop} {Q : State → Prop} {a : Nat → Nat} {r : Int32} {σ' : St} (C : FX p s m args meth c RX12 cX12_asksWeights 7 g ts A) (hQ : RetI p l e (rk 99 2131) s m args below meth c cX12_asksWeights g (WM ts a) A r σ' Q) : ∀ (n : Nat) (σ : St) (x1 : Int32) (x2 : Int32) (x3 : Int32) (x4 : Int32) (H : Heap) (locs : List Loc) (ls : Array Slot), f_X12_asksWeights_b5 n σ x1 x2 x3 x4 = some (r, σ') → va_P g classes (WM ts a σ) H → va_D A (WM ts a σ) → va_S A s.heap H locs → lv_has ls 7 [(0, .ref (a 0)), (1, .int x1), (2, .int x2), (3, .int x3), (4, .int x4)] → W p l e (rk 99 2131) s m args below meth c H locs 0 0 Q (F0 m 5 ls []) := by
  have hx := C.1
  have hb := C.2.1
  have hown := C.2.2.2.1
  have hts := C.2.2.2.2.1
  intro n
  induction n with
  | zero =>
    intro σ x1 x2 x3 x4 H locs ls hf
    cases hf
  | succ n ih =>
    intro σ x1 x2 x3 x4 H locs ls hf hP hD hS hl
    rw [f_X12_asksWeights_b5] at hf
    refine lv_iload hx hb dX12_asksWeights_5 (lv_at hl 4 rfl) ?_
    refine lv_bipush (v := 12) hx hb dX12_asksWeights_7 (by decide) ?_
    refine lv_icmp_ge (tgt := 191) hx hb dX12_asksWeights_9 (by decide) (fun c1 => ?_) (fun c1 => ?_)
    · replace hf := ipos c1 hf
      refine lv_iload_n hx hb dX12_asksWeights_191 rfl (lv_at hl 3 rfl) ?_
      exact retI hQ hf dX12_asksWeights_192 hP hD hS
    · replace hf := ineg c1 hf
      refine lv_iload_n hx hb dX12_asksWeights_12 rfl (lv_at hl 1 rfl) ?_
      refine lv_iload hx hb dX12_asksWeights_13 (lv_at hl 4 rfl) ?_
      refine lv_icmp_ne (tgt := 23) hx hb dX12_asksWeights_15 (by decide) (fun c2 => ?_) (fun c2 => ?_)
      · replace hf := ineg c2 hf
        refine lv_aload_n hx hb dX12_asksWeights_23 rfl (lv_at hl 0 rfl) ?_
        refine G_X12_may C hP q_1072 dX12_asksWeights_24 ?_
        refine lv_iload_n hx hb dX12_asksWeights_27 rfl (lv_at hl 1 rfl) ?_
        refine lv_iload hx hb dX12_asksWeights_28 (lv_at hl 4 rfl) ?_
        obtain ⟨r4, h3, hf⟩ := bnd1_some hf
        refine tI [.ref (a 1)] C hP hD hS (c_X12_alikeAt h3) ms_X12_alikeAt q_1249 dX12_asksWeights_30 ⟨Nat.le_of_ble_eq_true rfl, Nat.le_of_ble_eq_true rfl⟩ ⟨Nat.zero_le _, Nat.zero_le _⟩ rfl rfl (Nat.le_of_ble_eq_true rfl) hl.1 (fun H locs hP hD hS => ?_)
        obtain ⟨h5, hf⟩ := chk_some hf
        refine AL_X12_may C hP h5 dX12_asksWeights_33 ?_
        exact w_X12_asksWeights_b34 C hQ ih _ _ _ _ _ _ _ _ _ hf hP hD hS (lv_sub hl [0, 1, 2, 3, 4] rfl)
      · replace hf := ipos c2 hf
        refine lv_bipush (v := 9) hx hb dX12_asksWeights_18 (by decide) ?_
        refine lv_goto (tgt := 34) hx hb dX12_asksWeights_20 (by decide) ?_
        exact w_X12_asksWeights_b34 C hQ ih _ _ _ _ _ _ _ _ _ hf hP hD hS (lv_sub hl [0, 1, 2, 3, 4] rfl)
set_option maxHeartbeats 4000000 in
set_option maxRecDepth 100000 in
theorem c_X12_asksWeights {l : Launch} {g : va_G} {ts : ClassId × ClassId × ClassId} {a : Nat → Nat} {σ : St} {p1 : Int32} {p2 : Int32} {r : Int32} {σ' : St} (hf : f_X12_asksWeights σ p1 p2 = some (r, σ')) : ConI l g ts (WM ts a) yX12_asksWeights cX12_asksWeights 7 (some .int) (rk 99 2131) σ [.ref (a 0), .int p1, .int p2] r σ' := by
  refine ConI_mk .int rfl rfl rfl rfl (by decide) (Nat.le_of_ble_eq_true rfl) ?_
  intro p e s m below meth c A Q ls C hQ hP hD hS hl
  have C : FX p s m _ meth c RX12 cX12_asksWeights 7 g ts A := C
  have hx := C.1
  have hb := C.2.1
  have hown := C.2.2.2.1
  have hts := C.2.2.2.2.1
  have hl : lv_has ls 7 [(0, .ref (a 0)), (1, .int p1), (2, .int p2)] := hl
  rw [f_X12_asksWeights] at hf
  refine lv_iconst (v := 0) hx hb dX12_asksWeights_0 (by decide) ?_
  refine lv_istore_n (lv' := [(3, .int (0 : Int32)), (0, .ref (a 0)), (1, .int p1), (2, .int p2)]) hx hb dX12_asksWeights_1 rfl hl (by decide) rfl (fun ls hl => ?_)
  refine lv_iconst (v := 0) hx hb dX12_asksWeights_2 (by decide) ?_
  refine lv_istore (lv' := [(4, .int (0 : Int32)), (3, .int (0 : Int32)), (0, .ref (a 0)), (1, .int p1), (2, .int p2)]) hx hb dX12_asksWeights_3 hl (by decide) rfl (fun ls hl => ?_)
  exact w_X12_asksWeights_b5 C hQ 256 _ _ _ _ _ _ _ _ hf hP hD hS (lv_sub hl [2, 3, 4, 1, 0] rfl)
theorem dX12_partOfHeard_0 : decode cX12_partOfHeard 0 = .ok (.lload_n 2, 1) := by decide +kernel
theorem dX12_partOfHeard_1 : decode cX12_partOfHeard 1 = .ok (.invokestatic 112, 3) := by decide +kernel
theorem dX12_partOfHeard_4 : decode cX12_partOfHeard 4 = .ok (.ifCond .ne 5, 3) := by decide +kernel
theorem dX12_partOfHeard_7 : decode cX12_partOfHeard 7 = .ok (.iconst 0, 1) := by decide +kernel
theorem dX12_partOfHeard_8 : decode cX12_partOfHeard 8 = .ok (.ireturn, 1) := by decide +kernel
theorem dX12_partOfHeard_9 : decode cX12_partOfHeard 9 = .ok (.aload_n 0, 1) := by decide +kernel
theorem dX12_partOfHeard_10 : decode cX12_partOfHeard 10 = .ok (.iload_n 1, 1) := by decide +kernel
theorem dX12_partOfHeard_11 : decode cX12_partOfHeard 11 = .ok (.iload 4, 2) := by decide +kernel
theorem dX12_partOfHeard_13 : decode cX12_partOfHeard 13 = .ok (.invokevirtual 193, 3) := by decide +kernel
theorem dX12_partOfHeard_16 : decode cX12_partOfHeard 16 = .ok (.istore 5, 2) := by decide +kernel
theorem dX12_partOfHeard_18 : decode cX12_partOfHeard 18 = .ok (.iload 5, 2) := by decide +kernel
theorem dX12_partOfHeard_20 : decode cX12_partOfHeard 20 = .ok (.ifCond .ne 19, 3) := by decide +kernel
theorem dX12_partOfHeard_23 : decode cX12_partOfHeard 23 = .ok (.iload_n 1, 1) := by decide +kernel
theorem dX12_partOfHeard_24 : decode cX12_partOfHeard 24 = .ok (.i2l, 1) := by decide +kernel
theorem dX12_partOfHeard_25 : decode cX12_partOfHeard 25 = .ok (.lload_n 2, 1) := by decide +kernel
theorem dX12_partOfHeard_26 : decode cX12_partOfHeard 26 = .ok (.lcmp, 1) := by decide +kernel
theorem dX12_partOfHeard_27 : decode cX12_partOfHeard 27 = .ok (.ifCond .ne 8, 3) := by decide +kernel
theorem dX12_partOfHeard_30 : decode cX12_partOfHeard 30 = .ok (.bipush 100, 2) := by decide +kernel
theorem dX12_partOfHeard_32 : decode cX12_partOfHeard 32 = .ok (.goto 20, 3) := by decide +kernel
theorem dX12_partOfHeard_35 : decode cX12_partOfHeard 35 = .ok (.iconst 0, 1) := by decide +kernel
theorem dX12_partOfHeard_36 : decode cX12_partOfHeard 36 = .ok (.goto 16, 3) := by decide +kernel
theorem dX12_partOfHeard_39 : decode cX12_partOfHeard 39 = .ok (.bipush 100, 2) := by decide +kernel
theorem dX12_partOfHeard_41 : decode cX12_partOfHeard 41 = .ok (.aload_n 0, 1) := by decide +kernel
theorem dX12_partOfHeard_42 : decode cX12_partOfHeard 42 = .ok (.getfield 39, 3) := by decide +kernel
theorem dX12_partOfHeard_45 : decode cX12_partOfHeard 45 = .ok (.lload_n 2, 1) := by decide +kernel
theorem dX12_partOfHeard_46 : decode cX12_partOfHeard 46 = .ok (.l2i, 1) := by decide +kernel
theorem dX12_partOfHeard_47 : decode cX12_partOfHeard 47 = .ok (.iaload, 1) := by decide +kernel
theorem dX12_partOfHeard_48 : decode cX12_partOfHeard 48 = .ok (.imul, 1) := by decide +kernel
theorem dX12_partOfHeard_49 : decode cX12_partOfHeard 49 = .ok (.iload 5, 2) := by decide +kernel
theorem dX12_partOfHeard_51 : decode cX12_partOfHeard 51 = .ok (.idiv, 1) := by decide +kernel
theorem dX12_partOfHeard_52 : decode cX12_partOfHeard 52 = .ok (.ireturn, 1) := by decide +kernel
def f_X12_partOfHeard (σ : St) (p1 : Int32) (p2 : Int64) (p3 : Int32) : Option (Int32 × St) := bnd1 (f_X12_isLetter p2) (fun r2 => if r2 = 0 then (some ((0 : Int32), σ)) else (bnd2 (f_X12_asksWeights σ p1 p3) (fun r5 σ6 => if r5 = 0 then (if (p1 : Int32).toInt64 = p2 then (some ((100 : Int32), σ6)) else (some ((0 : Int32), σ6))) else (chk ((p2 : Int64).toInt32 < 0 ∨ 12 ≤ ((p2 : Int64).toInt32).toNatClampNeg) (chk (r5 = 0) (some (((100 : Int32) * (σ6.2.2.1 619 0 ((p2 : Int64).toInt32).toNatClampNeg)) / r5, σ6)))))))
set_option maxHeartbeats 4000000 in
set_option maxRecDepth 100000 in
theorem c_X12_partOfHeard {l : Launch} {g : va_G} {ts : ClassId × ClassId × ClassId} {a : Nat → Nat} {σ : St} {p1 : Int32} {p2 : Int64} {p3 : Int32} {r : Int32} {σ' : St} (hf : f_X12_partOfHeard σ p1 p2 p3 = some (r, σ')) : ConI l g ts (WM ts a) yX12_partOfHeard cX12_partOfHeard 6 (some .int) (rk 100 2157) σ [.ref (a 0), .int p1, .long p2, .int p3] r σ' := by
  refine ConI_mk .int rfl rfl rfl rfl (by decide) (Nat.le_of_ble_eq_true rfl) ?_
  intro p e s m below meth c A Q ls C hQ hP hD hS hl
  have C : FX p s m _ meth c RX12 cX12_partOfHeard 6 g ts A := C
  have hx := C.1
  have hb := C.2.1
  have hown := C.2.2.2.1
  have hts := C.2.2.2.2.1
  have hl : lv_has ls 6 [(0, .ref (a 0)), (1, .int p1), (2, .long p2), (4, .int p3)] := hl
  rw [f_X12_partOfHeard] at hf
  refine lv_lload_n hx hb dX12_partOfHeard_0 rfl (lv_at hl 2 rfl) ?_
  obtain ⟨r2, h1, hf⟩ := bnd1_some hf
  refine tI [] C hP hD hS (c_X12_isLetter h1) ms_X12_isLetter q_1230 dX12_partOfHeard_1 ⟨Nat.le_of_ble_eq_true rfl, Nat.le_of_ble_eq_true rfl⟩ ⟨Nat.zero_le _, Nat.zero_le _⟩ rfl rfl (Nat.le_of_ble_eq_true rfl) hl.1 (fun H locs hP hD hS => ?_)
  refine lv_if_ne (tgt := 9) hx hb dX12_partOfHeard_4 (by decide) (fun c3 => ?_) (fun c3 => ?_)
  · replace hf := ineg c3 hf
    refine lv_aload_n hx hb dX12_partOfHeard_9 rfl (lv_at hl 0 rfl) ?_
    refine lv_iload_n hx hb dX12_partOfHeard_10 rfl (lv_at hl 1 rfl) ?_
    refine lv_iload hx hb dX12_partOfHeard_11 (lv_at hl 3 rfl) ?_
    obtain ⟨r5, σ6, h4, hf⟩ := bnd2_some hf
    refine vI [] C hP hD hS (c_X12_asksWeights h4) mv_X12_asksWeights q_1327 rv_X12 dX12_partOfHeard_13 ⟨Nat.le_of_ble_eq_true rfl, Nat.le_of_ble_eq_true rfl⟩ ⟨Nat.zero_le _, Nat.zero_le _⟩ rfl rfl (Nat.le_of_ble_eq_true rfl) hl.1 (fun H locs hP hD hS => ?_)
    refine lv_istore (lv' := [(5, .int r5), (0, .ref (a 0)), (1, .int p1), (2, .long p2), (4, .int p3)]) hx hb dX12_partOfHeard_16 hl (by decide) rfl (fun ls hl => ?_)
    refine lv_iload hx hb dX12_partOfHeard_18 (lv_at hl 0 rfl) ?_
    refine lv_if_ne (tgt := 39) hx hb dX12_partOfHeard_20 (by decide) (fun c7 => ?_) (fun c7 => ?_)
    · replace hf := ineg c7 hf
      refine lv_bipush (v := 100) hx hb dX12_partOfHeard_39 (by decide) ?_
      refine lv_aload_n hx hb dX12_partOfHeard_41 rfl (lv_at hl 1 rfl) ?_
      refine G_X12_weights C hP q_1091 dX12_partOfHeard_42 ?_
      refine lv_lload_n hx hb dX12_partOfHeard_45 rfl (lv_at hl 3 rfl) ?_
      refine lv_l2i (v := (p2 : Int64).toInt32) hx hb dX12_partOfHeard_46 rfl ?_
      obtain ⟨h8, hf⟩ := chk_some hf
      refine AL_X12_weights C hP h8 dX12_partOfHeard_47 ?_
      refine lv_imul hx hb dX12_partOfHeard_48 ?_
      refine lv_iload hx hb dX12_partOfHeard_49 (lv_at hl 0 rfl) ?_
      obtain ⟨h9, hf⟩ := chk_some hf
      refine lv_idiv hx hb dX12_partOfHeard_51 h9 ?_
      exact retI hQ hf dX12_partOfHeard_52 hP hD hS
    · replace hf := ipos c7 hf
      refine lv_iload_n hx hb dX12_partOfHeard_23 rfl (lv_at hl 2 rfl) ?_
      refine lv_i2l (v := (p1 : Int32).toInt64) hx hb dX12_partOfHeard_24 rfl ?_
      refine lv_lload_n hx hb dX12_partOfHeard_25 rfl (lv_at hl 3 rfl) ?_
      refine lb_ne (tgt := 35) hx hb dX12_partOfHeard_26 dX12_partOfHeard_27 (by decide) (fun c10 => ?_) (fun c10 => ?_)
      · replace hf := ineg c10 hf
        refine lv_iconst (v := 0) hx hb dX12_partOfHeard_35 (by decide) ?_
        refine lv_goto (tgt := 52) hx hb dX12_partOfHeard_36 (by decide) ?_
        exact retI hQ hf dX12_partOfHeard_52 hP hD hS
      · replace hf := ipos c10 hf
        refine lv_bipush (v := 100) hx hb dX12_partOfHeard_30 (by decide) ?_
        refine lv_goto (tgt := 52) hx hb dX12_partOfHeard_32 (by decide) ?_
        exact retI hQ hf dX12_partOfHeard_52 hP hD hS
  · replace hf := ipos c3 hf
    refine lv_iconst (v := 0) hx hb dX12_partOfHeard_7 (by decide) ?_
    exact retI hQ hf dX12_partOfHeard_8 hP hD hS
theorem dX12_heard_0 : decode cX12_heard 0 = .ok (.iload_n 1, 1) := by decide +kernel
theorem dX12_heard_1 : decode cX12_heard 1 = .ok (.invokestatic 119, 3) := by decide +kernel
theorem dX12_heard_4 : decode cX12_heard 4 = .ok (.ifCond .eq 25, 3) := by decide +kernel
theorem dX12_heard_7 : decode cX12_heard 7 = .ok (.iload_n 2, 1) := by decide +kernel
theorem dX12_heard_8 : decode cX12_heard 8 = .ok (.i2l, 1) := by decide +kernel
theorem dX12_heard_9 : decode cX12_heard 9 = .ok (.lconst 0, 1) := by decide +kernel
theorem dX12_heard_10 : decode cX12_heard 10 = .ok (.ldc2_w 131, 3) := by decide +kernel
theorem dX12_heard_13 : decode cX12_heard 13 = .ok (.invokestatic 91, 3) := by decide +kernel
theorem dX12_heard_16 : decode cX12_heard 16 = .ok (.ifCond .eq 13, 3) := by decide +kernel
theorem dX12_heard_19 : decode cX12_heard 19 = .ok (.iload_n 3, 1) := by decide +kernel
theorem dX12_heard_20 : decode cX12_heard 20 = .ok (.i2l, 1) := by decide +kernel
theorem dX12_heard_21 : decode cX12_heard 21 = .ok (.lconst 0, 1) := by decide +kernel
theorem dX12_heard_22 : decode cX12_heard 22 = .ok (.lconst 1, 1) := by decide +kernel
theorem dX12_heard_23 : decode cX12_heard 23 = .ok (.invokestatic 91, 3) := by decide +kernel
theorem dX12_heard_26 : decode cX12_heard 26 = .ok (.ifCond .ne 7, 3) := by decide +kernel
theorem dX12_heard_29 : decode cX12_heard 29 = .ok (.ldc2_w 200, 3) := by decide +kernel
theorem dX12_heard_32 : decode cX12_heard 32 = .ok (.lreturn, 1) := by decide +kernel
theorem dX12_heard_33 : decode cX12_heard 33 = .ok (.aload_n 0, 1) := by decide +kernel
theorem dX12_heard_34 : decode cX12_heard 34 = .ok (.iload_n 1, 1) := by decide +kernel
theorem dX12_heard_35 : decode cX12_heard 35 = .ok (.bipush 100, 2) := by decide +kernel
theorem dX12_heard_37 : decode cX12_heard 37 = .ok (.idiv, 1) := by decide +kernel
theorem dX12_heard_38 : decode cX12_heard 38 = .ok (.iload_n 2, 1) := by decide +kernel
theorem dX12_heard_39 : decode cX12_heard 39 = .ok (.invokevirtual 193, 3) := by decide +kernel
theorem dX12_heard_42 : decode cX12_heard 42 = .ok (.istore 4, 2) := by decide +kernel
theorem dX12_heard_44 : decode cX12_heard 44 = .ok (.iload 4, 2) := by decide +kernel
theorem dX12_heard_46 : decode cX12_heard 46 = .ok (.ifCond .ne 21, 3) := by decide +kernel
theorem dX12_heard_49 : decode cX12_heard 49 = .ok (.iload_n 1, 1) := by decide +kernel
theorem dX12_heard_50 : decode cX12_heard 50 = .ok (.bipush 100, 2) := by decide +kernel
theorem dX12_heard_52 : decode cX12_heard 52 = .ok (.idiv, 1) := by decide +kernel
theorem dX12_heard_53 : decode cX12_heard 53 = .ok (.iload_n 1, 1) := by decide +kernel
theorem dX12_heard_54 : decode cX12_heard 54 = .ok (.bipush 100, 2) := by decide +kernel
theorem dX12_heard_56 : decode cX12_heard 56 = .ok (.irem, 1) := by decide +kernel
theorem dX12_heard_57 : decode cX12_heard 57 = .ok (.if_icmp .ne 7, 3) := by decide +kernel
theorem dX12_heard_60 : decode cX12_heard 60 = .ok (.lconst 1, 1) := by decide +kernel
theorem dX12_heard_61 : decode cX12_heard 61 = .ok (.goto 5, 3) := by decide +kernel
theorem dX12_heard_64 : decode cX12_heard 64 = .ok (.iload_n 3, 1) := by decide +kernel
theorem dX12_heard_65 : decode cX12_heard 65 = .ok (.i2l, 1) := by decide +kernel
theorem dX12_heard_66 : decode cX12_heard 66 = .ok (.lreturn, 1) := by decide +kernel
theorem dX12_heard_67 : decode cX12_heard 67 = .ok (.aload_n 0, 1) := by decide +kernel
theorem dX12_heard_68 : decode cX12_heard 68 = .ok (.getfield 39, 3) := by decide +kernel
theorem dX12_heard_71 : decode cX12_heard 71 = .ok (.iload_n 1, 1) := by decide +kernel
theorem dX12_heard_72 : decode cX12_heard 72 = .ok (.bipush 100, 2) := by decide +kernel
theorem dX12_heard_74 : decode cX12_heard 74 = .ok (.irem, 1) := by decide +kernel
theorem dX12_heard_75 : decode cX12_heard 75 = .ok (.iaload, 1) := by decide +kernel
theorem dX12_heard_76 : decode cX12_heard 76 = .ok (.i2l, 1) := by decide +kernel
theorem dX12_heard_77 : decode cX12_heard 77 = .ok (.iload 4, 2) := by decide +kernel
theorem dX12_heard_79 : decode cX12_heard 79 = .ok (.i2l, 1) := by decide +kernel
theorem dX12_heard_80 : decode cX12_heard 80 = .ok (.iload_n 3, 1) := by decide +kernel
theorem dX12_heard_81 : decode cX12_heard 81 = .ok (.invokestatic 202, 3) := by decide +kernel
theorem dX12_heard_84 : decode cX12_heard 84 = .ok (.lreturn, 1) := by decide +kernel
def f_X12_heard (σ : St) (p1 : Int32) (p2 : Int32) (p3 : Int32) : Option (Int64 × St) := bnd1 (f_X12_isTwo p1) (fun r2 => if r2 = 0 then (some ((-9223372036854775808 : Int64), σ)) else (bnd1 (f_X12_within ((p2 : Int32).toInt64) (0 : Int64) (9 : Int64)) (fun r5 => if r5 = 0 then (some ((-9223372036854775808 : Int64), σ)) else (bnd1 (f_X12_within ((p3 : Int32).toInt64) (0 : Int64) (1 : Int64)) (fun r8 => if r8 = 0 then (some ((-9223372036854775808 : Int64), σ)) else (bnd2 (f_X12_asksWeights σ (p1 / (100 : Int32)) p2) (fun r11 σ12 => if r11 = 0 then (if p1 / (100 : Int32) = p1 - p1 / (100 : Int32) * (100 : Int32) then (some ((1 : Int64), σ12)) else (some ((p3 : Int32).toInt64, σ12))) else (chk (p1 - p1 / (100 : Int32) * (100 : Int32) < 0 ∨ 12 ≤ (p1 - p1 / (100 : Int32) * (100 : Int32)).toNatClampNeg) (bnd1 (f_X12_partOf (((σ12.2.2.1 619 0 (p1 - p1 / (100 : Int32) * (100 : Int32)).toNatClampNeg) : Int32).toInt64) ((r11 : Int32).toInt64) p3) (fun r16 => some (r16, σ12)))))))))))
set_option maxHeartbeats 4000000 in
set_option maxRecDepth 100000 in
theorem c_X12_heard {l : Launch} {g : va_G} {ts : ClassId × ClassId × ClassId} {a : Nat → Nat} {σ : St} {p1 : Int32} {p2 : Int32} {p3 : Int32} {r : Int64} {σ' : St} (hf : f_X12_heard σ p1 p2 p3 = some (r, σ')) : ConL l g ts (WM ts a) yX12_heard cX12_heard 5 (some .long) (rk 100 2157) σ [.ref (a 0), .int p1, .int p2, .int p3] r σ' := by
  refine ConL_mk rfl rfl (by decide) (Nat.le_of_ble_eq_true rfl) ?_
  intro p e s m below meth c A Q ls C hQ hP hD hS hl
  have C : FX p s m _ meth c RX12 cX12_heard 5 g ts A := C
  have hx := C.1
  have hb := C.2.1
  have hown := C.2.2.2.1
  have hts := C.2.2.2.2.1
  have hl : lv_has ls 5 [(0, .ref (a 0)), (1, .int p1), (2, .int p2), (3, .int p3)] := hl
  rw [f_X12_heard] at hf
  refine lv_iload_n hx hb dX12_heard_0 rfl (lv_at hl 1 rfl) ?_
  obtain ⟨r2, h1, hf⟩ := bnd1_some hf
  refine tI [] C hP hD hS (c_X12_isTwo h1) ms_X12_isTwo q_1246 dX12_heard_1 ⟨Nat.le_of_ble_eq_true rfl, Nat.le_of_ble_eq_true rfl⟩ ⟨Nat.zero_le _, Nat.zero_le _⟩ rfl rfl (Nat.le_of_ble_eq_true rfl) hl.1 (fun H locs hP hD hS => ?_)
  refine lv_if_eq (tgt := 29) hx hb dX12_heard_4 (by decide) (fun c3 => ?_) (fun c3 => ?_)
  · replace hf := ipos c3 hf
    refine lv_ldc2 hx hb hown (hts _ q_1326) dX12_heard_29 ?_
    exact retL hQ hf dX12_heard_32 hP hD hS
  · replace hf := ineg c3 hf
    refine lv_iload_n hx hb dX12_heard_7 rfl (lv_at hl 2 rfl) ?_
    refine lv_i2l (v := (p2 : Int32).toInt64) hx hb dX12_heard_8 rfl ?_
    refine lv_lconst (v := 0) hx hb dX12_heard_9 (by decide) ?_
    refine lv_ldc2 hx hb hown (hts _ q_1253) dX12_heard_10 ?_
    obtain ⟨r5, h4, hf⟩ := bnd1_some hf
    refine tI [] C hP hD hS (c_X12_within h4) ms_X12_within q_1218 dX12_heard_13 ⟨Nat.le_of_ble_eq_true rfl, Nat.le_of_ble_eq_true rfl⟩ ⟨Nat.zero_le _, Nat.zero_le _⟩ rfl rfl (Nat.le_of_ble_eq_true rfl) hl.1 (fun H locs hP hD hS => ?_)
    refine lv_if_eq (tgt := 29) hx hb dX12_heard_16 (by decide) (fun c6 => ?_) (fun c6 => ?_)
    · replace hf := ipos c6 hf
      refine lv_ldc2 hx hb hown (hts _ q_1326) dX12_heard_29 ?_
      exact retL hQ hf dX12_heard_32 hP hD hS
    · replace hf := ineg c6 hf
      refine lv_iload_n hx hb dX12_heard_19 rfl (lv_at hl 3 rfl) ?_
      refine lv_i2l (v := (p3 : Int32).toInt64) hx hb dX12_heard_20 rfl ?_
      refine lv_lconst (v := 0) hx hb dX12_heard_21 (by decide) ?_
      refine lv_lconst (v := 1) hx hb dX12_heard_22 (by decide) ?_
      obtain ⟨r8, h7, hf⟩ := bnd1_some hf
      refine tI [] C hP hD hS (c_X12_within h7) ms_X12_within q_1218 dX12_heard_23 ⟨Nat.le_of_ble_eq_true rfl, Nat.le_of_ble_eq_true rfl⟩ ⟨Nat.zero_le _, Nat.zero_le _⟩ rfl rfl (Nat.le_of_ble_eq_true rfl) hl.1 (fun H locs hP hD hS => ?_)
      refine lv_if_ne (tgt := 33) hx hb dX12_heard_26 (by decide) (fun c9 => ?_) (fun c9 => ?_)
      · replace hf := ineg c9 hf
        refine lv_aload_n hx hb dX12_heard_33 rfl (lv_at hl 0 rfl) ?_
        refine lv_iload_n hx hb dX12_heard_34 rfl (lv_at hl 1 rfl) ?_
        refine lv_bipush (v := 100) hx hb dX12_heard_35 (by decide) ?_
        refine lv_idiv hx hb dX12_heard_37 (by decide) ?_
        refine lv_iload_n hx hb dX12_heard_38 rfl (lv_at hl 2 rfl) ?_
        obtain ⟨r11, σ12, h10, hf⟩ := bnd2_some hf
        refine vI [] C hP hD hS (c_X12_asksWeights h10) mv_X12_asksWeights q_1327 rv_X12 dX12_heard_39 ⟨Nat.le_of_ble_eq_true rfl, Nat.le_of_ble_eq_true rfl⟩ ⟨Nat.zero_le _, Nat.zero_le _⟩ rfl rfl (Nat.le_of_ble_eq_true rfl) hl.1 (fun H locs hP hD hS => ?_)
        refine lv_istore (lv' := [(4, .int r11), (0, .ref (a 0)), (1, .int p1), (2, .int p2), (3, .int p3)]) hx hb dX12_heard_42 hl (by decide) rfl (fun ls hl => ?_)
        refine lv_iload hx hb dX12_heard_44 (lv_at hl 0 rfl) ?_
        refine lv_if_ne (tgt := 67) hx hb dX12_heard_46 (by decide) (fun c13 => ?_) (fun c13 => ?_)
        · replace hf := ineg c13 hf
          refine lv_aload_n hx hb dX12_heard_67 rfl (lv_at hl 1 rfl) ?_
          refine G_X12_weights C hP q_1091 dX12_heard_68 ?_
          refine lv_iload_n hx hb dX12_heard_71 rfl (lv_at hl 2 rfl) ?_
          refine lv_bipush (v := 100) hx hb dX12_heard_72 (by decide) ?_
          refine lv_irem hx hb dX12_heard_74 (by decide) ?_
          obtain ⟨h14, hf⟩ := chk_some hf
          refine AL_X12_weights C hP h14 dX12_heard_75 ?_
          refine lv_i2l (v := ((σ12.2.2.1 619 0 (p1 - p1 / (100 : Int32) * (100 : Int32)).toNatClampNeg) : Int32).toInt64) hx hb dX12_heard_76 rfl ?_
          refine lv_iload hx hb dX12_heard_77 (lv_at hl 0 rfl) ?_
          refine lv_i2l (v := (r11 : Int32).toInt64) hx hb dX12_heard_79 rfl ?_
          refine lv_iload_n hx hb dX12_heard_80 rfl (lv_at hl 4 rfl) ?_
          obtain ⟨r16, h15, hf⟩ := bnd1_some hf
          refine tL [] C hP hD hS (c_X12_partOf h15) ms_X12_partOf q_1331 dX12_heard_81 ⟨Nat.le_of_ble_eq_true rfl, Nat.le_of_ble_eq_true rfl⟩ ⟨Nat.zero_le _, Nat.zero_le _⟩ rfl rfl (Nat.le_of_ble_eq_true rfl) hl.1 (fun H locs hP hD hS => ?_)
          exact retL hQ hf dX12_heard_84 hP hD hS
        · replace hf := ipos c13 hf
          refine lv_iload_n hx hb dX12_heard_49 rfl (lv_at hl 2 rfl) ?_
          refine lv_bipush (v := 100) hx hb dX12_heard_50 (by decide) ?_
          refine lv_idiv hx hb dX12_heard_52 (by decide) ?_
          refine lv_iload_n hx hb dX12_heard_53 rfl (lv_at hl 2 rfl) ?_
          refine lv_bipush (v := 100) hx hb dX12_heard_54 (by decide) ?_
          refine lv_irem hx hb dX12_heard_56 (by decide) ?_
          refine lv_icmp_ne (tgt := 64) hx hb dX12_heard_57 (by decide) (fun c17 => ?_) (fun c17 => ?_)
          · replace hf := ineg c17 hf
            refine lv_iload_n hx hb dX12_heard_64 rfl (lv_at hl 4 rfl) ?_
            refine lv_i2l (v := (p3 : Int32).toInt64) hx hb dX12_heard_65 rfl ?_
            exact retL hQ hf dX12_heard_66 hP hD hS
          · replace hf := ipos c17 hf
            refine lv_lconst (v := 1) hx hb dX12_heard_60 (by decide) ?_
            refine lv_goto (tgt := 66) hx hb dX12_heard_61 (by decide) ?_
            exact retL hQ hf dX12_heard_66 hP hD hS
      · replace hf := ipos c9 hf
        refine lv_ldc2 hx hb hown (hts _ q_1326) dX12_heard_29 ?_
        exact retL hQ hf dX12_heard_32 hP hD hS
theorem dX12_productOf_0 : decode cX12_productOf 0 = .ok (.aload_n 0, 1) := by decide +kernel
theorem dX12_productOf_1 : decode cX12_productOf 1 = .ok (.getfield 67, 3) := by decide +kernel
theorem dX12_productOf_4 : decode cX12_productOf 4 = .ok (.iload_n 1, 1) := by decide +kernel
theorem dX12_productOf_5 : decode cX12_productOf 5 = .ok (.iaload, 1) := by decide +kernel
theorem dX12_productOf_6 : decode cX12_productOf 6 = .ok (.aload_n 0, 1) := by decide +kernel
theorem dX12_productOf_7 : decode cX12_productOf 7 = .ok (.getfield 24, 3) := by decide +kernel
theorem dX12_productOf_10 : decode cX12_productOf 10 = .ok (.iload_n 2, 1) := by decide +kernel
theorem dX12_productOf_11 : decode cX12_productOf 11 = .ok (.iaload, 1) := by decide +kernel
theorem dX12_productOf_12 : decode cX12_productOf 12 = .ok (.if_icmp .eq 5, 3) := by decide +kernel
theorem dX12_productOf_15 : decode cX12_productOf 15 = .ok (.lconst 0, 1) := by decide +kernel
theorem dX12_productOf_16 : decode cX12_productOf 16 = .ok (.lreturn, 1) := by decide +kernel
theorem dX12_productOf_17 : decode cX12_productOf 17 = .ok (.aload_n 0, 1) := by decide +kernel
theorem dX12_productOf_18 : decode cX12_productOf 18 = .ok (.getfield 11, 3) := by decide +kernel
theorem dX12_productOf_21 : decode cX12_productOf 21 = .ok (.iload_n 2, 1) := by decide +kernel
theorem dX12_productOf_22 : decode cX12_productOf 22 = .ok (.iaload, 1) := by decide +kernel
theorem dX12_productOf_23 : decode cX12_productOf 23 = .ok (.i2l, 1) := by decide +kernel
theorem dX12_productOf_24 : decode cX12_productOf 24 = .ok (.lstore_n 3, 1) := by decide +kernel
theorem dX12_productOf_25 : decode cX12_productOf 25 = .ok (.iconst 0, 1) := by decide +kernel
theorem dX12_productOf_26 : decode cX12_productOf 26 = .ok (.istore 5, 2) := by decide +kernel
theorem dX12_productOf_28 : decode cX12_productOf 28 = .ok (.iload 5, 2) := by decide +kernel
theorem dX12_productOf_30 : decode cX12_productOf 30 = .ok (.aload_n 0, 1) := by decide +kernel
theorem dX12_productOf_31 : decode cX12_productOf 31 = .ok (.getfield 24, 3) := by decide +kernel
theorem dX12_productOf_34 : decode cX12_productOf 34 = .ok (.iload_n 2, 1) := by decide +kernel
theorem dX12_productOf_35 : decode cX12_productOf 35 = .ok (.iaload, 1) := by decide +kernel
theorem dX12_productOf_36 : decode cX12_productOf 36 = .ok (.if_icmp .ge 38, 3) := by decide +kernel
theorem dX12_productOf_39 : decode cX12_productOf 39 = .ok (.lload_n 3, 1) := by decide +kernel
theorem dX12_productOf_40 : decode cX12_productOf 40 = .ok (.lconst 0, 1) := by decide +kernel
theorem dX12_productOf_41 : decode cX12_productOf 41 = .ok (.lcmp, 1) := by decide +kernel
theorem dX12_productOf_42 : decode cX12_productOf 42 = .ok (.ifCond .le 32, 3) := by decide +kernel
theorem dX12_productOf_45 : decode cX12_productOf 45 = .ok (.lload_n 3, 1) := by decide +kernel
theorem dX12_productOf_46 : decode cX12_productOf 46 = .ok (.aload_n 0, 1) := by decide +kernel
theorem dX12_productOf_47 : decode cX12_productOf 47 = .ok (.aload_n 0, 1) := by decide +kernel
theorem dX12_productOf_48 : decode cX12_productOf 48 = .ok (.iload_n 2, 1) := by decide +kernel
theorem dX12_productOf_49 : decode cX12_productOf 49 = .ok (.iload 5, 2) := by decide +kernel
theorem dX12_productOf_51 : decode cX12_productOf 51 = .ok (.invokevirtual 136, 3) := by decide +kernel
theorem dX12_productOf_54 : decode cX12_productOf 54 = .ok (.aload_n 0, 1) := by decide +kernel
theorem dX12_productOf_55 : decode cX12_productOf 55 = .ok (.iload_n 1, 1) := by decide +kernel
theorem dX12_productOf_56 : decode cX12_productOf 56 = .ok (.iload 5, 2) := by decide +kernel
theorem dX12_productOf_58 : decode cX12_productOf 58 = .ok (.invokevirtual 108, 3) := by decide +kernel
theorem dX12_productOf_61 : decode cX12_productOf 61 = .ok (.iconst 0, 1) := by decide +kernel
theorem dX12_productOf_62 : decode cX12_productOf 62 = .ok (.invokevirtual 206, 3) := by decide +kernel
theorem dX12_productOf_65 : decode cX12_productOf 65 = .ok (.i2l, 1) := by decide +kernel
theorem dX12_productOf_66 : decode cX12_productOf 66 = .ok (.lmul, 1) := by decide +kernel
theorem dX12_productOf_67 : decode cX12_productOf 67 = .ok (.lstore_n 3, 1) := by decide +kernel
theorem dX12_productOf_68 : decode cX12_productOf 68 = .ok (.iinc 5 1, 3) := by decide +kernel
theorem dX12_productOf_71 : decode cX12_productOf 71 = .ok (.goto (-43), 3) := by decide +kernel
theorem dX12_productOf_74 : decode cX12_productOf 74 = .ok (.lload_n 3, 1) := by decide +kernel
theorem dX12_productOf_75 : decode cX12_productOf 75 = .ok (.lreturn, 1) := by decide +kernel
def f_X12_productOf_b28 : Nat → St → Int32 → Int32 → Int64 → Int32 → Option (Int64 × St)
  | 0, _, _, _, _, _ => none
  | n + 1, σ, x1, x2, x3, x5 => chk (x2 < 0 ∨ 10 ≤ x2.toNatClampNeg) (if σ.2.2.1 607 0 x2.toNatClampNeg ≤ x5 then (some (x3, σ)) else (if x3 ≤ (0 : Int64) then (some (x3, σ)) else (bnd2 (f_X12_at1 σ x2 x5) (fun r10 σ11 => bnd2 (f_X12_itemAt σ11 x1 x5) (fun r13 σ14 => bnd2 (f_X12_partOfHeard σ14 r10 r13 (0 : Int32)) (fun r16 σ17 => bnd (x3 * ((r16 : Int32).toInt64)) (fun v18 => bnd (x5 + 1) (fun v19 => f_X12_productOf_b28 n σ17 x1 x2 v18 v19))))))))
def f_X12_productOf (σ : St) (p1 : Int32) (p2 : Int32) : Option (Int64 × St) := chk (p1 < 0 ∨ 6 ≤ p1.toNatClampNeg) (chk (p2 < 0 ∨ 10 ≤ p2.toNatClampNeg) (if σ.2.2.1 640 0 p1.toNatClampNeg = σ.2.2.1 607 0 p2.toNatClampNeg then (chk (p2 < 0 ∨ 179 ≤ p2.toNatClampNeg) (bnd (((σ.2.2.1 600 0 p2.toNatClampNeg) : Int32).toInt64) (fun v5 => f_X12_productOf_b28 256 σ p1 p2 v5 (0 : Int32)))) else (some ((0 : Int64), σ))))
set_option maxHeartbeats 4000000 in
set_option maxRecDepth 100000 in
theorem w_X12_productOf_b28 {p : Program} {l : Launch} {e : Env} {s : State} {m : MethodId} {args : Array Value} {below : List Frame} {meth : Method} {c : Code} {g : va_G} {ts : ClassId × ClassId × ClassId} {A : Nat → Prop} {Q : State → Prop} {a : Nat → Nat} {r : Int64} {σ' : St} (C : FX p s m args meth c RX12 cX12_productOf 6 g ts A) (hQ : RetL p l e (rk 101 2182) s m args below meth c cX12_productOf g (WM ts a) A r σ' Q) : ∀ (n : Nat) (σ : St) (x1 : Int32) (x2 : Int32) (x3 : Int64) (x5 : Int32) (H : Heap) (locs : List Loc) (ls : Array Slot), f_X12_productOf_b28 n σ x1 x2 x3 x5 = some (r, σ') → va_P g classes (WM ts a σ) H → va_D A (WM ts a σ) → va_S A s.heap H locs → lv_has ls 6 [(0, .ref (a 0)), (1, .int x1), (2, .int x2), (3, .long x3), (5, .int x5)] → W p l e (rk 101 2182) s m args below meth c H locs 0 0 Q (F0 m 28 ls []) := by
  have hx := C.1
  have hb := C.2.1
  have hown := C.2.2.2.1
  have hts := C.2.2.2.2.1
  intro n
  induction n with
  | zero =>
    intro σ x1 x2 x3 x5 H locs ls hf
    cases hf
  | succ n ih =>
    intro σ x1 x2 x3 x5 H locs ls hf hP hD hS hl
    rw [f_X12_productOf_b28] at hf
    refine lv_iload hx hb dX12_productOf_28 (lv_at hl 4 rfl) ?_
    refine lv_aload_n hx hb dX12_productOf_30 rfl (lv_at hl 0 rfl) ?_
    refine G_X12_longs C hP q_1079 dX12_productOf_31 ?_
    refine lv_iload_n hx hb dX12_productOf_34 rfl (lv_at hl 2 rfl) ?_
    obtain ⟨h6, hf⟩ := chk_some hf
    refine AL_X12_longs C hP h6 dX12_productOf_35 ?_
    refine lv_icmp_ge (tgt := 74) hx hb dX12_productOf_36 (by decide) (fun c7 => ?_) (fun c7 => ?_)
    · replace hf := ipos c7 hf
      refine lv_lload_n hx hb dX12_productOf_74 rfl (lv_at hl 3 rfl) ?_
      exact retL hQ hf dX12_productOf_75 hP hD hS
    · replace hf := ineg c7 hf
      refine lv_lload_n hx hb dX12_productOf_39 rfl (lv_at hl 3 rfl) ?_
      refine lv_lconst (v := 0) hx hb dX12_productOf_40 (by decide) ?_
      refine lb_le (tgt := 74) hx hb dX12_productOf_41 dX12_productOf_42 (by decide) (fun c8 => ?_) (fun c8 => ?_)
      · replace hf := ipos c8 hf
        refine lv_lload_n hx hb dX12_productOf_74 rfl (lv_at hl 3 rfl) ?_
        exact retL hQ hf dX12_productOf_75 hP hD hS
      · replace hf := ineg c8 hf
        refine lv_lload_n hx hb dX12_productOf_45 rfl (lv_at hl 3 rfl) ?_
        refine lv_aload_n hx hb dX12_productOf_46 rfl (lv_at hl 0 rfl) ?_
        refine lv_aload_n hx hb dX12_productOf_47 rfl (lv_at hl 0 rfl) ?_
        refine lv_iload_n hx hb dX12_productOf_48 rfl (lv_at hl 2 rfl) ?_
        refine lv_iload hx hb dX12_productOf_49 (lv_at hl 4 rfl) ?_
        obtain ⟨r10, σ11, h9, hf⟩ := bnd2_some hf
        refine vI [.ref (a 0), .long x3] C hP hD hS (c_X12_at1 h9) mv_X12_at1 q_1266 rv_X12 dX12_productOf_51 ⟨Nat.le_of_ble_eq_true rfl, Nat.le_of_ble_eq_true rfl⟩ ⟨Nat.zero_le _, Nat.zero_le _⟩ rfl rfl (Nat.le_of_ble_eq_true rfl) hl.1 (fun H locs hP hD hS => ?_)
        refine lv_aload_n hx hb dX12_productOf_54 rfl (lv_at hl 0 rfl) ?_
        refine lv_iload_n hx hb dX12_productOf_55 rfl (lv_at hl 1 rfl) ?_
        refine lv_iload hx hb dX12_productOf_56 (lv_at hl 4 rfl) ?_
        obtain ⟨r13, σ14, h12, hf⟩ := bnd2_some hf
        refine vL [.int r10, .ref (a 0), .long x3] C hP hD hS (c_X12_itemAt h12) mv_X12_itemAt q_1226 rv_X12 dX12_productOf_58 ⟨Nat.le_of_ble_eq_true rfl, Nat.le_of_ble_eq_true rfl⟩ ⟨Nat.zero_le _, Nat.zero_le _⟩ rfl rfl (Nat.le_of_ble_eq_true rfl) hl.1 (fun H locs hP hD hS => ?_)
        refine lv_iconst (v := 0) hx hb dX12_productOf_61 (by decide) ?_
        obtain ⟨r16, σ17, h15, hf⟩ := bnd2_some hf
        refine vI [.long x3] C hP hD hS (c_X12_partOfHeard h15) mv_X12_partOfHeard q_1349 rv_X12 dX12_productOf_62 ⟨Nat.le_of_ble_eq_true rfl, Nat.le_of_ble_eq_true rfl⟩ ⟨Nat.zero_le _, Nat.zero_le _⟩ rfl rfl (Nat.le_of_ble_eq_true rfl) hl.1 (fun H locs hP hD hS => ?_)
        refine lv_i2l (v := (r16 : Int32).toInt64) hx hb dX12_productOf_65 rfl ?_
        refine lv_lmul hx hb dX12_productOf_66 ?_
        refine lv_topl (fun v18 ev18 => ?_)
        replace hf := bnd_at ev18 hf
        refine lv_lstore_n (lv' := [(3, .long v18), (0, .ref (a 0)), (1, .int x1), (2, .int x2), (5, .int x5)]) hx hb dX12_productOf_67 rfl hl (by decide) rfl (fun ls hl => ?_)
        obtain ⟨v19, ev19⟩ : ∃ z : Int32, z = x5 + 1 := ⟨_, rfl⟩
        replace hf := bnd_at ev19 hf
        refine lv_iinc (v := v19) (lv' := [(5, .int v19), (3, .long v18), (0, .ref (a 0)), (1, .int x1), (2, .int x2)]) hx hb dX12_productOf_68 hl (k := 4) rfl (by rw [ev19]; rfl) (by decide) rfl (fun ls hl => ?_)
        refine lv_goto (tgt := 28) hx hb dX12_productOf_71 (by decide) ?_
        exact ih _ _ _ _ _ _ _ _ hf hP hD hS (lv_sub hl [2, 3, 4, 1, 0] rfl)
set_option maxHeartbeats 4000000 in
set_option maxRecDepth 100000 in
theorem c_X12_productOf {l : Launch} {g : va_G} {ts : ClassId × ClassId × ClassId} {a : Nat → Nat} {σ : St} {p1 : Int32} {p2 : Int32} {r : Int64} {σ' : St} (hf : f_X12_productOf σ p1 p2 = some (r, σ')) : ConL l g ts (WM ts a) yX12_productOf cX12_productOf 6 (some .long) (rk 101 2182) σ [.ref (a 0), .int p1, .int p2] r σ' := by
  refine ConL_mk rfl rfl (by decide) (Nat.le_of_ble_eq_true rfl) ?_
  intro p e s m below meth c A Q ls C hQ hP hD hS hl
  have C : FX p s m _ meth c RX12 cX12_productOf 6 g ts A := C
  have hx := C.1
  have hb := C.2.1
  have hown := C.2.2.2.1
  have hts := C.2.2.2.2.1
  have hl : lv_has ls 6 [(0, .ref (a 0)), (1, .int p1), (2, .int p2)] := hl
  rw [f_X12_productOf] at hf
  refine lv_aload_n hx hb dX12_productOf_0 rfl (lv_at hl 0 rfl) ?_
  refine G_X12_many C hP q_1112 dX12_productOf_1 ?_
  refine lv_iload_n hx hb dX12_productOf_4 rfl (lv_at hl 1 rfl) ?_
  obtain ⟨h1, hf⟩ := chk_some hf
  refine AL_X12_many C hP h1 dX12_productOf_5 ?_
  refine lv_aload_n hx hb dX12_productOf_6 rfl (lv_at hl 0 rfl) ?_
  refine G_X12_longs C hP q_1079 dX12_productOf_7 ?_
  refine lv_iload_n hx hb dX12_productOf_10 rfl (lv_at hl 2 rfl) ?_
  obtain ⟨h2, hf⟩ := chk_some hf
  refine AL_X12_longs C hP h2 dX12_productOf_11 ?_
  refine lv_icmp_eq (tgt := 17) hx hb dX12_productOf_12 (by decide) (fun c3 => ?_) (fun c3 => ?_)
  · replace hf := ipos c3 hf
    refine lv_aload_n hx hb dX12_productOf_17 rfl (lv_at hl 0 rfl) ?_
    refine G_X12_may C hP q_1072 dX12_productOf_18 ?_
    refine lv_iload_n hx hb dX12_productOf_21 rfl (lv_at hl 2 rfl) ?_
    obtain ⟨h4, hf⟩ := chk_some hf
    refine AL_X12_may C hP h4 dX12_productOf_22 ?_
    refine lv_i2l (v := ((σ.2.2.1 600 0 p2.toNatClampNeg) : Int32).toInt64) hx hb dX12_productOf_23 rfl ?_
    refine lv_topl (fun v5 ev5 => ?_)
    replace hf := bnd_at ev5 hf
    refine lv_lstore_n (lv' := [(3, .long v5), (0, .ref (a 0)), (1, .int p1), (2, .int p2)]) hx hb dX12_productOf_24 rfl hl (by decide) rfl (fun ls hl => ?_)
    refine lv_iconst (v := 0) hx hb dX12_productOf_25 (by decide) ?_
    refine lv_istore (lv' := [(5, .int (0 : Int32)), (3, .long v5), (0, .ref (a 0)), (1, .int p1), (2, .int p2)]) hx hb dX12_productOf_26 hl (by decide) rfl (fun ls hl => ?_)
    exact w_X12_productOf_b28 C hQ 256 _ _ _ _ _ _ _ _ hf hP hD hS (lv_sub hl [2, 3, 4, 1, 0] rfl)
  · replace hf := ineg c3 hf
    refine lv_lconst (v := 0) hx hb dX12_productOf_15 (by decide) ?_
    exact retL hQ hf dX12_productOf_16 hP hD hS
theorem dX12_asksProducts_0 : decode cX12_asksProducts 0 = .ok (.lconst 0, 1) := by decide +kernel
theorem dX12_asksProducts_1 : decode cX12_asksProducts 1 = .ok (.lstore_n 2, 1) := by decide +kernel
theorem dX12_asksProducts_2 : decode cX12_asksProducts 2 = .ok (.iconst 0, 1) := by decide +kernel
theorem dX12_asksProducts_3 : decode cX12_asksProducts 3 = .ok (.istore 4, 2) := by decide +kernel
theorem dX12_asksProducts_5 : decode cX12_asksProducts 5 = .ok (.iload 4, 2) := by decide +kernel
theorem dX12_asksProducts_7 : decode cX12_asksProducts 7 = .ok (.aload_n 0, 1) := by decide +kernel
theorem dX12_asksProducts_8 : decode cX12_asksProducts 8 = .ok (.getfield 95, 3) := by decide +kernel
theorem dX12_asksProducts_11 : decode cX12_asksProducts 11 = .ok (.if_icmp .ge 33, 3) := by decide +kernel
theorem dX12_asksProducts_14 : decode cX12_asksProducts 14 = .ok (.aload_n 0, 1) := by decide +kernel
theorem dX12_asksProducts_15 : decode cX12_asksProducts 15 = .ok (.getfield 42, 3) := by decide +kernel
theorem dX12_asksProducts_18 : decode cX12_asksProducts 18 = .ok (.iload 4, 2) := by decide +kernel
theorem dX12_asksProducts_20 : decode cX12_asksProducts 20 = .ok (.aload_n 0, 1) := by decide +kernel
theorem dX12_asksProducts_21 : decode cX12_asksProducts 21 = .ok (.iload_n 1, 1) := by decide +kernel
theorem dX12_asksProducts_22 : decode cX12_asksProducts 22 = .ok (.iload 4, 2) := by decide +kernel
theorem dX12_asksProducts_24 : decode cX12_asksProducts 24 = .ok (.invokevirtual 210, 3) := by decide +kernel
theorem dX12_asksProducts_27 : decode cX12_asksProducts 27 = .ok (.lastore, 1) := by decide +kernel
theorem dX12_asksProducts_28 : decode cX12_asksProducts 28 = .ok (.lload_n 2, 1) := by decide +kernel
theorem dX12_asksProducts_29 : decode cX12_asksProducts 29 = .ok (.aload_n 0, 1) := by decide +kernel
theorem dX12_asksProducts_30 : decode cX12_asksProducts 30 = .ok (.getfield 42, 3) := by decide +kernel
theorem dX12_asksProducts_33 : decode cX12_asksProducts 33 = .ok (.iload 4, 2) := by decide +kernel
theorem dX12_asksProducts_35 : decode cX12_asksProducts 35 = .ok (.laload, 1) := by decide +kernel
theorem dX12_asksProducts_36 : decode cX12_asksProducts 36 = .ok (.ladd, 1) := by decide +kernel
theorem dX12_asksProducts_37 : decode cX12_asksProducts 37 = .ok (.lstore_n 2, 1) := by decide +kernel
theorem dX12_asksProducts_38 : decode cX12_asksProducts 38 = .ok (.iinc 4 1, 3) := by decide +kernel
theorem dX12_asksProducts_41 : decode cX12_asksProducts 41 = .ok (.goto (-36), 3) := by decide +kernel
theorem dX12_asksProducts_44 : decode cX12_asksProducts 44 = .ok (.lload_n 2, 1) := by decide +kernel
theorem dX12_asksProducts_45 : decode cX12_asksProducts 45 = .ok (.lreturn, 1) := by decide +kernel
def f_X12_asksProducts_b5 : Nat → St → Int32 → Int64 → Int32 → Option (Int64 × St)
  | 0, _, _, _, _ => none
  | n + 1, σ, x1, x2, x4 => if σ.1 606 0 ≤ x4 then (some (x2, σ)) else (bnd2 (f_X12_productOf σ x1 x4) (fun r3 σ4 => chk (x4 < 0 ∨ 10 ≤ x4.toNatClampNeg) (bnd (sL σ4 620 0 (vp_updL (σ4.2.2.2.1 620 0) x4.toNatClampNeg r3)) (fun σ6 => chk (x4 < 0 ∨ 10 ≤ x4.toNatClampNeg) (bnd (x2 + (σ6.2.2.2.1 620 0 x4.toNatClampNeg)) (fun v8 => bnd (x4 + 1) (fun v9 => f_X12_asksProducts_b5 n σ6 x1 v8 v9)))))))
def f_X12_asksProducts (σ : St) (p1 : Int32) : Option (Int64 × St) := f_X12_asksProducts_b5 256 σ p1 (0 : Int64) (0 : Int32)
set_option maxHeartbeats 4000000 in
set_option maxRecDepth 100000 in
theorem w_X12_asksProducts_b5 {p : Program} {l : Launch} {e : Env} {s : State} {m : MethodId} {args : Array Value} {below : List Frame} {meth : Method} {c : Code} {g : va_G} {ts : ClassId × ClassId × ClassId} {A : Nat → Prop} {Q : State → Prop} {a : Nat → Nat} {r : Int64} {σ' : St} (C : FX p s m args meth c RX12 cX12_asksProducts 5 g ts A) (hQ : RetL p l e (rk 102 2207) s m args below meth c cX12_asksProducts g (WM ts a) A r σ' Q) : ∀ (n : Nat) (σ : St) (x1 : Int32) (x2 : Int64) (x4 : Int32) (H : Heap) (locs : List Loc) (ls : Array Slot), f_X12_asksProducts_b5 n σ x1 x2 x4 = some (r, σ') → va_P g classes (WM ts a σ) H → va_D A (WM ts a σ) → va_S A s.heap H locs → lv_has ls 5 [(0, .ref (a 0)), (1, .int x1), (2, .long x2), (4, .int x4)] → W p l e (rk 102 2207) s m args below meth c H locs 0 0 Q (F0 m 5 ls []) := by
  have hx := C.1
  have hb := C.2.1
  have hown := C.2.2.2.1
  have hts := C.2.2.2.2.1
  intro n
  induction n with
  | zero =>
    intro σ x1 x2 x4 H locs ls hf
    cases hf
  | succ n ih =>
    intro σ x1 x2 x4 H locs ls hf hP hD hS hl
    rw [f_X12_asksProducts_b5] at hf
    refine lv_iload hx hb dX12_asksProducts_5 (lv_at hl 3 rfl) ?_
    refine lv_aload_n hx hb dX12_asksProducts_7 rfl (lv_at hl 0 rfl) ?_
    refine G_X12_namesMany C hP q_1078 dX12_asksProducts_8 ?_
    refine lv_icmp_ge (tgt := 44) hx hb dX12_asksProducts_11 (by decide) (fun c1 => ?_) (fun c1 => ?_)
    · replace hf := ipos c1 hf
      refine lv_lload_n hx hb dX12_asksProducts_44 rfl (lv_at hl 2 rfl) ?_
      exact retL hQ hf dX12_asksProducts_45 hP hD hS
    · replace hf := ineg c1 hf
      refine lv_aload_n hx hb dX12_asksProducts_14 rfl (lv_at hl 0 rfl) ?_
      refine G_X12_products C hP q_1092 dX12_asksProducts_15 ?_
      refine lv_iload hx hb dX12_asksProducts_18 (lv_at hl 3 rfl) ?_
      refine lv_aload_n hx hb dX12_asksProducts_20 rfl (lv_at hl 0 rfl) ?_
      refine lv_iload_n hx hb dX12_asksProducts_21 rfl (lv_at hl 1 rfl) ?_
      refine lv_iload hx hb dX12_asksProducts_22 (lv_at hl 3 rfl) ?_
      obtain ⟨r3, σ4, h2, hf⟩ := bnd2_some hf
      refine vL [.int x4, .ref (a 11)] C hP hD hS (c_X12_productOf h2) mv_X12_productOf q_1345 rv_X12 dX12_asksProducts_24 ⟨Nat.le_of_ble_eq_true rfl, Nat.le_of_ble_eq_true rfl⟩ ⟨Nat.zero_le _, Nat.zero_le _⟩ rfl rfl (Nat.le_of_ble_eq_true rfl) hl.1 (fun H locs hP hD hS => ?_)
      obtain ⟨h5, hf⟩ := chk_some hf
      refine AS_X12_products C hP hD hS h5 dX12_asksProducts_27 (fun H locs hP hD hS => ?_)
      refine nameS hP hD hf (fun σ6 hP hD hf => ?_)
      refine lv_lload_n hx hb dX12_asksProducts_28 rfl (lv_at hl 2 rfl) ?_
      refine lv_aload_n hx hb dX12_asksProducts_29 rfl (lv_at hl 0 rfl) ?_
      refine G_X12_products C hP q_1092 dX12_asksProducts_30 ?_
      refine lv_iload hx hb dX12_asksProducts_33 (lv_at hl 3 rfl) ?_
      obtain ⟨h7, hf⟩ := chk_some hf
      refine AL_X12_products C hP h7 dX12_asksProducts_35 ?_
      refine lv_ladd hx hb dX12_asksProducts_36 ?_
      refine lv_topl (fun v8 ev8 => ?_)
      replace hf := bnd_at ev8 hf
      refine lv_lstore_n (lv' := [(2, .long v8), (0, .ref (a 0)), (1, .int x1), (4, .int x4)]) hx hb dX12_asksProducts_37 rfl hl (by decide) rfl (fun ls hl => ?_)
      obtain ⟨v9, ev9⟩ : ∃ z : Int32, z = x4 + 1 := ⟨_, rfl⟩
      replace hf := bnd_at ev9 hf
      refine lv_iinc (v := v9) (lv' := [(4, .int v9), (2, .long v8), (0, .ref (a 0)), (1, .int x1)]) hx hb dX12_asksProducts_38 hl (k := 3) rfl (by rw [ev9]; rfl) (by decide) rfl (fun ls hl => ?_)
      refine lv_goto (tgt := 5) hx hb dX12_asksProducts_41 (by decide) ?_
      exact ih _ _ _ _ _ _ _ hf hP hD hS (lv_sub hl [2, 3, 1, 0] rfl)
set_option maxHeartbeats 4000000 in
set_option maxRecDepth 100000 in
theorem c_X12_asksProducts {l : Launch} {g : va_G} {ts : ClassId × ClassId × ClassId} {a : Nat → Nat} {σ : St} {p1 : Int32} {r : Int64} {σ' : St} (hf : f_X12_asksProducts σ p1 = some (r, σ')) : ConL l g ts (WM ts a) yX12_asksProducts cX12_asksProducts 5 (some .long) (rk 102 2207) σ [.ref (a 0), .int p1] r σ' := by
  refine ConL_mk rfl rfl (by decide) (Nat.le_of_ble_eq_true rfl) ?_
  intro p e s m below meth c A Q ls C hQ hP hD hS hl
  have C : FX p s m _ meth c RX12 cX12_asksProducts 5 g ts A := C
  have hx := C.1
  have hb := C.2.1
  have hown := C.2.2.2.1
  have hts := C.2.2.2.2.1
  have hl : lv_has ls 5 [(0, .ref (a 0)), (1, .int p1)] := hl
  rw [f_X12_asksProducts] at hf
  refine lv_lconst (v := 0) hx hb dX12_asksProducts_0 (by decide) ?_
  refine lv_lstore_n (lv' := [(2, .long (0 : Int64)), (0, .ref (a 0)), (1, .int p1)]) hx hb dX12_asksProducts_1 rfl hl (by decide) rfl (fun ls hl => ?_)
  refine lv_iconst (v := 0) hx hb dX12_asksProducts_2 (by decide) ?_
  refine lv_istore (lv' := [(4, .int (0 : Int32)), (2, .long (0 : Int64)), (0, .ref (a 0)), (1, .int p1)]) hx hb dX12_asksProducts_3 hl (by decide) rfl (fun ls hl => ?_)
  exact w_X12_asksProducts_b5 C hQ 256 _ _ _ _ _ _ _ hf hP hD hS (lv_sub hl [2, 3, 1, 0] rfl)
theorem dX12_likely_0 : decode cX12_likely 0 = .ok (.aload_n 0, 1) := by decide +kernel
theorem dX12_likely_1 : decode cX12_likely 1 = .ok (.iload_n 1, 1) := by decide +kernel
theorem dX12_likely_2 : decode cX12_likely 2 = .ok (.invokevirtual 104, 3) := by decide +kernel
theorem dX12_likely_5 : decode cX12_likely 5 = .ok (.iconst 1, 1) := by decide +kernel
theorem dX12_likely_6 : decode cX12_likely 6 = .ok (.if_icmp .ne 21, 3) := by decide +kernel
theorem dX12_likely_9 : decode cX12_likely 9 = .ok (.aload_n 0, 1) := by decide +kernel
theorem dX12_likely_10 : decode cX12_likely 10 = .ok (.iload_n 2, 1) := by decide +kernel
theorem dX12_likely_11 : decode cX12_likely 11 = .ok (.invokevirtual 116, 3) := by decide +kernel
theorem dX12_likely_14 : decode cX12_likely 14 = .ok (.ifCond .eq 13, 3) := by decide +kernel
theorem dX12_likely_17 : decode cX12_likely 17 = .ok (.iload_n 3, 1) := by decide +kernel
theorem dX12_likely_18 : decode cX12_likely 18 = .ok (.i2l, 1) := by decide +kernel
theorem dX12_likely_19 : decode cX12_likely 19 = .ok (.lconst 0, 1) := by decide +kernel
theorem dX12_likely_20 : decode cX12_likely 20 = .ok (.lconst 1, 1) := by decide +kernel
theorem dX12_likely_21 : decode cX12_likely 21 = .ok (.invokestatic 91, 3) := by decide +kernel
theorem dX12_likely_24 : decode cX12_likely 24 = .ok (.ifCond .ne 7, 3) := by decide +kernel
theorem dX12_likely_27 : decode cX12_likely 27 = .ok (.ldc2_w 200, 3) := by decide +kernel
theorem dX12_likely_30 : decode cX12_likely 30 = .ok (.lreturn, 1) := by decide +kernel
theorem dX12_likely_31 : decode cX12_likely 31 = .ok (.aload_n 0, 1) := by decide +kernel
theorem dX12_likely_32 : decode cX12_likely 32 = .ok (.iload_n 1, 1) := by decide +kernel
theorem dX12_likely_33 : decode cX12_likely 33 = .ok (.invokevirtual 213, 3) := by decide +kernel
theorem dX12_likely_36 : decode cX12_likely 36 = .ok (.lstore 4, 2) := by decide +kernel
theorem dX12_likely_38 : decode cX12_likely 38 = .ok (.lload 4, 2) := by decide +kernel
theorem dX12_likely_40 : decode cX12_likely 40 = .ok (.lconst 0, 1) := by decide +kernel
theorem dX12_likely_41 : decode cX12_likely 41 = .ok (.lcmp, 1) := by decide +kernel
theorem dX12_likely_42 : decode cX12_likely 42 = .ok (.ifCond .ne 9, 3) := by decide +kernel
theorem dX12_likely_45 : decode cX12_likely 45 = .ok (.ldc2_w 217, 3) := by decide +kernel
theorem dX12_likely_48 : decode cX12_likely 48 = .ok (.goto 15, 3) := by decide +kernel
theorem dX12_likely_51 : decode cX12_likely 51 = .ok (.aload_n 0, 1) := by decide +kernel
theorem dX12_likely_52 : decode cX12_likely 52 = .ok (.getfield 42, 3) := by decide +kernel
theorem dX12_likely_55 : decode cX12_likely 55 = .ok (.iload_n 2, 1) := by decide +kernel
theorem dX12_likely_56 : decode cX12_likely 56 = .ok (.laload, 1) := by decide +kernel
theorem dX12_likely_57 : decode cX12_likely 57 = .ok (.lload 4, 2) := by decide +kernel
theorem dX12_likely_59 : decode cX12_likely 59 = .ok (.iload_n 3, 1) := by decide +kernel
theorem dX12_likely_60 : decode cX12_likely 60 = .ok (.invokestatic 202, 3) := by decide +kernel
theorem dX12_likely_63 : decode cX12_likely 63 = .ok (.lreturn, 1) := by decide +kernel
def f_X12_likely (σ : St) (p1 : Int32) (p2 : Int32) (p3 : Int32) : Option (Int64 × St) := bnd2 (f_X12_bytesIs σ p1) (fun r2 σ3 => if r2 = (1 : Int32) then (bnd2 (f_X12_isName σ3 p2) (fun r6 σ7 => if r6 = 0 then (some ((-9223372036854775808 : Int64), σ7)) else (bnd1 (f_X12_within ((p3 : Int32).toInt64) (0 : Int64) (1 : Int64)) (fun r10 => if r10 = 0 then (some ((-9223372036854775808 : Int64), σ7)) else (bnd2 (f_X12_asksProducts σ7 p1) (fun r13 σ14 => if r13 = (0 : Int64) then (some ((-2 : Int64), σ14)) else (chk (p2 < 0 ∨ 10 ≤ p2.toNatClampNeg) (bnd1 (f_X12_partOf (σ14.2.2.2.1 620 0 p2.toNatClampNeg) r13 p3) (fun r18 => some (r18, σ14)))))))))) else (some ((-9223372036854775808 : Int64), σ3)))
set_option maxHeartbeats 4000000 in
set_option maxRecDepth 100000 in
theorem c_X12_likely {l : Launch} {g : va_G} {ts : ClassId × ClassId × ClassId} {a : Nat → Nat} {σ : St} {p1 : Int32} {p2 : Int32} {p3 : Int32} {r : Int64} {σ' : St} (hf : f_X12_likely σ p1 p2 p3 = some (r, σ')) : ConL l g ts (WM ts a) yX12_likely cX12_likely 6 (some .long) (rk 103 2231) σ [.ref (a 0), .int p1, .int p2, .int p3] r σ' := by
  refine ConL_mk rfl rfl (by decide) (Nat.le_of_ble_eq_true rfl) ?_
  intro p e s m below meth c A Q ls C hQ hP hD hS hl
  have C : FX p s m _ meth c RX12 cX12_likely 6 g ts A := C
  have hx := C.1
  have hb := C.2.1
  have hown := C.2.2.2.1
  have hts := C.2.2.2.2.1
  have hl : lv_has ls 6 [(0, .ref (a 0)), (1, .int p1), (2, .int p2), (3, .int p3)] := hl
  rw [f_X12_likely] at hf
  refine lv_aload_n hx hb dX12_likely_0 rfl (lv_at hl 0 rfl) ?_
  refine lv_iload_n hx hb dX12_likely_1 rfl (lv_at hl 1 rfl) ?_
  obtain ⟨r2, σ3, h1, hf⟩ := bnd2_some hf
  refine vI [] C hP hD hS (c_X12_bytesIs h1) mv_X12_bytesIs q_1222 rv_X12 dX12_likely_2 ⟨Nat.le_of_ble_eq_true rfl, Nat.le_of_ble_eq_true rfl⟩ ⟨Nat.zero_le _, Nat.zero_le _⟩ rfl rfl (Nat.le_of_ble_eq_true rfl) hl.1 (fun H locs hP hD hS => ?_)
  refine lv_iconst (v := 1) hx hb dX12_likely_5 (by decide) ?_
  refine lv_icmp_ne (tgt := 27) hx hb dX12_likely_6 (by decide) (fun c4 => ?_) (fun c4 => ?_)
  · replace hf := ineg c4 hf
    refine lv_ldc2 hx hb hown (hts _ q_1326) dX12_likely_27 ?_
    exact retL hQ hf dX12_likely_30 hP hD hS
  · replace hf := ipos c4 hf
    refine lv_aload_n hx hb dX12_likely_9 rfl (lv_at hl 0 rfl) ?_
    refine lv_iload_n hx hb dX12_likely_10 rfl (lv_at hl 2 rfl) ?_
    obtain ⟨r6, σ7, h5, hf⟩ := bnd2_some hf
    refine vI [] C hP hD hS (c_X12_isName h5) mv_X12_isName q_1242 rv_X12 dX12_likely_11 ⟨Nat.le_of_ble_eq_true rfl, Nat.le_of_ble_eq_true rfl⟩ ⟨Nat.zero_le _, Nat.zero_le _⟩ rfl rfl (Nat.le_of_ble_eq_true rfl) hl.1 (fun H locs hP hD hS => ?_)
    refine lv_if_eq (tgt := 27) hx hb dX12_likely_14 (by decide) (fun c8 => ?_) (fun c8 => ?_)
    · replace hf := ipos c8 hf
      refine lv_ldc2 hx hb hown (hts _ q_1326) dX12_likely_27 ?_
      exact retL hQ hf dX12_likely_30 hP hD hS
    · replace hf := ineg c8 hf
      refine lv_iload_n hx hb dX12_likely_17 rfl (lv_at hl 3 rfl) ?_
      refine lv_i2l (v := (p3 : Int32).toInt64) hx hb dX12_likely_18 rfl ?_
      refine lv_lconst (v := 0) hx hb dX12_likely_19 (by decide) ?_
      refine lv_lconst (v := 1) hx hb dX12_likely_20 (by decide) ?_
      obtain ⟨r10, h9, hf⟩ := bnd1_some hf
      refine tI [] C hP hD hS (c_X12_within h9) ms_X12_within q_1218 dX12_likely_21 ⟨Nat.le_of_ble_eq_true rfl, Nat.le_of_ble_eq_true rfl⟩ ⟨Nat.zero_le _, Nat.zero_le _⟩ rfl rfl (Nat.le_of_ble_eq_true rfl) hl.1 (fun H locs hP hD hS => ?_)
      refine lv_if_ne (tgt := 31) hx hb dX12_likely_24 (by decide) (fun c11 => ?_) (fun c11 => ?_)
      · replace hf := ineg c11 hf
        refine lv_aload_n hx hb dX12_likely_31 rfl (lv_at hl 0 rfl) ?_
        refine lv_iload_n hx hb dX12_likely_32 rfl (lv_at hl 1 rfl) ?_
        obtain ⟨r13, σ14, h12, hf⟩ := bnd2_some hf
        refine vL [] C hP hD hS (c_X12_asksProducts h12) mv_X12_asksProducts q_1341 rv_X12 dX12_likely_33 ⟨Nat.le_of_ble_eq_true rfl, Nat.le_of_ble_eq_true rfl⟩ ⟨Nat.zero_le _, Nat.zero_le _⟩ rfl rfl (Nat.le_of_ble_eq_true rfl) hl.1 (fun H locs hP hD hS => ?_)
        refine lv_lstore (lv' := [(4, .long r13), (0, .ref (a 0)), (1, .int p1), (2, .int p2), (3, .int p3)]) hx hb dX12_likely_36 hl (by decide) rfl (fun ls hl => ?_)
        refine lv_lload hx hb dX12_likely_38 (lv_at hl 0 rfl) ?_
        refine lv_lconst (v := 0) hx hb dX12_likely_40 (by decide) ?_
        refine lb_ne (tgt := 51) hx hb dX12_likely_41 dX12_likely_42 (by decide) (fun c15 => ?_) (fun c15 => ?_)
        · replace hf := ineg c15 hf
          refine lv_aload_n hx hb dX12_likely_51 rfl (lv_at hl 1 rfl) ?_
          refine G_X12_products C hP q_1092 dX12_likely_52 ?_
          refine lv_iload_n hx hb dX12_likely_55 rfl (lv_at hl 3 rfl) ?_
          obtain ⟨h16, hf⟩ := chk_some hf
          refine AL_X12_products C hP h16 dX12_likely_56 ?_
          refine lv_lload hx hb dX12_likely_57 (lv_at hl 0 rfl) ?_
          refine lv_iload_n hx hb dX12_likely_59 rfl (lv_at hl 4 rfl) ?_
          obtain ⟨r18, h17, hf⟩ := bnd1_some hf
          refine tL [] C hP hD hS (c_X12_partOf h17) ms_X12_partOf q_1331 dX12_likely_60 ⟨Nat.le_of_ble_eq_true rfl, Nat.le_of_ble_eq_true rfl⟩ ⟨Nat.zero_le _, Nat.zero_le _⟩ rfl rfl (Nat.le_of_ble_eq_true rfl) hl.1 (fun H locs hP hD hS => ?_)
          exact retL hQ hf dX12_likely_63 hP hD hS
        · replace hf := ipos c15 hf
          refine lv_ldc2 hx hb hown (hts _ q_1353) dX12_likely_45 ?_
          refine lv_goto (tgt := 63) hx hb dX12_likely_48 (by decide) ?_
          exact retL hQ hf dX12_likely_63 hP hD hS
      · replace hf := ipos c11 hf
        refine lv_ldc2 hx hb hown (hts _ q_1326) dX12_likely_27 ?_
        exact retL hQ hf dX12_likely_30 hP hD hS
theorem dX12_likeliestNow_0 : decode cX12_likeliestNow 0 = .ok (.iconst 0, 1) := by decide +kernel
theorem dX12_likeliestNow_1 : decode cX12_likeliestNow 1 = .ok (.istore_n 1, 1) := by decide +kernel
theorem dX12_likeliestNow_2 : decode cX12_likeliestNow 2 = .ok (.iconst 1, 1) := by decide +kernel
theorem dX12_likeliestNow_3 : decode cX12_likeliestNow 3 = .ok (.istore_n 2, 1) := by decide +kernel
theorem dX12_likeliestNow_4 : decode cX12_likeliestNow 4 = .ok (.iload_n 2, 1) := by decide +kernel
theorem dX12_likeliestNow_5 : decode cX12_likeliestNow 5 = .ok (.aload_n 0, 1) := by decide +kernel
theorem dX12_likeliestNow_6 : decode cX12_likeliestNow 6 = .ok (.getfield 95, 3) := by decide +kernel
theorem dX12_likeliestNow_9 : decode cX12_likeliestNow 9 = .ok (.if_icmp .ge 31, 3) := by decide +kernel
theorem dX12_likeliestNow_12 : decode cX12_likeliestNow 12 = .ok (.aload_n 0, 1) := by decide +kernel
theorem dX12_likeliestNow_13 : decode cX12_likeliestNow 13 = .ok (.getfield 42, 3) := by decide +kernel
theorem dX12_likeliestNow_16 : decode cX12_likeliestNow 16 = .ok (.iload_n 2, 1) := by decide +kernel
theorem dX12_likeliestNow_17 : decode cX12_likeliestNow 17 = .ok (.laload, 1) := by decide +kernel
theorem dX12_likeliestNow_18 : decode cX12_likeliestNow 18 = .ok (.aload_n 0, 1) := by decide +kernel
theorem dX12_likeliestNow_19 : decode cX12_likeliestNow 19 = .ok (.getfield 42, 3) := by decide +kernel
theorem dX12_likeliestNow_22 : decode cX12_likeliestNow 22 = .ok (.iload_n 1, 1) := by decide +kernel
theorem dX12_likeliestNow_23 : decode cX12_likeliestNow 23 = .ok (.laload, 1) := by decide +kernel
theorem dX12_likeliestNow_24 : decode cX12_likeliestNow 24 = .ok (.lcmp, 1) := by decide +kernel
theorem dX12_likeliestNow_25 : decode cX12_likeliestNow 25 = .ok (.ifCond .le 7, 3) := by decide +kernel
theorem dX12_likeliestNow_28 : decode cX12_likeliestNow 28 = .ok (.iload_n 2, 1) := by decide +kernel
theorem dX12_likeliestNow_29 : decode cX12_likeliestNow 29 = .ok (.goto 4, 3) := by decide +kernel
theorem dX12_likeliestNow_32 : decode cX12_likeliestNow 32 = .ok (.iload_n 1, 1) := by decide +kernel
theorem dX12_likeliestNow_33 : decode cX12_likeliestNow 33 = .ok (.istore_n 1, 1) := by decide +kernel
theorem dX12_likeliestNow_34 : decode cX12_likeliestNow 34 = .ok (.iinc 2 1, 3) := by decide +kernel
theorem dX12_likeliestNow_37 : decode cX12_likeliestNow 37 = .ok (.goto (-33), 3) := by decide +kernel
theorem dX12_likeliestNow_40 : decode cX12_likeliestNow 40 = .ok (.iload_n 1, 1) := by decide +kernel
theorem dX12_likeliestNow_41 : decode cX12_likeliestNow 41 = .ok (.ireturn, 1) := by decide +kernel
def f_X12_likeliestNow_b4 : Nat → St → Int32 → Int32 → Option (Int32 × St)
  | 0, _, _, _ => none
  | n + 1, σ, x1, x2 => if σ.1 606 0 ≤ x2 then (some (x1, σ)) else (chk (x2 < 0 ∨ 10 ≤ x2.toNatClampNeg) (chk (x1 < 0 ∨ 10 ≤ x1.toNatClampNeg) (if σ.2.2.2.1 620 0 x2.toNatClampNeg ≤ σ.2.2.2.1 620 0 x1.toNatClampNeg then (bnd (x2 + 1) (fun v5 => f_X12_likeliestNow_b4 n σ x1 v5)) else (bnd (x2 + 1) (fun v6 => f_X12_likeliestNow_b4 n σ x2 v6)))))
def f_X12_likeliestNow (σ : St) : Option (Int32 × St) := f_X12_likeliestNow_b4 256 σ (0 : Int32) (1 : Int32)
set_option maxHeartbeats 4000000 in
set_option maxRecDepth 100000 in
theorem w_X12_likeliestNow_b4 {p : Program} {l : Launch} {e : Env} {s : State} {m : MethodId} {args : Array Value} {below : List Frame} {meth : Method} {c : Code} {g : va_G} {ts : ClassId × ClassId × ClassId} {A : Nat → Prop} {Q : State → Prop} {a : Nat → Nat} {r : Int32} {σ' : St} (C : FX p s m args meth c RX12 cX12_likeliestNow 3 g ts A) (hQ : RetI p l e (rk 0 0) s m args below meth c cX12_likeliestNow g (WM ts a) A r σ' Q) : ∀ (n : Nat) (σ : St) (x1 : Int32) (x2 : Int32) (H : Heap) (locs : List Loc) (ls : Array Slot), f_X12_likeliestNow_b4 n σ x1 x2 = some (r, σ') → va_P g classes (WM ts a σ) H → va_D A (WM ts a σ) → va_S A s.heap H locs → lv_has ls 3 [(0, .ref (a 0)), (1, .int x1), (2, .int x2)] → W p l e (rk 0 0) s m args below meth c H locs 0 0 Q (F0 m 4 ls []) := by
  have hx := C.1
  have hb := C.2.1
  have hown := C.2.2.2.1
  have hts := C.2.2.2.2.1
  intro n
  induction n with
  | zero =>
    intro σ x1 x2 H locs ls hf
    cases hf
  | succ n ih =>
    intro σ x1 x2 H locs ls hf hP hD hS hl
    rw [f_X12_likeliestNow_b4] at hf
    refine lv_iload_n hx hb dX12_likeliestNow_4 rfl (lv_at hl 2 rfl) ?_
    refine lv_aload_n hx hb dX12_likeliestNow_5 rfl (lv_at hl 0 rfl) ?_
    refine G_X12_namesMany C hP q_1078 dX12_likeliestNow_6 ?_
    refine lv_icmp_ge (tgt := 40) hx hb dX12_likeliestNow_9 (by decide) (fun c1 => ?_) (fun c1 => ?_)
    · replace hf := ipos c1 hf
      refine lv_iload_n hx hb dX12_likeliestNow_40 rfl (lv_at hl 1 rfl) ?_
      exact retI hQ hf dX12_likeliestNow_41 hP hD hS
    · replace hf := ineg c1 hf
      refine lv_aload_n hx hb dX12_likeliestNow_12 rfl (lv_at hl 0 rfl) ?_
      refine G_X12_products C hP q_1092 dX12_likeliestNow_13 ?_
      refine lv_iload_n hx hb dX12_likeliestNow_16 rfl (lv_at hl 2 rfl) ?_
      obtain ⟨h2, hf⟩ := chk_some hf
      refine AL_X12_products C hP h2 dX12_likeliestNow_17 ?_
      refine lv_aload_n hx hb dX12_likeliestNow_18 rfl (lv_at hl 0 rfl) ?_
      refine G_X12_products C hP q_1092 dX12_likeliestNow_19 ?_
      refine lv_iload_n hx hb dX12_likeliestNow_22 rfl (lv_at hl 1 rfl) ?_
      obtain ⟨h3, hf⟩ := chk_some hf
      refine AL_X12_products C hP h3 dX12_likeliestNow_23 ?_
      refine lb_le (tgt := 32) hx hb dX12_likeliestNow_24 dX12_likeliestNow_25 (by decide) (fun c4 => ?_) (fun c4 => ?_)
      · replace hf := ipos c4 hf
        refine lv_iload_n hx hb dX12_likeliestNow_32 rfl (lv_at hl 1 rfl) ?_
        refine lv_istore_n (lv' := [(1, .int x1), (0, .ref (a 0)), (2, .int x2)]) hx hb dX12_likeliestNow_33 rfl hl (by decide) rfl (fun ls hl => ?_)
        obtain ⟨v5, ev5⟩ : ∃ z : Int32, z = x2 + 1 := ⟨_, rfl⟩
        replace hf := bnd_at ev5 hf
        refine lv_iinc (v := v5) (lv' := [(2, .int v5), (1, .int x1), (0, .ref (a 0))]) hx hb dX12_likeliestNow_34 hl (k := 2) rfl (by rw [ev5]; rfl) (by decide) rfl (fun ls hl => ?_)
        refine lv_goto (tgt := 4) hx hb dX12_likeliestNow_37 (by decide) ?_
        exact ih _ _ _ _ _ _ hf hP hD hS (lv_sub hl [2, 1, 0] rfl)
      · replace hf := ineg c4 hf
        refine lv_iload_n hx hb dX12_likeliestNow_28 rfl (lv_at hl 2 rfl) ?_
        refine lv_goto (tgt := 33) hx hb dX12_likeliestNow_29 (by decide) ?_
        refine lv_istore_n (lv' := [(1, .int x2), (0, .ref (a 0)), (2, .int x2)]) hx hb dX12_likeliestNow_33 rfl hl (by decide) rfl (fun ls hl => ?_)
        obtain ⟨v6, ev6⟩ : ∃ z : Int32, z = x2 + 1 := ⟨_, rfl⟩
        replace hf := bnd_at ev6 hf
        refine lv_iinc (v := v6) (lv' := [(2, .int v6), (1, .int x2), (0, .ref (a 0))]) hx hb dX12_likeliestNow_34 hl (k := 2) rfl (by rw [ev6]; rfl) (by decide) rfl (fun ls hl => ?_)
        refine lv_goto (tgt := 4) hx hb dX12_likeliestNow_37 (by decide) ?_
        exact ih _ _ _ _ _ _ hf hP hD hS (lv_sub hl [2, 1, 0] rfl)
set_option maxHeartbeats 4000000 in
set_option maxRecDepth 100000 in
theorem c_X12_likeliestNow {l : Launch} {g : va_G} {ts : ClassId × ClassId × ClassId} {a : Nat → Nat} {σ : St} {r : Int32} {σ' : St} (hf : f_X12_likeliestNow σ = some (r, σ')) : ConI l g ts (WM ts a) yX12_likeliestNow cX12_likeliestNow 3 (some .int) (rk 0 0) σ [.ref (a 0)] r σ' := by
  refine ConI_mk .int rfl rfl rfl rfl (by decide) (Nat.le_of_ble_eq_true rfl) ?_
  intro p e s m below meth c A Q ls C hQ hP hD hS hl
  have C : FX p s m _ meth c RX12 cX12_likeliestNow 3 g ts A := C
  have hx := C.1
  have hb := C.2.1
  have hown := C.2.2.2.1
  have hts := C.2.2.2.2.1
  have hl : lv_has ls 3 [(0, .ref (a 0))] := hl
  rw [f_X12_likeliestNow] at hf
  refine lv_iconst (v := 0) hx hb dX12_likeliestNow_0 (by decide) ?_
  refine lv_istore_n (lv' := [(1, .int (0 : Int32)), (0, .ref (a 0))]) hx hb dX12_likeliestNow_1 rfl hl (by decide) rfl (fun ls hl => ?_)
  refine lv_iconst (v := 1) hx hb dX12_likeliestNow_2 (by decide) ?_
  refine lv_istore_n (lv' := [(2, .int (1 : Int32)), (1, .int (0 : Int32)), (0, .ref (a 0))]) hx hb dX12_likeliestNow_3 rfl hl (by decide) rfl (fun ls hl => ?_)
  exact w_X12_likeliestNow_b4 C hQ 256 _ _ _ _ _ _ hf hP hD hS (lv_sub hl [2, 1, 0] rfl)
theorem dX12_likeliest_0 : decode cX12_likeliest 0 = .ok (.aload_n 0, 1) := by decide +kernel
theorem dX12_likeliest_1 : decode cX12_likeliest 1 = .ok (.iload_n 1, 1) := by decide +kernel
theorem dX12_likeliest_2 : decode cX12_likeliest 2 = .ok (.invokevirtual 104, 3) := by decide +kernel
theorem dX12_likeliest_5 : decode cX12_likeliest 5 = .ok (.ifCond .ge 9, 3) := by decide +kernel
theorem dX12_likeliest_8 : decode cX12_likeliest 8 = .ok (.aload_n 0, 1) := by decide +kernel
theorem dX12_likeliest_9 : decode cX12_likeliest 9 = .ok (.iload_n 1, 1) := by decide +kernel
theorem dX12_likeliest_10 : decode cX12_likeliest 10 = .ok (.invokevirtual 104, 3) := by decide +kernel
theorem dX12_likeliest_13 : decode cX12_likeliest 13 = .ok (.ireturn, 1) := by decide +kernel
theorem dX12_likeliest_14 : decode cX12_likeliest 14 = .ok (.aload_n 0, 1) := by decide +kernel
theorem dX12_likeliest_15 : decode cX12_likeliest 15 = .ok (.iload_n 1, 1) := by decide +kernel
theorem dX12_likeliest_16 : decode cX12_likeliest 16 = .ok (.invokevirtual 213, 3) := by decide +kernel
theorem dX12_likeliest_19 : decode cX12_likeliest 19 = .ok (.lconst 0, 1) := by decide +kernel
theorem dX12_likeliest_20 : decode cX12_likeliest 20 = .ok (.lcmp, 1) := by decide +kernel
theorem dX12_likeliest_21 : decode cX12_likeliest 21 = .ok (.ifCond .ne 8, 3) := by decide +kernel
theorem dX12_likeliest_24 : decode cX12_likeliest 24 = .ok (.bipush (-2), 2) := by decide +kernel
theorem dX12_likeliest_26 : decode cX12_likeliest 26 = .ok (.goto 7, 3) := by decide +kernel
theorem dX12_likeliest_29 : decode cX12_likeliest 29 = .ok (.aload_n 0, 1) := by decide +kernel
theorem dX12_likeliest_30 : decode cX12_likeliest 30 = .ok (.invokevirtual 219, 3) := by decide +kernel
theorem dX12_likeliest_33 : decode cX12_likeliest 33 = .ok (.ireturn, 1) := by decide +kernel
def f_X12_likeliest (σ : St) (p1 : Int32) : Option (Int32 × St) := bnd2 (f_X12_bytesIs σ p1) (fun r2 σ3 => if 0 ≤ r2 then (bnd2 (f_X12_asksProducts σ3 p1) (fun r6 σ7 => if r6 = (0 : Int64) then (some ((-2 : Int32), σ7)) else (bnd2 (f_X12_likeliestNow σ7) (fun r10 σ11 => some (r10, σ11))))) else (bnd2 (f_X12_bytesIs σ3 p1) (fun r13 σ14 => some (r13, σ14))))
set_option maxHeartbeats 4000000 in
set_option maxRecDepth 100000 in
theorem c_X12_likeliest {l : Launch} {g : va_G} {ts : ClassId × ClassId × ClassId} {a : Nat → Nat} {σ : St} {p1 : Int32} {r : Int32} {σ' : St} (hf : f_X12_likeliest σ p1 = some (r, σ')) : ConI l g ts (WM ts a) yX12_likeliest cX12_likeliest 2 (some .int) (rk 103 2231) σ [.ref (a 0), .int p1] r σ' := by
  refine ConI_mk .int rfl rfl rfl rfl (by decide) (Nat.le_of_ble_eq_true rfl) ?_
  intro p e s m below meth c A Q ls C hQ hP hD hS hl
  have C : FX p s m _ meth c RX12 cX12_likeliest 2 g ts A := C
  have hx := C.1
  have hb := C.2.1
  have hown := C.2.2.2.1
  have hts := C.2.2.2.2.1
  have hl : lv_has ls 2 [(0, .ref (a 0)), (1, .int p1)] := hl
  rw [f_X12_likeliest] at hf
  refine lv_aload_n hx hb dX12_likeliest_0 rfl (lv_at hl 0 rfl) ?_
  refine lv_iload_n hx hb dX12_likeliest_1 rfl (lv_at hl 1 rfl) ?_
  obtain ⟨r2, σ3, h1, hf⟩ := bnd2_some hf
  refine vI [] C hP hD hS (c_X12_bytesIs h1) mv_X12_bytesIs q_1222 rv_X12 dX12_likeliest_2 ⟨Nat.le_of_ble_eq_true rfl, Nat.le_of_ble_eq_true rfl⟩ ⟨Nat.zero_le _, Nat.zero_le _⟩ rfl rfl (Nat.le_of_ble_eq_true rfl) hl.1 (fun H locs hP hD hS => ?_)
  refine lv_if_ge (tgt := 14) hx hb dX12_likeliest_5 (by decide) (fun c4 => ?_) (fun c4 => ?_)
  · replace hf := ipos c4 hf
    refine lv_aload_n hx hb dX12_likeliest_14 rfl (lv_at hl 0 rfl) ?_
    refine lv_iload_n hx hb dX12_likeliest_15 rfl (lv_at hl 1 rfl) ?_
    obtain ⟨r6, σ7, h5, hf⟩ := bnd2_some hf
    refine vL [] C hP hD hS (c_X12_asksProducts h5) mv_X12_asksProducts q_1341 rv_X12 dX12_likeliest_16 ⟨Nat.le_of_ble_eq_true rfl, Nat.le_of_ble_eq_true rfl⟩ ⟨Nat.zero_le _, Nat.zero_le _⟩ rfl rfl (Nat.le_of_ble_eq_true rfl) hl.1 (fun H locs hP hD hS => ?_)
    refine lv_lconst (v := 0) hx hb dX12_likeliest_19 (by decide) ?_
    refine lb_ne (tgt := 29) hx hb dX12_likeliest_20 dX12_likeliest_21 (by decide) (fun c8 => ?_) (fun c8 => ?_)
    · replace hf := ineg c8 hf
      refine lv_aload_n hx hb dX12_likeliest_29 rfl (lv_at hl 0 rfl) ?_
      obtain ⟨r10, σ11, h9, hf⟩ := bnd2_some hf
      refine vI [] C hP hD hS (c_X12_likeliestNow h9) mv_X12_likeliestNow q_1358 rv_X12 dX12_likeliest_30 ⟨Nat.le_of_ble_eq_true rfl, Nat.le_of_ble_eq_true rfl⟩ ⟨Nat.zero_le _, Nat.zero_le _⟩ rfl rfl (Nat.le_of_ble_eq_true rfl) hl.1 (fun H locs hP hD hS => ?_)
      exact retI hQ hf dX12_likeliest_33 hP hD hS
    · replace hf := ipos c8 hf
      refine lv_bipush (v := -2) hx hb dX12_likeliest_24 (by decide) ?_
      refine lv_goto (tgt := 33) hx hb dX12_likeliest_26 (by decide) ?_
      exact retI hQ hf dX12_likeliest_33 hP hD hS
  · replace hf := ineg c4 hf
    refine lv_aload_n hx hb dX12_likeliest_8 rfl (lv_at hl 0 rfl) ?_
    refine lv_iload_n hx hb dX12_likeliest_9 rfl (lv_at hl 1 rfl) ?_
    obtain ⟨r13, σ14, h12, hf⟩ := bnd2_some hf
    refine vI [] C hP hD hS (c_X12_bytesIs h12) mv_X12_bytesIs q_1222 rv_X12 dX12_likeliest_10 ⟨Nat.le_of_ble_eq_true rfl, Nat.le_of_ble_eq_true rfl⟩ ⟨Nat.zero_le _, Nat.zero_le _⟩ rfl rfl (Nat.le_of_ble_eq_true rfl) hl.1 (fun H locs hP hD hS => ?_)
    exact retI hQ hf dX12_likeliest_13 hP hD hS
