def lwR : String := RL
theorem v_sld {p : Program} {l : Launch} {e : Env} {R : Room} {s : State} {m : MethodId} {args : Array Value} {below : List Frame} {meth : Method} {c : Code} {cells slots : Nat} {Q : State → Prop} {cc : ByteArray} {nL : Nat} {own : String} {g : GG} {A : Nat → Prop} {μ : Mem} {pc : Nat} {lv : List (Nat × Value)} {st : List Value} (X : RC p s m args c cc nL own g A) {b L : Nat} {xs : Nat → Int32} (hX : va_X b L xs s s.heap) (hbl : b < s.heap.size) (hbA : ¬ A b) {i : Int32} (hin : vp_in i L) (hd : decode cc pc = .ok (.iaload, 1)) (k : V p l e R s m args below meth c nL g A cells slots Q μ (pc + 1) lv (.int (xs i.toNatClampNeg) :: st)) : V p l e R s m args below meth c nL g A cells slots Q μ pc lv (.int i :: .ref b :: st) := fun H locs ls hl hP hS => va_sld X.1 X.2.1 hX hbl hbA hS hin hd (k H locs ls hl hP hS)
theorem v_slen {p : Program} {l : Launch} {e : Env} {R : Room} {s : State} {m : MethodId} {args : Array Value} {below : List Frame} {meth : Method} {c : Code} {cells slots : Nat} {Q : State → Prop} {cc : ByteArray} {nL : Nat} {own : String} {g : GG} {A : Nat → Prop} {μ : Mem} {pc : Nat} {lv : List (Nat × Value)} {st : List Value} (X : RC p s m args c cc nL own g A) {b L : Nat} {xs : Nat → Int32} (hX : va_X b L xs s s.heap) (hbl : b < s.heap.size) (hbA : ¬ A b) (hd : decode cc pc = .ok (.arraylength, 1)) (k : V p l e R s m args below meth c nL g A cells slots Q μ (pc + 1) lv (.int (nI L) :: st)) : V p l e R s m args below meth c nL g A cells slots Q μ pc lv (.ref b :: st) := fun H locs ls hl hP hS => va_slen X.1 X.2.1 hX hbl hbA hS hd (k H locs ls hl hP hS)
theorem vin_s {i L : Nat} (j : Nat) (hj : j ≤ 5) (hi : i + 6 ≤ L) (hL : L ≤ 3072) : vp_in (nI i + nI j) L := by
  rw [nI_add]
  exact vi (by omega) (by omega)
theorem vin_0 {i L : Nat} (hi : i + 6 ≤ L) (hL : L ≤ 3072) : vp_in (nI i) L := vi (by omega) (by omega)
theorem cst_b_15 : (Int8.ofInt 15).toInt32 = (nI 15 : Int32) := by decide +kernel
theorem hdc_X5_node : yX5_node.cls ≠ "java/lang/invoke/MethodHandle" ∧ yX5_node.cls ≠ "java/lang/invoke/VarHandle" ∧ (parseMethodDescriptor yX5_node.desc).map (fun d => d.parameters.length) = some 4 := by decide +kernel
theorem hdc_X6_node : yX6_node.cls ≠ "java/lang/invoke/MethodHandle" ∧ yX6_node.cls ≠ "java/lang/invoke/VarHandle" ∧ (parseMethodDescriptor yX6_node.desc).map (fun d => d.parameters.length) = some 4 := by decide +kernel
theorem hdc_X5_clock : yX5_clock.cls ≠ "java/lang/invoke/MethodHandle" ∧ yX5_clock.cls ≠ "java/lang/invoke/VarHandle" ∧ (parseMethodDescriptor yX5_clock.desc).map (fun d => d.parameters.length) = some 3 := by decide +kernel
theorem hdc_X6_clock : yX6_clock.cls ≠ "java/lang/invoke/MethodHandle" ∧ yX6_clock.cls ≠ "java/lang/invoke/VarHandle" ∧ (parseMethodDescriptor yX6_clock.desc).map (fun d => d.parameters.length) = some 3 := by decide +kernel
theorem hdc_X5_bound : yX5_bound.cls ≠ "java/lang/invoke/MethodHandle" ∧ yX5_bound.cls ≠ "java/lang/invoke/VarHandle" ∧ (parseMethodDescriptor yX5_bound.desc).map (fun d => d.parameters.length) = some 1 := by decide +kernel
theorem hdc_X6_bound : yX6_bound.cls ≠ "java/lang/invoke/MethodHandle" ∧ yX6_bound.cls ≠ "java/lang/invoke/VarHandle" ∧ (parseMethodDescriptor yX6_bound.desc).map (fun d => d.parameters.length) = some 1 := by decide +kernel
theorem hdc_X5_wake : yX5_wake.cls ≠ "java/lang/invoke/MethodHandle" ∧ yX5_wake.cls ≠ "java/lang/invoke/VarHandle" ∧ (parseMethodDescriptor yX5_wake.desc).map (fun d => d.parameters.length) = some 2 := by decide +kernel
theorem hdc_X6_wake : yX6_wake.cls ≠ "java/lang/invoke/MethodHandle" ∧ yX6_wake.cls ≠ "java/lang/invoke/VarHandle" ∧ (parseMethodDescriptor yX6_wake.desc).map (fun d => d.parameters.length) = some 2 := by decide +kernel
theorem hdc_X5_off : yX5_off.cls ≠ "java/lang/invoke/MethodHandle" ∧ yX5_off.cls ≠ "java/lang/invoke/VarHandle" ∧ (parseMethodDescriptor yX5_off.desc).map (fun d => d.parameters.length) = some 1 := by decide +kernel
theorem hdc_X6_off : yX6_off.cls ≠ "java/lang/invoke/MethodHandle" ∧ yX6_off.cls ≠ "java/lang/invoke/VarHandle" ∧ (parseMethodDescriptor yX6_off.desc).map (fun d => d.parameters.length) = some 1 := by decide +kernel
theorem hdc_X5_run : yX5_run.cls ≠ "java/lang/invoke/MethodHandle" ∧ yX5_run.cls ≠ "java/lang/invoke/VarHandle" ∧ (parseMethodDescriptor yX5_run.desc).map (fun d => d.parameters.length) = some 1 := by decide +kernel
theorem hdc_X6_run : yX6_run.cls ≠ "java/lang/invoke/MethodHandle" ∧ yX6_run.cls ≠ "java/lang/invoke/VarHandle" ∧ (parseMethodDescriptor yX6_run.desc).map (fun d => d.parameters.length) = some 1 := by decide +kernel
theorem hdc_X5_told : yX5_told.cls ≠ "java/lang/invoke/MethodHandle" ∧ yX5_told.cls ≠ "java/lang/invoke/VarHandle" ∧ (parseMethodDescriptor yX5_told.desc).map (fun d => d.parameters.length) = some 2 := by decide +kernel
theorem hdc_X6_told : yX6_told.cls ≠ "java/lang/invoke/MethodHandle" ∧ yX6_told.cls ≠ "java/lang/invoke/VarHandle" ∧ (parseMethodDescriptor yX6_told.desc).map (fun d => d.parameters.length) = some 2 := by decide +kernel
theorem hdc_X5_seen : yX5_seen.cls ≠ "java/lang/invoke/MethodHandle" ∧ yX5_seen.cls ≠ "java/lang/invoke/VarHandle" ∧ (parseMethodDescriptor yX5_seen.desc).map (fun d => d.parameters.length) = some 2 := by decide +kernel
theorem hdc_X6_seen : yX6_seen.cls ≠ "java/lang/invoke/MethodHandle" ∧ yX6_seen.cls ≠ "java/lang/invoke/VarHandle" ∧ (parseMethodDescriptor yX6_seen.desc).map (fun d => d.parameters.length) = some 2 := by decide +kernel
theorem hdc_X5_trim : yX5_trim.cls ≠ "java/lang/invoke/MethodHandle" ∧ yX5_trim.cls ≠ "java/lang/invoke/VarHandle" ∧ (parseMethodDescriptor yX5_trim.desc).map (fun d => d.parameters.length) = some 5 := by decide +kernel
theorem hdc_X6_trim : yX6_trim.cls ≠ "java/lang/invoke/MethodHandle" ∧ yX6_trim.cls ≠ "java/lang/invoke/VarHandle" ∧ (parseMethodDescriptor yX6_trim.desc).map (fun d => d.parameters.length) = some 5 := by decide +kernel
theorem hdc_X5_event : yX5_event.cls ≠ "java/lang/invoke/MethodHandle" ∧ yX5_event.cls ≠ "java/lang/invoke/VarHandle" ∧ (parseMethodDescriptor yX5_event.desc).map (fun d => d.parameters.length) = some 2 := by decide +kernel
theorem hdc_X6_event : yX6_event.cls ≠ "java/lang/invoke/MethodHandle" ∧ yX6_event.cls ≠ "java/lang/invoke/VarHandle" ∧ (parseMethodDescriptor yX6_event.desc).map (fun d => d.parameters.length) = some 2 := by decide +kernel
theorem hdc_X5_spread : yX5_spread.cls ≠ "java/lang/invoke/MethodHandle" ∧ yX5_spread.cls ≠ "java/lang/invoke/VarHandle" ∧ (parseMethodDescriptor yX5_spread.desc).map (fun d => d.parameters.length) = some 0 := by decide +kernel
theorem hdc_X6_spread : yX6_spread.cls ≠ "java/lang/invoke/MethodHandle" ∧ yX6_spread.cls ≠ "java/lang/invoke/VarHandle" ∧ (parseMethodDescriptor yX6_spread.desc).map (fun d => d.parameters.length) = some 0 := by decide +kernel
theorem hdc_X5_soon : yX5_soon.cls ≠ "java/lang/invoke/MethodHandle" ∧ yX5_soon.cls ≠ "java/lang/invoke/VarHandle" ∧ (parseMethodDescriptor yX5_soon.desc).map (fun d => d.parameters.length) = some 0 := by decide +kernel
theorem hdc_X6_soon : yX6_soon.cls ≠ "java/lang/invoke/MethodHandle" ∧ yX6_soon.cls ≠ "java/lang/invoke/VarHandle" ∧ (parseMethodDescriptor yX6_soon.desc).map (fun d => d.parameters.length) = some 0 := by decide +kernel
theorem hdc_X5_bears : yX5_bears.cls ≠ "java/lang/invoke/MethodHandle" ∧ yX5_bears.cls ≠ "java/lang/invoke/VarHandle" ∧ (parseMethodDescriptor yX5_bears.desc).map (fun d => d.parameters.length) = some 3 := by decide +kernel
theorem hdc_X6_bears : yX6_bears.cls ≠ "java/lang/invoke/MethodHandle" ∧ yX6_bears.cls ≠ "java/lang/invoke/VarHandle" ∧ (parseMethodDescriptor yX6_bears.desc).map (fun d => d.parameters.length) = some 3 := by decide +kernel
theorem hdc_X5_image : yX5_image.cls ≠ "java/lang/invoke/MethodHandle" ∧ yX5_image.cls ≠ "java/lang/invoke/VarHandle" ∧ (parseMethodDescriptor yX5_image.desc).map (fun d => d.parameters.length) = some 1 := by decide +kernel
theorem hdc_X6_image : yX6_image.cls ≠ "java/lang/invoke/MethodHandle" ∧ yX6_image.cls ≠ "java/lang/invoke/VarHandle" ∧ (parseMethodDescriptor yX6_image.desc).map (fun d => d.parameters.length) = some 1 := by decide +kernel
theorem hdc_X5_restore : yX5_restore.cls ≠ "java/lang/invoke/MethodHandle" ∧ yX5_restore.cls ≠ "java/lang/invoke/VarHandle" ∧ (parseMethodDescriptor yX5_restore.desc).map (fun d => d.parameters.length) = some 1 := by decide +kernel
theorem hdc_X6_restore : yX6_restore.cls ≠ "java/lang/invoke/MethodHandle" ∧ yX6_restore.cls ≠ "java/lang/invoke/VarHandle" ∧ (parseMethodDescriptor yX6_restore.desc).map (fun d => d.parameters.length) = some 1 := by decide +kernel
theorem hdc_X5_count : yX5_count.cls ≠ "java/lang/invoke/MethodHandle" ∧ yX5_count.cls ≠ "java/lang/invoke/VarHandle" ∧ (parseMethodDescriptor yX5_count.desc).map (fun d => d.parameters.length) = some 1 := by decide +kernel
theorem hdc_X6_count : yX6_count.cls ≠ "java/lang/invoke/MethodHandle" ∧ yX6_count.cls ≠ "java/lang/invoke/VarHandle" ∧ (parseMethodDescriptor yX6_count.desc).map (fun d => d.parameters.length) = some 1 := by decide +kernel
set_option maxRecDepth 100000 in
set_option maxHeartbeats 4000000 in
theorem lw_c0 {p : Program} {l : Launch} {e : Env} {s : State} {m : MethodId} {args : Array Value} {below : List Frame} {meth : Method} {c : Code} {Q : State → Prop} {g : GG} {A : Nat → Prop} {μ : Mem} {b L i N : Nat} {xs : Nat → Int32} (X : RC p s m args c cL_law 4 RL g A) (hX : va_X b L xs s s.heap) (hbl : b < s.heap.size) (hbA : ¬ A b) (hi : i + 6 ≤ L) (hL : L ≤ 3072) (hN : N + 300 < 100000) (hInv : Inv N μ) (nx : ∀ μ1, Inv (N + 50) μ1 → V p l e room_1 s m args below meth c 4 g A 600000 7302250 Q μ1 610 [(0, .ref b), (1, .ref (g.1 5 0)), (2, .ref (g.1 6 0)), (3, .int (nI i))] []) : V p l e room_1 s m args below meth c 4 g A 600000 7302250 Q μ 112 [(0, .ref b), (1, .ref (g.1 5 0)), (2, .ref (g.1 6 0)), (3, .int (nI i))] [] := by
  refine v_aload_n (pc := 112) X rfl 1 rfl dL_law_112 ?_
  refine v_aload_n (pc := 113) X rfl 0 rfl dL_law_113 ?_
  refine v_iload_n (pc := 114) X rfl 3 rfl dL_law_114 ?_
  refine v_iconst (pc := 115) X cst_i_1 dL_law_115 ?_
  refine v_iadd (pc := 116) X dL_law_116 ?_
  refine v_sld (pc := 117) X hX hbl hbA (vin_s 1 (by decide) hi hL) dL_law_117 ?_
  refine v_aload_n (pc := 118) X rfl 0 rfl dL_law_118 ?_
  refine v_iload_n (pc := 119) X rfl 3 rfl dL_law_119 ?_
  refine v_iconst (pc := 120) X cst_i_2 dL_law_120 ?_
  refine v_iadd (pc := 121) X dL_law_121 ?_
  refine v_sld (pc := 122) X hX hbl hbA (vin_s 2 (by decide) hi hL) dL_law_122 ?_
  refine v_aload_n (pc := 123) X rfl 0 rfl dL_law_123 ?_
  refine v_iload_n (pc := 124) X rfl 3 rfl dL_law_124 ?_
  refine v_iconst (pc := 125) X cst_i_3 dL_law_125 ?_
  refine v_iadd (pc := 126) X dL_law_126 ?_
  refine v_sld (pc := 127) X hX hbl hbA (vin_s 3 (by decide) hi hL) dL_law_127 ?_
  refine v_aload_n (pc := 128) X rfl 0 rfl dL_law_128 ?_
  refine v_iload_n (pc := 129) X rfl 3 rfl dL_law_129 ?_
  refine v_iconst (pc := 130) X cst_i_4 dL_law_130 ?_
  refine v_iadd (pc := 131) X dL_law_131 ?_
  refine v_sld (pc := 132) X hX hbl hbA (vin_s 4 (by decide) hi hL) dL_law_132 ?_
  refine v_callVi (pc := 133) X (c_X5_node l g X.2.2.2.2.2.2.1 _ _ _ _ _ _ (op_node hInv _ _ _ _)) wd_108 wd_105 wd_106 wd_107 wd_2 ⟨rfl, rfl⟩ hdc_X5_node ⟨Nat.le_of_ble_eq_true rfl, Nat.le_of_ble_eq_true rfl⟩ ⟨Nat.le_of_ble_eq_true rfl, Nat.le_of_ble_eq_true rfl⟩ Nat.one_pos rfl rfl (As := [.int (xs (nI i + 1).toNatClampNeg), .int (xs (nI i + nI 2).toNatClampNeg), .int (xs (nI i + nI 3).toNatClampNeg), .int (xs (nI i + nI 4).toNatClampNeg)]) rfl rfl (Nat.le_of_ble_eq_true rfl) dL_law_133 (fun z1 m1 h => ?_)
  refine v_aload_n (pc := 136) X rfl 2 rfl dL_law_136 ?_
  refine v_aload_n (pc := 137) X rfl 0 rfl dL_law_137 ?_
  refine v_iload_n (pc := 138) X rfl 3 rfl dL_law_138 ?_
  refine v_iconst (pc := 139) X cst_i_1 dL_law_139 ?_
  refine v_iadd (pc := 140) X dL_law_140 ?_
  refine v_sld (pc := 141) X hX hbl hbA (vin_s 1 (by decide) hi hL) dL_law_141 ?_
  refine v_aload_n (pc := 142) X rfl 0 rfl dL_law_142 ?_
  refine v_iload_n (pc := 143) X rfl 3 rfl dL_law_143 ?_
  refine v_iconst (pc := 144) X cst_i_2 dL_law_144 ?_
  refine v_iadd (pc := 145) X dL_law_145 ?_
  refine v_sld (pc := 146) X hX hbl hbA (vin_s 2 (by decide) hi hL) dL_law_146 ?_
  refine v_aload_n (pc := 147) X rfl 0 rfl dL_law_147 ?_
  refine v_iload_n (pc := 148) X rfl 3 rfl dL_law_148 ?_
  refine v_iconst (pc := 149) X cst_i_3 dL_law_149 ?_
  refine v_iadd (pc := 150) X dL_law_150 ?_
  refine v_sld (pc := 151) X hX hbl hbA (vin_s 3 (by decide) hi hL) dL_law_151 ?_
  refine v_aload_n (pc := 152) X rfl 0 rfl dL_law_152 ?_
  refine v_iload_n (pc := 153) X rfl 3 rfl dL_law_153 ?_
  refine v_iconst (pc := 154) X cst_i_4 dL_law_154 ?_
  refine v_iadd (pc := 155) X dL_law_155 ?_
  refine v_sld (pc := 156) X hX hbl hbA (vin_s 4 (by decide) hi hL) dL_law_156 ?_
  refine v_callVi (pc := 157) X (c_X6_node l g X.2.2.2.2.2.2.1 _ _ _ _ _ _ h) wd_128 wd_125 wd_126 wd_127 wd_5 ⟨rfl, rfl⟩ hdc_X6_node ⟨Nat.le_of_ble_eq_true rfl, Nat.le_of_ble_eq_true rfl⟩ ⟨Nat.le_of_ble_eq_true rfl, Nat.le_of_ble_eq_true rfl⟩ Nat.one_pos rfl rfl (As := [.int (xs (nI i + 1).toNatClampNeg), .int (xs (nI i + nI 2).toNatClampNeg), .int (xs (nI i + nI 3).toNatClampNeg), .int (xs (nI i + nI 4).toNatClampNeg)]) rfl rfl (Nat.le_of_ble_eq_true rfl) dL_law_157 (fun z2 m2 h => ?_)
  exact v_icmp_eq (pc := 160) X (f1 := Inv (N + 50) m2) (f2 := False) ⟨fun _ => h.2, fun q => absurd h.1 q⟩ dL_law_160 rfl (fun q => nx _ q) (fun q => q.elim)
set_option maxRecDepth 100000 in
set_option maxHeartbeats 4000000 in
theorem lw_c1 {p : Program} {l : Launch} {e : Env} {s : State} {m : MethodId} {args : Array Value} {below : List Frame} {meth : Method} {c : Code} {Q : State → Prop} {g : GG} {A : Nat → Prop} {μ : Mem} {b L i N : Nat} {xs : Nat → Int32} (X : RC p s m args c cL_law 4 RL g A) (hX : va_X b L xs s s.heap) (hbl : b < s.heap.size) (hbA : ¬ A b) (hi : i + 6 ≤ L) (hL : L ≤ 3072) (hN : N + 300 < 100000) (hInv : Inv N μ) (nx : ∀ μ1, Inv (N + 50) μ1 → V p l e room_1 s m args below meth c 4 g A 600000 7302250 Q μ1 610 [(0, .ref b), (1, .ref (g.1 5 0)), (2, .ref (g.1 6 0)), (3, .int (nI i))] []) : V p l e room_1 s m args below meth c 4 g A 600000 7302250 Q μ 165 [(0, .ref b), (1, .ref (g.1 5 0)), (2, .ref (g.1 6 0)), (3, .int (nI i))] [] := by
  refine v_aload_n (pc := 165) X rfl 1 rfl dL_law_165 ?_
  refine v_aload_n (pc := 166) X rfl 0 rfl dL_law_166 ?_
  refine v_iload_n (pc := 167) X rfl 3 rfl dL_law_167 ?_
  refine v_iconst (pc := 168) X cst_i_1 dL_law_168 ?_
  refine v_iadd (pc := 169) X dL_law_169 ?_
  refine v_sld (pc := 170) X hX hbl hbA (vin_s 1 (by decide) hi hL) dL_law_170 ?_
  refine v_aload_n (pc := 171) X rfl 0 rfl dL_law_171 ?_
  refine v_iload_n (pc := 172) X rfl 3 rfl dL_law_172 ?_
  refine v_iconst (pc := 173) X cst_i_2 dL_law_173 ?_
  refine v_iadd (pc := 174) X dL_law_174 ?_
  refine v_sld (pc := 175) X hX hbl hbA (vin_s 2 (by decide) hi hL) dL_law_175 ?_
  refine v_aload_n (pc := 176) X rfl 0 rfl dL_law_176 ?_
  refine v_iload_n (pc := 177) X rfl 3 rfl dL_law_177 ?_
  refine v_iconst (pc := 178) X cst_i_3 dL_law_178 ?_
  refine v_iadd (pc := 179) X dL_law_179 ?_
  refine v_sld (pc := 180) X hX hbl hbA (vin_s 3 (by decide) hi hL) dL_law_180 ?_
  refine v_callVi (pc := 181) X (c_X5_clock l g X.2.2.2.2.2.2.1 _ _ _ _ _ (op_clock hInv _ _ _)) wd_146 wd_143 wd_144 wd_145 wd_2 ⟨rfl, rfl⟩ hdc_X5_clock ⟨Nat.le_of_ble_eq_true rfl, Nat.le_of_ble_eq_true rfl⟩ ⟨Nat.le_of_ble_eq_true rfl, Nat.le_of_ble_eq_true rfl⟩ Nat.one_pos rfl rfl (As := [.int (xs (nI i + 1).toNatClampNeg), .int (xs (nI i + nI 2).toNatClampNeg), .int (xs (nI i + nI 3).toNatClampNeg)]) rfl rfl (Nat.le_of_ble_eq_true rfl) dL_law_181 (fun z1 m1 h => ?_)
  refine v_aload_n (pc := 184) X rfl 2 rfl dL_law_184 ?_
  refine v_aload_n (pc := 185) X rfl 0 rfl dL_law_185 ?_
  refine v_iload_n (pc := 186) X rfl 3 rfl dL_law_186 ?_
  refine v_iconst (pc := 187) X cst_i_1 dL_law_187 ?_
  refine v_iadd (pc := 188) X dL_law_188 ?_
  refine v_sld (pc := 189) X hX hbl hbA (vin_s 1 (by decide) hi hL) dL_law_189 ?_
  refine v_aload_n (pc := 190) X rfl 0 rfl dL_law_190 ?_
  refine v_iload_n (pc := 191) X rfl 3 rfl dL_law_191 ?_
  refine v_iconst (pc := 192) X cst_i_2 dL_law_192 ?_
  refine v_iadd (pc := 193) X dL_law_193 ?_
  refine v_sld (pc := 194) X hX hbl hbA (vin_s 2 (by decide) hi hL) dL_law_194 ?_
  refine v_aload_n (pc := 195) X rfl 0 rfl dL_law_195 ?_
  refine v_iload_n (pc := 196) X rfl 3 rfl dL_law_196 ?_
  refine v_iconst (pc := 197) X cst_i_3 dL_law_197 ?_
  refine v_iadd (pc := 198) X dL_law_198 ?_
  refine v_sld (pc := 199) X hX hbl hbA (vin_s 3 (by decide) hi hL) dL_law_199 ?_
  refine v_callVi (pc := 200) X (c_X6_clock l g X.2.2.2.2.2.2.1 _ _ _ _ _ h) wd_152 wd_149 wd_150 wd_151 wd_5 ⟨rfl, rfl⟩ hdc_X6_clock ⟨Nat.le_of_ble_eq_true rfl, Nat.le_of_ble_eq_true rfl⟩ ⟨Nat.le_of_ble_eq_true rfl, Nat.le_of_ble_eq_true rfl⟩ Nat.one_pos rfl rfl (As := [.int (xs (nI i + 1).toNatClampNeg), .int (xs (nI i + nI 2).toNatClampNeg), .int (xs (nI i + nI 3).toNatClampNeg)]) rfl rfl (Nat.le_of_ble_eq_true rfl) dL_law_200 (fun z2 m2 h => ?_)
  exact v_icmp_eq (pc := 203) X (f1 := Inv (N + 50) m2) (f2 := False) ⟨fun _ => h.2, fun q => absurd h.1 q⟩ dL_law_203 rfl (fun q => nx _ q) (fun q => q.elim)
set_option maxRecDepth 100000 in
set_option maxHeartbeats 4000000 in
theorem lw_c2 {p : Program} {l : Launch} {e : Env} {s : State} {m : MethodId} {args : Array Value} {below : List Frame} {meth : Method} {c : Code} {Q : State → Prop} {g : GG} {A : Nat → Prop} {μ : Mem} {b L i N : Nat} {xs : Nat → Int32} (X : RC p s m args c cL_law 4 RL g A) (hX : va_X b L xs s s.heap) (hbl : b < s.heap.size) (hbA : ¬ A b) (hi : i + 6 ≤ L) (hL : L ≤ 3072) (hN : N + 300 < 100000) (hInv : Inv N μ) (nx : ∀ μ1, Inv (N + 50) μ1 → V p l e room_1 s m args below meth c 4 g A 600000 7302250 Q μ1 610 [(0, .ref b), (1, .ref (g.1 5 0)), (2, .ref (g.1 6 0)), (3, .int (nI i))] []) : V p l e room_1 s m args below meth c 4 g A 600000 7302250 Q μ 208 [(0, .ref b), (1, .ref (g.1 5 0)), (2, .ref (g.1 6 0)), (3, .int (nI i))] [] := by
  refine v_aload_n (pc := 208) X rfl 1 rfl dL_law_208 ?_
  refine v_aload_n (pc := 209) X rfl 0 rfl dL_law_209 ?_
  refine v_iload_n (pc := 210) X rfl 3 rfl dL_law_210 ?_
  refine v_iconst (pc := 211) X cst_i_1 dL_law_211 ?_
  refine v_iadd (pc := 212) X dL_law_212 ?_
  refine v_sld (pc := 213) X hX hbl hbA (vin_s 1 (by decide) hi hL) dL_law_213 ?_
  refine v_callVi (pc := 214) X (c_X5_bound l g X.2.2.2.2.2.2.1 _ _ _ (op_bound hInv _)) wd_156 wd_153 wd_154 wd_155 wd_2 ⟨rfl, rfl⟩ hdc_X5_bound ⟨Nat.le_of_ble_eq_true rfl, Nat.le_of_ble_eq_true rfl⟩ ⟨Nat.le_of_ble_eq_true rfl, Nat.le_of_ble_eq_true rfl⟩ Nat.one_pos rfl rfl (As := [.int (xs (nI i + 1).toNatClampNeg)]) rfl rfl (Nat.le_of_ble_eq_true rfl) dL_law_214 (fun z1 m1 h => ?_)
  refine v_aload_n (pc := 217) X rfl 2 rfl dL_law_217 ?_
  refine v_aload_n (pc := 218) X rfl 0 rfl dL_law_218 ?_
  refine v_iload_n (pc := 219) X rfl 3 rfl dL_law_219 ?_
  refine v_iconst (pc := 220) X cst_i_1 dL_law_220 ?_
  refine v_iadd (pc := 221) X dL_law_221 ?_
  refine v_sld (pc := 222) X hX hbl hbA (vin_s 1 (by decide) hi hL) dL_law_222 ?_
  refine v_callVi (pc := 223) X (c_X6_bound l g X.2.2.2.2.2.2.1 _ _ _ h) wd_161 wd_158 wd_159 wd_160 wd_5 ⟨rfl, rfl⟩ hdc_X6_bound ⟨Nat.le_of_ble_eq_true rfl, Nat.le_of_ble_eq_true rfl⟩ ⟨Nat.le_of_ble_eq_true rfl, Nat.le_of_ble_eq_true rfl⟩ Nat.one_pos rfl rfl (As := [.int (xs (nI i + 1).toNatClampNeg)]) rfl rfl (Nat.le_of_ble_eq_true rfl) dL_law_223 (fun z2 m2 h => ?_)
  exact v_icmp_eq (pc := 226) X (f1 := Inv (N + 50) m2) (f2 := False) ⟨fun _ => h.2, fun q => absurd h.1 q⟩ dL_law_226 rfl (fun q => nx _ q) (fun q => q.elim)
set_option maxRecDepth 100000 in
set_option maxHeartbeats 4000000 in
theorem lw_c3 {p : Program} {l : Launch} {e : Env} {s : State} {m : MethodId} {args : Array Value} {below : List Frame} {meth : Method} {c : Code} {Q : State → Prop} {g : GG} {A : Nat → Prop} {μ : Mem} {b L i N : Nat} {xs : Nat → Int32} (X : RC p s m args c cL_law 4 RL g A) (hX : va_X b L xs s s.heap) (hbl : b < s.heap.size) (hbA : ¬ A b) (hi : i + 6 ≤ L) (hL : L ≤ 3072) (hN : N + 300 < 100000) (hInv : Inv N μ) (nx : ∀ μ1, Inv (N + 50) μ1 → V p l e room_1 s m args below meth c 4 g A 600000 7302250 Q μ1 610 [(0, .ref b), (1, .ref (g.1 5 0)), (2, .ref (g.1 6 0)), (3, .int (nI i))] []) : V p l e room_1 s m args below meth c 4 g A 600000 7302250 Q μ 231 [(0, .ref b), (1, .ref (g.1 5 0)), (2, .ref (g.1 6 0)), (3, .int (nI i))] [] := by
  refine v_aload_n (pc := 231) X rfl 1 rfl dL_law_231 ?_
  refine v_aload_n (pc := 232) X rfl 0 rfl dL_law_232 ?_
  refine v_iload_n (pc := 233) X rfl 3 rfl dL_law_233 ?_
  refine v_iconst (pc := 234) X cst_i_1 dL_law_234 ?_
  refine v_iadd (pc := 235) X dL_law_235 ?_
  refine v_sld (pc := 236) X hX hbl hbA (vin_s 1 (by decide) hi hL) dL_law_236 ?_
  refine v_aload_n (pc := 237) X rfl 0 rfl dL_law_237 ?_
  refine v_iload_n (pc := 238) X rfl 3 rfl dL_law_238 ?_
  refine v_iconst (pc := 239) X cst_i_2 dL_law_239 ?_
  refine v_iadd (pc := 240) X dL_law_240 ?_
  refine v_sld (pc := 241) X hX hbl hbA (vin_s 2 (by decide) hi hL) dL_law_241 ?_
  refine v_callVi (pc := 242) X (c_X5_wake l g X.2.2.2.2.2.2.1 _ _ _ _ (op_wake hInv _ _)) wd_165 wd_162 wd_163 wd_164 wd_2 ⟨rfl, rfl⟩ hdc_X5_wake ⟨Nat.le_of_ble_eq_true rfl, Nat.le_of_ble_eq_true rfl⟩ ⟨Nat.le_of_ble_eq_true rfl, Nat.le_of_ble_eq_true rfl⟩ Nat.one_pos rfl rfl (As := [.int (xs (nI i + 1).toNatClampNeg), .int (xs (nI i + nI 2).toNatClampNeg)]) rfl rfl (Nat.le_of_ble_eq_true rfl) dL_law_242 (fun z1 m1 h => ?_)
  refine v_aload_n (pc := 245) X rfl 2 rfl dL_law_245 ?_
  refine v_aload_n (pc := 246) X rfl 0 rfl dL_law_246 ?_
  refine v_iload_n (pc := 247) X rfl 3 rfl dL_law_247 ?_
  refine v_iconst (pc := 248) X cst_i_1 dL_law_248 ?_
  refine v_iadd (pc := 249) X dL_law_249 ?_
  refine v_sld (pc := 250) X hX hbl hbA (vin_s 1 (by decide) hi hL) dL_law_250 ?_
  refine v_aload_n (pc := 251) X rfl 0 rfl dL_law_251 ?_
  refine v_iload_n (pc := 252) X rfl 3 rfl dL_law_252 ?_
  refine v_iconst (pc := 253) X cst_i_2 dL_law_253 ?_
  refine v_iadd (pc := 254) X dL_law_254 ?_
  refine v_sld (pc := 255) X hX hbl hbA (vin_s 2 (by decide) hi hL) dL_law_255 ?_
  refine v_callVi (pc := 256) X (c_X6_wake l g X.2.2.2.2.2.2.1 _ _ _ _ h) wd_195 wd_192 wd_193 wd_194 wd_5 ⟨rfl, rfl⟩ hdc_X6_wake ⟨Nat.le_of_ble_eq_true rfl, Nat.le_of_ble_eq_true rfl⟩ ⟨Nat.le_of_ble_eq_true rfl, Nat.le_of_ble_eq_true rfl⟩ Nat.one_pos rfl rfl (As := [.int (xs (nI i + 1).toNatClampNeg), .int (xs (nI i + nI 2).toNatClampNeg)]) rfl rfl (Nat.le_of_ble_eq_true rfl) dL_law_256 (fun z2 m2 h => ?_)
  exact v_icmp_eq (pc := 259) X (f1 := Inv (N + 50) m2) (f2 := False) ⟨fun _ => h.2, fun q => absurd h.1 q⟩ dL_law_259 rfl (fun q => nx _ q) (fun q => q.elim)
set_option maxRecDepth 100000 in
set_option maxHeartbeats 4000000 in
theorem lw_c4 {p : Program} {l : Launch} {e : Env} {s : State} {m : MethodId} {args : Array Value} {below : List Frame} {meth : Method} {c : Code} {Q : State → Prop} {g : GG} {A : Nat → Prop} {μ : Mem} {b L i N : Nat} {xs : Nat → Int32} (X : RC p s m args c cL_law 4 RL g A) (hX : va_X b L xs s s.heap) (hbl : b < s.heap.size) (hbA : ¬ A b) (hi : i + 6 ≤ L) (hL : L ≤ 3072) (hN : N + 300 < 100000) (hInv : Inv N μ) (nx : ∀ μ1, Inv (N + 50) μ1 → V p l e room_1 s m args below meth c 4 g A 600000 7302250 Q μ1 610 [(0, .ref b), (1, .ref (g.1 5 0)), (2, .ref (g.1 6 0)), (3, .int (nI i))] []) : V p l e room_1 s m args below meth c 4 g A 600000 7302250 Q μ 264 [(0, .ref b), (1, .ref (g.1 5 0)), (2, .ref (g.1 6 0)), (3, .int (nI i))] [] := by
  refine v_aload_n (pc := 264) X rfl 1 rfl dL_law_264 ?_
  refine v_aload_n (pc := 265) X rfl 0 rfl dL_law_265 ?_
  refine v_iload_n (pc := 266) X rfl 3 rfl dL_law_266 ?_
  refine v_iconst (pc := 267) X cst_i_1 dL_law_267 ?_
  refine v_iadd (pc := 268) X dL_law_268 ?_
  refine v_sld (pc := 269) X hX hbl hbA (vin_s 1 (by decide) hi hL) dL_law_269 ?_
  refine v_callVi (pc := 270) X (c_X5_off l g X.2.2.2.2.2.2.1 _ _ _ (op_off hInv _)) wd_207 wd_204 wd_205 wd_206 wd_2 ⟨rfl, rfl⟩ hdc_X5_off ⟨Nat.le_of_ble_eq_true rfl, Nat.le_of_ble_eq_true rfl⟩ ⟨Nat.le_of_ble_eq_true rfl, Nat.le_of_ble_eq_true rfl⟩ Nat.one_pos rfl rfl (As := [.int (xs (nI i + 1).toNatClampNeg)]) rfl rfl (Nat.le_of_ble_eq_true rfl) dL_law_270 (fun z1 m1 h => ?_)
  refine v_aload_n (pc := 273) X rfl 2 rfl dL_law_273 ?_
  refine v_aload_n (pc := 274) X rfl 0 rfl dL_law_274 ?_
  refine v_iload_n (pc := 275) X rfl 3 rfl dL_law_275 ?_
  refine v_iconst (pc := 276) X cst_i_1 dL_law_276 ?_
  refine v_iadd (pc := 277) X dL_law_277 ?_
  refine v_sld (pc := 278) X hX hbl hbA (vin_s 1 (by decide) hi hL) dL_law_278 ?_
  refine v_callVi (pc := 279) X (c_X6_off l g X.2.2.2.2.2.2.1 _ _ _ h) wd_211 wd_208 wd_209 wd_210 wd_5 ⟨rfl, rfl⟩ hdc_X6_off ⟨Nat.le_of_ble_eq_true rfl, Nat.le_of_ble_eq_true rfl⟩ ⟨Nat.le_of_ble_eq_true rfl, Nat.le_of_ble_eq_true rfl⟩ Nat.one_pos rfl rfl (As := [.int (xs (nI i + 1).toNatClampNeg)]) rfl rfl (Nat.le_of_ble_eq_true rfl) dL_law_279 (fun z2 m2 h => ?_)
  exact v_icmp_eq (pc := 282) X (f1 := Inv (N + 50) m2) (f2 := False) ⟨fun _ => h.2, fun q => absurd h.1 q⟩ dL_law_282 rfl (fun q => nx _ q) (fun q => q.elim)
set_option maxRecDepth 100000 in
set_option maxHeartbeats 4000000 in
theorem lw_c5 {p : Program} {l : Launch} {e : Env} {s : State} {m : MethodId} {args : Array Value} {below : List Frame} {meth : Method} {c : Code} {Q : State → Prop} {g : GG} {A : Nat → Prop} {μ : Mem} {b L i N : Nat} {xs : Nat → Int32} (X : RC p s m args c cL_law 4 RL g A) (hX : va_X b L xs s s.heap) (hbl : b < s.heap.size) (hbA : ¬ A b) (hi : i + 6 ≤ L) (hL : L ≤ 3072) (hN : N + 300 < 100000) (hInv : Inv N μ) (nx : ∀ μ1, Inv (N + 50) μ1 → V p l e room_1 s m args below meth c 4 g A 600000 7302250 Q μ1 610 [(0, .ref b), (1, .ref (g.1 5 0)), (2, .ref (g.1 6 0)), (3, .int (nI i))] []) : V p l e room_1 s m args below meth c 4 g A 600000 7302250 Q μ 287 [(0, .ref b), (1, .ref (g.1 5 0)), (2, .ref (g.1 6 0)), (3, .int (nI i))] [] := by
  refine v_aload_n (pc := 287) X rfl 1 rfl dL_law_287 ?_
  refine v_aload_n (pc := 288) X rfl 0 rfl dL_law_288 ?_
  refine v_iload_n (pc := 289) X rfl 3 rfl dL_law_289 ?_
  refine v_iconst (pc := 290) X cst_i_1 dL_law_290 ?_
  refine v_iadd (pc := 291) X dL_law_291 ?_
  refine v_sld (pc := 292) X hX hbl hbA (vin_s 1 (by decide) hi hL) dL_law_292 ?_
  refine v_callVi (pc := 293) X (c_X5_run l g X.2.2.2.2.2.2.1 _ _ _ (op_run hInv hN _)) wd_215 wd_212 wd_213 wd_214 wd_2 ⟨rfl, rfl⟩ hdc_X5_run ⟨Nat.le_of_ble_eq_true rfl, Nat.le_of_ble_eq_true rfl⟩ ⟨Nat.le_of_ble_eq_true rfl, Nat.le_of_ble_eq_true rfl⟩ Nat.one_pos rfl rfl (As := [.int (xs (nI i + 1).toNatClampNeg)]) rfl rfl (Nat.le_of_ble_eq_true rfl) dL_law_293 (fun z1 m1 h => ?_)
  refine v_aload_n (pc := 296) X rfl 2 rfl dL_law_296 ?_
  refine v_aload_n (pc := 297) X rfl 0 rfl dL_law_297 ?_
  refine v_iload_n (pc := 298) X rfl 3 rfl dL_law_298 ?_
  refine v_iconst (pc := 299) X cst_i_1 dL_law_299 ?_
  refine v_iadd (pc := 300) X dL_law_300 ?_
  refine v_sld (pc := 301) X hX hbl hbA (vin_s 1 (by decide) hi hL) dL_law_301 ?_
  refine v_callVi (pc := 302) X (c_X6_run l g X.2.2.2.2.2.2.1 _ _ _ h) wd_363 wd_360 wd_361 wd_362 wd_5 ⟨rfl, rfl⟩ hdc_X6_run ⟨Nat.le_of_ble_eq_true rfl, Nat.le_of_ble_eq_true rfl⟩ ⟨Nat.le_of_ble_eq_true rfl, Nat.le_of_ble_eq_true rfl⟩ Nat.one_pos rfl rfl (As := [.int (xs (nI i + 1).toNatClampNeg)]) rfl rfl (Nat.le_of_ble_eq_true rfl) dL_law_302 (fun z2 m2 h => ?_)
  exact v_icmp_eq (pc := 305) X (f1 := Inv (N + 50) m2) (f2 := False) ⟨fun _ => h.2, fun q => absurd h.1 q⟩ dL_law_305 rfl (fun q => nx _ q) (fun q => q.elim)
set_option maxRecDepth 100000 in
set_option maxHeartbeats 4000000 in
theorem lw_c6 {p : Program} {l : Launch} {e : Env} {s : State} {m : MethodId} {args : Array Value} {below : List Frame} {meth : Method} {c : Code} {Q : State → Prop} {g : GG} {A : Nat → Prop} {μ : Mem} {b L i N : Nat} {xs : Nat → Int32} (X : RC p s m args c cL_law 4 RL g A) (hX : va_X b L xs s s.heap) (hbl : b < s.heap.size) (hbA : ¬ A b) (hi : i + 6 ≤ L) (hL : L ≤ 3072) (hN : N + 300 < 100000) (hInv : Inv N μ) (nx : ∀ μ1, Inv (N + 50) μ1 → V p l e room_1 s m args below meth c 4 g A 600000 7302250 Q μ1 610 [(0, .ref b), (1, .ref (g.1 5 0)), (2, .ref (g.1 6 0)), (3, .int (nI i))] []) : V p l e room_1 s m args below meth c 4 g A 600000 7302250 Q μ 310 [(0, .ref b), (1, .ref (g.1 5 0)), (2, .ref (g.1 6 0)), (3, .int (nI i))] [] := by
  refine v_aload_n (pc := 310) X rfl 1 rfl dL_law_310 ?_
  refine v_aload_n (pc := 311) X rfl 0 rfl dL_law_311 ?_
  refine v_iload_n (pc := 312) X rfl 3 rfl dL_law_312 ?_
  refine v_iconst (pc := 313) X cst_i_1 dL_law_313 ?_
  refine v_iadd (pc := 314) X dL_law_314 ?_
  refine v_sld (pc := 315) X hX hbl hbA (vin_s 1 (by decide) hi hL) dL_law_315 ?_
  refine v_aload_n (pc := 316) X rfl 0 rfl dL_law_316 ?_
  refine v_iload_n (pc := 317) X rfl 3 rfl dL_law_317 ?_
  refine v_iconst (pc := 318) X cst_i_2 dL_law_318 ?_
  refine v_iadd (pc := 319) X dL_law_319 ?_
  refine v_sld (pc := 320) X hX hbl hbA (vin_s 2 (by decide) hi hL) dL_law_320 ?_
  refine v_callVi (pc := 321) X (c_X5_told l g X.2.2.2.2.2.2.1 _ _ _ _ (op_told hInv _ _)) wd_455 wd_452 wd_453 wd_454 wd_2 ⟨rfl, rfl⟩ hdc_X5_told ⟨Nat.le_of_ble_eq_true rfl, Nat.le_of_ble_eq_true rfl⟩ ⟨Nat.le_of_ble_eq_true rfl, Nat.le_of_ble_eq_true rfl⟩ Nat.one_pos rfl rfl (As := [.int (xs (nI i + 1).toNatClampNeg), .int (xs (nI i + nI 2).toNatClampNeg)]) rfl rfl (Nat.le_of_ble_eq_true rfl) dL_law_321 (fun z1 m1 h => ?_)
  refine v_aload_n (pc := 324) X rfl 2 rfl dL_law_324 ?_
  refine v_aload_n (pc := 325) X rfl 0 rfl dL_law_325 ?_
  refine v_iload_n (pc := 326) X rfl 3 rfl dL_law_326 ?_
  refine v_iconst (pc := 327) X cst_i_1 dL_law_327 ?_
  refine v_iadd (pc := 328) X dL_law_328 ?_
  refine v_sld (pc := 329) X hX hbl hbA (vin_s 1 (by decide) hi hL) dL_law_329 ?_
  refine v_aload_n (pc := 330) X rfl 0 rfl dL_law_330 ?_
  refine v_iload_n (pc := 331) X rfl 3 rfl dL_law_331 ?_
  refine v_iconst (pc := 332) X cst_i_2 dL_law_332 ?_
  refine v_iadd (pc := 333) X dL_law_333 ?_
  refine v_sld (pc := 334) X hX hbl hbA (vin_s 2 (by decide) hi hL) dL_law_334 ?_
  refine v_callVi (pc := 335) X (c_X6_told l g X.2.2.2.2.2.2.1 _ _ _ _ h) wd_470 wd_467 wd_468 wd_469 wd_5 ⟨rfl, rfl⟩ hdc_X6_told ⟨Nat.le_of_ble_eq_true rfl, Nat.le_of_ble_eq_true rfl⟩ ⟨Nat.le_of_ble_eq_true rfl, Nat.le_of_ble_eq_true rfl⟩ Nat.one_pos rfl rfl (As := [.int (xs (nI i + 1).toNatClampNeg), .int (xs (nI i + nI 2).toNatClampNeg)]) rfl rfl (Nat.le_of_ble_eq_true rfl) dL_law_335 (fun z2 m2 h => ?_)
  exact v_icmp_eq (pc := 338) X (f1 := Inv (N + 50) m2) (f2 := False) ⟨fun _ => h.2, fun q => absurd h.1 q⟩ dL_law_338 rfl (fun q => nx _ q) (fun q => q.elim)
set_option maxRecDepth 100000 in
set_option maxHeartbeats 4000000 in
theorem lw_c7 {p : Program} {l : Launch} {e : Env} {s : State} {m : MethodId} {args : Array Value} {below : List Frame} {meth : Method} {c : Code} {Q : State → Prop} {g : GG} {A : Nat → Prop} {μ : Mem} {b L i N : Nat} {xs : Nat → Int32} (X : RC p s m args c cL_law 4 RL g A) (hX : va_X b L xs s s.heap) (hbl : b < s.heap.size) (hbA : ¬ A b) (hi : i + 6 ≤ L) (hL : L ≤ 3072) (hN : N + 300 < 100000) (hInv : Inv N μ) (nx : ∀ μ1, Inv (N + 50) μ1 → V p l e room_1 s m args below meth c 4 g A 600000 7302250 Q μ1 610 [(0, .ref b), (1, .ref (g.1 5 0)), (2, .ref (g.1 6 0)), (3, .int (nI i))] []) : V p l e room_1 s m args below meth c 4 g A 600000 7302250 Q μ 343 [(0, .ref b), (1, .ref (g.1 5 0)), (2, .ref (g.1 6 0)), (3, .int (nI i))] [] := by
  refine v_aload_n (pc := 343) X rfl 1 rfl dL_law_343 ?_
  refine v_aload_n (pc := 344) X rfl 0 rfl dL_law_344 ?_
  refine v_iload_n (pc := 345) X rfl 3 rfl dL_law_345 ?_
  refine v_iconst (pc := 346) X cst_i_1 dL_law_346 ?_
  refine v_iadd (pc := 347) X dL_law_347 ?_
  refine v_sld (pc := 348) X hX hbl hbA (vin_s 1 (by decide) hi hL) dL_law_348 ?_
  refine v_aload_n (pc := 349) X rfl 0 rfl dL_law_349 ?_
  refine v_iload_n (pc := 350) X rfl 3 rfl dL_law_350 ?_
  refine v_iconst (pc := 351) X cst_i_2 dL_law_351 ?_
  refine v_iadd (pc := 352) X dL_law_352 ?_
  refine v_sld (pc := 353) X hX hbl hbA (vin_s 2 (by decide) hi hL) dL_law_353 ?_
  refine v_callVi (pc := 354) X (c_X5_seen l g X.2.2.2.2.2.2.1 _ _ _ _ (op_seen hInv _ _)) wd_478 wd_475 wd_476 wd_477 wd_2 ⟨rfl, rfl⟩ hdc_X5_seen ⟨Nat.le_of_ble_eq_true rfl, Nat.le_of_ble_eq_true rfl⟩ ⟨Nat.le_of_ble_eq_true rfl, Nat.le_of_ble_eq_true rfl⟩ Nat.one_pos rfl rfl (As := [.int (xs (nI i + 1).toNatClampNeg), .int (xs (nI i + nI 2).toNatClampNeg)]) rfl rfl (Nat.le_of_ble_eq_true rfl) dL_law_354 (fun z1 m1 h => ?_)
  refine v_aload_n (pc := 357) X rfl 2 rfl dL_law_357 ?_
  refine v_aload_n (pc := 358) X rfl 0 rfl dL_law_358 ?_
  refine v_iload_n (pc := 359) X rfl 3 rfl dL_law_359 ?_
  refine v_iconst (pc := 360) X cst_i_1 dL_law_360 ?_
  refine v_iadd (pc := 361) X dL_law_361 ?_
  refine v_sld (pc := 362) X hX hbl hbA (vin_s 1 (by decide) hi hL) dL_law_362 ?_
  refine v_aload_n (pc := 363) X rfl 0 rfl dL_law_363 ?_
  refine v_iload_n (pc := 364) X rfl 3 rfl dL_law_364 ?_
  refine v_iconst (pc := 365) X cst_i_2 dL_law_365 ?_
  refine v_iadd (pc := 366) X dL_law_366 ?_
  refine v_sld (pc := 367) X hX hbl hbA (vin_s 2 (by decide) hi hL) dL_law_367 ?_
  refine v_callVi (pc := 368) X (c_X6_seen l g X.2.2.2.2.2.2.1 _ _ _ _ h) wd_484 wd_481 wd_482 wd_483 wd_5 ⟨rfl, rfl⟩ hdc_X6_seen ⟨Nat.le_of_ble_eq_true rfl, Nat.le_of_ble_eq_true rfl⟩ ⟨Nat.le_of_ble_eq_true rfl, Nat.le_of_ble_eq_true rfl⟩ Nat.one_pos rfl rfl (As := [.int (xs (nI i + 1).toNatClampNeg), .int (xs (nI i + nI 2).toNatClampNeg)]) rfl rfl (Nat.le_of_ble_eq_true rfl) dL_law_368 (fun z2 m2 h => ?_)
  exact v_icmp_eq (pc := 371) X (f1 := Inv (N + 50) m2) (f2 := False) ⟨fun _ => h.2, fun q => absurd h.1 q⟩ dL_law_371 rfl (fun q => nx _ q) (fun q => q.elim)
set_option maxRecDepth 100000 in
set_option maxHeartbeats 4000000 in
theorem lw_c8 {p : Program} {l : Launch} {e : Env} {s : State} {m : MethodId} {args : Array Value} {below : List Frame} {meth : Method} {c : Code} {Q : State → Prop} {g : GG} {A : Nat → Prop} {μ : Mem} {b L i N : Nat} {xs : Nat → Int32} (X : RC p s m args c cL_law 4 RL g A) (hX : va_X b L xs s s.heap) (hbl : b < s.heap.size) (hbA : ¬ A b) (hi : i + 6 ≤ L) (hL : L ≤ 3072) (hN : N + 300 < 100000) (hInv : Inv N μ) (nx : ∀ μ1, Inv (N + 50) μ1 → V p l e room_1 s m args below meth c 4 g A 600000 7302250 Q μ1 610 [(0, .ref b), (1, .ref (g.1 5 0)), (2, .ref (g.1 6 0)), (3, .int (nI i))] []) : V p l e room_1 s m args below meth c 4 g A 600000 7302250 Q μ 376 [(0, .ref b), (1, .ref (g.1 5 0)), (2, .ref (g.1 6 0)), (3, .int (nI i))] [] := by
  refine v_aload_n (pc := 376) X rfl 1 rfl dL_law_376 ?_
  refine v_aload_n (pc := 377) X rfl 0 rfl dL_law_377 ?_
  refine v_iload_n (pc := 378) X rfl 3 rfl dL_law_378 ?_
  refine v_iconst (pc := 379) X cst_i_1 dL_law_379 ?_
  refine v_iadd (pc := 380) X dL_law_380 ?_
  refine v_sld (pc := 381) X hX hbl hbA (vin_s 1 (by decide) hi hL) dL_law_381 ?_
  refine v_aload_n (pc := 382) X rfl 0 rfl dL_law_382 ?_
  refine v_iload_n (pc := 383) X rfl 3 rfl dL_law_383 ?_
  refine v_iconst (pc := 384) X cst_i_2 dL_law_384 ?_
  refine v_iadd (pc := 385) X dL_law_385 ?_
  refine v_sld (pc := 386) X hX hbl hbA (vin_s 2 (by decide) hi hL) dL_law_386 ?_
  refine v_aload_n (pc := 387) X rfl 0 rfl dL_law_387 ?_
  refine v_iload_n (pc := 388) X rfl 3 rfl dL_law_388 ?_
  refine v_iconst (pc := 389) X cst_i_3 dL_law_389 ?_
  refine v_iadd (pc := 390) X dL_law_390 ?_
  refine v_sld (pc := 391) X hX hbl hbA (vin_s 3 (by decide) hi hL) dL_law_391 ?_
  refine v_aload_n (pc := 392) X rfl 0 rfl dL_law_392 ?_
  refine v_iload_n (pc := 393) X rfl 3 rfl dL_law_393 ?_
  refine v_iconst (pc := 394) X cst_i_4 dL_law_394 ?_
  refine v_iadd (pc := 395) X dL_law_395 ?_
  refine v_sld (pc := 396) X hX hbl hbA (vin_s 4 (by decide) hi hL) dL_law_396 ?_
  refine v_aload_n (pc := 397) X rfl 0 rfl dL_law_397 ?_
  refine v_iload_n (pc := 398) X rfl 3 rfl dL_law_398 ?_
  refine v_iconst (pc := 399) X cst_i_5 dL_law_399 ?_
  refine v_iadd (pc := 400) X dL_law_400 ?_
  refine v_sld (pc := 401) X hX hbl hbA (vin_s 5 (by decide) hi hL) dL_law_401 ?_
  refine v_callVi (pc := 402) X (c_X5_trim l g X.2.2.2.2.2.2.1 _ _ _ _ _ _ _ (op_trim hInv _ _ _ _ _)) wd_488 wd_485 wd_486 wd_487 wd_2 ⟨rfl, rfl⟩ hdc_X5_trim ⟨Nat.le_of_ble_eq_true rfl, Nat.le_of_ble_eq_true rfl⟩ ⟨Nat.le_of_ble_eq_true rfl, Nat.le_of_ble_eq_true rfl⟩ Nat.one_pos rfl rfl (As := [.int (xs (nI i + 1).toNatClampNeg), .int (xs (nI i + nI 2).toNatClampNeg), .int (xs (nI i + nI 3).toNatClampNeg), .int (xs (nI i + nI 4).toNatClampNeg), .int (xs (nI i + nI 5).toNatClampNeg)]) rfl rfl (Nat.le_of_ble_eq_true rfl) dL_law_402 (fun z1 m1 h => ?_)
  refine v_aload_n (pc := 405) X rfl 2 rfl dL_law_405 ?_
  refine v_aload_n (pc := 406) X rfl 0 rfl dL_law_406 ?_
  refine v_iload_n (pc := 407) X rfl 3 rfl dL_law_407 ?_
  refine v_iconst (pc := 408) X cst_i_1 dL_law_408 ?_
  refine v_iadd (pc := 409) X dL_law_409 ?_
  refine v_sld (pc := 410) X hX hbl hbA (vin_s 1 (by decide) hi hL) dL_law_410 ?_
  refine v_aload_n (pc := 411) X rfl 0 rfl dL_law_411 ?_
  refine v_iload_n (pc := 412) X rfl 3 rfl dL_law_412 ?_
  refine v_iconst (pc := 413) X cst_i_2 dL_law_413 ?_
  refine v_iadd (pc := 414) X dL_law_414 ?_
  refine v_sld (pc := 415) X hX hbl hbA (vin_s 2 (by decide) hi hL) dL_law_415 ?_
  refine v_aload_n (pc := 416) X rfl 0 rfl dL_law_416 ?_
  refine v_iload_n (pc := 417) X rfl 3 rfl dL_law_417 ?_
  refine v_iconst (pc := 418) X cst_i_3 dL_law_418 ?_
  refine v_iadd (pc := 419) X dL_law_419 ?_
  refine v_sld (pc := 420) X hX hbl hbA (vin_s 3 (by decide) hi hL) dL_law_420 ?_
  refine v_aload_n (pc := 421) X rfl 0 rfl dL_law_421 ?_
  refine v_iload_n (pc := 422) X rfl 3 rfl dL_law_422 ?_
  refine v_iconst (pc := 423) X cst_i_4 dL_law_423 ?_
  refine v_iadd (pc := 424) X dL_law_424 ?_
  refine v_sld (pc := 425) X hX hbl hbA (vin_s 4 (by decide) hi hL) dL_law_425 ?_
  refine v_aload_n (pc := 426) X rfl 0 rfl dL_law_426 ?_
  refine v_iload_n (pc := 427) X rfl 3 rfl dL_law_427 ?_
  refine v_iconst (pc := 428) X cst_i_5 dL_law_428 ?_
  refine v_iadd (pc := 429) X dL_law_429 ?_
  refine v_sld (pc := 430) X hX hbl hbA (vin_s 5 (by decide) hi hL) dL_law_430 ?_
  refine v_callVi (pc := 431) X (c_X6_trim l g X.2.2.2.2.2.2.1 _ _ _ _ _ _ _ h) wd_499 wd_496 wd_497 wd_498 wd_5 ⟨rfl, rfl⟩ hdc_X6_trim ⟨Nat.le_of_ble_eq_true rfl, Nat.le_of_ble_eq_true rfl⟩ ⟨Nat.le_of_ble_eq_true rfl, Nat.le_of_ble_eq_true rfl⟩ Nat.one_pos rfl rfl (As := [.int (xs (nI i + 1).toNatClampNeg), .int (xs (nI i + nI 2).toNatClampNeg), .int (xs (nI i + nI 3).toNatClampNeg), .int (xs (nI i + nI 4).toNatClampNeg), .int (xs (nI i + nI 5).toNatClampNeg)]) rfl rfl (Nat.le_of_ble_eq_true rfl) dL_law_431 (fun z2 m2 h => ?_)
  exact v_icmp_eq (pc := 434) X (f1 := Inv (N + 50) m2) (f2 := False) ⟨fun _ => h.2, fun q => absurd h.1 q⟩ dL_law_434 rfl (fun q => nx _ q) (fun q => q.elim)
set_option maxRecDepth 100000 in
set_option maxHeartbeats 4000000 in
theorem lw_c9 {p : Program} {l : Launch} {e : Env} {s : State} {m : MethodId} {args : Array Value} {below : List Frame} {meth : Method} {c : Code} {Q : State → Prop} {g : GG} {A : Nat → Prop} {μ : Mem} {b L i N : Nat} {xs : Nat → Int32} (X : RC p s m args c cL_law 4 RL g A) (hX : va_X b L xs s s.heap) (hbl : b < s.heap.size) (hbA : ¬ A b) (hi : i + 6 ≤ L) (hL : L ≤ 3072) (hN : N + 300 < 100000) (hInv : Inv N μ) (nx : ∀ μ1, Inv (N + 50) μ1 → V p l e room_1 s m args below meth c 4 g A 600000 7302250 Q μ1 610 [(0, .ref b), (1, .ref (g.1 5 0)), (2, .ref (g.1 6 0)), (3, .int (nI i))] []) : V p l e room_1 s m args below meth c 4 g A 600000 7302250 Q μ 439 [(0, .ref b), (1, .ref (g.1 5 0)), (2, .ref (g.1 6 0)), (3, .int (nI i))] [] := by
  refine v_aload_n (pc := 439) X rfl 1 rfl dL_law_439 ?_
  refine v_aload_n (pc := 440) X rfl 0 rfl dL_law_440 ?_
  refine v_iload_n (pc := 441) X rfl 3 rfl dL_law_441 ?_
  refine v_iconst (pc := 442) X cst_i_1 dL_law_442 ?_
  refine v_iadd (pc := 443) X dL_law_443 ?_
  refine v_sld (pc := 444) X hX hbl hbA (vin_s 1 (by decide) hi hL) dL_law_444 ?_
  refine v_aload_n (pc := 445) X rfl 0 rfl dL_law_445 ?_
  refine v_iload_n (pc := 446) X rfl 3 rfl dL_law_446 ?_
  refine v_iconst (pc := 447) X cst_i_2 dL_law_447 ?_
  refine v_iadd (pc := 448) X dL_law_448 ?_
  refine v_sld (pc := 449) X hX hbl hbA (vin_s 2 (by decide) hi hL) dL_law_449 ?_
  refine v_callVi (pc := 450) X (c_X5_event l g X.2.2.2.2.2.2.1 _ _ _ _ (op_event hInv _ _)) wd_506 wd_503 wd_504 wd_505 wd_2 ⟨rfl, rfl⟩ hdc_X5_event ⟨Nat.le_of_ble_eq_true rfl, Nat.le_of_ble_eq_true rfl⟩ ⟨Nat.le_of_ble_eq_true rfl, Nat.le_of_ble_eq_true rfl⟩ Nat.one_pos rfl rfl (As := [.int (xs (nI i + 1).toNatClampNeg), .int (xs (nI i + nI 2).toNatClampNeg)]) rfl rfl (Nat.le_of_ble_eq_true rfl) dL_law_450 (fun z1 m1 h => ?_)
  refine v_aload_n (pc := 453) X rfl 2 rfl dL_law_453 ?_
  refine v_aload_n (pc := 454) X rfl 0 rfl dL_law_454 ?_
  refine v_iload_n (pc := 455) X rfl 3 rfl dL_law_455 ?_
  refine v_iconst (pc := 456) X cst_i_1 dL_law_456 ?_
  refine v_iadd (pc := 457) X dL_law_457 ?_
  refine v_sld (pc := 458) X hX hbl hbA (vin_s 1 (by decide) hi hL) dL_law_458 ?_
  refine v_aload_n (pc := 459) X rfl 0 rfl dL_law_459 ?_
  refine v_iload_n (pc := 460) X rfl 3 rfl dL_law_460 ?_
  refine v_iconst (pc := 461) X cst_i_2 dL_law_461 ?_
  refine v_iadd (pc := 462) X dL_law_462 ?_
  refine v_sld (pc := 463) X hX hbl hbA (vin_s 2 (by decide) hi hL) dL_law_463 ?_
  refine v_callVi (pc := 464) X (c_X6_event l g X.2.2.2.2.2.2.1 _ _ _ _ h) wd_519 wd_516 wd_517 wd_518 wd_5 ⟨rfl, rfl⟩ hdc_X6_event ⟨Nat.le_of_ble_eq_true rfl, Nat.le_of_ble_eq_true rfl⟩ ⟨Nat.le_of_ble_eq_true rfl, Nat.le_of_ble_eq_true rfl⟩ Nat.one_pos rfl rfl (As := [.int (xs (nI i + 1).toNatClampNeg), .int (xs (nI i + nI 2).toNatClampNeg)]) rfl rfl (Nat.le_of_ble_eq_true rfl) dL_law_464 (fun z2 m2 h => ?_)
  exact v_icmp_eq (pc := 467) X (f1 := Inv (N + 50) m2) (f2 := False) ⟨fun _ => h.2, fun q => absurd h.1 q⟩ dL_law_467 rfl (fun q => nx _ q) (fun q => q.elim)
set_option maxRecDepth 100000 in
set_option maxHeartbeats 4000000 in
theorem lw_c10 {p : Program} {l : Launch} {e : Env} {s : State} {m : MethodId} {args : Array Value} {below : List Frame} {meth : Method} {c : Code} {Q : State → Prop} {g : GG} {A : Nat → Prop} {μ : Mem} {b L i N : Nat} {xs : Nat → Int32} (X : RC p s m args c cL_law 4 RL g A) (hX : va_X b L xs s s.heap) (hbl : b < s.heap.size) (hbA : ¬ A b) (hi : i + 6 ≤ L) (hL : L ≤ 3072) (hN : N + 300 < 100000) (hInv : Inv N μ) (nx : ∀ μ1, Inv (N + 50) μ1 → V p l e room_1 s m args below meth c 4 g A 600000 7302250 Q μ1 610 [(0, .ref b), (1, .ref (g.1 5 0)), (2, .ref (g.1 6 0)), (3, .int (nI i))] []) : V p l e room_1 s m args below meth c 4 g A 600000 7302250 Q μ 472 [(0, .ref b), (1, .ref (g.1 5 0)), (2, .ref (g.1 6 0)), (3, .int (nI i))] [] := by
  refine v_aload_n (pc := 472) X rfl 1 rfl dL_law_472 ?_
  refine v_callVi (pc := 473) X (c_X5_spread l g X.2.2.2.2.2.2.1 _  _ (op_spread hInv)) wd_523 wd_520 wd_521 wd_522 wd_2 ⟨rfl, rfl⟩ hdc_X5_spread ⟨Nat.le_of_ble_eq_true rfl, Nat.le_of_ble_eq_true rfl⟩ ⟨Nat.le_of_ble_eq_true rfl, Nat.le_of_ble_eq_true rfl⟩ Nat.one_pos rfl rfl (As := []) rfl rfl (Nat.le_of_ble_eq_true rfl) dL_law_473 (fun z1 m1 h => ?_)
  refine v_aload_n (pc := 476) X rfl 2 rfl dL_law_476 ?_
  refine v_callVi (pc := 477) X (c_X6_spread l g X.2.2.2.2.2.2.1 _  _ h) wd_533 wd_530 wd_531 wd_532 wd_5 ⟨rfl, rfl⟩ hdc_X6_spread ⟨Nat.le_of_ble_eq_true rfl, Nat.le_of_ble_eq_true rfl⟩ ⟨Nat.le_of_ble_eq_true rfl, Nat.le_of_ble_eq_true rfl⟩ Nat.one_pos rfl rfl (As := []) rfl rfl (Nat.le_of_ble_eq_true rfl) dL_law_477 (fun z2 m2 h => ?_)
  exact v_icmp_eq (pc := 480) X (f1 := Inv (N + 50) m2) (f2 := False) ⟨fun _ => h.2, fun q => absurd h.1 q⟩ dL_law_480 rfl (fun q => nx _ q) (fun q => q.elim)
set_option maxRecDepth 100000 in
set_option maxHeartbeats 4000000 in
theorem lw_c11 {p : Program} {l : Launch} {e : Env} {s : State} {m : MethodId} {args : Array Value} {below : List Frame} {meth : Method} {c : Code} {Q : State → Prop} {g : GG} {A : Nat → Prop} {μ : Mem} {b L i N : Nat} {xs : Nat → Int32} (X : RC p s m args c cL_law 4 RL g A) (hX : va_X b L xs s s.heap) (hbl : b < s.heap.size) (hbA : ¬ A b) (hi : i + 6 ≤ L) (hL : L ≤ 3072) (hN : N + 300 < 100000) (hInv : Inv N μ) (nx : ∀ μ1, Inv (N + 50) μ1 → V p l e room_1 s m args below meth c 4 g A 600000 7302250 Q μ1 610 [(0, .ref b), (1, .ref (g.1 5 0)), (2, .ref (g.1 6 0)), (3, .int (nI i))] []) : V p l e room_1 s m args below meth c 4 g A 600000 7302250 Q μ 485 [(0, .ref b), (1, .ref (g.1 5 0)), (2, .ref (g.1 6 0)), (3, .int (nI i))] [] := by
  refine v_aload_n (pc := 485) X rfl 1 rfl dL_law_485 ?_
  refine v_callVi (pc := 486) X (c_X5_soon l g X.2.2.2.2.2.2.1 _  _ (op_soon hInv hN)) wd_541 wd_538 wd_539 wd_540 wd_2 ⟨rfl, rfl⟩ hdc_X5_soon ⟨Nat.le_of_ble_eq_true rfl, Nat.le_of_ble_eq_true rfl⟩ ⟨Nat.le_of_ble_eq_true rfl, Nat.le_of_ble_eq_true rfl⟩ Nat.one_pos rfl rfl (As := []) rfl rfl (Nat.le_of_ble_eq_true rfl) dL_law_486 (fun z1 m1 h => ?_)
  refine v_aload_n (pc := 489) X rfl 2 rfl dL_law_489 ?_
  refine v_callVi (pc := 490) X (c_X6_soon l g X.2.2.2.2.2.2.1 _  _ h) wd_564 wd_561 wd_562 wd_563 wd_5 ⟨rfl, rfl⟩ hdc_X6_soon ⟨Nat.le_of_ble_eq_true rfl, Nat.le_of_ble_eq_true rfl⟩ ⟨Nat.le_of_ble_eq_true rfl, Nat.le_of_ble_eq_true rfl⟩ Nat.one_pos rfl rfl (As := []) rfl rfl (Nat.le_of_ble_eq_true rfl) dL_law_490 (fun z2 m2 h => ?_)
  exact v_icmp_eq (pc := 493) X (f1 := Inv (N + 50) m2) (f2 := False) ⟨fun _ => h.2, fun q => absurd h.1 q⟩ dL_law_493 rfl (fun q => nx _ q) (fun q => q.elim)
set_option maxRecDepth 100000 in
set_option maxHeartbeats 4000000 in
theorem lw_c12 {p : Program} {l : Launch} {e : Env} {s : State} {m : MethodId} {args : Array Value} {below : List Frame} {meth : Method} {c : Code} {Q : State → Prop} {g : GG} {A : Nat → Prop} {μ : Mem} {b L i N : Nat} {xs : Nat → Int32} (X : RC p s m args c cL_law 4 RL g A) (hX : va_X b L xs s s.heap) (hbl : b < s.heap.size) (hbA : ¬ A b) (hi : i + 6 ≤ L) (hL : L ≤ 3072) (hN : N + 300 < 100000) (hInv : Inv N μ) (nx : ∀ μ1, Inv (N + 50) μ1 → V p l e room_1 s m args below meth c 4 g A 600000 7302250 Q μ1 610 [(0, .ref b), (1, .ref (g.1 5 0)), (2, .ref (g.1 6 0)), (3, .int (nI i))] []) : V p l e room_1 s m args below meth c 4 g A 600000 7302250 Q μ 498 [(0, .ref b), (1, .ref (g.1 5 0)), (2, .ref (g.1 6 0)), (3, .int (nI i))] [] := by
  refine v_aload_n (pc := 498) X rfl 1 rfl dL_law_498 ?_
  refine v_aload_n (pc := 499) X rfl 0 rfl dL_law_499 ?_
  refine v_iload_n (pc := 500) X rfl 3 rfl dL_law_500 ?_
  refine v_iconst (pc := 501) X cst_i_1 dL_law_501 ?_
  refine v_iadd (pc := 502) X dL_law_502 ?_
  refine v_sld (pc := 503) X hX hbl hbA (vin_s 1 (by decide) hi hL) dL_law_503 ?_
  refine v_aload_n (pc := 504) X rfl 0 rfl dL_law_504 ?_
  refine v_iload_n (pc := 505) X rfl 3 rfl dL_law_505 ?_
  refine v_iconst (pc := 506) X cst_i_2 dL_law_506 ?_
  refine v_iadd (pc := 507) X dL_law_507 ?_
  refine v_sld (pc := 508) X hX hbl hbA (vin_s 2 (by decide) hi hL) dL_law_508 ?_
  refine v_aload_n (pc := 509) X rfl 0 rfl dL_law_509 ?_
  refine v_iload_n (pc := 510) X rfl 3 rfl dL_law_510 ?_
  refine v_iconst (pc := 511) X cst_i_3 dL_law_511 ?_
  refine v_iadd (pc := 512) X dL_law_512 ?_
  refine v_sld (pc := 513) X hX hbl hbA (vin_s 3 (by decide) hi hL) dL_law_513 ?_
  refine v_callVi (pc := 514) X (c_X5_bears l g X.2.2.2.2.2.2.1 _ _ _ _ _ (op_bears hInv hN _ _ _)) wd_580 wd_577 wd_578 wd_579 wd_2 ⟨rfl, rfl⟩ hdc_X5_bears ⟨Nat.le_of_ble_eq_true rfl, Nat.le_of_ble_eq_true rfl⟩ ⟨Nat.le_of_ble_eq_true rfl, Nat.le_of_ble_eq_true rfl⟩ Nat.one_pos rfl rfl (As := [.int (xs (nI i + 1).toNatClampNeg), .int (xs (nI i + nI 2).toNatClampNeg), .int (xs (nI i + nI 3).toNatClampNeg)]) rfl rfl (Nat.le_of_ble_eq_true rfl) dL_law_514 (fun z1 m1 h => ?_)
  refine v_aload_n (pc := 517) X rfl 2 rfl dL_law_517 ?_
  refine v_aload_n (pc := 518) X rfl 0 rfl dL_law_518 ?_
  refine v_iload_n (pc := 519) X rfl 3 rfl dL_law_519 ?_
  refine v_iconst (pc := 520) X cst_i_1 dL_law_520 ?_
  refine v_iadd (pc := 521) X dL_law_521 ?_
  refine v_sld (pc := 522) X hX hbl hbA (vin_s 1 (by decide) hi hL) dL_law_522 ?_
  refine v_aload_n (pc := 523) X rfl 0 rfl dL_law_523 ?_
  refine v_iload_n (pc := 524) X rfl 3 rfl dL_law_524 ?_
  refine v_iconst (pc := 525) X cst_i_2 dL_law_525 ?_
  refine v_iadd (pc := 526) X dL_law_526 ?_
  refine v_sld (pc := 527) X hX hbl hbA (vin_s 2 (by decide) hi hL) dL_law_527 ?_
  refine v_aload_n (pc := 528) X rfl 0 rfl dL_law_528 ?_
  refine v_iload_n (pc := 529) X rfl 3 rfl dL_law_529 ?_
  refine v_iconst (pc := 530) X cst_i_3 dL_law_530 ?_
  refine v_iadd (pc := 531) X dL_law_531 ?_
  refine v_sld (pc := 532) X hX hbl hbA (vin_s 3 (by decide) hi hL) dL_law_532 ?_
  refine v_callVi (pc := 533) X (c_X6_bears l g X.2.2.2.2.2.2.1 _ _ _ _ _ h) wd_589 wd_586 wd_587 wd_588 wd_5 ⟨rfl, rfl⟩ hdc_X6_bears ⟨Nat.le_of_ble_eq_true rfl, Nat.le_of_ble_eq_true rfl⟩ ⟨Nat.le_of_ble_eq_true rfl, Nat.le_of_ble_eq_true rfl⟩ Nat.one_pos rfl rfl (As := [.int (xs (nI i + 1).toNatClampNeg), .int (xs (nI i + nI 2).toNatClampNeg), .int (xs (nI i + nI 3).toNatClampNeg)]) rfl rfl (Nat.le_of_ble_eq_true rfl) dL_law_533 (fun z2 m2 h => ?_)
  exact v_icmp_eq (pc := 536) X (f1 := Inv (N + 50) m2) (f2 := False) ⟨fun _ => h.2, fun q => absurd h.1 q⟩ dL_law_536 rfl (fun q => nx _ q) (fun q => q.elim)
set_option maxRecDepth 100000 in
set_option maxHeartbeats 4000000 in
theorem lw_c13 {p : Program} {l : Launch} {e : Env} {s : State} {m : MethodId} {args : Array Value} {below : List Frame} {meth : Method} {c : Code} {Q : State → Prop} {g : GG} {A : Nat → Prop} {μ : Mem} {b L i N : Nat} {xs : Nat → Int32} (X : RC p s m args c cL_law 4 RL g A) (hX : va_X b L xs s s.heap) (hbl : b < s.heap.size) (hbA : ¬ A b) (hi : i + 6 ≤ L) (hL : L ≤ 3072) (hN : N + 300 < 100000) (hInv : Inv N μ) (nx : ∀ μ1, Inv (N + 50) μ1 → V p l e room_1 s m args below meth c 4 g A 600000 7302250 Q μ1 610 [(0, .ref b), (1, .ref (g.1 5 0)), (2, .ref (g.1 6 0)), (3, .int (nI i))] []) : V p l e room_1 s m args below meth c 4 g A 600000 7302250 Q μ 541 [(0, .ref b), (1, .ref (g.1 5 0)), (2, .ref (g.1 6 0)), (3, .int (nI i))] [] := by
  refine v_aload_n (pc := 541) X rfl 1 rfl dL_law_541 ?_
  refine v_aload_n (pc := 542) X rfl 0 rfl dL_law_542 ?_
  refine v_iload_n (pc := 543) X rfl 3 rfl dL_law_543 ?_
  refine v_iconst (pc := 544) X cst_i_1 dL_law_544 ?_
  refine v_iadd (pc := 545) X dL_law_545 ?_
  refine v_sld (pc := 546) X hX hbl hbA (vin_s 1 (by decide) hi hL) dL_law_546 ?_
  refine v_callVi (pc := 547) X (c_X5_image l g X.2.2.2.2.2.2.1 _ _ _ (op_image hInv _)) wd_597 wd_594 wd_595 wd_596 wd_2 ⟨rfl, rfl⟩ hdc_X5_image ⟨Nat.le_of_ble_eq_true rfl, Nat.le_of_ble_eq_true rfl⟩ ⟨Nat.le_of_ble_eq_true rfl, Nat.le_of_ble_eq_true rfl⟩ Nat.one_pos rfl rfl (As := [.int (xs (nI i + 1).toNatClampNeg)]) rfl rfl (Nat.le_of_ble_eq_true rfl) dL_law_547 (fun z1 m1 h => ?_)
  refine v_aload_n (pc := 550) X rfl 2 rfl dL_law_550 ?_
  refine v_aload_n (pc := 551) X rfl 0 rfl dL_law_551 ?_
  refine v_iload_n (pc := 552) X rfl 3 rfl dL_law_552 ?_
  refine v_iconst (pc := 553) X cst_i_1 dL_law_553 ?_
  refine v_iadd (pc := 554) X dL_law_554 ?_
  refine v_sld (pc := 555) X hX hbl hbA (vin_s 1 (by decide) hi hL) dL_law_555 ?_
  refine v_callVi (pc := 556) X (c_X6_image l g X.2.2.2.2.2.2.1 _ _ _ h) wd_601 wd_598 wd_599 wd_600 wd_5 ⟨rfl, rfl⟩ hdc_X6_image ⟨Nat.le_of_ble_eq_true rfl, Nat.le_of_ble_eq_true rfl⟩ ⟨Nat.le_of_ble_eq_true rfl, Nat.le_of_ble_eq_true rfl⟩ Nat.one_pos rfl rfl (As := [.int (xs (nI i + 1).toNatClampNeg)]) rfl rfl (Nat.le_of_ble_eq_true rfl) dL_law_556 (fun z2 m2 h => ?_)
  exact v_icmp_eq (pc := 559) X (f1 := Inv (N + 50) m2) (f2 := False) ⟨fun _ => h.2, fun q => absurd h.1 q⟩ dL_law_559 rfl (fun q => nx _ q) (fun q => q.elim)
set_option maxRecDepth 100000 in
set_option maxHeartbeats 4000000 in
theorem lw_c14 {p : Program} {l : Launch} {e : Env} {s : State} {m : MethodId} {args : Array Value} {below : List Frame} {meth : Method} {c : Code} {Q : State → Prop} {g : GG} {A : Nat → Prop} {μ : Mem} {b L i N : Nat} {xs : Nat → Int32} (X : RC p s m args c cL_law 4 RL g A) (hX : va_X b L xs s s.heap) (hbl : b < s.heap.size) (hbA : ¬ A b) (hi : i + 6 ≤ L) (hL : L ≤ 3072) (hN : N + 300 < 100000) (hInv : Inv N μ) (nx : ∀ μ1, Inv (N + 50) μ1 → V p l e room_1 s m args below meth c 4 g A 600000 7302250 Q μ1 610 [(0, .ref b), (1, .ref (g.1 5 0)), (2, .ref (g.1 6 0)), (3, .int (nI i))] []) : V p l e room_1 s m args below meth c 4 g A 600000 7302250 Q μ 564 [(0, .ref b), (1, .ref (g.1 5 0)), (2, .ref (g.1 6 0)), (3, .int (nI i))] [] := by
  refine v_aload_n (pc := 564) X rfl 1 rfl dL_law_564 ?_
  refine v_aload_n (pc := 565) X rfl 0 rfl dL_law_565 ?_
  refine v_iload_n (pc := 566) X rfl 3 rfl dL_law_566 ?_
  refine v_iconst (pc := 567) X cst_i_1 dL_law_567 ?_
  refine v_iadd (pc := 568) X dL_law_568 ?_
  refine v_sld (pc := 569) X hX hbl hbA (vin_s 1 (by decide) hi hL) dL_law_569 ?_
  refine v_callVi (pc := 570) X (c_X5_restore l g X.2.2.2.2.2.2.1 _ _ _ (op_restore hInv _)) wd_605 wd_602 wd_603 wd_604 wd_2 ⟨rfl, rfl⟩ hdc_X5_restore ⟨Nat.le_of_ble_eq_true rfl, Nat.le_of_ble_eq_true rfl⟩ ⟨Nat.le_of_ble_eq_true rfl, Nat.le_of_ble_eq_true rfl⟩ Nat.one_pos rfl rfl (As := [.int (xs (nI i + 1).toNatClampNeg)]) rfl rfl (Nat.le_of_ble_eq_true rfl) dL_law_570 (fun z1 m1 h => ?_)
  refine v_aload_n (pc := 573) X rfl 2 rfl dL_law_573 ?_
  refine v_aload_n (pc := 574) X rfl 0 rfl dL_law_574 ?_
  refine v_iload_n (pc := 575) X rfl 3 rfl dL_law_575 ?_
  refine v_iconst (pc := 576) X cst_i_1 dL_law_576 ?_
  refine v_iadd (pc := 577) X dL_law_577 ?_
  refine v_sld (pc := 578) X hX hbl hbA (vin_s 1 (by decide) hi hL) dL_law_578 ?_
  refine v_callVi (pc := 579) X (c_X6_restore l g X.2.2.2.2.2.2.1 _ _ _ h) wd_609 wd_606 wd_607 wd_608 wd_5 ⟨rfl, rfl⟩ hdc_X6_restore ⟨Nat.le_of_ble_eq_true rfl, Nat.le_of_ble_eq_true rfl⟩ ⟨Nat.le_of_ble_eq_true rfl, Nat.le_of_ble_eq_true rfl⟩ Nat.one_pos rfl rfl (As := [.int (xs (nI i + 1).toNatClampNeg)]) rfl rfl (Nat.le_of_ble_eq_true rfl) dL_law_579 (fun z2 m2 h => ?_)
  exact v_icmp_eq (pc := 582) X (f1 := Inv (N + 50) m2) (f2 := False) ⟨fun _ => h.2, fun q => absurd h.1 q⟩ dL_law_582 rfl (fun q => nx _ q) (fun q => q.elim)
set_option maxRecDepth 100000 in
set_option maxHeartbeats 4000000 in
theorem lw_c15 {p : Program} {l : Launch} {e : Env} {s : State} {m : MethodId} {args : Array Value} {below : List Frame} {meth : Method} {c : Code} {Q : State → Prop} {g : GG} {A : Nat → Prop} {μ : Mem} {b L i N : Nat} {xs : Nat → Int32} (X : RC p s m args c cL_law 4 RL g A) (hX : va_X b L xs s s.heap) (hbl : b < s.heap.size) (hbA : ¬ A b) (hi : i + 6 ≤ L) (hL : L ≤ 3072) (hN : N + 300 < 100000) (hInv : Inv N μ) (nx : ∀ μ1, Inv (N + 50) μ1 → V p l e room_1 s m args below meth c 4 g A 600000 7302250 Q μ1 610 [(0, .ref b), (1, .ref (g.1 5 0)), (2, .ref (g.1 6 0)), (3, .int (nI i))] []) : V p l e room_1 s m args below meth c 4 g A 600000 7302250 Q μ 587 [(0, .ref b), (1, .ref (g.1 5 0)), (2, .ref (g.1 6 0)), (3, .int (nI i))] [] := by
  refine v_aload_n (pc := 587) X rfl 1 rfl dL_law_587 ?_
  refine v_aload_n (pc := 588) X rfl 0 rfl dL_law_588 ?_
  refine v_iload_n (pc := 589) X rfl 3 rfl dL_law_589 ?_
  refine v_iconst (pc := 590) X cst_i_1 dL_law_590 ?_
  refine v_iadd (pc := 591) X dL_law_591 ?_
  refine v_sld (pc := 592) X hX hbl hbA (vin_s 1 (by decide) hi hL) dL_law_592 ?_
  refine v_callVi (pc := 593) X (c_X5_count l g X.2.2.2.2.2.2.1 _ _ _ (op_count hInv _)) wd_613 wd_610 wd_611 wd_612 wd_2 ⟨rfl, rfl⟩ hdc_X5_count ⟨Nat.le_of_ble_eq_true rfl, Nat.le_of_ble_eq_true rfl⟩ ⟨Nat.le_of_ble_eq_true rfl, Nat.le_of_ble_eq_true rfl⟩ Nat.one_pos rfl rfl (As := [.int (xs (nI i + 1).toNatClampNeg)]) rfl rfl (Nat.le_of_ble_eq_true rfl) dL_law_593 (fun z1 m1 h => ?_)
  refine v_aload_n (pc := 596) X rfl 2 rfl dL_law_596 ?_
  refine v_aload_n (pc := 597) X rfl 0 rfl dL_law_597 ?_
  refine v_iload_n (pc := 598) X rfl 3 rfl dL_law_598 ?_
  refine v_iconst (pc := 599) X cst_i_1 dL_law_599 ?_
  refine v_iadd (pc := 600) X dL_law_600 ?_
  refine v_sld (pc := 601) X hX hbl hbA (vin_s 1 (by decide) hi hL) dL_law_601 ?_
  refine v_callVi (pc := 602) X (c_X6_count l g X.2.2.2.2.2.2.1 _ _ _ h) wd_619 wd_616 wd_617 wd_618 wd_5 ⟨rfl, rfl⟩ hdc_X6_count ⟨Nat.le_of_ble_eq_true rfl, Nat.le_of_ble_eq_true rfl⟩ ⟨Nat.le_of_ble_eq_true rfl, Nat.le_of_ble_eq_true rfl⟩ Nat.one_pos rfl rfl (As := [.int (xs (nI i + 1).toNatClampNeg)]) rfl rfl (Nat.le_of_ble_eq_true rfl) dL_law_602 (fun z2 m2 h => ?_)
  exact v_icmp_eq (pc := 605) X (f1 := Inv (N + 50) m2) (f2 := False) ⟨fun _ => h.2, fun q => absurd h.1 q⟩ dL_law_605 rfl (fun q => nx _ q) (fun q => q.elim)
theorem lw_exit {i L : Nat} (hi : i < 100000) (hL : L ≤ 3072) : (nI L - nI 6 < nI i) ↔ L < i + 6 := by
  rw [Int32.lt_iff_toInt_lt, pk_sub_toInt (by omega) (by omega), nI_toInt (by omega)]
  omega
set_option maxRecDepth 100000 in
set_option maxHeartbeats 4000000 in
theorem lw_loop {p : Program} {l : Launch} {e : Env} {s : State} {m : MethodId} {args : Array Value} {below : List Frame} {meth : Method} {c : Code} {Q : State → Prop} {g : GG} {A : Nat → Prop} {b L : Nat} {xs : Nat → Int32} (X : RC p s m args c cL_law 4 RL g A) (hX : va_X b L xs s s.heap) (hbl : b < s.heap.size) (hbA : ¬ A b) (hL : L ≤ 3072) (fin : ∀ (i : Nat) (μ : Mem), V p l e room_1 s m args below meth c 4 g A 600000 7302250 Q μ 616 [(0, .ref b), (1, .ref (g.1 5 0)), (2, .ref (g.1 6 0)), (3, .int (nI i))] []) : ∀ (d k : Nat) (i : Nat) (μ : Mem), i = 6 * k → L ≤ 6 * (k + d) + 5 → k ≤ 512 → Inv (50 * k) μ → V p l e room_1 s m args below meth c 4 g A 600000 7302250 Q μ 18 [(0, .ref b), (1, .ref (g.1 5 0)), (2, .ref (g.1 6 0)), (3, .int (nI i))] [] := by
  intro d
  induction d with
  | zero =>
    intro k i μ hi hd hk hInv
    refine v_iload_n (pc := 18) X rfl 3 rfl dL_law_18 ?_
    refine v_aload_n (pc := 19) X rfl 0 rfl dL_law_19 ?_
    refine v_slen (pc := 20) X hX hbl hbA dL_law_20 ?_
    refine v_bipush (pc := 21) X cst_b_6 dL_law_21 ?_
    refine v_isub (pc := 23) X dL_law_23 ?_
    exact v_icmp_gt (pc := 24) X (f1 := True) (f2 := False) ⟨fun _ => trivial, fun q => q ((lw_exit (by omega) hL).mpr (by omega))⟩ dL_law_24 rfl (fun _ => fin i μ) (fun q => q.elim)
  | succ d ih =>
    intro k i μ hi hd hk hInv
    refine v_iload_n (pc := 18) X rfl 3 rfl dL_law_18 ?_
    refine v_aload_n (pc := 19) X rfl 0 rfl dL_law_19 ?_
    refine v_slen (pc := 20) X hX hbl hbA dL_law_20 ?_
    refine v_bipush (pc := 21) X cst_b_6 dL_law_21 ?_
    refine v_isub (pc := 23) X dL_law_23 ?_
    refine v_icmp_gt (pc := 24) X (f1 := True) (f2 := i + 6 ≤ L) ⟨fun _ => trivial, fun q => Nat.not_lt.mp (fun z => q ((lw_exit (by omega) hL).mpr z))⟩ dL_law_24 rfl (fun _ => fin i μ) (fun hi6 => ?_)
    have nx : ∀ μ1, Inv (50 * k + 50) μ1 → V p l e room_1 s m args below meth c 4 g A 600000 7302250 Q μ1 610 [(0, .ref b), (1, .ref (g.1 5 0)), (2, .ref (g.1 6 0)), (3, .int (nI i))] [] := fun μ1 h1 => by
      refine v_iinc (pc := 610) X (j := 3) (y := nI (i + 6)) rfl (by rw [show Int32.ofInt 6 = nI 6 from rfl, nI_add]) (by decide) rfl dL_law_610 ?_
      refine v_goto (pc := 613) X dL_law_613 rfl ?_
      refine v_sub [1, 2, 3, 0] rfl ?_
      exact ih (k + 1) (i + 6) μ1 (by omega) (by omega) (by omega) h1
    refine v_aload_n (pc := 27) X rfl 0 rfl dL_law_27 ?_
    refine v_iload_n (pc := 28) X rfl 3 rfl dL_law_28 ?_
    refine v_sld (pc := 29) X hX hbl hbA (vin_0 hi6 hL) dL_law_29 ?_
    refine v_bipush (pc := 30) X cst_b_15 dL_law_30 ?_
    refine v_iand (pc := 32) X dL_law_32 ?_
    obtain ⟨j, hj, ej⟩ := pk_andE (xs (nI i).toNatClampNeg) (m := nI 15) 4 rfl
    rw [ej]
    have hN : 50 * k + 300 < 100000 := by omega
    refine v_tsw (pc := 33) X dL_law_33 (fun _ _ => ?_) (fun z => ?_)
    · rcases (show j = 0 ∨ j = 1 ∨ j = 2 ∨ j = 3 ∨ j = 4 ∨ j = 5 ∨ j = 6 ∨ j = 7 ∨ j = 8 ∨ j = 9 ∨ j = 10 ∨ j = 11 ∨ j = 12 ∨ j = 13 ∨ j = 14 ∨ j = 15 by omega) with rfl | rfl | rfl | rfl | rfl | rfl | rfl | rfl | rfl | rfl | rfl | rfl | rfl | rfl | rfl | rfl
      · exact ⟨79, 112, rfl, rfl, lw_c0 X hX hbl hbA hi6 hL hN hInv nx⟩
      · exact ⟨132, 165, rfl, rfl, lw_c1 X hX hbl hbA hi6 hL hN hInv nx⟩
      · exact ⟨175, 208, rfl, rfl, lw_c2 X hX hbl hbA hi6 hL hN hInv nx⟩
      · exact ⟨198, 231, rfl, rfl, lw_c3 X hX hbl hbA hi6 hL hN hInv nx⟩
      · exact ⟨231, 264, rfl, rfl, lw_c4 X hX hbl hbA hi6 hL hN hInv nx⟩
      · exact ⟨254, 287, rfl, rfl, lw_c5 X hX hbl hbA hi6 hL hN hInv nx⟩
      · exact ⟨277, 310, rfl, rfl, lw_c6 X hX hbl hbA hi6 hL hN hInv nx⟩
      · exact ⟨310, 343, rfl, rfl, lw_c7 X hX hbl hbA hi6 hL hN hInv nx⟩
      · exact ⟨343, 376, rfl, rfl, lw_c8 X hX hbl hbA hi6 hL hN hInv nx⟩
      · exact ⟨406, 439, rfl, rfl, lw_c9 X hX hbl hbA hi6 hL hN hInv nx⟩
      · exact ⟨439, 472, rfl, rfl, lw_c10 X hX hbl hbA hi6 hL hN hInv nx⟩
      · exact ⟨452, 485, rfl, rfl, lw_c11 X hX hbl hbA hi6 hL hN hInv nx⟩
      · exact ⟨465, 498, rfl, rfl, lw_c12 X hX hbl hbA hi6 hL hN hInv nx⟩
      · exact ⟨508, 541, rfl, rfl, lw_c13 X hX hbl hbA hi6 hL hN hInv nx⟩
      · exact ⟨531, 564, rfl, rfl, lw_c14 X hX hbl hbA hi6 hL hN hInv nx⟩
      · exact ⟨554, 587, rfl, rfl, lw_c15 X hX hbl hbA hi6 hL hN hInv nx⟩
    · rw [nI_toInt (by omega)] at z
      exact absurd z (by omega)
