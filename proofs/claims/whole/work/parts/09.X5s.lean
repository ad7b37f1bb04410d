theorem cst_b_16 : (Int8.ofInt 16).toInt32 = ((nI 16) : Int32) := by decide +kernel
theorem cst_b_63 : (Int8.ofInt 63).toInt32 = ((nI 63) : Int32) := by decide +kernel
theorem cst_b_8 : (Int8.ofInt 8).toInt32 = ((nI 8) : Int32) := by decide +kernel
theorem cst_i_0 : Int32.ofInt 0 = (0 : Int32) := by decide +kernel
theorem cst_i_1 : Int32.ofInt 1 = (1 : Int32) := by decide +kernel
theorem cst_i_2 : Int32.ofInt 2 = ((nI 2) : Int32) := by decide +kernel
theorem cst_i_4 : Int32.ofInt 4 = ((nI 4) : Int32) := by decide +kernel
theorem cst_i_5 : Int32.ofInt 5 = ((nI 5) : Int32) := by decide +kernel
theorem cst_i_m1 : Int32.ofInt (-1) = ((-1) : Int32) := by decide +kernel
theorem nst_0 : (.methodLinkNest RX0 57 yX5_bitOf RX5 : Cond) ∈ nestW := List.mem_of_getElem? (i := 0) rfl
theorem nst_1 : (.methodLinkNest RX0 65 yX5_isIn RX5 : Cond) ∈ nestW := List.mem_of_getElem? (i := 1) rfl
theorem nst_2 : (.methodLinkNest RX1 42 yX5_bitOf RX5 : Cond) ∈ nestW := List.mem_of_getElem? (i := 2) rfl
theorem nst_3 : (.methodLinkNest RX1 67 yX5_isIn RX5 : Cond) ∈ nestW := List.mem_of_getElem? (i := 3) rfl
theorem nst_4 : (.methodLinkNest RX4 19 yX5_isWithin RX5 : Cond) ∈ nestW := List.mem_of_getElem? (i := 4) rfl
theorem hdc_X5_isWithin : yX5_isWithin.cls ≠ "java/lang/invoke/MethodHandle" ∧ yX5_isWithin.cls ≠ "java/lang/invoke/VarHandle" ∧ (parseMethodDescriptor yX5_isWithin.desc).map (fun d => d.parameters.length) = some 3 := by decide +kernel
def wp_X5_isWithin (a0 : Int32) (a1 : Int32) (a2 : Int32) (μ : Mem) (q : Int32 → Mem → Prop) : Prop :=
((a0 < a1 →
q 0 μ) ∧ (¬ a0 < a1 →
((a2 < a0 →
q 0 μ) ∧ (¬ a2 < a0 →
q 1 μ))))
set_option maxRecDepth 100000 in
set_option maxHeartbeats 4000000 in
theorem c_X5_isWithin (l : Launch) (g : GG) (hI : Inj g) (μ : Mem) (a0 : Int32) (a1 : Int32) (a2 : Int32) (q : Int32 → Mem → Prop) (h : wp_X5_isWithin a0 a1 a2 μ q) : Met l yX5_isWithin (Cond.code yX5_isWithin cX5_isWithin 3 (some .boolean) :: wsL_law) ({ frames := 0, cells := 0, slots := 0, locals := 0 }) (KP g [.int a0, .int a1, .int a2] μ) (KQi g q) 0 0 (AA g) := by
  refine met_V (own := RX5) hI (by decide) rfl (Nat.le_of_ble_eq_true rfl) rfl (fun p e s m args below meth c X hr hlk => ?_)
  unfold wp_X5_isWithin at h
  refine v_iload_n (pc := 0) X rfl 0 rfl dX5_isWithin_0 ?_
  refine v_iload_n (pc := 1) X rfl 1 rfl dX5_isWithin_1 ?_
  refine v_icmp_lt (pc := 2) (tgt := 14) X h dX5_isWithin_2 (by decide) (fun h => ?_) (fun h => ?_)
  · refine v_iconst (pc := 14) X cst_i_0 dX5_isWithin_14 ?_
    exact v_zret (pc := 15) X hr hlk ⟨nz_0, h⟩ dX5_isWithin_15
  · refine v_iload_n (pc := 5) X rfl 0 rfl dX5_isWithin_5 ?_
    refine v_iload_n (pc := 6) X rfl 2 rfl dX5_isWithin_6 ?_
    refine v_icmp_gt (pc := 7) (tgt := 14) X h dX5_isWithin_7 (by decide) (fun h => ?_) (fun h => ?_)
    · refine v_iconst (pc := 14) X cst_i_0 dX5_isWithin_14 ?_
      exact v_zret (pc := 15) X hr hlk ⟨nz_0, h⟩ dX5_isWithin_15
    · refine v_iconst (pc := 10) X cst_i_1 dX5_isWithin_10 ?_
      refine v_goto (pc := 11) (tgt := 15) X dX5_isWithin_11 (by decide) ?_
      exact v_zret (pc := 15) X hr hlk ⟨nz_1, h⟩ dX5_isWithin_15

def wp_X5_isNode (a0 : Int32) (μ : Mem) (q : Int32 → Mem → Prop) : Prop :=
wp_X5_isWithin a0 0 (nI 5) μ (fun x_2 m_1 =>
nz x_2 ∧ q x_2 m_1)
set_option maxRecDepth 100000 in
set_option maxHeartbeats 4000000 in
theorem c_X5_isNode (l : Launch) (g : GG) (hI : Inj g) (μ : Mem) (a0 : Int32) (q : Int32 → Mem → Prop) (h : wp_X5_isNode a0 μ q) : Met l yX5_isNode (Cond.code yX5_isNode cX5_isNode 1 (some .boolean) :: wsL_law) ({ frames := 1, cells := 0, slots := 0, locals := 22 }) (KP g [.int a0] μ) (KQi g q) 0 0 (AA g) := by
  refine met_V (own := RX5) hI (by decide) rfl (Nat.le_of_ble_eq_true rfl) rfl (fun p e s m args below meth c X hr hlk => ?_)
  unfold wp_X5_isNode at h
  refine v_iload_n (pc := 0) X rfl 0 rfl dX5_isNode_0 ?_
  refine v_iconst (pc := 1) X cst_i_0 dX5_isNode_1 ?_
  refine v_iconst (pc := 2) X cst_i_5 dX5_isNode_2 ?_
  refine v_callSi (pc := 3) X (c_X5_isWithin l g hI _ _ _ _ _ h) wd_119 wd_117 wd_118 wd_2 ⟨rfl, rfl⟩ hdc_X5_isWithin ⟨Nat.le_of_ble_eq_true rfl, Nat.le_of_ble_eq_true rfl⟩ ⟨Nat.le_refl 0, Nat.le_refl 0⟩ (As := [.int a0, .int 0, .int (nI 5)]) rfl rfl (Nat.le_of_ble_eq_true rfl) dX5_isNode_3 (fun x_2 m_1 h => ?_)
  exact v_zret (pc := 6) X hr hlk h dX5_isNode_6

def wp_X5_bitOf (a0 : Int32) (μ : Mem) (q : Int32 → Mem → Prop) : Prop :=
q (1 <<< (a0 &&& 31)) μ
set_option maxRecDepth 100000 in
set_option maxHeartbeats 4000000 in
theorem c_X5_bitOf (l : Launch) (g : GG) (hI : Inj g) (μ : Mem) (a0 : Int32) (q : Int32 → Mem → Prop) (h : wp_X5_bitOf a0 μ q) : Met l yX5_bitOf (Cond.code yX5_bitOf cX5_bitOf 1 (some .int) :: wsL_law) ({ frames := 0, cells := 0, slots := 0, locals := 0 }) (KP g [.int a0] μ) (KQi g q) 0 0 (AA g) := by
  refine met_V (own := RX5) hI (by decide) rfl (Nat.le_of_ble_eq_true rfl) rfl (fun p e s m args below meth c X hr hlk => ?_)
  unfold wp_X5_bitOf at h
  refine v_iconst (pc := 0) X cst_i_1 dX5_bitOf_0 ?_
  refine v_iload_n (pc := 1) X rfl 0 rfl dX5_bitOf_1 ?_
  refine v_ishl (pc := 2) X dX5_bitOf_2 ?_
  exact v_iret (pc := 3) X hr hlk h dX5_bitOf_3

def wp_X5_isIn (a0 : Int32) (a1 : Int32) (μ : Mem) (q : Int32 → Mem → Prop) : Prop :=
((¬ ((a0 >>> (a1 &&& 31)) &&& 1) = 1 →
q 0 μ) ∧ (((a0 >>> (a1 &&& 31)) &&& 1) = 1 →
q 1 μ))
set_option maxRecDepth 100000 in
set_option maxHeartbeats 4000000 in
theorem c_X5_isIn (l : Launch) (g : GG) (hI : Inj g) (μ : Mem) (a0 : Int32) (a1 : Int32) (q : Int32 → Mem → Prop) (h : wp_X5_isIn a0 a1 μ q) : Met l yX5_isIn (Cond.code yX5_isIn cX5_isIn 2 (some .boolean) :: wsL_law) ({ frames := 0, cells := 0, slots := 0, locals := 0 }) (KP g [.int a0, .int a1] μ) (KQi g q) 0 0 (AA g) := by
  refine met_V (own := RX5) hI (by decide) rfl (Nat.le_of_ble_eq_true rfl) rfl (fun p e s m args below meth c X hr hlk => ?_)
  unfold wp_X5_isIn at h
  refine v_iload_n (pc := 0) X rfl 0 rfl dX5_isIn_0 ?_
  refine v_iload_n (pc := 1) X rfl 1 rfl dX5_isIn_1 ?_
  refine v_ishr (pc := 2) X dX5_isIn_2 ?_
  refine v_iconst (pc := 3) X cst_i_1 dX5_isIn_3 ?_
  refine v_iand (pc := 4) X dX5_isIn_4 ?_
  refine v_iconst (pc := 5) X cst_i_1 dX5_isIn_5 ?_
  refine v_icmp_ne (pc := 6) (tgt := 13) X h dX5_isIn_6 (by decide) (fun h => ?_) (fun h => ?_)
  · refine v_iconst (pc := 13) X cst_i_0 dX5_isIn_13 ?_
    exact v_zret (pc := 14) X hr hlk ⟨nz_0, h⟩ dX5_isIn_14
  · refine v_iconst (pc := 9) X cst_i_1 dX5_isIn_9 ?_
    refine v_goto (pc := 10) (tgt := 14) X dX5_isIn_10 (by decide) ?_
    exact v_zret (pc := 14) X hr hlk ⟨nz_1, h⟩ dX5_isIn_14

def wp_X5_areAllIn (a0 : Int32) (a1 : Int32) (μ : Mem) (q : Int32 → Mem → Prop) : Prop :=
((¬ (a0 &&& (a1 ^^^ (-1))) = 0 →
q 0 μ) ∧ ((a0 &&& (a1 ^^^ (-1))) = 0 →
q 1 μ))
set_option maxRecDepth 100000 in
set_option maxHeartbeats 4000000 in
theorem c_X5_areAllIn (l : Launch) (g : GG) (hI : Inj g) (μ : Mem) (a0 : Int32) (a1 : Int32) (q : Int32 → Mem → Prop) (h : wp_X5_areAllIn a0 a1 μ q) : Met l yX5_areAllIn (Cond.code yX5_areAllIn cX5_areAllIn 2 (some .boolean) :: wsL_law) ({ frames := 0, cells := 0, slots := 0, locals := 0 }) (KP g [.int a0, .int a1] μ) (KQi g q) 0 0 (AA g) := by
  refine met_V (own := RX5) hI (by decide) rfl (Nat.le_of_ble_eq_true rfl) rfl (fun p e s m args below meth c X hr hlk => ?_)
  unfold wp_X5_areAllIn at h
  refine v_iload_n (pc := 0) X rfl 0 rfl dX5_areAllIn_0 ?_
  refine v_iload_n (pc := 1) X rfl 1 rfl dX5_areAllIn_1 ?_
  refine v_iconst (pc := 2) X cst_i_m1 dX5_areAllIn_2 ?_
  refine v_ixor (pc := 3) X dX5_areAllIn_3 ?_
  refine v_iand (pc := 4) X dX5_areAllIn_4 ?_
  refine v_if_ne (pc := 5) (tgt := 12) X h dX5_areAllIn_5 (by decide) (fun h => ?_) (fun h => ?_)
  · refine v_iconst (pc := 12) X cst_i_0 dX5_areAllIn_12 ?_
    exact v_zret (pc := 13) X hr hlk ⟨nz_0, h⟩ dX5_areAllIn_13
  · refine v_iconst (pc := 8) X cst_i_1 dX5_areAllIn_8 ?_
    refine v_goto (pc := 9) (tgt := 13) X dX5_areAllIn_9 (by decide) ?_
    exact v_zret (pc := 13) X hr hlk ⟨nz_1, h⟩ dX5_areAllIn_13

def wp_J6_bitCount_0f7a4 (a0 : Int32) (μ : Mem) (q : Int32 → Mem → Prop) : Prop :=
∀ y_1 : Int32, y_1 = (a0 - ((((a0).toUInt32 >>> ((1).toUInt32 &&& Int32.toUInt32 31)).toInt32) &&& (1431655765))) →
∀ y_2 : Int32, y_2 = ((y_1 &&& (858993459)) + ((((y_1).toUInt32 >>> (((nI 2)).toUInt32 &&& Int32.toUInt32 31)).toInt32) &&& (858993459))) →
∀ y_3 : Int32, y_3 = ((y_2 + (((y_2).toUInt32 >>> (((nI 4)).toUInt32 &&& Int32.toUInt32 31)).toInt32)) &&& (252645135)) →
∀ y_4 : Int32, y_4 = (y_3 + (((y_3).toUInt32 >>> (((nI 8)).toUInt32 &&& Int32.toUInt32 31)).toInt32)) →
∀ y_5 : Int32, y_5 = (y_4 + (((y_4).toUInt32 >>> (((nI 16)).toUInt32 &&& Int32.toUInt32 31)).toInt32)) →
q (y_5 &&& (nI 63)) μ
set_option maxRecDepth 100000 in
set_option maxHeartbeats 4000000 in
theorem c_J6_bitCount_0f7a4 (l : Launch) (g : GG) (hI : Inj g) (μ : Mem) (a0 : Int32) (q : Int32 → Mem → Prop) (h : wp_J6_bitCount_0f7a4 a0 μ q) : Met l yJ6_bitCount_0f7a4 (Cond.code yJ6_bitCount_0f7a4 cJ6_bitCount_0f7a4 1 (some .int) :: wsL_law) ({ frames := 0, cells := 0, slots := 0, locals := 0 }) (KP g [.int a0] μ) (KQi g q) 0 0 (AA g) := by
  refine met_V (own := RJ6) hI (by decide) rfl (Nat.le_of_ble_eq_true rfl) rfl (fun p e s m args below meth c X hr hlk => ?_)
  unfold wp_J6_bitCount_0f7a4 at h
  refine v_iload_n (pc := 0) X rfl 0 rfl dJ6_bitCount_0f7a4_0 ?_
  refine v_iload_n (pc := 1) X rfl 0 rfl dJ6_bitCount_0f7a4_1 ?_
  refine v_iconst (pc := 2) X cst_i_1 dJ6_bitCount_0f7a4_2 ?_
  refine v_iushr (pc := 3) X dJ6_bitCount_0f7a4_3 ?_
  refine v_ldcw (pc := 4) X wd_189 dJ6_bitCount_0f7a4_4 ?_
  refine v_iand (pc := 7) X dJ6_bitCount_0f7a4_7 ?_
  refine v_isub (pc := 8) X dJ6_bitCount_0f7a4_8 ?_
  refine v_nm h (fun y_1 h => ?_)
  refine v_istore_n (pc := 9) (lv' := [(0, .int y_1)]) X rfl (by decide) rfl dJ6_bitCount_0f7a4_9 ?_
  refine v_iload_n (pc := 10) X rfl 0 rfl dJ6_bitCount_0f7a4_10 ?_
  refine v_ldcw (pc := 11) X wd_190 dJ6_bitCount_0f7a4_11 ?_
  refine v_iand (pc := 14) X dJ6_bitCount_0f7a4_14 ?_
  refine v_iload_n (pc := 15) X rfl 0 rfl dJ6_bitCount_0f7a4_15 ?_
  refine v_iconst (pc := 16) X cst_i_2 dJ6_bitCount_0f7a4_16 ?_
  refine v_iushr (pc := 17) X dJ6_bitCount_0f7a4_17 ?_
  refine v_ldcw (pc := 18) X wd_190 dJ6_bitCount_0f7a4_18 ?_
  refine v_iand (pc := 21) X dJ6_bitCount_0f7a4_21 ?_
  refine v_iadd (pc := 22) X dJ6_bitCount_0f7a4_22 ?_
  refine v_nm h (fun y_2 h => ?_)
  refine v_istore_n (pc := 23) (lv' := [(0, .int y_2)]) X rfl (by decide) rfl dJ6_bitCount_0f7a4_23 ?_
  refine v_iload_n (pc := 24) X rfl 0 rfl dJ6_bitCount_0f7a4_24 ?_
  refine v_iload_n (pc := 25) X rfl 0 rfl dJ6_bitCount_0f7a4_25 ?_
  refine v_iconst (pc := 26) X cst_i_4 dJ6_bitCount_0f7a4_26 ?_
  refine v_iushr (pc := 27) X dJ6_bitCount_0f7a4_27 ?_
  refine v_iadd (pc := 28) X dJ6_bitCount_0f7a4_28 ?_
  refine v_ldcw (pc := 29) X wd_191 dJ6_bitCount_0f7a4_29 ?_
  refine v_iand (pc := 32) X dJ6_bitCount_0f7a4_32 ?_
  refine v_nm h (fun y_3 h => ?_)
  refine v_istore_n (pc := 33) (lv' := [(0, .int y_3)]) X rfl (by decide) rfl dJ6_bitCount_0f7a4_33 ?_
  refine v_iload_n (pc := 34) X rfl 0 rfl dJ6_bitCount_0f7a4_34 ?_
  refine v_iload_n (pc := 35) X rfl 0 rfl dJ6_bitCount_0f7a4_35 ?_
  refine v_bipush (pc := 36) X cst_b_8 dJ6_bitCount_0f7a4_36 ?_
  refine v_iushr (pc := 38) X dJ6_bitCount_0f7a4_38 ?_
  refine v_iadd (pc := 39) X dJ6_bitCount_0f7a4_39 ?_
  refine v_nm h (fun y_4 h => ?_)
  refine v_istore_n (pc := 40) (lv' := [(0, .int y_4)]) X rfl (by decide) rfl dJ6_bitCount_0f7a4_40 ?_
  refine v_iload_n (pc := 41) X rfl 0 rfl dJ6_bitCount_0f7a4_41 ?_
  refine v_iload_n (pc := 42) X rfl 0 rfl dJ6_bitCount_0f7a4_42 ?_
  refine v_bipush (pc := 43) X cst_b_16 dJ6_bitCount_0f7a4_43 ?_
  refine v_iushr (pc := 45) X dJ6_bitCount_0f7a4_45 ?_
  refine v_iadd (pc := 46) X dJ6_bitCount_0f7a4_46 ?_
  refine v_nm h (fun y_5 h => ?_)
  refine v_istore_n (pc := 47) (lv' := [(0, .int y_5)]) X rfl (by decide) rfl dJ6_bitCount_0f7a4_47 ?_
  refine v_iload_n (pc := 48) X rfl 0 rfl dJ6_bitCount_0f7a4_48 ?_
  refine v_bipush (pc := 49) X cst_b_63 dJ6_bitCount_0f7a4_49 ?_
  refine v_iand (pc := 51) X dJ6_bitCount_0f7a4_51 ?_
  exact v_iret (pc := 52) X hr hlk h dJ6_bitCount_0f7a4_52
