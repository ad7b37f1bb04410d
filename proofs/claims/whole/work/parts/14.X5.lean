theorem cst_b_50 : (Int8.ofInt 50).toInt32 = ((nI 50) : Int32) := by decide +kernel
theorem cst_b_9 : (Int8.ofInt 9).toInt32 = ((nI 9) : Int32) := by decide +kernel
theorem cst_b_m2 : (Int8.ofInt (-2)).toInt32 = ((-2) : Int32) := by decide +kernel
theorem cst_b_m3 : (Int8.ofInt (-3)).toInt32 = ((-3) : Int32) := by decide +kernel
theorem cst_b_m50 : (Int8.ofInt (-50)).toInt32 = ((-50) : Int32) := by decide +kernel
theorem cst_i_m10 : Int32.ofInt (-10) = ((-10) : Int32) := by decide +kernel
theorem cst_s_1000 : (Int16.ofInt 1000).toInt32 = ((nI 1000) : Int32) := by decide +kernel
theorem cst_s_200 : (Int16.ofInt 200).toInt32 = ((nI 200) : Int32) := by decide +kernel
theorem cst_s_400 : (Int16.ofInt 400).toInt32 = ((nI 400) : Int32) := by decide +kernel
theorem cst_s_500 : (Int16.ofInt 500).toInt32 = ((nI 500) : Int32) := by decide +kernel
theorem cst_s_5000 : (Int16.ofInt 5000).toInt32 = ((nI 5000) : Int32) := by decide +kernel
theorem cst_s_999 : (Int16.ofInt 999).toInt32 = ((nI 999) : Int32) := by decide +kernel
theorem cst_s_m400 : (Int16.ofInt (-400)).toInt32 = ((-400) : Int32) := by decide +kernel
theorem cst_s_m500 : (Int16.ofInt (-500)).toInt32 = ((-500) : Int32) := by decide +kernel
theorem cst_s_m5000 : (Int16.ofInt (-5000)).toInt32 = ((-5000) : Int32) := by decide +kernel
theorem hdc_J6_bitCount_0f7a4 : yJ6_bitCount_0f7a4.cls ≠ "java/lang/invoke/MethodHandle" ∧ yJ6_bitCount_0f7a4.cls ≠ "java/lang/invoke/VarHandle" ∧ (parseMethodDescriptor yJ6_bitCount_0f7a4.desc).map (fun d => d.parameters.length) = some 1 := by decide +kernel
theorem hdc_X0_apart : yX0_apart.cls ≠ "java/lang/invoke/MethodHandle" ∧ yX0_apart.cls ≠ "java/lang/invoke/VarHandle" ∧ (parseMethodDescriptor yX0_apart.desc).map (fun d => d.parameters.length) = some 1 := by decide +kernel
theorem hdc_X0_awake : yX0_awake.cls ≠ "java/lang/invoke/MethodHandle" ∧ yX0_awake.cls ≠ "java/lang/invoke/VarHandle" ∧ (parseMethodDescriptor yX0_awake.desc).map (fun d => d.parameters.length) = some 0 := by decide +kernel
theorem hdc_X0_copy : yX0_copy.cls ≠ "java/lang/invoke/MethodHandle" ∧ yX0_copy.cls ≠ "java/lang/invoke/VarHandle" ∧ (parseMethodDescriptor yX0_copy.desc).map (fun d => d.parameters.length) = some 1 := by decide +kernel
theorem hdc_X0_isSlotOfAnother : yX0_isSlotOfAnother.cls ≠ "java/lang/invoke/MethodHandle" ∧ yX0_isSlotOfAnother.cls ≠ "java/lang/invoke/VarHandle" ∧ (parseMethodDescriptor yX0_isSlotOfAnother.desc).map (fun d => d.parameters.length) = some 2 := by decide +kernel
theorem hdc_X0_passCycle : yX0_passCycle.cls ≠ "java/lang/invoke/MethodHandle" ∧ yX0_passCycle.cls ≠ "java/lang/invoke/VarHandle" ∧ (parseMethodDescriptor yX0_passCycle.desc).map (fun d => d.parameters.length) = some 0 := by decide +kernel
theorem hdc_X0_thatAre : yX0_thatAre.cls ≠ "java/lang/invoke/MethodHandle" ∧ yX0_thatAre.cls ≠ "java/lang/invoke/VarHandle" ∧ (parseMethodDescriptor yX0_thatAre.desc).map (fun d => d.parameters.length) = some 1 := by decide +kernel
theorem hdc_X2_placeOf : yX2_placeOf.cls ≠ "java/lang/invoke/MethodHandle" ∧ yX2_placeOf.cls ≠ "java/lang/invoke/VarHandle" ∧ (parseMethodDescriptor yX2_placeOf.desc).map (fun d => d.parameters.length) = some 1 := by decide +kernel
theorem hdc_X3_beginAnew : yX3_beginAnew.cls ≠ "java/lang/invoke/MethodHandle" ∧ yX3_beginAnew.cls ≠ "java/lang/invoke/VarHandle" ∧ (parseMethodDescriptor yX3_beginAnew.desc).map (fun d => d.parameters.length) = some 2 := by decide +kernel
theorem hdc_X4_areWithin : yX4_areWithin.cls ≠ "java/lang/invoke/MethodHandle" ∧ yX4_areWithin.cls ≠ "java/lang/invoke/VarHandle" ∧ (parseMethodDescriptor yX4_areWithin.desc).map (fun d => d.parameters.length) = some 2 := by decide +kernel
theorem hdc_X5_areAllIn : yX5_areAllIn.cls ≠ "java/lang/invoke/MethodHandle" ∧ yX5_areAllIn.cls ≠ "java/lang/invoke/VarHandle" ∧ (parseMethodDescriptor yX5_areAllIn.desc).map (fun d => d.parameters.length) = some 2 := by decide +kernel
theorem hdc_X5_isNode : yX5_isNode.cls ≠ "java/lang/invoke/MethodHandle" ∧ yX5_isNode.cls ≠ "java/lang/invoke/VarHandle" ∧ (parseMethodDescriptor yX5_isNode.desc).map (fun d => d.parameters.length) = some 1 := by decide +kernel
theorem hdc_X5_staysTogether : yX5_staysTogether.cls ≠ "java/lang/invoke/MethodHandle" ∧ yX5_staysTogether.cls ≠ "java/lang/invoke/VarHandle" ∧ (parseMethodDescriptor yX5_staysTogether.desc).map (fun d => d.parameters.length) = some 3 := by decide +kernel
def wp_X5_node_b24 (a1 : Int32) (a2 : Int32) (a3 : Int32) (a4 : Int32) (q : Int32 → Mem → Prop) (t0 : Int32) (μ : Mem) : Prop :=
((t0 = 0 →
q (-2) μ) ∧ (¬ t0 = 0 →
wp_X5_isWithin a3 1 (nI 9) μ (fun x_2 m_1 =>
((x_2 = 0 →
q (-2) m_1) ∧ (¬ x_2 = 0 →
wp_X5_isWithin a4 1 (nI 9) m_1 (fun x_4 m_3 =>
((¬ x_4 = 0 →
vp_in a1 6 ∧ ∀ j_5 : Nat, j_5 = 6 * 0 + (a1 : Int32).toNatClampNeg →
∀ x_6 : Int32, x_6 = m_3 3 j_5 5 →
((¬ x_6 = 0 →
q (-3) m_3) ∧ (x_6 = 0 →
wp_X0_isSlotOfAnother 0 a3 a1 m_3 (fun x_8 m_7 =>
((x_8 = 0 →
∀ x_9 : Int32, x_9 = m_7 3 j_5 1 →
∀ m_10 : Mem, m_10 = ms m_7 3 j_5 0 a2 →
∀ m_11 : Mem, m_11 = ms m_10 3 j_5 1 a3 →
∀ m_12 : Mem, m_12 = ms m_11 3 j_5 2 a4 →
q x_9 m_12) ∧ (¬ x_8 = 0 →
q (-3) m_7)))))) ∧ (x_4 = 0 →
q (-2) m_3))))))))
def wp_X5_node_b19 (a1 : Int32) (a2 : Int32) (a3 : Int32) (a4 : Int32) (q : Int32 → Mem → Prop)  (μ : Mem) : Prop :=
wp_X5_node_b24 a1 a2 a3 a4 q 1 μ
def wp_X5_node (a1 : Int32) (a2 : Int32) (a3 : Int32) (a4 : Int32) (μ : Mem) (q : Int32 → Mem → Prop) : Prop :=
wp_X5_isNode a1 μ (fun x_2 m_1 =>
((¬ x_2 = 0 →
((a2 = 1 →
wp_X5_node_b19 a1 a2 a3 a4 q  m_1) ∧ (¬ a2 = 1 →
((¬ a2 = (nI 2) →
wp_X5_node_b24 a1 a2 a3 a4 q 0 m_1) ∧ (a2 = (nI 2) →
wp_X5_node_b19 a1 a2 a3 a4 q  m_1))))) ∧ (x_2 = 0 →
q (-1) m_1)))
set_option maxRecDepth 100000 in
set_option maxHeartbeats 4000000 in
theorem c_X5_node (l : Launch) (g : GG) (hI : Inj g) (μ : Mem) (a1 : Int32) (a2 : Int32) (a3 : Int32) (a4 : Int32) (q : Int32 → Mem → Prop) (h : wp_X5_node a1 a2 a3 a4 μ q) : Met l yX5_node (Cond.code yX5_node cX5_node 8 (some .int) :: wsL_law) ({ frames := 2, cells := 0, slots := 0, locals := 42 }) (KP g [.ref (g.1 5 0), .int a1, .int a2, .int a3, .int a4] μ) (KQi g q) 0 0 (AA g) := by
  refine met_V (own := RX5) hI (by decide) rfl (Nat.le_of_ble_eq_true rfl) rfl (fun p e s m args below meth c X hr hlk => ?_)
  have B24 : ∀ (t0 : Int32) (μ : Mem), wp_X5_node_b24 a1 a2 a3 a4 q t0 μ → V p l e ({ frames := 2, cells := 0, slots := 0, locals := 42 }) s m args below meth c 8 g (AA g) 0 0 (MQ below (KQi g q) args s 0 0 (AA g)) μ 24 [(0, .ref (g.1 5 0)), (1, .int a1), (2, .int a2), (3, .int a3), (4, .int a4)] [.int t0] := by
    intro t0 μ h
    unfold wp_X5_node_b24 at h
    refine v_istore (pc := 24) (lv' := [(5, .int t0), (0, .ref (g.1 5 0)), (1, .int a1), (2, .int a2), (3, .int a3), (4, .int a4)]) X (by decide) rfl dX5_node_24 ?_
    refine v_iload (pc := 26) X 0 rfl dX5_node_26 ?_
    refine v_if_eq (pc := 28) (tgt := 52) X h dX5_node_28 (by decide) (fun h => ?_) (fun h => ?_)
    · refine v_bipush (pc := 52) X cst_b_m2 dX5_node_52 ?_
      exact v_iret (pc := 54) X hr hlk h dX5_node_54
    · refine v_iload_n (pc := 31) X rfl 4 rfl dX5_node_31 ?_
      refine v_iconst (pc := 32) X cst_i_1 dX5_node_32 ?_
      refine v_bipush (pc := 33) X cst_b_9 dX5_node_33 ?_
      refine v_callSi (pc := 35) X (c_X5_isWithin l g hI _ _ _ _ _ h) wd_119 wd_117 wd_118 wd_2 ⟨rfl, rfl⟩ hdc_X5_isWithin ⟨Nat.le_of_ble_eq_true rfl, Nat.le_of_ble_eq_true rfl⟩ ⟨Nat.le_refl 0, Nat.le_refl 0⟩ (As := [.int a3, .int 1, .int (nI 9)]) rfl rfl (Nat.le_of_ble_eq_true rfl) dX5_node_35 (fun x_2 m_1 h => ?_)
      refine v_if_eq (pc := 38) (tgt := 52) X h dX5_node_38 (by decide) (fun h => ?_) (fun h => ?_)
      · refine v_bipush (pc := 52) X cst_b_m2 dX5_node_52 ?_
        exact v_iret (pc := 54) X hr hlk h dX5_node_54
      · refine v_iload (pc := 41) X 5 rfl dX5_node_41 ?_
        refine v_iconst (pc := 43) X cst_i_1 dX5_node_43 ?_
        refine v_bipush (pc := 44) X cst_b_9 dX5_node_44 ?_
        refine v_callSi (pc := 46) X (c_X5_isWithin l g hI _ _ _ _ _ h) wd_119 wd_117 wd_118 wd_2 ⟨rfl, rfl⟩ hdc_X5_isWithin ⟨Nat.le_of_ble_eq_true rfl, Nat.le_of_ble_eq_true rfl⟩ ⟨Nat.le_refl 0, Nat.le_refl 0⟩ (As := [.int a4, .int 1, .int (nI 9)]) rfl rfl (Nat.le_of_ble_eq_true rfl) dX5_node_46 (fun x_4 m_3 h => ?_)
        refine v_if_ne (pc := 49) (tgt := 55) X h dX5_node_49 (by decide) (fun h => ?_) (fun h => ?_)
        · refine v_aload_n (pc := 55) X rfl 1 rfl dX5_node_55 ?_
          refine gf_5_0 (pc := 56) X Nat.one_pos wd_15 dX5_node_56 ?_
          refine gf_0_0 (pc := 59) X (Nat.le_of_ble_eq_true rfl) wd_109 dX5_node_59 ?_
          refine v_iload_n (pc := 62) X rfl 2 rfl dX5_node_62 ?_
          refine v_nodes (pc := 63) X (Nat.le_of_ble_eq_true rfl) h dX5_node_63 (fun j_5 hj_5 h => ?_)
          refine v_astore (pc := 64) (lv' := [(6, .ref (g.1 3 j_5)), (5, .int t0), (0, .ref (g.1 5 0)), (1, .int a1), (2, .int a2), (3, .int a3), (4, .int a4)]) X (by decide) rfl dX5_node_64 ?_
          refine v_aload (pc := 66) X 0 rfl dX5_node_66 ?_
          refine gf_3_5 (pc := 68) X hj_5 wd_110 h dX5_node_68 (fun x_6 h => ?_)
          refine v_if_ne (pc := 71) (tgt := 86) X h dX5_node_71 (by decide) (fun h => ?_) (fun h => ?_)
          · refine v_bipush (pc := 86) X cst_b_m3 dX5_node_86 ?_
            exact v_iret (pc := 88) X hr hlk h dX5_node_88
          · refine v_aload_n (pc := 74) X rfl 2 rfl dX5_node_74 ?_
            refine gf_5_0 (pc := 75) X Nat.one_pos wd_15 dX5_node_75 ?_
            refine v_iload_n (pc := 78) X rfl 5 rfl dX5_node_78 ?_
            refine v_iload_n (pc := 79) X rfl 3 rfl dX5_node_79 ?_
            refine v_callVi (pc := 80) X (c_X0_isSlotOfAnother l g hI _ _ (Nat.le_of_ble_eq_true rfl) _ _ _ h) wd_123 wd_120 wd_121 wd_122 wd_14 ⟨rfl, rfl⟩ hdc_X0_isSlotOfAnother ⟨Nat.le_of_ble_eq_true rfl, Nat.le_of_ble_eq_true rfl⟩ ⟨Nat.le_refl 0, Nat.le_refl 0⟩ (Nat.le_of_ble_eq_true rfl) rfl rfl (As := [.int a3, .int a1]) rfl rfl (Nat.le_of_ble_eq_true rfl) dX5_node_80 (fun x_8 m_7 h => ?_)
            refine v_if_eq (pc := 83) (tgt := 89) X h dX5_node_83 (by decide) (fun h => ?_) (fun h => ?_)
            · refine v_aload (pc := 89) X 0 rfl dX5_node_89 ?_
              refine gf_3_1 (pc := 91) X hj_5 wd_111 h dX5_node_91 (fun x_9 h => ?_)
              refine v_istore (pc := 94) (lv' := [(7, .int x_9), (6, .ref (g.1 3 j_5)), (5, .int t0), (0, .ref (g.1 5 0)), (1, .int a1), (2, .int a2), (3, .int a3), (4, .int a4)]) X (by decide) rfl dX5_node_94 ?_
              refine v_aload (pc := 96) X 1 rfl dX5_node_96 ?_
              refine v_iload_n (pc := 98) X rfl 5 rfl dX5_node_98 ?_
              refine pf_3_0 (pc := 99) X hj_5 wd_112 h dX5_node_99 (fun m_10 h => ?_)
              refine v_aload (pc := 102) X 1 rfl dX5_node_102 ?_
              refine v_iload_n (pc := 104) X rfl 6 rfl dX5_node_104 ?_
              refine pf_3_1 (pc := 105) X hj_5 wd_111 h dX5_node_105 (fun m_11 h => ?_)
              refine v_aload (pc := 108) X 1 rfl dX5_node_108 ?_
              refine v_iload (pc := 110) X 7 rfl dX5_node_110 ?_
              refine pf_3_2 (pc := 112) X hj_5 wd_113 h dX5_node_112 (fun m_12 h => ?_)
              refine v_iload (pc := 115) X 0 rfl dX5_node_115 ?_
              exact v_iret (pc := 117) X hr hlk h dX5_node_117
            · refine v_bipush (pc := 86) X cst_b_m3 dX5_node_86 ?_
              exact v_iret (pc := 88) X hr hlk h dX5_node_88
        · refine v_bipush (pc := 52) X cst_b_m2 dX5_node_52 ?_
          exact v_iret (pc := 54) X hr hlk h dX5_node_54
  have B19 : ∀  (μ : Mem), wp_X5_node_b19 a1 a2 a3 a4 q  μ → V p l e ({ frames := 2, cells := 0, slots := 0, locals := 42 }) s m args below meth c 8 g (AA g) 0 0 (MQ below (KQi g q) args s 0 0 (AA g)) μ 19 [(0, .ref (g.1 5 0)), (1, .int a1), (2, .int a2), (3, .int a3), (4, .int a4)] [] := by
    intro  μ h
    unfold wp_X5_node_b19 at h
    refine v_iconst (pc := 19) X cst_i_1 dX5_node_19 ?_
    refine v_goto (pc := 20) (tgt := 24) X dX5_node_20 (by decide) ?_
    exact B24 _ _ h
  unfold wp_X5_node at h
  refine v_iload_n (pc := 0) X rfl 1 rfl dX5_node_0 ?_
  refine v_callSi (pc := 1) X (c_X5_isNode l g hI _ _ _ h) wd_116 wd_114 wd_115 wd_2 ⟨rfl, rfl⟩ hdc_X5_isNode ⟨Nat.le_of_ble_eq_true rfl, Nat.le_of_ble_eq_true rfl⟩ ⟨Nat.le_refl 0, Nat.le_refl 0⟩ (As := [.int a1]) rfl rfl (Nat.le_of_ble_eq_true rfl) dX5_node_1 (fun x_2 m_1 h => ?_)
  refine v_if_ne (pc := 4) (tgt := 9) X h dX5_node_4 (by decide) (fun h => ?_) (fun h => ?_)
  · refine v_iload_n (pc := 9) X rfl 2 rfl dX5_node_9 ?_
    refine v_iconst (pc := 10) X cst_i_1 dX5_node_10 ?_
    refine v_icmp_eq (pc := 11) (tgt := 19) X h dX5_node_11 (by decide) (fun h => ?_) (fun h => ?_)
    · exact B19  _ h
    · refine v_iload_n (pc := 14) X rfl 2 rfl dX5_node_14 ?_
      refine v_iconst (pc := 15) X cst_i_2 dX5_node_15 ?_
      refine v_icmp_ne (pc := 16) (tgt := 23) X h dX5_node_16 (by decide) (fun h => ?_) (fun h => ?_)
      · refine v_iconst (pc := 23) X cst_i_0 dX5_node_23 ?_
        exact B24 _ _ h
      · exact B19  _ h
  · refine v_iconst (pc := 7) X cst_i_m1 dX5_node_7 ?_
    exact v_iret (pc := 8) X hr hlk h dX5_node_8

def wp_X5_clock_b55 (a1 : Int32) (a2 : Int32) (a3 : Int32) (q : Int32 → Mem → Prop) (k4 : Nat) (μ : Mem) : Prop :=
((¬ a2 = 1 →
q (-2) μ) ∧ (a2 = 1 →
wp_X5_isWithin a3 (-400) (nI 400) μ (fun x_2 m_1 =>
((x_2 = 0 →
q (-2) m_1) ∧ (¬ x_2 = 0 →
∀ x_3 : Int32, x_3 = m_1 3 k4 4 →
∀ m_4 : Mem, m_4 = ms m_1 3 k4 4 a3 →
q (x_3 + (nI 1000)) m_4)))))
def wp_X5_clock (a1 : Int32) (a2 : Int32) (a3 : Int32) (μ : Mem) (q : Int32 → Mem → Prop) : Prop :=
wp_X5_isNode a1 μ (fun x_2 m_1 =>
((¬ x_2 = 0 →
vp_in a1 6 ∧ ∀ j_3 : Nat, j_3 = 6 * 0 + (a1 : Int32).toNatClampNeg →
((¬ a2 = 0 →
wp_X5_clock_b55 a1 a2 a3 q j_3 m_1) ∧ (a2 = 0 →
wp_X5_isWithin a3 (-50) (nI 50) m_1 (fun x_5 m_4 =>
((x_5 = 0 →
wp_X5_clock_b55 a1 a2 a3 q j_3 m_4) ∧ (¬ x_5 = 0 →
∀ x_6 : Int32, x_6 = m_4 3 j_3 3 →
∀ m_7 : Mem, m_7 = ms m_4 3 j_3 3 a3 →
q (x_6 + (nI 1000)) m_7)))))) ∧ (x_2 = 0 →
q (-1) m_1)))
set_option maxRecDepth 100000 in
set_option maxHeartbeats 4000000 in
theorem c_X5_clock (l : Launch) (g : GG) (hI : Inj g) (μ : Mem) (a1 : Int32) (a2 : Int32) (a3 : Int32) (q : Int32 → Mem → Prop) (h : wp_X5_clock a1 a2 a3 μ q) : Met l yX5_clock (Cond.code yX5_clock cX5_clock 6 (some .int) :: wsL_law) ({ frames := 2, cells := 0, slots := 0, locals := 42 }) (KP g [.ref (g.1 5 0), .int a1, .int a2, .int a3] μ) (KQi g q) 0 0 (AA g) := by
  refine met_V (own := RX5) hI (by decide) rfl (Nat.le_of_ble_eq_true rfl) rfl (fun p e s m args below meth c X hr hlk => ?_)
  have B55 : ∀ (k4 : Nat) (hk4 : k4 < 24) (μ : Mem), wp_X5_clock_b55 a1 a2 a3 q k4 μ → V p l e ({ frames := 2, cells := 0, slots := 0, locals := 42 }) s m args below meth c 6 g (AA g) 0 0 (MQ below (KQi g q) args s 0 0 (AA g)) μ 55 [(2, .int a2), (3, .int a3), (4, .ref (g.1 3 k4))] [] := by
    intro k4 hk4 μ h
    unfold wp_X5_clock_b55 at h
    refine v_iload_n (pc := 55) X rfl 0 rfl dX5_clock_55 ?_
    refine v_iconst (pc := 56) X cst_i_1 dX5_clock_56 ?_
    refine v_icmp_ne (pc := 57) (tgt := 93) X h dX5_clock_57 (by decide) (fun h => ?_) (fun h => ?_)
    · refine v_bipush (pc := 93) X cst_b_m2 dX5_clock_93 ?_
      exact v_iret (pc := 95) X hr hlk h dX5_clock_95
    · refine v_iload_n (pc := 60) X rfl 1 rfl dX5_clock_60 ?_
      refine v_sipush (pc := 61) X cst_s_m400 dX5_clock_61 ?_
      refine v_sipush (pc := 64) X cst_s_400 dX5_clock_64 ?_
      refine v_callSi (pc := 67) X (c_X5_isWithin l g hI _ _ _ _ _ h) wd_119 wd_117 wd_118 wd_2 ⟨rfl, rfl⟩ hdc_X5_isWithin ⟨Nat.le_of_ble_eq_true rfl, Nat.le_of_ble_eq_true rfl⟩ ⟨Nat.le_refl 0, Nat.le_refl 0⟩ (As := [.int a3, .int (-400), .int (nI 400)]) rfl rfl (Nat.le_of_ble_eq_true rfl) dX5_clock_67 (fun x_2 m_1 h => ?_)
      refine v_if_eq (pc := 70) (tgt := 93) X h dX5_clock_70 (by decide) (fun h => ?_) (fun h => ?_)
      · refine v_bipush (pc := 93) X cst_b_m2 dX5_clock_93 ?_
        exact v_iret (pc := 95) X hr hlk h dX5_clock_95
      · refine v_aload (pc := 73) X 2 rfl dX5_clock_73 ?_
        refine gf_3_4 (pc := 75) X hk4 wd_148 h dX5_clock_75 (fun x_3 h => ?_)
        refine v_istore (pc := 78) (lv' := [(5, .int x_3), (2, .int a2), (3, .int a3), (4, .ref (g.1 3 k4))]) X (by decide) rfl dX5_clock_78 ?_
        refine v_aload (pc := 80) X 3 rfl dX5_clock_80 ?_
        refine v_iload_n (pc := 82) X rfl 2 rfl dX5_clock_82 ?_
        refine pf_3_4 (pc := 83) X hk4 wd_148 h dX5_clock_83 (fun m_4 h => ?_)
        refine v_iload (pc := 86) X 0 rfl dX5_clock_86 ?_
        refine v_sipush (pc := 88) X cst_s_1000 dX5_clock_88 ?_
        refine v_iadd (pc := 91) X dX5_clock_91 ?_
        exact v_iret (pc := 92) X hr hlk h dX5_clock_92
  unfold wp_X5_clock at h
  refine v_iload_n (pc := 0) X rfl 1 rfl dX5_clock_0 ?_
  refine v_callSi (pc := 1) X (c_X5_isNode l g hI _ _ _ h) wd_116 wd_114 wd_115 wd_2 ⟨rfl, rfl⟩ hdc_X5_isNode ⟨Nat.le_of_ble_eq_true rfl, Nat.le_of_ble_eq_true rfl⟩ ⟨Nat.le_refl 0, Nat.le_refl 0⟩ (As := [.int a1]) rfl rfl (Nat.le_of_ble_eq_true rfl) dX5_clock_1 (fun x_2 m_1 h => ?_)
  refine v_if_ne (pc := 4) (tgt := 9) X h dX5_clock_4 (by decide) (fun h => ?_) (fun h => ?_)
  · refine v_aload_n (pc := 9) X rfl 0 rfl dX5_clock_9 ?_
    refine gf_5_0 (pc := 10) X Nat.one_pos wd_15 dX5_clock_10 ?_
    refine gf_0_0 (pc := 13) X (Nat.le_of_ble_eq_true rfl) wd_109 dX5_clock_13 ?_
    refine v_iload_n (pc := 16) X rfl 1 rfl dX5_clock_16 ?_
    refine v_nodes (pc := 17) X (Nat.le_of_ble_eq_true rfl) h dX5_clock_17 (fun j_3 hj_3 h => ?_)
    refine v_astore (pc := 18) (lv' := [(4, .ref (g.1 3 j_3)), (0, .ref (g.1 5 0)), (1, .int a1), (2, .int a2), (3, .int a3)]) X (by decide) rfl dX5_clock_18 ?_
    refine v_iload_n (pc := 20) X rfl 3 rfl dX5_clock_20 ?_
    refine v_if_ne (pc := 21) (tgt := 55) X h dX5_clock_21 (by decide) (fun h => ?_) (fun h => ?_)
    · refine v_sub [3, 4, 0] rfl ?_
      exact B55 _ hj_3 _ h
    · refine v_iload_n (pc := 24) X rfl 4 rfl dX5_clock_24 ?_
      refine v_bipush (pc := 25) X cst_b_m50 dX5_clock_25 ?_
      refine v_bipush (pc := 27) X cst_b_50 dX5_clock_27 ?_
      refine v_callSi (pc := 29) X (c_X5_isWithin l g hI _ _ _ _ _ h) wd_119 wd_117 wd_118 wd_2 ⟨rfl, rfl⟩ hdc_X5_isWithin ⟨Nat.le_of_ble_eq_true rfl, Nat.le_of_ble_eq_true rfl⟩ ⟨Nat.le_refl 0, Nat.le_refl 0⟩ (As := [.int a3, .int (-50), .int (nI 50)]) rfl rfl (Nat.le_of_ble_eq_true rfl) dX5_clock_29 (fun x_5 m_4 h => ?_)
      refine v_if_eq (pc := 32) (tgt := 55) X h dX5_clock_32 (by decide) (fun h => ?_) (fun h => ?_)
      · refine v_sub [3, 4, 0] rfl ?_
        exact B55 _ hj_3 _ h
      · refine v_aload (pc := 35) X 0 rfl dX5_clock_35 ?_
        refine gf_3_3 (pc := 37) X hj_3 wd_147 h dX5_clock_37 (fun x_6 h => ?_)
        refine v_istore (pc := 40) (lv' := [(5, .int x_6), (4, .ref (g.1 3 j_3)), (0, .ref (g.1 5 0)), (1, .int a1), (2, .int a2), (3, .int a3)]) X (by decide) rfl dX5_clock_40 ?_
        refine v_aload (pc := 42) X 1 rfl dX5_clock_42 ?_
        refine v_iload_n (pc := 44) X rfl 5 rfl dX5_clock_44 ?_
        refine pf_3_3 (pc := 45) X hj_3 wd_147 h dX5_clock_45 (fun m_7 h => ?_)
        refine v_iload (pc := 48) X 0 rfl dX5_clock_48 ?_
        refine v_sipush (pc := 50) X cst_s_1000 dX5_clock_50 ?_
        refine v_iadd (pc := 53) X dX5_clock_53 ?_
        exact v_iret (pc := 54) X hr hlk h dX5_clock_54
  · refine v_iconst (pc := 7) X cst_i_m1 dX5_clock_7 ?_
    exact v_iret (pc := 8) X hr hlk h dX5_clock_8

def wp_X5_bound (a1 : Int32) (μ : Mem) (q : Int32 → Mem → Prop) : Prop :=
wp_X5_isWithin a1 0 (nI 500) μ (fun x_2 m_1 =>
((¬ x_2 = 0 →
∀ x_3 : Int32, x_3 = m_1 0 0 3 →
∀ m_4 : Mem, m_4 = ms m_1 0 0 3 a1 →
q x_3 m_4) ∧ (x_2 = 0 →
q (-2) m_1)))
set_option maxRecDepth 100000 in
set_option maxHeartbeats 4000000 in
theorem c_X5_bound (l : Launch) (g : GG) (hI : Inj g) (μ : Mem) (a1 : Int32) (q : Int32 → Mem → Prop) (h : wp_X5_bound a1 μ q) : Met l yX5_bound (Cond.code yX5_bound cX5_bound 3 (some .int) :: wsL_law) ({ frames := 1, cells := 0, slots := 0, locals := 22 }) (KP g [.ref (g.1 5 0), .int a1] μ) (KQi g q) 0 0 (AA g) := by
  refine met_V (own := RX5) hI (by decide) rfl (Nat.le_of_ble_eq_true rfl) rfl (fun p e s m args below meth c X hr hlk => ?_)
  unfold wp_X5_bound at h
  refine v_iload_n (pc := 0) X rfl 1 rfl dX5_bound_0 ?_
  refine v_iconst (pc := 1) X cst_i_0 dX5_bound_1 ?_
  refine v_sipush (pc := 2) X cst_s_500 dX5_bound_2 ?_
  refine v_callSi (pc := 5) X (c_X5_isWithin l g hI _ _ _ _ _ h) wd_119 wd_117 wd_118 wd_2 ⟨rfl, rfl⟩ hdc_X5_isWithin ⟨Nat.le_of_ble_eq_true rfl, Nat.le_of_ble_eq_true rfl⟩ ⟨Nat.le_refl 0, Nat.le_refl 0⟩ (As := [.int a1, .int 0, .int (nI 500)]) rfl rfl (Nat.le_of_ble_eq_true rfl) dX5_bound_5 (fun x_2 m_1 h => ?_)
  refine v_if_ne (pc := 8) (tgt := 14) X h dX5_bound_8 (by decide) (fun h => ?_) (fun h => ?_)
  · refine v_aload_n (pc := 14) X rfl 0 rfl dX5_bound_14 ?_
    refine gf_5_0 (pc := 15) X Nat.one_pos wd_15 dX5_bound_15 ?_
    refine gf_0_3 (pc := 18) X (Nat.le_of_ble_eq_true rfl) wd_157 h dX5_bound_18 (fun x_3 h => ?_)
    refine v_istore_n (pc := 21) (lv' := [(2, .int x_3), (0, .ref (g.1 5 0)), (1, .int a1)]) X rfl (by decide) rfl dX5_bound_21 ?_
    refine v_aload_n (pc := 22) X rfl 1 rfl dX5_bound_22 ?_
    refine gf_5_0 (pc := 23) X Nat.one_pos wd_15 dX5_bound_23 ?_
    refine v_iload_n (pc := 26) X rfl 2 rfl dX5_bound_26 ?_
    refine pf_0_3 (pc := 27) X (Nat.le_of_ble_eq_true rfl) wd_157 h dX5_bound_27 (fun m_4 h => ?_)
    refine v_iload_n (pc := 30) X rfl 0 rfl dX5_bound_30 ?_
    exact v_iret (pc := 31) X hr hlk h dX5_bound_31
  · refine v_bipush (pc := 11) X cst_b_m2 dX5_bound_11 ?_
    exact v_iret (pc := 13) X hr hlk h dX5_bound_13

def wp_X5_wake (a1 : Int32) (a2 : Int32) (μ : Mem) (q : Int32 → Mem → Prop) : Prop :=
wp_X5_isNode a1 μ (fun x_2 m_1 =>
((¬ x_2 = 0 →
wp_X5_isWithin a2 (-500) (nI 500) m_1 (fun x_4 m_3 =>
((¬ x_4 = 0 →
vp_in a1 6 ∧ ∀ j_5 : Nat, j_5 = 6 * 0 + (a1 : Int32).toNatClampNeg →
wp_X3_isAwake j_5 m_3 (fun x_7 m_6 =>
((x_7 = 0 →
wp_X3_beginAnew j_5 1 a2 m_6 (fun m_8 =>
wp_X0_awake 0 m_8 (fun x_10 m_9 =>
wp_J6_bitCount_0f7a4 x_10 m_9 (fun x_12 m_11 =>
q x_12 m_11)))) ∧ (¬ x_7 = 0 →
q (-3) m_6)))) ∧ (x_4 = 0 →
q (-2) m_3)))) ∧ (x_2 = 0 →
q (-1) m_1)))
set_option maxRecDepth 100000 in
set_option maxHeartbeats 4000000 in
theorem c_X5_wake (l : Launch) (g : GG) (hI : Inj g) (μ : Mem) (a1 : Int32) (a2 : Int32) (q : Int32 → Mem → Prop) (h : wp_X5_wake a1 a2 μ q) : Met l yX5_wake (Cond.code yX5_wake cX5_wake 4 (some .int) :: wsL_law) ({ frames := 2, cells := 0, slots := 0, locals := 43 }) (KP g [.ref (g.1 5 0), .int a1, .int a2] μ) (KQi g q) 0 0 (AA g) := by
  refine met_V (own := RX5) hI (by decide) rfl (Nat.le_of_ble_eq_true rfl) rfl (fun p e s m args below meth c X hr hlk => ?_)
  unfold wp_X5_wake at h
  refine v_iload_n (pc := 0) X rfl 1 rfl dX5_wake_0 ?_
  refine v_callSi (pc := 1) X (c_X5_isNode l g hI _ _ _ h) wd_116 wd_114 wd_115 wd_2 ⟨rfl, rfl⟩ hdc_X5_isNode ⟨Nat.le_of_ble_eq_true rfl, Nat.le_of_ble_eq_true rfl⟩ ⟨Nat.le_refl 0, Nat.le_refl 0⟩ (As := [.int a1]) rfl rfl (Nat.le_of_ble_eq_true rfl) dX5_wake_1 (fun x_2 m_1 h => ?_)
  refine v_if_ne (pc := 4) (tgt := 9) X h dX5_wake_4 (by decide) (fun h => ?_) (fun h => ?_)
  · refine v_iload_n (pc := 9) X rfl 2 rfl dX5_wake_9 ?_
    refine v_sipush (pc := 10) X cst_s_m500 dX5_wake_10 ?_
    refine v_sipush (pc := 13) X cst_s_500 dX5_wake_13 ?_
    refine v_callSi (pc := 16) X (c_X5_isWithin l g hI _ _ _ _ _ h) wd_119 wd_117 wd_118 wd_2 ⟨rfl, rfl⟩ hdc_X5_isWithin ⟨Nat.le_of_ble_eq_true rfl, Nat.le_of_ble_eq_true rfl⟩ ⟨Nat.le_refl 0, Nat.le_refl 0⟩ (As := [.int a2, .int (-500), .int (nI 500)]) rfl rfl (Nat.le_of_ble_eq_true rfl) dX5_wake_16 (fun x_4 m_3 h => ?_)
    refine v_if_ne (pc := 19) (tgt := 25) X h dX5_wake_19 (by decide) (fun h => ?_) (fun h => ?_)
    · refine v_aload_n (pc := 25) X rfl 0 rfl dX5_wake_25 ?_
      refine gf_5_0 (pc := 26) X Nat.one_pos wd_15 dX5_wake_26 ?_
      refine gf_0_0 (pc := 29) X (Nat.le_of_ble_eq_true rfl) wd_109 dX5_wake_29 ?_
      refine v_iload_n (pc := 32) X rfl 1 rfl dX5_wake_32 ?_
      refine v_nodes (pc := 33) X (Nat.le_of_ble_eq_true rfl) h dX5_wake_33 (fun j_5 hj_5 h => ?_)
      refine v_astore_n (pc := 34) (lv' := [(3, .ref (g.1 3 j_5)), (0, .ref (g.1 5 0)), (1, .int a1), (2, .int a2)]) X rfl (by decide) rfl dX5_wake_34 ?_
      refine v_aload_n (pc := 35) X rfl 0 rfl dX5_wake_35 ?_
      refine v_callVi (pc := 36) X (c_X3_isAwake l g hI _ _ hj_5 _ h) wd_169 wd_166 wd_167 wd_168 wd_39 ⟨rfl, rfl⟩ hdc_X3_isAwake ⟨Nat.le_of_ble_eq_true rfl, Nat.le_of_ble_eq_true rfl⟩ ⟨Nat.le_refl 0, Nat.le_refl 0⟩ hj_5 rfl rfl (As := []) rfl rfl (Nat.le_of_ble_eq_true rfl) dX5_wake_36 (fun x_7 m_6 h => ?_)
      refine v_if_eq (pc := 39) (tgt := 45) X h dX5_wake_39 (by decide) (fun h => ?_) (fun h => ?_)
      · refine v_aload_n (pc := 45) X rfl 0 rfl dX5_wake_45 ?_
        refine v_iconst (pc := 46) X cst_i_1 dX5_wake_46 ?_
        refine v_iload_n (pc := 47) X rfl 3 rfl dX5_wake_47 ?_
        refine v_callVv (pc := 48) X (c_X3_beginAnew l g hI _ _ hj_5 _ _ _ h) wd_173 wd_170 wd_171 wd_172 wd_39 ⟨rfl, rfl⟩ hdc_X3_beginAnew ⟨Nat.le_of_ble_eq_true rfl, Nat.le_of_ble_eq_true rfl⟩ ⟨Nat.le_refl 0, Nat.le_refl 0⟩ hj_5 rfl rfl (As := [.int 1, .int a2]) rfl rfl (Nat.le_of_ble_eq_true rfl) dX5_wake_48 (fun m_8 h => ?_)
        refine v_aload_n (pc := 51) X rfl 1 rfl dX5_wake_51 ?_
        refine gf_5_0 (pc := 52) X Nat.one_pos wd_15 dX5_wake_52 ?_
        refine v_callVi (pc := 55) X (c_X0_awake l g hI _ _ (Nat.le_of_ble_eq_true rfl) _ h) wd_181 wd_178 wd_179 wd_180 wd_14 ⟨rfl, rfl⟩ hdc_X0_awake ⟨Nat.le_of_ble_eq_true rfl, Nat.le_of_ble_eq_true rfl⟩ ⟨Nat.le_refl 0, Nat.le_refl 0⟩ (Nat.le_of_ble_eq_true rfl) rfl rfl (As := []) rfl rfl (Nat.le_of_ble_eq_true rfl) dX5_wake_55 (fun x_10 m_9 h => ?_)
        refine v_callSi (pc := 58) X (c_J6_bitCount_0f7a4 l g hI _ _ _ h) wd_188 wd_185 wd_186 wd_187 ⟨rfl, rfl⟩ hdc_J6_bitCount_0f7a4 ⟨Nat.le_of_ble_eq_true rfl, Nat.le_of_ble_eq_true rfl⟩ ⟨Nat.le_refl 0, Nat.le_refl 0⟩ (As := [.int x_10]) rfl rfl (Nat.le_of_ble_eq_true rfl) dX5_wake_58 (fun x_12 m_11 h => ?_)
        exact v_iret (pc := 61) X hr hlk h dX5_wake_61
      · refine v_bipush (pc := 42) X cst_b_m3 dX5_wake_42 ?_
        exact v_iret (pc := 44) X hr hlk h dX5_wake_44
    · refine v_bipush (pc := 22) X cst_b_m2 dX5_wake_22 ?_
      exact v_iret (pc := 24) X hr hlk h dX5_wake_24
  · refine v_iconst (pc := 7) X cst_i_m1 dX5_wake_7 ?_
    exact v_iret (pc := 8) X hr hlk h dX5_wake_8

def wp_X5_off (a1 : Int32) (μ : Mem) (q : Int32 → Mem → Prop) : Prop :=
wp_X5_isNode a1 μ (fun x_2 m_1 =>
((¬ x_2 = 0 →
vp_in a1 6 ∧ ∀ j_3 : Nat, j_3 = 6 * 0 + (a1 : Int32).toNatClampNeg →
∀ x_4 : Int32, x_4 = m_1 3 j_3 5 →
wp_X3_beginAnew j_3 0 0 m_1 (fun m_5 =>
q x_4 m_5)) ∧ (x_2 = 0 →
q (-1) m_1)))
set_option maxRecDepth 100000 in
set_option maxHeartbeats 4000000 in
theorem c_X5_off (l : Launch) (g : GG) (hI : Inj g) (μ : Mem) (a1 : Int32) (q : Int32 → Mem → Prop) (h : wp_X5_off a1 μ q) : Met l yX5_off (Cond.code yX5_off cX5_off 4 (some .int) :: wsL_law) ({ frames := 2, cells := 0, slots := 0, locals := 43 }) (KP g [.ref (g.1 5 0), .int a1] μ) (KQi g q) 0 0 (AA g) := by
  refine met_V (own := RX5) hI (by decide) rfl (Nat.le_of_ble_eq_true rfl) rfl (fun p e s m args below meth c X hr hlk => ?_)
  unfold wp_X5_off at h
  refine v_iload_n (pc := 0) X rfl 1 rfl dX5_off_0 ?_
  refine v_callSi (pc := 1) X (c_X5_isNode l g hI _ _ _ h) wd_116 wd_114 wd_115 wd_2 ⟨rfl, rfl⟩ hdc_X5_isNode ⟨Nat.le_of_ble_eq_true rfl, Nat.le_of_ble_eq_true rfl⟩ ⟨Nat.le_refl 0, Nat.le_refl 0⟩ (As := [.int a1]) rfl rfl (Nat.le_of_ble_eq_true rfl) dX5_off_1 (fun x_2 m_1 h => ?_)
  refine v_if_ne (pc := 4) (tgt := 9) X h dX5_off_4 (by decide) (fun h => ?_) (fun h => ?_)
  · refine v_aload_n (pc := 9) X rfl 0 rfl dX5_off_9 ?_
    refine gf_5_0 (pc := 10) X Nat.one_pos wd_15 dX5_off_10 ?_
    refine gf_0_0 (pc := 13) X (Nat.le_of_ble_eq_true rfl) wd_109 dX5_off_13 ?_
    refine v_iload_n (pc := 16) X rfl 1 rfl dX5_off_16 ?_
    refine v_nodes (pc := 17) X (Nat.le_of_ble_eq_true rfl) h dX5_off_17 (fun j_3 hj_3 h => ?_)
    refine v_astore_n (pc := 18) (lv' := [(2, .ref (g.1 3 j_3)), (0, .ref (g.1 5 0)), (1, .int a1)]) X rfl (by decide) rfl dX5_off_18 ?_
    refine v_aload_n (pc := 19) X rfl 0 rfl dX5_off_19 ?_
    refine gf_3_5 (pc := 20) X hj_3 wd_110 h dX5_off_20 (fun x_4 h => ?_)
    refine v_istore_n (pc := 23) (lv' := [(3, .int x_4), (2, .ref (g.1 3 j_3)), (0, .ref (g.1 5 0)), (1, .int a1)]) X rfl (by decide) rfl dX5_off_23 ?_
    refine v_aload_n (pc := 24) X rfl 1 rfl dX5_off_24 ?_
    refine v_iconst (pc := 25) X cst_i_0 dX5_off_25 ?_
    refine v_iconst (pc := 26) X cst_i_0 dX5_off_26 ?_
    refine v_callVv (pc := 27) X (c_X3_beginAnew l g hI _ _ hj_3 _ _ _ h) wd_173 wd_170 wd_171 wd_172 wd_39 ⟨rfl, rfl⟩ hdc_X3_beginAnew ⟨Nat.le_of_ble_eq_true rfl, Nat.le_of_ble_eq_true rfl⟩ ⟨Nat.le_refl 0, Nat.le_refl 0⟩ hj_3 rfl rfl (As := [.int 0, .int 0]) rfl rfl (Nat.le_of_ble_eq_true rfl) dX5_off_27 (fun m_5 h => ?_)
    refine v_iload_n (pc := 30) X rfl 0 rfl dX5_off_30 ?_
    exact v_iret (pc := 31) X hr hlk h dX5_off_31
  · refine v_iconst (pc := 7) X cst_i_m1 dX5_off_7 ?_
    exact v_iret (pc := 8) X hr hlk h dX5_off_8

def wp_X5_run_l15 (a1 : Int32) (q : Int32 → Mem → Prop) : Nat → Int32 → Mem → Prop
  | 0 => fun _ _ => False
  | n + 1 => fun b2 μ =>
((a1 ≤ b2 →
wp_X0_thatAre 0 (nI 4) μ (fun x_2 m_1 =>
q x_2 m_1)) ∧ (¬ a1 ≤ b2 →
wp_X0_passCycle 0 μ (fun m_3 =>
wp_X5_run_l15 a1 q n (b2 + 1) m_3)))
def wp_X5_run (a1 : Int32) (μ : Mem) (q : Int32 → Mem → Prop) : Prop :=
wp_X5_isWithin a1 1 (nI 50) μ (fun x_2 m_1 =>
((¬ x_2 = 0 →
∃ n : Nat, wp_X5_run_l15 a1 q n 0 m_1) ∧ (x_2 = 0 →
q (-2) m_1)))
set_option maxRecDepth 100000 in
set_option maxHeartbeats 4000000 in
theorem c_X5_run (l : Launch) (g : GG) (hI : Inj g) (μ : Mem) (a1 : Int32) (q : Int32 → Mem → Prop) (h : wp_X5_run a1 μ q) : Met l yX5_run (Cond.code yX5_run cX5_run 3 (some .int) :: wsL_law) ({ frames := 5, cells := 0, slots := 0, locals := 115 }) (KP g [.ref (g.1 5 0), .int a1] μ) (KQi g q) 0 0 (AA g) := by
  refine met_V (own := RX5) hI (by decide) rfl (Nat.le_of_ble_eq_true rfl) rfl (fun p e s m args below meth c X hr hlk => ?_)
  have L15 : ∀ (n : Nat) (b2 : Int32) (μ : Mem), wp_X5_run_l15 a1 q n b2 μ → V p l e ({ frames := 5, cells := 0, slots := 0, locals := 115 }) s m args below meth c 3 g (AA g) 0 0 (MQ below (KQi g q) args s 0 0 (AA g)) μ 15 [(0, .ref (g.1 5 0)), (1, .int a1), (2, .int b2)] [] := by
    intro n
    induction n with
    | zero => intro b2 μ h; exact h.elim
    | succ n ih =>
      intro b2 μ h
      unfold wp_X5_run_l15 at h
      refine v_iload_n (pc := 15) X rfl 2 rfl dX5_run_15 ?_
      refine v_iload_n (pc := 16) X rfl 1 rfl dX5_run_16 ?_
      refine v_icmp_ge (pc := 17) (tgt := 33) X h dX5_run_17 (by decide) (fun h => ?_) (fun h => ?_)
      · refine v_aload_n (pc := 33) X rfl 0 rfl dX5_run_33 ?_
        refine gf_5_0 (pc := 34) X Nat.one_pos wd_15 dX5_run_34 ?_
        refine v_iconst (pc := 37) X cst_i_4 dX5_run_37 ?_
        refine v_callVi (pc := 38) X (c_X0_thatAre l g hI _ _ (Nat.le_of_ble_eq_true rfl) _ _ h) wd_359 wd_356 wd_357 wd_358 wd_14 ⟨rfl, rfl⟩ hdc_X0_thatAre ⟨Nat.le_of_ble_eq_true rfl, Nat.le_of_ble_eq_true rfl⟩ ⟨Nat.le_refl 0, Nat.le_refl 0⟩ (Nat.le_of_ble_eq_true rfl) rfl rfl (As := [.int (nI 4)]) rfl rfl (Nat.le_of_ble_eq_true rfl) dX5_run_38 (fun x_2 m_1 h => ?_)
        exact v_iret (pc := 41) X hr hlk h dX5_run_41
      · refine v_aload_n (pc := 20) X rfl 0 rfl dX5_run_20 ?_
        refine gf_5_0 (pc := 21) X Nat.one_pos wd_15 dX5_run_21 ?_
        refine v_callVv (pc := 24) X (c_X0_passCycle l g hI _ _ (Nat.le_of_ble_eq_true rfl) _ h) wd_219 wd_216 wd_217 wd_218 wd_14 ⟨rfl, rfl⟩ hdc_X0_passCycle ⟨Nat.le_of_ble_eq_true rfl, Nat.le_of_ble_eq_true rfl⟩ ⟨Nat.le_refl 0, Nat.le_refl 0⟩ (Nat.le_of_ble_eq_true rfl) rfl rfl (As := []) rfl rfl (Nat.le_of_ble_eq_true rfl) dX5_run_24 (fun m_3 h => ?_)
        refine v_iinc (pc := 27) (lv' := [(2, .int (b2 + 1)), (0, .ref (g.1 5 0)), (1, .int a1)]) (j := 2) X rfl (congrArg (HAdd.hAdd _) cst_i_1) (by decide) rfl dX5_run_27 ?_
        refine v_goto (pc := 30) (tgt := 15) X dX5_run_30 (by decide) ?_
        refine v_sub [1, 2, 0] rfl ?_
        exact ih _ _ h
  unfold wp_X5_run at h
  refine v_iload_n (pc := 0) X rfl 1 rfl dX5_run_0 ?_
  refine v_iconst (pc := 1) X cst_i_1 dX5_run_1 ?_
  refine v_bipush (pc := 2) X cst_b_50 dX5_run_2 ?_
  refine v_callSi (pc := 4) X (c_X5_isWithin l g hI _ _ _ _ _ h) wd_119 wd_117 wd_118 wd_2 ⟨rfl, rfl⟩ hdc_X5_isWithin ⟨Nat.le_of_ble_eq_true rfl, Nat.le_of_ble_eq_true rfl⟩ ⟨Nat.le_refl 0, Nat.le_refl 0⟩ (As := [.int a1, .int 1, .int (nI 50)]) rfl rfl (Nat.le_of_ble_eq_true rfl) dX5_run_4 (fun x_2 m_1 h => ?_)
  refine v_if_ne (pc := 7) (tgt := 13) X h dX5_run_7 (by decide) (fun h => ?_) (fun h => ?_)
  · refine v_iconst (pc := 13) X cst_i_0 dX5_run_13 ?_
    refine v_istore_n (pc := 14) (lv' := [(2, .int 0), (0, .ref (g.1 5 0)), (1, .int a1)]) X rfl (by decide) rfl dX5_run_14 ?_
    refine v_sub [1, 2, 0] rfl ?_
    obtain ⟨n, h⟩ := h
    exact L15 n _ _ h
  · refine v_bipush (pc := 10) X cst_b_m2 dX5_run_10 ?_
    exact v_iret (pc := 12) X hr hlk h dX5_run_12

def wp_X5_told (a1 : Int32) (a2 : Int32) (μ : Mem) (q : Int32 → Mem → Prop) : Prop :=
wp_X5_isNode a1 μ (fun x_2 m_1 =>
((¬ x_2 = 0 →
vp_in a1 6 ∧ ∀ j_3 : Nat, j_3 = 6 * 0 + (a1 : Int32).toNatClampNeg →
((a2 = 0 →
∀ x_5 : Int32, x_5 = m_1 3 j_3 5 →
q x_5 m_1) ∧ (¬ a2 = 0 →
((a2 = 1 →
∀ x_7 : Int32, x_7 = m_1 3 j_3 7 →
q x_7 m_1) ∧ (¬ a2 = 1 →
((a2 = nI 2 →
∀ x_9 : Int32, x_9 = m_1 3 j_3 8 →
q x_9 m_1) ∧ (¬ a2 = nI 2 →
((a2 = nI 3 →
∀ x_11 : Int32, x_11 = m_1 3 j_3 9 →
q x_11 m_1) ∧ (¬ a2 = nI 3 →
((a2 = nI 4 →
∀ x_13 : Int32, x_13 = m_1 3 j_3 10 →
q x_13 m_1) ∧ (¬ a2 = nI 4 →
((a2 = nI 5 →
∀ x_15 : Int32, x_15 = m_1 3 j_3 11 →
q (x_15 + (100000)) m_1) ∧ (¬ a2 = nI 5 →
((a2 = nI 6 →
∀ x_17 : Int32, x_17 = m_1 3 j_3 12 →
q (x_17 + (nI 1000)) m_1) ∧ (¬ a2 = nI 6 →
((a2 = nI 7 →
∀ x_19 : Int32, x_19 = m_1 3 j_3 13 →
q x_19 m_1) ∧ (¬ a2 = nI 7 →
((a2 = nI 8 →
∀ j_21 : Nat, j_21 = hx j_3 (m_1 3 j_3 14) →
∀ x_22 : Int32, x_22 = m_1 1 j_21 2 →
q x_22 m_1) ∧ (¬ a2 = nI 8 →
((a2 = nI 9 →
∀ j_24 : Nat, j_24 = hx j_3 (m_1 3 j_3 14) →
∀ x_25 : Int32, x_25 = m_1 1 j_24 0 →
wp_J6_bitCount_0f7a4 x_25 m_1 (fun x_27 m_26 =>
q x_27 m_26)) ∧ (¬ a2 = nI 9 →
q (-2) m_1))))))))))))))))))))) ∧ (x_2 = 0 →
q (-1) m_1)))
set_option maxRecDepth 100000 in
set_option maxHeartbeats 4000000 in
theorem c_X5_told (l : Launch) (g : GG) (hI : Inj g) (μ : Mem) (a1 : Int32) (a2 : Int32) (q : Int32 → Mem → Prop) (h : wp_X5_told a1 a2 μ q) : Met l yX5_told (Cond.code yX5_told cX5_told 4 (some .int) :: wsL_law) ({ frames := 2, cells := 0, slots := 0, locals := 42 }) (KP g [.ref (g.1 5 0), .int a1, .int a2] μ) (KQi g q) 0 0 (AA g) := by
  refine met_V (own := RX5) hI (by decide) rfl (Nat.le_of_ble_eq_true rfl) rfl (fun p e s m args below meth c X hr hlk => ?_)
  unfold wp_X5_told at h
  refine v_iload_n (pc := 0) X rfl 1 rfl dX5_told_0 ?_
  refine v_callSi (pc := 1) X (c_X5_isNode l g hI _ _ _ h) wd_116 wd_114 wd_115 wd_2 ⟨rfl, rfl⟩ hdc_X5_isNode ⟨Nat.le_of_ble_eq_true rfl, Nat.le_of_ble_eq_true rfl⟩ ⟨Nat.le_refl 0, Nat.le_refl 0⟩ (As := [.int a1]) rfl rfl (Nat.le_of_ble_eq_true rfl) dX5_told_1 (fun x_2 m_1 h => ?_)
  refine v_if_ne (pc := 4) (tgt := 9) X h dX5_told_4 (by decide) (fun h => ?_) (fun h => ?_)
  · refine v_aload_n (pc := 9) X rfl 0 rfl dX5_told_9 ?_
    refine gf_5_0 (pc := 10) X Nat.one_pos wd_15 dX5_told_10 ?_
    refine gf_0_0 (pc := 13) X (Nat.le_of_ble_eq_true rfl) wd_109 dX5_told_13 ?_
    refine v_iload_n (pc := 16) X rfl 1 rfl dX5_told_16 ?_
    refine v_nodes (pc := 17) X (Nat.le_of_ble_eq_true rfl) h dX5_told_17 (fun j_3 hj_3 h => ?_)
    refine v_astore_n (pc := 18) (lv' := [(3, .ref (g.1 3 j_3)), (0, .ref (g.1 5 0)), (1, .int a1), (2, .int a2)]) X rfl (by decide) rfl dX5_told_18 ?_
    refine v_iload_n (pc := 19) X rfl 3 rfl dX5_told_19 ?_
    by_cases e_4 : a2 = 0
    · replace h := h.1 e_4
      refine v_tswK (pc := 20) (tgt := 76) X 0 (by rw [e_4]; decide) (by decide) (by decide) rfl (by decide) dX5_told_20 ?_
      refine v_aload_n (pc := 76) X rfl 0 rfl dX5_told_76 ?_
      refine gf_3_5 (pc := 77) X hj_3 wd_110 h dX5_told_77 (fun x_5 h => ?_)
      exact v_iret (pc := 80) X hr hlk h dX5_told_80
    · replace h := h.2 e_4
      by_cases e_6 : a2 = 1
      · replace h := h.1 e_6
        refine v_tswK (pc := 20) (tgt := 81) X 1 (by rw [e_6]; decide) (by decide) (by decide) rfl (by decide) dX5_told_20 ?_
        refine v_aload_n (pc := 81) X rfl 0 rfl dX5_told_81 ?_
        refine gf_3_7 (pc := 82) X hj_3 wd_456 h dX5_told_82 (fun x_7 h => ?_)
        exact v_iret (pc := 85) X hr hlk h dX5_told_85
      · replace h := h.2 e_6
        by_cases e_8 : a2 = nI 2
        · replace h := h.1 e_8
          refine v_tswK (pc := 20) (tgt := 86) X 2 (by rw [e_8]; decide) (by decide) (by decide) rfl (by decide) dX5_told_20 ?_
          refine v_aload_n (pc := 86) X rfl 0 rfl dX5_told_86 ?_
          refine gf_3_8 (pc := 87) X hj_3 wd_457 h dX5_told_87 (fun x_9 h => ?_)
          exact v_iret (pc := 90) X hr hlk h dX5_told_90
        · replace h := h.2 e_8
          by_cases e_10 : a2 = nI 3
          · replace h := h.1 e_10
            refine v_tswK (pc := 20) (tgt := 91) X 3 (by rw [e_10]; decide) (by decide) (by decide) rfl (by decide) dX5_told_20 ?_
            refine v_aload_n (pc := 91) X rfl 0 rfl dX5_told_91 ?_
            refine gf_3_9 (pc := 92) X hj_3 wd_458 h dX5_told_92 (fun x_11 h => ?_)
            exact v_iret (pc := 95) X hr hlk h dX5_told_95
          · replace h := h.2 e_10
            by_cases e_12 : a2 = nI 4
            · replace h := h.1 e_12
              refine v_tswK (pc := 20) (tgt := 96) X 4 (by rw [e_12]; decide) (by decide) (by decide) rfl (by decide) dX5_told_20 ?_
              refine v_aload_n (pc := 96) X rfl 0 rfl dX5_told_96 ?_
              refine gf_3_10 (pc := 97) X hj_3 wd_459 h dX5_told_97 (fun x_13 h => ?_)
              exact v_iret (pc := 100) X hr hlk h dX5_told_100
            · replace h := h.2 e_12
              by_cases e_14 : a2 = nI 5
              · replace h := h.1 e_14
                refine v_tswK (pc := 20) (tgt := 101) X 5 (by rw [e_14]; decide) (by decide) (by decide) rfl (by decide) dX5_told_20 ?_
                refine v_aload_n (pc := 101) X rfl 0 rfl dX5_told_101 ?_
                refine gf_3_11 (pc := 102) X hj_3 wd_460 h dX5_told_102 (fun x_15 h => ?_)
                refine v_ldc (pc := 105) X wd_461 dX5_told_105 ?_
                refine v_iadd (pc := 107) X dX5_told_107 ?_
                exact v_iret (pc := 108) X hr hlk h dX5_told_108
              · replace h := h.2 e_14
                by_cases e_16 : a2 = nI 6
                · replace h := h.1 e_16
                  refine v_tswK (pc := 20) (tgt := 109) X 6 (by rw [e_16]; decide) (by decide) (by decide) rfl (by decide) dX5_told_20 ?_
                  refine v_aload_n (pc := 109) X rfl 0 rfl dX5_told_109 ?_
                  refine gf_3_12 (pc := 110) X hj_3 wd_462 h dX5_told_110 (fun x_17 h => ?_)
                  refine v_sipush (pc := 113) X cst_s_1000 dX5_told_113 ?_
                  refine v_iadd (pc := 116) X dX5_told_116 ?_
                  exact v_iret (pc := 117) X hr hlk h dX5_told_117
                · replace h := h.2 e_16
                  by_cases e_18 : a2 = nI 7
                  · replace h := h.1 e_18
                    refine v_tswK (pc := 20) (tgt := 118) X 7 (by rw [e_18]; decide) (by decide) (by decide) rfl (by decide) dX5_told_20 ?_
                    refine v_aload_n (pc := 118) X rfl 0 rfl dX5_told_118 ?_
                    refine gf_3_13 (pc := 119) X hj_3 wd_463 h dX5_told_119 (fun x_19 h => ?_)
                    exact v_iret (pc := 122) X hr hlk h dX5_told_122
                  · replace h := h.2 e_18
                    by_cases e_20 : a2 = nI 8
                    · replace h := h.1 e_20
                      refine v_tswK (pc := 20) (tgt := 123) X 8 (by rw [e_20]; decide) (by decide) (by decide) rfl (by decide) dX5_told_20 ?_
                      refine v_aload_n (pc := 123) X rfl 0 rfl dX5_told_123 ?_
                      refine gf_3_14 (pc := 124) X hj_3 wd_464 h dX5_told_124 (fun j_21 hj_21 h => ?_)
                      refine gf_1_2 (pc := 127) X hj_21 wd_465 h dX5_told_127 (fun x_22 h => ?_)
                      exact v_iret (pc := 130) X hr hlk h dX5_told_130
                    · replace h := h.2 e_20
                      by_cases e_23 : a2 = nI 9
                      · replace h := h.1 e_23
                        refine v_tswK (pc := 20) (tgt := 131) X 9 (by rw [e_23]; decide) (by decide) (by decide) rfl (by decide) dX5_told_20 ?_
                        refine v_aload_n (pc := 131) X rfl 0 rfl dX5_told_131 ?_
                        refine gf_3_14 (pc := 132) X hj_3 wd_464 h dX5_told_132 (fun j_24 hj_24 h => ?_)
                        refine gf_1_0 (pc := 135) X hj_24 wd_466 h dX5_told_135 (fun x_25 h => ?_)
                        refine v_callSi (pc := 138) X (c_J6_bitCount_0f7a4 l g hI _ _ _ h) wd_188 wd_185 wd_186 wd_187 ⟨rfl, rfl⟩ hdc_J6_bitCount_0f7a4 ⟨Nat.le_of_ble_eq_true rfl, Nat.le_of_ble_eq_true rfl⟩ ⟨Nat.le_refl 0, Nat.le_refl 0⟩ (As := [.int x_25]) rfl rfl (Nat.le_of_ble_eq_true rfl) dX5_told_138 (fun x_27 m_26 h => ?_)
                        exact v_iret (pc := 141) X hr hlk h dX5_told_141
                      · replace h := h.2 e_23
                        refine v_tswD (pc := 20) (tgt := 142) X (by have ne_4 := lv_neT e_4 (a := 0) (by decide); have ne_6 := lv_neT e_6 (a := 1) (by decide); have ne_8 := lv_neT e_8 (a := 2) (by decide); have ne_10 := lv_neT e_10 (a := 3) (by decide); have ne_12 := lv_neT e_12 (a := 4) (by decide); have ne_14 := lv_neT e_14 (a := 5) (by decide); have ne_16 := lv_neT e_16 (a := 6) (by decide); have ne_18 := lv_neT e_18 (a := 7) (by decide); have ne_20 := lv_neT e_20 (a := 8) (by decide); have ne_23 := lv_neT e_23 (a := 9) (by decide); omega) (by decide) dX5_told_20 ?_
                        refine v_bipush (pc := 142) X cst_b_m2 dX5_told_142 ?_
                        exact v_iret (pc := 144) X hr hlk h dX5_told_144
  · refine v_iconst (pc := 7) X cst_i_m1 dX5_told_7 ?_
    exact v_iret (pc := 8) X hr hlk h dX5_told_8

def wp_X5_seen (a1 : Int32) (a2 : Int32) (μ : Mem) (q : Int32 → Mem → Prop) : Prop :=
wp_X5_isNode a1 μ (fun x_2 m_1 =>
((x_2 = 0 →
q (-1) m_1) ∧ (¬ x_2 = 0 →
wp_X5_isNode a2 m_1 (fun x_4 m_3 =>
((¬ x_4 = 0 →
((¬ a1 = a2 →
vp_in a1 6 ∧ ∀ j_5 : Nat, j_5 = 6 * 0 + (a1 : Int32).toNatClampNeg →
∀ j_6 : Nat, j_6 = hx j_5 (m_3 3 j_5 14) →
∀ x_7 : Int32, x_7 = m_3 1 j_6 0 →
wp_X5_isIn x_7 a2 m_3 (fun x_9 m_8 =>
((x_9 = 0 →
q (-6) m_8) ∧ (¬ x_9 = 0 →
vp_in a2 6 ∧ ∀ x_10 : Int32, x_10 = m_8 7 j_6 (a2 : Int32).toNatClampNeg →
q (x_10 + (100000)) m_8)))) ∧ (a1 = a2 →
q (-2) m_3))) ∧ (x_4 = 0 →
q (-1) m_3))))))
set_option maxRecDepth 100000 in
set_option maxHeartbeats 4000000 in
theorem c_X5_seen (l : Launch) (g : GG) (hI : Inj g) (μ : Mem) (a1 : Int32) (a2 : Int32) (q : Int32 → Mem → Prop) (h : wp_X5_seen a1 a2 μ q) : Met l yX5_seen (Cond.code yX5_seen cX5_seen 4 (some .int) :: wsL_law) ({ frames := 2, cells := 0, slots := 0, locals := 42 }) (KP g [.ref (g.1 5 0), .int a1, .int a2] μ) (KQi g q) 0 0 (AA g) := by
  refine met_V (own := RX5) hI (by decide) rfl (Nat.le_of_ble_eq_true rfl) rfl (fun p e s m args below meth c X hr hlk => ?_)
  unfold wp_X5_seen at h
  refine v_iload_n (pc := 0) X rfl 1 rfl dX5_seen_0 ?_
  refine v_callSi (pc := 1) X (c_X5_isNode l g hI _ _ _ h) wd_116 wd_114 wd_115 wd_2 ⟨rfl, rfl⟩ hdc_X5_isNode ⟨Nat.le_of_ble_eq_true rfl, Nat.le_of_ble_eq_true rfl⟩ ⟨Nat.le_refl 0, Nat.le_refl 0⟩ (As := [.int a1]) rfl rfl (Nat.le_of_ble_eq_true rfl) dX5_seen_1 (fun x_2 m_1 h => ?_)
  refine v_if_eq (pc := 4) (tgt := 14) X h dX5_seen_4 (by decide) (fun h => ?_) (fun h => ?_)
  · refine v_iconst (pc := 14) X cst_i_m1 dX5_seen_14 ?_
    exact v_iret (pc := 15) X hr hlk h dX5_seen_15
  · refine v_iload_n (pc := 7) X rfl 2 rfl dX5_seen_7 ?_
    refine v_callSi (pc := 8) X (c_X5_isNode l g hI _ _ _ h) wd_116 wd_114 wd_115 wd_2 ⟨rfl, rfl⟩ hdc_X5_isNode ⟨Nat.le_of_ble_eq_true rfl, Nat.le_of_ble_eq_true rfl⟩ ⟨Nat.le_refl 0, Nat.le_refl 0⟩ (As := [.int a2]) rfl rfl (Nat.le_of_ble_eq_true rfl) dX5_seen_8 (fun x_4 m_3 h => ?_)
    refine v_if_ne (pc := 11) (tgt := 16) X h dX5_seen_11 (by decide) (fun h => ?_) (fun h => ?_)
    · refine v_iload_n (pc := 16) X rfl 1 rfl dX5_seen_16 ?_
      refine v_iload_n (pc := 17) X rfl 2 rfl dX5_seen_17 ?_
      refine v_icmp_ne (pc := 18) (tgt := 24) X h dX5_seen_18 (by decide) (fun h => ?_) (fun h => ?_)
      · refine v_aload_n (pc := 24) X rfl 0 rfl dX5_seen_24 ?_
        refine gf_5_0 (pc := 25) X Nat.one_pos wd_15 dX5_seen_25 ?_
        refine gf_0_0 (pc := 28) X (Nat.le_of_ble_eq_true rfl) wd_109 dX5_seen_28 ?_
        refine v_iload_n (pc := 31) X rfl 1 rfl dX5_seen_31 ?_
        refine v_nodes (pc := 32) X (Nat.le_of_ble_eq_true rfl) h dX5_seen_32 (fun j_5 hj_5 h => ?_)
        refine gf_3_14 (pc := 33) X hj_5 wd_464 h dX5_seen_33 (fun j_6 hj_6 h => ?_)
        refine v_astore_n (pc := 36) (lv' := [(3, .ref (g.1 1 j_6)), (0, .ref (g.1 5 0)), (1, .int a1), (2, .int a2)]) X rfl (by decide) rfl dX5_seen_36 ?_
        refine v_aload_n (pc := 37) X rfl 0 rfl dX5_seen_37 ?_
        refine gf_1_0 (pc := 38) X hj_6 wd_466 h dX5_seen_38 (fun x_7 h => ?_)
        refine v_iload_n (pc := 41) X rfl 3 rfl dX5_seen_41 ?_
        refine v_callSi (pc := 42) X (c_X5_isIn l g hI _ _ _ _ h) wd_243 wd_480 wd_242 wd_2 ⟨rfl, rfl⟩ hdc_X5_isIn ⟨Nat.le_of_ble_eq_true rfl, Nat.le_of_ble_eq_true rfl⟩ ⟨Nat.le_refl 0, Nat.le_refl 0⟩ (As := [.int x_7, .int a2]) rfl rfl (Nat.le_of_ble_eq_true rfl) dX5_seen_42 (fun x_9 m_8 h => ?_)
        refine v_if_eq (pc := 45) (tgt := 60) X h dX5_seen_45 (by decide) (fun h => ?_) (fun h => ?_)
        · refine v_bipush (pc := 60) X cst_b_m6 dX5_seen_60 ?_
          exact v_iret (pc := 62) X hr hlk h dX5_seen_62
        · refine v_aload_n (pc := 48) X rfl 0 rfl dX5_seen_48 ?_
          refine gf_1_6 (pc := 49) X hj_6 wd_479 dX5_seen_49 ?_
          refine v_iload_n (pc := 52) X rfl 3 rfl dX5_seen_52 ?_
          refine al_7 (pc := 53) X hj_6 h dX5_seen_53 (fun x_10 h => ?_)
          refine v_ldc (pc := 54) X wd_461 dX5_seen_54 ?_
          refine v_iadd (pc := 56) X dX5_seen_56 ?_
          refine v_goto (pc := 57) (tgt := 62) X dX5_seen_57 (by decide) ?_
          exact v_iret (pc := 62) X hr hlk h dX5_seen_62
      · refine v_bipush (pc := 21) X cst_b_m2 dX5_seen_21 ?_
        exact v_iret (pc := 23) X hr hlk h dX5_seen_23
    · refine v_iconst (pc := 14) X cst_i_m1 dX5_seen_14 ?_
      exact v_iret (pc := 15) X hr hlk h dX5_seen_15

def wp_X5_trim_b68 (a1 : Int32) (a2 : Int32) (a3 : Int32) (a4 : Int32) (a5 : Int32) (q : Int32 → Mem → Prop)  (μ : Mem) : Prop :=
wp_X4_areWithin 4 (-5000) (nI 5000) μ (fun x_2 m_1 =>
((¬ x_2 = 0 →
wp_X4_trimmed 4 m_1 (fun x_4 m_3 =>
q (x_4 + (100000)) m_3)) ∧ (x_2 = 0 →
q (-2) m_1)))
def wp_X5_trim_b54 (a1 : Int32) (a2 : Int32) (a3 : Int32) (a4 : Int32) (a5 : Int32) (q : Int32 → Mem → Prop)  (μ : Mem) : Prop :=
((a1 < (nI 4) →
wp_X5_trim_b68 a1 a2 a3 a4 a5 q  μ) ∧ (¬ a1 < (nI 4) →
wp_X4_put 4 a5 μ (fun m_1 =>
wp_X5_trim_b68 a1 a2 a3 a4 a5 q  m_1)))
def wp_X5_trim_b40 (a1 : Int32) (a2 : Int32) (a3 : Int32) (a4 : Int32) (a5 : Int32) (q : Int32 → Mem → Prop)  (μ : Mem) : Prop :=
((a1 < (nI 3) →
wp_X5_trim_b54 a1 a2 a3 a4 a5 q  μ) ∧ (¬ a1 < (nI 3) →
wp_X4_put 4 a4 μ (fun m_1 =>
wp_X5_trim_b54 a1 a2 a3 a4 a5 q  m_1)))
def wp_X5_trim (a1 : Int32) (a2 : Int32) (a3 : Int32) (a4 : Int32) (a5 : Int32) (μ : Mem) (q : Int32 → Mem → Prop) : Prop :=
wp_X5_isWithin a1 1 (nI 4) μ (fun x_2 m_1 =>
((¬ x_2 = 0 →
wp_X4_clear 4 m_1 (fun m_3 =>
wp_X4_put 4 a2 m_3 (fun m_4 =>
((a1 < (nI 2) →
wp_X5_trim_b40 a1 a2 a3 a4 a5 q  m_4) ∧ (¬ a1 < (nI 2) →
wp_X4_put 4 a3 m_4 (fun m_5 =>
wp_X5_trim_b40 a1 a2 a3 a4 a5 q  m_5)))))) ∧ (x_2 = 0 →
q (-2) m_1)))
set_option maxRecDepth 100000 in
set_option maxHeartbeats 4000000 in
theorem c_X5_trim (l : Launch) (g : GG) (hI : Inj g) (μ : Mem) (a1 : Int32) (a2 : Int32) (a3 : Int32) (a4 : Int32) (a5 : Int32) (q : Int32 → Mem → Prop) (h : wp_X5_trim a1 a2 a3 a4 a5 μ q) : Met l yX5_trim (Cond.code yX5_trim cX5_trim 6 (some .int) :: wsL_law) ({ frames := 2, cells := 0, slots := 0, locals := 45 }) (KP g [.ref (g.1 5 0), .int a1, .int a2, .int a3, .int a4, .int a5] μ) (KQi g q) 0 0 (AA g) := by
  refine met_V (own := RX5) hI (by decide) rfl (Nat.le_of_ble_eq_true rfl) rfl (fun p e s m args below meth c X hr hlk => ?_)
  have B68 : ∀  (μ : Mem), wp_X5_trim_b68 a1 a2 a3 a4 a5 q  μ → V p l e ({ frames := 2, cells := 0, slots := 0, locals := 45 }) s m args below meth c 6 g (AA g) 0 0 (MQ below (KQi g q) args s 0 0 (AA g)) μ 68 [(0, .ref (g.1 5 0))] [] := by
    intro  μ h
    unfold wp_X5_trim_b68 at h
    refine v_aload_n (pc := 68) X rfl 0 rfl dX5_trim_68 ?_
    refine gf_5_4 (pc := 69) X Nat.one_pos wd_22 dX5_trim_69 ?_
    refine v_sipush (pc := 72) X cst_s_m5000 dX5_trim_72 ?_
    refine v_sipush (pc := 75) X cst_s_5000 dX5_trim_75 ?_
    refine v_callVi (pc := 78) X (c_X4_areWithin l g hI _ _ (Nat.le_of_ble_eq_true rfl) _ _ _ h) wd_494 wd_491 wd_492 wd_493 wd_21 ⟨rfl, rfl⟩ hdc_X4_areWithin ⟨Nat.le_of_ble_eq_true rfl, Nat.le_of_ble_eq_true rfl⟩ ⟨Nat.le_refl 0, Nat.le_refl 0⟩ (Nat.le_of_ble_eq_true rfl) rfl rfl (As := [.int (-5000), .int (nI 5000)]) rfl rfl (Nat.le_of_ble_eq_true rfl) dX5_trim_78 (fun x_2 m_1 h => ?_)
    refine v_if_ne (pc := 81) (tgt := 87) X h dX5_trim_81 (by decide) (fun h => ?_) (fun h => ?_)
    · refine v_aload_n (pc := 87) X rfl 0 rfl dX5_trim_87 ?_
      refine gf_5_4 (pc := 88) X Nat.one_pos wd_22 dX5_trim_88 ?_
      refine v_callVi (pc := 91) X (c_X4_trimmed l g hI _ _ (Nat.le_of_ble_eq_true rfl) _ h) wd_344 wd_495 wd_342 wd_343 wd_21 ⟨rfl, rfl⟩ hdc_X4_trimmed ⟨Nat.le_of_ble_eq_true rfl, Nat.le_of_ble_eq_true rfl⟩ ⟨Nat.le_refl 0, Nat.le_refl 0⟩ (Nat.le_of_ble_eq_true rfl) rfl rfl (As := []) rfl rfl (Nat.le_of_ble_eq_true rfl) dX5_trim_91 (fun x_4 m_3 h => ?_)
      refine v_ldc (pc := 94) X wd_461 dX5_trim_94 ?_
      refine v_iadd (pc := 96) X dX5_trim_96 ?_
      exact v_iret (pc := 97) X hr hlk h dX5_trim_97
    · refine v_bipush (pc := 84) X cst_b_m2 dX5_trim_84 ?_
      exact v_iret (pc := 86) X hr hlk h dX5_trim_86
  have B54 : ∀  (μ : Mem), wp_X5_trim_b54 a1 a2 a3 a4 a5 q  μ → V p l e ({ frames := 2, cells := 0, slots := 0, locals := 45 }) s m args below meth c 6 g (AA g) 0 0 (MQ below (KQi g q) args s 0 0 (AA g)) μ 54 [(0, .ref (g.1 5 0)), (1, .int a1), (5, .int a5)] [] := by
    intro  μ h
    unfold wp_X5_trim_b54 at h
    refine v_iload_n (pc := 54) X rfl 1 rfl dX5_trim_54 ?_
    refine v_iconst (pc := 55) X cst_i_4 dX5_trim_55 ?_
    refine v_icmp_lt (pc := 56) (tgt := 68) X h dX5_trim_56 (by decide) (fun h => ?_) (fun h => ?_)
    · refine v_sub [0] rfl ?_
      exact B68  _ h
    · refine v_aload_n (pc := 59) X rfl 0 rfl dX5_trim_59 ?_
      refine gf_5_4 (pc := 60) X Nat.one_pos wd_22 dX5_trim_60 ?_
      refine v_iload (pc := 63) X 2 rfl dX5_trim_63 ?_
      refine v_callVv (pc := 65) X (c_X4_put l g hI _ _ (Nat.le_of_ble_eq_true rfl) _ _ h) wd_340 wd_490 wd_338 wd_339 wd_21 ⟨rfl, rfl⟩ hdc_X4_put ⟨Nat.le_of_ble_eq_true rfl, Nat.le_of_ble_eq_true rfl⟩ ⟨Nat.le_refl 0, Nat.le_refl 0⟩ (Nat.le_of_ble_eq_true rfl) rfl rfl (As := [.int a5]) rfl rfl (Nat.le_of_ble_eq_true rfl) dX5_trim_65 (fun m_1 h => ?_)
      refine v_sub [0] rfl ?_
      exact B68  _ h
  have B40 : ∀  (μ : Mem), wp_X5_trim_b40 a1 a2 a3 a4 a5 q  μ → V p l e ({ frames := 2, cells := 0, slots := 0, locals := 45 }) s m args below meth c 6 g (AA g) 0 0 (MQ below (KQi g q) args s 0 0 (AA g)) μ 40 [(0, .ref (g.1 5 0)), (1, .int a1), (4, .int a4), (5, .int a5)] [] := by
    intro  μ h
    unfold wp_X5_trim_b40 at h
    refine v_iload_n (pc := 40) X rfl 1 rfl dX5_trim_40 ?_
    refine v_iconst (pc := 41) X cst_i_3 dX5_trim_41 ?_
    refine v_icmp_lt (pc := 42) (tgt := 54) X h dX5_trim_42 (by decide) (fun h => ?_) (fun h => ?_)
    · refine v_sub [0, 1, 3] rfl ?_
      exact B54  _ h
    · refine v_aload_n (pc := 45) X rfl 0 rfl dX5_trim_45 ?_
      refine gf_5_4 (pc := 46) X Nat.one_pos wd_22 dX5_trim_46 ?_
      refine v_iload (pc := 49) X 2 rfl dX5_trim_49 ?_
      refine v_callVv (pc := 51) X (c_X4_put l g hI _ _ (Nat.le_of_ble_eq_true rfl) _ _ h) wd_340 wd_490 wd_338 wd_339 wd_21 ⟨rfl, rfl⟩ hdc_X4_put ⟨Nat.le_of_ble_eq_true rfl, Nat.le_of_ble_eq_true rfl⟩ ⟨Nat.le_refl 0, Nat.le_refl 0⟩ (Nat.le_of_ble_eq_true rfl) rfl rfl (As := [.int a4]) rfl rfl (Nat.le_of_ble_eq_true rfl) dX5_trim_51 (fun m_1 h => ?_)
      refine v_sub [0, 1, 3] rfl ?_
      exact B54  _ h
  unfold wp_X5_trim at h
  refine v_iload_n (pc := 0) X rfl 1 rfl dX5_trim_0 ?_
  refine v_iconst (pc := 1) X cst_i_1 dX5_trim_1 ?_
  refine v_iconst (pc := 2) X cst_i_4 dX5_trim_2 ?_
  refine v_callSi (pc := 3) X (c_X5_isWithin l g hI _ _ _ _ _ h) wd_119 wd_117 wd_118 wd_2 ⟨rfl, rfl⟩ hdc_X5_isWithin ⟨Nat.le_of_ble_eq_true rfl, Nat.le_of_ble_eq_true rfl⟩ ⟨Nat.le_refl 0, Nat.le_refl 0⟩ (As := [.int a1, .int 1, .int (nI 4)]) rfl rfl (Nat.le_of_ble_eq_true rfl) dX5_trim_3 (fun x_2 m_1 h => ?_)
  refine v_if_ne (pc := 6) (tgt := 12) X h dX5_trim_6 (by decide) (fun h => ?_) (fun h => ?_)
  · refine v_aload_n (pc := 12) X rfl 0 rfl dX5_trim_12 ?_
    refine gf_5_4 (pc := 13) X Nat.one_pos wd_22 dX5_trim_13 ?_
    refine v_callVv (pc := 16) X (c_X4_clear l g hI _ _ (Nat.le_of_ble_eq_true rfl) _ h) wd_336 wd_489 wd_334 wd_335 wd_21 ⟨rfl, rfl⟩ hdc_X4_clear ⟨Nat.le_of_ble_eq_true rfl, Nat.le_of_ble_eq_true rfl⟩ ⟨Nat.le_refl 0, Nat.le_refl 0⟩ (Nat.le_of_ble_eq_true rfl) rfl rfl (As := []) rfl rfl (Nat.le_of_ble_eq_true rfl) dX5_trim_16 (fun m_3 h => ?_)
    refine v_aload_n (pc := 19) X rfl 0 rfl dX5_trim_19 ?_
    refine gf_5_4 (pc := 20) X Nat.one_pos wd_22 dX5_trim_20 ?_
    refine v_iload_n (pc := 23) X rfl 2 rfl dX5_trim_23 ?_
    refine v_callVv (pc := 24) X (c_X4_put l g hI _ _ (Nat.le_of_ble_eq_true rfl) _ _ h) wd_340 wd_490 wd_338 wd_339 wd_21 ⟨rfl, rfl⟩ hdc_X4_put ⟨Nat.le_of_ble_eq_true rfl, Nat.le_of_ble_eq_true rfl⟩ ⟨Nat.le_refl 0, Nat.le_refl 0⟩ (Nat.le_of_ble_eq_true rfl) rfl rfl (As := [.int a2]) rfl rfl (Nat.le_of_ble_eq_true rfl) dX5_trim_24 (fun m_4 h => ?_)
    refine v_iload_n (pc := 27) X rfl 1 rfl dX5_trim_27 ?_
    refine v_iconst (pc := 28) X cst_i_2 dX5_trim_28 ?_
    refine v_icmp_lt (pc := 29) (tgt := 40) X h dX5_trim_29 (by decide) (fun h => ?_) (fun h => ?_)
    · refine v_sub [0, 1, 4, 5] rfl ?_
      exact B40  _ h
    · refine v_aload_n (pc := 32) X rfl 0 rfl dX5_trim_32 ?_
      refine gf_5_4 (pc := 33) X Nat.one_pos wd_22 dX5_trim_33 ?_
      refine v_iload_n (pc := 36) X rfl 3 rfl dX5_trim_36 ?_
      refine v_callVv (pc := 37) X (c_X4_put l g hI _ _ (Nat.le_of_ble_eq_true rfl) _ _ h) wd_340 wd_490 wd_338 wd_339 wd_21 ⟨rfl, rfl⟩ hdc_X4_put ⟨Nat.le_of_ble_eq_true rfl, Nat.le_of_ble_eq_true rfl⟩ ⟨Nat.le_refl 0, Nat.le_refl 0⟩ (Nat.le_of_ble_eq_true rfl) rfl rfl (As := [.int a3]) rfl rfl (Nat.le_of_ble_eq_true rfl) dX5_trim_37 (fun m_5 h => ?_)
      refine v_sub [0, 1, 4, 5] rfl ?_
      exact B40  _ h
  · refine v_bipush (pc := 9) X cst_b_m2 dX5_trim_9 ?_
    exact v_iret (pc := 11) X hr hlk h dX5_trim_11

def wp_X5_event (a1 : Int32) (a2 : Int32) (μ : Mem) (q : Int32 → Mem → Prop) : Prop :=
wp_X5_isWithin a2 0 (nI 2) μ (fun x_2 m_1 =>
((¬ x_2 = 0 →
((¬ a1 = (-1) →
wp_X2_placeOf 0 a1 m_1 (fun x_4 m_3 =>
((0 ≤ x_4 →
((a2 = 0 →
vp_in x_4 40 ∧ ∀ x_6 : Int32, x_6 = m_3 8 0 (x_4 : Int32).toNatClampNeg →
q x_6 m_3) ∧ (¬ a2 = 0 →
((a2 = 1 →
vp_in x_4 40 ∧ ∀ x_8 : Int32, x_8 = m_3 9 0 (x_4 : Int32).toNatClampNeg →
q x_8 m_3) ∧ (¬ a2 = 1 →
vp_in x_4 40 ∧ ∀ x_9 : Int32, x_9 = m_3 10 0 (x_4 : Int32).toNatClampNeg →
q x_9 m_3))))) ∧ (¬ 0 ≤ x_4 →
q (-6) m_3)))) ∧ (a1 = (-1) →
∀ x_10 : Int32, x_10 = m_1 2 0 3 →
q x_10 m_1))) ∧ (x_2 = 0 →
q (-2) m_1)))
set_option maxRecDepth 100000 in
set_option maxHeartbeats 4000000 in
theorem c_X5_event (l : Launch) (g : GG) (hI : Inj g) (μ : Mem) (a1 : Int32) (a2 : Int32) (q : Int32 → Mem → Prop) (h : wp_X5_event a1 a2 μ q) : Met l yX5_event (Cond.code yX5_event cX5_event 4 (some .int) :: wsL_law) ({ frames := 1, cells := 0, slots := 0, locals := 22 }) (KP g [.ref (g.1 5 0), .int a1, .int a2] μ) (KQi g q) 0 0 (AA g) := by
  refine met_V (own := RX5) hI (by decide) rfl (Nat.le_of_ble_eq_true rfl) rfl (fun p e s m args below meth c X hr hlk => ?_)
  unfold wp_X5_event at h
  refine v_iload_n (pc := 0) X rfl 2 rfl dX5_event_0 ?_
  refine v_iconst (pc := 1) X cst_i_0 dX5_event_1 ?_
  refine v_iconst (pc := 2) X cst_i_2 dX5_event_2 ?_
  refine v_callSi (pc := 3) X (c_X5_isWithin l g hI _ _ _ _ _ h) wd_119 wd_117 wd_118 wd_2 ⟨rfl, rfl⟩ hdc_X5_isWithin ⟨Nat.le_of_ble_eq_true rfl, Nat.le_of_ble_eq_true rfl⟩ ⟨Nat.le_refl 0, Nat.le_refl 0⟩ (As := [.int a2, .int 0, .int (nI 2)]) rfl rfl (Nat.le_of_ble_eq_true rfl) dX5_event_3 (fun x_2 m_1 h => ?_)
  refine v_if_ne (pc := 6) (tgt := 12) X h dX5_event_6 (by decide) (fun h => ?_) (fun h => ?_)
  · refine v_iload_n (pc := 12) X rfl 1 rfl dX5_event_12 ?_
    refine v_iconst (pc := 13) X cst_i_m1 dX5_event_13 ?_
    refine v_icmp_ne (pc := 14) (tgt := 28) X h dX5_event_14 (by decide) (fun h => ?_) (fun h => ?_)
    · refine v_aload_n (pc := 28) X rfl 0 rfl dX5_event_28 ?_
      refine gf_5_0 (pc := 29) X Nat.one_pos wd_15 dX5_event_29 ?_
      refine gf_0_1 (pc := 32) X (Nat.le_of_ble_eq_true rfl) wd_507 dX5_event_32 ?_
      refine v_iload_n (pc := 35) X rfl 1 rfl dX5_event_35 ?_
      refine v_callVi (pc := 36) X (c_X2_placeOf l g hI _ _ (Nat.le_of_ble_eq_true rfl) _ _ h) wd_515 wd_512 wd_513 wd_514 wd_31 ⟨rfl, rfl⟩ hdc_X2_placeOf ⟨Nat.le_of_ble_eq_true rfl, Nat.le_of_ble_eq_true rfl⟩ ⟨Nat.le_refl 0, Nat.le_refl 0⟩ (Nat.le_of_ble_eq_true rfl) rfl rfl (As := [.int a1]) rfl rfl (Nat.le_of_ble_eq_true rfl) dX5_event_36 (fun x_4 m_3 h => ?_)
      refine v_istore_n (pc := 39) (lv' := [(3, .int x_4), (0, .ref (g.1 5 0)), (1, .int a1), (2, .int a2)]) X rfl (by decide) rfl dX5_event_39 ?_
      refine v_iload_n (pc := 40) X rfl 0 rfl dX5_event_40 ?_
      refine v_if_ge (pc := 41) (tgt := 47) X h dX5_event_41 (by decide) (fun h => ?_) (fun h => ?_)
      · refine v_iload_n (pc := 47) X rfl 3 rfl dX5_event_47 ?_
        by_cases e_5 : a2 = 0
        · replace h := h.1 e_5
          refine v_lsw (pc := 48) (tgt := 76) (off := 28) X (by decide) (by rw [e_5]; decide) (by decide) dX5_event_48 ?_
          refine v_aload_n (pc := 76) X rfl 1 rfl dX5_event_76 ?_
          refine gf_5_0 (pc := 77) X Nat.one_pos wd_15 dX5_event_77 ?_
          refine gf_0_1 (pc := 80) X (Nat.le_of_ble_eq_true rfl) wd_507 dX5_event_80 ?_
          refine gf_2_0 (pc := 83) X (Nat.le_of_ble_eq_true rfl) wd_509 dX5_event_83 ?_
          refine v_iload_n (pc := 86) X rfl 0 rfl dX5_event_86 ?_
          refine al_8 (pc := 87) X (Nat.le_of_ble_eq_true rfl) h dX5_event_87 (fun x_6 h => ?_)
          exact v_iret (pc := 88) X hr hlk h dX5_event_88
        · replace h := h.2 e_5
          by_cases e_7 : a2 = 1
          · replace h := h.1 e_7
            refine v_lsw (pc := 48) (tgt := 89) (off := 41) X (by decide) (by rw [e_7]; decide) (by decide) dX5_event_48 ?_
            refine v_aload_n (pc := 89) X rfl 1 rfl dX5_event_89 ?_
            refine gf_5_0 (pc := 90) X Nat.one_pos wd_15 dX5_event_90 ?_
            refine gf_0_1 (pc := 93) X (Nat.le_of_ble_eq_true rfl) wd_507 dX5_event_93 ?_
            refine gf_2_1 (pc := 96) X (Nat.le_of_ble_eq_true rfl) wd_510 dX5_event_96 ?_
            refine v_iload_n (pc := 99) X rfl 0 rfl dX5_event_99 ?_
            refine al_9 (pc := 100) X (Nat.le_of_ble_eq_true rfl) h dX5_event_100 (fun x_8 h => ?_)
            exact v_iret (pc := 101) X hr hlk h dX5_event_101
          · replace h := h.2 e_7
            refine v_lsw (pc := 48) (tgt := 102) (off := 54) X (by decide) (by rw [lv_osw e_5 (by decide), lv_osw e_7 (by decide)]; rfl) (by decide) dX5_event_48 ?_
            refine v_aload_n (pc := 102) X rfl 1 rfl dX5_event_102 ?_
            refine gf_5_0 (pc := 103) X Nat.one_pos wd_15 dX5_event_103 ?_
            refine gf_0_1 (pc := 106) X (Nat.le_of_ble_eq_true rfl) wd_507 dX5_event_106 ?_
            refine gf_2_2 (pc := 109) X (Nat.le_of_ble_eq_true rfl) wd_511 dX5_event_109 ?_
            refine v_iload_n (pc := 112) X rfl 0 rfl dX5_event_112 ?_
            refine al_10 (pc := 113) X (Nat.le_of_ble_eq_true rfl) h dX5_event_113 (fun x_9 h => ?_)
            exact v_iret (pc := 114) X hr hlk h dX5_event_114
      · refine v_bipush (pc := 44) X cst_b_m6 dX5_event_44 ?_
        exact v_iret (pc := 46) X hr hlk h dX5_event_46
    · refine v_aload_n (pc := 17) X rfl 0 rfl dX5_event_17 ?_
      refine gf_5_0 (pc := 18) X Nat.one_pos wd_15 dX5_event_18 ?_
      refine gf_0_1 (pc := 21) X (Nat.le_of_ble_eq_true rfl) wd_507 dX5_event_21 ?_
      refine gf_2_3 (pc := 24) X (Nat.le_of_ble_eq_true rfl) wd_508 h dX5_event_24 (fun x_10 h => ?_)
      exact v_iret (pc := 27) X hr hlk h dX5_event_27
  · refine v_bipush (pc := 9) X cst_b_m2 dX5_event_9 ?_
    exact v_iret (pc := 11) X hr hlk h dX5_event_11

def wp_X5_spread  (μ : Mem) (q : Int32 → Mem → Prop) : Prop :=
wp_X0_thatAre 0 (nI 4) μ (fun x_2 m_1 =>
wp_X0_apart 0 x_2 m_1 (fun x_4 m_3 =>
q x_4 m_3))
set_option maxRecDepth 100000 in
set_option maxHeartbeats 4000000 in
theorem c_X5_spread (l : Launch) (g : GG) (hI : Inj g) (μ : Mem)  (q : Int32 → Mem → Prop) (h : wp_X5_spread  μ q) : Met l yX5_spread (Cond.code yX5_spread cX5_spread 1 (some .int) :: wsL_law) ({ frames := 2, cells := 0, slots := 0, locals := 47 }) (KP g [.ref (g.1 5 0)] μ) (KQi g q) 0 0 (AA g) := by
  refine met_V (own := RX5) hI (by decide) rfl (Nat.le_of_ble_eq_true rfl) rfl (fun p e s m args below meth c X hr hlk => ?_)
  unfold wp_X5_spread at h
  refine v_aload_n (pc := 0) X rfl 0 rfl dX5_spread_0 ?_
  refine gf_5_0 (pc := 1) X Nat.one_pos wd_15 dX5_spread_1 ?_
  refine v_aload_n (pc := 4) X rfl 0 rfl dX5_spread_4 ?_
  refine gf_5_0 (pc := 5) X Nat.one_pos wd_15 dX5_spread_5 ?_
  refine v_iconst (pc := 8) X cst_i_4 dX5_spread_8 ?_
  refine v_callVi (pc := 9) X (c_X0_thatAre l g hI _ _ (Nat.le_of_ble_eq_true rfl) _ _ h) wd_359 wd_356 wd_357 wd_358 wd_14 ⟨rfl, rfl⟩ hdc_X0_thatAre ⟨Nat.le_of_ble_eq_true rfl, Nat.le_of_ble_eq_true rfl⟩ ⟨Nat.le_refl 0, Nat.le_refl 0⟩ (Nat.le_of_ble_eq_true rfl) rfl rfl (As := [.int (nI 4)]) rfl rfl (Nat.le_of_ble_eq_true rfl) dX5_spread_9 (fun x_2 m_1 h => ?_)
  refine v_callVi (pc := 12) X (c_X0_apart l g hI _ _ (Nat.le_of_ble_eq_true rfl) _ _ h) wd_527 wd_524 wd_525 wd_526 wd_14 ⟨rfl, rfl⟩ hdc_X0_apart ⟨Nat.le_of_ble_eq_true rfl, Nat.le_of_ble_eq_true rfl⟩ ⟨Nat.le_refl 0, Nat.le_refl 0⟩ (Nat.le_of_ble_eq_true rfl) rfl rfl (As := [.int x_2]) rfl rfl (Nat.le_of_ble_eq_true rfl) dX5_spread_12 (fun x_4 m_3 h => ?_)
  exact v_iret (pc := 15) X hr hlk h dX5_spread_15

def wp_X5_soon_l28  (q : Int32 → Mem → Prop) : Nat → Int32 → Int32 → Mem → Prop
  | 0 => fun _ _ _ => False
  | n + 1 => fun b1 b2 μ =>
(((nI 200) < b2 →
q (-6) μ) ∧ (¬ (nI 200) < b2 →
wp_X0_thatAre 1 (nI 4) μ (fun x_2 m_1 =>
wp_X5_areAllIn b1 x_2 m_1 (fun x_4 m_3 =>
((x_4 = 0 →
wp_X0_passCycle 1 m_3 (fun m_5 =>
wp_X5_soon_l28  q n b1 (b2 + 1) m_5)) ∧ (¬ x_4 = 0 →
q b2 m_3))))))
def wp_X5_soon  (μ : Mem) (q : Int32 → Mem → Prop) : Prop :=
wp_X0_awake 0 μ (fun x_2 m_1 =>
((¬ x_2 = 0 →
wp_X0_copy 1 0 m_1 (fun m_3 =>
∃ n : Nat, wp_X5_soon_l28  q n x_2 0 m_3)) ∧ (x_2 = 0 →
q (-6) m_1)))
set_option maxRecDepth 100000 in
set_option maxHeartbeats 4000000 in
theorem c_X5_soon (l : Launch) (g : GG) (hI : Inj g) (μ : Mem)  (q : Int32 → Mem → Prop) (h : wp_X5_soon  μ q) : Met l yX5_soon (Cond.code yX5_soon cX5_soon 3 (some .int) :: wsL_law) ({ frames := 5, cells := 0, slots := 0, locals := 115 }) (KP g [.ref (g.1 5 0)] μ) (KQi g q) 0 0 (AA g) := by
  refine met_V (own := RX5) hI (by decide) rfl (Nat.le_of_ble_eq_true rfl) rfl (fun p e s m args below meth c X hr hlk => ?_)
  have L28 : ∀ (n : Nat) (b1 : Int32) (b2 : Int32) (μ : Mem), wp_X5_soon_l28  q n b1 b2 μ → V p l e ({ frames := 5, cells := 0, slots := 0, locals := 115 }) s m args below meth c 3 g (AA g) 0 0 (MQ below (KQi g q) args s 0 0 (AA g)) μ 28 [(0, .ref (g.1 5 0)), (1, .int b1), (2, .int b2)] [] := by
    intro n
    induction n with
    | zero => intro b1 b2 μ h; exact h.elim
    | succ n ih =>
      intro b1 b2 μ h
      unfold wp_X5_soon_l28 at h
      refine v_iload_n (pc := 28) X rfl 2 rfl dX5_soon_28 ?_
      refine v_sipush (pc := 29) X cst_s_200 dX5_soon_29 ?_
      refine v_icmp_gt (pc := 32) (tgt := 65) X h dX5_soon_32 (by decide) (fun h => ?_) (fun h => ?_)
      · refine v_bipush (pc := 65) X cst_b_m6 dX5_soon_65 ?_
        exact v_iret (pc := 67) X hr hlk h dX5_soon_67
      · refine v_iload_n (pc := 35) X rfl 1 rfl dX5_soon_35 ?_
        refine v_aload_n (pc := 36) X rfl 0 rfl dX5_soon_36 ?_
        refine gf_5_1 (pc := 37) X Nat.one_pos wd_16 dX5_soon_37 ?_
        refine v_iconst (pc := 40) X cst_i_4 dX5_soon_40 ?_
        refine v_callVi (pc := 41) X (c_X0_thatAre l g hI _ _ (Nat.le_of_ble_eq_true rfl) _ _ h) wd_359 wd_356 wd_357 wd_358 wd_14 ⟨rfl, rfl⟩ hdc_X0_thatAre ⟨Nat.le_of_ble_eq_true rfl, Nat.le_of_ble_eq_true rfl⟩ ⟨Nat.le_refl 0, Nat.le_refl 0⟩ (Nat.le_of_ble_eq_true rfl) rfl rfl (As := [.int (nI 4)]) rfl rfl (Nat.le_of_ble_eq_true rfl) dX5_soon_41 (fun x_2 m_1 h => ?_)
        refine v_callSi (pc := 44) X (c_X5_areAllIn l g hI _ _ _ _ h) wd_560 wd_558 wd_559 wd_2 ⟨rfl, rfl⟩ hdc_X5_areAllIn ⟨Nat.le_of_ble_eq_true rfl, Nat.le_of_ble_eq_true rfl⟩ ⟨Nat.le_refl 0, Nat.le_refl 0⟩ (As := [.int b1, .int x_2]) rfl rfl (Nat.le_of_ble_eq_true rfl) dX5_soon_44 (fun x_4 m_3 h => ?_)
        refine v_if_eq (pc := 47) (tgt := 52) X h dX5_soon_47 (by decide) (fun h => ?_) (fun h => ?_)
        · refine v_aload_n (pc := 52) X rfl 0 rfl dX5_soon_52 ?_
          refine gf_5_1 (pc := 53) X Nat.one_pos wd_16 dX5_soon_53 ?_
          refine v_callVv (pc := 56) X (c_X0_passCycle l g hI _ _ (Nat.le_of_ble_eq_true rfl) _ h) wd_219 wd_216 wd_217 wd_218 wd_14 ⟨rfl, rfl⟩ hdc_X0_passCycle ⟨Nat.le_of_ble_eq_true rfl, Nat.le_of_ble_eq_true rfl⟩ ⟨Nat.le_refl 0, Nat.le_refl 0⟩ (Nat.le_of_ble_eq_true rfl) rfl rfl (As := []) rfl rfl (Nat.le_of_ble_eq_true rfl) dX5_soon_56 (fun m_5 h => ?_)
          refine v_iinc (pc := 59) (lv' := [(2, .int (b2 + 1)), (0, .ref (g.1 5 0)), (1, .int b1)]) (j := 2) X rfl (congrArg (HAdd.hAdd _) cst_i_1) (by decide) rfl dX5_soon_59 ?_
          refine v_goto (pc := 62) (tgt := 28) X dX5_soon_62 (by decide) ?_
          refine v_sub [1, 2, 0] rfl ?_
          exact ih _ _ _ h
        · refine v_iload_n (pc := 50) X rfl 2 rfl dX5_soon_50 ?_
          exact v_iret (pc := 51) X hr hlk h dX5_soon_51
  unfold wp_X5_soon at h
  refine v_aload_n (pc := 0) X rfl 0 rfl dX5_soon_0 ?_
  refine gf_5_0 (pc := 1) X Nat.one_pos wd_15 dX5_soon_1 ?_
  refine v_callVi (pc := 4) X (c_X0_awake l g hI _ _ (Nat.le_of_ble_eq_true rfl) _ h) wd_181 wd_178 wd_179 wd_180 wd_14 ⟨rfl, rfl⟩ hdc_X0_awake ⟨Nat.le_of_ble_eq_true rfl, Nat.le_of_ble_eq_true rfl⟩ ⟨Nat.le_refl 0, Nat.le_refl 0⟩ (Nat.le_of_ble_eq_true rfl) rfl rfl (As := []) rfl rfl (Nat.le_of_ble_eq_true rfl) dX5_soon_4 (fun x_2 m_1 h => ?_)
  refine v_istore_n (pc := 7) (lv' := [(1, .int x_2), (0, .ref (g.1 5 0))]) X rfl (by decide) rfl dX5_soon_7 ?_
  refine v_iload_n (pc := 8) X rfl 0 rfl dX5_soon_8 ?_
  refine v_if_ne (pc := 9) (tgt := 15) X h dX5_soon_9 (by decide) (fun h => ?_) (fun h => ?_)
  · refine v_aload_n (pc := 15) X rfl 1 rfl dX5_soon_15 ?_
    refine gf_5_1 (pc := 16) X Nat.one_pos wd_16 dX5_soon_16 ?_
    refine v_aload_n (pc := 19) X rfl 1 rfl dX5_soon_19 ?_
    refine gf_5_0 (pc := 20) X Nat.one_pos wd_15 dX5_soon_20 ?_
    refine v_callVv (pc := 23) X (c_X0_copy l g hI _ _ (Nat.le_of_ble_eq_true rfl) _ (Nat.le_of_ble_eq_true rfl) _ h) wd_545 wd_542 wd_543 wd_544 wd_14 ⟨rfl, rfl⟩ hdc_X0_copy ⟨Nat.le_of_ble_eq_true rfl, Nat.le_of_ble_eq_true rfl⟩ ⟨Nat.le_refl 0, Nat.le_refl 0⟩ (Nat.le_of_ble_eq_true rfl) rfl rfl (As := [.ref (g.1 0 0)]) rfl rfl (Nat.le_of_ble_eq_true rfl) dX5_soon_23 (fun m_3 h => ?_)
    refine v_iconst (pc := 26) X cst_i_0 dX5_soon_26 ?_
    refine v_istore_n (pc := 27) (lv' := [(2, .int 0), (1, .int x_2), (0, .ref (g.1 5 0))]) X rfl (by decide) rfl dX5_soon_27 ?_
    refine v_sub [2, 1, 0] rfl ?_
    obtain ⟨n, h⟩ := h
    exact L28 n _ _ _ h
  · refine v_bipush (pc := 12) X cst_b_m6 dX5_soon_12 ?_
    exact v_iret (pc := 14) X hr hlk h dX5_soon_14

def wp_X5_staysTogether_l15 (a1 : Int32) (a2 : Int32) (a3 : Int32) (q : Int32 → Mem → Prop) : Nat → Int32 → Int32 → Mem → Prop
  | 0 => fun _ _ _ => False
  | n + 1 => fun b4 b5 μ =>
((a2 ≤ b5 →
q 1 μ) ∧ (¬ a2 ≤ b5 →
wp_X0_passCycle 1 μ (fun m_1 =>
wp_X0_thatAre 1 (nI 4) m_1 (fun x_3 m_2 =>
∀ y_4 : Int32, y_4 = (x_3 &&& a1) →
wp_X5_areAllIn b4 y_4 m_2 (fun x_6 m_5 =>
((x_6 = 0 →
q 0 m_5) ∧ (¬ x_6 = 0 →
wp_X0_apart 1 y_4 m_5 (fun x_8 m_7 =>
((x_8 ≤ a3 →
wp_X5_staysTogether_l15 a1 a2 a3 q n b4 (b5 + 1) m_7) ∧ (¬ x_8 ≤ a3 →
q 0 m_7))))))))))
def wp_X5_staysTogether (a1 : Int32) (a2 : Int32) (a3 : Int32) (μ : Mem) (q : Int32 → Mem → Prop) : Prop :=
wp_X0_thatAre 1 (nI 4) μ (fun x_2 m_1 =>
∀ y_3 : Int32, y_3 = (x_2 &&& a1) →
∃ n : Nat, wp_X5_staysTogether_l15 a1 a2 a3 q n y_3 0 m_1)
set_option maxRecDepth 100000 in
set_option maxHeartbeats 4000000 in
theorem c_X5_staysTogether (l : Launch) (g : GG) (hI : Inj g) (μ : Mem) (a1 : Int32) (a2 : Int32) (a3 : Int32) (q : Int32 → Mem → Prop) (h : wp_X5_staysTogether a1 a2 a3 μ q) : Met l yX5_staysTogether (Cond.code yX5_staysTogether cX5_staysTogether 7 (some .boolean) :: wsL_law) ({ frames := 5, cells := 0, slots := 0, locals := 115 }) (KP g [.ref (g.1 5 0), .int a1, .int a2, .int a3] μ) (KQi g q) 0 0 (AA g) := by
  refine met_V (own := RX5) hI (by decide) rfl (Nat.le_of_ble_eq_true rfl) rfl (fun p e s m args below meth c X hr hlk => ?_)
  have L15 : ∀ (n : Nat) (b4 : Int32) (b5 : Int32) (μ : Mem), wp_X5_staysTogether_l15 a1 a2 a3 q n b4 b5 μ → V p l e ({ frames := 5, cells := 0, slots := 0, locals := 115 }) s m args below meth c 7 g (AA g) 0 0 (MQ below (KQi g q) args s 0 0 (AA g)) μ 15 [(0, .ref (g.1 5 0)), (1, .int a1), (2, .int a2), (3, .int a3), (4, .int b4), (5, .int b5)] [] := by
    intro n
    induction n with
    | zero => intro b4 b5 μ h; exact h.elim
    | succ n ih =>
      intro b4 b5 μ h
      unfold wp_X5_staysTogether_l15 at h
      refine v_iload (pc := 15) X 5 rfl dX5_staysTogether_15 ?_
      refine v_iload_n (pc := 17) X rfl 2 rfl dX5_staysTogether_17 ?_
      refine v_icmp_ge (pc := 18) (tgt := 71) X h dX5_staysTogether_18 (by decide) (fun h => ?_) (fun h => ?_)
      · refine v_iconst (pc := 71) X cst_i_1 dX5_staysTogether_71 ?_
        exact v_zret (pc := 72) X hr hlk ⟨nz_1, h⟩ dX5_staysTogether_72
      · refine v_aload_n (pc := 21) X rfl 0 rfl dX5_staysTogether_21 ?_
        refine gf_5_1 (pc := 22) X Nat.one_pos wd_16 dX5_staysTogether_22 ?_
        refine v_callVv (pc := 25) X (c_X0_passCycle l g hI _ _ (Nat.le_of_ble_eq_true rfl) _ h) wd_219 wd_216 wd_217 wd_218 wd_14 ⟨rfl, rfl⟩ hdc_X0_passCycle ⟨Nat.le_of_ble_eq_true rfl, Nat.le_of_ble_eq_true rfl⟩ ⟨Nat.le_refl 0, Nat.le_refl 0⟩ (Nat.le_of_ble_eq_true rfl) rfl rfl (As := []) rfl rfl (Nat.le_of_ble_eq_true rfl) dX5_staysTogether_25 (fun m_1 h => ?_)
        refine v_aload_n (pc := 28) X rfl 0 rfl dX5_staysTogether_28 ?_
        refine gf_5_1 (pc := 29) X Nat.one_pos wd_16 dX5_staysTogether_29 ?_
        refine v_iconst (pc := 32) X cst_i_4 dX5_staysTogether_32 ?_
        refine v_callVi (pc := 33) X (c_X0_thatAre l g hI _ _ (Nat.le_of_ble_eq_true rfl) _ _ h) wd_359 wd_356 wd_357 wd_358 wd_14 ⟨rfl, rfl⟩ hdc_X0_thatAre ⟨Nat.le_of_ble_eq_true rfl, Nat.le_of_ble_eq_true rfl⟩ ⟨Nat.le_refl 0, Nat.le_refl 0⟩ (Nat.le_of_ble_eq_true rfl) rfl rfl (As := [.int (nI 4)]) rfl rfl (Nat.le_of_ble_eq_true rfl) dX5_staysTogether_33 (fun x_3 m_2 h => ?_)
        refine v_iload_n (pc := 36) X rfl 1 rfl dX5_staysTogether_36 ?_
        refine v_iand (pc := 37) X dX5_staysTogether_37 ?_
        refine v_nm h (fun y_4 h => ?_)
        refine v_istore (pc := 38) (lv' := [(6, .int y_4), (0, .ref (g.1 5 0)), (1, .int a1), (2, .int a2), (3, .int a3), (4, .int b4), (5, .int b5)]) X (by decide) rfl dX5_staysTogether_38 ?_
        refine v_iload (pc := 40) X 5 rfl dX5_staysTogether_40 ?_
        refine v_iload (pc := 42) X 0 rfl dX5_staysTogether_42 ?_
        refine v_callSi (pc := 44) X (c_X5_areAllIn l g hI _ _ _ _ h) wd_560 wd_558 wd_559 wd_2 ⟨rfl, rfl⟩ hdc_X5_areAllIn ⟨Nat.le_of_ble_eq_true rfl, Nat.le_of_ble_eq_true rfl⟩ ⟨Nat.le_refl 0, Nat.le_refl 0⟩ (As := [.int b4, .int y_4]) rfl rfl (Nat.le_of_ble_eq_true rfl) dX5_staysTogether_44 (fun x_6 m_5 h => ?_)
        refine v_if_eq (pc := 47) (tgt := 63) X h dX5_staysTogether_47 (by decide) (fun h => ?_) (fun h => ?_)
        · refine v_iconst (pc := 63) X cst_i_0 dX5_staysTogether_63 ?_
          exact v_zret (pc := 64) X hr hlk ⟨nz_0, h⟩ dX5_staysTogether_64
        · refine v_aload_n (pc := 50) X rfl 1 rfl dX5_staysTogether_50 ?_
          refine gf_5_1 (pc := 51) X Nat.one_pos wd_16 dX5_staysTogether_51 ?_
          refine v_iload (pc := 54) X 0 rfl dX5_staysTogether_54 ?_
          refine v_callVi (pc := 56) X (c_X0_apart l g hI _ _ (Nat.le_of_ble_eq_true rfl) _ _ h) wd_527 wd_524 wd_525 wd_526 wd_14 ⟨rfl, rfl⟩ hdc_X0_apart ⟨Nat.le_of_ble_eq_true rfl, Nat.le_of_ble_eq_true rfl⟩ ⟨Nat.le_refl 0, Nat.le_refl 0⟩ (Nat.le_of_ble_eq_true rfl) rfl rfl (As := [.int y_4]) rfl rfl (Nat.le_of_ble_eq_true rfl) dX5_staysTogether_56 (fun x_8 m_7 h => ?_)
          refine v_iload_n (pc := 59) X rfl 4 rfl dX5_staysTogether_59 ?_
          refine v_icmp_le (pc := 60) (tgt := 65) X h dX5_staysTogether_60 (by decide) (fun h => ?_) (fun h => ?_)
          · refine v_iinc (pc := 65) (lv' := [(5, .int (b5 + 1)), (6, .int y_4), (0, .ref (g.1 5 0)), (1, .int a1), (2, .int a2), (3, .int a3), (4, .int b4)]) (j := 6) X rfl (congrArg (HAdd.hAdd _) cst_i_1) (by decide) rfl dX5_staysTogether_65 ?_
            refine v_goto (pc := 68) (tgt := 15) X dX5_staysTogether_68 (by decide) ?_
            refine v_sub [2, 3, 4, 5, 6, 0] rfl ?_
            exact ih _ _ _ h
          · refine v_iconst (pc := 63) X cst_i_0 dX5_staysTogether_63 ?_
            exact v_zret (pc := 64) X hr hlk ⟨nz_0, h⟩ dX5_staysTogether_64
  unfold wp_X5_staysTogether at h
  refine v_aload_n (pc := 0) X rfl 0 rfl dX5_staysTogether_0 ?_
  refine gf_5_1 (pc := 1) X Nat.one_pos wd_16 dX5_staysTogether_1 ?_
  refine v_iconst (pc := 4) X cst_i_4 dX5_staysTogether_4 ?_
  refine v_callVi (pc := 5) X (c_X0_thatAre l g hI _ _ (Nat.le_of_ble_eq_true rfl) _ _ h) wd_359 wd_356 wd_357 wd_358 wd_14 ⟨rfl, rfl⟩ hdc_X0_thatAre ⟨Nat.le_of_ble_eq_true rfl, Nat.le_of_ble_eq_true rfl⟩ ⟨Nat.le_refl 0, Nat.le_refl 0⟩ (Nat.le_of_ble_eq_true rfl) rfl rfl (As := [.int (nI 4)]) rfl rfl (Nat.le_of_ble_eq_true rfl) dX5_staysTogether_5 (fun x_2 m_1 h => ?_)
  refine v_iload_n (pc := 8) X rfl 1 rfl dX5_staysTogether_8 ?_
  refine v_iand (pc := 9) X dX5_staysTogether_9 ?_
  refine v_nm h (fun y_3 h => ?_)
  refine v_istore (pc := 10) (lv' := [(4, .int y_3), (0, .ref (g.1 5 0)), (1, .int a1), (2, .int a2), (3, .int a3)]) X (by decide) rfl dX5_staysTogether_10 ?_
  refine v_iconst (pc := 12) X cst_i_0 dX5_staysTogether_12 ?_
  refine v_istore (pc := 13) (lv' := [(5, .int 0), (4, .int y_3), (0, .ref (g.1 5 0)), (1, .int a1), (2, .int a2), (3, .int a3)]) X (by decide) rfl dX5_staysTogether_13 ?_
  refine v_sub [2, 3, 4, 5, 1, 0] rfl ?_
  obtain ⟨n, h⟩ := h
  exact L15 n _ _ _ h

def wp_X5_bears_l38 (a1 : Int32) (a2 : Int32) (a3 : Int32) (q : Int32 → Mem → Prop) : Nat → Int32 → Mem → Prop
  | 0 => fun _ _ => False
  | n + 1 => fun b4 μ =>
((b4 < 0 →
q (-6) μ) ∧ (¬ b4 < 0 →
wp_X0_copy 1 0 μ (fun m_1 =>
vp_in a1 6 ∧ ∀ j_2 : Nat, j_2 = 6 * 1 + (a1 : Int32).toNatClampNeg →
∀ m_3 : Mem, m_3 = ms m_1 3 j_2 4 b4 →
wp_X5_bitOf a1 m_3 (fun x_5 m_4 =>
wp_X5_staysTogether (x_5 ^^^ (-1)) a2 a3 m_4 (fun x_7 m_6 =>
((x_7 = 0 →
wp_X5_bears_l38 a1 a2 a3 q n (b4 + (-10)) m_6) ∧ (¬ x_7 = 0 →
q b4 m_6)))))))
def wp_X5_bears (a1 : Int32) (a2 : Int32) (a3 : Int32) (μ : Mem) (q : Int32 → Mem → Prop) : Prop :=
wp_X5_isNode a1 μ (fun x_2 m_1 =>
((¬ x_2 = 0 →
wp_X5_isWithin a2 1 (nI 40) m_1 (fun x_4 m_3 =>
((x_4 = 0 →
q (-2) m_3) ∧ (¬ x_4 = 0 →
wp_X5_isWithin a3 0 (nI 999) m_3 (fun x_6 m_5 =>
((¬ x_6 = 0 →
∃ n : Nat, wp_X5_bears_l38 a1 a2 a3 q n (nI 400) m_5) ∧ (x_6 = 0 →
q (-2) m_5))))))) ∧ (x_2 = 0 →
q (-1) m_1)))
set_option maxRecDepth 100000 in
set_option maxHeartbeats 4000000 in
theorem c_X5_bears (l : Launch) (g : GG) (hI : Inj g) (μ : Mem) (a1 : Int32) (a2 : Int32) (a3 : Int32) (q : Int32 → Mem → Prop) (h : wp_X5_bears a1 a2 a3 μ q) : Met l yX5_bears (Cond.code yX5_bears cX5_bears 5 (some .int) :: wsL_law) ({ frames := 6, cells := 0, slots := 0, locals := 141 }) (KP g [.ref (g.1 5 0), .int a1, .int a2, .int a3] μ) (KQi g q) 0 0 (AA g) := by
  refine met_V (own := RX5) hI (by decide) rfl (Nat.le_of_ble_eq_true rfl) rfl (fun p e s m args below meth c X hr hlk => ?_)
  have L38 : ∀ (n : Nat) (b4 : Int32) (μ : Mem), wp_X5_bears_l38 a1 a2 a3 q n b4 μ → V p l e ({ frames := 6, cells := 0, slots := 0, locals := 141 }) s m args below meth c 5 g (AA g) 0 0 (MQ below (KQi g q) args s 0 0 (AA g)) μ 38 [(0, .ref (g.1 5 0)), (1, .int a1), (2, .int a2), (3, .int a3), (4, .int b4)] [] := by
    intro n
    induction n with
    | zero => intro b4 μ h; exact h.elim
    | succ n ih =>
      intro b4 μ h
      unfold wp_X5_bears_l38 at h
      refine v_iload (pc := 38) X 4 rfl dX5_bears_38 ?_
      refine v_if_lt (pc := 40) (tgt := 92) X h dX5_bears_40 (by decide) (fun h => ?_) (fun h => ?_)
      · refine v_bipush (pc := 92) X cst_b_m6 dX5_bears_92 ?_
        exact v_iret (pc := 94) X hr hlk h dX5_bears_94
      · refine v_aload_n (pc := 43) X rfl 0 rfl dX5_bears_43 ?_
        refine gf_5_1 (pc := 44) X Nat.one_pos wd_16 dX5_bears_44 ?_
        refine v_aload_n (pc := 47) X rfl 0 rfl dX5_bears_47 ?_
        refine gf_5_0 (pc := 48) X Nat.one_pos wd_15 dX5_bears_48 ?_
        refine v_callVv (pc := 51) X (c_X0_copy l g hI _ _ (Nat.le_of_ble_eq_true rfl) _ (Nat.le_of_ble_eq_true rfl) _ h) wd_545 wd_542 wd_543 wd_544 wd_14 ⟨rfl, rfl⟩ hdc_X0_copy ⟨Nat.le_of_ble_eq_true rfl, Nat.le_of_ble_eq_true rfl⟩ ⟨Nat.le_refl 0, Nat.le_refl 0⟩ (Nat.le_of_ble_eq_true rfl) rfl rfl (As := [.ref (g.1 0 0)]) rfl rfl (Nat.le_of_ble_eq_true rfl) dX5_bears_51 (fun m_1 h => ?_)
        refine v_aload_n (pc := 54) X rfl 0 rfl dX5_bears_54 ?_
        refine gf_5_1 (pc := 55) X Nat.one_pos wd_16 dX5_bears_55 ?_
        refine gf_0_0 (pc := 58) X (Nat.le_of_ble_eq_true rfl) wd_109 dX5_bears_58 ?_
        refine v_iload_n (pc := 61) X rfl 1 rfl dX5_bears_61 ?_
        refine v_nodes (pc := 62) X (Nat.le_of_ble_eq_true rfl) h dX5_bears_62 (fun j_2 hj_2 h => ?_)
        refine v_iload (pc := 63) X 4 rfl dX5_bears_63 ?_
        refine pf_3_4 (pc := 65) X hj_2 wd_148 h dX5_bears_65 (fun m_3 h => ?_)
        refine v_aload_n (pc := 68) X rfl 0 rfl dX5_bears_68 ?_
        refine v_iload_n (pc := 69) X rfl 1 rfl dX5_bears_69 ?_
        refine v_callSi (pc := 70) X (c_X5_bitOf l g hI _ _ _ h) wd_184 wd_581 wd_183 wd_2 ⟨rfl, rfl⟩ hdc_X5_bitOf ⟨Nat.le_of_ble_eq_true rfl, Nat.le_of_ble_eq_true rfl⟩ ⟨Nat.le_refl 0, Nat.le_refl 0⟩ (As := [.int a1]) rfl rfl (Nat.le_of_ble_eq_true rfl) dX5_bears_70 (fun x_5 m_4 h => ?_)
        refine v_iconst (pc := 73) X cst_i_m1 dX5_bears_73 ?_
        refine v_ixor (pc := 74) X dX5_bears_74 ?_
        refine v_iload_n (pc := 75) X rfl 2 rfl dX5_bears_75 ?_
        refine v_iload_n (pc := 76) X rfl 3 rfl dX5_bears_76 ?_
        refine v_callVi (pc := 77) X (c_X5_staysTogether l g hI _ _ _ _ _ h) wd_585 wd_582 wd_583 wd_584 wd_2 ⟨rfl, rfl⟩ hdc_X5_staysTogether ⟨Nat.le_of_ble_eq_true rfl, Nat.le_of_ble_eq_true rfl⟩ ⟨Nat.le_refl 0, Nat.le_refl 0⟩ Nat.one_pos rfl rfl (As := [.int (x_5 ^^^ (-1)), .int a2, .int a3]) rfl rfl (Nat.le_of_ble_eq_true rfl) dX5_bears_77 (fun x_7 m_6 h => ?_)
        refine v_if_eq (pc := 80) (tgt := 86) X h dX5_bears_80 (by decide) (fun h => ?_) (fun h => ?_)
        · refine v_iinc (pc := 86) (lv' := [(4, .int (b4 + (-10))), (0, .ref (g.1 5 0)), (1, .int a1), (2, .int a2), (3, .int a3)]) (j := 4) X rfl (congrArg (HAdd.hAdd _) cst_i_m10) (by decide) rfl dX5_bears_86 ?_
          refine v_goto (pc := 89) (tgt := 38) X dX5_bears_89 (by decide) ?_
          refine v_sub [1, 2, 3, 4, 0] rfl ?_
          exact ih _ _ h
        · refine v_iload (pc := 83) X 4 rfl dX5_bears_83 ?_
          exact v_iret (pc := 85) X hr hlk h dX5_bears_85
  unfold wp_X5_bears at h
  refine v_iload_n (pc := 0) X rfl 1 rfl dX5_bears_0 ?_
  refine v_callSi (pc := 1) X (c_X5_isNode l g hI _ _ _ h) wd_116 wd_114 wd_115 wd_2 ⟨rfl, rfl⟩ hdc_X5_isNode ⟨Nat.le_of_ble_eq_true rfl, Nat.le_of_ble_eq_true rfl⟩ ⟨Nat.le_refl 0, Nat.le_refl 0⟩ (As := [.int a1]) rfl rfl (Nat.le_of_ble_eq_true rfl) dX5_bears_1 (fun x_2 m_1 h => ?_)
  refine v_if_ne (pc := 4) (tgt := 9) X h dX5_bears_4 (by decide) (fun h => ?_) (fun h => ?_)
  · refine v_iload_n (pc := 9) X rfl 2 rfl dX5_bears_9 ?_
    refine v_iconst (pc := 10) X cst_i_1 dX5_bears_10 ?_
    refine v_bipush (pc := 11) X cst_b_40 dX5_bears_11 ?_
    refine v_callSi (pc := 13) X (c_X5_isWithin l g hI _ _ _ _ _ h) wd_119 wd_117 wd_118 wd_2 ⟨rfl, rfl⟩ hdc_X5_isWithin ⟨Nat.le_of_ble_eq_true rfl, Nat.le_of_ble_eq_true rfl⟩ ⟨Nat.le_refl 0, Nat.le_refl 0⟩ (As := [.int a2, .int 1, .int (nI 40)]) rfl rfl (Nat.le_of_ble_eq_true rfl) dX5_bears_13 (fun x_4 m_3 h => ?_)
    refine v_if_eq (pc := 16) (tgt := 30) X h dX5_bears_16 (by decide) (fun h => ?_) (fun h => ?_)
    · refine v_bipush (pc := 30) X cst_b_m2 dX5_bears_30 ?_
      exact v_iret (pc := 32) X hr hlk h dX5_bears_32
    · refine v_iload_n (pc := 19) X rfl 3 rfl dX5_bears_19 ?_
      refine v_iconst (pc := 20) X cst_i_0 dX5_bears_20 ?_
      refine v_sipush (pc := 21) X cst_s_999 dX5_bears_21 ?_
      refine v_callSi (pc := 24) X (c_X5_isWithin l g hI _ _ _ _ _ h) wd_119 wd_117 wd_118 wd_2 ⟨rfl, rfl⟩ hdc_X5_isWithin ⟨Nat.le_of_ble_eq_true rfl, Nat.le_of_ble_eq_true rfl⟩ ⟨Nat.le_refl 0, Nat.le_refl 0⟩ (As := [.int a3, .int 0, .int (nI 999)]) rfl rfl (Nat.le_of_ble_eq_true rfl) dX5_bears_24 (fun x_6 m_5 h => ?_)
      refine v_if_ne (pc := 27) (tgt := 33) X h dX5_bears_27 (by decide) (fun h => ?_) (fun h => ?_)
      · refine v_sipush (pc := 33) X cst_s_400 dX5_bears_33 ?_
        refine v_istore (pc := 36) (lv' := [(4, .int (nI 400)), (0, .ref (g.1 5 0)), (1, .int a1), (2, .int a2), (3, .int a3)]) X (by decide) rfl dX5_bears_36 ?_
        refine v_sub [1, 2, 3, 4, 0] rfl ?_
        obtain ⟨n, h⟩ := h
        exact L38 n _ _ h
      · refine v_bipush (pc := 30) X cst_b_m2 dX5_bears_30 ?_
        exact v_iret (pc := 32) X hr hlk h dX5_bears_32
  · refine v_iconst (pc := 7) X cst_i_m1 dX5_bears_7 ?_
    exact v_iret (pc := 8) X hr hlk h dX5_bears_8

def wp_X5_image (a1 : Int32) (μ : Mem) (q : Int32 → Mem → Prop) : Prop :=
wp_X5_isWithin a1 0 1 μ (fun x_2 m_1 =>
((¬ x_2 = 0 →
vp_in a1 2 ∧ ∀ j_3 : Nat, j_3 = 2 + (a1 : Int32).toNatClampNeg →
wp_X0_copy j_3 0 m_1 (fun m_4 =>
∀ x_5 : Int32, x_5 = m_4 5 0 3 →
wp_X5_bitOf a1 m_4 (fun x_7 m_6 =>
∀ m_8 : Mem, m_8 = ms m_6 5 0 3 (x_5 ||| x_7) →
q 1 m_8))) ∧ (x_2 = 0 →
q (-2) m_1)))
set_option maxRecDepth 100000 in
set_option maxHeartbeats 4000000 in
theorem c_X5_image (l : Launch) (g : GG) (hI : Inj g) (μ : Mem) (a1 : Int32) (q : Int32 → Mem → Prop) (h : wp_X5_image a1 μ q) : Met l yX5_image (Cond.code yX5_image cX5_image 2 (some .int) :: wsL_law) ({ frames := 3, cells := 0, slots := 0, locals := 65 }) (KP g [.ref (g.1 5 0), .int a1] μ) (KQi g q) 0 0 (AA g) := by
  refine met_V (own := RX5) hI (by decide) rfl (Nat.le_of_ble_eq_true rfl) rfl (fun p e s m args below meth c X hr hlk => ?_)
  unfold wp_X5_image at h
  refine v_iload_n (pc := 0) X rfl 1 rfl dX5_image_0 ?_
  refine v_iconst (pc := 1) X cst_i_0 dX5_image_1 ?_
  refine v_iconst (pc := 2) X cst_i_1 dX5_image_2 ?_
  refine v_callSi (pc := 3) X (c_X5_isWithin l g hI _ _ _ _ _ h) wd_119 wd_117 wd_118 wd_2 ⟨rfl, rfl⟩ hdc_X5_isWithin ⟨Nat.le_of_ble_eq_true rfl, Nat.le_of_ble_eq_true rfl⟩ ⟨Nat.le_refl 0, Nat.le_refl 0⟩ (As := [.int a1, .int 0, .int 1]) rfl rfl (Nat.le_of_ble_eq_true rfl) dX5_image_3 (fun x_2 m_1 h => ?_)
  refine v_if_ne (pc := 6) (tgt := 12) X h dX5_image_6 (by decide) (fun h => ?_) (fun h => ?_)
  · refine v_aload_n (pc := 12) X rfl 0 rfl dX5_image_12 ?_
    refine gf_5_2 (pc := 13) X Nat.one_pos wd_17 dX5_image_13 ?_
    refine v_iload_n (pc := 16) X rfl 1 rfl dX5_image_16 ?_
    refine v_images (pc := 17) X h dX5_image_17 (fun j_3 hj_3 h => ?_)
    refine v_aload_n (pc := 18) X rfl 0 rfl dX5_image_18 ?_
    refine gf_5_0 (pc := 19) X Nat.one_pos wd_15 dX5_image_19 ?_
    refine v_callVv (pc := 22) X (c_X0_copy l g hI _ _ hj_3 _ (Nat.le_of_ble_eq_true rfl) _ h) wd_545 wd_542 wd_543 wd_544 wd_14 ⟨rfl, rfl⟩ hdc_X0_copy ⟨Nat.le_of_ble_eq_true rfl, Nat.le_of_ble_eq_true rfl⟩ ⟨Nat.le_refl 0, Nat.le_refl 0⟩ hj_3 rfl rfl (As := [.ref (g.1 0 0)]) rfl rfl (Nat.le_of_ble_eq_true rfl) dX5_image_22 (fun m_4 h => ?_)
    refine v_aload_n (pc := 25) X rfl 0 rfl dX5_image_25 ?_
    refine v_dup (pc := 26) X rfl dX5_image_26 ?_
    refine gf_5_3 (pc := 27) X Nat.one_pos wd_18 h dX5_image_27 (fun x_5 h => ?_)
    refine v_iload_n (pc := 30) X rfl 1 rfl dX5_image_30 ?_
    refine v_callSi (pc := 31) X (c_X5_bitOf l g hI _ _ _ h) wd_184 wd_581 wd_183 wd_2 ⟨rfl, rfl⟩ hdc_X5_bitOf ⟨Nat.le_of_ble_eq_true rfl, Nat.le_of_ble_eq_true rfl⟩ ⟨Nat.le_refl 0, Nat.le_refl 0⟩ (As := [.int a1]) rfl rfl (Nat.le_of_ble_eq_true rfl) dX5_image_31 (fun x_7 m_6 h => ?_)
    refine v_ior (pc := 34) X dX5_image_34 ?_
    refine pf_5_3 (pc := 35) X Nat.one_pos wd_18 h dX5_image_35 (fun m_8 h => ?_)
    refine v_iconst (pc := 38) X cst_i_1 dX5_image_38 ?_
    exact v_iret (pc := 39) X hr hlk h dX5_image_39
  · refine v_bipush (pc := 9) X cst_b_m2 dX5_image_9 ?_
    exact v_iret (pc := 11) X hr hlk h dX5_image_11

def wp_X5_restore (a1 : Int32) (μ : Mem) (q : Int32 → Mem → Prop) : Prop :=
wp_X5_isWithin a1 0 1 μ (fun x_2 m_1 =>
((¬ x_2 = 0 →
∀ x_3 : Int32, x_3 = m_1 5 0 3 →
wp_X5_isIn x_3 a1 m_1 (fun x_5 m_4 =>
((¬ x_5 = 0 →
vp_in a1 2 ∧ ∀ j_6 : Nat, j_6 = 2 + (a1 : Int32).toNatClampNeg →
wp_X0_copy 0 j_6 m_4 (fun m_7 =>
q 1 m_7)) ∧ (x_5 = 0 →
q (-3) m_4)))) ∧ (x_2 = 0 →
q (-2) m_1)))
set_option maxRecDepth 100000 in
set_option maxHeartbeats 4000000 in
theorem c_X5_restore (l : Launch) (g : GG) (hI : Inj g) (μ : Mem) (a1 : Int32) (q : Int32 → Mem → Prop) (h : wp_X5_restore a1 μ q) : Met l yX5_restore (Cond.code yX5_restore cX5_restore 2 (some .int) :: wsL_law) ({ frames := 3, cells := 0, slots := 0, locals := 65 }) (KP g [.ref (g.1 5 0), .int a1] μ) (KQi g q) 0 0 (AA g) := by
  refine met_V (own := RX5) hI (by decide) rfl (Nat.le_of_ble_eq_true rfl) rfl (fun p e s m args below meth c X hr hlk => ?_)
  unfold wp_X5_restore at h
  refine v_iload_n (pc := 0) X rfl 1 rfl dX5_restore_0 ?_
  refine v_iconst (pc := 1) X cst_i_0 dX5_restore_1 ?_
  refine v_iconst (pc := 2) X cst_i_1 dX5_restore_2 ?_
  refine v_callSi (pc := 3) X (c_X5_isWithin l g hI _ _ _ _ _ h) wd_119 wd_117 wd_118 wd_2 ⟨rfl, rfl⟩ hdc_X5_isWithin ⟨Nat.le_of_ble_eq_true rfl, Nat.le_of_ble_eq_true rfl⟩ ⟨Nat.le_refl 0, Nat.le_refl 0⟩ (As := [.int a1, .int 0, .int 1]) rfl rfl (Nat.le_of_ble_eq_true rfl) dX5_restore_3 (fun x_2 m_1 h => ?_)
  refine v_if_ne (pc := 6) (tgt := 12) X h dX5_restore_6 (by decide) (fun h => ?_) (fun h => ?_)
  · refine v_aload_n (pc := 12) X rfl 0 rfl dX5_restore_12 ?_
    refine gf_5_3 (pc := 13) X Nat.one_pos wd_18 h dX5_restore_13 (fun x_3 h => ?_)
    refine v_iload_n (pc := 16) X rfl 1 rfl dX5_restore_16 ?_
    refine v_callSi (pc := 17) X (c_X5_isIn l g hI _ _ _ _ h) wd_243 wd_480 wd_242 wd_2 ⟨rfl, rfl⟩ hdc_X5_isIn ⟨Nat.le_of_ble_eq_true rfl, Nat.le_of_ble_eq_true rfl⟩ ⟨Nat.le_refl 0, Nat.le_refl 0⟩ (As := [.int x_3, .int a1]) rfl rfl (Nat.le_of_ble_eq_true rfl) dX5_restore_17 (fun x_5 m_4 h => ?_)
    refine v_if_ne (pc := 20) (tgt := 26) X h dX5_restore_20 (by decide) (fun h => ?_) (fun h => ?_)
    · refine v_aload_n (pc := 26) X rfl 0 rfl dX5_restore_26 ?_
      refine gf_5_0 (pc := 27) X Nat.one_pos wd_15 dX5_restore_27 ?_
      refine v_aload_n (pc := 30) X rfl 0 rfl dX5_restore_30 ?_
      refine gf_5_2 (pc := 31) X Nat.one_pos wd_17 dX5_restore_31 ?_
      refine v_iload_n (pc := 34) X rfl 1 rfl dX5_restore_34 ?_
      refine v_images (pc := 35) X h dX5_restore_35 (fun j_6 hj_6 h => ?_)
      refine v_callVv (pc := 36) X (c_X0_copy l g hI _ _ (Nat.le_of_ble_eq_true rfl) _ hj_6 _ h) wd_545 wd_542 wd_543 wd_544 wd_14 ⟨rfl, rfl⟩ hdc_X0_copy ⟨Nat.le_of_ble_eq_true rfl, Nat.le_of_ble_eq_true rfl⟩ ⟨Nat.le_refl 0, Nat.le_refl 0⟩ (Nat.le_of_ble_eq_true rfl) rfl rfl (As := [.ref (g.1 0 j_6)]) rfl rfl (Nat.le_of_ble_eq_true rfl) dX5_restore_36 (fun m_7 h => ?_)
      refine v_iconst (pc := 39) X cst_i_1 dX5_restore_39 ?_
      exact v_iret (pc := 40) X hr hlk h dX5_restore_40
    · refine v_bipush (pc := 23) X cst_b_m3 dX5_restore_23 ?_
      exact v_iret (pc := 25) X hr hlk h dX5_restore_25
  · refine v_bipush (pc := 9) X cst_b_m2 dX5_restore_9 ?_
    exact v_iret (pc := 11) X hr hlk h dX5_restore_11

def wp_X5_count (a1 : Int32) (μ : Mem) (q : Int32 → Mem → Prop) : Prop :=
((a1 = 0 →
∀ x_2 : Int32, x_2 = μ 0 0 4 →
q x_2 μ) ∧ (¬ a1 = 0 →
((a1 = 1 →
∀ x_4 : Int32, x_4 = μ 0 0 5 →
q x_4 μ) ∧ (¬ a1 = 1 →
((a1 = nI 2 →
wp_X0_thatAre 0 (nI 4) μ (fun x_7 m_6 =>
q x_7 m_6)) ∧ (¬ a1 = nI 2 →
((a1 = nI 3 →
wp_X0_thatAre 0 (nI 6) μ (fun x_10 m_9 =>
q x_10 m_9)) ∧ (¬ a1 = nI 3 →
((a1 = nI 4 →
∀ x_12 : Int32, x_12 = μ 0 0 3 →
q x_12 μ) ∧ (¬ a1 = nI 4 →
((a1 = nI 5 →
∀ x_14 : Int32, x_14 = μ 5 0 3 →
q x_14 μ) ∧ (¬ a1 = nI 5 →
q (-2) μ))))))))))))
set_option maxRecDepth 100000 in
set_option maxHeartbeats 4000000 in
theorem c_X5_count (l : Launch) (g : GG) (hI : Inj g) (μ : Mem) (a1 : Int32) (q : Int32 → Mem → Prop) (h : wp_X5_count a1 μ q) : Met l yX5_count (Cond.code yX5_count cX5_count 2 (some .int) :: wsL_law) ({ frames := 2, cells := 0, slots := 0, locals := 43 }) (KP g [.ref (g.1 5 0), .int a1] μ) (KQi g q) 0 0 (AA g) := by
  refine met_V (own := RX5) hI (by decide) rfl (Nat.le_of_ble_eq_true rfl) rfl (fun p e s m args below meth c X hr hlk => ?_)
  unfold wp_X5_count at h
  refine v_iload_n (pc := 0) X rfl 1 rfl dX5_count_0 ?_
  by_cases e_1 : a1 = 0
  · replace h := h.1 e_1
    refine v_tswK (pc := 1) (tgt := 40) X 0 (by rw [e_1]; decide) (by decide) (by decide) rfl (by decide) dX5_count_1 ?_
    refine v_aload_n (pc := 40) X rfl 0 rfl dX5_count_40 ?_
    refine gf_5_0 (pc := 41) X Nat.one_pos wd_15 dX5_count_41 ?_
    refine gf_0_4 (pc := 44) X (Nat.le_of_ble_eq_true rfl) wd_614 h dX5_count_44 (fun x_2 h => ?_)
    exact v_iret (pc := 47) X hr hlk h dX5_count_47
  · replace h := h.2 e_1
    by_cases e_3 : a1 = 1
    · replace h := h.1 e_3
      refine v_tswK (pc := 1) (tgt := 48) X 1 (by rw [e_3]; decide) (by decide) (by decide) rfl (by decide) dX5_count_1 ?_
      refine v_aload_n (pc := 48) X rfl 0 rfl dX5_count_48 ?_
      refine gf_5_0 (pc := 49) X Nat.one_pos wd_15 dX5_count_49 ?_
      refine gf_0_5 (pc := 52) X (Nat.le_of_ble_eq_true rfl) wd_615 h dX5_count_52 (fun x_4 h => ?_)
      exact v_iret (pc := 55) X hr hlk h dX5_count_55
    · replace h := h.2 e_3
      by_cases e_5 : a1 = nI 2
      · replace h := h.1 e_5
        refine v_tswK (pc := 1) (tgt := 56) X 2 (by rw [e_5]; decide) (by decide) (by decide) rfl (by decide) dX5_count_1 ?_
        refine v_aload_n (pc := 56) X rfl 0 rfl dX5_count_56 ?_
        refine gf_5_0 (pc := 57) X Nat.one_pos wd_15 dX5_count_57 ?_
        refine v_iconst (pc := 60) X cst_i_4 dX5_count_60 ?_
        refine v_callVi (pc := 61) X (c_X0_thatAre l g hI _ _ (Nat.le_of_ble_eq_true rfl) _ _ h) wd_359 wd_356 wd_357 wd_358 wd_14 ⟨rfl, rfl⟩ hdc_X0_thatAre ⟨Nat.le_of_ble_eq_true rfl, Nat.le_of_ble_eq_true rfl⟩ ⟨Nat.le_refl 0, Nat.le_refl 0⟩ (Nat.le_of_ble_eq_true rfl) rfl rfl (As := [.int (nI 4)]) rfl rfl (Nat.le_of_ble_eq_true rfl) dX5_count_61 (fun x_7 m_6 h => ?_)
        exact v_iret (pc := 64) X hr hlk h dX5_count_64
      · replace h := h.2 e_5
        by_cases e_8 : a1 = nI 3
        · replace h := h.1 e_8
          refine v_tswK (pc := 1) (tgt := 65) X 3 (by rw [e_8]; decide) (by decide) (by decide) rfl (by decide) dX5_count_1 ?_
          refine v_aload_n (pc := 65) X rfl 0 rfl dX5_count_65 ?_
          refine gf_5_0 (pc := 66) X Nat.one_pos wd_15 dX5_count_66 ?_
          refine v_bipush (pc := 69) X cst_b_6 dX5_count_69 ?_
          refine v_callVi (pc := 71) X (c_X0_thatAre l g hI _ _ (Nat.le_of_ble_eq_true rfl) _ _ h) wd_359 wd_356 wd_357 wd_358 wd_14 ⟨rfl, rfl⟩ hdc_X0_thatAre ⟨Nat.le_of_ble_eq_true rfl, Nat.le_of_ble_eq_true rfl⟩ ⟨Nat.le_refl 0, Nat.le_refl 0⟩ (Nat.le_of_ble_eq_true rfl) rfl rfl (As := [.int (nI 6)]) rfl rfl (Nat.le_of_ble_eq_true rfl) dX5_count_71 (fun x_10 m_9 h => ?_)
          exact v_iret (pc := 74) X hr hlk h dX5_count_74
        · replace h := h.2 e_8
          by_cases e_11 : a1 = nI 4
          · replace h := h.1 e_11
            refine v_tswK (pc := 1) (tgt := 75) X 4 (by rw [e_11]; decide) (by decide) (by decide) rfl (by decide) dX5_count_1 ?_
            refine v_aload_n (pc := 75) X rfl 0 rfl dX5_count_75 ?_
            refine gf_5_0 (pc := 76) X Nat.one_pos wd_15 dX5_count_76 ?_
            refine gf_0_3 (pc := 79) X (Nat.le_of_ble_eq_true rfl) wd_157 h dX5_count_79 (fun x_12 h => ?_)
            exact v_iret (pc := 82) X hr hlk h dX5_count_82
          · replace h := h.2 e_11
            by_cases e_13 : a1 = nI 5
            · replace h := h.1 e_13
              refine v_tswK (pc := 1) (tgt := 83) X 5 (by rw [e_13]; decide) (by decide) (by decide) rfl (by decide) dX5_count_1 ?_
              refine v_aload_n (pc := 83) X rfl 0 rfl dX5_count_83 ?_
              refine gf_5_3 (pc := 84) X Nat.one_pos wd_18 h dX5_count_84 (fun x_14 h => ?_)
              exact v_iret (pc := 87) X hr hlk h dX5_count_87
            · replace h := h.2 e_13
              refine v_tswD (pc := 1) (tgt := 88) X (by have ne_1 := lv_neT e_1 (a := 0) (by decide); have ne_3 := lv_neT e_3 (a := 1) (by decide); have ne_5 := lv_neT e_5 (a := 2) (by decide); have ne_8 := lv_neT e_8 (a := 3) (by decide); have ne_11 := lv_neT e_11 (a := 4) (by decide); have ne_13 := lv_neT e_13 (a := 5) (by decide); omega) (by decide) dX5_count_1 ?_
              refine v_bipush (pc := 88) X cst_b_m2 dX5_count_88 ?_
              exact v_iret (pc := 90) X hr hlk h dX5_count_90
