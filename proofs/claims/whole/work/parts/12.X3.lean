theorem cst_b_100 : (Int8.ofInt 100).toInt32 = ((nI 100) : Int32) := by decide +kernel
theorem cst_b_6 : (Int8.ofInt 6).toInt32 = ((nI 6) : Int32) := by decide +kernel
theorem cst_b_7 : (Int8.ofInt 7).toInt32 = ((nI 7) : Int32) := by decide +kernel
theorem cst_b_m100 : (Int8.ofInt (-100)).toInt32 = ((-100) : Int32) := by decide +kernel
theorem hdc_X1_clear : yX1_clear.cls ≠ "java/lang/invoke/MethodHandle" ∧ yX1_clear.cls ≠ "java/lang/invoke/VarHandle" ∧ (parseMethodDescriptor yX1_clear.desc).map (fun d => d.parameters.length) = some 0 := by decide +kernel
theorem hdc_X1_copy : yX1_copy.cls ≠ "java/lang/invoke/MethodHandle" ∧ yX1_copy.cls ≠ "java/lang/invoke/VarHandle" ∧ (parseMethodDescriptor yX1_copy.desc).map (fun d => d.parameters.length) = some 1 := by decide +kernel
theorem hdc_X1_trimOfMoves : yX1_trimOfMoves.cls ≠ "java/lang/invoke/MethodHandle" ∧ yX1_trimOfMoves.cls ≠ "java/lang/invoke/VarHandle" ∧ (parseMethodDescriptor yX1_trimOfMoves.desc).map (fun d => d.parameters.length) = some 2 := by decide +kernel
theorem hdc_X1_trimOfSeen : yX1_trimOfSeen.cls ≠ "java/lang/invoke/MethodHandle" ∧ yX1_trimOfSeen.cls ≠ "java/lang/invoke/VarHandle" ∧ (parseMethodDescriptor yX1_trimOfSeen.desc).map (fun d => d.parameters.length) = some 1 := by decide +kernel
theorem hdc_X3_become : yX3_become.cls ≠ "java/lang/invoke/MethodHandle" ∧ yX3_become.cls ≠ "java/lang/invoke/VarHandle" ∧ (parseMethodDescriptor yX3_become.desc).map (fun d => d.parameters.length) = some 1 := by decide +kernel
theorem hdc_X3_followGuide : yX3_followGuide.cls ≠ "java/lang/invoke/MethodHandle" ∧ yX3_followGuide.cls ≠ "java/lang/invoke/VarHandle" ∧ (parseMethodDescriptor yX3_followGuide.desc).map (fun d => d.parameters.length) = some 0 := by decide +kernel
theorem hdc_X3_settleJoining : yX3_settleJoining.cls ≠ "java/lang/invoke/MethodHandle" ∧ yX3_settleJoining.cls ≠ "java/lang/invoke/VarHandle" ∧ (parseMethodDescriptor yX3_settleJoining.desc).map (fun d => d.parameters.length) = some 0 := by decide +kernel
theorem hdc_X3_settleLeading : yX3_settleLeading.cls ≠ "java/lang/invoke/MethodHandle" ∧ yX3_settleLeading.cls ≠ "java/lang/invoke/VarHandle" ∧ (parseMethodDescriptor yX3_settleLeading.desc).map (fun d => d.parameters.length) = some 0 := by decide +kernel
theorem hdc_X3_settleListening : yX3_settleListening.cls ≠ "java/lang/invoke/MethodHandle" ∧ yX3_settleListening.cls ≠ "java/lang/invoke/VarHandle" ∧ (parseMethodDescriptor yX3_settleListening.desc).map (fun d => d.parameters.length) = some 1 := by decide +kernel
def wp_X3_copy (i0 : Nat) (i1 : Nat) (μ : Mem) (q : Mem → Prop) : Prop :=
∀ x_1 : Int32, x_1 = μ 3 i1 0 →
∀ m_2 : Mem, m_2 = ms μ 3 i0 0 x_1 →
∀ x_3 : Int32, x_3 = m_2 3 i1 1 →
∀ m_4 : Mem, m_4 = ms m_2 3 i0 1 x_3 →
∀ x_5 : Int32, x_5 = m_4 3 i1 2 →
∀ m_6 : Mem, m_6 = ms m_4 3 i0 2 x_5 →
∀ x_7 : Int32, x_7 = m_6 3 i1 3 →
∀ m_8 : Mem, m_8 = ms m_6 3 i0 3 x_7 →
∀ x_9 : Int32, x_9 = m_8 3 i1 4 →
∀ m_10 : Mem, m_10 = ms m_8 3 i0 4 x_9 →
∀ x_11 : Int32, x_11 = m_10 3 i1 5 →
∀ m_12 : Mem, m_12 = ms m_10 3 i0 5 x_11 →
∀ x_13 : Int32, x_13 = m_12 3 i1 6 →
nz x_13 ∧ ∀ m_14 : Mem, m_14 = ms m_12 3 i0 6 x_13 →
∀ x_15 : Int32, x_15 = m_14 3 i1 7 →
∀ m_16 : Mem, m_16 = ms m_14 3 i0 7 x_15 →
∀ x_17 : Int32, x_17 = m_16 3 i1 8 →
∀ m_18 : Mem, m_18 = ms m_16 3 i0 8 x_17 →
∀ x_19 : Int32, x_19 = m_18 3 i1 9 →
∀ m_20 : Mem, m_20 = ms m_18 3 i0 9 x_19 →
∀ x_21 : Int32, x_21 = m_20 3 i1 10 →
∀ m_22 : Mem, m_22 = ms m_20 3 i0 10 x_21 →
∀ x_23 : Int32, x_23 = m_22 3 i1 11 →
∀ m_24 : Mem, m_24 = ms m_22 3 i0 11 x_23 →
∀ x_25 : Int32, x_25 = m_24 3 i1 12 →
∀ m_26 : Mem, m_26 = ms m_24 3 i0 12 x_25 →
∀ x_27 : Int32, x_27 = m_26 3 i1 13 →
∀ m_28 : Mem, m_28 = ms m_26 3 i0 13 x_27 →
∀ j_29 : Nat, j_29 = hx i0 (m_28 3 i0 14) →
∀ j_30 : Nat, j_30 = hx i1 (m_28 3 i1 14) →
wp_X1_copy j_29 j_30 m_28 (fun m_31 =>
∀ j_32 : Nat, j_32 = hx i0 (m_31 3 i0 15) →
∀ j_33 : Nat, j_33 = hx i1 (m_31 3 i1 15) →
wp_X1_copy j_32 j_33 m_31 (fun m_34 =>
q m_34))
set_option maxRecDepth 100000 in
set_option maxHeartbeats 4000000 in
theorem c_X3_copy (l : Launch) (g : GG) (hI : Inj g) (μ : Mem) (i0 : Nat) (hi0 : i0 < 24) (i1 : Nat) (hi1 : i1 < 24) (q : Mem → Prop) (h : wp_X3_copy i0 i1 μ q) : Met l yX3_copy (Cond.code yX3_copy cX3_copy 2 none :: wsL_law) ({ frames := 1, cells := 0, slots := 0, locals := 22 }) (KP g [.ref (g.1 3 i0), .ref (g.1 3 i1)] μ) (KQv g q) 0 0 (AA g) := by
  refine met_V (own := RX3) hI (by decide) rfl (Nat.le_of_ble_eq_true rfl) rfl (fun p e s m args below meth c X hr hlk => ?_)
  unfold wp_X3_copy at h
  refine v_aload_n (pc := 0) X rfl 0 rfl dX3_copy_0 ?_
  refine v_aload_n (pc := 1) X rfl 1 rfl dX3_copy_1 ?_
  refine gf_3_0 (pc := 2) X hi1 wd_75 h dX3_copy_2 (fun x_1 h => ?_)
  refine pf_3_0 (pc := 5) X hi0 wd_75 h dX3_copy_5 (fun m_2 h => ?_)
  refine v_aload_n (pc := 8) X rfl 0 rfl dX3_copy_8 ?_
  refine v_aload_n (pc := 9) X rfl 1 rfl dX3_copy_9 ?_
  refine gf_3_1 (pc := 10) X hi1 wd_76 h dX3_copy_10 (fun x_3 h => ?_)
  refine pf_3_1 (pc := 13) X hi0 wd_76 h dX3_copy_13 (fun m_4 h => ?_)
  refine v_aload_n (pc := 16) X rfl 0 rfl dX3_copy_16 ?_
  refine v_aload_n (pc := 17) X rfl 1 rfl dX3_copy_17 ?_
  refine gf_3_2 (pc := 18) X hi1 wd_58 h dX3_copy_18 (fun x_5 h => ?_)
  refine pf_3_2 (pc := 21) X hi0 wd_58 h dX3_copy_21 (fun m_6 h => ?_)
  refine v_aload_n (pc := 24) X rfl 0 rfl dX3_copy_24 ?_
  refine v_aload_n (pc := 25) X rfl 1 rfl dX3_copy_25 ?_
  refine gf_3_3 (pc := 26) X hi1 wd_59 h dX3_copy_26 (fun x_7 h => ?_)
  refine pf_3_3 (pc := 29) X hi0 wd_59 h dX3_copy_29 (fun m_8 h => ?_)
  refine v_aload_n (pc := 32) X rfl 0 rfl dX3_copy_32 ?_
  refine v_aload_n (pc := 33) X rfl 1 rfl dX3_copy_33 ?_
  refine gf_3_4 (pc := 34) X hi1 wd_60 h dX3_copy_34 (fun x_9 h => ?_)
  refine pf_3_4 (pc := 37) X hi0 wd_60 h dX3_copy_37 (fun m_10 h => ?_)
  refine v_aload_n (pc := 40) X rfl 0 rfl dX3_copy_40 ?_
  refine v_aload_n (pc := 41) X rfl 1 rfl dX3_copy_41 ?_
  refine gf_3_5 (pc := 42) X hi1 wd_61 h dX3_copy_42 (fun x_11 h => ?_)
  refine pf_3_5 (pc := 45) X hi0 wd_61 h dX3_copy_45 (fun m_12 h => ?_)
  refine v_aload_n (pc := 48) X rfl 0 rfl dX3_copy_48 ?_
  refine v_aload_n (pc := 49) X rfl 1 rfl dX3_copy_49 ?_
  refine gf_3_6 (pc := 50) X hi1 wd_62 h dX3_copy_50 (fun x_13 h => ?_)
  refine pf_3_6 (pc := 53) X hi0 wd_62 h dX3_copy_53 (fun m_14 h => ?_)
  refine v_aload_n (pc := 56) X rfl 0 rfl dX3_copy_56 ?_
  refine v_aload_n (pc := 57) X rfl 1 rfl dX3_copy_57 ?_
  refine gf_3_7 (pc := 58) X hi1 wd_63 h dX3_copy_58 (fun x_15 h => ?_)
  refine pf_3_7 (pc := 61) X hi0 wd_63 h dX3_copy_61 (fun m_16 h => ?_)
  refine v_aload_n (pc := 64) X rfl 0 rfl dX3_copy_64 ?_
  refine v_aload_n (pc := 65) X rfl 1 rfl dX3_copy_65 ?_
  refine gf_3_8 (pc := 66) X hi1 wd_64 h dX3_copy_66 (fun x_17 h => ?_)
  refine pf_3_8 (pc := 69) X hi0 wd_64 h dX3_copy_69 (fun m_18 h => ?_)
  refine v_aload_n (pc := 72) X rfl 0 rfl dX3_copy_72 ?_
  refine v_aload_n (pc := 73) X rfl 1 rfl dX3_copy_73 ?_
  refine gf_3_9 (pc := 74) X hi1 wd_65 h dX3_copy_74 (fun x_19 h => ?_)
  refine pf_3_9 (pc := 77) X hi0 wd_65 h dX3_copy_77 (fun m_20 h => ?_)
  refine v_aload_n (pc := 80) X rfl 0 rfl dX3_copy_80 ?_
  refine v_aload_n (pc := 81) X rfl 1 rfl dX3_copy_81 ?_
  refine gf_3_10 (pc := 82) X hi1 wd_66 h dX3_copy_82 (fun x_21 h => ?_)
  refine pf_3_10 (pc := 85) X hi0 wd_66 h dX3_copy_85 (fun m_22 h => ?_)
  refine v_aload_n (pc := 88) X rfl 0 rfl dX3_copy_88 ?_
  refine v_aload_n (pc := 89) X rfl 1 rfl dX3_copy_89 ?_
  refine gf_3_11 (pc := 90) X hi1 wd_67 h dX3_copy_90 (fun x_23 h => ?_)
  refine pf_3_11 (pc := 93) X hi0 wd_67 h dX3_copy_93 (fun m_24 h => ?_)
  refine v_aload_n (pc := 96) X rfl 0 rfl dX3_copy_96 ?_
  refine v_aload_n (pc := 97) X rfl 1 rfl dX3_copy_97 ?_
  refine gf_3_12 (pc := 98) X hi1 wd_68 h dX3_copy_98 (fun x_25 h => ?_)
  refine pf_3_12 (pc := 101) X hi0 wd_68 h dX3_copy_101 (fun m_26 h => ?_)
  refine v_aload_n (pc := 104) X rfl 0 rfl dX3_copy_104 ?_
  refine v_aload_n (pc := 105) X rfl 1 rfl dX3_copy_105 ?_
  refine gf_3_13 (pc := 106) X hi1 wd_69 h dX3_copy_106 (fun x_27 h => ?_)
  refine pf_3_13 (pc := 109) X hi0 wd_69 h dX3_copy_109 (fun m_28 h => ?_)
  refine v_aload_n (pc := 112) X rfl 0 rfl dX3_copy_112 ?_
  refine gf_3_14 (pc := 113) X hi0 wd_73 h dX3_copy_113 (fun j_29 hj_29 h => ?_)
  refine v_aload_n (pc := 116) X rfl 1 rfl dX3_copy_116 ?_
  refine gf_3_14 (pc := 117) X hi1 wd_73 h dX3_copy_117 (fun j_30 hj_30 h => ?_)
  refine v_callVv (pc := 120) X (c_X1_copy l g hI _ _ hj_29 _ hj_30 _ h) wd_553 wd_550 wd_551 wd_552 wd_72 ⟨rfl, rfl⟩ hdc_X1_copy ⟨Nat.le_of_ble_eq_true rfl, Nat.le_of_ble_eq_true rfl⟩ ⟨Nat.le_refl 0, Nat.le_refl 0⟩ hj_29 rfl rfl (As := [.ref (g.1 1 j_30)]) rfl rfl (Nat.le_of_ble_eq_true rfl) dX3_copy_120 (fun m_31 h => ?_)
  refine v_aload_n (pc := 123) X rfl 0 rfl dX3_copy_123 ?_
  refine gf_3_15 (pc := 124) X hi0 wd_74 h dX3_copy_124 (fun j_32 hj_32 h => ?_)
  refine v_aload_n (pc := 127) X rfl 1 rfl dX3_copy_127 ?_
  refine gf_3_15 (pc := 128) X hi1 wd_74 h dX3_copy_128 (fun j_33 hj_33 h => ?_)
  refine v_callVv (pc := 131) X (c_X1_copy l g hI _ _ hj_32 _ hj_33 _ h) wd_553 wd_550 wd_551 wd_552 wd_72 ⟨rfl, rfl⟩ hdc_X1_copy ⟨Nat.le_of_ble_eq_true rfl, Nat.le_of_ble_eq_true rfl⟩ ⟨Nat.le_refl 0, Nat.le_refl 0⟩ hj_32 rfl rfl (As := [.ref (g.1 1 j_33)]) rfl rfl (Nat.le_of_ble_eq_true rfl) dX3_copy_131 (fun m_34 h => ?_)
  exact v_vret (pc := 134) X hr hlk h dX3_copy_134

def wp_X3_isAwake (i0 : Nat) (μ : Mem) (q : Int32 → Mem → Prop) : Prop :=
∀ x_1 : Int32, x_1 = μ 3 i0 5 →
((x_1 = 0 →
q 0 μ) ∧ (¬ x_1 = 0 →
∀ x_2 : Int32, x_2 = μ 3 i0 5 →
((x_2 = (nI 6) →
q 0 μ) ∧ (¬ x_2 = (nI 6) →
q 1 μ))))
set_option maxRecDepth 100000 in
set_option maxHeartbeats 4000000 in
theorem c_X3_isAwake (l : Launch) (g : GG) (hI : Inj g) (μ : Mem) (i0 : Nat) (hi0 : i0 < 24) (q : Int32 → Mem → Prop) (h : wp_X3_isAwake i0 μ q) : Met l yX3_isAwake (Cond.code yX3_isAwake cX3_isAwake 1 (some .boolean) :: wsL_law) ({ frames := 0, cells := 0, slots := 0, locals := 0 }) (KP g [.ref (g.1 3 i0)] μ) (KQi g q) 0 0 (AA g) := by
  refine met_V (own := RX3) hI (by decide) rfl (Nat.le_of_ble_eq_true rfl) rfl (fun p e s m args below meth c X hr hlk => ?_)
  unfold wp_X3_isAwake at h
  refine v_aload_n (pc := 0) X rfl 0 rfl dX3_isAwake_0 ?_
  refine gf_3_5 (pc := 1) X hi0 wd_61 h dX3_isAwake_1 (fun x_1 h => ?_)
  refine v_if_eq (pc := 4) (tgt := 20) X h dX3_isAwake_4 (by decide) (fun h => ?_) (fun h => ?_)
  · refine v_iconst (pc := 20) X cst_i_0 dX3_isAwake_20 ?_
    exact v_zret (pc := 21) X hr hlk ⟨nz_0, h⟩ dX3_isAwake_21
  · refine v_aload_n (pc := 7) X rfl 0 rfl dX3_isAwake_7 ?_
    refine gf_3_5 (pc := 8) X hi0 wd_61 h dX3_isAwake_8 (fun x_2 h => ?_)
    refine v_bipush (pc := 11) X cst_b_6 dX3_isAwake_11 ?_
    refine v_icmp_eq (pc := 13) (tgt := 20) X h dX3_isAwake_13 (by decide) (fun h => ?_) (fun h => ?_)
    · refine v_iconst (pc := 20) X cst_i_0 dX3_isAwake_20 ?_
      exact v_zret (pc := 21) X hr hlk ⟨nz_0, h⟩ dX3_isAwake_21
    · refine v_iconst (pc := 16) X cst_i_1 dX3_isAwake_16 ?_
      refine v_goto (pc := 17) (tgt := 21) X dX3_isAwake_17 (by decide) ?_
      exact v_zret (pc := 21) X hr hlk ⟨nz_1, h⟩ dX3_isAwake_21

def wp_X3_isReadyToSend_b32 (i0 : Nat) (q : Int32 → Mem → Prop)  (μ : Mem) : Prop :=
q 1 μ
def wp_X3_isReadyToSend_b16 (i0 : Nat) (q : Int32 → Mem → Prop)  (μ : Mem) : Prop :=
∀ x_1 : Int32, x_1 = μ 3 i0 5 →
((x_1 = (nI 3) →
wp_X3_isReadyToSend_b32 i0 q  μ) ∧ (¬ x_1 = (nI 3) →
∀ x_2 : Int32, x_2 = μ 3 i0 5 →
((¬ x_2 = (nI 4) →
q 0 μ) ∧ (x_2 = (nI 4) →
wp_X3_isReadyToSend_b32 i0 q  μ))))
def wp_X3_isReadyToSend (i0 : Nat) (μ : Mem) (q : Int32 → Mem → Prop) : Prop :=
∀ x_1 : Int32, x_1 = μ 3 i0 5 →
((¬ x_1 = (nI 2) →
wp_X3_isReadyToSend_b16 i0 q  μ) ∧ (x_1 = (nI 2) →
∀ x_2 : Int32, x_2 = μ 3 i0 7 →
((1 ≤ x_2 →
wp_X3_isReadyToSend_b32 i0 q  μ) ∧ (¬ 1 ≤ x_2 →
wp_X3_isReadyToSend_b16 i0 q  μ))))
set_option maxRecDepth 100000 in
set_option maxHeartbeats 4000000 in
theorem c_X3_isReadyToSend (l : Launch) (g : GG) (hI : Inj g) (μ : Mem) (i0 : Nat) (hi0 : i0 < 24) (q : Int32 → Mem → Prop) (h : wp_X3_isReadyToSend i0 μ q) : Met l yX3_isReadyToSend (Cond.code yX3_isReadyToSend cX3_isReadyToSend 1 (some .boolean) :: wsL_law) ({ frames := 0, cells := 0, slots := 0, locals := 0 }) (KP g [.ref (g.1 3 i0)] μ) (KQi g q) 0 0 (AA g) := by
  refine met_V (own := RX3) hI (by decide) rfl (Nat.le_of_ble_eq_true rfl) rfl (fun p e s m args below meth c X hr hlk => ?_)
  have B32 : ∀  (μ : Mem), wp_X3_isReadyToSend_b32 i0 q  μ → V p l e ({ frames := 0, cells := 0, slots := 0, locals := 0 }) s m args below meth c 1 g (AA g) 0 0 (MQ below (KQi g q) args s 0 0 (AA g)) μ 32 [] [] := by
    intro  μ h
    unfold wp_X3_isReadyToSend_b32 at h
    refine v_iconst (pc := 32) X cst_i_1 dX3_isReadyToSend_32 ?_
    refine v_goto (pc := 33) (tgt := 37) X dX3_isReadyToSend_33 (by decide) ?_
    exact v_zret (pc := 37) X hr hlk ⟨nz_1, h⟩ dX3_isReadyToSend_37
  have B16 : ∀  (μ : Mem), wp_X3_isReadyToSend_b16 i0 q  μ → V p l e ({ frames := 0, cells := 0, slots := 0, locals := 0 }) s m args below meth c 1 g (AA g) 0 0 (MQ below (KQi g q) args s 0 0 (AA g)) μ 16 [(0, .ref (g.1 3 i0))] [] := by
    intro  μ h
    unfold wp_X3_isReadyToSend_b16 at h
    refine v_aload_n (pc := 16) X rfl 0 rfl dX3_isReadyToSend_16 ?_
    refine gf_3_5 (pc := 17) X hi0 wd_61 h dX3_isReadyToSend_17 (fun x_1 h => ?_)
    refine v_iconst (pc := 20) X cst_i_3 dX3_isReadyToSend_20 ?_
    refine v_icmp_eq (pc := 21) (tgt := 32) X h dX3_isReadyToSend_21 (by decide) (fun h => ?_) (fun h => ?_)
    · refine v_sub [] rfl ?_
      exact B32  _ h
    · refine v_aload_n (pc := 24) X rfl 0 rfl dX3_isReadyToSend_24 ?_
      refine gf_3_5 (pc := 25) X hi0 wd_61 h dX3_isReadyToSend_25 (fun x_2 h => ?_)
      refine v_iconst (pc := 28) X cst_i_4 dX3_isReadyToSend_28 ?_
      refine v_icmp_ne (pc := 29) (tgt := 36) X h dX3_isReadyToSend_29 (by decide) (fun h => ?_) (fun h => ?_)
      · refine v_iconst (pc := 36) X cst_i_0 dX3_isReadyToSend_36 ?_
        exact v_zret (pc := 37) X hr hlk ⟨nz_0, h⟩ dX3_isReadyToSend_37
      · refine v_sub [] rfl ?_
        exact B32  _ h
  unfold wp_X3_isReadyToSend at h
  refine v_aload_n (pc := 0) X rfl 0 rfl dX3_isReadyToSend_0 ?_
  refine gf_3_5 (pc := 1) X hi0 wd_61 h dX3_isReadyToSend_1 (fun x_1 h => ?_)
  refine v_iconst (pc := 4) X cst_i_2 dX3_isReadyToSend_4 ?_
  refine v_icmp_ne (pc := 5) (tgt := 16) X h dX3_isReadyToSend_5 (by decide) (fun h => ?_) (fun h => ?_)
  · exact B16  _ h
  · refine v_aload_n (pc := 8) X rfl 0 rfl dX3_isReadyToSend_8 ?_
    refine gf_3_7 (pc := 9) X hi0 wd_63 h dX3_isReadyToSend_9 (fun x_2 h => ?_)
    refine v_iconst (pc := 12) X cst_i_1 dX3_isReadyToSend_12 ?_
    refine v_icmp_ge (pc := 13) (tgt := 32) X h dX3_isReadyToSend_13 (by decide) (fun h => ?_) (fun h => ?_)
    · refine v_sub [] rfl ?_
      exact B32  _ h
    · exact B16  _ h

def wp_X3_isFirstTurnOfLeader (i0 : Nat) (μ : Mem) (q : Int32 → Mem → Prop) : Prop :=
∀ x_1 : Int32, x_1 = μ 3 i0 5 →
((¬ x_1 = (nI 2) →
q 0 μ) ∧ (x_1 = (nI 2) →
∀ x_2 : Int32, x_2 = μ 3 i0 7 →
((¬ x_2 = 1 →
q 0 μ) ∧ (x_2 = 1 →
q 1 μ))))
set_option maxRecDepth 100000 in
set_option maxHeartbeats 4000000 in
theorem c_X3_isFirstTurnOfLeader (l : Launch) (g : GG) (hI : Inj g) (μ : Mem) (i0 : Nat) (hi0 : i0 < 24) (q : Int32 → Mem → Prop) (h : wp_X3_isFirstTurnOfLeader i0 μ q) : Met l yX3_isFirstTurnOfLeader (Cond.code yX3_isFirstTurnOfLeader cX3_isFirstTurnOfLeader 1 (some .boolean) :: wsL_law) ({ frames := 0, cells := 0, slots := 0, locals := 0 }) (KP g [.ref (g.1 3 i0)] μ) (KQi g q) 0 0 (AA g) := by
  refine met_V (own := RX3) hI (by decide) rfl (Nat.le_of_ble_eq_true rfl) rfl (fun p e s m args below meth c X hr hlk => ?_)
  unfold wp_X3_isFirstTurnOfLeader at h
  refine v_aload_n (pc := 0) X rfl 0 rfl dX3_isFirstTurnOfLeader_0 ?_
  refine gf_3_5 (pc := 1) X hi0 wd_61 h dX3_isFirstTurnOfLeader_1 (fun x_1 h => ?_)
  refine v_iconst (pc := 4) X cst_i_2 dX3_isFirstTurnOfLeader_4 ?_
  refine v_icmp_ne (pc := 5) (tgt := 20) X h dX3_isFirstTurnOfLeader_5 (by decide) (fun h => ?_) (fun h => ?_)
  · refine v_iconst (pc := 20) X cst_i_0 dX3_isFirstTurnOfLeader_20 ?_
    exact v_zret (pc := 21) X hr hlk ⟨nz_0, h⟩ dX3_isFirstTurnOfLeader_21
  · refine v_aload_n (pc := 8) X rfl 0 rfl dX3_isFirstTurnOfLeader_8 ?_
    refine gf_3_7 (pc := 9) X hi0 wd_63 h dX3_isFirstTurnOfLeader_9 (fun x_2 h => ?_)
    refine v_iconst (pc := 12) X cst_i_1 dX3_isFirstTurnOfLeader_12 ?_
    refine v_icmp_ne (pc := 13) (tgt := 20) X h dX3_isFirstTurnOfLeader_13 (by decide) (fun h => ?_) (fun h => ?_)
    · refine v_iconst (pc := 20) X cst_i_0 dX3_isFirstTurnOfLeader_20 ?_
      exact v_zret (pc := 21) X hr hlk ⟨nz_0, h⟩ dX3_isFirstTurnOfLeader_21
    · refine v_iconst (pc := 16) X cst_i_1 dX3_isFirstTurnOfLeader_16 ?_
      refine v_goto (pc := 17) (tgt := 21) X dX3_isFirstTurnOfLeader_17 (by decide) ?_
      exact v_zret (pc := 21) X hr hlk ⟨nz_1, h⟩ dX3_isFirstTurnOfLeader_21

def wp_X3_givesSign (i0 : Nat) (μ : Mem) (q : Int32 → Mem → Prop) : Prop :=
∀ x_1 : Int32, x_1 = μ 3 i0 5 →
((¬ x_1 = (nI 2) →
q 0 μ) ∧ (x_1 = (nI 2) →
∀ x_2 : Int32, x_2 = μ 3 i0 7 →
((¬ x_2 = 0 →
q 0 μ) ∧ (x_2 = 0 →
q 1 μ))))
set_option maxRecDepth 100000 in
set_option maxHeartbeats 4000000 in
theorem c_X3_givesSign (l : Launch) (g : GG) (hI : Inj g) (μ : Mem) (i0 : Nat) (hi0 : i0 < 24) (q : Int32 → Mem → Prop) (h : wp_X3_givesSign i0 μ q) : Met l yX3_givesSign (Cond.code yX3_givesSign cX3_givesSign 1 (some .boolean) :: wsL_law) ({ frames := 0, cells := 0, slots := 0, locals := 0 }) (KP g [.ref (g.1 3 i0)] μ) (KQi g q) 0 0 (AA g) := by
  refine met_V (own := RX3) hI (by decide) rfl (Nat.le_of_ble_eq_true rfl) rfl (fun p e s m args below meth c X hr hlk => ?_)
  unfold wp_X3_givesSign at h
  refine v_aload_n (pc := 0) X rfl 0 rfl dX3_givesSign_0 ?_
  refine gf_3_5 (pc := 1) X hi0 wd_61 h dX3_givesSign_1 (fun x_1 h => ?_)
  refine v_iconst (pc := 4) X cst_i_2 dX3_givesSign_4 ?_
  refine v_icmp_ne (pc := 5) (tgt := 19) X h dX3_givesSign_5 (by decide) (fun h => ?_) (fun h => ?_)
  · refine v_iconst (pc := 19) X cst_i_0 dX3_givesSign_19 ?_
    exact v_zret (pc := 20) X hr hlk ⟨nz_0, h⟩ dX3_givesSign_20
  · refine v_aload_n (pc := 8) X rfl 0 rfl dX3_givesSign_8 ?_
    refine gf_3_7 (pc := 9) X hi0 wd_63 h dX3_givesSign_9 (fun x_2 h => ?_)
    refine v_if_ne (pc := 12) (tgt := 19) X h dX3_givesSign_12 (by decide) (fun h => ?_) (fun h => ?_)
    · refine v_iconst (pc := 19) X cst_i_0 dX3_givesSign_19 ?_
      exact v_zret (pc := 20) X hr hlk ⟨nz_0, h⟩ dX3_givesSign_20
    · refine v_iconst (pc := 15) X cst_i_1 dX3_givesSign_15 ?_
      refine v_goto (pc := 16) (tgt := 20) X dX3_givesSign_16 (by decide) ?_
      exact v_zret (pc := 20) X hr hlk ⟨nz_1, h⟩ dX3_givesSign_20

def wp_X3_become (i0 : Nat) (a1 : Int32) (μ : Mem) (q : Mem → Prop) : Prop :=
∀ m_1 : Mem, m_1 = ms μ 3 i0 5 a1 →
nz 1 ∧ ∀ m_2 : Mem, m_2 = ms m_1 3 i0 6 1 →
∀ m_3 : Mem, m_3 = ms m_2 3 i0 7 0 →
∀ m_4 : Mem, m_4 = ms m_3 3 i0 8 0 →
∀ m_5 : Mem, m_5 = ms m_4 3 i0 9 0 →
∀ m_6 : Mem, m_6 = ms m_5 3 i0 10 0 →
q m_6
set_option maxRecDepth 100000 in
set_option maxHeartbeats 4000000 in
theorem c_X3_become (l : Launch) (g : GG) (hI : Inj g) (μ : Mem) (i0 : Nat) (hi0 : i0 < 24) (a1 : Int32) (q : Mem → Prop) (h : wp_X3_become i0 a1 μ q) : Met l yX3_become (Cond.code yX3_become cX3_become 2 none :: wsL_law) ({ frames := 0, cells := 0, slots := 0, locals := 0 }) (KP g [.ref (g.1 3 i0), .int a1] μ) (KQv g q) 0 0 (AA g) := by
  refine met_V (own := RX3) hI (by decide) rfl (Nat.le_of_ble_eq_true rfl) rfl (fun p e s m args below meth c X hr hlk => ?_)
  unfold wp_X3_become at h
  refine v_aload_n (pc := 0) X rfl 0 rfl dX3_become_0 ?_
  refine v_iload_n (pc := 1) X rfl 1 rfl dX3_become_1 ?_
  refine pf_3_5 (pc := 2) X hi0 wd_61 h dX3_become_2 (fun m_1 h => ?_)
  refine v_aload_n (pc := 5) X rfl 0 rfl dX3_become_5 ?_
  refine v_iconst (pc := 6) X cst_i_1 dX3_become_6 ?_
  refine pf_3_6 (pc := 7) X hi0 wd_62 h dX3_become_7 (fun m_2 h => ?_)
  refine v_aload_n (pc := 10) X rfl 0 rfl dX3_become_10 ?_
  refine v_iconst (pc := 11) X cst_i_0 dX3_become_11 ?_
  refine pf_3_7 (pc := 12) X hi0 wd_63 h dX3_become_12 (fun m_3 h => ?_)
  refine v_aload_n (pc := 15) X rfl 0 rfl dX3_become_15 ?_
  refine v_iconst (pc := 16) X cst_i_0 dX3_become_16 ?_
  refine pf_3_8 (pc := 17) X hi0 wd_64 h dX3_become_17 (fun m_4 h => ?_)
  refine v_aload_n (pc := 20) X rfl 0 rfl dX3_become_20 ?_
  refine v_iconst (pc := 21) X cst_i_0 dX3_become_21 ?_
  refine pf_3_9 (pc := 22) X hi0 wd_65 h dX3_become_22 (fun m_5 h => ?_)
  refine v_aload_n (pc := 25) X rfl 0 rfl dX3_become_25 ?_
  refine v_iconst (pc := 26) X cst_i_0 dX3_become_26 ?_
  refine pf_3_10 (pc := 27) X hi0 wd_66 h dX3_become_27 (fun m_6 h => ?_)
  exact v_vret (pc := 30) X hr hlk h dX3_become_30

def wp_X3_beginAnew (i0 : Nat) (a1 : Int32) (a2 : Int32) (μ : Mem) (q : Mem → Prop) : Prop :=
wp_X3_become i0 a1 μ (fun m_1 =>
∀ m_2 : Mem, m_2 = ms m_1 3 i0 11 a2 →
∀ m_3 : Mem, m_3 = ms m_2 3 i0 12 0 →
∀ m_4 : Mem, m_4 = ms m_3 3 i0 13 0 →
q m_4)
set_option maxRecDepth 100000 in
set_option maxHeartbeats 4000000 in
theorem c_X3_beginAnew (l : Launch) (g : GG) (hI : Inj g) (μ : Mem) (i0 : Nat) (hi0 : i0 < 24) (a1 : Int32) (a2 : Int32) (q : Mem → Prop) (h : wp_X3_beginAnew i0 a1 a2 μ q) : Met l yX3_beginAnew (Cond.code yX3_beginAnew cX3_beginAnew 3 none :: wsL_law) ({ frames := 1, cells := 0, slots := 0, locals := 21 }) (KP g [.ref (g.1 3 i0), .int a1, .int a2] μ) (KQv g q) 0 0 (AA g) := by
  refine met_V (own := RX3) hI (by decide) rfl (Nat.le_of_ble_eq_true rfl) rfl (fun p e s m args below meth c X hr hlk => ?_)
  unfold wp_X3_beginAnew at h
  refine v_aload_n (pc := 0) X rfl 0 rfl dX3_beginAnew_0 ?_
  refine v_iload_n (pc := 1) X rfl 1 rfl dX3_beginAnew_1 ?_
  refine v_callVv (pc := 2) X (c_X3_become l g hI _ _ hi0 _ _ h) wd_177 wd_174 wd_175 wd_176 wd_39 ⟨rfl, rfl⟩ hdc_X3_become ⟨Nat.le_of_ble_eq_true rfl, Nat.le_of_ble_eq_true rfl⟩ ⟨Nat.le_refl 0, Nat.le_refl 0⟩ hi0 rfl rfl (As := [.int a1]) rfl rfl (Nat.le_of_ble_eq_true rfl) dX3_beginAnew_2 (fun m_1 h => ?_)
  refine v_aload_n (pc := 5) X rfl 0 rfl dX3_beginAnew_5 ?_
  refine v_iload_n (pc := 6) X rfl 2 rfl dX3_beginAnew_6 ?_
  refine pf_3_11 (pc := 7) X hi0 wd_67 h dX3_beginAnew_7 (fun m_2 h => ?_)
  refine v_aload_n (pc := 10) X rfl 0 rfl dX3_beginAnew_10 ?_
  refine v_iconst (pc := 11) X cst_i_0 dX3_beginAnew_11 ?_
  refine pf_3_12 (pc := 12) X hi0 wd_68 h dX3_beginAnew_12 (fun m_3 h => ?_)
  refine v_aload_n (pc := 15) X rfl 0 rfl dX3_beginAnew_15 ?_
  refine v_iconst (pc := 16) X cst_i_0 dX3_beginAnew_16 ?_
  refine pf_3_13 (pc := 17) X hi0 wd_69 h dX3_beginAnew_17 (fun m_4 h => ?_)
  exact v_vret (pc := 20) X hr hlk h dX3_beginAnew_20

def wp_X3_turnHearing (i0 : Nat) (μ : Mem) (q : Mem → Prop) : Prop :=
∀ j_1 : Nat, j_1 = hx i0 (μ 3 i0 15) →
∀ j_2 : Nat, j_2 = hx i0 (μ 3 i0 14) →
(j_2 = 2 * i0 ∨ j_2 = 2 * i0 + 1) ∧ ∀ m_3 : Mem, m_3 = ms μ 3 i0 15 (if j_2 = 2 * i0 then 0 else 1) →
(j_1 = 2 * i0 ∨ j_1 = 2 * i0 + 1) ∧ ∀ m_4 : Mem, m_4 = ms m_3 3 i0 14 (if j_1 = 2 * i0 then 0 else 1) →
∀ j_5 : Nat, j_5 = hx i0 (m_4 3 i0 14) →
wp_X1_clear j_5 m_4 (fun m_6 =>
q m_6)
set_option maxRecDepth 100000 in
set_option maxHeartbeats 4000000 in
theorem c_X3_turnHearing (l : Launch) (g : GG) (hI : Inj g) (μ : Mem) (i0 : Nat) (hi0 : i0 < 24) (q : Mem → Prop) (h : wp_X3_turnHearing i0 μ q) : Met l yX3_turnHearing (Cond.code yX3_turnHearing cX3_turnHearing 2 none :: wsL_law) ({ frames := 1, cells := 0, slots := 0, locals := 20 }) (KP g [.ref (g.1 3 i0)] μ) (KQv g q) 0 0 (AA g) := by
  refine met_V (own := RX3) hI (by decide) rfl (Nat.le_of_ble_eq_true rfl) rfl (fun p e s m args below meth c X hr hlk => ?_)
  unfold wp_X3_turnHearing at h
  refine v_aload_n (pc := 0) X rfl 0 rfl dX3_turnHearing_0 ?_
  refine gf_3_15 (pc := 1) X hi0 wd_74 h dX3_turnHearing_1 (fun j_1 hj_1 h => ?_)
  refine v_astore_n (pc := 4) (lv' := [(1, .ref (g.1 1 j_1)), (0, .ref (g.1 3 i0))]) X rfl (by decide) rfl dX3_turnHearing_4 ?_
  refine v_aload_n (pc := 5) X rfl 1 rfl dX3_turnHearing_5 ?_
  refine v_aload_n (pc := 6) X rfl 1 rfl dX3_turnHearing_6 ?_
  refine gf_3_14 (pc := 7) X hi0 wd_73 h dX3_turnHearing_7 (fun j_2 hj_2 h => ?_)
  refine pf_3_15 (pc := 10) X hi0 wd_74 h dX3_turnHearing_10 (fun m_3 h => ?_)
  refine v_aload_n (pc := 13) X rfl 1 rfl dX3_turnHearing_13 ?_
  refine v_aload_n (pc := 14) X rfl 0 rfl dX3_turnHearing_14 ?_
  refine pf_3_14 (pc := 15) X hi0 wd_73 h dX3_turnHearing_15 (fun m_4 h => ?_)
  refine v_aload_n (pc := 18) X rfl 1 rfl dX3_turnHearing_18 ?_
  refine gf_3_14 (pc := 19) X hi0 wd_73 h dX3_turnHearing_19 (fun j_5 hj_5 h => ?_)
  refine v_callVv (pc := 22) X (c_X1_clear l g hI _ _ hj_5 _ h) wd_264 wd_261 wd_262 wd_263 wd_72 ⟨rfl, rfl⟩ hdc_X1_clear ⟨Nat.le_of_ble_eq_true rfl, Nat.le_of_ble_eq_true rfl⟩ ⟨Nat.le_refl 0, Nat.le_refl 0⟩ hj_5 rfl rfl (As := []) rfl rfl (Nat.le_of_ble_eq_true rfl) dX3_turnHearing_22 (fun m_6 h => ?_)
  exact v_vret (pc := 25) X hr hlk h dX3_turnHearing_25

def wp_X3_followGuide (i0 : Nat) (μ : Mem) (q : Mem → Prop) : Prop :=
∀ x_1 : Int32, x_1 = μ 3 i0 11 →
∀ j_2 : Nat, j_2 = hx i0 (μ 3 i0 14) →
∀ x_3 : Int32, x_3 = μ 1 j_2 4 →
∀ m_4 : Mem, m_4 = ms μ 3 i0 11 (x_1 + x_3) →
∀ j_5 : Nat, j_5 = hx i0 (m_4 3 i0 14) →
∀ x_6 : Int32, x_6 = m_4 1 j_5 5 →
∀ x_7 : Int32, x_7 = m_4 3 i0 3 →
∀ m_8 : Mem, m_8 = ms m_4 3 i0 12 (x_6 - x_7) →
q m_8
set_option maxRecDepth 100000 in
set_option maxHeartbeats 4000000 in
theorem c_X3_followGuide (l : Launch) (g : GG) (hI : Inj g) (μ : Mem) (i0 : Nat) (hi0 : i0 < 24) (q : Mem → Prop) (h : wp_X3_followGuide i0 μ q) : Met l yX3_followGuide (Cond.code yX3_followGuide cX3_followGuide 1 none :: wsL_law) ({ frames := 0, cells := 0, slots := 0, locals := 0 }) (KP g [.ref (g.1 3 i0)] μ) (KQv g q) 0 0 (AA g) := by
  refine met_V (own := RX3) hI (by decide) rfl (Nat.le_of_ble_eq_true rfl) rfl (fun p e s m args below meth c X hr hlk => ?_)
  unfold wp_X3_followGuide at h
  refine v_aload_n (pc := 0) X rfl 0 rfl dX3_followGuide_0 ?_
  refine v_dup (pc := 1) X rfl dX3_followGuide_1 ?_
  refine gf_3_11 (pc := 2) X hi0 wd_67 h dX3_followGuide_2 (fun x_1 h => ?_)
  refine v_aload_n (pc := 5) X rfl 0 rfl dX3_followGuide_5 ?_
  refine gf_3_14 (pc := 6) X hi0 wd_73 h dX3_followGuide_6 (fun j_2 hj_2 h => ?_)
  refine gf_1_4 (pc := 9) X hj_2 wd_305 h dX3_followGuide_9 (fun x_3 h => ?_)
  refine v_iadd (pc := 12) X dX3_followGuide_12 ?_
  refine pf_3_11 (pc := 13) X hi0 wd_67 h dX3_followGuide_13 (fun m_4 h => ?_)
  refine v_aload_n (pc := 16) X rfl 0 rfl dX3_followGuide_16 ?_
  refine v_aload_n (pc := 17) X rfl 0 rfl dX3_followGuide_17 ?_
  refine gf_3_14 (pc := 18) X hi0 wd_73 h dX3_followGuide_18 (fun j_5 hj_5 h => ?_)
  refine gf_1_5 (pc := 21) X hj_5 wd_306 h dX3_followGuide_21 (fun x_6 h => ?_)
  refine v_aload_n (pc := 24) X rfl 0 rfl dX3_followGuide_24 ?_
  refine gf_3_3 (pc := 25) X hi0 wd_59 h dX3_followGuide_25 (fun x_7 h => ?_)
  refine v_isub (pc := 28) X dX3_followGuide_28 ?_
  refine pf_3_12 (pc := 29) X hi0 wd_68 h dX3_followGuide_29 (fun m_8 h => ?_)
  exact v_vret (pc := 32) X hr hlk h dX3_followGuide_32

def wp_X3_settleListening_b77 (i0 : Nat) (a1 : Int32) (q : Mem → Prop)  (μ : Mem) : Prop :=
∀ x_1 : Int32, x_1 = μ 3 i0 8 →
∀ x_2 : Int32, x_2 = μ 3 i0 2 →
((x_1 < x_2 →
q μ) ∧ (¬ x_1 < x_2 →
wp_X3_become i0 (nI 2) μ (fun m_3 =>
q m_3)))
def wp_X3_settleListening_b25 (i0 : Nat) (a1 : Int32) (q : Mem → Prop) (u0 : Nat) (t1 : Int32) (μ : Mem) : Prop :=
∀ m_1 : Mem, m_1 = ms μ 3 u0 8 t1 →
∀ x_2 : Int32, x_2 = m_1 3 i0 0 →
((¬ x_2 = 1 →
∀ j_3 : Nat, j_3 = hx i0 (m_1 3 i0 14) →
∀ x_4 : Int32, x_4 = m_1 1 j_3 1 →
((x_4 < (nI 2) →
q m_1) ∧ (¬ x_4 < (nI 2) →
∀ j_5 : Nat, j_5 = hx i0 (m_1 3 i0 15) →
∀ x_6 : Int32, x_6 = m_1 1 j_5 1 →
((x_6 < (nI 2) →
q m_1) ∧ (¬ x_6 < (nI 2) →
wp_X3_followGuide i0 m_1 (fun m_7 =>
wp_X3_become i0 (nI 4) m_7 (fun m_8 =>
q m_8))))))) ∧ (x_2 = 1 →
∀ j_9 : Nat, j_9 = hx i0 (m_1 3 i0 14) →
∀ x_10 : Int32, x_10 = m_1 1 j_9 2 →
((x_10 = (-6) →
wp_X3_settleListening_b77 i0 a1 q  m_1) ∧ (¬ x_10 = (-6) →
∀ j_11 : Nat, j_11 = hx i0 (m_1 3 i0 14) →
∀ x_12 : Int32, x_12 = m_1 1 j_11 2 →
∀ j_13 : Nat, j_13 = hx i0 (m_1 3 i0 15) →
∀ x_14 : Int32, x_14 = m_1 1 j_13 2 →
((¬ x_12 = x_14 →
wp_X3_settleListening_b77 i0 a1 q  m_1) ∧ (x_12 = x_14 →
wp_X3_followGuide i0 m_1 (fun m_15 =>
wp_X3_become i0 (nI 3) m_15 (fun m_16 =>
q m_16))))))))
def wp_X3_settleListening_b24 (i0 : Nat) (a1 : Int32) (q : Mem → Prop) (u0 : Nat) (μ : Mem) : Prop :=
wp_X3_settleListening_b25 i0 a1 q u0 0 μ
def wp_X3_settleListening (i0 : Nat) (a1 : Int32) (μ : Mem) (q : Mem → Prop) : Prop :=
∀ j_1 : Nat, j_1 = hx i0 (μ 3 i0 14) →
∀ x_2 : Int32, x_2 = μ 1 j_1 0 →
((¬ x_2 = 0 →
wp_X3_settleListening_b24 i0 a1 q i0 μ) ∧ (x_2 = 0 →
((¬ a1 = 0 →
wp_X3_settleListening_b24 i0 a1 q i0 μ) ∧ (a1 = 0 →
∀ x_3 : Int32, x_3 = μ 3 i0 8 →
wp_X3_settleListening_b25 i0 a1 q i0 (x_3 + 1) μ))))
set_option maxRecDepth 100000 in
set_option maxHeartbeats 4000000 in
theorem c_X3_settleListening (l : Launch) (g : GG) (hI : Inj g) (μ : Mem) (i0 : Nat) (hi0 : i0 < 24) (a1 : Int32) (q : Mem → Prop) (h : wp_X3_settleListening i0 a1 μ q) : Met l yX3_settleListening (Cond.code yX3_settleListening cX3_settleListening 2 none :: wsL_law) ({ frames := 1, cells := 0, slots := 0, locals := 21 }) (KP g [.ref (g.1 3 i0), .int a1] μ) (KQv g q) 0 0 (AA g) := by
  refine met_V (own := RX3) hI (by decide) rfl (Nat.le_of_ble_eq_true rfl) rfl (fun p e s m args below meth c X hr hlk => ?_)
  have B77 : ∀  (μ : Mem), wp_X3_settleListening_b77 i0 a1 q  μ → V p l e ({ frames := 1, cells := 0, slots := 0, locals := 21 }) s m args below meth c 2 g (AA g) 0 0 (MQ below (KQv g q) args s 0 0 (AA g)) μ 77 [(0, .ref (g.1 3 i0))] [] := by
    intro  μ h
    unfold wp_X3_settleListening_b77 at h
    refine v_aload_n (pc := 77) X rfl 0 rfl dX3_settleListening_77 ?_
    refine gf_3_8 (pc := 78) X hi0 wd_64 h dX3_settleListening_78 (fun x_1 h => ?_)
    refine v_aload_n (pc := 81) X rfl 0 rfl dX3_settleListening_81 ?_
    refine gf_3_2 (pc := 82) X hi0 wd_58 h dX3_settleListening_82 (fun x_2 h => ?_)
    refine v_icmp_lt (pc := 85) (tgt := 127) X h dX3_settleListening_85 (by decide) (fun h => ?_) (fun h => ?_)
    · exact v_vret (pc := 127) X hr hlk h dX3_settleListening_127
    · refine v_aload_n (pc := 88) X rfl 0 rfl dX3_settleListening_88 ?_
      refine v_iconst (pc := 89) X cst_i_2 dX3_settleListening_89 ?_
      refine v_callVv (pc := 90) X (c_X3_become l g hI _ _ hi0 _ _ h) wd_177 wd_174 wd_175 wd_176 wd_39 ⟨rfl, rfl⟩ hdc_X3_become ⟨Nat.le_of_ble_eq_true rfl, Nat.le_of_ble_eq_true rfl⟩ ⟨Nat.le_refl 0, Nat.le_refl 0⟩ hi0 rfl rfl (As := [.int (nI 2)]) rfl rfl (Nat.le_of_ble_eq_true rfl) dX3_settleListening_90 (fun m_3 h => ?_)
      refine v_goto (pc := 93) (tgt := 127) X dX3_settleListening_93 (by decide) ?_
      exact v_vret (pc := 127) X hr hlk h dX3_settleListening_127
  have B25 : ∀ (u0 : Nat) (hu0 : u0 < 24) (t1 : Int32) (μ : Mem), wp_X3_settleListening_b25 i0 a1 q u0 t1 μ → V p l e ({ frames := 1, cells := 0, slots := 0, locals := 21 }) s m args below meth c 2 g (AA g) 0 0 (MQ below (KQv g q) args s 0 0 (AA g)) μ 25 [(0, .ref (g.1 3 i0))] [.int t1, .ref (g.1 3 u0)] := by
    intro u0 hu0 t1 μ h
    unfold wp_X3_settleListening_b25 at h
    refine pf_3_8 (pc := 25) X hu0 wd_64 h dX3_settleListening_25 (fun m_1 h => ?_)
    refine v_aload_n (pc := 28) X rfl 0 rfl dX3_settleListening_28 ?_
    refine gf_3_0 (pc := 29) X hi0 wd_75 h dX3_settleListening_29 (fun x_2 h => ?_)
    refine v_iconst (pc := 32) X cst_i_1 dX3_settleListening_32 ?_
    refine v_icmp_ne (pc := 33) (tgt := 96) X h dX3_settleListening_33 (by decide) (fun h => ?_) (fun h => ?_)
    · refine v_aload_n (pc := 96) X rfl 0 rfl dX3_settleListening_96 ?_
      refine gf_3_14 (pc := 97) X hi0 wd_73 h dX3_settleListening_97 (fun j_3 hj_3 h => ?_)
      refine gf_1_1 (pc := 100) X hj_3 wd_300 h dX3_settleListening_100 (fun x_4 h => ?_)
      refine v_iconst (pc := 103) X cst_i_2 dX3_settleListening_103 ?_
      refine v_icmp_lt (pc := 104) (tgt := 127) X h dX3_settleListening_104 (by decide) (fun h => ?_) (fun h => ?_)
      · exact v_vret (pc := 127) X hr hlk h dX3_settleListening_127
      · refine v_aload_n (pc := 107) X rfl 0 rfl dX3_settleListening_107 ?_
        refine gf_3_15 (pc := 108) X hi0 wd_74 h dX3_settleListening_108 (fun j_5 hj_5 h => ?_)
        refine gf_1_1 (pc := 111) X hj_5 wd_300 h dX3_settleListening_111 (fun x_6 h => ?_)
        refine v_iconst (pc := 114) X cst_i_2 dX3_settleListening_114 ?_
        refine v_icmp_lt (pc := 115) (tgt := 127) X h dX3_settleListening_115 (by decide) (fun h => ?_) (fun h => ?_)
        · exact v_vret (pc := 127) X hr hlk h dX3_settleListening_127
        · refine v_aload_n (pc := 118) X rfl 0 rfl dX3_settleListening_118 ?_
          refine v_callVv (pc := 119) X (c_X3_followGuide l g hI _ _ hi0 _ h) wd_304 wd_301 wd_302 wd_303 wd_39 ⟨rfl, rfl⟩ hdc_X3_followGuide ⟨Nat.le_of_ble_eq_true rfl, Nat.le_of_ble_eq_true rfl⟩ ⟨Nat.le_refl 0, Nat.le_refl 0⟩ hi0 rfl rfl (As := []) rfl rfl (Nat.le_of_ble_eq_true rfl) dX3_settleListening_119 (fun m_7 h => ?_)
          refine v_aload_n (pc := 122) X rfl 0 rfl dX3_settleListening_122 ?_
          refine v_iconst (pc := 123) X cst_i_4 dX3_settleListening_123 ?_
          refine v_callVv (pc := 124) X (c_X3_become l g hI _ _ hi0 _ _ h) wd_177 wd_174 wd_175 wd_176 wd_39 ⟨rfl, rfl⟩ hdc_X3_become ⟨Nat.le_of_ble_eq_true rfl, Nat.le_of_ble_eq_true rfl⟩ ⟨Nat.le_refl 0, Nat.le_refl 0⟩ hi0 rfl rfl (As := [.int (nI 4)]) rfl rfl (Nat.le_of_ble_eq_true rfl) dX3_settleListening_124 (fun m_8 h => ?_)
          exact v_vret (pc := 127) X hr hlk h dX3_settleListening_127
    · refine v_aload_n (pc := 36) X rfl 0 rfl dX3_settleListening_36 ?_
      refine gf_3_14 (pc := 37) X hi0 wd_73 h dX3_settleListening_37 (fun j_9 hj_9 h => ?_)
      refine gf_1_2 (pc := 40) X hj_9 wd_299 h dX3_settleListening_40 (fun x_10 h => ?_)
      refine v_bipush (pc := 43) X cst_b_m6 dX3_settleListening_43 ?_
      refine v_icmp_eq (pc := 45) (tgt := 77) X h dX3_settleListening_45 (by decide) (fun h => ?_) (fun h => ?_)
      · exact B77  _ h
      · refine v_aload_n (pc := 48) X rfl 0 rfl dX3_settleListening_48 ?_
        refine gf_3_14 (pc := 49) X hi0 wd_73 h dX3_settleListening_49 (fun j_11 hj_11 h => ?_)
        refine gf_1_2 (pc := 52) X hj_11 wd_299 h dX3_settleListening_52 (fun x_12 h => ?_)
        refine v_aload_n (pc := 55) X rfl 0 rfl dX3_settleListening_55 ?_
        refine gf_3_15 (pc := 56) X hi0 wd_74 h dX3_settleListening_56 (fun j_13 hj_13 h => ?_)
        refine gf_1_2 (pc := 59) X hj_13 wd_299 h dX3_settleListening_59 (fun x_14 h => ?_)
        refine v_icmp_ne (pc := 62) (tgt := 77) X h dX3_settleListening_62 (by decide) (fun h => ?_) (fun h => ?_)
        · exact B77  _ h
        · refine v_aload_n (pc := 65) X rfl 0 rfl dX3_settleListening_65 ?_
          refine v_callVv (pc := 66) X (c_X3_followGuide l g hI _ _ hi0 _ h) wd_304 wd_301 wd_302 wd_303 wd_39 ⟨rfl, rfl⟩ hdc_X3_followGuide ⟨Nat.le_of_ble_eq_true rfl, Nat.le_of_ble_eq_true rfl⟩ ⟨Nat.le_refl 0, Nat.le_refl 0⟩ hi0 rfl rfl (As := []) rfl rfl (Nat.le_of_ble_eq_true rfl) dX3_settleListening_66 (fun m_15 h => ?_)
          refine v_aload_n (pc := 69) X rfl 0 rfl dX3_settleListening_69 ?_
          refine v_iconst (pc := 70) X cst_i_3 dX3_settleListening_70 ?_
          refine v_callVv (pc := 71) X (c_X3_become l g hI _ _ hi0 _ _ h) wd_177 wd_174 wd_175 wd_176 wd_39 ⟨rfl, rfl⟩ hdc_X3_become ⟨Nat.le_of_ble_eq_true rfl, Nat.le_of_ble_eq_true rfl⟩ ⟨Nat.le_refl 0, Nat.le_refl 0⟩ hi0 rfl rfl (As := [.int (nI 3)]) rfl rfl (Nat.le_of_ble_eq_true rfl) dX3_settleListening_71 (fun m_16 h => ?_)
          refine v_goto (pc := 74) (tgt := 127) X dX3_settleListening_74 (by decide) ?_
          exact v_vret (pc := 127) X hr hlk h dX3_settleListening_127
  have B24 : ∀ (u0 : Nat) (hu0 : u0 < 24) (μ : Mem), wp_X3_settleListening_b24 i0 a1 q u0 μ → V p l e ({ frames := 1, cells := 0, slots := 0, locals := 21 }) s m args below meth c 2 g (AA g) 0 0 (MQ below (KQv g q) args s 0 0 (AA g)) μ 24 [(0, .ref (g.1 3 i0))] [.ref (g.1 3 u0)] := by
    intro u0 hu0 μ h
    unfold wp_X3_settleListening_b24 at h
    refine v_iconst (pc := 24) X cst_i_0 dX3_settleListening_24 ?_
    exact B25 _ hu0 _ _ h
  unfold wp_X3_settleListening at h
  refine v_aload_n (pc := 0) X rfl 0 rfl dX3_settleListening_0 ?_
  refine v_aload_n (pc := 1) X rfl 0 rfl dX3_settleListening_1 ?_
  refine gf_3_14 (pc := 2) X hi0 wd_73 h dX3_settleListening_2 (fun j_1 hj_1 h => ?_)
  refine gf_1_0 (pc := 5) X hj_1 wd_298 h dX3_settleListening_5 (fun x_2 h => ?_)
  refine v_if_ne (pc := 8) (tgt := 24) X h dX3_settleListening_8 (by decide) (fun h => ?_) (fun h => ?_)
  · refine v_sub [0] rfl ?_
    exact B24 _ hi0 _ h
  · refine v_iload_n (pc := 11) X rfl 1 rfl dX3_settleListening_11 ?_
    refine v_if_ne (pc := 12) (tgt := 24) X h dX3_settleListening_12 (by decide) (fun h => ?_) (fun h => ?_)
    · refine v_sub [0] rfl ?_
      exact B24 _ hi0 _ h
    · refine v_aload_n (pc := 15) X rfl 0 rfl dX3_settleListening_15 ?_
      refine gf_3_8 (pc := 16) X hi0 wd_64 h dX3_settleListening_16 (fun x_3 h => ?_)
      refine v_iconst (pc := 19) X cst_i_1 dX3_settleListening_19 ?_
      refine v_iadd (pc := 20) X dX3_settleListening_20 ?_
      refine v_goto (pc := 21) (tgt := 25) X dX3_settleListening_21 (by decide) ?_
      refine v_sub [0] rfl ?_
      exact B25 _ hi0 _ _ h

def wp_X3_settleLeading_b26 (i0 : Nat) (q : Mem → Prop)  (μ : Mem) : Prop :=
∀ x_1 : Int32, x_1 = μ 3 i0 7 →
((x_1 < (nI 7) →
q μ) ∧ (¬ x_1 < (nI 7) →
wp_X3_become i0 1 μ (fun m_2 =>
q m_2)))
def wp_X3_settleLeading (i0 : Nat) (μ : Mem) (q : Mem → Prop) : Prop :=
∀ x_1 : Int32, x_1 = μ 3 i0 7 →
((x_1 < (nI 3) →
wp_X3_settleLeading_b26 i0 q  μ) ∧ (¬ x_1 < (nI 3) →
∀ j_2 : Nat, j_2 = hx i0 (μ 3 i0 14) →
∀ x_3 : Int32, x_3 = μ 1 j_2 1 →
((x_3 ≤ 0 →
wp_X3_settleLeading_b26 i0 q  μ) ∧ (¬ x_3 ≤ 0 →
wp_X3_become i0 (nI 4) μ (fun m_4 =>
q m_4)))))
set_option maxRecDepth 100000 in
set_option maxHeartbeats 4000000 in
theorem c_X3_settleLeading (l : Launch) (g : GG) (hI : Inj g) (μ : Mem) (i0 : Nat) (hi0 : i0 < 24) (q : Mem → Prop) (h : wp_X3_settleLeading i0 μ q) : Met l yX3_settleLeading (Cond.code yX3_settleLeading cX3_settleLeading 1 none :: wsL_law) ({ frames := 1, cells := 0, slots := 0, locals := 21 }) (KP g [.ref (g.1 3 i0)] μ) (KQv g q) 0 0 (AA g) := by
  refine met_V (own := RX3) hI (by decide) rfl (Nat.le_of_ble_eq_true rfl) rfl (fun p e s m args below meth c X hr hlk => ?_)
  have B26 : ∀  (μ : Mem), wp_X3_settleLeading_b26 i0 q  μ → V p l e ({ frames := 1, cells := 0, slots := 0, locals := 21 }) s m args below meth c 1 g (AA g) 0 0 (MQ below (KQv g q) args s 0 0 (AA g)) μ 26 [(0, .ref (g.1 3 i0))] [] := by
    intro  μ h
    unfold wp_X3_settleLeading_b26 at h
    refine v_aload_n (pc := 26) X rfl 0 rfl dX3_settleLeading_26 ?_
    refine gf_3_7 (pc := 27) X hi0 wd_63 h dX3_settleLeading_27 (fun x_1 h => ?_)
    refine v_bipush (pc := 30) X cst_b_7 dX3_settleLeading_30 ?_
    refine v_icmp_lt (pc := 32) (tgt := 40) X h dX3_settleLeading_32 (by decide) (fun h => ?_) (fun h => ?_)
    · exact v_vret (pc := 40) X hr hlk h dX3_settleLeading_40
    · refine v_aload_n (pc := 35) X rfl 0 rfl dX3_settleLeading_35 ?_
      refine v_iconst (pc := 36) X cst_i_1 dX3_settleLeading_36 ?_
      refine v_callVv (pc := 37) X (c_X3_become l g hI _ _ hi0 _ _ h) wd_177 wd_174 wd_175 wd_176 wd_39 ⟨rfl, rfl⟩ hdc_X3_become ⟨Nat.le_of_ble_eq_true rfl, Nat.le_of_ble_eq_true rfl⟩ ⟨Nat.le_refl 0, Nat.le_refl 0⟩ hi0 rfl rfl (As := [.int 1]) rfl rfl (Nat.le_of_ble_eq_true rfl) dX3_settleLeading_37 (fun m_2 h => ?_)
      exact v_vret (pc := 40) X hr hlk h dX3_settleLeading_40
  unfold wp_X3_settleLeading at h
  refine v_aload_n (pc := 0) X rfl 0 rfl dX3_settleLeading_0 ?_
  refine gf_3_7 (pc := 1) X hi0 wd_63 h dX3_settleLeading_1 (fun x_1 h => ?_)
  refine v_iconst (pc := 4) X cst_i_3 dX3_settleLeading_4 ?_
  refine v_icmp_lt (pc := 5) (tgt := 26) X h dX3_settleLeading_5 (by decide) (fun h => ?_) (fun h => ?_)
  · exact B26  _ h
  · refine v_aload_n (pc := 8) X rfl 0 rfl dX3_settleLeading_8 ?_
    refine gf_3_14 (pc := 9) X hi0 wd_73 h dX3_settleLeading_9 (fun j_2 hj_2 h => ?_)
    refine gf_1_1 (pc := 12) X hj_2 wd_300 h dX3_settleLeading_12 (fun x_3 h => ?_)
    refine v_if_le (pc := 15) (tgt := 26) X h dX3_settleLeading_15 (by decide) (fun h => ?_) (fun h => ?_)
    · exact B26  _ h
    · refine v_aload_n (pc := 18) X rfl 0 rfl dX3_settleLeading_18 ?_
      refine v_iconst (pc := 19) X cst_i_4 dX3_settleLeading_19 ?_
      refine v_callVv (pc := 20) X (c_X3_become l g hI _ _ hi0 _ _ h) wd_177 wd_174 wd_175 wd_176 wd_39 ⟨rfl, rfl⟩ hdc_X3_become ⟨Nat.le_of_ble_eq_true rfl, Nat.le_of_ble_eq_true rfl⟩ ⟨Nat.le_refl 0, Nat.le_refl 0⟩ hi0 rfl rfl (As := [.int (nI 4)]) rfl rfl (Nat.le_of_ble_eq_true rfl) dX3_settleLeading_20 (fun m_4 h => ?_)
      refine v_goto (pc := 23) (tgt := 40) X dX3_settleLeading_23 (by decide) ?_
      exact v_vret (pc := 40) X hr hlk h dX3_settleLeading_40

def wp_X3_settleJoining (i0 : Nat) (μ : Mem) (q : Mem → Prop) : Prop :=
∀ j_1 : Nat, j_1 = hx i0 (μ 3 i0 14) →
∀ x_2 : Int32, x_2 = μ 1 j_1 1 →
((¬ x_2 = 0 →
∀ x_3 : Int32, x_3 = μ 3 i0 7 →
((x_3 < (nI 2) →
q μ) ∧ (¬ x_3 < (nI 2) →
wp_X3_become i0 (nI 4) μ (fun m_4 =>
q m_4)))) ∧ (x_2 = 0 →
wp_X3_become i0 1 μ (fun m_5 =>
q m_5)))
set_option maxRecDepth 100000 in
set_option maxHeartbeats 4000000 in
theorem c_X3_settleJoining (l : Launch) (g : GG) (hI : Inj g) (μ : Mem) (i0 : Nat) (hi0 : i0 < 24) (q : Mem → Prop) (h : wp_X3_settleJoining i0 μ q) : Met l yX3_settleJoining (Cond.code yX3_settleJoining cX3_settleJoining 1 none :: wsL_law) ({ frames := 1, cells := 0, slots := 0, locals := 21 }) (KP g [.ref (g.1 3 i0)] μ) (KQv g q) 0 0 (AA g) := by
  refine met_V (own := RX3) hI (by decide) rfl (Nat.le_of_ble_eq_true rfl) rfl (fun p e s m args below meth c X hr hlk => ?_)
  unfold wp_X3_settleJoining at h
  refine v_aload_n (pc := 0) X rfl 0 rfl dX3_settleJoining_0 ?_
  refine gf_3_14 (pc := 1) X hi0 wd_73 h dX3_settleJoining_1 (fun j_1 hj_1 h => ?_)
  refine gf_1_1 (pc := 4) X hj_1 wd_300 h dX3_settleJoining_4 (fun x_2 h => ?_)
  refine v_if_ne (pc := 7) (tgt := 18) X h dX3_settleJoining_7 (by decide) (fun h => ?_) (fun h => ?_)
  · refine v_aload_n (pc := 18) X rfl 0 rfl dX3_settleJoining_18 ?_
    refine gf_3_7 (pc := 19) X hi0 wd_63 h dX3_settleJoining_19 (fun x_3 h => ?_)
    refine v_iconst (pc := 22) X cst_i_2 dX3_settleJoining_22 ?_
    refine v_icmp_lt (pc := 23) (tgt := 31) X h dX3_settleJoining_23 (by decide) (fun h => ?_) (fun h => ?_)
    · exact v_vret (pc := 31) X hr hlk h dX3_settleJoining_31
    · refine v_aload_n (pc := 26) X rfl 0 rfl dX3_settleJoining_26 ?_
      refine v_iconst (pc := 27) X cst_i_4 dX3_settleJoining_27 ?_
      refine v_callVv (pc := 28) X (c_X3_become l g hI _ _ hi0 _ _ h) wd_177 wd_174 wd_175 wd_176 wd_39 ⟨rfl, rfl⟩ hdc_X3_become ⟨Nat.le_of_ble_eq_true rfl, Nat.le_of_ble_eq_true rfl⟩ ⟨Nat.le_refl 0, Nat.le_refl 0⟩ hi0 rfl rfl (As := [.int (nI 4)]) rfl rfl (Nat.le_of_ble_eq_true rfl) dX3_settleJoining_28 (fun m_4 h => ?_)
      exact v_vret (pc := 31) X hr hlk h dX3_settleJoining_31
  · refine v_aload_n (pc := 10) X rfl 0 rfl dX3_settleJoining_10 ?_
    refine v_iconst (pc := 11) X cst_i_1 dX3_settleJoining_11 ?_
    refine v_callVv (pc := 12) X (c_X3_become l g hI _ _ hi0 _ _ h) wd_177 wd_174 wd_175 wd_176 wd_39 ⟨rfl, rfl⟩ hdc_X3_become ⟨Nat.le_of_ble_eq_true rfl, Nat.le_of_ble_eq_true rfl⟩ ⟨Nat.le_refl 0, Nat.le_refl 0⟩ hi0 rfl rfl (As := [.int 1]) rfl rfl (Nat.le_of_ble_eq_true rfl) dX3_settleJoining_12 (fun m_5 h => ?_)
    refine v_goto (pc := 15) (tgt := 31) X dX3_settleJoining_15 (by decide) ?_
    exact v_vret (pc := 31) X hr hlk h dX3_settleJoining_31

def wp_X3_settle (i0 : Nat) (a1 : Int32) (μ : Mem) (q : Mem → Prop) : Prop :=
∀ x_1 : Int32, x_1 = μ 3 i0 5 →
((x_1 = 1 →
wp_X3_settleListening i0 a1 μ (fun m_3 =>
q m_3)) ∧ (¬ x_1 = 1 →
((x_1 = nI 2 →
wp_X3_settleLeading i0 μ (fun m_5 =>
q m_5)) ∧ (¬ x_1 = nI 2 →
((x_1 = nI 3 →
wp_X3_settleJoining i0 μ (fun m_7 =>
q m_7)) ∧ (¬ x_1 = nI 3 →
q μ))))))
set_option maxRecDepth 100000 in
set_option maxHeartbeats 4000000 in
theorem c_X3_settle (l : Launch) (g : GG) (hI : Inj g) (μ : Mem) (i0 : Nat) (hi0 : i0 < 24) (a1 : Int32) (q : Mem → Prop) (h : wp_X3_settle i0 a1 μ q) : Met l yX3_settle (Cond.code yX3_settle cX3_settle 2 none :: wsL_law) ({ frames := 2, cells := 0, slots := 0, locals := 42 }) (KP g [.ref (g.1 3 i0), .int a1] μ) (KQv g q) 0 0 (AA g) := by
  refine met_V (own := RX3) hI (by decide) rfl (Nat.le_of_ble_eq_true rfl) rfl (fun p e s m args below meth c X hr hlk => ?_)
  unfold wp_X3_settle at h
  refine v_aload_n (pc := 0) X rfl 0 rfl dX3_settle_0 ?_
  refine gf_3_5 (pc := 1) X hi0 wd_61 h dX3_settle_1 (fun x_1 h => ?_)
  by_cases e_2 : x_1 = 1
  · replace h := h.1 e_2
    refine v_tswK (pc := 4) (tgt := 32) X 1 (by rw [e_2]; decide) (by decide) (by decide) rfl (by decide) dX3_settle_4 ?_
    refine v_aload_n (pc := 32) X rfl 0 rfl dX3_settle_32 ?_
    refine v_iload_n (pc := 33) X rfl 1 rfl dX3_settle_33 ?_
    refine v_callVv (pc := 34) X (c_X3_settleListening l g hI _ _ hi0 _ _ h) wd_297 wd_294 wd_295 wd_296 wd_39 ⟨rfl, rfl⟩ hdc_X3_settleListening ⟨Nat.le_of_ble_eq_true rfl, Nat.le_of_ble_eq_true rfl⟩ ⟨Nat.le_refl 0, Nat.le_refl 0⟩ hi0 rfl rfl (As := [.int a1]) rfl rfl (Nat.le_of_ble_eq_true rfl) dX3_settle_34 (fun m_3 h => ?_)
    refine v_goto (pc := 37) (tgt := 54) X dX3_settle_37 (by decide) ?_
    exact v_vret (pc := 54) X hr hlk h dX3_settle_54
  · replace h := h.2 e_2
    by_cases e_4 : x_1 = nI 2
    · replace h := h.1 e_4
      refine v_tswK (pc := 4) (tgt := 40) X 2 (by rw [e_4]; decide) (by decide) (by decide) rfl (by decide) dX3_settle_4 ?_
      refine v_aload_n (pc := 40) X rfl 0 rfl dX3_settle_40 ?_
      refine v_callVv (pc := 41) X (c_X3_settleLeading l g hI _ _ hi0 _ h) wd_310 wd_307 wd_308 wd_309 wd_39 ⟨rfl, rfl⟩ hdc_X3_settleLeading ⟨Nat.le_of_ble_eq_true rfl, Nat.le_of_ble_eq_true rfl⟩ ⟨Nat.le_refl 0, Nat.le_refl 0⟩ hi0 rfl rfl (As := []) rfl rfl (Nat.le_of_ble_eq_true rfl) dX3_settle_41 (fun m_5 h => ?_)
      refine v_goto (pc := 44) (tgt := 54) X dX3_settle_44 (by decide) ?_
      exact v_vret (pc := 54) X hr hlk h dX3_settle_54
    · replace h := h.2 e_4
      by_cases e_6 : x_1 = nI 3
      · replace h := h.1 e_6
        refine v_tswK (pc := 4) (tgt := 47) X 3 (by rw [e_6]; decide) (by decide) (by decide) rfl (by decide) dX3_settle_4 ?_
        refine v_aload_n (pc := 47) X rfl 0 rfl dX3_settle_47 ?_
        refine v_callVv (pc := 48) X (c_X3_settleJoining l g hI _ _ hi0 _ h) wd_314 wd_311 wd_312 wd_313 wd_39 ⟨rfl, rfl⟩ hdc_X3_settleJoining ⟨Nat.le_of_ble_eq_true rfl, Nat.le_of_ble_eq_true rfl⟩ ⟨Nat.le_refl 0, Nat.le_refl 0⟩ hi0 rfl rfl (As := []) rfl rfl (Nat.le_of_ble_eq_true rfl) dX3_settle_48 (fun m_7 h => ?_)
        refine v_goto (pc := 51) (tgt := 54) X dX3_settle_51 (by decide) ?_
        exact v_vret (pc := 54) X hr hlk h dX3_settle_54
      · replace h := h.2 e_6
        refine v_tswD (pc := 4) (tgt := 54) X (by have ne_2 := lv_neT e_2 (a := 1) (by decide); have ne_4 := lv_neT e_4 (a := 2) (by decide); have ne_6 := lv_neT e_6 (a := 3) (by decide); omega) (by decide) dX3_settle_4 ?_
        exact v_vret (pc := 54) X hr hlk h dX3_settle_54

def wp_X3_correct_b153 (i0 : Nat) (a1 : Int32) (i2 : Nat) (q : Mem → Prop)  (μ : Mem) : Prop :=
∀ x_1 : Int32, x_1 = μ 3 i0 5 →
((¬ x_1 = (nI 5) →
q μ) ∧ (x_1 = (nI 5) →
∀ x_2 : Int32, x_2 = μ 3 i0 9 →
((x_2 < (nI 2) →
q μ) ∧ (¬ x_2 < (nI 2) →
wp_X3_become i0 (nI 4) μ (fun m_3 =>
q m_3)))))
def wp_X3_correct_b128 (i0 : Nat) (a1 : Int32) (i2 : Nat) (q : Mem → Prop)  (μ : Mem) : Prop :=
∀ x_1 : Int32, x_1 = μ 3 i0 5 →
((¬ x_1 = (nI 5) →
wp_X3_correct_b153 i0 a1 i2 q  μ) ∧ (x_1 = (nI 5) →
∀ x_2 : Int32, x_2 = μ 3 i0 10 →
((x_2 < (nI 3) →
wp_X3_correct_b153 i0 a1 i2 q  μ) ∧ (¬ x_2 < (nI 3) →
wp_X3_become i0 (nI 6) μ (fun m_3 =>
q m_3)))))
def wp_X3_correct_b105 (i0 : Nat) (a1 : Int32) (i2 : Nat) (q : Mem → Prop)  (μ : Mem) : Prop :=
∀ x_1 : Int32, x_1 = μ 3 i0 5 →
((¬ x_1 = (nI 4) →
wp_X3_correct_b128 i0 a1 i2 q  μ) ∧ (x_1 = (nI 4) →
∀ x_2 : Int32, x_2 = μ 3 i0 10 →
((x_2 ≤ 0 →
wp_X3_correct_b128 i0 a1 i2 q  μ) ∧ (¬ x_2 ≤ 0 →
wp_X3_become i0 (nI 5) μ (fun m_3 =>
q m_3)))))
def wp_X3_correct_b27 (i0 : Nat) (a1 : Int32) (i2 : Nat) (q : Mem → Prop)  (μ : Mem) : Prop :=
∀ x_1 : Int32, x_1 = μ 3 i0 10 →
∀ m_2 : Mem, m_2 = ms μ 3 i0 10 (x_1 + 1) →
∀ m_3 : Mem, m_3 = ms m_2 3 i0 9 0 →
wp_X3_correct_b105 i0 a1 i2 q  m_3
def wp_X3_correct (i0 : Nat) (a1 : Int32) (i2 : Nat) (μ : Mem) (q : Mem → Prop) : Prop :=
∀ j_1 : Nat, j_1 = hx i0 (μ 3 i0 14) →
wp_X1_trimOfSeen j_1 i2 μ (fun x_3 m_2 =>
∀ j_4 : Nat, j_4 = hx i0 (m_2 3 i0 14) →
∀ x_5 : Int32, x_5 = m_2 1 j_4 0 →
((x_5 = 0 →
wp_X3_correct_b27 i0 a1 i2 q  m_2) ∧ (¬ x_5 = 0 →
∀ x_6 : Int32, x_6 = (if 0 ≤ x_3 then x_3 else 0 - x_3) →
((x_6 ≤ a1 →
∀ x_7 : Int32, x_7 = m_2 3 i0 9 →
∀ m_8 : Mem, m_8 = ms m_2 3 i0 9 (x_7 + 1) →
∀ m_9 : Mem, m_9 = ms m_8 3 i0 10 0 →
∀ x_10 : Int32, x_10 = m_9 3 i0 11 →
∀ m_11 : Mem, m_11 = ms m_9 3 i0 11 (x_10 + x_3) →
∀ x_12 : Int32, x_12 = m_11 3 i0 12 →
∀ j_13 : Nat, j_13 = hx i0 (m_11 3 i0 14) →
∀ j_14 : Nat, j_14 = hx i0 (m_11 3 i0 15) →
wp_X1_trimOfMoves j_13 j_14 i2 m_11 (fun x_16 m_15 =>
∀ y_17 : Int32, y_17 = (x_12 + x_16) →
∀ x_18 : Int32, x_18 = (if y_17 < (nI 100) then y_17 else (nI 100)) →
∀ x_19 : Int32, x_19 = (if (-100) < x_18 then x_18 else (-100)) →
∀ m_20 : Mem, m_20 = ms m_15 3 i0 12 x_19 →
wp_X3_correct_b105 i0 a1 i2 q  m_20)) ∧ (¬ x_6 ≤ a1 →
wp_X3_correct_b27 i0 a1 i2 q  m_2)))))
set_option maxRecDepth 100000 in
set_option maxHeartbeats 4000000 in
theorem c_X3_correct (l : Launch) (g : GG) (hI : Inj g) (μ : Mem) (i0 : Nat) (hi0 : i0 < 24) (a1 : Int32) (i2 : Nat) (hi2 : i2 < 5) (q : Mem → Prop) (h : wp_X3_correct i0 a1 i2 μ q) : Met l yX3_correct (Cond.code yX3_correct cX3_correct 5 none :: wsL_law) ({ frames := 2, cells := 0, slots := 0, locals := 45 }) (KP g [.ref (g.1 3 i0), .int a1, .ref (g.1 4 i2)] μ) (KQv g q) 0 0 (AA g) := by
  refine met_V (own := RX3) hI (by decide) rfl (Nat.le_of_ble_eq_true rfl) rfl (fun p e s m args below meth c X hr hlk => ?_)
  have B153 : ∀  (μ : Mem), wp_X3_correct_b153 i0 a1 i2 q  μ → V p l e ({ frames := 2, cells := 0, slots := 0, locals := 45 }) s m args below meth c 5 g (AA g) 0 0 (MQ below (KQv g q) args s 0 0 (AA g)) μ 153 [(0, .ref (g.1 3 i0))] [] := by
    intro  μ h
    unfold wp_X3_correct_b153 at h
    refine v_aload_n (pc := 153) X rfl 0 rfl dX3_correct_153 ?_
    refine gf_3_5 (pc := 154) X hi0 wd_61 h dX3_correct_154 (fun x_1 h => ?_)
    refine v_iconst (pc := 157) X cst_i_5 dX3_correct_157 ?_
    refine v_icmp_ne (pc := 158) (tgt := 174) X h dX3_correct_158 (by decide) (fun h => ?_) (fun h => ?_)
    · exact v_vret (pc := 174) X hr hlk h dX3_correct_174
    · refine v_aload_n (pc := 161) X rfl 0 rfl dX3_correct_161 ?_
      refine gf_3_9 (pc := 162) X hi0 wd_65 h dX3_correct_162 (fun x_2 h => ?_)
      refine v_iconst (pc := 165) X cst_i_2 dX3_correct_165 ?_
      refine v_icmp_lt (pc := 166) (tgt := 174) X h dX3_correct_166 (by decide) (fun h => ?_) (fun h => ?_)
      · exact v_vret (pc := 174) X hr hlk h dX3_correct_174
      · refine v_aload_n (pc := 169) X rfl 0 rfl dX3_correct_169 ?_
        refine v_iconst (pc := 170) X cst_i_4 dX3_correct_170 ?_
        refine v_callVv (pc := 171) X (c_X3_become l g hI _ _ hi0 _ _ h) wd_177 wd_174 wd_175 wd_176 wd_39 ⟨rfl, rfl⟩ hdc_X3_become ⟨Nat.le_of_ble_eq_true rfl, Nat.le_of_ble_eq_true rfl⟩ ⟨Nat.le_refl 0, Nat.le_refl 0⟩ hi0 rfl rfl (As := [.int (nI 4)]) rfl rfl (Nat.le_of_ble_eq_true rfl) dX3_correct_171 (fun m_3 h => ?_)
        exact v_vret (pc := 174) X hr hlk h dX3_correct_174
  have B128 : ∀  (μ : Mem), wp_X3_correct_b128 i0 a1 i2 q  μ → V p l e ({ frames := 2, cells := 0, slots := 0, locals := 45 }) s m args below meth c 5 g (AA g) 0 0 (MQ below (KQv g q) args s 0 0 (AA g)) μ 128 [(0, .ref (g.1 3 i0))] [] := by
    intro  μ h
    unfold wp_X3_correct_b128 at h
    refine v_aload_n (pc := 128) X rfl 0 rfl dX3_correct_128 ?_
    refine gf_3_5 (pc := 129) X hi0 wd_61 h dX3_correct_129 (fun x_1 h => ?_)
    refine v_iconst (pc := 132) X cst_i_5 dX3_correct_132 ?_
    refine v_icmp_ne (pc := 133) (tgt := 153) X h dX3_correct_133 (by decide) (fun h => ?_) (fun h => ?_)
    · exact B153  _ h
    · refine v_aload_n (pc := 136) X rfl 0 rfl dX3_correct_136 ?_
      refine gf_3_10 (pc := 137) X hi0 wd_66 h dX3_correct_137 (fun x_2 h => ?_)
      refine v_iconst (pc := 140) X cst_i_3 dX3_correct_140 ?_
      refine v_icmp_lt (pc := 141) (tgt := 153) X h dX3_correct_141 (by decide) (fun h => ?_) (fun h => ?_)
      · exact B153  _ h
      · refine v_aload_n (pc := 144) X rfl 0 rfl dX3_correct_144 ?_
        refine v_bipush (pc := 145) X cst_b_6 dX3_correct_145 ?_
        refine v_callVv (pc := 147) X (c_X3_become l g hI _ _ hi0 _ _ h) wd_177 wd_174 wd_175 wd_176 wd_39 ⟨rfl, rfl⟩ hdc_X3_become ⟨Nat.le_of_ble_eq_true rfl, Nat.le_of_ble_eq_true rfl⟩ ⟨Nat.le_refl 0, Nat.le_refl 0⟩ hi0 rfl rfl (As := [.int (nI 6)]) rfl rfl (Nat.le_of_ble_eq_true rfl) dX3_correct_147 (fun m_3 h => ?_)
        refine v_goto (pc := 150) (tgt := 174) X dX3_correct_150 (by decide) ?_
        exact v_vret (pc := 174) X hr hlk h dX3_correct_174
  have B105 : ∀  (μ : Mem), wp_X3_correct_b105 i0 a1 i2 q  μ → V p l e ({ frames := 2, cells := 0, slots := 0, locals := 45 }) s m args below meth c 5 g (AA g) 0 0 (MQ below (KQv g q) args s 0 0 (AA g)) μ 105 [(0, .ref (g.1 3 i0))] [] := by
    intro  μ h
    unfold wp_X3_correct_b105 at h
    refine v_aload_n (pc := 105) X rfl 0 rfl dX3_correct_105 ?_
    refine gf_3_5 (pc := 106) X hi0 wd_61 h dX3_correct_106 (fun x_1 h => ?_)
    refine v_iconst (pc := 109) X cst_i_4 dX3_correct_109 ?_
    refine v_icmp_ne (pc := 110) (tgt := 128) X h dX3_correct_110 (by decide) (fun h => ?_) (fun h => ?_)
    · exact B128  _ h
    · refine v_aload_n (pc := 113) X rfl 0 rfl dX3_correct_113 ?_
      refine gf_3_10 (pc := 114) X hi0 wd_66 h dX3_correct_114 (fun x_2 h => ?_)
      refine v_if_le (pc := 117) (tgt := 128) X h dX3_correct_117 (by decide) (fun h => ?_) (fun h => ?_)
      · exact B128  _ h
      · refine v_aload_n (pc := 120) X rfl 0 rfl dX3_correct_120 ?_
        refine v_iconst (pc := 121) X cst_i_5 dX3_correct_121 ?_
        refine v_callVv (pc := 122) X (c_X3_become l g hI _ _ hi0 _ _ h) wd_177 wd_174 wd_175 wd_176 wd_39 ⟨rfl, rfl⟩ hdc_X3_become ⟨Nat.le_of_ble_eq_true rfl, Nat.le_of_ble_eq_true rfl⟩ ⟨Nat.le_refl 0, Nat.le_refl 0⟩ hi0 rfl rfl (As := [.int (nI 5)]) rfl rfl (Nat.le_of_ble_eq_true rfl) dX3_correct_122 (fun m_3 h => ?_)
        refine v_goto (pc := 125) (tgt := 174) X dX3_correct_125 (by decide) ?_
        exact v_vret (pc := 174) X hr hlk h dX3_correct_174
  have B27 : ∀  (μ : Mem), wp_X3_correct_b27 i0 a1 i2 q  μ → V p l e ({ frames := 2, cells := 0, slots := 0, locals := 45 }) s m args below meth c 5 g (AA g) 0 0 (MQ below (KQv g q) args s 0 0 (AA g)) μ 27 [(0, .ref (g.1 3 i0))] [] := by
    intro  μ h
    unfold wp_X3_correct_b27 at h
    refine v_aload_n (pc := 27) X rfl 0 rfl dX3_correct_27 ?_
    refine v_dup (pc := 28) X rfl dX3_correct_28 ?_
    refine gf_3_10 (pc := 29) X hi0 wd_66 h dX3_correct_29 (fun x_1 h => ?_)
    refine v_iconst (pc := 32) X cst_i_1 dX3_correct_32 ?_
    refine v_iadd (pc := 33) X dX3_correct_33 ?_
    refine pf_3_10 (pc := 34) X hi0 wd_66 h dX3_correct_34 (fun m_2 h => ?_)
    refine v_aload_n (pc := 37) X rfl 0 rfl dX3_correct_37 ?_
    refine v_iconst (pc := 38) X cst_i_0 dX3_correct_38 ?_
    refine pf_3_9 (pc := 39) X hi0 wd_65 h dX3_correct_39 (fun m_3 h => ?_)
    refine v_goto (pc := 42) (tgt := 105) X dX3_correct_42 (by decide) ?_
    exact B105  _ h
  unfold wp_X3_correct at h
  refine v_aload_n (pc := 0) X rfl 0 rfl dX3_correct_0 ?_
  refine gf_3_14 (pc := 1) X hi0 wd_73 h dX3_correct_1 (fun j_1 hj_1 h => ?_)
  refine v_aload_n (pc := 4) X rfl 2 rfl dX3_correct_4 ?_
  refine v_callVi (pc := 5) X (c_X1_trimOfSeen l g hI _ _ hj_1 _ hi2 _ h) wd_332 wd_329 wd_330 wd_331 wd_72 ⟨rfl, rfl⟩ hdc_X1_trimOfSeen ⟨Nat.le_of_ble_eq_true rfl, Nat.le_of_ble_eq_true rfl⟩ ⟨Nat.le_refl 0, Nat.le_refl 0⟩ hj_1 rfl rfl (As := [.ref (g.1 4 i2)]) rfl rfl (Nat.le_of_ble_eq_true rfl) dX3_correct_5 (fun x_3 m_2 h => ?_)
  refine v_istore_n (pc := 8) (lv' := [(3, .int x_3), (0, .ref (g.1 3 i0)), (1, .int a1), (2, .ref (g.1 4 i2))]) X rfl (by decide) rfl dX3_correct_8 ?_
  refine v_aload_n (pc := 9) X rfl 1 rfl dX3_correct_9 ?_
  refine gf_3_14 (pc := 10) X hi0 wd_73 h dX3_correct_10 (fun j_4 hj_4 h => ?_)
  refine gf_1_0 (pc := 13) X hj_4 wd_298 h dX3_correct_13 (fun x_5 h => ?_)
  refine v_if_eq (pc := 16) (tgt := 27) X h dX3_correct_16 (by decide) (fun h => ?_) (fun h => ?_)
  · refine v_sub [1] rfl ?_
    exact B27  _ h
  · refine v_iload_n (pc := 19) X rfl 0 rfl dX3_correct_19 ?_
    refine v_mabs (pc := 20) X wd_319 wd_320 wd_321 wd_322 (Nat.le_of_ble_eq_true rfl) (Nat.le_of_ble_eq_true rfl) (Nat.le_refl 0) (Nat.le_refl 0) h dX3_correct_20 (fun x_6 h => ?_)
    refine v_iload_n (pc := 23) X rfl 2 rfl dX3_correct_23 ?_
    refine v_icmp_le (pc := 24) (tgt := 45) X h dX3_correct_24 (by decide) (fun h => ?_) (fun h => ?_)
    · refine v_aload_n (pc := 45) X rfl 1 rfl dX3_correct_45 ?_
      refine v_dup (pc := 46) X rfl dX3_correct_46 ?_
      refine gf_3_9 (pc := 47) X hi0 wd_65 h dX3_correct_47 (fun x_7 h => ?_)
      refine v_iconst (pc := 50) X cst_i_1 dX3_correct_50 ?_
      refine v_iadd (pc := 51) X dX3_correct_51 ?_
      refine pf_3_9 (pc := 52) X hi0 wd_65 h dX3_correct_52 (fun m_8 h => ?_)
      refine v_aload_n (pc := 55) X rfl 1 rfl dX3_correct_55 ?_
      refine v_iconst (pc := 56) X cst_i_0 dX3_correct_56 ?_
      refine pf_3_10 (pc := 57) X hi0 wd_66 h dX3_correct_57 (fun m_9 h => ?_)
      refine v_aload_n (pc := 60) X rfl 1 rfl dX3_correct_60 ?_
      refine v_dup (pc := 61) X rfl dX3_correct_61 ?_
      refine gf_3_11 (pc := 62) X hi0 wd_67 h dX3_correct_62 (fun x_10 h => ?_)
      refine v_iload_n (pc := 65) X rfl 0 rfl dX3_correct_65 ?_
      refine v_iadd (pc := 66) X dX3_correct_66 ?_
      refine pf_3_11 (pc := 67) X hi0 wd_67 h dX3_correct_67 (fun m_11 h => ?_)
      refine v_aload_n (pc := 70) X rfl 1 rfl dX3_correct_70 ?_
      refine gf_3_12 (pc := 71) X hi0 wd_68 h dX3_correct_71 (fun x_12 h => ?_)
      refine v_aload_n (pc := 74) X rfl 1 rfl dX3_correct_74 ?_
      refine gf_3_14 (pc := 75) X hi0 wd_73 h dX3_correct_75 (fun j_13 hj_13 h => ?_)
      refine v_aload_n (pc := 78) X rfl 1 rfl dX3_correct_78 ?_
      refine gf_3_15 (pc := 79) X hi0 wd_74 h dX3_correct_79 (fun j_14 hj_14 h => ?_)
      refine v_aload_n (pc := 82) X rfl 3 rfl dX3_correct_82 ?_
      refine v_callVi (pc := 83) X (c_X1_trimOfMoves l g hI _ _ hj_13 _ hj_14 _ hi2 _ h) wd_348 wd_345 wd_346 wd_347 wd_72 ⟨rfl, rfl⟩ hdc_X1_trimOfMoves ⟨Nat.le_of_ble_eq_true rfl, Nat.le_of_ble_eq_true rfl⟩ ⟨Nat.le_refl 0, Nat.le_refl 0⟩ hj_13 rfl rfl (As := [.ref (g.1 1 j_14), .ref (g.1 4 i2)]) rfl rfl (Nat.le_of_ble_eq_true rfl) dX3_correct_83 (fun x_16 m_15 h => ?_)
      refine v_iadd (pc := 86) X dX3_correct_86 ?_
      refine v_nm h (fun y_17 h => ?_)
      refine v_istore (pc := 87) (lv' := [(4, .int y_17), (3, .int x_3), (0, .ref (g.1 3 i0)), (1, .int a1), (2, .ref (g.1 4 i2))]) X (by decide) rfl dX3_correct_87 ?_
      refine v_aload_n (pc := 89) X rfl 2 rfl dX3_correct_89 ?_
      refine v_bipush (pc := 90) X cst_b_m100 dX3_correct_90 ?_
      refine v_bipush (pc := 92) X cst_b_100 dX3_correct_92 ?_
      refine v_iload (pc := 94) X 0 rfl dX3_correct_94 ?_
      refine v_mmin (pc := 96) X wd_323 wd_324 wd_321 wd_325 (Nat.le_of_ble_eq_true rfl) (Nat.le_of_ble_eq_true rfl) (Nat.le_refl 0) (Nat.le_refl 0) h dX3_correct_96 (fun x_18 h => ?_)
      refine v_mmax (pc := 99) X wd_326 wd_327 wd_321 wd_328 (Nat.le_of_ble_eq_true rfl) (Nat.le_of_ble_eq_true rfl) (Nat.le_refl 0) (Nat.le_refl 0) h dX3_correct_99 (fun x_19 h => ?_)
      refine pf_3_12 (pc := 102) X hi0 wd_68 h dX3_correct_102 (fun m_20 h => ?_)
      refine v_sub [2] rfl ?_
      exact B105  _ h
    · refine v_sub [1] rfl ?_
      exact B27  _ h
