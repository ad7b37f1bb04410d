theorem hdc_X0_chooseSenders : yX0_chooseSenders.cls ≠ "java/lang/invoke/MethodHandle" ∧ yX0_chooseSenders.cls ≠ "java/lang/invoke/VarHandle" ∧ (parseMethodDescriptor yX0_chooseSenders.desc).map (fun d => d.parameters.length) = some 0 := by decide +kernel
theorem hdc_X0_givesWay : yX0_givesWay.cls ≠ "java/lang/invoke/MethodHandle" ∧ yX0_givesWay.cls ≠ "java/lang/invoke/VarHandle" ∧ (parseMethodDescriptor yX0_givesWay.desc).map (fun d => d.parameters.length) = some 3 := by decide +kernel
theorem hdc_X0_hearOthers : yX0_hearOthers.cls ≠ "java/lang/invoke/MethodHandle" ∧ yX0_hearOthers.cls ≠ "java/lang/invoke/VarHandle" ∧ (parseMethodDescriptor yX0_hearOthers.desc).map (fun d => d.parameters.length) = some 2 := by decide +kernel
theorem hdc_X0_isSignGiven : yX0_isSignGiven.cls ≠ "java/lang/invoke/MethodHandle" ∧ yX0_isSignGiven.cls ≠ "java/lang/invoke/VarHandle" ∧ (parseMethodDescriptor yX0_isSignGiven.desc).map (fun d => d.parameters.length) = some 0 := by decide +kernel
theorem hdc_X0_listen : yX0_listen.cls ≠ "java/lang/invoke/MethodHandle" ∧ yX0_listen.cls ≠ "java/lang/invoke/VarHandle" ∧ (parseMethodDescriptor yX0_listen.desc).map (fun d => d.parameters.length) = some 0 := by decide +kernel
theorem hdc_X0_moveClocks : yX0_moveClocks.cls ≠ "java/lang/invoke/MethodHandle" ∧ yX0_moveClocks.cls ≠ "java/lang/invoke/VarHandle" ∧ (parseMethodDescriptor yX0_moveClocks.desc).map (fun d => d.parameters.length) = some 0 := by decide +kernel
theorem hdc_X0_settle : yX0_settle.cls ≠ "java/lang/invoke/MethodHandle" ∧ yX0_settle.cls ≠ "java/lang/invoke/VarHandle" ∧ (parseMethodDescriptor yX0_settle.desc).map (fun d => d.parameters.length) = some 1 := by decide +kernel
theorem hdc_X0_thatGiveWay : yX0_thatGiveWay.cls ≠ "java/lang/invoke/MethodHandle" ∧ yX0_thatGiveWay.cls ≠ "java/lang/invoke/VarHandle" ∧ (parseMethodDescriptor yX0_thatGiveWay.desc).map (fun d => d.parameters.length) = some 1 := by decide +kernel
theorem hdc_X1_note : yX1_note.cls ≠ "java/lang/invoke/MethodHandle" ∧ yX1_note.cls ≠ "java/lang/invoke/VarHandle" ∧ (parseMethodDescriptor yX1_note.desc).map (fun d => d.parameters.length) = some 3 := by decide +kernel
theorem hdc_X2_add : yX2_add.cls ≠ "java/lang/invoke/MethodHandle" ∧ yX2_add.cls ≠ "java/lang/invoke/VarHandle" ∧ (parseMethodDescriptor yX2_add.desc).map (fun d => d.parameters.length) = some 3 := by decide +kernel
theorem hdc_X2_copy : yX2_copy.cls ≠ "java/lang/invoke/MethodHandle" ∧ yX2_copy.cls ≠ "java/lang/invoke/VarHandle" ∧ (parseMethodDescriptor yX2_copy.desc).map (fun d => d.parameters.length) = some 1 := by decide +kernel
theorem hdc_X3_copy : yX3_copy.cls ≠ "java/lang/invoke/MethodHandle" ∧ yX3_copy.cls ≠ "java/lang/invoke/VarHandle" ∧ (parseMethodDescriptor yX3_copy.desc).map (fun d => d.parameters.length) = some 1 := by decide +kernel
theorem hdc_X3_correct : yX3_correct.cls ≠ "java/lang/invoke/MethodHandle" ∧ yX3_correct.cls ≠ "java/lang/invoke/VarHandle" ∧ (parseMethodDescriptor yX3_correct.desc).map (fun d => d.parameters.length) = some 2 := by decide +kernel
theorem hdc_X3_givesSign : yX3_givesSign.cls ≠ "java/lang/invoke/MethodHandle" ∧ yX3_givesSign.cls ≠ "java/lang/invoke/VarHandle" ∧ (parseMethodDescriptor yX3_givesSign.desc).map (fun d => d.parameters.length) = some 0 := by decide +kernel
theorem hdc_X3_isAwake : yX3_isAwake.cls ≠ "java/lang/invoke/MethodHandle" ∧ yX3_isAwake.cls ≠ "java/lang/invoke/VarHandle" ∧ (parseMethodDescriptor yX3_isAwake.desc).map (fun d => d.parameters.length) = some 0 := by decide +kernel
theorem hdc_X3_isFirstTurnOfLeader : yX3_isFirstTurnOfLeader.cls ≠ "java/lang/invoke/MethodHandle" ∧ yX3_isFirstTurnOfLeader.cls ≠ "java/lang/invoke/VarHandle" ∧ (parseMethodDescriptor yX3_isFirstTurnOfLeader.desc).map (fun d => d.parameters.length) = some 0 := by decide +kernel
theorem hdc_X3_isReadyToSend : yX3_isReadyToSend.cls ≠ "java/lang/invoke/MethodHandle" ∧ yX3_isReadyToSend.cls ≠ "java/lang/invoke/VarHandle" ∧ (parseMethodDescriptor yX3_isReadyToSend.desc).map (fun d => d.parameters.length) = some 0 := by decide +kernel
theorem hdc_X3_settle : yX3_settle.cls ≠ "java/lang/invoke/MethodHandle" ∧ yX3_settle.cls ≠ "java/lang/invoke/VarHandle" ∧ (parseMethodDescriptor yX3_settle.desc).map (fun d => d.parameters.length) = some 1 := by decide +kernel
theorem hdc_X3_turnHearing : yX3_turnHearing.cls ≠ "java/lang/invoke/MethodHandle" ∧ yX3_turnHearing.cls ≠ "java/lang/invoke/VarHandle" ∧ (parseMethodDescriptor yX3_turnHearing.desc).map (fun d => d.parameters.length) = some 0 := by decide +kernel
def wp_X0_copy_b41 (i0 : Nat) (i1 : Nat) (q : Mem → Prop)  (μ : Mem) : Prop :=
wp_X2_copy i0 i1 μ (fun m_1 =>
∀ x_2 : Int32, x_2 = m_1 0 i1 3 →
∀ m_3 : Mem, m_3 = ms m_1 0 i0 3 x_2 →
∀ x_4 : Int32, x_4 = m_3 0 i1 4 →
∀ m_5 : Mem, m_5 = ms m_3 0 i0 4 x_4 →
∀ x_6 : Int32, x_6 = m_5 0 i1 5 →
∀ m_7 : Mem, m_7 = ms m_5 0 i0 5 x_6 →
q m_7)
def wp_X0_copy_l2 (i0 : Nat) (i1 : Nat) (q : Mem → Prop) : Nat → Int32 → Mem → Prop
  | 0 => fun _ _ => False
  | n + 1 => fun b2 μ =>
(((nI 6) ≤ b2 →
wp_X0_copy_b41 i0 i1 q  μ) ∧ (¬ (nI 6) ≤ b2 →
(((nI 6) ≤ b2 →
wp_X0_copy_b41 i0 i1 q  μ) ∧ (¬ (nI 6) ≤ b2 →
vp_in b2 6 ∧ ∀ j_1 : Nat, j_1 = 6 * i0 + (b2 : Int32).toNatClampNeg →
vp_in b2 6 ∧ ∀ j_2 : Nat, j_2 = 6 * i1 + (b2 : Int32).toNatClampNeg →
wp_X3_copy j_1 j_2 μ (fun m_3 =>
wp_X0_copy_l2 i0 i1 q n (b2 + 1) m_3)))))
def wp_X0_copy (i0 : Nat) (i1 : Nat) (μ : Mem) (q : Mem → Prop) : Prop :=
∃ n : Nat, wp_X0_copy_l2 i0 i1 q n 0 μ
set_option maxRecDepth 100000 in
set_option maxHeartbeats 4000000 in
theorem c_X0_copy (l : Launch) (g : GG) (hI : Inj g) (μ : Mem) (i0 : Nat) (hi0 : i0 < 4) (i1 : Nat) (hi1 : i1 < 4) (q : Mem → Prop) (h : wp_X0_copy i0 i1 μ q) : Met l yX0_copy (Cond.code yX0_copy cX0_copy 3 none :: wsL_law) ({ frames := 2, cells := 0, slots := 0, locals := 43 }) (KP g [.ref (g.1 0 i0), .ref (g.1 0 i1)] μ) (KQv g q) 0 0 (AA g) := by
  refine met_V (own := RX0) hI (by decide) rfl (Nat.le_of_ble_eq_true rfl) rfl (fun p e s m args below meth c X hr hlk => ?_)
  have B41 : ∀  (μ : Mem), wp_X0_copy_b41 i0 i1 q  μ → V p l e ({ frames := 2, cells := 0, slots := 0, locals := 43 }) s m args below meth c 3 g (AA g) 0 0 (MQ below (KQv g q) args s 0 0 (AA g)) μ 41 [(0, .ref (g.1 0 i0)), (1, .ref (g.1 0 i1))] [] := by
    intro  μ h
    unfold wp_X0_copy_b41 at h
    refine v_aload_n (pc := 41) X rfl 0 rfl dX0_copy_41 ?_
    refine gf_0_1 (pc := 42) X hi0 wd_32 dX0_copy_42 ?_
    refine v_aload_n (pc := 45) X rfl 1 rfl dX0_copy_45 ?_
    refine gf_0_1 (pc := 46) X hi1 wd_32 dX0_copy_46 ?_
    refine v_callVv (pc := 49) X (c_X2_copy l g hI _ _ hi0 _ hi1 _ h) wd_557 wd_554 wd_555 wd_556 wd_31 ⟨rfl, rfl⟩ hdc_X2_copy ⟨Nat.le_of_ble_eq_true rfl, Nat.le_of_ble_eq_true rfl⟩ ⟨Nat.le_refl 0, Nat.le_refl 0⟩ hi0 rfl rfl (As := [.ref (g.1 2 i1)]) rfl rfl (Nat.le_of_ble_eq_true rfl) dX0_copy_49 (fun m_1 h => ?_)
    refine v_aload_n (pc := 52) X rfl 0 rfl dX0_copy_52 ?_
    refine v_aload_n (pc := 53) X rfl 1 rfl dX0_copy_53 ?_
    refine gf_0_3 (pc := 54) X hi1 wd_35 h dX0_copy_54 (fun x_2 h => ?_)
    refine pf_0_3 (pc := 57) X hi0 wd_35 h dX0_copy_57 (fun m_3 h => ?_)
    refine v_aload_n (pc := 60) X rfl 0 rfl dX0_copy_60 ?_
    refine v_aload_n (pc := 61) X rfl 1 rfl dX0_copy_61 ?_
    refine gf_0_4 (pc := 62) X hi1 wd_36 h dX0_copy_62 (fun x_4 h => ?_)
    refine pf_0_4 (pc := 65) X hi0 wd_36 h dX0_copy_65 (fun m_5 h => ?_)
    refine v_aload_n (pc := 68) X rfl 0 rfl dX0_copy_68 ?_
    refine v_aload_n (pc := 69) X rfl 1 rfl dX0_copy_69 ?_
    refine gf_0_5 (pc := 70) X hi1 wd_37 h dX0_copy_70 (fun x_6 h => ?_)
    refine pf_0_5 (pc := 73) X hi0 wd_37 h dX0_copy_73 (fun m_7 h => ?_)
    exact v_vret (pc := 76) X hr hlk h dX0_copy_76
  have L2 : ∀ (n : Nat) (b2 : Int32) (μ : Mem), wp_X0_copy_l2 i0 i1 q n b2 μ → V p l e ({ frames := 2, cells := 0, slots := 0, locals := 43 }) s m args below meth c 3 g (AA g) 0 0 (MQ below (KQv g q) args s 0 0 (AA g)) μ 2 [(0, .ref (g.1 0 i0)), (1, .ref (g.1 0 i1)), (2, .int b2)] [] := by
    intro n
    induction n with
    | zero => intro b2 μ h; exact h.elim
    | succ n ih =>
      intro b2 μ h
      unfold wp_X0_copy_l2 at h
      refine v_iload_n (pc := 2) X rfl 2 rfl dX0_copy_2 ?_
      refine v_aload_n (pc := 3) X rfl 0 rfl dX0_copy_3 ?_
      refine gf_0_0 (pc := 4) X hi0 wd_28 dX0_copy_4 ?_
      refine len_13 (pc := 7) X hi0 dX0_copy_7 ?_
      refine v_icmp_ge (pc := 8) (tgt := 41) X h dX0_copy_8 (by decide) (fun h => ?_) (fun h => ?_)
      · refine v_sub [0, 1] rfl ?_
        exact B41  _ h
      · refine v_iload_n (pc := 11) X rfl 2 rfl dX0_copy_11 ?_
        refine v_aload_n (pc := 12) X rfl 1 rfl dX0_copy_12 ?_
        refine gf_0_0 (pc := 13) X hi1 wd_28 dX0_copy_13 ?_
        refine len_13 (pc := 16) X hi1 dX0_copy_16 ?_
        refine v_icmp_ge (pc := 17) (tgt := 41) X h dX0_copy_17 (by decide) (fun h => ?_) (fun h => ?_)
        · refine v_sub [0, 1] rfl ?_
          exact B41  _ h
        · refine v_aload_n (pc := 20) X rfl 0 rfl dX0_copy_20 ?_
          refine gf_0_0 (pc := 21) X hi0 wd_28 dX0_copy_21 ?_
          refine v_iload_n (pc := 24) X rfl 2 rfl dX0_copy_24 ?_
          refine v_nodes (pc := 25) X hi0 h dX0_copy_25 (fun j_1 hj_1 h => ?_)
          refine v_aload_n (pc := 26) X rfl 1 rfl dX0_copy_26 ?_
          refine gf_0_0 (pc := 27) X hi1 wd_28 dX0_copy_27 ?_
          refine v_iload_n (pc := 30) X rfl 2 rfl dX0_copy_30 ?_
          refine v_nodes (pc := 31) X hi1 h dX0_copy_31 (fun j_2 hj_2 h => ?_)
          refine v_callVv (pc := 32) X (c_X3_copy l g hI _ _ hj_1 _ hj_2 _ h) wd_549 wd_546 wd_547 wd_548 wd_39 ⟨rfl, rfl⟩ hdc_X3_copy ⟨Nat.le_of_ble_eq_true rfl, Nat.le_of_ble_eq_true rfl⟩ ⟨Nat.le_refl 0, Nat.le_refl 0⟩ hj_1 rfl rfl (As := [.ref (g.1 3 j_2)]) rfl rfl (Nat.le_of_ble_eq_true rfl) dX0_copy_32 (fun m_3 h => ?_)
          refine v_iinc (pc := 35) (lv' := [(2, .int (b2 + 1)), (0, .ref (g.1 0 i0)), (1, .ref (g.1 0 i1))]) (j := 2) X rfl (congrArg (HAdd.hAdd _) cst_i_1) (by decide) rfl dX0_copy_35 ?_
          refine v_goto (pc := 38) (tgt := 2) X dX0_copy_38 (by decide) ?_
          refine v_sub [1, 2, 0] rfl ?_
          exact ih _ _ h
  unfold wp_X0_copy at h
  refine v_iconst (pc := 0) X cst_i_0 dX0_copy_0 ?_
  refine v_istore_n (pc := 1) (lv' := [(2, .int 0), (0, .ref (g.1 0 i0)), (1, .ref (g.1 0 i1))]) X rfl (by decide) rfl dX0_copy_1 ?_
  refine v_sub [1, 2, 0] rfl ?_
  obtain ⟨n, h⟩ := h
  exact L2 n _ _ h

def wp_X0_isSlotOfAnother_b31 (i0 : Nat) (a1 : Int32) (a2 : Int32) (q : Int32 → Mem → Prop) (K : Int32 → Mem → Prop) (b3 : Int32) (μ : Mem) : Prop :=
K (b3 + 1) μ
def wp_X0_isSlotOfAnother_l2 (i0 : Nat) (a1 : Int32) (a2 : Int32) (q : Int32 → Mem → Prop) : Nat → Int32 → Mem → Prop
  | 0 => fun _ _ => False
  | n + 1 => fun b3 μ =>
(((nI 6) ≤ b3 →
q 0 μ) ∧ (¬ (nI 6) ≤ b3 →
((b3 = a2 →
wp_X0_isSlotOfAnother_b31 i0 a1 a2 q (wp_X0_isSlotOfAnother_l2 i0 a1 a2 q n) b3 μ) ∧ (¬ b3 = a2 →
vp_in b3 6 ∧ ∀ j_1 : Nat, j_1 = 6 * i0 + (b3 : Int32).toNatClampNeg →
∀ x_2 : Int32, x_2 = μ 3 j_1 1 →
((¬ x_2 = a1 →
wp_X0_isSlotOfAnother_b31 i0 a1 a2 q (wp_X0_isSlotOfAnother_l2 i0 a1 a2 q n) b3 μ) ∧ (x_2 = a1 →
q 1 μ))))))
def wp_X0_isSlotOfAnother (i0 : Nat) (a1 : Int32) (a2 : Int32) (μ : Mem) (q : Int32 → Mem → Prop) : Prop :=
∃ n : Nat, wp_X0_isSlotOfAnother_l2 i0 a1 a2 q n 0 μ
set_option maxRecDepth 100000 in
set_option maxHeartbeats 4000000 in
theorem c_X0_isSlotOfAnother (l : Launch) (g : GG) (hI : Inj g) (μ : Mem) (i0 : Nat) (hi0 : i0 < 4) (a1 : Int32) (a2 : Int32) (q : Int32 → Mem → Prop) (h : wp_X0_isSlotOfAnother i0 a1 a2 μ q) : Met l yX0_isSlotOfAnother (Cond.code yX0_isSlotOfAnother cX0_isSlotOfAnother 4 (some .boolean) :: wsL_law) ({ frames := 0, cells := 0, slots := 0, locals := 0 }) (KP g [.ref (g.1 0 i0), .int a1, .int a2] μ) (KQi g q) 0 0 (AA g) := by
  refine met_V (own := RX0) hI (by decide) rfl (Nat.le_of_ble_eq_true rfl) rfl (fun p e s m args below meth c X hr hlk => ?_)
  have L2 : ∀ (n : Nat) (b3 : Int32) (μ : Mem), wp_X0_isSlotOfAnother_l2 i0 a1 a2 q n b3 μ → V p l e ({ frames := 0, cells := 0, slots := 0, locals := 0 }) s m args below meth c 4 g (AA g) 0 0 (MQ below (KQi g q) args s 0 0 (AA g)) μ 2 [(0, .ref (g.1 0 i0)), (1, .int a1), (2, .int a2), (3, .int b3)] [] := by
    intro n
    induction n with
    | zero => intro b3 μ h; exact h.elim
    | succ n ih =>
      have B31 : ∀ (b3 : Int32) (μ : Mem), wp_X0_isSlotOfAnother_b31 i0 a1 a2 q (wp_X0_isSlotOfAnother_l2 i0 a1 a2 q n) b3 μ → V p l e ({ frames := 0, cells := 0, slots := 0, locals := 0 }) s m args below meth c 4 g (AA g) 0 0 (MQ below (KQi g q) args s 0 0 (AA g)) μ 31 [(0, .ref (g.1 0 i0)), (1, .int a1), (2, .int a2), (3, .int b3)] [] := by
        intro b3 μ h
        unfold wp_X0_isSlotOfAnother_b31 at h
        refine v_iinc (pc := 31) (lv' := [(3, .int (b3 + 1)), (0, .ref (g.1 0 i0)), (1, .int a1), (2, .int a2)]) (j := 3) X rfl (congrArg (HAdd.hAdd _) cst_i_1) (by decide) rfl dX0_isSlotOfAnother_31 ?_
        refine v_goto (pc := 34) (tgt := 2) X dX0_isSlotOfAnother_34 (by decide) ?_
        refine v_sub [1, 2, 3, 0] rfl ?_
        exact ih _ _ h
      intro b3 μ h
      unfold wp_X0_isSlotOfAnother_l2 at h
      refine v_iload_n (pc := 2) X rfl 3 rfl dX0_isSlotOfAnother_2 ?_
      refine v_aload_n (pc := 3) X rfl 0 rfl dX0_isSlotOfAnother_3 ?_
      refine gf_0_0 (pc := 4) X hi0 wd_28 dX0_isSlotOfAnother_4 ?_
      refine len_13 (pc := 7) X hi0 dX0_isSlotOfAnother_7 ?_
      refine v_icmp_ge (pc := 8) (tgt := 37) X h dX0_isSlotOfAnother_8 (by decide) (fun h => ?_) (fun h => ?_)
      · refine v_iconst (pc := 37) X cst_i_0 dX0_isSlotOfAnother_37 ?_
        exact v_zret (pc := 38) X hr hlk ⟨nz_0, h⟩ dX0_isSlotOfAnother_38
      · refine v_iload_n (pc := 11) X rfl 3 rfl dX0_isSlotOfAnother_11 ?_
        refine v_iload_n (pc := 12) X rfl 2 rfl dX0_isSlotOfAnother_12 ?_
        refine v_icmp_eq (pc := 13) (tgt := 31) X h dX0_isSlotOfAnother_13 (by decide) (fun h => ?_) (fun h => ?_)
        · exact B31 _ _ h
        · refine v_aload_n (pc := 16) X rfl 0 rfl dX0_isSlotOfAnother_16 ?_
          refine gf_0_0 (pc := 17) X hi0 wd_28 dX0_isSlotOfAnother_17 ?_
          refine v_iload_n (pc := 20) X rfl 3 rfl dX0_isSlotOfAnother_20 ?_
          refine v_nodes (pc := 21) X hi0 h dX0_isSlotOfAnother_21 (fun j_1 hj_1 h => ?_)
          refine gf_3_1 (pc := 22) X hj_1 wd_124 h dX0_isSlotOfAnother_22 (fun x_2 h => ?_)
          refine v_iload_n (pc := 25) X rfl 1 rfl dX0_isSlotOfAnother_25 ?_
          refine v_icmp_ne (pc := 26) (tgt := 31) X h dX0_isSlotOfAnother_26 (by decide) (fun h => ?_) (fun h => ?_)
          · exact B31 _ _ h
          · refine v_iconst (pc := 29) X cst_i_1 dX0_isSlotOfAnother_29 ?_
            exact v_zret (pc := 30) X hr hlk ⟨nz_1, h⟩ dX0_isSlotOfAnother_30
  unfold wp_X0_isSlotOfAnother at h
  refine v_iconst (pc := 0) X cst_i_0 dX0_isSlotOfAnother_0 ?_
  refine v_istore_n (pc := 1) (lv' := [(3, .int 0), (0, .ref (g.1 0 i0)), (1, .int a1), (2, .int a2)]) X rfl (by decide) rfl dX0_isSlotOfAnother_1 ?_
  refine v_sub [1, 2, 3, 0] rfl ?_
  obtain ⟨n, h⟩ := h
  exact L2 n _ _ h

def wp_X0_thatAre_b33 (i0 : Nat) (a1 : Int32) (q : Int32 → Mem → Prop) (K : Int32 → Int32 → Mem → Prop) (b2 : Int32) (b3 : Int32) (μ : Mem) : Prop :=
K b2 (b3 + 1) μ
def wp_X0_thatAre_l4 (i0 : Nat) (a1 : Int32) (q : Int32 → Mem → Prop) : Nat → Int32 → Int32 → Mem → Prop
  | 0 => fun _ _ _ => False
  | n + 1 => fun b2 b3 μ =>
(((nI 6) ≤ b3 →
q b2 μ) ∧ (¬ (nI 6) ≤ b3 →
vp_in b3 6 ∧ ∀ j_1 : Nat, j_1 = 6 * i0 + (b3 : Int32).toNatClampNeg →
∀ x_2 : Int32, x_2 = μ 3 j_1 5 →
((¬ x_2 = a1 →
wp_X0_thatAre_b33 i0 a1 q (wp_X0_thatAre_l4 i0 a1 q n) b2 b3 μ) ∧ (x_2 = a1 →
wp_X5_bitOf b3 μ (fun x_4 m_3 =>
∀ y_5 : Int32, y_5 = (b2 ||| x_4) →
wp_X0_thatAre_b33 i0 a1 q (wp_X0_thatAre_l4 i0 a1 q n) y_5 b3 m_3)))))
def wp_X0_thatAre (i0 : Nat) (a1 : Int32) (μ : Mem) (q : Int32 → Mem → Prop) : Prop :=
∃ n : Nat, wp_X0_thatAre_l4 i0 a1 q n 0 0 μ
set_option maxRecDepth 100000 in
set_option maxHeartbeats 4000000 in
theorem c_X0_thatAre (l : Launch) (g : GG) (hI : Inj g) (μ : Mem) (i0 : Nat) (hi0 : i0 < 4) (a1 : Int32) (q : Int32 → Mem → Prop) (h : wp_X0_thatAre i0 a1 μ q) : Met l yX0_thatAre (Cond.code yX0_thatAre cX0_thatAre 4 (some .int) :: wsL_law) ({ frames := 1, cells := 0, slots := 0, locals := 20 }) (KP g [.ref (g.1 0 i0), .int a1] μ) (KQi g q) 0 0 (AA g) := by
  refine met_V (own := RX0) hI (by decide) rfl (Nat.le_of_ble_eq_true rfl) rfl (fun p e s m args below meth c X hr hlk => ?_)
  have L4 : ∀ (n : Nat) (b2 : Int32) (b3 : Int32) (μ : Mem), wp_X0_thatAre_l4 i0 a1 q n b2 b3 μ → V p l e ({ frames := 1, cells := 0, slots := 0, locals := 20 }) s m args below meth c 4 g (AA g) 0 0 (MQ below (KQi g q) args s 0 0 (AA g)) μ 4 [(0, .ref (g.1 0 i0)), (1, .int a1), (2, .int b2), (3, .int b3)] [] := by
    intro n
    induction n with
    | zero => intro b2 b3 μ h; exact h.elim
    | succ n ih =>
      have B33 : ∀ (b2 : Int32) (b3 : Int32) (μ : Mem), wp_X0_thatAre_b33 i0 a1 q (wp_X0_thatAre_l4 i0 a1 q n) b2 b3 μ → V p l e ({ frames := 1, cells := 0, slots := 0, locals := 20 }) s m args below meth c 4 g (AA g) 0 0 (MQ below (KQi g q) args s 0 0 (AA g)) μ 33 [(0, .ref (g.1 0 i0)), (1, .int a1), (2, .int b2), (3, .int b3)] [] := by
        intro b2 b3 μ h
        unfold wp_X0_thatAre_b33 at h
        refine v_iinc (pc := 33) (lv' := [(3, .int (b3 + 1)), (0, .ref (g.1 0 i0)), (1, .int a1), (2, .int b2)]) (j := 3) X rfl (congrArg (HAdd.hAdd _) cst_i_1) (by decide) rfl dX0_thatAre_33 ?_
        refine v_goto (pc := 36) (tgt := 4) X dX0_thatAre_36 (by decide) ?_
        refine v_sub [1, 2, 3, 0] rfl ?_
        exact ih _ _ _ h
      intro b2 b3 μ h
      unfold wp_X0_thatAre_l4 at h
      refine v_iload_n (pc := 4) X rfl 3 rfl dX0_thatAre_4 ?_
      refine v_aload_n (pc := 5) X rfl 0 rfl dX0_thatAre_5 ?_
      refine gf_0_0 (pc := 6) X hi0 wd_28 dX0_thatAre_6 ?_
      refine len_13 (pc := 9) X hi0 dX0_thatAre_9 ?_
      refine v_icmp_ge (pc := 10) (tgt := 39) X h dX0_thatAre_10 (by decide) (fun h => ?_) (fun h => ?_)
      · refine v_iload_n (pc := 39) X rfl 2 rfl dX0_thatAre_39 ?_
        exact v_iret (pc := 40) X hr hlk h dX0_thatAre_40
      · refine v_aload_n (pc := 13) X rfl 0 rfl dX0_thatAre_13 ?_
        refine gf_0_0 (pc := 14) X hi0 wd_28 dX0_thatAre_14 ?_
        refine v_iload_n (pc := 17) X rfl 3 rfl dX0_thatAre_17 ?_
        refine v_nodes (pc := 18) X hi0 h dX0_thatAre_18 (fun j_1 hj_1 h => ?_)
        refine gf_3_5 (pc := 19) X hj_1 wd_285 h dX0_thatAre_19 (fun x_2 h => ?_)
        refine v_iload_n (pc := 22) X rfl 1 rfl dX0_thatAre_22 ?_
        refine v_icmp_ne (pc := 23) (tgt := 33) X h dX0_thatAre_23 (by decide) (fun h => ?_) (fun h => ?_)
        · exact B33 _ _ _ h
        · refine v_iload_n (pc := 26) X rfl 2 rfl dX0_thatAre_26 ?_
          refine v_iload_n (pc := 27) X rfl 3 rfl dX0_thatAre_27 ?_
          refine v_callNi (pc := 28) X (c_X5_bitOf l g hI _ _ _ h) wd_184 nst_0 wd_183 wd_2 ⟨rfl, rfl⟩ hdc_X5_bitOf ⟨Nat.le_of_ble_eq_true rfl, Nat.le_of_ble_eq_true rfl⟩ ⟨Nat.le_refl 0, Nat.le_refl 0⟩ (As := [.int b3]) rfl rfl (Nat.le_of_ble_eq_true rfl) dX0_thatAre_28 (fun x_4 m_3 h => ?_)
          refine v_ior (pc := 31) X dX0_thatAre_31 ?_
          refine v_nm h (fun y_5 h => ?_)
          refine v_istore_n (pc := 32) (lv' := [(2, .int y_5), (0, .ref (g.1 0 i0)), (1, .int a1), (3, .int b3)]) X rfl (by decide) rfl dX0_thatAre_32 ?_
          refine v_sub [1, 2, 0, 3] rfl ?_
          exact B33 _ _ _ h
  unfold wp_X0_thatAre at h
  refine v_iconst (pc := 0) X cst_i_0 dX0_thatAre_0 ?_
  refine v_istore_n (pc := 1) (lv' := [(2, .int 0), (0, .ref (g.1 0 i0)), (1, .int a1)]) X rfl (by decide) rfl dX0_thatAre_1 ?_
  refine v_iconst (pc := 2) X cst_i_0 dX0_thatAre_2 ?_
  refine v_istore_n (pc := 3) (lv' := [(3, .int 0), (2, .int 0), (0, .ref (g.1 0 i0)), (1, .int a1)]) X rfl (by decide) rfl dX0_thatAre_3 ?_
  refine v_sub [2, 3, 1, 0] rfl ?_
  obtain ⟨n, h⟩ := h
  exact L4 n _ _ _ h

def wp_X0_awake_b32 (i0 : Nat) (q : Int32 → Mem → Prop) (K : Int32 → Int32 → Mem → Prop) (b1 : Int32) (b2 : Int32) (μ : Mem) : Prop :=
K b1 (b2 + 1) μ
def wp_X0_awake_l4 (i0 : Nat) (q : Int32 → Mem → Prop) : Nat → Int32 → Int32 → Mem → Prop
  | 0 => fun _ _ _ => False
  | n + 1 => fun b1 b2 μ =>
(((nI 6) ≤ b2 →
q b1 μ) ∧ (¬ (nI 6) ≤ b2 →
vp_in b2 6 ∧ ∀ j_1 : Nat, j_1 = 6 * i0 + (b2 : Int32).toNatClampNeg →
wp_X3_isAwake j_1 μ (fun x_3 m_2 =>
((x_3 = 0 →
wp_X0_awake_b32 i0 q (wp_X0_awake_l4 i0 q n) b1 b2 m_2) ∧ (¬ x_3 = 0 →
wp_X5_bitOf b2 m_2 (fun x_5 m_4 =>
∀ y_6 : Int32, y_6 = (b1 ||| x_5) →
wp_X0_awake_b32 i0 q (wp_X0_awake_l4 i0 q n) y_6 b2 m_4))))))
def wp_X0_awake (i0 : Nat) (μ : Mem) (q : Int32 → Mem → Prop) : Prop :=
∃ n : Nat, wp_X0_awake_l4 i0 q n 0 0 μ
set_option maxRecDepth 100000 in
set_option maxHeartbeats 4000000 in
theorem c_X0_awake (l : Launch) (g : GG) (hI : Inj g) (μ : Mem) (i0 : Nat) (hi0 : i0 < 4) (q : Int32 → Mem → Prop) (h : wp_X0_awake i0 μ q) : Met l yX0_awake (Cond.code yX0_awake cX0_awake 3 (some .int) :: wsL_law) ({ frames := 1, cells := 0, slots := 0, locals := 20 }) (KP g [.ref (g.1 0 i0)] μ) (KQi g q) 0 0 (AA g) := by
  refine met_V (own := RX0) hI (by decide) rfl (Nat.le_of_ble_eq_true rfl) rfl (fun p e s m args below meth c X hr hlk => ?_)
  have L4 : ∀ (n : Nat) (b1 : Int32) (b2 : Int32) (μ : Mem), wp_X0_awake_l4 i0 q n b1 b2 μ → V p l e ({ frames := 1, cells := 0, slots := 0, locals := 20 }) s m args below meth c 3 g (AA g) 0 0 (MQ below (KQi g q) args s 0 0 (AA g)) μ 4 [(0, .ref (g.1 0 i0)), (1, .int b1), (2, .int b2)] [] := by
    intro n
    induction n with
    | zero => intro b1 b2 μ h; exact h.elim
    | succ n ih =>
      have B32 : ∀ (b1 : Int32) (b2 : Int32) (μ : Mem), wp_X0_awake_b32 i0 q (wp_X0_awake_l4 i0 q n) b1 b2 μ → V p l e ({ frames := 1, cells := 0, slots := 0, locals := 20 }) s m args below meth c 3 g (AA g) 0 0 (MQ below (KQi g q) args s 0 0 (AA g)) μ 32 [(0, .ref (g.1 0 i0)), (1, .int b1), (2, .int b2)] [] := by
        intro b1 b2 μ h
        unfold wp_X0_awake_b32 at h
        refine v_iinc (pc := 32) (lv' := [(2, .int (b2 + 1)), (0, .ref (g.1 0 i0)), (1, .int b1)]) (j := 2) X rfl (congrArg (HAdd.hAdd _) cst_i_1) (by decide) rfl dX0_awake_32 ?_
        refine v_goto (pc := 35) (tgt := 4) X dX0_awake_35 (by decide) ?_
        refine v_sub [1, 2, 0] rfl ?_
        exact ih _ _ _ h
      intro b1 b2 μ h
      unfold wp_X0_awake_l4 at h
      refine v_iload_n (pc := 4) X rfl 2 rfl dX0_awake_4 ?_
      refine v_aload_n (pc := 5) X rfl 0 rfl dX0_awake_5 ?_
      refine gf_0_0 (pc := 6) X hi0 wd_28 dX0_awake_6 ?_
      refine len_13 (pc := 9) X hi0 dX0_awake_9 ?_
      refine v_icmp_ge (pc := 10) (tgt := 38) X h dX0_awake_10 (by decide) (fun h => ?_) (fun h => ?_)
      · refine v_iload_n (pc := 38) X rfl 1 rfl dX0_awake_38 ?_
        exact v_iret (pc := 39) X hr hlk h dX0_awake_39
      · refine v_aload_n (pc := 13) X rfl 0 rfl dX0_awake_13 ?_
        refine gf_0_0 (pc := 14) X hi0 wd_28 dX0_awake_14 ?_
        refine v_iload_n (pc := 17) X rfl 2 rfl dX0_awake_17 ?_
        refine v_nodes (pc := 18) X hi0 h dX0_awake_18 (fun j_1 hj_1 h => ?_)
        refine v_callVi (pc := 19) X (c_X3_isAwake l g hI _ _ hj_1 _ h) wd_169 wd_182 wd_167 wd_168 wd_39 ⟨rfl, rfl⟩ hdc_X3_isAwake ⟨Nat.le_of_ble_eq_true rfl, Nat.le_of_ble_eq_true rfl⟩ ⟨Nat.le_refl 0, Nat.le_refl 0⟩ hj_1 rfl rfl (As := []) rfl rfl (Nat.le_of_ble_eq_true rfl) dX0_awake_19 (fun x_3 m_2 h => ?_)
        refine v_if_eq (pc := 22) (tgt := 32) X h dX0_awake_22 (by decide) (fun h => ?_) (fun h => ?_)
        · exact B32 _ _ _ h
        · refine v_iload_n (pc := 25) X rfl 1 rfl dX0_awake_25 ?_
          refine v_iload_n (pc := 26) X rfl 2 rfl dX0_awake_26 ?_
          refine v_callNi (pc := 27) X (c_X5_bitOf l g hI _ _ _ h) wd_184 nst_0 wd_183 wd_2 ⟨rfl, rfl⟩ hdc_X5_bitOf ⟨Nat.le_of_ble_eq_true rfl, Nat.le_of_ble_eq_true rfl⟩ ⟨Nat.le_refl 0, Nat.le_refl 0⟩ (As := [.int b2]) rfl rfl (Nat.le_of_ble_eq_true rfl) dX0_awake_27 (fun x_5 m_4 h => ?_)
          refine v_ior (pc := 30) X dX0_awake_30 ?_
          refine v_nm h (fun y_6 h => ?_)
          refine v_istore_n (pc := 31) (lv' := [(1, .int y_6), (0, .ref (g.1 0 i0)), (2, .int b2)]) X rfl (by decide) rfl dX0_awake_31 ?_
          refine v_sub [1, 0, 2] rfl ?_
          exact B32 _ _ _ h
  unfold wp_X0_awake at h
  refine v_iconst (pc := 0) X cst_i_0 dX0_awake_0 ?_
  refine v_istore_n (pc := 1) (lv' := [(1, .int 0), (0, .ref (g.1 0 i0))]) X rfl (by decide) rfl dX0_awake_1 ?_
  refine v_iconst (pc := 2) X cst_i_0 dX0_awake_2 ?_
  refine v_istore_n (pc := 3) (lv' := [(2, .int 0), (1, .int 0), (0, .ref (g.1 0 i0))]) X rfl (by decide) rfl dX0_awake_3 ?_
  refine v_sub [2, 1, 0] rfl ?_
  obtain ⟨n, h⟩ := h
  exact L4 n _ _ _ h

def wp_X0_apart_b77 (i0 : Nat) (a1 : Int32) (q : Int32 → Mem → Prop) (K : Int32 → Int32 → Int32 → Int32 → Mem → Prop) (b2 : Int32) (b3 : Int32) (b4 : Int32) (b5 : Int32) (μ : Mem) : Prop :=
K b2 b3 b4 (b5 + 1) μ
def wp_X0_apart_b73 (i0 : Nat) (a1 : Int32) (q : Int32 → Mem → Prop) (K : Int32 → Int32 → Int32 → Int32 → Mem → Prop) (b3 : Int32) (b5 : Int32) (t0 : Int32) (μ : Mem) : Prop :=
wp_X0_apart_b77 i0 a1 q K 1 b3 t0 b5 μ
def wp_X0_apart_b56 (i0 : Nat) (a1 : Int32) (q : Int32 → Mem → Prop) (K : Int32 → Int32 → Int32 → Int32 → Mem → Prop) (b2 : Int32) (b4 : Int32) (b5 : Int32) (b6 : Int32) (t0 : Int32) (μ : Mem) : Prop :=
((b2 = 0 →
wp_X0_apart_b73 i0 a1 q K t0 b5 b6 μ) ∧ (¬ b2 = 0 →
∀ x_1 : Int32, x_1 = (if b4 < b6 then b6 else b4) →
wp_X0_apart_b73 i0 a1 q K t0 b5 x_1 μ))
def wp_X0_apart_l10 (i0 : Nat) (a1 : Int32) (q : Int32 → Mem → Prop) : Nat → Int32 → Int32 → Int32 → Int32 → Mem → Prop
  | 0 => fun _ _ _ _ _ => False
  | n + 1 => fun b2 b3 b4 b5 μ =>
(((nI 6) ≤ b5 →
q (b4 - b3) μ) ∧ (¬ (nI 6) ≤ b5 →
wp_X5_isIn a1 b5 μ (fun x_2 m_1 =>
((x_2 = 0 →
wp_X0_apart_b77 i0 a1 q (wp_X0_apart_l10 i0 a1 q n) b2 b3 b4 b5 m_1) ∧ (¬ x_2 = 0 →
vp_in b5 6 ∧ ∀ j_3 : Nat, j_3 = 6 * i0 + (b5 : Int32).toNatClampNeg →
∀ x_4 : Int32, x_4 = m_1 3 j_3 11 →
((b2 = 0 →
wp_X0_apart_b56 i0 a1 q (wp_X0_apart_l10 i0 a1 q n) b2 b4 b5 x_4 x_4 m_1) ∧ (¬ b2 = 0 →
∀ x_5 : Int32, x_5 = (if x_4 < b3 then x_4 else b3) →
wp_X0_apart_b56 i0 a1 q (wp_X0_apart_l10 i0 a1 q n) b2 b4 b5 x_4 x_5 m_1)))))))
def wp_X0_apart (i0 : Nat) (a1 : Int32) (μ : Mem) (q : Int32 → Mem → Prop) : Prop :=
∃ n : Nat, wp_X0_apart_l10 i0 a1 q n 0 0 0 0 μ
set_option maxRecDepth 100000 in
set_option maxHeartbeats 4000000 in
theorem c_X0_apart (l : Launch) (g : GG) (hI : Inj g) (μ : Mem) (i0 : Nat) (hi0 : i0 < 4) (a1 : Int32) (q : Int32 → Mem → Prop) (h : wp_X0_apart i0 a1 μ q) : Met l yX0_apart (Cond.code yX0_apart cX0_apart 7 (some .int) :: wsL_law) ({ frames := 1, cells := 0, slots := 0, locals := 21 }) (KP g [.ref (g.1 0 i0), .int a1] μ) (KQi g q) 0 0 (AA g) := by
  refine met_V (own := RX0) hI (by decide) rfl (Nat.le_of_ble_eq_true rfl) rfl (fun p e s m args below meth c X hr hlk => ?_)
  have L10 : ∀ (n : Nat) (b2 : Int32) (b3 : Int32) (b4 : Int32) (b5 : Int32) (μ : Mem), wp_X0_apart_l10 i0 a1 q n b2 b3 b4 b5 μ → V p l e ({ frames := 1, cells := 0, slots := 0, locals := 21 }) s m args below meth c 7 g (AA g) 0 0 (MQ below (KQi g q) args s 0 0 (AA g)) μ 10 [(0, .ref (g.1 0 i0)), (1, .int a1), (2, .int b2), (3, .int b3), (4, .int b4), (5, .int b5)] [] := by
    intro n
    induction n with
    | zero => intro b2 b3 b4 b5 μ h; exact h.elim
    | succ n ih =>
      have B77 : ∀ (b2 : Int32) (b3 : Int32) (b4 : Int32) (b5 : Int32) (μ : Mem), wp_X0_apart_b77 i0 a1 q (wp_X0_apart_l10 i0 a1 q n) b2 b3 b4 b5 μ → V p l e ({ frames := 1, cells := 0, slots := 0, locals := 21 }) s m args below meth c 7 g (AA g) 0 0 (MQ below (KQi g q) args s 0 0 (AA g)) μ 77 [(0, .ref (g.1 0 i0)), (1, .int a1), (2, .int b2), (3, .int b3), (4, .int b4), (5, .int b5)] [] := by
        intro b2 b3 b4 b5 μ h
        unfold wp_X0_apart_b77 at h
        refine v_iinc (pc := 77) (lv' := [(5, .int (b5 + 1)), (0, .ref (g.1 0 i0)), (1, .int a1), (2, .int b2), (3, .int b3), (4, .int b4)]) (j := 5) X rfl (congrArg (HAdd.hAdd _) cst_i_1) (by decide) rfl dX0_apart_77 ?_
        refine v_goto (pc := 80) (tgt := 10) X dX0_apart_80 (by decide) ?_
        refine v_sub [1, 2, 3, 4, 5, 0] rfl ?_
        exact ih _ _ _ _ _ h
      have B73 : ∀ (b3 : Int32) (b5 : Int32) (t0 : Int32) (μ : Mem), wp_X0_apart_b73 i0 a1 q (wp_X0_apart_l10 i0 a1 q n) b3 b5 t0 μ → V p l e ({ frames := 1, cells := 0, slots := 0, locals := 21 }) s m args below meth c 7 g (AA g) 0 0 (MQ below (KQi g q) args s 0 0 (AA g)) μ 73 [(0, .ref (g.1 0 i0)), (1, .int a1), (3, .int b3), (5, .int b5)] [.int t0] := by
        intro b3 b5 t0 μ h
        unfold wp_X0_apart_b73 at h
        refine v_istore (pc := 73) (lv' := [(4, .int t0), (0, .ref (g.1 0 i0)), (1, .int a1), (3, .int b3), (5, .int b5)]) X (by decide) rfl dX0_apart_73 ?_
        refine v_iconst (pc := 75) X cst_i_1 dX0_apart_75 ?_
        refine v_istore_n (pc := 76) (lv' := [(2, .int 1), (4, .int t0), (0, .ref (g.1 0 i0)), (1, .int a1), (3, .int b3), (5, .int b5)]) X rfl (by decide) rfl dX0_apart_76 ?_
        refine v_sub [2, 3, 0, 4, 1, 5] rfl ?_
        exact B77 _ _ _ _ _ h
      have B56 : ∀ (b2 : Int32) (b4 : Int32) (b5 : Int32) (b6 : Int32) (t0 : Int32) (μ : Mem), wp_X0_apart_b56 i0 a1 q (wp_X0_apart_l10 i0 a1 q n) b2 b4 b5 b6 t0 μ → V p l e ({ frames := 1, cells := 0, slots := 0, locals := 21 }) s m args below meth c 7 g (AA g) 0 0 (MQ below (KQi g q) args s 0 0 (AA g)) μ 56 [(0, .ref (g.1 0 i0)), (1, .int a1), (2, .int b2), (4, .int b4), (5, .int b5), (6, .int b6)] [.int t0] := by
        intro b2 b4 b5 b6 t0 μ h
        unfold wp_X0_apart_b56 at h
        refine v_istore_n (pc := 56) (lv' := [(3, .int t0), (0, .ref (g.1 0 i0)), (1, .int a1), (2, .int b2), (4, .int b4), (5, .int b5), (6, .int b6)]) X rfl (by decide) rfl dX0_apart_56 ?_
        refine v_iload_n (pc := 57) X rfl 3 rfl dX0_apart_57 ?_
        refine v_if_eq (pc := 58) (tgt := 71) X h dX0_apart_58 (by decide) (fun h => ?_) (fun h => ?_)
        · refine v_iload (pc := 71) X 6 rfl dX0_apart_71 ?_
          refine v_sub [1, 2, 0, 5] rfl ?_
          exact B73 _ _ _ _ h
        · refine v_iload (pc := 61) X 4 rfl dX0_apart_61 ?_
          refine v_iload (pc := 63) X 6 rfl dX0_apart_63 ?_
          refine v_mmax (pc := 65) X wd_529 wd_327 wd_321 wd_328 (Nat.le_of_ble_eq_true rfl) (Nat.le_of_ble_eq_true rfl) (Nat.le_refl 0) (Nat.le_refl 0) h dX0_apart_65 (fun x_1 h => ?_)
          refine v_goto (pc := 68) (tgt := 73) X dX0_apart_68 (by decide) ?_
          refine v_sub [1, 2, 0, 5] rfl ?_
          exact B73 _ _ _ _ h
      intro b2 b3 b4 b5 μ h
      unfold wp_X0_apart_l10 at h
      refine v_iload (pc := 10) X 5 rfl dX0_apart_10 ?_
      refine v_aload_n (pc := 12) X rfl 0 rfl dX0_apart_12 ?_
      refine gf_0_0 (pc := 13) X hi0 wd_28 dX0_apart_13 ?_
      refine len_13 (pc := 16) X hi0 dX0_apart_16 ?_
      refine v_icmp_ge (pc := 17) (tgt := 83) X h dX0_apart_17 (by decide) (fun h => ?_) (fun h => ?_)
      · refine v_iload (pc := 83) X 4 rfl dX0_apart_83 ?_
        refine v_iload_n (pc := 85) X rfl 3 rfl dX0_apart_85 ?_
        refine v_isub (pc := 86) X dX0_apart_86 ?_
        exact v_iret (pc := 87) X hr hlk h dX0_apart_87
      · refine v_iload_n (pc := 20) X rfl 1 rfl dX0_apart_20 ?_
        refine v_iload (pc := 21) X 5 rfl dX0_apart_21 ?_
        refine v_callNi (pc := 23) X (c_X5_isIn l g hI _ _ _ _ h) wd_243 nst_1 wd_242 wd_2 ⟨rfl, rfl⟩ hdc_X5_isIn ⟨Nat.le_of_ble_eq_true rfl, Nat.le_of_ble_eq_true rfl⟩ ⟨Nat.le_refl 0, Nat.le_refl 0⟩ (As := [.int a1, .int b5]) rfl rfl (Nat.le_of_ble_eq_true rfl) dX0_apart_23 (fun x_2 m_1 h => ?_)
        refine v_if_eq (pc := 26) (tgt := 77) X h dX0_apart_26 (by decide) (fun h => ?_) (fun h => ?_)
        · exact B77 _ _ _ _ _ h
        · refine v_aload_n (pc := 29) X rfl 0 rfl dX0_apart_29 ?_
          refine gf_0_0 (pc := 30) X hi0 wd_28 dX0_apart_30 ?_
          refine v_iload (pc := 33) X 5 rfl dX0_apart_33 ?_
          refine v_nodes (pc := 35) X hi0 h dX0_apart_35 (fun j_3 hj_3 h => ?_)
          refine gf_3_11 (pc := 36) X hj_3 wd_270 h dX0_apart_36 (fun x_4 h => ?_)
          refine v_istore (pc := 39) (lv' := [(6, .int x_4), (0, .ref (g.1 0 i0)), (1, .int a1), (2, .int b2), (3, .int b3), (4, .int b4), (5, .int b5)]) X (by decide) rfl dX0_apart_39 ?_
          refine v_iload_n (pc := 41) X rfl 3 rfl dX0_apart_41 ?_
          refine v_if_eq (pc := 42) (tgt := 54) X h dX0_apart_42 (by decide) (fun h => ?_) (fun h => ?_)
          · refine v_iload (pc := 54) X 0 rfl dX0_apart_54 ?_
            refine v_sub [1, 2, 3, 5, 6, 0] rfl ?_
            exact B56 _ _ _ _ _ _ h
          · refine v_iload_n (pc := 45) X rfl 4 rfl dX0_apart_45 ?_
            refine v_iload (pc := 46) X 0 rfl dX0_apart_46 ?_
            refine v_mmin (pc := 48) X wd_528 wd_324 wd_321 wd_325 (Nat.le_of_ble_eq_true rfl) (Nat.le_of_ble_eq_true rfl) (Nat.le_refl 0) (Nat.le_refl 0) h dX0_apart_48 (fun x_5 h => ?_)
            refine v_goto (pc := 51) (tgt := 56) X dX0_apart_51 (by decide) ?_
            refine v_sub [1, 2, 3, 5, 6, 0] rfl ?_
            exact B56 _ _ _ _ _ _ h
  unfold wp_X0_apart at h
  refine v_iconst (pc := 0) X cst_i_0 dX0_apart_0 ?_
  refine v_istore_n (pc := 1) (lv' := [(2, .int 0), (0, .ref (g.1 0 i0)), (1, .int a1)]) X rfl (by decide) rfl dX0_apart_1 ?_
  refine v_iconst (pc := 2) X cst_i_0 dX0_apart_2 ?_
  refine v_istore_n (pc := 3) (lv' := [(3, .int 0), (2, .int 0), (0, .ref (g.1 0 i0)), (1, .int a1)]) X rfl (by decide) rfl dX0_apart_3 ?_
  refine v_iconst (pc := 4) X cst_i_0 dX0_apart_4 ?_
  refine v_istore (pc := 5) (lv' := [(4, .int 0), (3, .int 0), (2, .int 0), (0, .ref (g.1 0 i0)), (1, .int a1)]) X (by decide) rfl dX0_apart_5 ?_
  refine v_iconst (pc := 7) X cst_i_0 dX0_apart_7 ?_
  refine v_istore (pc := 8) (lv' := [(5, .int 0), (4, .int 0), (3, .int 0), (2, .int 0), (0, .ref (g.1 0 i0)), (1, .int a1)]) X (by decide) rfl dX0_apart_8 ?_
  refine v_sub [4, 5, 3, 2, 1, 0] rfl ?_
  obtain ⟨n, h⟩ := h
  exact L10 n _ _ _ _ _ h

def wp_X0_isSignGiven_l2 (i0 : Nat) (q : Int32 → Mem → Prop) : Nat → Int32 → Mem → Prop
  | 0 => fun _ _ => False
  | n + 1 => fun b1 μ =>
(((nI 6) ≤ b1 →
q 0 μ) ∧ (¬ (nI 6) ≤ b1 →
vp_in b1 6 ∧ ∀ j_1 : Nat, j_1 = 6 * i0 + (b1 : Int32).toNatClampNeg →
wp_X3_givesSign j_1 μ (fun x_3 m_2 =>
((x_3 = 0 →
wp_X0_isSignGiven_l2 i0 q n (b1 + 1) m_2) ∧ (¬ x_3 = 0 →
q 1 m_2)))))
def wp_X0_isSignGiven (i0 : Nat) (μ : Mem) (q : Int32 → Mem → Prop) : Prop :=
∃ n : Nat, wp_X0_isSignGiven_l2 i0 q n 0 μ
set_option maxRecDepth 100000 in
set_option maxHeartbeats 4000000 in
theorem c_X0_isSignGiven (l : Launch) (g : GG) (hI : Inj g) (μ : Mem) (i0 : Nat) (hi0 : i0 < 4) (q : Int32 → Mem → Prop) (h : wp_X0_isSignGiven i0 μ q) : Met l yX0_isSignGiven (Cond.code yX0_isSignGiven cX0_isSignGiven 2 (some .boolean) :: wsL_law) ({ frames := 1, cells := 0, slots := 0, locals := 20 }) (KP g [.ref (g.1 0 i0)] μ) (KQi g q) 0 0 (AA g) := by
  refine met_V (own := RX0) hI (by decide) rfl (Nat.le_of_ble_eq_true rfl) rfl (fun p e s m args below meth c X hr hlk => ?_)
  have L2 : ∀ (n : Nat) (b1 : Int32) (μ : Mem), wp_X0_isSignGiven_l2 i0 q n b1 μ → V p l e ({ frames := 1, cells := 0, slots := 0, locals := 20 }) s m args below meth c 2 g (AA g) 0 0 (MQ below (KQi g q) args s 0 0 (AA g)) μ 2 [(0, .ref (g.1 0 i0)), (1, .int b1)] [] := by
    intro n
    induction n with
    | zero => intro b1 μ h; exact h.elim
    | succ n ih =>
      intro b1 μ h
      unfold wp_X0_isSignGiven_l2 at h
      refine v_iload_n (pc := 2) X rfl 1 rfl dX0_isSignGiven_2 ?_
      refine v_aload_n (pc := 3) X rfl 0 rfl dX0_isSignGiven_3 ?_
      refine gf_0_0 (pc := 4) X hi0 wd_28 dX0_isSignGiven_4 ?_
      refine len_13 (pc := 7) X hi0 dX0_isSignGiven_7 ?_
      refine v_icmp_ge (pc := 8) (tgt := 31) X h dX0_isSignGiven_8 (by decide) (fun h => ?_) (fun h => ?_)
      · refine v_iconst (pc := 31) X cst_i_0 dX0_isSignGiven_31 ?_
        exact v_zret (pc := 32) X hr hlk ⟨nz_0, h⟩ dX0_isSignGiven_32
      · refine v_aload_n (pc := 11) X rfl 0 rfl dX0_isSignGiven_11 ?_
        refine gf_0_0 (pc := 12) X hi0 wd_28 dX0_isSignGiven_12 ?_
        refine v_iload_n (pc := 15) X rfl 1 rfl dX0_isSignGiven_15 ?_
        refine v_nodes (pc := 16) X hi0 h dX0_isSignGiven_16 (fun j_1 hj_1 h => ?_)
        refine v_callVi (pc := 17) X (c_X3_givesSign l g hI _ _ hj_1 _ h) wd_227 wd_224 wd_225 wd_226 wd_39 ⟨rfl, rfl⟩ hdc_X3_givesSign ⟨Nat.le_of_ble_eq_true rfl, Nat.le_of_ble_eq_true rfl⟩ ⟨Nat.le_refl 0, Nat.le_refl 0⟩ hj_1 rfl rfl (As := []) rfl rfl (Nat.le_of_ble_eq_true rfl) dX0_isSignGiven_17 (fun x_3 m_2 h => ?_)
        refine v_if_eq (pc := 20) (tgt := 25) X h dX0_isSignGiven_20 (by decide) (fun h => ?_) (fun h => ?_)
        · refine v_iinc (pc := 25) (lv' := [(1, .int (b1 + 1)), (0, .ref (g.1 0 i0))]) (j := 1) X rfl (congrArg (HAdd.hAdd _) cst_i_1) (by decide) rfl dX0_isSignGiven_25 ?_
          refine v_goto (pc := 28) (tgt := 2) X dX0_isSignGiven_28 (by decide) ?_
          refine v_sub [1, 0] rfl ?_
          exact ih _ _ h
        · refine v_iconst (pc := 23) X cst_i_1 dX0_isSignGiven_23 ?_
          exact v_zret (pc := 24) X hr hlk ⟨nz_1, h⟩ dX0_isSignGiven_24
  unfold wp_X0_isSignGiven at h
  refine v_iconst (pc := 0) X cst_i_0 dX0_isSignGiven_0 ?_
  refine v_istore_n (pc := 1) (lv' := [(1, .int 0), (0, .ref (g.1 0 i0))]) X rfl (by decide) rfl dX0_isSignGiven_1 ?_
  refine v_sub [1, 0] rfl ?_
  obtain ⟨n, h⟩ := h
  exact L2 n _ _ h

def wp_X0_givesWay_b60 (i0 : Nat) (i1 : Nat) (a2 : Int32) (a3 : Int32) (q : Int32 → Mem → Prop) (K : Int32 → Mem → Prop) (b4 : Int32) (μ : Mem) : Prop :=
K (b4 + 1) μ
def wp_X0_givesWay_l3 (i0 : Nat) (i1 : Nat) (a2 : Int32) (a3 : Int32) (q : Int32 → Mem → Prop) : Nat → Int32 → Mem → Prop
  | 0 => fun _ _ => False
  | n + 1 => fun b4 μ =>
(((nI 6) ≤ b4 →
q 0 μ) ∧ (¬ (nI 6) ≤ b4 →
((b4 = a2 →
wp_X0_givesWay_b60 i0 i1 a2 a3 q (wp_X0_givesWay_l3 i0 i1 a2 a3 q n) b4 μ) ∧ (¬ b4 = a2 →
wp_X5_isIn a3 b4 μ (fun x_2 m_1 =>
((x_2 = 0 →
wp_X0_givesWay_b60 i0 i1 a2 a3 q (wp_X0_givesWay_l3 i0 i1 a2 a3 q n) b4 m_1) ∧ (¬ x_2 = 0 →
vp_in b4 6 ∧ ∀ j_3 : Nat, j_3 = 6 * i0 + (b4 : Int32).toNatClampNeg →
wp_X3_isFirstTurnOfLeader j_3 m_1 (fun x_5 m_4 =>
((x_5 = 0 →
q 1 m_4) ∧ (¬ x_5 = 0 →
vp_in b4 6 ∧ ∀ j_6 : Nat, j_6 = 6 * i0 + (b4 : Int32).toNatClampNeg →
∀ x_7 : Int32, x_7 = m_4 3 j_6 1 →
∀ x_8 : Int32, x_8 = m_4 3 i1 1 →
((x_8 ≤ x_7 →
wp_X0_givesWay_b60 i0 i1 a2 a3 q (wp_X0_givesWay_l3 i0 i1 a2 a3 q n) b4 m_4) ∧ (¬ x_8 ≤ x_7 →
q 1 m_4))))))))))))
def wp_X0_givesWay (i0 : Nat) (i1 : Nat) (a2 : Int32) (a3 : Int32) (μ : Mem) (q : Int32 → Mem → Prop) : Prop :=
∃ n : Nat, wp_X0_givesWay_l3 i0 i1 a2 a3 q n 0 μ
set_option maxRecDepth 100000 in
set_option maxHeartbeats 4000000 in
theorem c_X0_givesWay (l : Launch) (g : GG) (hI : Inj g) (μ : Mem) (i0 : Nat) (hi0 : i0 < 4) (i1 : Nat) (hi1 : i1 < 24) (a2 : Int32) (a3 : Int32) (q : Int32 → Mem → Prop) (h : wp_X0_givesWay i0 i1 a2 a3 μ q) : Met l yX0_givesWay (Cond.code yX0_givesWay cX0_givesWay 5 (some .boolean) :: wsL_law) ({ frames := 1, cells := 0, slots := 0, locals := 21 }) (KP g [.ref (g.1 0 i0), .ref (g.1 3 i1), .int a2, .int a3] μ) (KQi g q) 0 0 (AA g) := by
  refine met_V (own := RX0) hI (by decide) rfl (Nat.le_of_ble_eq_true rfl) rfl (fun p e s m args below meth c X hr hlk => ?_)
  have L3 : ∀ (n : Nat) (b4 : Int32) (μ : Mem), wp_X0_givesWay_l3 i0 i1 a2 a3 q n b4 μ → V p l e ({ frames := 1, cells := 0, slots := 0, locals := 21 }) s m args below meth c 5 g (AA g) 0 0 (MQ below (KQi g q) args s 0 0 (AA g)) μ 3 [(0, .ref (g.1 0 i0)), (1, .ref (g.1 3 i1)), (2, .int a2), (3, .int a3), (4, .int b4)] [] := by
    intro n
    induction n with
    | zero => intro b4 μ h; exact h.elim
    | succ n ih =>
      have B60 : ∀ (b4 : Int32) (μ : Mem), wp_X0_givesWay_b60 i0 i1 a2 a3 q (wp_X0_givesWay_l3 i0 i1 a2 a3 q n) b4 μ → V p l e ({ frames := 1, cells := 0, slots := 0, locals := 21 }) s m args below meth c 5 g (AA g) 0 0 (MQ below (KQi g q) args s 0 0 (AA g)) μ 60 [(0, .ref (g.1 0 i0)), (1, .ref (g.1 3 i1)), (2, .int a2), (3, .int a3), (4, .int b4)] [] := by
        intro b4 μ h
        unfold wp_X0_givesWay_b60 at h
        refine v_iinc (pc := 60) (lv' := [(4, .int (b4 + 1)), (0, .ref (g.1 0 i0)), (1, .ref (g.1 3 i1)), (2, .int a2), (3, .int a3)]) (j := 4) X rfl (congrArg (HAdd.hAdd _) cst_i_1) (by decide) rfl dX0_givesWay_60 ?_
        refine v_goto (pc := 63) (tgt := 3) X dX0_givesWay_63 (by decide) ?_
        refine v_sub [1, 2, 3, 4, 0] rfl ?_
        exact ih _ _ h
      intro b4 μ h
      unfold wp_X0_givesWay_l3 at h
      refine v_iload (pc := 3) X 4 rfl dX0_givesWay_3 ?_
      refine v_aload_n (pc := 5) X rfl 0 rfl dX0_givesWay_5 ?_
      refine gf_0_0 (pc := 6) X hi0 wd_28 dX0_givesWay_6 ?_
      refine len_13 (pc := 9) X hi0 dX0_givesWay_9 ?_
      refine v_icmp_ge (pc := 10) (tgt := 66) X h dX0_givesWay_10 (by decide) (fun h => ?_) (fun h => ?_)
      · refine v_iconst (pc := 66) X cst_i_0 dX0_givesWay_66 ?_
        exact v_zret (pc := 67) X hr hlk ⟨nz_0, h⟩ dX0_givesWay_67
      · refine v_iload (pc := 13) X 4 rfl dX0_givesWay_13 ?_
        refine v_iload_n (pc := 15) X rfl 2 rfl dX0_givesWay_15 ?_
        refine v_icmp_eq (pc := 16) (tgt := 60) X h dX0_givesWay_16 (by decide) (fun h => ?_) (fun h => ?_)
        · exact B60 _ _ h
        · refine v_iload_n (pc := 19) X rfl 3 rfl dX0_givesWay_19 ?_
          refine v_iload (pc := 20) X 4 rfl dX0_givesWay_20 ?_
          refine v_callNi (pc := 22) X (c_X5_isIn l g hI _ _ _ _ h) wd_243 nst_1 wd_242 wd_2 ⟨rfl, rfl⟩ hdc_X5_isIn ⟨Nat.le_of_ble_eq_true rfl, Nat.le_of_ble_eq_true rfl⟩ ⟨Nat.le_refl 0, Nat.le_refl 0⟩ (As := [.int a3, .int b4]) rfl rfl (Nat.le_of_ble_eq_true rfl) dX0_givesWay_22 (fun x_2 m_1 h => ?_)
          refine v_if_eq (pc := 25) (tgt := 60) X h dX0_givesWay_25 (by decide) (fun h => ?_) (fun h => ?_)
          · exact B60 _ _ h
          · refine v_aload_n (pc := 28) X rfl 0 rfl dX0_givesWay_28 ?_
            refine gf_0_0 (pc := 29) X hi0 wd_28 dX0_givesWay_29 ?_
            refine v_iload (pc := 32) X 4 rfl dX0_givesWay_32 ?_
            refine v_nodes (pc := 34) X hi0 h dX0_givesWay_34 (fun j_3 hj_3 h => ?_)
            refine v_callVi (pc := 35) X (c_X3_isFirstTurnOfLeader l g hI _ _ hj_3 _ h) wd_247 wd_244 wd_245 wd_246 wd_39 ⟨rfl, rfl⟩ hdc_X3_isFirstTurnOfLeader ⟨Nat.le_of_ble_eq_true rfl, Nat.le_of_ble_eq_true rfl⟩ ⟨Nat.le_refl 0, Nat.le_refl 0⟩ hj_3 rfl rfl (As := []) rfl rfl (Nat.le_of_ble_eq_true rfl) dX0_givesWay_35 (fun x_5 m_4 h => ?_)
            refine v_if_eq (pc := 38) (tgt := 58) X h dX0_givesWay_38 (by decide) (fun h => ?_) (fun h => ?_)
            · refine v_iconst (pc := 58) X cst_i_1 dX0_givesWay_58 ?_
              exact v_zret (pc := 59) X hr hlk ⟨nz_1, h⟩ dX0_givesWay_59
            · refine v_aload_n (pc := 41) X rfl 0 rfl dX0_givesWay_41 ?_
              refine gf_0_0 (pc := 42) X hi0 wd_28 dX0_givesWay_42 ?_
              refine v_iload (pc := 45) X 4 rfl dX0_givesWay_45 ?_
              refine v_nodes (pc := 47) X hi0 h dX0_givesWay_47 (fun j_6 hj_6 h => ?_)
              refine gf_3_1 (pc := 48) X hj_6 wd_124 h dX0_givesWay_48 (fun x_7 h => ?_)
              refine v_aload_n (pc := 51) X rfl 1 rfl dX0_givesWay_51 ?_
              refine gf_3_1 (pc := 52) X hi1 wd_124 h dX0_givesWay_52 (fun x_8 h => ?_)
              refine v_icmp_ge (pc := 55) (tgt := 60) X h dX0_givesWay_55 (by decide) (fun h => ?_) (fun h => ?_)
              · exact B60 _ _ h
              · refine v_iconst (pc := 58) X cst_i_1 dX0_givesWay_58 ?_
                exact v_zret (pc := 59) X hr hlk ⟨nz_1, h⟩ dX0_givesWay_59
  unfold wp_X0_givesWay at h
  refine v_iconst (pc := 0) X cst_i_0 dX0_givesWay_0 ?_
  refine v_istore (pc := 1) (lv' := [(4, .int 0), (0, .ref (g.1 0 i0)), (1, .ref (g.1 3 i1)), (2, .int a2), (3, .int a3)]) X (by decide) rfl dX0_givesWay_1 ?_
  refine v_sub [1, 2, 3, 4, 0] rfl ?_
  obtain ⟨n, h⟩ := h
  exact L3 n _ _ h

def wp_X0_thatGiveWay_b55 (i0 : Nat) (a1 : Int32) (q : Int32 → Mem → Prop) (K : Int32 → Int32 → Mem → Prop) (b2 : Int32) (b3 : Int32) (μ : Mem) : Prop :=
K b2 (b3 + 1) μ
def wp_X0_thatGiveWay_l4 (i0 : Nat) (a1 : Int32) (q : Int32 → Mem → Prop) : Nat → Int32 → Int32 → Mem → Prop
  | 0 => fun _ _ _ => False
  | n + 1 => fun b2 b3 μ =>
(((nI 6) ≤ b3 →
q b2 μ) ∧ (¬ (nI 6) ≤ b3 →
wp_X5_isIn a1 b3 μ (fun x_2 m_1 =>
((x_2 = 0 →
wp_X0_thatGiveWay_b55 i0 a1 q (wp_X0_thatGiveWay_l4 i0 a1 q n) b2 b3 m_1) ∧ (¬ x_2 = 0 →
vp_in b3 6 ∧ ∀ j_3 : Nat, j_3 = 6 * i0 + (b3 : Int32).toNatClampNeg →
wp_X3_isFirstTurnOfLeader j_3 m_1 (fun x_5 m_4 =>
((x_5 = 0 →
wp_X0_thatGiveWay_b55 i0 a1 q (wp_X0_thatGiveWay_l4 i0 a1 q n) b2 b3 m_4) ∧ (¬ x_5 = 0 →
vp_in b3 6 ∧ ∀ j_6 : Nat, j_6 = 6 * i0 + (b3 : Int32).toNatClampNeg →
wp_X0_givesWay i0 j_6 b3 a1 m_4 (fun x_8 m_7 =>
((x_8 = 0 →
wp_X0_thatGiveWay_b55 i0 a1 q (wp_X0_thatGiveWay_l4 i0 a1 q n) b2 b3 m_7) ∧ (¬ x_8 = 0 →
wp_X5_bitOf b3 m_7 (fun x_10 m_9 =>
∀ y_11 : Int32, y_11 = (b2 ||| x_10) →
wp_X0_thatGiveWay_b55 i0 a1 q (wp_X0_thatGiveWay_l4 i0 a1 q n) y_11 b3 m_9))))))))))))
def wp_X0_thatGiveWay (i0 : Nat) (a1 : Int32) (μ : Mem) (q : Int32 → Mem → Prop) : Prop :=
∃ n : Nat, wp_X0_thatGiveWay_l4 i0 a1 q n 0 0 μ
set_option maxRecDepth 100000 in
set_option maxHeartbeats 4000000 in
theorem c_X0_thatGiveWay (l : Launch) (g : GG) (hI : Inj g) (μ : Mem) (i0 : Nat) (hi0 : i0 < 4) (a1 : Int32) (q : Int32 → Mem → Prop) (h : wp_X0_thatGiveWay i0 a1 μ q) : Met l yX0_thatGiveWay (Cond.code yX0_thatGiveWay cX0_thatGiveWay 4 (some .int) :: wsL_law) ({ frames := 2, cells := 0, slots := 0, locals := 45 }) (KP g [.ref (g.1 0 i0), .int a1] μ) (KQi g q) 0 0 (AA g) := by
  refine met_V (own := RX0) hI (by decide) rfl (Nat.le_of_ble_eq_true rfl) rfl (fun p e s m args below meth c X hr hlk => ?_)
  have L4 : ∀ (n : Nat) (b2 : Int32) (b3 : Int32) (μ : Mem), wp_X0_thatGiveWay_l4 i0 a1 q n b2 b3 μ → V p l e ({ frames := 2, cells := 0, slots := 0, locals := 45 }) s m args below meth c 4 g (AA g) 0 0 (MQ below (KQi g q) args s 0 0 (AA g)) μ 4 [(0, .ref (g.1 0 i0)), (1, .int a1), (2, .int b2), (3, .int b3)] [] := by
    intro n
    induction n with
    | zero => intro b2 b3 μ h; exact h.elim
    | succ n ih =>
      have B55 : ∀ (b2 : Int32) (b3 : Int32) (μ : Mem), wp_X0_thatGiveWay_b55 i0 a1 q (wp_X0_thatGiveWay_l4 i0 a1 q n) b2 b3 μ → V p l e ({ frames := 2, cells := 0, slots := 0, locals := 45 }) s m args below meth c 4 g (AA g) 0 0 (MQ below (KQi g q) args s 0 0 (AA g)) μ 55 [(0, .ref (g.1 0 i0)), (1, .int a1), (2, .int b2), (3, .int b3)] [] := by
        intro b2 b3 μ h
        unfold wp_X0_thatGiveWay_b55 at h
        refine v_iinc (pc := 55) (lv' := [(3, .int (b3 + 1)), (0, .ref (g.1 0 i0)), (1, .int a1), (2, .int b2)]) (j := 3) X rfl (congrArg (HAdd.hAdd _) cst_i_1) (by decide) rfl dX0_thatGiveWay_55 ?_
        refine v_goto (pc := 58) (tgt := 4) X dX0_thatGiveWay_58 (by decide) ?_
        refine v_sub [1, 2, 3, 0] rfl ?_
        exact ih _ _ _ h
      intro b2 b3 μ h
      unfold wp_X0_thatGiveWay_l4 at h
      refine v_iload_n (pc := 4) X rfl 3 rfl dX0_thatGiveWay_4 ?_
      refine v_aload_n (pc := 5) X rfl 0 rfl dX0_thatGiveWay_5 ?_
      refine gf_0_0 (pc := 6) X hi0 wd_28 dX0_thatGiveWay_6 ?_
      refine len_13 (pc := 9) X hi0 dX0_thatGiveWay_9 ?_
      refine v_icmp_ge (pc := 10) (tgt := 61) X h dX0_thatGiveWay_10 (by decide) (fun h => ?_) (fun h => ?_)
      · refine v_iload_n (pc := 61) X rfl 2 rfl dX0_thatGiveWay_61 ?_
        exact v_iret (pc := 62) X hr hlk h dX0_thatGiveWay_62
      · refine v_iload_n (pc := 13) X rfl 1 rfl dX0_thatGiveWay_13 ?_
        refine v_iload_n (pc := 14) X rfl 3 rfl dX0_thatGiveWay_14 ?_
        refine v_callNi (pc := 15) X (c_X5_isIn l g hI _ _ _ _ h) wd_243 nst_1 wd_242 wd_2 ⟨rfl, rfl⟩ hdc_X5_isIn ⟨Nat.le_of_ble_eq_true rfl, Nat.le_of_ble_eq_true rfl⟩ ⟨Nat.le_refl 0, Nat.le_refl 0⟩ (As := [.int a1, .int b3]) rfl rfl (Nat.le_of_ble_eq_true rfl) dX0_thatGiveWay_15 (fun x_2 m_1 h => ?_)
        refine v_if_eq (pc := 18) (tgt := 55) X h dX0_thatGiveWay_18 (by decide) (fun h => ?_) (fun h => ?_)
        · exact B55 _ _ _ h
        · refine v_aload_n (pc := 21) X rfl 0 rfl dX0_thatGiveWay_21 ?_
          refine gf_0_0 (pc := 22) X hi0 wd_28 dX0_thatGiveWay_22 ?_
          refine v_iload_n (pc := 25) X rfl 3 rfl dX0_thatGiveWay_25 ?_
          refine v_nodes (pc := 26) X hi0 h dX0_thatGiveWay_26 (fun j_3 hj_3 h => ?_)
          refine v_callVi (pc := 27) X (c_X3_isFirstTurnOfLeader l g hI _ _ hj_3 _ h) wd_247 wd_244 wd_245 wd_246 wd_39 ⟨rfl, rfl⟩ hdc_X3_isFirstTurnOfLeader ⟨Nat.le_of_ble_eq_true rfl, Nat.le_of_ble_eq_true rfl⟩ ⟨Nat.le_refl 0, Nat.le_refl 0⟩ hj_3 rfl rfl (As := []) rfl rfl (Nat.le_of_ble_eq_true rfl) dX0_thatGiveWay_27 (fun x_5 m_4 h => ?_)
          refine v_if_eq (pc := 30) (tgt := 55) X h dX0_thatGiveWay_30 (by decide) (fun h => ?_) (fun h => ?_)
          · exact B55 _ _ _ h
          · refine v_aload_n (pc := 33) X rfl 0 rfl dX0_thatGiveWay_33 ?_
            refine v_aload_n (pc := 34) X rfl 0 rfl dX0_thatGiveWay_34 ?_
            refine gf_0_0 (pc := 35) X hi0 wd_28 dX0_thatGiveWay_35 ?_
            refine v_iload_n (pc := 38) X rfl 3 rfl dX0_thatGiveWay_38 ?_
            refine v_nodes (pc := 39) X hi0 h dX0_thatGiveWay_39 (fun j_6 hj_6 h => ?_)
            refine v_iload_n (pc := 40) X rfl 3 rfl dX0_thatGiveWay_40 ?_
            refine v_iload_n (pc := 41) X rfl 1 rfl dX0_thatGiveWay_41 ?_
            refine v_callVi (pc := 42) X (c_X0_givesWay l g hI _ _ hi0 _ hj_6 _ _ _ h) wd_251 wd_248 wd_249 wd_250 wd_14 ⟨rfl, rfl⟩ hdc_X0_givesWay ⟨Nat.le_of_ble_eq_true rfl, Nat.le_of_ble_eq_true rfl⟩ ⟨Nat.le_refl 0, Nat.le_refl 0⟩ hi0 rfl rfl (As := [.ref (g.1 3 j_6), .int b3, .int a1]) rfl rfl (Nat.le_of_ble_eq_true rfl) dX0_thatGiveWay_42 (fun x_8 m_7 h => ?_)
            refine v_if_eq (pc := 45) (tgt := 55) X h dX0_thatGiveWay_45 (by decide) (fun h => ?_) (fun h => ?_)
            · exact B55 _ _ _ h
            · refine v_iload_n (pc := 48) X rfl 2 rfl dX0_thatGiveWay_48 ?_
              refine v_iload_n (pc := 49) X rfl 3 rfl dX0_thatGiveWay_49 ?_
              refine v_callNi (pc := 50) X (c_X5_bitOf l g hI _ _ _ h) wd_184 nst_0 wd_183 wd_2 ⟨rfl, rfl⟩ hdc_X5_bitOf ⟨Nat.le_of_ble_eq_true rfl, Nat.le_of_ble_eq_true rfl⟩ ⟨Nat.le_refl 0, Nat.le_refl 0⟩ (As := [.int b3]) rfl rfl (Nat.le_of_ble_eq_true rfl) dX0_thatGiveWay_50 (fun x_10 m_9 h => ?_)
              refine v_ior (pc := 53) X dX0_thatGiveWay_53 ?_
              refine v_nm h (fun y_11 h => ?_)
              refine v_istore_n (pc := 54) (lv' := [(2, .int y_11), (0, .ref (g.1 0 i0)), (1, .int a1), (3, .int b3)]) X rfl (by decide) rfl dX0_thatGiveWay_54 ?_
              refine v_sub [1, 2, 0, 3] rfl ?_
              exact B55 _ _ _ h
  unfold wp_X0_thatGiveWay at h
  refine v_iconst (pc := 0) X cst_i_0 dX0_thatGiveWay_0 ?_
  refine v_istore_n (pc := 1) (lv' := [(2, .int 0), (0, .ref (g.1 0 i0)), (1, .int a1)]) X rfl (by decide) rfl dX0_thatGiveWay_1 ?_
  refine v_iconst (pc := 2) X cst_i_0 dX0_thatGiveWay_2 ?_
  refine v_istore_n (pc := 3) (lv' := [(3, .int 0), (2, .int 0), (0, .ref (g.1 0 i0)), (1, .int a1)]) X rfl (by decide) rfl dX0_thatGiveWay_3 ?_
  refine v_sub [2, 3, 1, 0] rfl ?_
  obtain ⟨n, h⟩ := h
  exact L4 n _ _ _ h

def wp_X0_chooseSenders_b119 (i0 : Nat) (q : Mem → Prop) (K : Int32 → Int32 → Mem → Prop) (b1 : Int32) (b2 : Int32) (μ : Mem) : Prop :=
K b1 (b2 + 1) μ
def wp_X0_chooseSenders_l63 (i0 : Nat) (q : Mem → Prop) : Nat → Int32 → Int32 → Mem → Prop
  | 0 => fun _ _ _ => False
  | n + 1 => fun b1 b2 μ =>
(((nI 6) ≤ b2 →
q μ) ∧ (¬ (nI 6) ≤ b2 →
∀ x_1 : Int32, x_1 = μ 0 i0 5 →
wp_X5_isIn x_1 b2 μ (fun x_3 m_2 =>
((x_3 = 0 →
wp_X5_isIn b1 b2 m_2 (fun x_5 m_4 =>
((x_5 = 0 →
wp_X0_chooseSenders_b119 i0 q (wp_X0_chooseSenders_l63 i0 q n) b1 b2 m_4) ∧ (¬ x_5 = 0 →
vp_in b2 6 ∧ ∀ j_6 : Nat, j_6 = 6 * i0 + (b2 : Int32).toNatClampNeg →
wp_X3_become j_6 1 m_4 (fun m_7 =>
wp_X0_chooseSenders_b119 i0 q (wp_X0_chooseSenders_l63 i0 q n) b1 b2 m_7))))) ∧ (¬ x_3 = 0 →
vp_in b2 6 ∧ ∀ j_8 : Nat, j_8 = 6 * i0 + (b2 : Int32).toNatClampNeg →
∀ x_9 : Int32, x_9 = m_2 3 j_8 13 →
∀ m_10 : Mem, m_10 = ms m_2 3 j_8 13 (x_9 + 1) →
wp_X0_chooseSenders_b119 i0 q (wp_X0_chooseSenders_l63 i0 q n) b1 b2 m_10)))))
def wp_X0_chooseSenders_b42 (i0 : Nat) (q : Mem → Prop) (K : Int32 → Int32 → Mem → Prop) (b1 : Int32) (b2 : Int32) (μ : Mem) : Prop :=
K b1 (b2 + 1) μ
def wp_X0_chooseSenders_l4 (i0 : Nat) (q : Mem → Prop) : Nat → Int32 → Int32 → Mem → Prop
  | 0 => fun _ _ _ => False
  | n + 1 => fun b1 b2 μ =>
(((nI 6) ≤ b2 →
wp_X0_thatGiveWay i0 b1 μ (fun x_2 m_1 =>
∀ m_3 : Mem, m_3 = ms m_1 0 i0 5 (b1 &&& (x_2 ^^^ (-1))) →
∃ n : Nat, wp_X0_chooseSenders_l63 i0 q n b1 0 m_3)) ∧ (¬ (nI 6) ≤ b2 →
vp_in b2 6 ∧ ∀ j_4 : Nat, j_4 = 6 * i0 + (b2 : Int32).toNatClampNeg →
nz 0 ∧ ∀ m_5 : Mem, m_5 = ms μ 3 j_4 6 0 →
vp_in b2 6 ∧ ∀ j_6 : Nat, j_6 = 6 * i0 + (b2 : Int32).toNatClampNeg →
wp_X3_isReadyToSend j_6 m_5 (fun x_8 m_7 =>
((x_8 = 0 →
wp_X0_chooseSenders_b42 i0 q (wp_X0_chooseSenders_l4 i0 q n) b1 b2 m_7) ∧ (¬ x_8 = 0 →
wp_X5_bitOf b2 m_7 (fun x_10 m_9 =>
∀ y_11 : Int32, y_11 = (b1 ||| x_10) →
wp_X0_chooseSenders_b42 i0 q (wp_X0_chooseSenders_l4 i0 q n) y_11 b2 m_9))))))
def wp_X0_chooseSenders (i0 : Nat) (μ : Mem) (q : Mem → Prop) : Prop :=
∃ n : Nat, wp_X0_chooseSenders_l4 i0 q n 0 0 μ
set_option maxRecDepth 100000 in
set_option maxHeartbeats 4000000 in
theorem c_X0_chooseSenders (l : Launch) (g : GG) (hI : Inj g) (μ : Mem) (i0 : Nat) (hi0 : i0 < 4) (q : Mem → Prop) (h : wp_X0_chooseSenders i0 μ q) : Met l yX0_chooseSenders (Cond.code yX0_chooseSenders cX0_chooseSenders 3 none :: wsL_law) ({ frames := 3, cells := 0, slots := 0, locals := 68 }) (KP g [.ref (g.1 0 i0)] μ) (KQv g q) 0 0 (AA g) := by
  refine met_V (own := RX0) hI (by decide) rfl (Nat.le_of_ble_eq_true rfl) rfl (fun p e s m args below meth c X hr hlk => ?_)
  have L63 : ∀ (n : Nat) (b1 : Int32) (b2 : Int32) (μ : Mem), wp_X0_chooseSenders_l63 i0 q n b1 b2 μ → V p l e ({ frames := 3, cells := 0, slots := 0, locals := 68 }) s m args below meth c 3 g (AA g) 0 0 (MQ below (KQv g q) args s 0 0 (AA g)) μ 63 [(0, .ref (g.1 0 i0)), (1, .int b1), (2, .int b2)] [] := by
    intro n
    induction n with
    | zero => intro b1 b2 μ h; exact h.elim
    | succ n ih =>
      have B119 : ∀ (b1 : Int32) (b2 : Int32) (μ : Mem), wp_X0_chooseSenders_b119 i0 q (wp_X0_chooseSenders_l63 i0 q n) b1 b2 μ → V p l e ({ frames := 3, cells := 0, slots := 0, locals := 68 }) s m args below meth c 3 g (AA g) 0 0 (MQ below (KQv g q) args s 0 0 (AA g)) μ 119 [(0, .ref (g.1 0 i0)), (1, .int b1), (2, .int b2)] [] := by
        intro b1 b2 μ h
        unfold wp_X0_chooseSenders_b119 at h
        refine v_iinc (pc := 119) (lv' := [(2, .int (b2 + 1)), (0, .ref (g.1 0 i0)), (1, .int b1)]) (j := 2) X rfl (congrArg (HAdd.hAdd _) cst_i_1) (by decide) rfl dX0_chooseSenders_119 ?_
        refine v_goto (pc := 122) (tgt := 63) X dX0_chooseSenders_122 (by decide) ?_
        refine v_sub [1, 2, 0] rfl ?_
        exact ih _ _ _ h
      intro b1 b2 μ h
      unfold wp_X0_chooseSenders_l63 at h
      refine v_iload_n (pc := 63) X rfl 2 rfl dX0_chooseSenders_63 ?_
      refine v_aload_n (pc := 64) X rfl 0 rfl dX0_chooseSenders_64 ?_
      refine gf_0_0 (pc := 65) X hi0 wd_28 dX0_chooseSenders_65 ?_
      refine len_13 (pc := 68) X hi0 dX0_chooseSenders_68 ?_
      refine v_icmp_ge (pc := 69) (tgt := 125) X h dX0_chooseSenders_69 (by decide) (fun h => ?_) (fun h => ?_)
      · exact v_vret (pc := 125) X hr hlk h dX0_chooseSenders_125
      · refine v_aload_n (pc := 72) X rfl 0 rfl dX0_chooseSenders_72 ?_
        refine gf_0_5 (pc := 73) X hi0 wd_37 h dX0_chooseSenders_73 (fun x_1 h => ?_)
        refine v_iload_n (pc := 76) X rfl 2 rfl dX0_chooseSenders_76 ?_
        refine v_callNi (pc := 77) X (c_X5_isIn l g hI _ _ _ _ h) wd_243 nst_1 wd_242 wd_2 ⟨rfl, rfl⟩ hdc_X5_isIn ⟨Nat.le_of_ble_eq_true rfl, Nat.le_of_ble_eq_true rfl⟩ ⟨Nat.le_refl 0, Nat.le_refl 0⟩ (As := [.int x_1, .int b2]) rfl rfl (Nat.le_of_ble_eq_true rfl) dX0_chooseSenders_77 (fun x_3 m_2 h => ?_)
        refine v_if_eq (pc := 80) (tgt := 101) X h dX0_chooseSenders_80 (by decide) (fun h => ?_) (fun h => ?_)
        · refine v_iload_n (pc := 101) X rfl 1 rfl dX0_chooseSenders_101 ?_
          refine v_iload_n (pc := 102) X rfl 2 rfl dX0_chooseSenders_102 ?_
          refine v_callNi (pc := 103) X (c_X5_isIn l g hI _ _ _ _ h) wd_243 nst_1 wd_242 wd_2 ⟨rfl, rfl⟩ hdc_X5_isIn ⟨Nat.le_of_ble_eq_true rfl, Nat.le_of_ble_eq_true rfl⟩ ⟨Nat.le_refl 0, Nat.le_refl 0⟩ (As := [.int b1, .int b2]) rfl rfl (Nat.le_of_ble_eq_true rfl) dX0_chooseSenders_103 (fun x_5 m_4 h => ?_)
          refine v_if_eq (pc := 106) (tgt := 119) X h dX0_chooseSenders_106 (by decide) (fun h => ?_) (fun h => ?_)
          · exact B119 _ _ _ h
          · refine v_aload_n (pc := 109) X rfl 0 rfl dX0_chooseSenders_109 ?_
            refine gf_0_0 (pc := 110) X hi0 wd_28 dX0_chooseSenders_110 ?_
            refine v_iload_n (pc := 113) X rfl 2 rfl dX0_chooseSenders_113 ?_
            refine v_nodes (pc := 114) X hi0 h dX0_chooseSenders_114 (fun j_6 hj_6 h => ?_)
            refine v_iconst (pc := 115) X cst_i_1 dX0_chooseSenders_115 ?_
            refine v_callVv (pc := 116) X (c_X3_become l g hI _ _ hj_6 _ _ h) wd_177 wd_252 wd_175 wd_176 wd_39 ⟨rfl, rfl⟩ hdc_X3_become ⟨Nat.le_of_ble_eq_true rfl, Nat.le_of_ble_eq_true rfl⟩ ⟨Nat.le_refl 0, Nat.le_refl 0⟩ hj_6 rfl rfl (As := [.int 1]) rfl rfl (Nat.le_of_ble_eq_true rfl) dX0_chooseSenders_116 (fun m_7 h => ?_)
            exact B119 _ _ _ h
        · refine v_aload_n (pc := 83) X rfl 0 rfl dX0_chooseSenders_83 ?_
          refine gf_0_0 (pc := 84) X hi0 wd_28 dX0_chooseSenders_84 ?_
          refine v_iload_n (pc := 87) X rfl 2 rfl dX0_chooseSenders_87 ?_
          refine v_nodes (pc := 88) X hi0 h dX0_chooseSenders_88 (fun j_8 hj_8 h => ?_)
          refine v_dup (pc := 89) X rfl dX0_chooseSenders_89 ?_
          refine gf_3_13 (pc := 90) X hj_8 wd_233 h dX0_chooseSenders_90 (fun x_9 h => ?_)
          refine v_iconst (pc := 93) X cst_i_1 dX0_chooseSenders_93 ?_
          refine v_iadd (pc := 94) X dX0_chooseSenders_94 ?_
          refine pf_3_13 (pc := 95) X hj_8 wd_233 h dX0_chooseSenders_95 (fun m_10 h => ?_)
          refine v_goto (pc := 98) (tgt := 119) X dX0_chooseSenders_98 (by decide) ?_
          exact B119 _ _ _ h
  have L4 : ∀ (n : Nat) (b1 : Int32) (b2 : Int32) (μ : Mem), wp_X0_chooseSenders_l4 i0 q n b1 b2 μ → V p l e ({ frames := 3, cells := 0, slots := 0, locals := 68 }) s m args below meth c 3 g (AA g) 0 0 (MQ below (KQv g q) args s 0 0 (AA g)) μ 4 [(0, .ref (g.1 0 i0)), (1, .int b1), (2, .int b2)] [] := by
    intro n
    induction n with
    | zero => intro b1 b2 μ h; exact h.elim
    | succ n ih =>
      have B42 : ∀ (b1 : Int32) (b2 : Int32) (μ : Mem), wp_X0_chooseSenders_b42 i0 q (wp_X0_chooseSenders_l4 i0 q n) b1 b2 μ → V p l e ({ frames := 3, cells := 0, slots := 0, locals := 68 }) s m args below meth c 3 g (AA g) 0 0 (MQ below (KQv g q) args s 0 0 (AA g)) μ 42 [(0, .ref (g.1 0 i0)), (1, .int b1), (2, .int b2)] [] := by
        intro b1 b2 μ h
        unfold wp_X0_chooseSenders_b42 at h
        refine v_iinc (pc := 42) (lv' := [(2, .int (b2 + 1)), (0, .ref (g.1 0 i0)), (1, .int b1)]) (j := 2) X rfl (congrArg (HAdd.hAdd _) cst_i_1) (by decide) rfl dX0_chooseSenders_42 ?_
        refine v_goto (pc := 45) (tgt := 4) X dX0_chooseSenders_45 (by decide) ?_
        refine v_sub [1, 2, 0] rfl ?_
        exact ih _ _ _ h
      intro b1 b2 μ h
      unfold wp_X0_chooseSenders_l4 at h
      refine v_iload_n (pc := 4) X rfl 2 rfl dX0_chooseSenders_4 ?_
      refine v_aload_n (pc := 5) X rfl 0 rfl dX0_chooseSenders_5 ?_
      refine gf_0_0 (pc := 6) X hi0 wd_28 dX0_chooseSenders_6 ?_
      refine len_13 (pc := 9) X hi0 dX0_chooseSenders_9 ?_
      refine v_icmp_ge (pc := 10) (tgt := 48) X h dX0_chooseSenders_10 (by decide) (fun h => ?_) (fun h => ?_)
      · refine v_aload_n (pc := 48) X rfl 0 rfl dX0_chooseSenders_48 ?_
        refine v_iload_n (pc := 49) X rfl 1 rfl dX0_chooseSenders_49 ?_
        refine v_aload_n (pc := 50) X rfl 0 rfl dX0_chooseSenders_50 ?_
        refine v_iload_n (pc := 51) X rfl 1 rfl dX0_chooseSenders_51 ?_
        refine v_callVi (pc := 52) X (c_X0_thatGiveWay l g hI _ _ hi0 _ _ h) wd_241 wd_238 wd_239 wd_240 wd_14 ⟨rfl, rfl⟩ hdc_X0_thatGiveWay ⟨Nat.le_of_ble_eq_true rfl, Nat.le_of_ble_eq_true rfl⟩ ⟨Nat.le_refl 0, Nat.le_refl 0⟩ hi0 rfl rfl (As := [.int b1]) rfl rfl (Nat.le_of_ble_eq_true rfl) dX0_chooseSenders_52 (fun x_2 m_1 h => ?_)
        refine v_iconst (pc := 55) X cst_i_m1 dX0_chooseSenders_55 ?_
        refine v_ixor (pc := 56) X dX0_chooseSenders_56 ?_
        refine v_iand (pc := 57) X dX0_chooseSenders_57 ?_
        refine pf_0_5 (pc := 58) X hi0 wd_37 h dX0_chooseSenders_58 (fun m_3 h => ?_)
        refine v_iconst (pc := 61) X cst_i_0 dX0_chooseSenders_61 ?_
        refine v_istore_n (pc := 62) (lv' := [(2, .int 0), (0, .ref (g.1 0 i0)), (1, .int b1)]) X rfl (by decide) rfl dX0_chooseSenders_62 ?_
        refine v_sub [1, 2, 0] rfl ?_
        obtain ⟨n, h⟩ := h
        exact L63 n _ _ _ h
      · refine v_aload_n (pc := 13) X rfl 0 rfl dX0_chooseSenders_13 ?_
        refine gf_0_0 (pc := 14) X hi0 wd_28 dX0_chooseSenders_14 ?_
        refine v_iload_n (pc := 17) X rfl 2 rfl dX0_chooseSenders_17 ?_
        refine v_nodes (pc := 18) X hi0 h dX0_chooseSenders_18 (fun j_4 hj_4 h => ?_)
        refine v_iconst (pc := 19) X cst_i_0 dX0_chooseSenders_19 ?_
        refine pf_3_6 (pc := 20) X hj_4 wd_232 h dX0_chooseSenders_20 (fun m_5 h => ?_)
        refine v_aload_n (pc := 23) X rfl 0 rfl dX0_chooseSenders_23 ?_
        refine gf_0_0 (pc := 24) X hi0 wd_28 dX0_chooseSenders_24 ?_
        refine v_iload_n (pc := 27) X rfl 2 rfl dX0_chooseSenders_27 ?_
        refine v_nodes (pc := 28) X hi0 h dX0_chooseSenders_28 (fun j_6 hj_6 h => ?_)
        refine v_callVi (pc := 29) X (c_X3_isReadyToSend l g hI _ _ hj_6 _ h) wd_237 wd_234 wd_235 wd_236 wd_39 ⟨rfl, rfl⟩ hdc_X3_isReadyToSend ⟨Nat.le_of_ble_eq_true rfl, Nat.le_of_ble_eq_true rfl⟩ ⟨Nat.le_refl 0, Nat.le_refl 0⟩ hj_6 rfl rfl (As := []) rfl rfl (Nat.le_of_ble_eq_true rfl) dX0_chooseSenders_29 (fun x_8 m_7 h => ?_)
        refine v_if_eq (pc := 32) (tgt := 42) X h dX0_chooseSenders_32 (by decide) (fun h => ?_) (fun h => ?_)
        · exact B42 _ _ _ h
        · refine v_iload_n (pc := 35) X rfl 1 rfl dX0_chooseSenders_35 ?_
          refine v_iload_n (pc := 36) X rfl 2 rfl dX0_chooseSenders_36 ?_
          refine v_callNi (pc := 37) X (c_X5_bitOf l g hI _ _ _ h) wd_184 nst_0 wd_183 wd_2 ⟨rfl, rfl⟩ hdc_X5_bitOf ⟨Nat.le_of_ble_eq_true rfl, Nat.le_of_ble_eq_true rfl⟩ ⟨Nat.le_refl 0, Nat.le_refl 0⟩ (As := [.int b2]) rfl rfl (Nat.le_of_ble_eq_true rfl) dX0_chooseSenders_37 (fun x_10 m_9 h => ?_)
          refine v_ior (pc := 40) X dX0_chooseSenders_40 ?_
          refine v_nm h (fun y_11 h => ?_)
          refine v_istore_n (pc := 41) (lv' := [(1, .int y_11), (0, .ref (g.1 0 i0)), (2, .int b2)]) X rfl (by decide) rfl dX0_chooseSenders_41 ?_
          refine v_sub [1, 0, 2] rfl ?_
          exact B42 _ _ _ h
  unfold wp_X0_chooseSenders at h
  refine v_iconst (pc := 0) X cst_i_0 dX0_chooseSenders_0 ?_
  refine v_istore_n (pc := 1) (lv' := [(1, .int 0), (0, .ref (g.1 0 i0))]) X rfl (by decide) rfl dX0_chooseSenders_1 ?_
  refine v_iconst (pc := 2) X cst_i_0 dX0_chooseSenders_2 ?_
  refine v_istore_n (pc := 3) (lv' := [(2, .int 0), (1, .int 0), (0, .ref (g.1 0 i0))]) X rfl (by decide) rfl dX0_chooseSenders_3 ?_
  refine v_sub [2, 1, 0] rfl ?_
  obtain ⟨n, h⟩ := h
  exact L4 n _ _ _ h

def wp_X0_hearOthers_b45 (i0 : Nat) (i1 : Nat) (a2 : Int32) (q : Mem → Prop) (K : Int32 → Mem → Prop) (b3 : Int32) (μ : Mem) : Prop :=
K (b3 + 1) μ
def wp_X0_hearOthers_l2 (i0 : Nat) (i1 : Nat) (a2 : Int32) (q : Mem → Prop) : Nat → Int32 → Mem → Prop
  | 0 => fun _ _ => False
  | n + 1 => fun b3 μ =>
(((nI 6) ≤ b3 →
q μ) ∧ (¬ (nI 6) ≤ b3 →
((b3 = a2 →
wp_X0_hearOthers_b45 i0 i1 a2 q (wp_X0_hearOthers_l2 i0 i1 a2 q n) b3 μ) ∧ (¬ b3 = a2 →
∀ x_1 : Int32, x_1 = μ 0 i0 5 →
wp_X5_isIn x_1 b3 μ (fun x_3 m_2 =>
((x_3 = 0 →
wp_X0_hearOthers_b45 i0 i1 a2 q (wp_X0_hearOthers_l2 i0 i1 a2 q n) b3 m_2) ∧ (¬ x_3 = 0 →
∀ j_4 : Nat, j_4 = hx i1 (m_2 3 i1 14) →
vp_in b3 6 ∧ ∀ j_5 : Nat, j_5 = 6 * i0 + (b3 : Int32).toNatClampNeg →
∀ x_6 : Int32, x_6 = m_2 3 i1 11 →
wp_X1_note j_4 b3 j_5 x_6 m_2 (fun m_7 =>
wp_X0_hearOthers_b45 i0 i1 a2 q (wp_X0_hearOthers_l2 i0 i1 a2 q n) b3 m_7))))))))
def wp_X0_hearOthers (i0 : Nat) (i1 : Nat) (a2 : Int32) (μ : Mem) (q : Mem → Prop) : Prop :=
∃ n : Nat, wp_X0_hearOthers_l2 i0 i1 a2 q n 0 μ
set_option maxRecDepth 100000 in
set_option maxHeartbeats 4000000 in
theorem c_X0_hearOthers (l : Launch) (g : GG) (hI : Inj g) (μ : Mem) (i0 : Nat) (hi0 : i0 < 4) (i1 : Nat) (hi1 : i1 < 24) (a2 : Int32) (q : Mem → Prop) (h : wp_X0_hearOthers i0 i1 a2 μ q) : Met l yX0_hearOthers (Cond.code yX0_hearOthers cX0_hearOthers 4 none :: wsL_law) ({ frames := 2, cells := 0, slots := 0, locals := 44 }) (KP g [.ref (g.1 0 i0), .ref (g.1 3 i1), .int a2] μ) (KQv g q) 0 0 (AA g) := by
  refine met_V (own := RX0) hI (by decide) rfl (Nat.le_of_ble_eq_true rfl) rfl (fun p e s m args below meth c X hr hlk => ?_)
  have L2 : ∀ (n : Nat) (b3 : Int32) (μ : Mem), wp_X0_hearOthers_l2 i0 i1 a2 q n b3 μ → V p l e ({ frames := 2, cells := 0, slots := 0, locals := 44 }) s m args below meth c 4 g (AA g) 0 0 (MQ below (KQv g q) args s 0 0 (AA g)) μ 2 [(0, .ref (g.1 0 i0)), (1, .ref (g.1 3 i1)), (2, .int a2), (3, .int b3)] [] := by
    intro n
    induction n with
    | zero => intro b3 μ h; exact h.elim
    | succ n ih =>
      have B45 : ∀ (b3 : Int32) (μ : Mem), wp_X0_hearOthers_b45 i0 i1 a2 q (wp_X0_hearOthers_l2 i0 i1 a2 q n) b3 μ → V p l e ({ frames := 2, cells := 0, slots := 0, locals := 44 }) s m args below meth c 4 g (AA g) 0 0 (MQ below (KQv g q) args s 0 0 (AA g)) μ 45 [(0, .ref (g.1 0 i0)), (1, .ref (g.1 3 i1)), (2, .int a2), (3, .int b3)] [] := by
        intro b3 μ h
        unfold wp_X0_hearOthers_b45 at h
        refine v_iinc (pc := 45) (lv' := [(3, .int (b3 + 1)), (0, .ref (g.1 0 i0)), (1, .ref (g.1 3 i1)), (2, .int a2)]) (j := 3) X rfl (congrArg (HAdd.hAdd _) cst_i_1) (by decide) rfl dX0_hearOthers_45 ?_
        refine v_goto (pc := 48) (tgt := 2) X dX0_hearOthers_48 (by decide) ?_
        refine v_sub [1, 2, 3, 0] rfl ?_
        exact ih _ _ h
      intro b3 μ h
      unfold wp_X0_hearOthers_l2 at h
      refine v_iload_n (pc := 2) X rfl 3 rfl dX0_hearOthers_2 ?_
      refine v_aload_n (pc := 3) X rfl 0 rfl dX0_hearOthers_3 ?_
      refine gf_0_0 (pc := 4) X hi0 wd_28 dX0_hearOthers_4 ?_
      refine len_13 (pc := 7) X hi0 dX0_hearOthers_7 ?_
      refine v_icmp_ge (pc := 8) (tgt := 51) X h dX0_hearOthers_8 (by decide) (fun h => ?_) (fun h => ?_)
      · exact v_vret (pc := 51) X hr hlk h dX0_hearOthers_51
      · refine v_iload_n (pc := 11) X rfl 3 rfl dX0_hearOthers_11 ?_
        refine v_iload_n (pc := 12) X rfl 2 rfl dX0_hearOthers_12 ?_
        refine v_icmp_eq (pc := 13) (tgt := 45) X h dX0_hearOthers_13 (by decide) (fun h => ?_) (fun h => ?_)
        · exact B45 _ _ h
        · refine v_aload_n (pc := 16) X rfl 0 rfl dX0_hearOthers_16 ?_
          refine gf_0_5 (pc := 17) X hi0 wd_37 h dX0_hearOthers_17 (fun x_1 h => ?_)
          refine v_iload_n (pc := 20) X rfl 3 rfl dX0_hearOthers_20 ?_
          refine v_callNi (pc := 21) X (c_X5_isIn l g hI _ _ _ _ h) wd_243 nst_1 wd_242 wd_2 ⟨rfl, rfl⟩ hdc_X5_isIn ⟨Nat.le_of_ble_eq_true rfl, Nat.le_of_ble_eq_true rfl⟩ ⟨Nat.le_refl 0, Nat.le_refl 0⟩ (As := [.int x_1, .int b3]) rfl rfl (Nat.le_of_ble_eq_true rfl) dX0_hearOthers_21 (fun x_3 m_2 h => ?_)
          refine v_if_eq (pc := 24) (tgt := 45) X h dX0_hearOthers_24 (by decide) (fun h => ?_) (fun h => ?_)
          · exact B45 _ _ h
          · refine v_aload_n (pc := 27) X rfl 1 rfl dX0_hearOthers_27 ?_
            refine gf_3_14 (pc := 28) X hi1 wd_269 h dX0_hearOthers_28 (fun j_4 hj_4 h => ?_)
            refine v_iload_n (pc := 31) X rfl 3 rfl dX0_hearOthers_31 ?_
            refine v_aload_n (pc := 32) X rfl 0 rfl dX0_hearOthers_32 ?_
            refine gf_0_0 (pc := 33) X hi0 wd_28 dX0_hearOthers_33 ?_
            refine v_iload_n (pc := 36) X rfl 3 rfl dX0_hearOthers_36 ?_
            refine v_nodes (pc := 37) X hi0 h dX0_hearOthers_37 (fun j_5 hj_5 h => ?_)
            refine v_aload_n (pc := 38) X rfl 1 rfl dX0_hearOthers_38 ?_
            refine gf_3_11 (pc := 39) X hi1 wd_270 h dX0_hearOthers_39 (fun x_6 h => ?_)
            refine v_callVv (pc := 42) X (c_X1_note l g hI _ _ hj_4 _ _ hj_5 _ _ h) wd_274 wd_271 wd_272 wd_273 wd_72 ⟨rfl, rfl⟩ hdc_X1_note ⟨Nat.le_of_ble_eq_true rfl, Nat.le_of_ble_eq_true rfl⟩ ⟨Nat.le_refl 0, Nat.le_refl 0⟩ hj_4 rfl rfl (As := [.int b3, .ref (g.1 3 j_5), .int x_6]) rfl rfl (Nat.le_of_ble_eq_true rfl) dX0_hearOthers_42 (fun m_7 h => ?_)
            exact B45 _ _ h
  unfold wp_X0_hearOthers at h
  refine v_iconst (pc := 0) X cst_i_0 dX0_hearOthers_0 ?_
  refine v_istore_n (pc := 1) (lv' := [(3, .int 0), (0, .ref (g.1 0 i0)), (1, .ref (g.1 3 i1)), (2, .int a2)]) X rfl (by decide) rfl dX0_hearOthers_1 ?_
  refine v_sub [1, 2, 3, 0] rfl ?_
  obtain ⟨n, h⟩ := h
  exact L2 n _ _ h

def wp_X0_listen_b43 (i0 : Nat) (q : Mem → Prop) (K : Int32 → Mem → Prop) (b1 : Int32) (μ : Mem) : Prop :=
K (b1 + 1) μ
def wp_X0_listen_l2 (i0 : Nat) (q : Mem → Prop) : Nat → Int32 → Mem → Prop
  | 0 => fun _ _ => False
  | n + 1 => fun b1 μ =>
(((nI 6) ≤ b1 →
q μ) ∧ (¬ (nI 6) ≤ b1 →
vp_in b1 6 ∧ ∀ j_1 : Nat, j_1 = 6 * i0 + (b1 : Int32).toNatClampNeg →
wp_X3_turnHearing j_1 μ (fun m_2 =>
vp_in b1 6 ∧ ∀ j_3 : Nat, j_3 = 6 * i0 + (b1 : Int32).toNatClampNeg →
wp_X3_isAwake j_3 m_2 (fun x_5 m_4 =>
((x_5 = 0 →
wp_X0_listen_b43 i0 q (wp_X0_listen_l2 i0 q n) b1 m_4) ∧ (¬ x_5 = 0 →
vp_in b1 6 ∧ ∀ j_6 : Nat, j_6 = 6 * i0 + (b1 : Int32).toNatClampNeg →
wp_X0_hearOthers i0 j_6 b1 m_4 (fun m_7 =>
wp_X0_listen_b43 i0 q (wp_X0_listen_l2 i0 q n) b1 m_7)))))))
def wp_X0_listen (i0 : Nat) (μ : Mem) (q : Mem → Prop) : Prop :=
∃ n : Nat, wp_X0_listen_l2 i0 q n 0 μ
set_option maxRecDepth 100000 in
set_option maxHeartbeats 4000000 in
theorem c_X0_listen (l : Launch) (g : GG) (hI : Inj g) (μ : Mem) (i0 : Nat) (hi0 : i0 < 4) (q : Mem → Prop) (h : wp_X0_listen i0 μ q) : Met l yX0_listen (Cond.code yX0_listen cX0_listen 2 none :: wsL_law) ({ frames := 3, cells := 0, slots := 0, locals := 67 }) (KP g [.ref (g.1 0 i0)] μ) (KQv g q) 0 0 (AA g) := by
  refine met_V (own := RX0) hI (by decide) rfl (Nat.le_of_ble_eq_true rfl) rfl (fun p e s m args below meth c X hr hlk => ?_)
  have L2 : ∀ (n : Nat) (b1 : Int32) (μ : Mem), wp_X0_listen_l2 i0 q n b1 μ → V p l e ({ frames := 3, cells := 0, slots := 0, locals := 67 }) s m args below meth c 2 g (AA g) 0 0 (MQ below (KQv g q) args s 0 0 (AA g)) μ 2 [(0, .ref (g.1 0 i0)), (1, .int b1)] [] := by
    intro n
    induction n with
    | zero => intro b1 μ h; exact h.elim
    | succ n ih =>
      have B43 : ∀ (b1 : Int32) (μ : Mem), wp_X0_listen_b43 i0 q (wp_X0_listen_l2 i0 q n) b1 μ → V p l e ({ frames := 3, cells := 0, slots := 0, locals := 67 }) s m args below meth c 2 g (AA g) 0 0 (MQ below (KQv g q) args s 0 0 (AA g)) μ 43 [(0, .ref (g.1 0 i0)), (1, .int b1)] [] := by
        intro b1 μ h
        unfold wp_X0_listen_b43 at h
        refine v_iinc (pc := 43) (lv' := [(1, .int (b1 + 1)), (0, .ref (g.1 0 i0))]) (j := 1) X rfl (congrArg (HAdd.hAdd _) cst_i_1) (by decide) rfl dX0_listen_43 ?_
        refine v_goto (pc := 46) (tgt := 2) X dX0_listen_46 (by decide) ?_
        refine v_sub [1, 0] rfl ?_
        exact ih _ _ h
      intro b1 μ h
      unfold wp_X0_listen_l2 at h
      refine v_iload_n (pc := 2) X rfl 1 rfl dX0_listen_2 ?_
      refine v_aload_n (pc := 3) X rfl 0 rfl dX0_listen_3 ?_
      refine gf_0_0 (pc := 4) X hi0 wd_28 dX0_listen_4 ?_
      refine len_13 (pc := 7) X hi0 dX0_listen_7 ?_
      refine v_icmp_ge (pc := 8) (tgt := 49) X h dX0_listen_8 (by decide) (fun h => ?_) (fun h => ?_)
      · exact v_vret (pc := 49) X hr hlk h dX0_listen_49
      · refine v_aload_n (pc := 11) X rfl 0 rfl dX0_listen_11 ?_
        refine gf_0_0 (pc := 12) X hi0 wd_28 dX0_listen_12 ?_
        refine v_iload_n (pc := 15) X rfl 1 rfl dX0_listen_15 ?_
        refine v_nodes (pc := 16) X hi0 h dX0_listen_16 (fun j_1 hj_1 h => ?_)
        refine v_callVv (pc := 17) X (c_X3_turnHearing l g hI _ _ hj_1 _ h) wd_260 wd_257 wd_258 wd_259 wd_39 ⟨rfl, rfl⟩ hdc_X3_turnHearing ⟨Nat.le_of_ble_eq_true rfl, Nat.le_of_ble_eq_true rfl⟩ ⟨Nat.le_refl 0, Nat.le_refl 0⟩ hj_1 rfl rfl (As := []) rfl rfl (Nat.le_of_ble_eq_true rfl) dX0_listen_17 (fun m_2 h => ?_)
        refine v_aload_n (pc := 20) X rfl 0 rfl dX0_listen_20 ?_
        refine gf_0_0 (pc := 21) X hi0 wd_28 dX0_listen_21 ?_
        refine v_iload_n (pc := 24) X rfl 1 rfl dX0_listen_24 ?_
        refine v_nodes (pc := 25) X hi0 h dX0_listen_25 (fun j_3 hj_3 h => ?_)
        refine v_callVi (pc := 26) X (c_X3_isAwake l g hI _ _ hj_3 _ h) wd_169 wd_182 wd_167 wd_168 wd_39 ⟨rfl, rfl⟩ hdc_X3_isAwake ⟨Nat.le_of_ble_eq_true rfl, Nat.le_of_ble_eq_true rfl⟩ ⟨Nat.le_refl 0, Nat.le_refl 0⟩ hj_3 rfl rfl (As := []) rfl rfl (Nat.le_of_ble_eq_true rfl) dX0_listen_26 (fun x_5 m_4 h => ?_)
        refine v_if_eq (pc := 29) (tgt := 43) X h dX0_listen_29 (by decide) (fun h => ?_) (fun h => ?_)
        · exact B43 _ _ h
        · refine v_aload_n (pc := 32) X rfl 0 rfl dX0_listen_32 ?_
          refine v_aload_n (pc := 33) X rfl 0 rfl dX0_listen_33 ?_
          refine gf_0_0 (pc := 34) X hi0 wd_28 dX0_listen_34 ?_
          refine v_iload_n (pc := 37) X rfl 1 rfl dX0_listen_37 ?_
          refine v_nodes (pc := 38) X hi0 h dX0_listen_38 (fun j_6 hj_6 h => ?_)
          refine v_iload_n (pc := 39) X rfl 1 rfl dX0_listen_39 ?_
          refine v_callVv (pc := 40) X (c_X0_hearOthers l g hI _ _ hi0 _ hj_6 _ _ h) wd_268 wd_265 wd_266 wd_267 wd_14 ⟨rfl, rfl⟩ hdc_X0_hearOthers ⟨Nat.le_of_ble_eq_true rfl, Nat.le_of_ble_eq_true rfl⟩ ⟨Nat.le_refl 0, Nat.le_refl 0⟩ hi0 rfl rfl (As := [.ref (g.1 3 j_6), .int b1]) rfl rfl (Nat.le_of_ble_eq_true rfl) dX0_listen_40 (fun m_7 h => ?_)
          exact B43 _ _ h
  unfold wp_X0_listen at h
  refine v_iconst (pc := 0) X cst_i_0 dX0_listen_0 ?_
  refine v_istore_n (pc := 1) (lv' := [(1, .int 0), (0, .ref (g.1 0 i0))]) X rfl (by decide) rfl dX0_listen_1 ?_
  refine v_sub [1, 0] rfl ?_
  obtain ⟨n, h⟩ := h
  exact L2 n _ _ h

def wp_X0_settle_b129 (i0 : Nat) (a1 : Int32) (q : Mem → Prop) (K : Int32 → Int32 → Mem → Prop) (b2 : Int32) (b3 : Int32) (μ : Mem) : Prop :=
K b2 (b3 + 1) μ
def wp_X0_settle_b102 (i0 : Nat) (a1 : Int32) (q : Mem → Prop) (K : Int32 → Int32 → Mem → Prop) (b2 : Int32) (b3 : Int32) (k4 : Nat) (b5 : Int32) (μ : Mem) : Prop :=
∀ x_1 : Int32, x_1 = μ 3 k4 5 →
((x_1 = b5 →
wp_X0_settle_b129 i0 a1 q K b2 b3 μ) ∧ (¬ x_1 = b5 →
∀ x_2 : Int32, x_2 = μ 0 i0 4 →
∀ x_3 : Int32, x_3 = μ 3 k4 5 →
wp_X2_add i0 x_2 b3 x_3 μ (fun m_4 =>
wp_X0_settle_b129 i0 a1 q K b2 b3 m_4)))
def wp_X0_settle_b89 (i0 : Nat) (a1 : Int32) (q : Mem → Prop) (K : Int32 → Int32 → Mem → Prop) (b2 : Int32) (b3 : Int32) (k4 : Nat) (b5 : Int32) (μ : Mem) : Prop :=
∀ x_1 : Int32, x_1 = μ 0 i0 3 →
wp_X3_correct k4 x_1 i0 μ (fun m_2 =>
wp_X0_settle_b102 i0 a1 q K b2 b3 k4 b5 m_2)
def wp_X0_settle_b60 (i0 : Nat) (a1 : Int32) (q : Mem → Prop) (K : Int32 → Int32 → Mem → Prop) (b2 : Int32) (b3 : Int32) (k4 : Nat) (μ : Mem) : Prop :=
∀ x_1 : Int32, x_1 = μ 3 k4 5 →
wp_X3_settle k4 a1 μ (fun m_2 =>
((b2 = 0 →
wp_X0_settle_b102 i0 a1 q K b2 b3 k4 x_1 m_2) ∧ (¬ b2 = 0 →
((x_1 = (nI 4) →
wp_X0_settle_b89 i0 a1 q K b2 b3 k4 x_1 m_2) ∧ (¬ x_1 = (nI 4) →
((¬ x_1 = (nI 5) →
wp_X0_settle_b102 i0 a1 q K b2 b3 k4 x_1 m_2) ∧ (x_1 = (nI 5) →
wp_X0_settle_b89 i0 a1 q K b2 b3 k4 x_1 m_2)))))))
def wp_X0_settle_l18 (i0 : Nat) (a1 : Int32) (q : Mem → Prop) : Nat → Int32 → Int32 → Mem → Prop
  | 0 => fun _ _ _ => False
  | n + 1 => fun b2 b3 μ =>
(((nI 6) ≤ b3 →
q μ) ∧ (¬ (nI 6) ≤ b3 →
vp_in b3 6 ∧ ∀ j_1 : Nat, j_1 = 6 * i0 + (b3 : Int32).toNatClampNeg →
∀ x_2 : Int32, x_2 = μ 3 j_1 6 →
((x_2 = 0 →
wp_X0_settle_b60 i0 a1 q (wp_X0_settle_l18 i0 a1 q n) b2 b3 j_1 μ) ∧ (¬ x_2 = 0 →
∀ x_3 : Int32, x_3 = μ 0 i0 4 →
∀ x_4 : Int32, x_4 = μ 3 j_1 5 →
wp_X2_add i0 x_3 b3 x_4 μ (fun m_5 =>
wp_X0_settle_b60 i0 a1 q (wp_X0_settle_l18 i0 a1 q n) b2 b3 j_1 m_5)))))
def wp_X0_settle_b15 (i0 : Nat) (a1 : Int32) (q : Mem → Prop) (t0 : Int32) (μ : Mem) : Prop :=
∃ n : Nat, wp_X0_settle_l18 i0 a1 q n t0 0 μ
def wp_X0_settle (i0 : Nat) (a1 : Int32) (μ : Mem) (q : Mem → Prop) : Prop :=
∀ x_1 : Int32, x_1 = μ 0 i0 4 →
((¬ (x_1 &&& 1) = 1 →
wp_X0_settle_b15 i0 a1 q 0 μ) ∧ ((x_1 &&& 1) = 1 →
wp_X0_settle_b15 i0 a1 q 1 μ))
set_option maxRecDepth 100000 in
set_option maxHeartbeats 4000000 in
theorem c_X0_settle (l : Launch) (g : GG) (hI : Inj g) (μ : Mem) (i0 : Nat) (hi0 : i0 < 4) (a1 : Int32) (q : Mem → Prop) (h : wp_X0_settle i0 a1 μ q) : Met l yX0_settle (Cond.code yX0_settle cX0_settle 6 none :: wsL_law) ({ frames := 3, cells := 0, slots := 0, locals := 69 }) (KP g [.ref (g.1 0 i0), .int a1] μ) (KQv g q) 0 0 (AA g) := by
  refine met_V (own := RX0) hI (by decide) rfl (Nat.le_of_ble_eq_true rfl) rfl (fun p e s m args below meth c X hr hlk => ?_)
  have L18 : ∀ (n : Nat) (b2 : Int32) (b3 : Int32) (μ : Mem), wp_X0_settle_l18 i0 a1 q n b2 b3 μ → V p l e ({ frames := 3, cells := 0, slots := 0, locals := 69 }) s m args below meth c 6 g (AA g) 0 0 (MQ below (KQv g q) args s 0 0 (AA g)) μ 18 [(0, .ref (g.1 0 i0)), (1, .int a1), (2, .int b2), (3, .int b3)] [] := by
    intro n
    induction n with
    | zero => intro b2 b3 μ h; exact h.elim
    | succ n ih =>
      have B129 : ∀ (b2 : Int32) (b3 : Int32) (μ : Mem), wp_X0_settle_b129 i0 a1 q (wp_X0_settle_l18 i0 a1 q n) b2 b3 μ → V p l e ({ frames := 3, cells := 0, slots := 0, locals := 69 }) s m args below meth c 6 g (AA g) 0 0 (MQ below (KQv g q) args s 0 0 (AA g)) μ 129 [(0, .ref (g.1 0 i0)), (1, .int a1), (2, .int b2), (3, .int b3)] [] := by
        intro b2 b3 μ h
        unfold wp_X0_settle_b129 at h
        refine v_iinc (pc := 129) (lv' := [(3, .int (b3 + 1)), (0, .ref (g.1 0 i0)), (1, .int a1), (2, .int b2)]) (j := 3) X rfl (congrArg (HAdd.hAdd _) cst_i_1) (by decide) rfl dX0_settle_129 ?_
        refine v_goto (pc := 132) (tgt := 18) X dX0_settle_132 (by decide) ?_
        refine v_sub [1, 2, 3, 0] rfl ?_
        exact ih _ _ _ h
      have B102 : ∀ (b2 : Int32) (b3 : Int32) (k4 : Nat) (hk4 : k4 < 24) (b5 : Int32) (μ : Mem), wp_X0_settle_b102 i0 a1 q (wp_X0_settle_l18 i0 a1 q n) b2 b3 k4 b5 μ → V p l e ({ frames := 3, cells := 0, slots := 0, locals := 69 }) s m args below meth c 6 g (AA g) 0 0 (MQ below (KQv g q) args s 0 0 (AA g)) μ 102 [(0, .ref (g.1 0 i0)), (1, .int a1), (2, .int b2), (3, .int b3), (4, .ref (g.1 3 k4)), (5, .int b5)] [] := by
        intro b2 b3 k4 hk4 b5 μ h
        unfold wp_X0_settle_b102 at h
        refine v_aload (pc := 102) X 4 rfl dX0_settle_102 ?_
        refine gf_3_5 (pc := 104) X hk4 wd_285 h dX0_settle_104 (fun x_1 h => ?_)
        refine v_iload (pc := 107) X 5 rfl dX0_settle_107 ?_
        refine v_icmp_eq (pc := 109) (tgt := 129) X h dX0_settle_109 (by decide) (fun h => ?_) (fun h => ?_)
        · refine v_sub [0, 1, 2, 3] rfl ?_
          exact B129 _ _ _ h
        · refine v_aload_n (pc := 112) X rfl 0 rfl dX0_settle_112 ?_
          refine gf_0_1 (pc := 113) X hi0 wd_32 dX0_settle_113 ?_
          refine v_aload_n (pc := 116) X rfl 0 rfl dX0_settle_116 ?_
          refine gf_0_4 (pc := 117) X hi0 wd_36 h dX0_settle_117 (fun x_2 h => ?_)
          refine v_iload_n (pc := 120) X rfl 3 rfl dX0_settle_120 ?_
          refine v_aload (pc := 121) X 4 rfl dX0_settle_121 ?_
          refine gf_3_5 (pc := 123) X hk4 wd_285 h dX0_settle_123 (fun x_3 h => ?_)
          refine v_callVv (pc := 126) X (c_X2_add l g hI _ _ hi0 _ _ _ _ h) wd_289 wd_286 wd_287 wd_288 wd_31 ⟨rfl, rfl⟩ hdc_X2_add ⟨Nat.le_of_ble_eq_true rfl, Nat.le_of_ble_eq_true rfl⟩ ⟨Nat.le_refl 0, Nat.le_refl 0⟩ hi0 rfl rfl (As := [.int x_2, .int b3, .int x_3]) rfl rfl (Nat.le_of_ble_eq_true rfl) dX0_settle_126 (fun m_4 h => ?_)
          refine v_sub [0, 1, 2, 3] rfl ?_
          exact B129 _ _ _ h
      have B89 : ∀ (b2 : Int32) (b3 : Int32) (k4 : Nat) (hk4 : k4 < 24) (b5 : Int32) (μ : Mem), wp_X0_settle_b89 i0 a1 q (wp_X0_settle_l18 i0 a1 q n) b2 b3 k4 b5 μ → V p l e ({ frames := 3, cells := 0, slots := 0, locals := 69 }) s m args below meth c 6 g (AA g) 0 0 (MQ below (KQv g q) args s 0 0 (AA g)) μ 89 [(0, .ref (g.1 0 i0)), (1, .int a1), (2, .int b2), (3, .int b3), (4, .ref (g.1 3 k4)), (5, .int b5)] [] := by
        intro b2 b3 k4 hk4 b5 μ h
        unfold wp_X0_settle_b89 at h
        refine v_aload (pc := 89) X 4 rfl dX0_settle_89 ?_
        refine v_aload_n (pc := 91) X rfl 0 rfl dX0_settle_91 ?_
        refine gf_0_3 (pc := 92) X hi0 wd_35 h dX0_settle_92 (fun x_1 h => ?_)
        refine v_aload_n (pc := 95) X rfl 0 rfl dX0_settle_95 ?_
        refine gf_0_2 (pc := 96) X hi0 wd_34 dX0_settle_96 ?_
        refine v_callVv (pc := 99) X (c_X3_correct l g hI _ _ hk4 _ _ (Nat.lt_of_lt_of_le hi0 (Nat.le_of_ble_eq_true rfl : 4 ≤ 5)) _ h) wd_318 wd_315 wd_316 wd_317 wd_39 ⟨rfl, rfl⟩ hdc_X3_correct ⟨Nat.le_of_ble_eq_true rfl, Nat.le_of_ble_eq_true rfl⟩ ⟨Nat.le_refl 0, Nat.le_refl 0⟩ hk4 rfl rfl (As := [.int x_1, .ref (g.1 4 i0)]) rfl rfl (Nat.le_of_ble_eq_true rfl) dX0_settle_99 (fun m_2 h => ?_)
        exact B102 _ _ _ hk4 _ _ h
      have B60 : ∀ (b2 : Int32) (b3 : Int32) (k4 : Nat) (hk4 : k4 < 24) (μ : Mem), wp_X0_settle_b60 i0 a1 q (wp_X0_settle_l18 i0 a1 q n) b2 b3 k4 μ → V p l e ({ frames := 3, cells := 0, slots := 0, locals := 69 }) s m args below meth c 6 g (AA g) 0 0 (MQ below (KQv g q) args s 0 0 (AA g)) μ 60 [(0, .ref (g.1 0 i0)), (1, .int a1), (2, .int b2), (3, .int b3), (4, .ref (g.1 3 k4))] [] := by
        intro b2 b3 k4 hk4 μ h
        unfold wp_X0_settle_b60 at h
        refine v_aload (pc := 60) X 4 rfl dX0_settle_60 ?_
        refine gf_3_5 (pc := 62) X hk4 wd_285 h dX0_settle_62 (fun x_1 h => ?_)
        refine v_istore (pc := 65) (lv' := [(5, .int x_1), (0, .ref (g.1 0 i0)), (1, .int a1), (2, .int b2), (3, .int b3), (4, .ref (g.1 3 k4))]) X (by decide) rfl dX0_settle_65 ?_
        refine v_aload (pc := 67) X 5 rfl dX0_settle_67 ?_
        refine v_iload_n (pc := 69) X rfl 2 rfl dX0_settle_69 ?_
        refine v_callVv (pc := 70) X (c_X3_settle l g hI _ _ hk4 _ _ h) wd_293 wd_290 wd_291 wd_292 wd_39 ⟨rfl, rfl⟩ hdc_X3_settle ⟨Nat.le_of_ble_eq_true rfl, Nat.le_of_ble_eq_true rfl⟩ ⟨Nat.le_refl 0, Nat.le_refl 0⟩ hk4 rfl rfl (As := [.int a1]) rfl rfl (Nat.le_of_ble_eq_true rfl) dX0_settle_70 (fun m_2 h => ?_)
        refine v_iload_n (pc := 73) X rfl 3 rfl dX0_settle_73 ?_
        refine v_if_eq (pc := 74) (tgt := 102) X h dX0_settle_74 (by decide) (fun h => ?_) (fun h => ?_)
        · refine v_sub [1, 2, 3, 4, 5, 0] rfl ?_
          exact B102 _ _ _ hk4 _ _ h
        · refine v_iload (pc := 77) X 0 rfl dX0_settle_77 ?_
          refine v_iconst (pc := 79) X cst_i_4 dX0_settle_79 ?_
          refine v_icmp_eq (pc := 80) (tgt := 89) X h dX0_settle_80 (by decide) (fun h => ?_) (fun h => ?_)
          · refine v_sub [1, 2, 3, 4, 5, 0] rfl ?_
            exact B89 _ _ _ hk4 _ _ h
          · refine v_iload (pc := 83) X 0 rfl dX0_settle_83 ?_
            refine v_iconst (pc := 85) X cst_i_5 dX0_settle_85 ?_
            refine v_icmp_ne (pc := 86) (tgt := 102) X h dX0_settle_86 (by decide) (fun h => ?_) (fun h => ?_)
            · refine v_sub [1, 2, 3, 4, 5, 0] rfl ?_
              exact B102 _ _ _ hk4 _ _ h
            · refine v_sub [1, 2, 3, 4, 5, 0] rfl ?_
              exact B89 _ _ _ hk4 _ _ h
      intro b2 b3 μ h
      unfold wp_X0_settle_l18 at h
      refine v_iload_n (pc := 18) X rfl 3 rfl dX0_settle_18 ?_
      refine v_aload_n (pc := 19) X rfl 0 rfl dX0_settle_19 ?_
      refine gf_0_0 (pc := 20) X hi0 wd_28 dX0_settle_20 ?_
      refine len_13 (pc := 23) X hi0 dX0_settle_23 ?_
      refine v_icmp_ge (pc := 24) (tgt := 135) X h dX0_settle_24 (by decide) (fun h => ?_) (fun h => ?_)
      · exact v_vret (pc := 135) X hr hlk h dX0_settle_135
      · refine v_aload_n (pc := 27) X rfl 0 rfl dX0_settle_27 ?_
        refine gf_0_0 (pc := 28) X hi0 wd_28 dX0_settle_28 ?_
        refine v_iload_n (pc := 31) X rfl 3 rfl dX0_settle_31 ?_
        refine v_nodes (pc := 32) X hi0 h dX0_settle_32 (fun j_1 hj_1 h => ?_)
        refine v_astore (pc := 33) (lv' := [(4, .ref (g.1 3 j_1)), (0, .ref (g.1 0 i0)), (1, .int a1), (2, .int b2), (3, .int b3)]) X (by decide) rfl dX0_settle_33 ?_
        refine v_aload (pc := 35) X 0 rfl dX0_settle_35 ?_
        refine gf_3_6 (pc := 37) X hj_1 wd_232 h dX0_settle_37 (fun x_2 h => ?_)
        refine v_if_eq (pc := 40) (tgt := 60) X h dX0_settle_40 (by decide) (fun h => ?_) (fun h => ?_)
        · refine v_sub [1, 2, 3, 4, 0] rfl ?_
          exact B60 _ _ _ hj_1 _ h
        · refine v_aload_n (pc := 43) X rfl 1 rfl dX0_settle_43 ?_
          refine gf_0_1 (pc := 44) X hi0 wd_32 dX0_settle_44 ?_
          refine v_aload_n (pc := 47) X rfl 1 rfl dX0_settle_47 ?_
          refine gf_0_4 (pc := 48) X hi0 wd_36 h dX0_settle_48 (fun x_3 h => ?_)
          refine v_iload_n (pc := 51) X rfl 4 rfl dX0_settle_51 ?_
          refine v_aload (pc := 52) X 0 rfl dX0_settle_52 ?_
          refine gf_3_5 (pc := 54) X hj_1 wd_285 h dX0_settle_54 (fun x_4 h => ?_)
          refine v_callVv (pc := 57) X (c_X2_add l g hI _ _ hi0 _ _ _ _ h) wd_289 wd_286 wd_287 wd_288 wd_31 ⟨rfl, rfl⟩ hdc_X2_add ⟨Nat.le_of_ble_eq_true rfl, Nat.le_of_ble_eq_true rfl⟩ ⟨Nat.le_refl 0, Nat.le_refl 0⟩ hi0 rfl rfl (As := [.int x_3, .int b3, .int x_4]) rfl rfl (Nat.le_of_ble_eq_true rfl) dX0_settle_57 (fun m_5 h => ?_)
          refine v_sub [1, 2, 3, 4, 0] rfl ?_
          exact B60 _ _ _ hj_1 _ h
  have B15 : ∀ (t0 : Int32) (μ : Mem), wp_X0_settle_b15 i0 a1 q t0 μ → V p l e ({ frames := 3, cells := 0, slots := 0, locals := 69 }) s m args below meth c 6 g (AA g) 0 0 (MQ below (KQv g q) args s 0 0 (AA g)) μ 15 [(0, .ref (g.1 0 i0)), (1, .int a1)] [.int t0] := by
    intro t0 μ h
    unfold wp_X0_settle_b15 at h
    refine v_istore_n (pc := 15) (lv' := [(2, .int t0), (0, .ref (g.1 0 i0)), (1, .int a1)]) X rfl (by decide) rfl dX0_settle_15 ?_
    refine v_iconst (pc := 16) X cst_i_0 dX0_settle_16 ?_
    refine v_istore_n (pc := 17) (lv' := [(3, .int 0), (2, .int t0), (0, .ref (g.1 0 i0)), (1, .int a1)]) X rfl (by decide) rfl dX0_settle_17 ?_
    refine v_sub [2, 3, 1, 0] rfl ?_
    obtain ⟨n, h⟩ := h
    exact L18 n _ _ _ h
  unfold wp_X0_settle at h
  refine v_aload_n (pc := 0) X rfl 0 rfl dX0_settle_0 ?_
  refine gf_0_4 (pc := 1) X hi0 wd_36 h dX0_settle_1 (fun x_1 h => ?_)
  refine v_iconst (pc := 4) X cst_i_1 dX0_settle_4 ?_
  refine v_iand (pc := 5) X dX0_settle_5 ?_
  refine v_iconst (pc := 6) X cst_i_1 dX0_settle_6 ?_
  refine v_icmp_ne (pc := 7) (tgt := 14) X h dX0_settle_7 (by decide) (fun h => ?_) (fun h => ?_)
  · refine v_iconst (pc := 14) X cst_i_0 dX0_settle_14 ?_
    exact B15 _ _ h
  · refine v_iconst (pc := 10) X cst_i_1 dX0_settle_10 ?_
    refine v_goto (pc := 11) (tgt := 15) X dX0_settle_11 (by decide) ?_
    exact B15 _ _ h

def wp_X0_moveClocks_b60 (i0 : Nat) (q : Mem → Prop) (K : Int32 → Mem → Prop) (b1 : Int32) (μ : Mem) : Prop :=
K (b1 + 1) μ
def wp_X0_moveClocks_b43 (i0 : Nat) (q : Mem → Prop) (K : Int32 → Mem → Prop) (b1 : Int32) (k2 : Nat) (μ : Mem) : Prop :=
∀ x_1 : Int32, x_1 = μ 3 k2 6 →
((¬ x_1 = 0 →
wp_X0_moveClocks_b60 i0 q K b1 μ) ∧ (x_1 = 0 →
∀ x_2 : Int32, x_2 = μ 3 k2 7 →
∀ m_3 : Mem, m_3 = ms μ 3 k2 7 (x_2 + 1) →
wp_X0_moveClocks_b60 i0 q K b1 m_3))
def wp_X0_moveClocks_l2 (i0 : Nat) (q : Mem → Prop) : Nat → Int32 → Mem → Prop
  | 0 => fun _ _ => False
  | n + 1 => fun b1 μ =>
(((nI 6) ≤ b1 →
q μ) ∧ (¬ (nI 6) ≤ b1 →
vp_in b1 6 ∧ ∀ j_1 : Nat, j_1 = 6 * i0 + (b1 : Int32).toNatClampNeg →
wp_X3_isAwake j_1 μ (fun x_3 m_2 =>
((x_3 = 0 →
wp_X0_moveClocks_b43 i0 q (wp_X0_moveClocks_l2 i0 q n) b1 j_1 m_2) ∧ (¬ x_3 = 0 →
∀ x_4 : Int32, x_4 = m_2 3 j_1 11 →
∀ x_5 : Int32, x_5 = m_2 3 j_1 3 →
∀ x_6 : Int32, x_6 = m_2 3 j_1 12 →
∀ m_7 : Mem, m_7 = ms m_2 3 j_1 11 (x_4 + (x_5 + x_6)) →
wp_X0_moveClocks_b43 i0 q (wp_X0_moveClocks_l2 i0 q n) b1 j_1 m_7)))))
def wp_X0_moveClocks (i0 : Nat) (μ : Mem) (q : Mem → Prop) : Prop :=
∃ n : Nat, wp_X0_moveClocks_l2 i0 q n 0 μ
set_option maxRecDepth 100000 in
set_option maxHeartbeats 4000000 in
theorem c_X0_moveClocks (l : Launch) (g : GG) (hI : Inj g) (μ : Mem) (i0 : Nat) (hi0 : i0 < 4) (q : Mem → Prop) (h : wp_X0_moveClocks i0 μ q) : Met l yX0_moveClocks (Cond.code yX0_moveClocks cX0_moveClocks 3 none :: wsL_law) ({ frames := 1, cells := 0, slots := 0, locals := 20 }) (KP g [.ref (g.1 0 i0)] μ) (KQv g q) 0 0 (AA g) := by
  refine met_V (own := RX0) hI (by decide) rfl (Nat.le_of_ble_eq_true rfl) rfl (fun p e s m args below meth c X hr hlk => ?_)
  have L2 : ∀ (n : Nat) (b1 : Int32) (μ : Mem), wp_X0_moveClocks_l2 i0 q n b1 μ → V p l e ({ frames := 1, cells := 0, slots := 0, locals := 20 }) s m args below meth c 3 g (AA g) 0 0 (MQ below (KQv g q) args s 0 0 (AA g)) μ 2 [(0, .ref (g.1 0 i0)), (1, .int b1)] [] := by
    intro n
    induction n with
    | zero => intro b1 μ h; exact h.elim
    | succ n ih =>
      have B60 : ∀ (b1 : Int32) (μ : Mem), wp_X0_moveClocks_b60 i0 q (wp_X0_moveClocks_l2 i0 q n) b1 μ → V p l e ({ frames := 1, cells := 0, slots := 0, locals := 20 }) s m args below meth c 3 g (AA g) 0 0 (MQ below (KQv g q) args s 0 0 (AA g)) μ 60 [(0, .ref (g.1 0 i0)), (1, .int b1)] [] := by
        intro b1 μ h
        unfold wp_X0_moveClocks_b60 at h
        refine v_iinc (pc := 60) (lv' := [(1, .int (b1 + 1)), (0, .ref (g.1 0 i0))]) (j := 1) X rfl (congrArg (HAdd.hAdd _) cst_i_1) (by decide) rfl dX0_moveClocks_60 ?_
        refine v_goto (pc := 63) (tgt := 2) X dX0_moveClocks_63 (by decide) ?_
        refine v_sub [1, 0] rfl ?_
        exact ih _ _ h
      have B43 : ∀ (b1 : Int32) (k2 : Nat) (hk2 : k2 < 24) (μ : Mem), wp_X0_moveClocks_b43 i0 q (wp_X0_moveClocks_l2 i0 q n) b1 k2 μ → V p l e ({ frames := 1, cells := 0, slots := 0, locals := 20 }) s m args below meth c 3 g (AA g) 0 0 (MQ below (KQv g q) args s 0 0 (AA g)) μ 43 [(0, .ref (g.1 0 i0)), (1, .int b1), (2, .ref (g.1 3 k2))] [] := by
        intro b1 k2 hk2 μ h
        unfold wp_X0_moveClocks_b43 at h
        refine v_aload_n (pc := 43) X rfl 2 rfl dX0_moveClocks_43 ?_
        refine gf_3_6 (pc := 44) X hk2 wd_232 h dX0_moveClocks_44 (fun x_1 h => ?_)
        refine v_if_ne (pc := 47) (tgt := 60) X h dX0_moveClocks_47 (by decide) (fun h => ?_) (fun h => ?_)
        · refine v_sub [0, 1] rfl ?_
          exact B60 _ _ h
        · refine v_aload_n (pc := 50) X rfl 2 rfl dX0_moveClocks_50 ?_
          refine v_dup (pc := 51) X rfl dX0_moveClocks_51 ?_
          refine gf_3_7 (pc := 52) X hk2 wd_355 h dX0_moveClocks_52 (fun x_2 h => ?_)
          refine v_iconst (pc := 55) X cst_i_1 dX0_moveClocks_55 ?_
          refine v_iadd (pc := 56) X dX0_moveClocks_56 ?_
          refine pf_3_7 (pc := 57) X hk2 wd_355 h dX0_moveClocks_57 (fun m_3 h => ?_)
          refine v_sub [0, 1] rfl ?_
          exact B60 _ _ h
      intro b1 μ h
      unfold wp_X0_moveClocks_l2 at h
      refine v_iload_n (pc := 2) X rfl 1 rfl dX0_moveClocks_2 ?_
      refine v_aload_n (pc := 3) X rfl 0 rfl dX0_moveClocks_3 ?_
      refine gf_0_0 (pc := 4) X hi0 wd_28 dX0_moveClocks_4 ?_
      refine len_13 (pc := 7) X hi0 dX0_moveClocks_7 ?_
      refine v_icmp_ge (pc := 8) (tgt := 66) X h dX0_moveClocks_8 (by decide) (fun h => ?_) (fun h => ?_)
      · exact v_vret (pc := 66) X hr hlk h dX0_moveClocks_66
      · refine v_aload_n (pc := 11) X rfl 0 rfl dX0_moveClocks_11 ?_
        refine gf_0_0 (pc := 12) X hi0 wd_28 dX0_moveClocks_12 ?_
        refine v_iload_n (pc := 15) X rfl 1 rfl dX0_moveClocks_15 ?_
        refine v_nodes (pc := 16) X hi0 h dX0_moveClocks_16 (fun j_1 hj_1 h => ?_)
        refine v_astore_n (pc := 17) (lv' := [(2, .ref (g.1 3 j_1)), (0, .ref (g.1 0 i0)), (1, .int b1)]) X rfl (by decide) rfl dX0_moveClocks_17 ?_
        refine v_aload_n (pc := 18) X rfl 0 rfl dX0_moveClocks_18 ?_
        refine v_callVi (pc := 19) X (c_X3_isAwake l g hI _ _ hj_1 _ h) wd_169 wd_182 wd_167 wd_168 wd_39 ⟨rfl, rfl⟩ hdc_X3_isAwake ⟨Nat.le_of_ble_eq_true rfl, Nat.le_of_ble_eq_true rfl⟩ ⟨Nat.le_refl 0, Nat.le_refl 0⟩ hj_1 rfl rfl (As := []) rfl rfl (Nat.le_of_ble_eq_true rfl) dX0_moveClocks_19 (fun x_3 m_2 h => ?_)
        refine v_if_eq (pc := 22) (tgt := 43) X h dX0_moveClocks_22 (by decide) (fun h => ?_) (fun h => ?_)
        · refine v_sub [1, 2, 0] rfl ?_
          exact B43 _ _ hj_1 _ h
        · refine v_aload_n (pc := 25) X rfl 0 rfl dX0_moveClocks_25 ?_
          refine v_dup (pc := 26) X rfl dX0_moveClocks_26 ?_
          refine gf_3_11 (pc := 27) X hj_1 wd_270 h dX0_moveClocks_27 (fun x_4 h => ?_)
          refine v_aload_n (pc := 30) X rfl 0 rfl dX0_moveClocks_30 ?_
          refine gf_3_3 (pc := 31) X hj_1 wd_353 h dX0_moveClocks_31 (fun x_5 h => ?_)
          refine v_aload_n (pc := 34) X rfl 0 rfl dX0_moveClocks_34 ?_
          refine gf_3_12 (pc := 35) X hj_1 wd_354 h dX0_moveClocks_35 (fun x_6 h => ?_)
          refine v_iadd (pc := 38) X dX0_moveClocks_38 ?_
          refine v_iadd (pc := 39) X dX0_moveClocks_39 ?_
          refine pf_3_11 (pc := 40) X hj_1 wd_270 h dX0_moveClocks_40 (fun m_7 h => ?_)
          refine v_sub [1, 2, 0] rfl ?_
          exact B43 _ _ hj_1 _ h
  unfold wp_X0_moveClocks at h
  refine v_iconst (pc := 0) X cst_i_0 dX0_moveClocks_0 ?_
  refine v_istore_n (pc := 1) (lv' := [(1, .int 0), (0, .ref (g.1 0 i0))]) X rfl (by decide) rfl dX0_moveClocks_1 ?_
  refine v_sub [1, 0] rfl ?_
  obtain ⟨n, h⟩ := h
  exact L2 n _ _ h

def wp_X0_passCycle (i0 : Nat) (μ : Mem) (q : Mem → Prop) : Prop :=
wp_X0_isSignGiven i0 μ (fun x_2 m_1 =>
wp_X0_chooseSenders i0 m_1 (fun m_3 =>
wp_X0_listen i0 m_3 (fun m_4 =>
wp_X0_settle i0 x_2 m_4 (fun m_5 =>
wp_X0_moveClocks i0 m_5 (fun m_6 =>
∀ x_7 : Int32, x_7 = m_6 0 i0 4 →
∀ m_8 : Mem, m_8 = ms m_6 0 i0 4 (x_7 + 1) →
q m_8)))))
set_option maxRecDepth 100000 in
set_option maxHeartbeats 4000000 in
theorem c_X0_passCycle (l : Launch) (g : GG) (hI : Inj g) (μ : Mem) (i0 : Nat) (hi0 : i0 < 4) (q : Mem → Prop) (h : wp_X0_passCycle i0 μ q) : Met l yX0_passCycle (Cond.code yX0_passCycle cX0_passCycle 2 none :: wsL_law) ({ frames := 4, cells := 0, slots := 0, locals := 94 }) (KP g [.ref (g.1 0 i0)] μ) (KQv g q) 0 0 (AA g) := by
  refine met_V (own := RX0) hI (by decide) rfl (Nat.le_of_ble_eq_true rfl) rfl (fun p e s m args below meth c X hr hlk => ?_)
  unfold wp_X0_passCycle at h
  refine v_aload_n (pc := 0) X rfl 0 rfl dX0_passCycle_0 ?_
  refine v_callVi (pc := 1) X (c_X0_isSignGiven l g hI _ _ hi0 _ h) wd_223 wd_220 wd_221 wd_222 wd_14 ⟨rfl, rfl⟩ hdc_X0_isSignGiven ⟨Nat.le_of_ble_eq_true rfl, Nat.le_of_ble_eq_true rfl⟩ ⟨Nat.le_refl 0, Nat.le_refl 0⟩ hi0 rfl rfl (As := []) rfl rfl (Nat.le_of_ble_eq_true rfl) dX0_passCycle_1 (fun x_2 m_1 h => ?_)
  refine v_istore_n (pc := 4) (lv' := [(1, .int x_2), (0, .ref (g.1 0 i0))]) X rfl (by decide) rfl dX0_passCycle_4 ?_
  refine v_aload_n (pc := 5) X rfl 1 rfl dX0_passCycle_5 ?_
  refine v_callVv (pc := 6) X (c_X0_chooseSenders l g hI _ _ hi0 _ h) wd_231 wd_228 wd_229 wd_230 wd_14 ⟨rfl, rfl⟩ hdc_X0_chooseSenders ⟨Nat.le_of_ble_eq_true rfl, Nat.le_of_ble_eq_true rfl⟩ ⟨Nat.le_refl 0, Nat.le_refl 0⟩ hi0 rfl rfl (As := []) rfl rfl (Nat.le_of_ble_eq_true rfl) dX0_passCycle_6 (fun m_3 h => ?_)
  refine v_aload_n (pc := 9) X rfl 1 rfl dX0_passCycle_9 ?_
  refine v_callVv (pc := 10) X (c_X0_listen l g hI _ _ hi0 _ h) wd_256 wd_253 wd_254 wd_255 wd_14 ⟨rfl, rfl⟩ hdc_X0_listen ⟨Nat.le_of_ble_eq_true rfl, Nat.le_of_ble_eq_true rfl⟩ ⟨Nat.le_refl 0, Nat.le_refl 0⟩ hi0 rfl rfl (As := []) rfl rfl (Nat.le_of_ble_eq_true rfl) dX0_passCycle_10 (fun m_4 h => ?_)
  refine v_aload_n (pc := 13) X rfl 1 rfl dX0_passCycle_13 ?_
  refine v_iload_n (pc := 14) X rfl 0 rfl dX0_passCycle_14 ?_
  refine v_callVv (pc := 15) X (c_X0_settle l g hI _ _ hi0 _ _ h) wd_284 wd_281 wd_282 wd_283 wd_14 ⟨rfl, rfl⟩ hdc_X0_settle ⟨Nat.le_of_ble_eq_true rfl, Nat.le_of_ble_eq_true rfl⟩ ⟨Nat.le_refl 0, Nat.le_refl 0⟩ hi0 rfl rfl (As := [.int x_2]) rfl rfl (Nat.le_of_ble_eq_true rfl) dX0_passCycle_15 (fun m_5 h => ?_)
  refine v_aload_n (pc := 18) X rfl 1 rfl dX0_passCycle_18 ?_
  refine v_callVv (pc := 19) X (c_X0_moveClocks l g hI _ _ hi0 _ h) wd_352 wd_349 wd_350 wd_351 wd_14 ⟨rfl, rfl⟩ hdc_X0_moveClocks ⟨Nat.le_of_ble_eq_true rfl, Nat.le_of_ble_eq_true rfl⟩ ⟨Nat.le_refl 0, Nat.le_refl 0⟩ hi0 rfl rfl (As := []) rfl rfl (Nat.le_of_ble_eq_true rfl) dX0_passCycle_19 (fun m_6 h => ?_)
  refine v_aload_n (pc := 22) X rfl 1 rfl dX0_passCycle_22 ?_
  refine v_dup (pc := 23) X rfl dX0_passCycle_23 ?_
  refine gf_0_4 (pc := 24) X hi0 wd_36 h dX0_passCycle_24 (fun x_7 h => ?_)
  refine v_iconst (pc := 27) X cst_i_1 dX0_passCycle_27 ?_
  refine v_iadd (pc := 28) X dX0_passCycle_28 ?_
  refine pf_0_4 (pc := 29) X hi0 wd_36 h dX0_passCycle_29 (fun m_8 h => ?_)
  exact v_vret (pc := 32) X hr hlk h dX0_passCycle_32
