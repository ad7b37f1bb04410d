theorem cst_s_256 : (Int16.ofInt 256).toInt32 = ((nI 256) : Int32) := by decide +kernel
theorem hdc_X6_bearsOne : yX6_bearsOne.cls ≠ "java/lang/invoke/MethodHandle" ∧ yX6_bearsOne.cls ≠ "java/lang/invoke/VarHandle" ∧ (parseMethodDescriptor yX6_bearsOne.desc).map (fun d => d.parameters.length) = some 4 := by decide +kernel
theorem hdc_X6_cycle : yX6_cycle.cls ≠ "java/lang/invoke/MethodHandle" ∧ yX6_cycle.cls ≠ "java/lang/invoke/VarHandle" ∧ (parseMethodDescriptor yX6_cycle.desc).map (fun d => d.parameters.length) = some 0 := by decide +kernel
theorem hdc_X6_inSet : yX6_inSet.cls ≠ "java/lang/invoke/MethodHandle" ∧ yX6_inSet.cls ≠ "java/lang/invoke/VarHandle" ∧ (parseMethodDescriptor yX6_inSet.desc).map (fun d => d.parameters.length) = some 0 := by decide +kernel
theorem hdc_X6_isWithin : yX6_isWithin.cls ≠ "java/lang/invoke/MethodHandle" ∧ yX6_isWithin.cls ≠ "java/lang/invoke/VarHandle" ∧ (parseMethodDescriptor yX6_isWithin.desc).map (fun d => d.parameters.length) = some 1 := by decide +kernel
theorem hdc_X6_load : yX6_load.cls ≠ "java/lang/invoke/MethodHandle" ∧ yX6_load.cls ≠ "java/lang/invoke/VarHandle" ∧ (parseMethodDescriptor yX6_load.desc).map (fun d => d.parameters.length) = some 1 := by decide +kernel
theorem hdc_X6_save : yX6_save.cls ≠ "java/lang/invoke/MethodHandle" ∧ yX6_save.cls ≠ "java/lang/invoke/VarHandle" ∧ (parseMethodDescriptor yX6_save.desc).map (fun d => d.parameters.length) = some 1 := by decide +kernel
theorem hdc_X6_setOf : yX6_setOf.cls ≠ "java/lang/invoke/MethodHandle" ∧ yX6_setOf.cls ≠ "java/lang/invoke/VarHandle" ∧ (parseMethodDescriptor yX6_setOf.desc).map (fun d => d.parameters.length) = some 1 := by decide +kernel
theorem hdc_X6_size : yX6_size.cls ≠ "java/lang/invoke/MethodHandle" ∧ yX6_size.cls ≠ "java/lang/invoke/VarHandle" ∧ (parseMethodDescriptor yX6_size.desc).map (fun d => d.parameters.length) = some 1 := by decide +kernel
theorem hdc_X6_spreadBut : yX6_spreadBut.cls ≠ "java/lang/invoke/MethodHandle" ∧ yX6_spreadBut.cls ≠ "java/lang/invoke/VarHandle" ∧ (parseMethodDescriptor yX6_spreadBut.desc).map (fun d => d.parameters.length) = some 1 := by decide +kernel
def wp_X6_setOf_b27 (a1 : Int32) (q : Int32 → Mem → Prop) (K : Int32 → Int32 → Mem → Prop) (b3 : Int32) (t0 : Int32) (t1 : Int32) (μ : Mem) : Prop :=
∀ y_1 : Int32, y_1 = (t0 ||| t1) →
K y_1 (b3 + 1) μ
def wp_X6_setOf_l4 (a1 : Int32) (q : Int32 → Mem → Prop) : Nat → Int32 → Int32 → Mem → Prop
  | 0 => fun _ _ _ => False
  | n + 1 => fun b2 b3 μ =>
(((nI 6) ≤ b3 →
q b2 μ) ∧ (¬ (nI 6) ≤ b3 →
wp_X6_is b3 a1 μ (fun x_2 m_1 =>
((x_2 = 0 →
wp_X6_setOf_b27 a1 q (wp_X6_setOf_l4 a1 q n) b3 b2 0 m_1) ∧ (¬ x_2 = 0 →
wp_X6_setOf_b27 a1 q (wp_X6_setOf_l4 a1 q n) b3 b2 (1 <<< (b3 &&& 31)) m_1)))))
def wp_X6_setOf (a1 : Int32) (μ : Mem) (q : Int32 → Mem → Prop) : Prop :=
∃ n : Nat, wp_X6_setOf_l4 a1 q n 0 0 μ
set_option maxRecDepth 100000 in
set_option maxHeartbeats 4000000 in
theorem c_X6_setOf (l : Launch) (g : GG) (hI : Inj g) (μ : Mem) (a1 : Int32) (q : Int32 → Mem → Prop) (h : wp_X6_setOf a1 μ q) : Met l yX6_setOf (Cond.code yX6_setOf cX6_setOf 4 (some .int) :: wsL_law) ({ frames := 1, cells := 0, slots := 0, locals := 22 }) (KP g [.ref (g.1 6 0), .int a1] μ) (KQi g q) 0 0 (AA g) := by
  refine met_V (own := RX6) hI (by decide) rfl (Nat.le_of_ble_eq_true rfl) rfl (fun p e s m args below meth c X hr hlk => ?_)
  have L4 : ∀ (n : Nat) (b2 : Int32) (b3 : Int32) (μ : Mem), wp_X6_setOf_l4 a1 q n b2 b3 μ → V p l e ({ frames := 1, cells := 0, slots := 0, locals := 22 }) s m args below meth c 4 g (AA g) 0 0 (MQ below (KQi g q) args s 0 0 (AA g)) μ 4 [(0, .ref (g.1 6 0)), (1, .int a1), (2, .int b2), (3, .int b3)] [] := by
    intro n
    induction n with
    | zero => intro b2 b3 μ h; exact h.elim
    | succ n ih =>
      have B27 : ∀ (b3 : Int32) (t0 : Int32) (t1 : Int32) (μ : Mem), wp_X6_setOf_b27 a1 q (wp_X6_setOf_l4 a1 q n) b3 t0 t1 μ → V p l e ({ frames := 1, cells := 0, slots := 0, locals := 22 }) s m args below meth c 4 g (AA g) 0 0 (MQ below (KQi g q) args s 0 0 (AA g)) μ 27 [(0, .ref (g.1 6 0)), (1, .int a1), (3, .int b3)] [.int t1, .int t0] := by
        intro b3 t0 t1 μ h
        unfold wp_X6_setOf_b27 at h
        refine v_ior (pc := 27) X dX6_setOf_27 ?_
        refine v_nm h (fun y_1 h => ?_)
        refine v_istore_n (pc := 28) (lv' := [(2, .int y_1), (0, .ref (g.1 6 0)), (1, .int a1), (3, .int b3)]) X rfl (by decide) rfl dX6_setOf_28 ?_
        refine v_iinc (pc := 29) (lv' := [(3, .int (b3 + 1)), (2, .int y_1), (0, .ref (g.1 6 0)), (1, .int a1)]) (j := 3) X rfl (congrArg (HAdd.hAdd _) cst_i_1) (by decide) rfl dX6_setOf_29 ?_
        refine v_goto (pc := 32) (tgt := 4) X dX6_setOf_32 (by decide) ?_
        refine v_sub [2, 3, 1, 0] rfl ?_
        exact ih _ _ _ h
      intro b2 b3 μ h
      unfold wp_X6_setOf_l4 at h
      refine v_iload_n (pc := 4) X rfl 3 rfl dX6_setOf_4 ?_
      refine v_bipush (pc := 5) X cst_b_6 dX6_setOf_5 ?_
      refine v_icmp_ge (pc := 7) (tgt := 35) X h dX6_setOf_7 (by decide) (fun h => ?_) (fun h => ?_)
      · refine v_iload_n (pc := 35) X rfl 2 rfl dX6_setOf_35 ?_
        exact v_iret (pc := 36) X hr hlk h dX6_setOf_36
      · refine v_iload_n (pc := 10) X rfl 2 rfl dX6_setOf_10 ?_
        refine v_aload_n (pc := 11) X rfl 0 rfl dX6_setOf_11 ?_
        refine v_iload_n (pc := 12) X rfl 3 rfl dX6_setOf_12 ?_
        refine v_iload_n (pc := 13) X rfl 1 rfl dX6_setOf_13 ?_
        refine v_callVi (pc := 14) X (c_X6_is l g hI _ _ _ _ h) wd_138 wd_135 wd_136 wd_137 wd_5 ⟨rfl, rfl⟩ hdc_X6_is ⟨Nat.le_of_ble_eq_true rfl, Nat.le_of_ble_eq_true rfl⟩ ⟨Nat.le_refl 0, Nat.le_refl 0⟩ Nat.one_pos rfl rfl (As := [.int b3, .int a1]) rfl rfl (Nat.le_of_ble_eq_true rfl) dX6_setOf_14 (fun x_2 m_1 h => ?_)
        refine v_if_eq (pc := 17) (tgt := 26) X h dX6_setOf_17 (by decide) (fun h => ?_) (fun h => ?_)
        · refine v_iconst (pc := 26) X cst_i_0 dX6_setOf_26 ?_
          refine v_sub [0, 1, 3] rfl ?_
          exact B27 _ _ _ _ h
        · refine v_iconst (pc := 20) X cst_i_1 dX6_setOf_20 ?_
          refine v_iload_n (pc := 21) X rfl 3 rfl dX6_setOf_21 ?_
          refine v_ishl (pc := 22) X dX6_setOf_22 ?_
          refine v_goto (pc := 23) (tgt := 27) X dX6_setOf_23 (by decide) ?_
          refine v_sub [0, 1, 3] rfl ?_
          exact B27 _ _ _ _ h
  unfold wp_X6_setOf at h
  refine v_iconst (pc := 0) X cst_i_0 dX6_setOf_0 ?_
  refine v_istore_n (pc := 1) (lv' := [(2, .int 0), (0, .ref (g.1 6 0)), (1, .int a1)]) X rfl (by decide) rfl dX6_setOf_1 ?_
  refine v_iconst (pc := 2) X cst_i_0 dX6_setOf_2 ?_
  refine v_istore_n (pc := 3) (lv' := [(3, .int 0), (2, .int 0), (0, .ref (g.1 6 0)), (1, .int a1)]) X rfl (by decide) rfl dX6_setOf_3 ?_
  refine v_sub [2, 3, 1, 0] rfl ?_
  obtain ⟨n, h⟩ := h
  exact L4 n _ _ _ h

def wp_X6_run_l15 (a1 : Int32) (q : Int32 → Mem → Prop) : Nat → Int32 → Mem → Prop
  | 0 => fun _ _ => False
  | n + 1 => fun b2 μ =>
((a1 ≤ b2 →
wp_X6_setOf (nI 4) μ (fun x_2 m_1 =>
q x_2 m_1)) ∧ (¬ a1 ≤ b2 →
wp_X6_cycle  μ (fun m_3 =>
wp_X6_run_l15 a1 q n (b2 + 1) m_3)))
def wp_X6_run (a1 : Int32) (μ : Mem) (q : Int32 → Mem → Prop) : Prop :=
wp_X6_in a1 1 (nI 50) μ (fun x_2 m_1 =>
((¬ x_2 = 0 →
∃ n : Nat, wp_X6_run_l15 a1 q n 0 m_1) ∧ (x_2 = 0 →
q (-2) m_1)))
set_option maxRecDepth 100000 in
set_option maxHeartbeats 4000000 in
theorem c_X6_run (l : Launch) (g : GG) (hI : Inj g) (μ : Mem) (a1 : Int32) (q : Int32 → Mem → Prop) (h : wp_X6_run a1 μ q) : Met l yX6_run (Cond.code yX6_run cX6_run 3 (some .int) :: wsL_law) ({ frames := 6, cells := 0, slots := 0, locals := 131 }) (KP g [.ref (g.1 6 0), .int a1] μ) (KQi g q) 0 0 (AA g) := by
  refine met_V (own := RX6) hI (by decide) rfl (Nat.le_of_ble_eq_true rfl) rfl (fun p e s m args below meth c X hr hlk => ?_)
  have L15 : ∀ (n : Nat) (b2 : Int32) (μ : Mem), wp_X6_run_l15 a1 q n b2 μ → V p l e ({ frames := 6, cells := 0, slots := 0, locals := 131 }) s m args below meth c 3 g (AA g) 0 0 (MQ below (KQi g q) args s 0 0 (AA g)) μ 15 [(0, .ref (g.1 6 0)), (1, .int a1), (2, .int b2)] [] := by
    intro n
    induction n with
    | zero => intro b2 μ h; exact h.elim
    | succ n ih =>
      intro b2 μ h
      unfold wp_X6_run_l15 at h
      refine v_iload_n (pc := 15) X rfl 2 rfl dX6_run_15 ?_
      refine v_iload_n (pc := 16) X rfl 1 rfl dX6_run_16 ?_
      refine v_icmp_ge (pc := 17) (tgt := 30) X h dX6_run_17 (by decide) (fun h => ?_) (fun h => ?_)
      · refine v_aload_n (pc := 30) X rfl 0 rfl dX6_run_30 ?_
        refine v_iconst (pc := 31) X cst_i_4 dX6_run_31 ?_
        refine v_callVi (pc := 32) X (c_X6_setOf l g hI _ _ _ h) wd_451 wd_448 wd_449 wd_450 wd_5 ⟨rfl, rfl⟩ hdc_X6_setOf ⟨Nat.le_of_ble_eq_true rfl, Nat.le_of_ble_eq_true rfl⟩ ⟨Nat.le_refl 0, Nat.le_refl 0⟩ Nat.one_pos rfl rfl (As := [.int (nI 4)]) rfl rfl (Nat.le_of_ble_eq_true rfl) dX6_run_32 (fun x_2 m_1 h => ?_)
        exact v_iret (pc := 35) X hr hlk h dX6_run_35
      · refine v_aload_n (pc := 20) X rfl 0 rfl dX6_run_20 ?_
        refine v_callVv (pc := 21) X (c_X6_cycle l g hI _ _ h) wd_367 wd_364 wd_365 wd_366 wd_5 ⟨rfl, rfl⟩ hdc_X6_cycle ⟨Nat.le_of_ble_eq_true rfl, Nat.le_of_ble_eq_true rfl⟩ ⟨Nat.le_refl 0, Nat.le_refl 0⟩ Nat.one_pos rfl rfl (As := []) rfl rfl (Nat.le_of_ble_eq_true rfl) dX6_run_21 (fun m_3 h => ?_)
        refine v_iinc (pc := 24) (lv' := [(2, .int (b2 + 1)), (0, .ref (g.1 6 0)), (1, .int a1)]) (j := 2) X rfl (congrArg (HAdd.hAdd _) cst_i_1) (by decide) rfl dX6_run_24 ?_
        refine v_goto (pc := 27) (tgt := 15) X dX6_run_27 (by decide) ?_
        refine v_sub [1, 2, 0] rfl ?_
        exact ih _ _ h
  unfold wp_X6_run at h
  refine v_iload_n (pc := 0) X rfl 1 rfl dX6_run_0 ?_
  refine v_iconst (pc := 1) X cst_i_1 dX6_run_1 ?_
  refine v_bipush (pc := 2) X cst_b_50 dX6_run_2 ?_
  refine v_callSi (pc := 4) X (c_X6_in l g hI _ _ _ _ _ h) wd_134 wd_132 wd_133 wd_5 ⟨rfl, rfl⟩ hdc_X6_in ⟨Nat.le_of_ble_eq_true rfl, Nat.le_of_ble_eq_true rfl⟩ ⟨Nat.le_refl 0, Nat.le_refl 0⟩ (As := [.int a1, .int 1, .int (nI 50)]) rfl rfl (Nat.le_of_ble_eq_true rfl) dX6_run_4 (fun x_2 m_1 h => ?_)
  refine v_if_ne (pc := 7) (tgt := 13) X h dX6_run_7 (by decide) (fun h => ?_) (fun h => ?_)
  · refine v_iconst (pc := 13) X cst_i_0 dX6_run_13 ?_
    refine v_istore_n (pc := 14) (lv' := [(2, .int 0), (0, .ref (g.1 6 0)), (1, .int a1)]) X rfl (by decide) rfl dX6_run_14 ?_
    refine v_sub [1, 2, 0] rfl ?_
    obtain ⟨n, h⟩ := h
    exact L15 n _ _ h
  · refine v_bipush (pc := 10) X cst_b_m2 dX6_run_10 ?_
    exact v_iret (pc := 12) X hr hlk h dX6_run_12

def wp_X6_size_l4 (a0 : Int32) (q : Int32 → Mem → Prop) : Nat → Int32 → Int32 → Mem → Prop
  | 0 => fun _ _ _ => False
  | n + 1 => fun b1 b2 μ =>
(((nI 6) ≤ b2 →
q b1 μ) ∧ (¬ (nI 6) ≤ b2 →
∀ y_1 : Int32, y_1 = (b1 + ((a0 >>> (b2 &&& 31)) &&& 1)) →
wp_X6_size_l4 a0 q n y_1 (b2 + 1) μ))
def wp_X6_size (a0 : Int32) (μ : Mem) (q : Int32 → Mem → Prop) : Prop :=
∃ n : Nat, wp_X6_size_l4 a0 q n 0 0 μ
set_option maxRecDepth 100000 in
set_option maxHeartbeats 4000000 in
theorem c_X6_size (l : Launch) (g : GG) (hI : Inj g) (μ : Mem) (a0 : Int32) (q : Int32 → Mem → Prop) (h : wp_X6_size a0 μ q) : Met l yX6_size (Cond.code yX6_size cX6_size 3 (some .int) :: wsL_law) ({ frames := 0, cells := 0, slots := 0, locals := 0 }) (KP g [.int a0] μ) (KQi g q) 0 0 (AA g) := by
  refine met_V (own := RX6) hI (by decide) rfl (Nat.le_of_ble_eq_true rfl) rfl (fun p e s m args below meth c X hr hlk => ?_)
  have L4 : ∀ (n : Nat) (b1 : Int32) (b2 : Int32) (μ : Mem), wp_X6_size_l4 a0 q n b1 b2 μ → V p l e ({ frames := 0, cells := 0, slots := 0, locals := 0 }) s m args below meth c 3 g (AA g) 0 0 (MQ below (KQi g q) args s 0 0 (AA g)) μ 4 [(0, .int a0), (1, .int b1), (2, .int b2)] [] := by
    intro n
    induction n with
    | zero => intro b1 b2 μ h; exact h.elim
    | succ n ih =>
      intro b1 b2 μ h
      unfold wp_X6_size_l4 at h
      refine v_iload_n (pc := 4) X rfl 2 rfl dX6_size_4 ?_
      refine v_bipush (pc := 5) X cst_b_6 dX6_size_5 ?_
      refine v_icmp_ge (pc := 7) (tgt := 24) X h dX6_size_7 (by decide) (fun h => ?_) (fun h => ?_)
      · refine v_iload_n (pc := 24) X rfl 1 rfl dX6_size_24 ?_
        exact v_iret (pc := 25) X hr hlk h dX6_size_25
      · refine v_iload_n (pc := 10) X rfl 1 rfl dX6_size_10 ?_
        refine v_iload_n (pc := 11) X rfl 0 rfl dX6_size_11 ?_
        refine v_iload_n (pc := 12) X rfl 2 rfl dX6_size_12 ?_
        refine v_ishr (pc := 13) X dX6_size_13 ?_
        refine v_iconst (pc := 14) X cst_i_1 dX6_size_14 ?_
        refine v_iand (pc := 15) X dX6_size_15 ?_
        refine v_iadd (pc := 16) X dX6_size_16 ?_
        refine v_nm h (fun y_1 h => ?_)
        refine v_istore_n (pc := 17) (lv' := [(1, .int y_1), (0, .int a0), (2, .int b2)]) X rfl (by decide) rfl dX6_size_17 ?_
        refine v_iinc (pc := 18) (lv' := [(2, .int (b2 + 1)), (1, .int y_1), (0, .int a0)]) (j := 2) X rfl (congrArg (HAdd.hAdd _) cst_i_1) (by decide) rfl dX6_size_18 ?_
        refine v_goto (pc := 21) (tgt := 4) X dX6_size_21 (by decide) ?_
        refine v_sub [2, 1, 0] rfl ?_
        exact ih _ _ _ h
  unfold wp_X6_size at h
  refine v_iconst (pc := 0) X cst_i_0 dX6_size_0 ?_
  refine v_istore_n (pc := 1) (lv' := [(1, .int 0), (0, .int a0)]) X rfl (by decide) rfl dX6_size_1 ?_
  refine v_iconst (pc := 2) X cst_i_0 dX6_size_2 ?_
  refine v_istore_n (pc := 3) (lv' := [(2, .int 0), (1, .int 0), (0, .int a0)]) X rfl (by decide) rfl dX6_size_3 ?_
  refine v_sub [2, 1, 0] rfl ?_
  obtain ⟨n, h⟩ := h
  exact L4 n _ _ _ h

def wp_X6_told (a1 : Int32) (a2 : Int32) (μ : Mem) (q : Int32 → Mem → Prop) : Prop :=
wp_X6_isNode a1 μ (fun x_2 m_1 =>
((¬ x_2 = 0 →
wp_X6_in a2 0 (nI 4) m_1 (fun x_4 m_3 =>
((x_4 = 0 →
((a2 = nI 5 →
vp_in ((nI 60) + a1) 256 ∧ ∀ x_6 : Int32, x_6 = m_3 20 0 (((nI 60) + a1) : Int32).toNatClampNeg →
q (x_6 + (100000)) m_3) ∧ (¬ a2 = nI 5 →
((a2 = nI 6 →
vp_in ((nI 66) + a1) 256 ∧ ∀ x_8 : Int32, x_8 = m_3 20 0 (((nI 66) + a1) : Int32).toNatClampNeg →
q (x_8 + (nI 1000)) m_3) ∧ (¬ a2 = nI 6 →
((a2 = nI 7 →
vp_in ((nI 72) + a1) 256 ∧ ∀ x_10 : Int32, x_10 = m_3 20 0 (((nI 72) + a1) : Int32).toNatClampNeg →
q x_10 m_3) ∧ (¬ a2 = nI 7 →
((a2 = nI 8 →
vp_in ((nI 78) + a1) 256 ∧ ∀ x_12 : Int32, x_12 = m_3 20 0 (((nI 78) + a1) : Int32).toNatClampNeg →
q x_12 m_3) ∧ (¬ a2 = nI 8 →
((a2 = nI 9 →
vp_in ((nI 84) + a1) 256 ∧ ∀ x_14 : Int32, x_14 = m_3 20 0 (((nI 84) + a1) : Int32).toNatClampNeg →
wp_X6_size x_14 m_3 (fun x_16 m_15 =>
q x_16 m_15)) ∧ (¬ a2 = nI 9 →
q (-2) m_3))))))))))) ∧ (¬ x_4 = 0 →
vp_in (((nI 30) + ((nI 6) * a2)) + a1) 256 ∧ ∀ x_17 : Int32, x_17 = m_3 20 0 ((((nI 30) + ((nI 6) * a2)) + a1) : Int32).toNatClampNeg →
q x_17 m_3)))) ∧ (x_2 = 0 →
q (-1) m_1)))
set_option maxRecDepth 100000 in
set_option maxHeartbeats 4000000 in
theorem c_X6_told (l : Launch) (g : GG) (hI : Inj g) (μ : Mem) (a1 : Int32) (a2 : Int32) (q : Int32 → Mem → Prop) (h : wp_X6_told a1 a2 μ q) : Met l yX6_told (Cond.code yX6_told cX6_told 3 (some .int) :: wsL_law) ({ frames := 2, cells := 0, slots := 0, locals := 42 }) (KP g [.ref (g.1 6 0), .int a1, .int a2] μ) (KQi g q) 0 0 (AA g) := by
  refine met_V (own := RX6) hI (by decide) rfl (Nat.le_of_ble_eq_true rfl) rfl (fun p e s m args below meth c X hr hlk => ?_)
  unfold wp_X6_told at h
  refine v_iload_n (pc := 0) X rfl 1 rfl dX6_told_0 ?_
  refine v_callSi (pc := 1) X (c_X6_isNode l g hI _ _ _ h) wd_131 wd_129 wd_130 wd_5 ⟨rfl, rfl⟩ hdc_X6_isNode ⟨Nat.le_of_ble_eq_true rfl, Nat.le_of_ble_eq_true rfl⟩ ⟨Nat.le_refl 0, Nat.le_refl 0⟩ (As := [.int a1]) rfl rfl (Nat.le_of_ble_eq_true rfl) dX6_told_1 (fun x_2 m_1 h => ?_)
  refine v_if_ne (pc := 4) (tgt := 9) X h dX6_told_4 (by decide) (fun h => ?_) (fun h => ?_)
  · refine v_iload_n (pc := 9) X rfl 2 rfl dX6_told_9 ?_
    refine v_iconst (pc := 10) X cst_i_0 dX6_told_10 ?_
    refine v_iconst (pc := 11) X cst_i_4 dX6_told_11 ?_
    refine v_callSi (pc := 12) X (c_X6_in l g hI _ _ _ _ _ h) wd_134 wd_132 wd_133 wd_5 ⟨rfl, rfl⟩ hdc_X6_in ⟨Nat.le_of_ble_eq_true rfl, Nat.le_of_ble_eq_true rfl⟩ ⟨Nat.le_refl 0, Nat.le_refl 0⟩ (As := [.int a2, .int 0, .int (nI 4)]) rfl rfl (Nat.le_of_ble_eq_true rfl) dX6_told_12 (fun x_4 m_3 h => ?_)
    refine v_if_eq (pc := 15) (tgt := 33) X h dX6_told_15 (by decide) (fun h => ?_) (fun h => ?_)
    · refine v_iload_n (pc := 33) X rfl 2 rfl dX6_told_33 ?_
      by_cases e_5 : a2 = nI 5
      · replace h := h.1 e_5
        refine v_tswK (pc := 34) (tgt := 68) X 5 (by rw [e_5]; decide) (by decide) (by decide) rfl (by decide) dX6_told_34 ?_
        refine v_aload_n (pc := 68) X rfl 0 rfl dX6_told_68 ?_
        refine gf_6_0 (pc := 69) X Nat.one_pos wd_91 dX6_told_69 ?_
        refine v_bipush (pc := 72) X cst_b_60 dX6_told_72 ?_
        refine v_iload_n (pc := 74) X rfl 1 rfl dX6_told_74 ?_
        refine v_iadd (pc := 75) X dX6_told_75 ?_
        refine al_20 (pc := 76) X Nat.one_pos h dX6_told_76 (fun x_6 h => ?_)
        refine v_ldc (pc := 77) X wd_471 dX6_told_77 ?_
        refine v_iadd (pc := 79) X dX6_told_79 ?_
        exact v_iret (pc := 80) X hr hlk h dX6_told_80
      · replace h := h.2 e_5
        by_cases e_7 : a2 = nI 6
        · replace h := h.1 e_7
          refine v_tswK (pc := 34) (tgt := 81) X 6 (by rw [e_7]; decide) (by decide) (by decide) rfl (by decide) dX6_told_34 ?_
          refine v_aload_n (pc := 81) X rfl 0 rfl dX6_told_81 ?_
          refine gf_6_0 (pc := 82) X Nat.one_pos wd_91 dX6_told_82 ?_
          refine v_bipush (pc := 85) X cst_b_66 dX6_told_85 ?_
          refine v_iload_n (pc := 87) X rfl 1 rfl dX6_told_87 ?_
          refine v_iadd (pc := 88) X dX6_told_88 ?_
          refine al_20 (pc := 89) X Nat.one_pos h dX6_told_89 (fun x_8 h => ?_)
          refine v_sipush (pc := 90) X cst_s_1000 dX6_told_90 ?_
          refine v_iadd (pc := 93) X dX6_told_93 ?_
          exact v_iret (pc := 94) X hr hlk h dX6_told_94
        · replace h := h.2 e_7
          by_cases e_9 : a2 = nI 7
          · replace h := h.1 e_9
            refine v_tswK (pc := 34) (tgt := 95) X 7 (by rw [e_9]; decide) (by decide) (by decide) rfl (by decide) dX6_told_34 ?_
            refine v_aload_n (pc := 95) X rfl 0 rfl dX6_told_95 ?_
            refine gf_6_0 (pc := 96) X Nat.one_pos wd_91 dX6_told_96 ?_
            refine v_bipush (pc := 99) X cst_b_72 dX6_told_99 ?_
            refine v_iload_n (pc := 101) X rfl 1 rfl dX6_told_101 ?_
            refine v_iadd (pc := 102) X dX6_told_102 ?_
            refine al_20 (pc := 103) X Nat.one_pos h dX6_told_103 (fun x_10 h => ?_)
            exact v_iret (pc := 104) X hr hlk h dX6_told_104
          · replace h := h.2 e_9
            by_cases e_11 : a2 = nI 8
            · replace h := h.1 e_11
              refine v_tswK (pc := 34) (tgt := 105) X 8 (by rw [e_11]; decide) (by decide) (by decide) rfl (by decide) dX6_told_34 ?_
              refine v_aload_n (pc := 105) X rfl 0 rfl dX6_told_105 ?_
              refine gf_6_0 (pc := 106) X Nat.one_pos wd_91 dX6_told_106 ?_
              refine v_bipush (pc := 109) X cst_b_78 dX6_told_109 ?_
              refine v_iload_n (pc := 111) X rfl 1 rfl dX6_told_111 ?_
              refine v_iadd (pc := 112) X dX6_told_112 ?_
              refine al_20 (pc := 113) X Nat.one_pos h dX6_told_113 (fun x_12 h => ?_)
              exact v_iret (pc := 114) X hr hlk h dX6_told_114
            · replace h := h.2 e_11
              by_cases e_13 : a2 = nI 9
              · replace h := h.1 e_13
                refine v_tswK (pc := 34) (tgt := 115) X 9 (by rw [e_13]; decide) (by decide) (by decide) rfl (by decide) dX6_told_34 ?_
                refine v_aload_n (pc := 115) X rfl 0 rfl dX6_told_115 ?_
                refine gf_6_0 (pc := 116) X Nat.one_pos wd_91 dX6_told_116 ?_
                refine v_bipush (pc := 119) X cst_b_84 dX6_told_119 ?_
                refine v_iload_n (pc := 121) X rfl 1 rfl dX6_told_121 ?_
                refine v_iadd (pc := 122) X dX6_told_122 ?_
                refine al_20 (pc := 123) X Nat.one_pos h dX6_told_123 (fun x_14 h => ?_)
                refine v_callSi (pc := 124) X (c_X6_size l g hI _ _ _ h) wd_474 wd_472 wd_473 wd_5 ⟨rfl, rfl⟩ hdc_X6_size ⟨Nat.le_of_ble_eq_true rfl, Nat.le_of_ble_eq_true rfl⟩ ⟨Nat.le_refl 0, Nat.le_refl 0⟩ (As := [.int x_14]) rfl rfl (Nat.le_of_ble_eq_true rfl) dX6_told_124 (fun x_16 m_15 h => ?_)
                exact v_iret (pc := 127) X hr hlk h dX6_told_127
              · replace h := h.2 e_13
                refine v_tswD (pc := 34) (tgt := 128) X (by have ne_5 := lv_neT e_5 (a := 5) (by decide); have ne_7 := lv_neT e_7 (a := 6) (by decide); have ne_9 := lv_neT e_9 (a := 7) (by decide); have ne_11 := lv_neT e_11 (a := 8) (by decide); have ne_13 := lv_neT e_13 (a := 9) (by decide); omega) (by decide) dX6_told_34 ?_
                refine v_bipush (pc := 128) X cst_b_m2 dX6_told_128 ?_
                exact v_iret (pc := 130) X hr hlk h dX6_told_130
    · refine v_aload_n (pc := 18) X rfl 0 rfl dX6_told_18 ?_
      refine gf_6_0 (pc := 19) X Nat.one_pos wd_91 dX6_told_19 ?_
      refine v_bipush (pc := 22) X cst_b_30 dX6_told_22 ?_
      refine v_bipush (pc := 24) X cst_b_6 dX6_told_24 ?_
      refine v_iload_n (pc := 26) X rfl 2 rfl dX6_told_26 ?_
      refine v_imul (pc := 27) X dX6_told_27 ?_
      refine v_iadd (pc := 28) X dX6_told_28 ?_
      refine v_iload_n (pc := 29) X rfl 1 rfl dX6_told_29 ?_
      refine v_iadd (pc := 30) X dX6_told_30 ?_
      refine al_20 (pc := 31) X Nat.one_pos h dX6_told_31 (fun x_17 h => ?_)
      exact v_iret (pc := 32) X hr hlk h dX6_told_32
  · refine v_iconst (pc := 7) X cst_i_m1 dX6_told_7 ?_
    exact v_iret (pc := 8) X hr hlk h dX6_told_8

def wp_X6_seen (a1 : Int32) (a2 : Int32) (μ : Mem) (q : Int32 → Mem → Prop) : Prop :=
wp_X6_isNode a1 μ (fun x_2 m_1 =>
((x_2 = 0 →
q (-1) m_1) ∧ (¬ x_2 = 0 →
wp_X6_isNode a2 m_1 (fun x_4 m_3 =>
((¬ x_4 = 0 →
((¬ a1 = a2 →
vp_in ((nI 84) + a1) 256 ∧ ∀ x_5 : Int32, x_5 = m_3 20 0 (((nI 84) + a1) : Int32).toNatClampNeg →
((¬ ((x_5 >>> (a2 &&& 31)) &&& 1) = 1 →
q (-6) m_3) ∧ (((x_5 >>> (a2 &&& 31)) &&& 1) = 1 →
vp_in (((nI 96) + ((nI 6) * a1)) + a2) 256 ∧ ∀ x_6 : Int32, x_6 = m_3 20 0 ((((nI 96) + ((nI 6) * a1)) + a2) : Int32).toNatClampNeg →
q (x_6 + (100000)) m_3))) ∧ (a1 = a2 →
q (-2) m_3))) ∧ (x_4 = 0 →
q (-1) m_3))))))
set_option maxRecDepth 100000 in
set_option maxHeartbeats 4000000 in
theorem c_X6_seen (l : Launch) (g : GG) (hI : Inj g) (μ : Mem) (a1 : Int32) (a2 : Int32) (q : Int32 → Mem → Prop) (h : wp_X6_seen a1 a2 μ q) : Met l yX6_seen (Cond.code yX6_seen cX6_seen 3 (some .int) :: wsL_law) ({ frames := 2, cells := 0, slots := 0, locals := 42 }) (KP g [.ref (g.1 6 0), .int a1, .int a2] μ) (KQi g q) 0 0 (AA g) := by
  refine met_V (own := RX6) hI (by decide) rfl (Nat.le_of_ble_eq_true rfl) rfl (fun p e s m args below meth c X hr hlk => ?_)
  unfold wp_X6_seen at h
  refine v_iload_n (pc := 0) X rfl 1 rfl dX6_seen_0 ?_
  refine v_callSi (pc := 1) X (c_X6_isNode l g hI _ _ _ h) wd_131 wd_129 wd_130 wd_5 ⟨rfl, rfl⟩ hdc_X6_isNode ⟨Nat.le_of_ble_eq_true rfl, Nat.le_of_ble_eq_true rfl⟩ ⟨Nat.le_refl 0, Nat.le_refl 0⟩ (As := [.int a1]) rfl rfl (Nat.le_of_ble_eq_true rfl) dX6_seen_1 (fun x_2 m_1 h => ?_)
  refine v_if_eq (pc := 4) (tgt := 14) X h dX6_seen_4 (by decide) (fun h => ?_) (fun h => ?_)
  · refine v_iconst (pc := 14) X cst_i_m1 dX6_seen_14 ?_
    exact v_iret (pc := 15) X hr hlk h dX6_seen_15
  · refine v_iload_n (pc := 7) X rfl 2 rfl dX6_seen_7 ?_
    refine v_callSi (pc := 8) X (c_X6_isNode l g hI _ _ _ h) wd_131 wd_129 wd_130 wd_5 ⟨rfl, rfl⟩ hdc_X6_isNode ⟨Nat.le_of_ble_eq_true rfl, Nat.le_of_ble_eq_true rfl⟩ ⟨Nat.le_refl 0, Nat.le_refl 0⟩ (As := [.int a2]) rfl rfl (Nat.le_of_ble_eq_true rfl) dX6_seen_8 (fun x_4 m_3 h => ?_)
    refine v_if_ne (pc := 11) (tgt := 16) X h dX6_seen_11 (by decide) (fun h => ?_) (fun h => ?_)
    · refine v_iload_n (pc := 16) X rfl 1 rfl dX6_seen_16 ?_
      refine v_iload_n (pc := 17) X rfl 2 rfl dX6_seen_17 ?_
      refine v_icmp_ne (pc := 18) (tgt := 24) X h dX6_seen_18 (by decide) (fun h => ?_) (fun h => ?_)
      · refine v_aload_n (pc := 24) X rfl 0 rfl dX6_seen_24 ?_
        refine gf_6_0 (pc := 25) X Nat.one_pos wd_91 dX6_seen_25 ?_
        refine v_bipush (pc := 28) X cst_b_84 dX6_seen_28 ?_
        refine v_iload_n (pc := 30) X rfl 1 rfl dX6_seen_30 ?_
        refine v_iadd (pc := 31) X dX6_seen_31 ?_
        refine al_20 (pc := 32) X Nat.one_pos h dX6_seen_32 (fun x_5 h => ?_)
        refine v_iload_n (pc := 33) X rfl 2 rfl dX6_seen_33 ?_
        refine v_ishr (pc := 34) X dX6_seen_34 ?_
        refine v_iconst (pc := 35) X cst_i_1 dX6_seen_35 ?_
        refine v_iand (pc := 36) X dX6_seen_36 ?_
        refine v_iconst (pc := 37) X cst_i_1 dX6_seen_37 ?_
        refine v_icmp_ne (pc := 38) (tgt := 61) X h dX6_seen_38 (by decide) (fun h => ?_) (fun h => ?_)
        · refine v_bipush (pc := 61) X cst_b_m6 dX6_seen_61 ?_
          exact v_iret (pc := 63) X hr hlk h dX6_seen_63
        · refine v_aload_n (pc := 41) X rfl 0 rfl dX6_seen_41 ?_
          refine gf_6_0 (pc := 42) X Nat.one_pos wd_91 dX6_seen_42 ?_
          refine v_bipush (pc := 45) X cst_b_96 dX6_seen_45 ?_
          refine v_bipush (pc := 47) X cst_b_6 dX6_seen_47 ?_
          refine v_iload_n (pc := 49) X rfl 1 rfl dX6_seen_49 ?_
          refine v_imul (pc := 50) X dX6_seen_50 ?_
          refine v_iadd (pc := 51) X dX6_seen_51 ?_
          refine v_iload_n (pc := 52) X rfl 2 rfl dX6_seen_52 ?_
          refine v_iadd (pc := 53) X dX6_seen_53 ?_
          refine al_20 (pc := 54) X Nat.one_pos h dX6_seen_54 (fun x_6 h => ?_)
          refine v_ldc (pc := 55) X wd_471 dX6_seen_55 ?_
          refine v_iadd (pc := 57) X dX6_seen_57 ?_
          refine v_goto (pc := 58) (tgt := 63) X dX6_seen_58 (by decide) ?_
          exact v_iret (pc := 63) X hr hlk h dX6_seen_63
      · refine v_bipush (pc := 21) X cst_b_m2 dX6_seen_21 ?_
        exact v_iret (pc := 23) X hr hlk h dX6_seen_23
    · refine v_iconst (pc := 14) X cst_i_m1 dX6_seen_14 ?_
      exact v_iret (pc := 15) X hr hlk h dX6_seen_15

def wp_X6_isWithin (a0 : Int32) (μ : Mem) (q : Int32 → Mem → Prop) : Prop :=
wp_X6_in a0 (-5000) (nI 5000) μ (fun x_2 m_1 =>
nz x_2 ∧ q x_2 m_1)
set_option maxRecDepth 100000 in
set_option maxHeartbeats 4000000 in
theorem c_X6_isWithin (l : Launch) (g : GG) (hI : Inj g) (μ : Mem) (a0 : Int32) (q : Int32 → Mem → Prop) (h : wp_X6_isWithin a0 μ q) : Met l yX6_isWithin (Cond.code yX6_isWithin cX6_isWithin 1 (some .boolean) :: wsL_law) ({ frames := 1, cells := 0, slots := 0, locals := 22 }) (KP g [.int a0] μ) (KQi g q) 0 0 (AA g) := by
  refine met_V (own := RX6) hI (by decide) rfl (Nat.le_of_ble_eq_true rfl) rfl (fun p e s m args below meth c X hr hlk => ?_)
  unfold wp_X6_isWithin at h
  refine v_iload_n (pc := 0) X rfl 0 rfl dX6_isWithin_0 ?_
  refine v_sipush (pc := 1) X cst_s_m5000 dX6_isWithin_1 ?_
  refine v_sipush (pc := 4) X cst_s_5000 dX6_isWithin_4 ?_
  refine v_callSi (pc := 7) X (c_X6_in l g hI _ _ _ _ _ h) wd_134 wd_132 wd_133 wd_5 ⟨rfl, rfl⟩ hdc_X6_in ⟨Nat.le_of_ble_eq_true rfl, Nat.le_of_ble_eq_true rfl⟩ ⟨Nat.le_refl 0, Nat.le_refl 0⟩ (As := [.int a0, .int (-5000), .int (nI 5000)]) rfl rfl (Nat.le_of_ble_eq_true rfl) dX6_isWithin_7 (fun x_2 m_1 h => ?_)
  exact v_zret (pc := 10) X hr hlk h dX6_isWithin_10

def wp_X6_trim_b99 (a1 : Int32) (a2 : Int32) (a3 : Int32) (a4 : Int32) (a5 : Int32) (q : Int32 → Mem → Prop)  (μ : Mem) : Prop :=
wp_X6_trimmed  μ (fun x_2 m_1 =>
q (x_2 + (100000)) m_1)
def wp_X6_trim_b88 (a1 : Int32) (a2 : Int32) (a3 : Int32) (a4 : Int32) (a5 : Int32) (q : Int32 → Mem → Prop)  (μ : Mem) : Prop :=
((a1 ≤ (nI 3) →
wp_X6_trim_b99 a1 a2 a3 a4 a5 q  μ) ∧ (¬ a1 ≤ (nI 3) →
wp_X6_lay a5 μ (fun m_1 =>
wp_X6_trim_b99 a1 a2 a3 a4 a5 q  m_1)))
def wp_X6_trim_b77 (a1 : Int32) (a2 : Int32) (a3 : Int32) (a4 : Int32) (a5 : Int32) (q : Int32 → Mem → Prop)  (μ : Mem) : Prop :=
((a1 ≤ (nI 2) →
wp_X6_trim_b88 a1 a2 a3 a4 a5 q  μ) ∧ (¬ a1 ≤ (nI 2) →
wp_X6_lay a4 μ (fun m_1 =>
wp_X6_trim_b88 a1 a2 a3 a4 a5 q  m_1)))
def wp_X6_trim_b57 (a1 : Int32) (a2 : Int32) (a3 : Int32) (a4 : Int32) (a5 : Int32) (q : Int32 → Mem → Prop)  (μ : Mem) : Prop :=
∀ m_1 : Mem, m_1 = ms μ 6 0 4 0 →
wp_X6_lay a2 m_1 (fun m_2 =>
((a1 ≤ 1 →
wp_X6_trim_b77 a1 a2 a3 a4 a5 q  m_2) ∧ (¬ a1 ≤ 1 →
wp_X6_lay a3 m_2 (fun m_3 =>
wp_X6_trim_b77 a1 a2 a3 a4 a5 q  m_3))))
def wp_X6_trim_b41 (a1 : Int32) (a2 : Int32) (a3 : Int32) (a4 : Int32) (a5 : Int32) (q : Int32 → Mem → Prop)  (μ : Mem) : Prop :=
((a1 ≤ (nI 3) →
wp_X6_trim_b57 a1 a2 a3 a4 a5 q  μ) ∧ (¬ a1 ≤ (nI 3) →
wp_X6_isWithin a5 μ (fun x_2 m_1 =>
((¬ x_2 = 0 →
wp_X6_trim_b57 a1 a2 a3 a4 a5 q  m_1) ∧ (x_2 = 0 →
q (-2) m_1)))))
def wp_X6_trim_b28 (a1 : Int32) (a2 : Int32) (a3 : Int32) (a4 : Int32) (a5 : Int32) (q : Int32 → Mem → Prop)  (μ : Mem) : Prop :=
((a1 ≤ (nI 2) →
wp_X6_trim_b41 a1 a2 a3 a4 a5 q  μ) ∧ (¬ a1 ≤ (nI 2) →
wp_X6_isWithin a4 μ (fun x_2 m_1 =>
((x_2 = 0 →
q (-2) m_1) ∧ (¬ x_2 = 0 →
wp_X6_trim_b41 a1 a2 a3 a4 a5 q  m_1)))))
def wp_X6_trim (a1 : Int32) (a2 : Int32) (a3 : Int32) (a4 : Int32) (a5 : Int32) (μ : Mem) (q : Int32 → Mem → Prop) : Prop :=
wp_X6_in a1 1 (nI 4) μ (fun x_2 m_1 =>
((x_2 = 0 →
q (-2) m_1) ∧ (¬ x_2 = 0 →
wp_X6_isWithin a2 m_1 (fun x_4 m_3 =>
((x_4 = 0 →
q (-2) m_3) ∧ (¬ x_4 = 0 →
((a1 ≤ 1 →
wp_X6_trim_b28 a1 a2 a3 a4 a5 q  m_3) ∧ (¬ a1 ≤ 1 →
wp_X6_isWithin a3 m_3 (fun x_6 m_5 =>
((x_6 = 0 →
q (-2) m_5) ∧ (¬ x_6 = 0 →
wp_X6_trim_b28 a1 a2 a3 a4 a5 q  m_5)))))))))))
set_option maxRecDepth 100000 in
set_option maxHeartbeats 4000000 in
theorem c_X6_trim (l : Launch) (g : GG) (hI : Inj g) (μ : Mem) (a1 : Int32) (a2 : Int32) (a3 : Int32) (a4 : Int32) (a5 : Int32) (q : Int32 → Mem → Prop) (h : wp_X6_trim a1 a2 a3 a4 a5 μ q) : Met l yX6_trim (Cond.code yX6_trim cX6_trim 6 (some .int) :: wsL_law) ({ frames := 2, cells := 0, slots := 0, locals := 42 }) (KP g [.ref (g.1 6 0), .int a1, .int a2, .int a3, .int a4, .int a5] μ) (KQi g q) 0 0 (AA g) := by
  refine met_V (own := RX6) hI (by decide) rfl (Nat.le_of_ble_eq_true rfl) rfl (fun p e s m args below meth c X hr hlk => ?_)
  have B99 : ∀  (μ : Mem), wp_X6_trim_b99 a1 a2 a3 a4 a5 q  μ → V p l e ({ frames := 2, cells := 0, slots := 0, locals := 42 }) s m args below meth c 6 g (AA g) 0 0 (MQ below (KQi g q) args s 0 0 (AA g)) μ 99 [(0, .ref (g.1 6 0))] [] := by
    intro  μ h
    unfold wp_X6_trim_b99 at h
    refine v_aload_n (pc := 99) X rfl 0 rfl dX6_trim_99 ?_
    refine v_callVi (pc := 100) X (c_X6_trimmed l g hI _ _ h) wd_436 wd_433 wd_434 wd_435 wd_5 ⟨rfl, rfl⟩ hdc_X6_trimmed ⟨Nat.le_of_ble_eq_true rfl, Nat.le_of_ble_eq_true rfl⟩ ⟨Nat.le_refl 0, Nat.le_refl 0⟩ Nat.one_pos rfl rfl (As := []) rfl rfl (Nat.le_of_ble_eq_true rfl) dX6_trim_100 (fun x_2 m_1 h => ?_)
    refine v_ldc (pc := 103) X wd_471 dX6_trim_103 ?_
    refine v_iadd (pc := 105) X dX6_trim_105 ?_
    exact v_iret (pc := 106) X hr hlk h dX6_trim_106
  have B88 : ∀  (μ : Mem), wp_X6_trim_b88 a1 a2 a3 a4 a5 q  μ → V p l e ({ frames := 2, cells := 0, slots := 0, locals := 42 }) s m args below meth c 6 g (AA g) 0 0 (MQ below (KQi g q) args s 0 0 (AA g)) μ 88 [(0, .ref (g.1 6 0)), (1, .int a1), (5, .int a5)] [] := by
    intro  μ h
    unfold wp_X6_trim_b88 at h
    refine v_iload_n (pc := 88) X rfl 1 rfl dX6_trim_88 ?_
    refine v_iconst (pc := 89) X cst_i_3 dX6_trim_89 ?_
    refine v_icmp_le (pc := 90) (tgt := 99) X h dX6_trim_90 (by decide) (fun h => ?_) (fun h => ?_)
    · refine v_sub [0] rfl ?_
      exact B99  _ h
    · refine v_aload_n (pc := 93) X rfl 0 rfl dX6_trim_93 ?_
      refine v_iload (pc := 94) X 2 rfl dX6_trim_94 ?_
      refine v_callVv (pc := 96) X (c_X6_lay l g hI _ _ _ h) wd_432 wd_429 wd_430 wd_431 wd_5 ⟨rfl, rfl⟩ hdc_X6_lay ⟨Nat.le_of_ble_eq_true rfl, Nat.le_of_ble_eq_true rfl⟩ ⟨Nat.le_refl 0, Nat.le_refl 0⟩ Nat.one_pos rfl rfl (As := [.int a5]) rfl rfl (Nat.le_of_ble_eq_true rfl) dX6_trim_96 (fun m_1 h => ?_)
      refine v_sub [0] rfl ?_
      exact B99  _ h
  have B77 : ∀  (μ : Mem), wp_X6_trim_b77 a1 a2 a3 a4 a5 q  μ → V p l e ({ frames := 2, cells := 0, slots := 0, locals := 42 }) s m args below meth c 6 g (AA g) 0 0 (MQ below (KQi g q) args s 0 0 (AA g)) μ 77 [(0, .ref (g.1 6 0)), (1, .int a1), (4, .int a4), (5, .int a5)] [] := by
    intro  μ h
    unfold wp_X6_trim_b77 at h
    refine v_iload_n (pc := 77) X rfl 1 rfl dX6_trim_77 ?_
    refine v_iconst (pc := 78) X cst_i_2 dX6_trim_78 ?_
    refine v_icmp_le (pc := 79) (tgt := 88) X h dX6_trim_79 (by decide) (fun h => ?_) (fun h => ?_)
    · refine v_sub [0, 1, 3] rfl ?_
      exact B88  _ h
    · refine v_aload_n (pc := 82) X rfl 0 rfl dX6_trim_82 ?_
      refine v_iload (pc := 83) X 2 rfl dX6_trim_83 ?_
      refine v_callVv (pc := 85) X (c_X6_lay l g hI _ _ _ h) wd_432 wd_429 wd_430 wd_431 wd_5 ⟨rfl, rfl⟩ hdc_X6_lay ⟨Nat.le_of_ble_eq_true rfl, Nat.le_of_ble_eq_true rfl⟩ ⟨Nat.le_refl 0, Nat.le_refl 0⟩ Nat.one_pos rfl rfl (As := [.int a4]) rfl rfl (Nat.le_of_ble_eq_true rfl) dX6_trim_85 (fun m_1 h => ?_)
      refine v_sub [0, 1, 3] rfl ?_
      exact B88  _ h
  have B57 : ∀  (μ : Mem), wp_X6_trim_b57 a1 a2 a3 a4 a5 q  μ → V p l e ({ frames := 2, cells := 0, slots := 0, locals := 42 }) s m args below meth c 6 g (AA g) 0 0 (MQ below (KQi g q) args s 0 0 (AA g)) μ 57 [(0, .ref (g.1 6 0)), (1, .int a1), (2, .int a2), (3, .int a3), (4, .int a4), (5, .int a5)] [] := by
    intro  μ h
    unfold wp_X6_trim_b57 at h
    refine v_aload_n (pc := 57) X rfl 0 rfl dX6_trim_57 ?_
    refine v_iconst (pc := 58) X cst_i_0 dX6_trim_58 ?_
    refine pf_6_4 (pc := 59) X Nat.one_pos wd_428 h dX6_trim_59 (fun m_1 h => ?_)
    refine v_aload_n (pc := 62) X rfl 0 rfl dX6_trim_62 ?_
    refine v_iload_n (pc := 63) X rfl 2 rfl dX6_trim_63 ?_
    refine v_callVv (pc := 64) X (c_X6_lay l g hI _ _ _ h) wd_432 wd_429 wd_430 wd_431 wd_5 ⟨rfl, rfl⟩ hdc_X6_lay ⟨Nat.le_of_ble_eq_true rfl, Nat.le_of_ble_eq_true rfl⟩ ⟨Nat.le_refl 0, Nat.le_refl 0⟩ Nat.one_pos rfl rfl (As := [.int a2]) rfl rfl (Nat.le_of_ble_eq_true rfl) dX6_trim_64 (fun m_2 h => ?_)
    refine v_iload_n (pc := 67) X rfl 1 rfl dX6_trim_67 ?_
    refine v_iconst (pc := 68) X cst_i_1 dX6_trim_68 ?_
    refine v_icmp_le (pc := 69) (tgt := 77) X h dX6_trim_69 (by decide) (fun h => ?_) (fun h => ?_)
    · refine v_sub [0, 1, 4, 5] rfl ?_
      exact B77  _ h
    · refine v_aload_n (pc := 72) X rfl 0 rfl dX6_trim_72 ?_
      refine v_iload_n (pc := 73) X rfl 3 rfl dX6_trim_73 ?_
      refine v_callVv (pc := 74) X (c_X6_lay l g hI _ _ _ h) wd_432 wd_429 wd_430 wd_431 wd_5 ⟨rfl, rfl⟩ hdc_X6_lay ⟨Nat.le_of_ble_eq_true rfl, Nat.le_of_ble_eq_true rfl⟩ ⟨Nat.le_refl 0, Nat.le_refl 0⟩ Nat.one_pos rfl rfl (As := [.int a3]) rfl rfl (Nat.le_of_ble_eq_true rfl) dX6_trim_74 (fun m_3 h => ?_)
      refine v_sub [0, 1, 4, 5] rfl ?_
      exact B77  _ h
  have B41 : ∀  (μ : Mem), wp_X6_trim_b41 a1 a2 a3 a4 a5 q  μ → V p l e ({ frames := 2, cells := 0, slots := 0, locals := 42 }) s m args below meth c 6 g (AA g) 0 0 (MQ below (KQi g q) args s 0 0 (AA g)) μ 41 [(0, .ref (g.1 6 0)), (1, .int a1), (2, .int a2), (3, .int a3), (4, .int a4), (5, .int a5)] [] := by
    intro  μ h
    unfold wp_X6_trim_b41 at h
    refine v_iload_n (pc := 41) X rfl 1 rfl dX6_trim_41 ?_
    refine v_iconst (pc := 42) X cst_i_3 dX6_trim_42 ?_
    refine v_icmp_le (pc := 43) (tgt := 57) X h dX6_trim_43 (by decide) (fun h => ?_) (fun h => ?_)
    · exact B57  _ h
    · refine v_iload (pc := 46) X 5 rfl dX6_trim_46 ?_
      refine v_callSi (pc := 48) X (c_X6_isWithin l g hI _ _ _ h) wd_502 wd_500 wd_501 wd_5 ⟨rfl, rfl⟩ hdc_X6_isWithin ⟨Nat.le_of_ble_eq_true rfl, Nat.le_of_ble_eq_true rfl⟩ ⟨Nat.le_refl 0, Nat.le_refl 0⟩ (As := [.int a5]) rfl rfl (Nat.le_of_ble_eq_true rfl) dX6_trim_48 (fun x_2 m_1 h => ?_)
      refine v_if_ne (pc := 51) (tgt := 57) X h dX6_trim_51 (by decide) (fun h => ?_) (fun h => ?_)
      · exact B57  _ h
      · refine v_bipush (pc := 54) X cst_b_m2 dX6_trim_54 ?_
        exact v_iret (pc := 56) X hr hlk h dX6_trim_56
  have B28 : ∀  (μ : Mem), wp_X6_trim_b28 a1 a2 a3 a4 a5 q  μ → V p l e ({ frames := 2, cells := 0, slots := 0, locals := 42 }) s m args below meth c 6 g (AA g) 0 0 (MQ below (KQi g q) args s 0 0 (AA g)) μ 28 [(0, .ref (g.1 6 0)), (1, .int a1), (2, .int a2), (3, .int a3), (4, .int a4), (5, .int a5)] [] := by
    intro  μ h
    unfold wp_X6_trim_b28 at h
    refine v_iload_n (pc := 28) X rfl 1 rfl dX6_trim_28 ?_
    refine v_iconst (pc := 29) X cst_i_2 dX6_trim_29 ?_
    refine v_icmp_le (pc := 30) (tgt := 41) X h dX6_trim_30 (by decide) (fun h => ?_) (fun h => ?_)
    · exact B41  _ h
    · refine v_iload (pc := 33) X 4 rfl dX6_trim_33 ?_
      refine v_callSi (pc := 35) X (c_X6_isWithin l g hI _ _ _ h) wd_502 wd_500 wd_501 wd_5 ⟨rfl, rfl⟩ hdc_X6_isWithin ⟨Nat.le_of_ble_eq_true rfl, Nat.le_of_ble_eq_true rfl⟩ ⟨Nat.le_refl 0, Nat.le_refl 0⟩ (As := [.int a4]) rfl rfl (Nat.le_of_ble_eq_true rfl) dX6_trim_35 (fun x_2 m_1 h => ?_)
      refine v_if_eq (pc := 38) (tgt := 54) X h dX6_trim_38 (by decide) (fun h => ?_) (fun h => ?_)
      · refine v_bipush (pc := 54) X cst_b_m2 dX6_trim_54 ?_
        exact v_iret (pc := 56) X hr hlk h dX6_trim_56
      · exact B41  _ h
  unfold wp_X6_trim at h
  refine v_iload_n (pc := 0) X rfl 1 rfl dX6_trim_0 ?_
  refine v_iconst (pc := 1) X cst_i_1 dX6_trim_1 ?_
  refine v_iconst (pc := 2) X cst_i_4 dX6_trim_2 ?_
  refine v_callSi (pc := 3) X (c_X6_in l g hI _ _ _ _ _ h) wd_134 wd_132 wd_133 wd_5 ⟨rfl, rfl⟩ hdc_X6_in ⟨Nat.le_of_ble_eq_true rfl, Nat.le_of_ble_eq_true rfl⟩ ⟨Nat.le_refl 0, Nat.le_refl 0⟩ (As := [.int a1, .int 1, .int (nI 4)]) rfl rfl (Nat.le_of_ble_eq_true rfl) dX6_trim_3 (fun x_2 m_1 h => ?_)
  refine v_if_eq (pc := 6) (tgt := 54) X h dX6_trim_6 (by decide) (fun h => ?_) (fun h => ?_)
  · refine v_bipush (pc := 54) X cst_b_m2 dX6_trim_54 ?_
    exact v_iret (pc := 56) X hr hlk h dX6_trim_56
  · refine v_iload_n (pc := 9) X rfl 2 rfl dX6_trim_9 ?_
    refine v_callSi (pc := 10) X (c_X6_isWithin l g hI _ _ _ h) wd_502 wd_500 wd_501 wd_5 ⟨rfl, rfl⟩ hdc_X6_isWithin ⟨Nat.le_of_ble_eq_true rfl, Nat.le_of_ble_eq_true rfl⟩ ⟨Nat.le_refl 0, Nat.le_refl 0⟩ (As := [.int a2]) rfl rfl (Nat.le_of_ble_eq_true rfl) dX6_trim_10 (fun x_4 m_3 h => ?_)
    refine v_if_eq (pc := 13) (tgt := 54) X h dX6_trim_13 (by decide) (fun h => ?_) (fun h => ?_)
    · refine v_bipush (pc := 54) X cst_b_m2 dX6_trim_54 ?_
      exact v_iret (pc := 56) X hr hlk h dX6_trim_56
    · refine v_iload_n (pc := 16) X rfl 1 rfl dX6_trim_16 ?_
      refine v_iconst (pc := 17) X cst_i_1 dX6_trim_17 ?_
      refine v_icmp_le (pc := 18) (tgt := 28) X h dX6_trim_18 (by decide) (fun h => ?_) (fun h => ?_)
      · exact B28  _ h
      · refine v_iload_n (pc := 21) X rfl 3 rfl dX6_trim_21 ?_
        refine v_callSi (pc := 22) X (c_X6_isWithin l g hI _ _ _ h) wd_502 wd_500 wd_501 wd_5 ⟨rfl, rfl⟩ hdc_X6_isWithin ⟨Nat.le_of_ble_eq_true rfl, Nat.le_of_ble_eq_true rfl⟩ ⟨Nat.le_refl 0, Nat.le_refl 0⟩ (As := [.int a3]) rfl rfl (Nat.le_of_ble_eq_true rfl) dX6_trim_22 (fun x_6 m_5 h => ?_)
        refine v_if_eq (pc := 25) (tgt := 54) X h dX6_trim_25 (by decide) (fun h => ?_) (fun h => ?_)
        · refine v_bipush (pc := 54) X cst_b_m2 dX6_trim_54 ?_
          exact v_iret (pc := 56) X hr hlk h dX6_trim_56
        · exact B28  _ h

def wp_X6_event (a1 : Int32) (a2 : Int32) (μ : Mem) (q : Int32 → Mem → Prop) : Prop :=
wp_X6_in a2 0 (nI 2) μ (fun x_2 m_1 =>
((¬ x_2 = 0 →
((¬ a1 = (-1) →
vp_in (nI 135) 256 ∧ ∀ x_3 : Int32, x_3 = m_1 20 0 ((nI 135) : Int32).toNatClampNeg →
wp_X6_in a1 0 (x_3 - 1) m_1 (fun x_5 m_4 =>
((x_5 = 0 →
q (-6) m_4) ∧ (¬ x_5 = 0 →
vp_in (((nI 136) + ((nI 3) * a1)) + a2) 256 ∧ ∀ x_6 : Int32, x_6 = m_4 20 0 ((((nI 136) + ((nI 3) * a1)) + a2) : Int32).toNatClampNeg →
q x_6 m_4)))) ∧ (a1 = (-1) →
vp_in (nI 135) 256 ∧ ∀ x_7 : Int32, x_7 = m_1 20 0 ((nI 135) : Int32).toNatClampNeg →
q x_7 m_1))) ∧ (x_2 = 0 →
q (-2) m_1)))
set_option maxRecDepth 100000 in
set_option maxHeartbeats 4000000 in
theorem c_X6_event (l : Launch) (g : GG) (hI : Inj g) (μ : Mem) (a1 : Int32) (a2 : Int32) (q : Int32 → Mem → Prop) (h : wp_X6_event a1 a2 μ q) : Met l yX6_event (Cond.code yX6_event cX6_event 3 (some .int) :: wsL_law) ({ frames := 1, cells := 0, slots := 0, locals := 22 }) (KP g [.ref (g.1 6 0), .int a1, .int a2] μ) (KQi g q) 0 0 (AA g) := by
  refine met_V (own := RX6) hI (by decide) rfl (Nat.le_of_ble_eq_true rfl) rfl (fun p e s m args below meth c X hr hlk => ?_)
  unfold wp_X6_event at h
  refine v_iload_n (pc := 0) X rfl 2 rfl dX6_event_0 ?_
  refine v_iconst (pc := 1) X cst_i_0 dX6_event_1 ?_
  refine v_iconst (pc := 2) X cst_i_2 dX6_event_2 ?_
  refine v_callSi (pc := 3) X (c_X6_in l g hI _ _ _ _ _ h) wd_134 wd_132 wd_133 wd_5 ⟨rfl, rfl⟩ hdc_X6_in ⟨Nat.le_of_ble_eq_true rfl, Nat.le_of_ble_eq_true rfl⟩ ⟨Nat.le_refl 0, Nat.le_refl 0⟩ (As := [.int a2, .int 0, .int (nI 2)]) rfl rfl (Nat.le_of_ble_eq_true rfl) dX6_event_3 (fun x_2 m_1 h => ?_)
  refine v_if_ne (pc := 6) (tgt := 12) X h dX6_event_6 (by decide) (fun h => ?_) (fun h => ?_)
  · refine v_iload_n (pc := 12) X rfl 1 rfl dX6_event_12 ?_
    refine v_iconst (pc := 13) X cst_i_m1 dX6_event_13 ?_
    refine v_icmp_ne (pc := 14) (tgt := 28) X h dX6_event_14 (by decide) (fun h => ?_) (fun h => ?_)
    · refine v_iload_n (pc := 28) X rfl 1 rfl dX6_event_28 ?_
      refine v_iconst (pc := 29) X cst_i_0 dX6_event_29 ?_
      refine v_aload_n (pc := 30) X rfl 0 rfl dX6_event_30 ?_
      refine gf_6_0 (pc := 31) X Nat.one_pos wd_91 dX6_event_31 ?_
      refine v_sipush (pc := 34) X cst_s_135 dX6_event_34 ?_
      refine al_20 (pc := 37) X Nat.one_pos h dX6_event_37 (fun x_3 h => ?_)
      refine v_iconst (pc := 38) X cst_i_1 dX6_event_38 ?_
      refine v_isub (pc := 39) X dX6_event_39 ?_
      refine v_callSi (pc := 40) X (c_X6_in l g hI _ _ _ _ _ h) wd_134 wd_132 wd_133 wd_5 ⟨rfl, rfl⟩ hdc_X6_in ⟨Nat.le_of_ble_eq_true rfl, Nat.le_of_ble_eq_true rfl⟩ ⟨Nat.le_refl 0, Nat.le_refl 0⟩ (As := [.int a1, .int 0, .int (x_3 - 1)]) rfl rfl (Nat.le_of_ble_eq_true rfl) dX6_event_40 (fun x_5 m_4 h => ?_)
      refine v_if_eq (pc := 43) (tgt := 63) X h dX6_event_43 (by decide) (fun h => ?_) (fun h => ?_)
      · refine v_bipush (pc := 63) X cst_b_m6 dX6_event_63 ?_
        exact v_iret (pc := 65) X hr hlk h dX6_event_65
      · refine v_aload_n (pc := 46) X rfl 0 rfl dX6_event_46 ?_
        refine gf_6_0 (pc := 47) X Nat.one_pos wd_91 dX6_event_47 ?_
        refine v_sipush (pc := 50) X cst_s_136 dX6_event_50 ?_
        refine v_iconst (pc := 53) X cst_i_3 dX6_event_53 ?_
        refine v_iload_n (pc := 54) X rfl 1 rfl dX6_event_54 ?_
        refine v_imul (pc := 55) X dX6_event_55 ?_
        refine v_iadd (pc := 56) X dX6_event_56 ?_
        refine v_iload_n (pc := 57) X rfl 2 rfl dX6_event_57 ?_
        refine v_iadd (pc := 58) X dX6_event_58 ?_
        refine al_20 (pc := 59) X Nat.one_pos h dX6_event_59 (fun x_6 h => ?_)
        refine v_goto (pc := 60) (tgt := 65) X dX6_event_60 (by decide) ?_
        exact v_iret (pc := 65) X hr hlk h dX6_event_65
    · refine v_aload_n (pc := 17) X rfl 0 rfl dX6_event_17 ?_
      refine gf_6_0 (pc := 18) X Nat.one_pos wd_91 dX6_event_18 ?_
      refine v_sipush (pc := 21) X cst_s_135 dX6_event_21 ?_
      refine al_20 (pc := 24) X Nat.one_pos h dX6_event_24 (fun x_7 h => ?_)
      refine v_goto (pc := 25) (tgt := 65) X dX6_event_25 (by decide) ?_
      exact v_iret (pc := 65) X hr hlk h dX6_event_65
  · refine v_bipush (pc := 9) X cst_b_m2 dX6_event_9 ?_
    exact v_iret (pc := 11) X hr hlk h dX6_event_11

def wp_X6_spreadBut_b105 (a1 : Int32) (q : Int32 → Mem → Prop) (K : Int32 → Int32 → Int32 → Int32 → Mem → Prop) (b2 : Int32) (b3 : Int32) (b4 : Int32) (b5 : Int32) (μ : Mem) : Prop :=
K b2 b3 b4 (b5 + 1) μ
def wp_X6_spreadBut_b100 (a1 : Int32) (q : Int32 → Mem → Prop) (K : Int32 → Int32 → Int32 → Int32 → Mem → Prop) (b2 : Int32) (b3 : Int32) (b5 : Int32) (t0 : Int32) (μ : Mem) : Prop :=
wp_X6_spreadBut_b105 a1 q K (b2 + 1) b3 t0 b5 μ
def wp_X6_spreadBut_b85 (a1 : Int32) (q : Int32 → Mem → Prop) (K : Int32 → Int32 → Int32 → Int32 → Mem → Prop) (b2 : Int32) (b3 : Int32) (b5 : Int32) (μ : Mem) : Prop :=
vp_in ((nI 60) + b5) 256 ∧ ∀ x_1 : Int32, x_1 = μ 20 0 (((nI 60) + b5) : Int32).toNatClampNeg →
wp_X6_spreadBut_b100 a1 q K b2 b3 b5 x_1 μ
def wp_X6_spreadBut_b65 (a1 : Int32) (q : Int32 → Mem → Prop) (K : Int32 → Int32 → Int32 → Int32 → Mem → Prop) (b2 : Int32) (b4 : Int32) (b5 : Int32) (t0 : Int32) (μ : Mem) : Prop :=
((b2 = 0 →
wp_X6_spreadBut_b85 a1 q K b2 t0 b5 μ) ∧ (¬ b2 = 0 →
vp_in ((nI 60) + b5) 256 ∧ ∀ x_1 : Int32, x_1 = μ 20 0 (((nI 60) + b5) : Int32).toNatClampNeg →
((x_1 ≤ b4 →
wp_X6_spreadBut_b100 a1 q K b2 t0 b5 b4 μ) ∧ (¬ x_1 ≤ b4 →
wp_X6_spreadBut_b85 a1 q K b2 t0 b5 μ))))
def wp_X6_spreadBut_b51 (a1 : Int32) (q : Int32 → Mem → Prop) (K : Int32 → Int32 → Int32 → Int32 → Mem → Prop) (b2 : Int32) (b4 : Int32) (b5 : Int32) (μ : Mem) : Prop :=
vp_in ((nI 60) + b5) 256 ∧ ∀ x_1 : Int32, x_1 = μ 20 0 (((nI 60) + b5) : Int32).toNatClampNeg →
wp_X6_spreadBut_b65 a1 q K b2 b4 b5 x_1 μ
def wp_X6_spreadBut_l10 (a1 : Int32) (q : Int32 → Mem → Prop) : Nat → Int32 → Int32 → Int32 → Int32 → Mem → Prop
  | 0 => fun _ _ _ _ _ => False
  | n + 1 => fun b2 b3 b4 b5 μ =>
(((nI 6) ≤ b5 →
q (b4 - b3) μ) ∧ (¬ (nI 6) ≤ b5 →
((b5 = a1 →
wp_X6_spreadBut_b105 a1 q (wp_X6_spreadBut_l10 a1 q n) b2 b3 b4 b5 μ) ∧ (¬ b5 = a1 →
wp_X6_is b5 (nI 4) μ (fun x_2 m_1 =>
((x_2 = 0 →
wp_X6_spreadBut_b105 a1 q (wp_X6_spreadBut_l10 a1 q n) b2 b3 b4 b5 m_1) ∧ (¬ x_2 = 0 →
((b2 = 0 →
wp_X6_spreadBut_b51 a1 q (wp_X6_spreadBut_l10 a1 q n) b2 b4 b5 m_1) ∧ (¬ b2 = 0 →
vp_in ((nI 60) + b5) 256 ∧ ∀ x_3 : Int32, x_3 = m_1 20 0 (((nI 60) + b5) : Int32).toNatClampNeg →
((b3 ≤ x_3 →
wp_X6_spreadBut_b65 a1 q (wp_X6_spreadBut_l10 a1 q n) b2 b4 b5 b3 m_1) ∧ (¬ b3 ≤ x_3 →
wp_X6_spreadBut_b51 a1 q (wp_X6_spreadBut_l10 a1 q n) b2 b4 b5 m_1)))))))))))
def wp_X6_spreadBut (a1 : Int32) (μ : Mem) (q : Int32 → Mem → Prop) : Prop :=
∃ n : Nat, wp_X6_spreadBut_l10 a1 q n 0 0 0 0 μ
set_option maxRecDepth 100000 in
set_option maxHeartbeats 4000000 in
theorem c_X6_spreadBut (l : Launch) (g : GG) (hI : Inj g) (μ : Mem) (a1 : Int32) (q : Int32 → Mem → Prop) (h : wp_X6_spreadBut a1 μ q) : Met l yX6_spreadBut (Cond.code yX6_spreadBut cX6_spreadBut 6 (some .int) :: wsL_law) ({ frames := 1, cells := 0, slots := 0, locals := 22 }) (KP g [.ref (g.1 6 0), .int a1] μ) (KQi g q) 0 0 (AA g) := by
  refine met_V (own := RX6) hI (by decide) rfl (Nat.le_of_ble_eq_true rfl) rfl (fun p e s m args below meth c X hr hlk => ?_)
  have L10 : ∀ (n : Nat) (b2 : Int32) (b3 : Int32) (b4 : Int32) (b5 : Int32) (μ : Mem), wp_X6_spreadBut_l10 a1 q n b2 b3 b4 b5 μ → V p l e ({ frames := 1, cells := 0, slots := 0, locals := 22 }) s m args below meth c 6 g (AA g) 0 0 (MQ below (KQi g q) args s 0 0 (AA g)) μ 10 [(0, .ref (g.1 6 0)), (1, .int a1), (2, .int b2), (3, .int b3), (4, .int b4), (5, .int b5)] [] := by
    intro n
    induction n with
    | zero => intro b2 b3 b4 b5 μ h; exact h.elim
    | succ n ih =>
      have B105 : ∀ (b2 : Int32) (b3 : Int32) (b4 : Int32) (b5 : Int32) (μ : Mem), wp_X6_spreadBut_b105 a1 q (wp_X6_spreadBut_l10 a1 q n) b2 b3 b4 b5 μ → V p l e ({ frames := 1, cells := 0, slots := 0, locals := 22 }) s m args below meth c 6 g (AA g) 0 0 (MQ below (KQi g q) args s 0 0 (AA g)) μ 105 [(0, .ref (g.1 6 0)), (1, .int a1), (2, .int b2), (3, .int b3), (4, .int b4), (5, .int b5)] [] := by
        intro b2 b3 b4 b5 μ h
        unfold wp_X6_spreadBut_b105 at h
        refine v_iinc (pc := 105) (lv' := [(5, .int (b5 + 1)), (0, .ref (g.1 6 0)), (1, .int a1), (2, .int b2), (3, .int b3), (4, .int b4)]) (j := 5) X rfl (congrArg (HAdd.hAdd _) cst_i_1) (by decide) rfl dX6_spreadBut_105 ?_
        refine v_goto (pc := 108) (tgt := 10) X dX6_spreadBut_108 (by decide) ?_
        refine v_sub [1, 2, 3, 4, 5, 0] rfl ?_
        exact ih _ _ _ _ _ h
      have B100 : ∀ (b2 : Int32) (b3 : Int32) (b5 : Int32) (t0 : Int32) (μ : Mem), wp_X6_spreadBut_b100 a1 q (wp_X6_spreadBut_l10 a1 q n) b2 b3 b5 t0 μ → V p l e ({ frames := 1, cells := 0, slots := 0, locals := 22 }) s m args below meth c 6 g (AA g) 0 0 (MQ below (KQi g q) args s 0 0 (AA g)) μ 100 [(0, .ref (g.1 6 0)), (1, .int a1), (2, .int b2), (3, .int b3), (5, .int b5)] [.int t0] := by
        intro b2 b3 b5 t0 μ h
        unfold wp_X6_spreadBut_b100 at h
        refine v_istore (pc := 100) (lv' := [(4, .int t0), (0, .ref (g.1 6 0)), (1, .int a1), (2, .int b2), (3, .int b3), (5, .int b5)]) X (by decide) rfl dX6_spreadBut_100 ?_
        refine v_iinc (pc := 102) (lv' := [(2, .int (b2 + 1)), (4, .int t0), (0, .ref (g.1 6 0)), (1, .int a1), (3, .int b3), (5, .int b5)]) (j := 3) X rfl (congrArg (HAdd.hAdd _) cst_i_1) (by decide) rfl dX6_spreadBut_102 ?_
        refine v_sub [2, 3, 0, 4, 1, 5] rfl ?_
        exact B105 _ _ _ _ _ h
      have B85 : ∀ (b2 : Int32) (b3 : Int32) (b5 : Int32) (μ : Mem), wp_X6_spreadBut_b85 a1 q (wp_X6_spreadBut_l10 a1 q n) b2 b3 b5 μ → V p l e ({ frames := 1, cells := 0, slots := 0, locals := 22 }) s m args below meth c 6 g (AA g) 0 0 (MQ below (KQi g q) args s 0 0 (AA g)) μ 85 [(0, .ref (g.1 6 0)), (1, .int a1), (2, .int b2), (3, .int b3), (5, .int b5)] [] := by
        intro b2 b3 b5 μ h
        unfold wp_X6_spreadBut_b85 at h
        refine v_aload_n (pc := 85) X rfl 0 rfl dX6_spreadBut_85 ?_
        refine gf_6_0 (pc := 86) X Nat.one_pos wd_91 dX6_spreadBut_86 ?_
        refine v_bipush (pc := 89) X cst_b_60 dX6_spreadBut_89 ?_
        refine v_iload (pc := 91) X 4 rfl dX6_spreadBut_91 ?_
        refine v_iadd (pc := 93) X dX6_spreadBut_93 ?_
        refine al_20 (pc := 94) X Nat.one_pos h dX6_spreadBut_94 (fun x_1 h => ?_)
        refine v_goto (pc := 95) (tgt := 100) X dX6_spreadBut_95 (by decide) ?_
        exact B100 _ _ _ _ _ h
      have B65 : ∀ (b2 : Int32) (b4 : Int32) (b5 : Int32) (t0 : Int32) (μ : Mem), wp_X6_spreadBut_b65 a1 q (wp_X6_spreadBut_l10 a1 q n) b2 b4 b5 t0 μ → V p l e ({ frames := 1, cells := 0, slots := 0, locals := 22 }) s m args below meth c 6 g (AA g) 0 0 (MQ below (KQi g q) args s 0 0 (AA g)) μ 65 [(0, .ref (g.1 6 0)), (1, .int a1), (2, .int b2), (4, .int b4), (5, .int b5)] [.int t0] := by
        intro b2 b4 b5 t0 μ h
        unfold wp_X6_spreadBut_b65 at h
        refine v_istore_n (pc := 65) (lv' := [(3, .int t0), (0, .ref (g.1 6 0)), (1, .int a1), (2, .int b2), (4, .int b4), (5, .int b5)]) X rfl (by decide) rfl dX6_spreadBut_65 ?_
        refine v_iload_n (pc := 66) X rfl 3 rfl dX6_spreadBut_66 ?_
        refine v_if_eq (pc := 67) (tgt := 85) X h dX6_spreadBut_67 (by decide) (fun h => ?_) (fun h => ?_)
        · refine v_sub [1, 2, 3, 0, 5] rfl ?_
          exact B85 _ _ _ _ h
        · refine v_aload_n (pc := 70) X rfl 1 rfl dX6_spreadBut_70 ?_
          refine gf_6_0 (pc := 71) X Nat.one_pos wd_91 dX6_spreadBut_71 ?_
          refine v_bipush (pc := 74) X cst_b_60 dX6_spreadBut_74 ?_
          refine v_iload (pc := 76) X 5 rfl dX6_spreadBut_76 ?_
          refine v_iadd (pc := 78) X dX6_spreadBut_78 ?_
          refine al_20 (pc := 79) X Nat.one_pos h dX6_spreadBut_79 (fun x_1 h => ?_)
          refine v_iload (pc := 80) X 4 rfl dX6_spreadBut_80 ?_
          refine v_icmp_le (pc := 82) (tgt := 98) X h dX6_spreadBut_82 (by decide) (fun h => ?_) (fun h => ?_)
          · refine v_iload (pc := 98) X 4 rfl dX6_spreadBut_98 ?_
            refine v_sub [1, 2, 3, 0, 5] rfl ?_
            exact B100 _ _ _ _ _ h
          · refine v_sub [1, 2, 3, 0, 5] rfl ?_
            exact B85 _ _ _ _ h
      have B51 : ∀ (b2 : Int32) (b4 : Int32) (b5 : Int32) (μ : Mem), wp_X6_spreadBut_b51 a1 q (wp_X6_spreadBut_l10 a1 q n) b2 b4 b5 μ → V p l e ({ frames := 1, cells := 0, slots := 0, locals := 22 }) s m args below meth c 6 g (AA g) 0 0 (MQ below (KQi g q) args s 0 0 (AA g)) μ 51 [(0, .ref (g.1 6 0)), (1, .int a1), (2, .int b2), (4, .int b4), (5, .int b5)] [] := by
        intro b2 b4 b5 μ h
        unfold wp_X6_spreadBut_b51 at h
        refine v_aload_n (pc := 51) X rfl 0 rfl dX6_spreadBut_51 ?_
        refine gf_6_0 (pc := 52) X Nat.one_pos wd_91 dX6_spreadBut_52 ?_
        refine v_bipush (pc := 55) X cst_b_60 dX6_spreadBut_55 ?_
        refine v_iload (pc := 57) X 4 rfl dX6_spreadBut_57 ?_
        refine v_iadd (pc := 59) X dX6_spreadBut_59 ?_
        refine al_20 (pc := 60) X Nat.one_pos h dX6_spreadBut_60 (fun x_1 h => ?_)
        refine v_goto (pc := 61) (tgt := 65) X dX6_spreadBut_61 (by decide) ?_
        exact B65 _ _ _ _ _ h
      intro b2 b3 b4 b5 μ h
      unfold wp_X6_spreadBut_l10 at h
      refine v_iload (pc := 10) X 5 rfl dX6_spreadBut_10 ?_
      refine v_bipush (pc := 12) X cst_b_6 dX6_spreadBut_12 ?_
      refine v_icmp_ge (pc := 14) (tgt := 111) X h dX6_spreadBut_14 (by decide) (fun h => ?_) (fun h => ?_)
      · refine v_iload (pc := 111) X 4 rfl dX6_spreadBut_111 ?_
        refine v_iload_n (pc := 113) X rfl 3 rfl dX6_spreadBut_113 ?_
        refine v_isub (pc := 114) X dX6_spreadBut_114 ?_
        exact v_iret (pc := 115) X hr hlk h dX6_spreadBut_115
      · refine v_iload (pc := 17) X 5 rfl dX6_spreadBut_17 ?_
        refine v_iload_n (pc := 19) X rfl 1 rfl dX6_spreadBut_19 ?_
        refine v_icmp_eq (pc := 20) (tgt := 105) X h dX6_spreadBut_20 (by decide) (fun h => ?_) (fun h => ?_)
        · exact B105 _ _ _ _ _ h
        · refine v_aload_n (pc := 23) X rfl 0 rfl dX6_spreadBut_23 ?_
          refine v_iload (pc := 24) X 5 rfl dX6_spreadBut_24 ?_
          refine v_iconst (pc := 26) X cst_i_4 dX6_spreadBut_26 ?_
          refine v_callVi (pc := 27) X (c_X6_is l g hI _ _ _ _ h) wd_138 wd_135 wd_136 wd_137 wd_5 ⟨rfl, rfl⟩ hdc_X6_is ⟨Nat.le_of_ble_eq_true rfl, Nat.le_of_ble_eq_true rfl⟩ ⟨Nat.le_refl 0, Nat.le_refl 0⟩ Nat.one_pos rfl rfl (As := [.int b5, .int (nI 4)]) rfl rfl (Nat.le_of_ble_eq_true rfl) dX6_spreadBut_27 (fun x_2 m_1 h => ?_)
          refine v_if_eq (pc := 30) (tgt := 105) X h dX6_spreadBut_30 (by decide) (fun h => ?_) (fun h => ?_)
          · exact B105 _ _ _ _ _ h
          · refine v_iload_n (pc := 33) X rfl 2 rfl dX6_spreadBut_33 ?_
            refine v_if_eq (pc := 34) (tgt := 51) X h dX6_spreadBut_34 (by decide) (fun h => ?_) (fun h => ?_)
            · refine v_sub [0, 1, 2, 4, 5] rfl ?_
              exact B51 _ _ _ _ h
            · refine v_aload_n (pc := 37) X rfl 0 rfl dX6_spreadBut_37 ?_
              refine gf_6_0 (pc := 38) X Nat.one_pos wd_91 dX6_spreadBut_38 ?_
              refine v_bipush (pc := 41) X cst_b_60 dX6_spreadBut_41 ?_
              refine v_iload (pc := 43) X 5 rfl dX6_spreadBut_43 ?_
              refine v_iadd (pc := 45) X dX6_spreadBut_45 ?_
              refine al_20 (pc := 46) X Nat.one_pos h dX6_spreadBut_46 (fun x_3 h => ?_)
              refine v_iload_n (pc := 47) X rfl 3 rfl dX6_spreadBut_47 ?_
              refine v_icmp_ge (pc := 48) (tgt := 64) X h dX6_spreadBut_48 (by decide) (fun h => ?_) (fun h => ?_)
              · refine v_iload_n (pc := 64) X rfl 3 rfl dX6_spreadBut_64 ?_
                refine v_sub [0, 1, 2, 4, 5] rfl ?_
                exact B65 _ _ _ _ _ h
              · refine v_sub [0, 1, 2, 4, 5] rfl ?_
                exact B51 _ _ _ _ h
  unfold wp_X6_spreadBut at h
  refine v_iconst (pc := 0) X cst_i_0 dX6_spreadBut_0 ?_
  refine v_istore_n (pc := 1) (lv' := [(2, .int 0), (0, .ref (g.1 6 0)), (1, .int a1)]) X rfl (by decide) rfl dX6_spreadBut_1 ?_
  refine v_iconst (pc := 2) X cst_i_0 dX6_spreadBut_2 ?_
  refine v_istore_n (pc := 3) (lv' := [(3, .int 0), (2, .int 0), (0, .ref (g.1 6 0)), (1, .int a1)]) X rfl (by decide) rfl dX6_spreadBut_3 ?_
  refine v_iconst (pc := 4) X cst_i_0 dX6_spreadBut_4 ?_
  refine v_istore (pc := 5) (lv' := [(4, .int 0), (3, .int 0), (2, .int 0), (0, .ref (g.1 6 0)), (1, .int a1)]) X (by decide) rfl dX6_spreadBut_5 ?_
  refine v_iconst (pc := 7) X cst_i_0 dX6_spreadBut_7 ?_
  refine v_istore (pc := 8) (lv' := [(5, .int 0), (4, .int 0), (3, .int 0), (2, .int 0), (0, .ref (g.1 6 0)), (1, .int a1)]) X (by decide) rfl dX6_spreadBut_8 ?_
  refine v_sub [4, 5, 3, 2, 1, 0] rfl ?_
  obtain ⟨n, h⟩ := h
  exact L10 n _ _ _ _ _ h

def wp_X6_spread  (μ : Mem) (q : Int32 → Mem → Prop) : Prop :=
wp_X6_spreadBut (-6) μ (fun x_2 m_1 =>
q x_2 m_1)
set_option maxRecDepth 100000 in
set_option maxHeartbeats 4000000 in
theorem c_X6_spread (l : Launch) (g : GG) (hI : Inj g) (μ : Mem)  (q : Int32 → Mem → Prop) (h : wp_X6_spread  μ q) : Met l yX6_spread (Cond.code yX6_spread cX6_spread 1 (some .int) :: wsL_law) ({ frames := 2, cells := 0, slots := 0, locals := 47 }) (KP g [.ref (g.1 6 0)] μ) (KQi g q) 0 0 (AA g) := by
  refine met_V (own := RX6) hI (by decide) rfl (Nat.le_of_ble_eq_true rfl) rfl (fun p e s m args below meth c X hr hlk => ?_)
  unfold wp_X6_spread at h
  refine v_aload_n (pc := 0) X rfl 0 rfl dX6_spread_0 ?_
  refine v_bipush (pc := 1) X cst_b_m6 dX6_spread_1 ?_
  refine v_callVi (pc := 3) X (c_X6_spreadBut l g hI _ _ _ h) wd_537 wd_534 wd_535 wd_536 wd_5 ⟨rfl, rfl⟩ hdc_X6_spreadBut ⟨Nat.le_of_ble_eq_true rfl, Nat.le_of_ble_eq_true rfl⟩ ⟨Nat.le_refl 0, Nat.le_refl 0⟩ Nat.one_pos rfl rfl (As := [.int (-6)]) rfl rfl (Nat.le_of_ble_eq_true rfl) dX6_spread_3 (fun x_2 m_1 h => ?_)
  exact v_iret (pc := 6) X hr hlk h dX6_spread_6

def wp_X6_save_l2 (a1 : Int32) (q : Mem → Prop) : Nat → Int32 → Mem → Prop
  | 0 => fun _ _ => False
  | n + 1 => fun b2 μ =>
(((nI 256) ≤ b2 →
q μ) ∧ (¬ (nI 256) ≤ b2 →
vp_in b2 256 ∧ ∀ x_1 : Int32, x_1 = μ 20 0 (b2 : Int32).toNatClampNeg →
vp_in (((nI 256) * a1) + b2) 768 ∧ ∀ m_2 : Mem, m_2 = ms μ 21 0 ((((nI 256) * a1) + b2) : Int32).toNatClampNeg x_1 →
wp_X6_save_l2 a1 q n (b2 + 1) m_2))
def wp_X6_save (a1 : Int32) (μ : Mem) (q : Mem → Prop) : Prop :=
∃ n : Nat, wp_X6_save_l2 a1 q n 0 μ
set_option maxRecDepth 100000 in
set_option maxHeartbeats 4000000 in
theorem c_X6_save (l : Launch) (g : GG) (hI : Inj g) (μ : Mem) (a1 : Int32) (q : Mem → Prop) (h : wp_X6_save a1 μ q) : Met l yX6_save (Cond.code yX6_save cX6_save 3 none :: wsL_law) ({ frames := 0, cells := 0, slots := 0, locals := 0 }) (KP g [.ref (g.1 6 0), .int a1] μ) (KQv g q) 0 0 (AA g) := by
  refine met_V (own := RX6) hI (by decide) rfl (Nat.le_of_ble_eq_true rfl) rfl (fun p e s m args below meth c X hr hlk => ?_)
  have L2 : ∀ (n : Nat) (b2 : Int32) (μ : Mem), wp_X6_save_l2 a1 q n b2 μ → V p l e ({ frames := 0, cells := 0, slots := 0, locals := 0 }) s m args below meth c 3 g (AA g) 0 0 (MQ below (KQv g q) args s 0 0 (AA g)) μ 2 [(0, .ref (g.1 6 0)), (1, .int a1), (2, .int b2)] [] := by
    intro n
    induction n with
    | zero => intro b2 μ h; exact h.elim
    | succ n ih =>
      intro b2 μ h
      unfold wp_X6_save_l2 at h
      refine v_iload_n (pc := 2) X rfl 2 rfl dX6_save_2 ?_
      refine v_sipush (pc := 3) X cst_s_256 dX6_save_3 ?_
      refine v_icmp_ge (pc := 6) (tgt := 33) X h dX6_save_6 (by decide) (fun h => ?_) (fun h => ?_)
      · exact v_vret (pc := 33) X hr hlk h dX6_save_33
      · refine v_aload_n (pc := 9) X rfl 0 rfl dX6_save_9 ?_
        refine gf_6_1 (pc := 10) X Nat.one_pos wd_92 dX6_save_10 ?_
        refine v_sipush (pc := 13) X cst_s_256 dX6_save_13 ?_
        refine v_iload_n (pc := 16) X rfl 1 rfl dX6_save_16 ?_
        refine v_imul (pc := 17) X dX6_save_17 ?_
        refine v_iload_n (pc := 18) X rfl 2 rfl dX6_save_18 ?_
        refine v_iadd (pc := 19) X dX6_save_19 ?_
        refine v_aload_n (pc := 20) X rfl 0 rfl dX6_save_20 ?_
        refine gf_6_0 (pc := 21) X Nat.one_pos wd_91 dX6_save_21 ?_
        refine v_iload_n (pc := 24) X rfl 2 rfl dX6_save_24 ?_
        refine al_20 (pc := 25) X Nat.one_pos h dX6_save_25 (fun x_1 h => ?_)
        refine as_21 (pc := 26) X Nat.one_pos h dX6_save_26 (fun m_2 h => ?_)
        refine v_iinc (pc := 27) (lv' := [(2, .int (b2 + 1)), (0, .ref (g.1 6 0)), (1, .int a1)]) (j := 2) X rfl (congrArg (HAdd.hAdd _) cst_i_1) (by decide) rfl dX6_save_27 ?_
        refine v_goto (pc := 30) (tgt := 2) X dX6_save_30 (by decide) ?_
        refine v_sub [1, 2, 0] rfl ?_
        exact ih _ _ h
  unfold wp_X6_save at h
  refine v_iconst (pc := 0) X cst_i_0 dX6_save_0 ?_
  refine v_istore_n (pc := 1) (lv' := [(2, .int 0), (0, .ref (g.1 6 0)), (1, .int a1)]) X rfl (by decide) rfl dX6_save_1 ?_
  refine v_sub [1, 2, 0] rfl ?_
  obtain ⟨n, h⟩ := h
  exact L2 n _ _ h

def wp_X6_load_l2 (a1 : Int32) (q : Mem → Prop) : Nat → Int32 → Mem → Prop
  | 0 => fun _ _ => False
  | n + 1 => fun b2 μ =>
(((nI 256) ≤ b2 →
q μ) ∧ (¬ (nI 256) ≤ b2 →
vp_in (((nI 256) * a1) + b2) 768 ∧ ∀ x_1 : Int32, x_1 = μ 21 0 ((((nI 256) * a1) + b2) : Int32).toNatClampNeg →
vp_in b2 256 ∧ ∀ m_2 : Mem, m_2 = ms μ 20 0 (b2 : Int32).toNatClampNeg x_1 →
wp_X6_load_l2 a1 q n (b2 + 1) m_2))
def wp_X6_load (a1 : Int32) (μ : Mem) (q : Mem → Prop) : Prop :=
∃ n : Nat, wp_X6_load_l2 a1 q n 0 μ
set_option maxRecDepth 100000 in
set_option maxHeartbeats 4000000 in
theorem c_X6_load (l : Launch) (g : GG) (hI : Inj g) (μ : Mem) (a1 : Int32) (q : Mem → Prop) (h : wp_X6_load a1 μ q) : Met l yX6_load (Cond.code yX6_load cX6_load 3 none :: wsL_law) ({ frames := 0, cells := 0, slots := 0, locals := 0 }) (KP g [.ref (g.1 6 0), .int a1] μ) (KQv g q) 0 0 (AA g) := by
  refine met_V (own := RX6) hI (by decide) rfl (Nat.le_of_ble_eq_true rfl) rfl (fun p e s m args below meth c X hr hlk => ?_)
  have L2 : ∀ (n : Nat) (b2 : Int32) (μ : Mem), wp_X6_load_l2 a1 q n b2 μ → V p l e ({ frames := 0, cells := 0, slots := 0, locals := 0 }) s m args below meth c 3 g (AA g) 0 0 (MQ below (KQv g q) args s 0 0 (AA g)) μ 2 [(0, .ref (g.1 6 0)), (1, .int a1), (2, .int b2)] [] := by
    intro n
    induction n with
    | zero => intro b2 μ h; exact h.elim
    | succ n ih =>
      intro b2 μ h
      unfold wp_X6_load_l2 at h
      refine v_iload_n (pc := 2) X rfl 2 rfl dX6_load_2 ?_
      refine v_sipush (pc := 3) X cst_s_256 dX6_load_3 ?_
      refine v_icmp_ge (pc := 6) (tgt := 33) X h dX6_load_6 (by decide) (fun h => ?_) (fun h => ?_)
      · exact v_vret (pc := 33) X hr hlk h dX6_load_33
      · refine v_aload_n (pc := 9) X rfl 0 rfl dX6_load_9 ?_
        refine gf_6_0 (pc := 10) X Nat.one_pos wd_91 dX6_load_10 ?_
        refine v_iload_n (pc := 13) X rfl 2 rfl dX6_load_13 ?_
        refine v_aload_n (pc := 14) X rfl 0 rfl dX6_load_14 ?_
        refine gf_6_1 (pc := 15) X Nat.one_pos wd_92 dX6_load_15 ?_
        refine v_sipush (pc := 18) X cst_s_256 dX6_load_18 ?_
        refine v_iload_n (pc := 21) X rfl 1 rfl dX6_load_21 ?_
        refine v_imul (pc := 22) X dX6_load_22 ?_
        refine v_iload_n (pc := 23) X rfl 2 rfl dX6_load_23 ?_
        refine v_iadd (pc := 24) X dX6_load_24 ?_
        refine al_21 (pc := 25) X Nat.one_pos h dX6_load_25 (fun x_1 h => ?_)
        refine as_20 (pc := 26) X Nat.one_pos h dX6_load_26 (fun m_2 h => ?_)
        refine v_iinc (pc := 27) (lv' := [(2, .int (b2 + 1)), (0, .ref (g.1 6 0)), (1, .int a1)]) (j := 2) X rfl (congrArg (HAdd.hAdd _) cst_i_1) (by decide) rfl dX6_load_27 ?_
        refine v_goto (pc := 30) (tgt := 2) X dX6_load_30 (by decide) ?_
        refine v_sub [1, 2, 0] rfl ?_
        exact ih _ _ h
  unfold wp_X6_load at h
  refine v_iconst (pc := 0) X cst_i_0 dX6_load_0 ?_
  refine v_istore_n (pc := 1) (lv' := [(2, .int 0), (0, .ref (g.1 6 0)), (1, .int a1)]) X rfl (by decide) rfl dX6_load_1 ?_
  refine v_sub [1, 2, 0] rfl ?_
  obtain ⟨n, h⟩ := h
  exact L2 n _ _ h

def wp_X6_inSet_b26  (q : Int32 → Mem → Prop) (K : Int32 → Int32 → Mem → Prop) (b2 : Int32) (t0 : Int32) (t1 : Int32) (μ : Mem) : Prop :=
∀ y_1 : Int32, y_1 = (t0 ||| t1) →
K y_1 (b2 + 1) μ
def wp_X6_inSet_l4  (q : Int32 → Mem → Prop) : Nat → Int32 → Int32 → Mem → Prop
  | 0 => fun _ _ _ => False
  | n + 1 => fun b1 b2 μ =>
(((nI 6) ≤ b2 →
q b1 μ) ∧ (¬ (nI 6) ≤ b2 →
wp_X6_isOut b2 μ (fun x_2 m_1 =>
((x_2 = 0 →
wp_X6_inSet_b26  q (wp_X6_inSet_l4  q n) b2 b1 (1 <<< (b2 &&& 31)) m_1) ∧ (¬ x_2 = 0 →
wp_X6_inSet_b26  q (wp_X6_inSet_l4  q n) b2 b1 0 m_1)))))
def wp_X6_inSet  (μ : Mem) (q : Int32 → Mem → Prop) : Prop :=
∃ n : Nat, wp_X6_inSet_l4  q n 0 0 μ
set_option maxRecDepth 100000 in
set_option maxHeartbeats 4000000 in
theorem c_X6_inSet (l : Launch) (g : GG) (hI : Inj g) (μ : Mem)  (q : Int32 → Mem → Prop) (h : wp_X6_inSet  μ q) : Met l yX6_inSet (Cond.code yX6_inSet cX6_inSet 3 (some .int) :: wsL_law) ({ frames := 2, cells := 0, slots := 0, locals := 43 }) (KP g [.ref (g.1 6 0)] μ) (KQi g q) 0 0 (AA g) := by
  refine met_V (own := RX6) hI (by decide) rfl (Nat.le_of_ble_eq_true rfl) rfl (fun p e s m args below meth c X hr hlk => ?_)
  have L4 : ∀ (n : Nat) (b1 : Int32) (b2 : Int32) (μ : Mem), wp_X6_inSet_l4  q n b1 b2 μ → V p l e ({ frames := 2, cells := 0, slots := 0, locals := 43 }) s m args below meth c 3 g (AA g) 0 0 (MQ below (KQi g q) args s 0 0 (AA g)) μ 4 [(0, .ref (g.1 6 0)), (1, .int b1), (2, .int b2)] [] := by
    intro n
    induction n with
    | zero => intro b1 b2 μ h; exact h.elim
    | succ n ih =>
      have B26 : ∀ (b2 : Int32) (t0 : Int32) (t1 : Int32) (μ : Mem), wp_X6_inSet_b26  q (wp_X6_inSet_l4  q n) b2 t0 t1 μ → V p l e ({ frames := 2, cells := 0, slots := 0, locals := 43 }) s m args below meth c 3 g (AA g) 0 0 (MQ below (KQi g q) args s 0 0 (AA g)) μ 26 [(0, .ref (g.1 6 0)), (2, .int b2)] [.int t1, .int t0] := by
        intro b2 t0 t1 μ h
        unfold wp_X6_inSet_b26 at h
        refine v_ior (pc := 26) X dX6_inSet_26 ?_
        refine v_nm h (fun y_1 h => ?_)
        refine v_istore_n (pc := 27) (lv' := [(1, .int y_1), (0, .ref (g.1 6 0)), (2, .int b2)]) X rfl (by decide) rfl dX6_inSet_27 ?_
        refine v_iinc (pc := 28) (lv' := [(2, .int (b2 + 1)), (1, .int y_1), (0, .ref (g.1 6 0))]) (j := 2) X rfl (congrArg (HAdd.hAdd _) cst_i_1) (by decide) rfl dX6_inSet_28 ?_
        refine v_goto (pc := 31) (tgt := 4) X dX6_inSet_31 (by decide) ?_
        refine v_sub [2, 1, 0] rfl ?_
        exact ih _ _ _ h
      intro b1 b2 μ h
      unfold wp_X6_inSet_l4 at h
      refine v_iload_n (pc := 4) X rfl 2 rfl dX6_inSet_4 ?_
      refine v_bipush (pc := 5) X cst_b_6 dX6_inSet_5 ?_
      refine v_icmp_ge (pc := 7) (tgt := 34) X h dX6_inSet_7 (by decide) (fun h => ?_) (fun h => ?_)
      · refine v_iload_n (pc := 34) X rfl 1 rfl dX6_inSet_34 ?_
        exact v_iret (pc := 35) X hr hlk h dX6_inSet_35
      · refine v_iload_n (pc := 10) X rfl 1 rfl dX6_inSet_10 ?_
        refine v_aload_n (pc := 11) X rfl 0 rfl dX6_inSet_11 ?_
        refine v_iload_n (pc := 12) X rfl 2 rfl dX6_inSet_12 ?_
        refine v_callVi (pc := 13) X (c_X6_isOut l g hI _ _ _ h) wd_199 wd_196 wd_197 wd_198 wd_5 ⟨rfl, rfl⟩ hdc_X6_isOut ⟨Nat.le_of_ble_eq_true rfl, Nat.le_of_ble_eq_true rfl⟩ ⟨Nat.le_refl 0, Nat.le_refl 0⟩ Nat.one_pos rfl rfl (As := [.int b2]) rfl rfl (Nat.le_of_ble_eq_true rfl) dX6_inSet_13 (fun x_2 m_1 h => ?_)
        refine v_if_eq (pc := 16) (tgt := 23) X h dX6_inSet_16 (by decide) (fun h => ?_) (fun h => ?_)
        · refine v_iconst (pc := 23) X cst_i_1 dX6_inSet_23 ?_
          refine v_iload_n (pc := 24) X rfl 2 rfl dX6_inSet_24 ?_
          refine v_ishl (pc := 25) X dX6_inSet_25 ?_
          refine v_sub [0, 2] rfl ?_
          exact B26 _ _ _ _ h
        · refine v_iconst (pc := 19) X cst_i_0 dX6_inSet_19 ?_
          refine v_goto (pc := 20) (tgt := 26) X dX6_inSet_20 (by decide) ?_
          refine v_sub [0, 2] rfl ?_
          exact B26 _ _ _ _ h
  unfold wp_X6_inSet at h
  refine v_iconst (pc := 0) X cst_i_0 dX6_inSet_0 ?_
  refine v_istore_n (pc := 1) (lv' := [(1, .int 0), (0, .ref (g.1 6 0))]) X rfl (by decide) rfl dX6_inSet_1 ?_
  refine v_iconst (pc := 2) X cst_i_0 dX6_inSet_2 ?_
  refine v_istore_n (pc := 3) (lv' := [(2, .int 0), (1, .int 0), (0, .ref (g.1 6 0))]) X rfl (by decide) rfl dX6_inSet_3 ?_
  refine v_sub [2, 1, 0] rfl ?_
  obtain ⟨n, h⟩ := h
  exact L4 n _ _ _ h

def wp_X6_soon_b65  (q : Int32 → Mem → Prop) (b2 : Int32) (t0 : Int32) (μ : Mem) : Prop :=
wp_X6_load (nI 2) μ (fun m_1 =>
((t0 = 0 →
q (-6) m_1) ∧ (¬ t0 = 0 →
q b2 m_1)))
def wp_X6_soon_b48  (q : Int32 → Mem → Prop) (b1 : Int32) (b2 : Int32) (μ : Mem) : Prop :=
wp_X6_setOf (nI 4) μ (fun x_2 m_1 =>
((¬ (b1 &&& (x_2 ^^^ (-1))) = 0 →
wp_X6_soon_b65  q b2 0 m_1) ∧ ((b1 &&& (x_2 ^^^ (-1))) = 0 →
wp_X6_soon_b65  q b2 1 m_1)))
def wp_X6_soon_l19  (q : Int32 → Mem → Prop) : Nat → Int32 → Int32 → Mem → Prop
  | 0 => fun _ _ _ => False
  | n + 1 => fun b1 b2 μ =>
(((nI 200) ≤ b2 →
wp_X6_soon_b48  q b1 b2 μ) ∧ (¬ (nI 200) ≤ b2 →
wp_X6_setOf (nI 4) μ (fun x_2 m_1 =>
(((b1 &&& (x_2 ^^^ (-1))) = 0 →
wp_X6_soon_b48  q b1 b2 m_1) ∧ (¬ (b1 &&& (x_2 ^^^ (-1))) = 0 →
wp_X6_cycle  m_1 (fun m_3 =>
wp_X6_soon_l19  q n b1 (b2 + 1) m_3))))))
def wp_X6_soon  (μ : Mem) (q : Int32 → Mem → Prop) : Prop :=
wp_X6_inSet  μ (fun x_2 m_1 =>
((¬ x_2 = 0 →
wp_X6_save (nI 2) m_1 (fun m_3 =>
∃ n : Nat, wp_X6_soon_l19  q n x_2 0 m_3)) ∧ (x_2 = 0 →
q (-6) m_1)))
set_option maxRecDepth 100000 in
set_option maxHeartbeats 4000000 in
theorem c_X6_soon (l : Launch) (g : GG) (hI : Inj g) (μ : Mem)  (q : Int32 → Mem → Prop) (h : wp_X6_soon  μ q) : Met l yX6_soon (Cond.code yX6_soon cX6_soon 4 (some .int) :: wsL_law) ({ frames := 6, cells := 0, slots := 0, locals := 131 }) (KP g [.ref (g.1 6 0)] μ) (KQi g q) 0 0 (AA g) := by
  refine met_V (own := RX6) hI (by decide) rfl (Nat.le_of_ble_eq_true rfl) rfl (fun p e s m args below meth c X hr hlk => ?_)
  have B65 : ∀ (b2 : Int32) (t0 : Int32) (μ : Mem), wp_X6_soon_b65  q b2 t0 μ → V p l e ({ frames := 6, cells := 0, slots := 0, locals := 131 }) s m args below meth c 4 g (AA g) 0 0 (MQ below (KQi g q) args s 0 0 (AA g)) μ 65 [(0, .ref (g.1 6 0)), (2, .int b2)] [.int t0] := by
    intro b2 t0 μ h
    unfold wp_X6_soon_b65 at h
    refine v_istore_n (pc := 65) (lv' := [(3, .int t0), (0, .ref (g.1 6 0)), (2, .int b2)]) X rfl (by decide) rfl dX6_soon_65 ?_
    refine v_aload_n (pc := 66) X rfl 1 rfl dX6_soon_66 ?_
    refine v_iconst (pc := 67) X cst_i_2 dX6_soon_67 ?_
    refine v_callVv (pc := 68) X (c_X6_load l g hI _ _ _ h) wd_576 wd_573 wd_574 wd_575 wd_5 ⟨rfl, rfl⟩ hdc_X6_load ⟨Nat.le_of_ble_eq_true rfl, Nat.le_of_ble_eq_true rfl⟩ ⟨Nat.le_refl 0, Nat.le_refl 0⟩ Nat.one_pos rfl rfl (As := [.int (nI 2)]) rfl rfl (Nat.le_of_ble_eq_true rfl) dX6_soon_68 (fun m_1 h => ?_)
    refine v_iload_n (pc := 71) X rfl 0 rfl dX6_soon_71 ?_
    refine v_if_eq (pc := 72) (tgt := 79) X h dX6_soon_72 (by decide) (fun h => ?_) (fun h => ?_)
    · refine v_bipush (pc := 79) X cst_b_m6 dX6_soon_79 ?_
      exact v_iret (pc := 81) X hr hlk h dX6_soon_81
    · refine v_iload_n (pc := 75) X rfl 2 rfl dX6_soon_75 ?_
      refine v_goto (pc := 76) (tgt := 81) X dX6_soon_76 (by decide) ?_
      exact v_iret (pc := 81) X hr hlk h dX6_soon_81
  have B48 : ∀ (b1 : Int32) (b2 : Int32) (μ : Mem), wp_X6_soon_b48  q b1 b2 μ → V p l e ({ frames := 6, cells := 0, slots := 0, locals := 131 }) s m args below meth c 4 g (AA g) 0 0 (MQ below (KQi g q) args s 0 0 (AA g)) μ 48 [(0, .ref (g.1 6 0)), (1, .int b1), (2, .int b2)] [] := by
    intro b1 b2 μ h
    unfold wp_X6_soon_b48 at h
    refine v_iload_n (pc := 48) X rfl 1 rfl dX6_soon_48 ?_
    refine v_aload_n (pc := 49) X rfl 0 rfl dX6_soon_49 ?_
    refine v_iconst (pc := 50) X cst_i_4 dX6_soon_50 ?_
    refine v_callVi (pc := 51) X (c_X6_setOf l g hI _ _ _ h) wd_451 wd_448 wd_449 wd_450 wd_5 ⟨rfl, rfl⟩ hdc_X6_setOf ⟨Nat.le_of_ble_eq_true rfl, Nat.le_of_ble_eq_true rfl⟩ ⟨Nat.le_refl 0, Nat.le_refl 0⟩ Nat.one_pos rfl rfl (As := [.int (nI 4)]) rfl rfl (Nat.le_of_ble_eq_true rfl) dX6_soon_51 (fun x_2 m_1 h => ?_)
    refine v_iconst (pc := 54) X cst_i_m1 dX6_soon_54 ?_
    refine v_ixor (pc := 55) X dX6_soon_55 ?_
    refine v_iand (pc := 56) X dX6_soon_56 ?_
    refine v_if_ne (pc := 57) (tgt := 64) X h dX6_soon_57 (by decide) (fun h => ?_) (fun h => ?_)
    · refine v_iconst (pc := 64) X cst_i_0 dX6_soon_64 ?_
      refine v_sub [0, 2] rfl ?_
      exact B65 _ _ _ h
    · refine v_iconst (pc := 60) X cst_i_1 dX6_soon_60 ?_
      refine v_goto (pc := 61) (tgt := 65) X dX6_soon_61 (by decide) ?_
      refine v_sub [0, 2] rfl ?_
      exact B65 _ _ _ h
  have L19 : ∀ (n : Nat) (b1 : Int32) (b2 : Int32) (μ : Mem), wp_X6_soon_l19  q n b1 b2 μ → V p l e ({ frames := 6, cells := 0, slots := 0, locals := 131 }) s m args below meth c 4 g (AA g) 0 0 (MQ below (KQi g q) args s 0 0 (AA g)) μ 19 [(0, .ref (g.1 6 0)), (1, .int b1), (2, .int b2)] [] := by
    intro n
    induction n with
    | zero => intro b1 b2 μ h; exact h.elim
    | succ n ih =>
      intro b1 b2 μ h
      unfold wp_X6_soon_l19 at h
      refine v_iload_n (pc := 19) X rfl 2 rfl dX6_soon_19 ?_
      refine v_sipush (pc := 20) X cst_s_200 dX6_soon_20 ?_
      refine v_icmp_ge (pc := 23) (tgt := 48) X h dX6_soon_23 (by decide) (fun h => ?_) (fun h => ?_)
      · exact B48 _ _ _ h
      · refine v_iload_n (pc := 26) X rfl 1 rfl dX6_soon_26 ?_
        refine v_aload_n (pc := 27) X rfl 0 rfl dX6_soon_27 ?_
        refine v_iconst (pc := 28) X cst_i_4 dX6_soon_28 ?_
        refine v_callVi (pc := 29) X (c_X6_setOf l g hI _ _ _ h) wd_451 wd_448 wd_449 wd_450 wd_5 ⟨rfl, rfl⟩ hdc_X6_setOf ⟨Nat.le_of_ble_eq_true rfl, Nat.le_of_ble_eq_true rfl⟩ ⟨Nat.le_refl 0, Nat.le_refl 0⟩ Nat.one_pos rfl rfl (As := [.int (nI 4)]) rfl rfl (Nat.le_of_ble_eq_true rfl) dX6_soon_29 (fun x_2 m_1 h => ?_)
        refine v_iconst (pc := 32) X cst_i_m1 dX6_soon_32 ?_
        refine v_ixor (pc := 33) X dX6_soon_33 ?_
        refine v_iand (pc := 34) X dX6_soon_34 ?_
        refine v_if_eq (pc := 35) (tgt := 48) X h dX6_soon_35 (by decide) (fun h => ?_) (fun h => ?_)
        · exact B48 _ _ _ h
        · refine v_aload_n (pc := 38) X rfl 0 rfl dX6_soon_38 ?_
          refine v_callVv (pc := 39) X (c_X6_cycle l g hI _ _ h) wd_367 wd_364 wd_365 wd_366 wd_5 ⟨rfl, rfl⟩ hdc_X6_cycle ⟨Nat.le_of_ble_eq_true rfl, Nat.le_of_ble_eq_true rfl⟩ ⟨Nat.le_refl 0, Nat.le_refl 0⟩ Nat.one_pos rfl rfl (As := []) rfl rfl (Nat.le_of_ble_eq_true rfl) dX6_soon_39 (fun m_3 h => ?_)
          refine v_iinc (pc := 42) (lv' := [(2, .int (b2 + 1)), (0, .ref (g.1 6 0)), (1, .int b1)]) (j := 2) X rfl (congrArg (HAdd.hAdd _) cst_i_1) (by decide) rfl dX6_soon_42 ?_
          refine v_goto (pc := 45) (tgt := 19) X dX6_soon_45 (by decide) ?_
          refine v_sub [1, 2, 0] rfl ?_
          exact ih _ _ _ h
  unfold wp_X6_soon at h
  refine v_aload_n (pc := 0) X rfl 0 rfl dX6_soon_0 ?_
  refine v_callVi (pc := 1) X (c_X6_inSet l g hI _ _ h) wd_568 wd_565 wd_566 wd_567 wd_5 ⟨rfl, rfl⟩ hdc_X6_inSet ⟨Nat.le_of_ble_eq_true rfl, Nat.le_of_ble_eq_true rfl⟩ ⟨Nat.le_refl 0, Nat.le_refl 0⟩ Nat.one_pos rfl rfl (As := []) rfl rfl (Nat.le_of_ble_eq_true rfl) dX6_soon_1 (fun x_2 m_1 h => ?_)
  refine v_istore_n (pc := 4) (lv' := [(1, .int x_2), (0, .ref (g.1 6 0))]) X rfl (by decide) rfl dX6_soon_4 ?_
  refine v_iload_n (pc := 5) X rfl 0 rfl dX6_soon_5 ?_
  refine v_if_ne (pc := 6) (tgt := 12) X h dX6_soon_6 (by decide) (fun h => ?_) (fun h => ?_)
  · refine v_aload_n (pc := 12) X rfl 1 rfl dX6_soon_12 ?_
    refine v_iconst (pc := 13) X cst_i_2 dX6_soon_13 ?_
    refine v_callVv (pc := 14) X (c_X6_save l g hI _ _ _ h) wd_572 wd_569 wd_570 wd_571 wd_5 ⟨rfl, rfl⟩ hdc_X6_save ⟨Nat.le_of_ble_eq_true rfl, Nat.le_of_ble_eq_true rfl⟩ ⟨Nat.le_refl 0, Nat.le_refl 0⟩ Nat.one_pos rfl rfl (As := [.int (nI 2)]) rfl rfl (Nat.le_of_ble_eq_true rfl) dX6_soon_14 (fun m_3 h => ?_)
    refine v_iconst (pc := 17) X cst_i_0 dX6_soon_17 ?_
    refine v_istore_n (pc := 18) (lv' := [(2, .int 0), (1, .int x_2), (0, .ref (g.1 6 0))]) X rfl (by decide) rfl dX6_soon_18 ?_
    refine v_sub [2, 1, 0] rfl ?_
    obtain ⟨n, h⟩ := h
    exact L19 n _ _ _ h
  · refine v_bipush (pc := 9) X cst_b_m6 dX6_soon_9 ?_
    exact v_iret (pc := 11) X hr hlk h dX6_soon_11

def wp_X6_bearsOne_b85 (a1 : Int32) (a2 : Int32) (a3 : Int32) (a4 : Int32) (q : Int32 → Mem → Prop) (b6 : Int32) (μ : Mem) : Prop :=
wp_X6_load (nI 2) μ (fun m_1 =>
nz b6 ∧ q b6 m_1)
def wp_X6_bearsOne_b77 (a1 : Int32) (a2 : Int32) (a3 : Int32) (a4 : Int32) (q : Int32 → Mem → Prop) (K : Int32 → Int32 → Int32 → Mem → Prop) (b5 : Int32) (b7 : Int32) (t0 : Int32) (μ : Mem) : Prop :=
K b5 t0 (b7 + 1) μ
def wp_X6_bearsOne_b76 (a1 : Int32) (a2 : Int32) (a3 : Int32) (a4 : Int32) (q : Int32 → Mem → Prop) (K : Int32 → Int32 → Int32 → Mem → Prop) (b5 : Int32) (b7 : Int32) (μ : Mem) : Prop :=
wp_X6_bearsOne_b77 a1 a2 a3 a4 q K b5 b7 0 μ
def wp_X6_bearsOne_l34 (a1 : Int32) (a2 : Int32) (a3 : Int32) (a4 : Int32) (q : Int32 → Mem → Prop) : Nat → Int32 → Int32 → Int32 → Mem → Prop
  | 0 => fun _ _ _ _ => False
  | n + 1 => fun b5 b6 b7 μ =>
((a3 ≤ b7 →
wp_X6_bearsOne_b85 a1 a2 a3 a4 q b6 μ) ∧ (¬ a3 ≤ b7 →
((b6 = 0 →
wp_X6_bearsOne_b85 a1 a2 a3 a4 q b6 μ) ∧ (¬ b6 = 0 →
wp_X6_cycle  μ (fun m_1 =>
wp_X6_spreadBut a1 m_1 (fun x_3 m_2 =>
((a4 < x_3 →
wp_X6_bearsOne_b76 a1 a2 a3 a4 q (wp_X6_bearsOne_l34 a1 a2 a3 a4 q n) b5 b7 m_2) ∧ (¬ a4 < x_3 →
wp_X6_setOf (nI 4) m_2 (fun x_5 m_4 =>
((¬ (b5 &&& (x_5 ^^^ (-1))) = 0 →
wp_X6_bearsOne_b76 a1 a2 a3 a4 q (wp_X6_bearsOne_l34 a1 a2 a3 a4 q n) b5 b7 m_4) ∧ ((b5 &&& (x_5 ^^^ (-1))) = 0 →
wp_X6_bearsOne_b77 a1 a2 a3 a4 q (wp_X6_bearsOne_l34 a1 a2 a3 a4 q n) b5 b7 1 m_4)))))))))))
def wp_X6_bearsOne (a1 : Int32) (a2 : Int32) (a3 : Int32) (a4 : Int32) (μ : Mem) (q : Int32 → Mem → Prop) : Prop :=
wp_X6_setOf (nI 4) μ (fun x_2 m_1 =>
∀ y_3 : Int32, y_3 = (x_2 &&& ((1 <<< (a1 &&& 31)) ^^^ (-1))) →
wp_X6_save (nI 2) m_1 (fun m_4 =>
vp_in ((nI 24) + a1) 256 ∧ ∀ m_5 : Mem, m_5 = ms m_4 20 0 (((nI 24) + a1) : Int32).toNatClampNeg a2 →
∃ n : Nat, wp_X6_bearsOne_l34 a1 a2 a3 a4 q n y_3 1 0 m_5))
set_option maxRecDepth 100000 in
set_option maxHeartbeats 4000000 in
theorem c_X6_bearsOne (l : Launch) (g : GG) (hI : Inj g) (μ : Mem) (a1 : Int32) (a2 : Int32) (a3 : Int32) (a4 : Int32) (q : Int32 → Mem → Prop) (h : wp_X6_bearsOne a1 a2 a3 a4 μ q) : Met l yX6_bearsOne (Cond.code yX6_bearsOne cX6_bearsOne 8 (some .boolean) :: wsL_law) ({ frames := 6, cells := 0, slots := 0, locals := 131 }) (KP g [.ref (g.1 6 0), .int a1, .int a2, .int a3, .int a4] μ) (KQi g q) 0 0 (AA g) := by
  refine met_V (own := RX6) hI (by decide) rfl (Nat.le_of_ble_eq_true rfl) rfl (fun p e s m args below meth c X hr hlk => ?_)
  have B85 : ∀ (b6 : Int32) (μ : Mem), wp_X6_bearsOne_b85 a1 a2 a3 a4 q b6 μ → V p l e ({ frames := 6, cells := 0, slots := 0, locals := 131 }) s m args below meth c 8 g (AA g) 0 0 (MQ below (KQi g q) args s 0 0 (AA g)) μ 85 [(0, .ref (g.1 6 0)), (6, .int b6)] [] := by
    intro b6 μ h
    unfold wp_X6_bearsOne_b85 at h
    refine v_aload_n (pc := 85) X rfl 0 rfl dX6_bearsOne_85 ?_
    refine v_iconst (pc := 86) X cst_i_2 dX6_bearsOne_86 ?_
    refine v_callVv (pc := 87) X (c_X6_load l g hI _ _ _ h) wd_576 wd_573 wd_574 wd_575 wd_5 ⟨rfl, rfl⟩ hdc_X6_load ⟨Nat.le_of_ble_eq_true rfl, Nat.le_of_ble_eq_true rfl⟩ ⟨Nat.le_refl 0, Nat.le_refl 0⟩ Nat.one_pos rfl rfl (As := [.int (nI 2)]) rfl rfl (Nat.le_of_ble_eq_true rfl) dX6_bearsOne_87 (fun m_1 h => ?_)
    refine v_iload (pc := 90) X 1 rfl dX6_bearsOne_90 ?_
    exact v_zret (pc := 92) X hr hlk h dX6_bearsOne_92
  have L34 : ∀ (n : Nat) (b5 : Int32) (b6 : Int32) (b7 : Int32) (μ : Mem), wp_X6_bearsOne_l34 a1 a2 a3 a4 q n b5 b6 b7 μ → V p l e ({ frames := 6, cells := 0, slots := 0, locals := 131 }) s m args below meth c 8 g (AA g) 0 0 (MQ below (KQi g q) args s 0 0 (AA g)) μ 34 [(0, .ref (g.1 6 0)), (1, .int a1), (3, .int a3), (4, .int a4), (5, .int b5), (6, .int b6), (7, .int b7)] [] := by
    intro n
    induction n with
    | zero => intro b5 b6 b7 μ h; exact h.elim
    | succ n ih =>
      have B77 : ∀ (b5 : Int32) (b7 : Int32) (t0 : Int32) (μ : Mem), wp_X6_bearsOne_b77 a1 a2 a3 a4 q (wp_X6_bearsOne_l34 a1 a2 a3 a4 q n) b5 b7 t0 μ → V p l e ({ frames := 6, cells := 0, slots := 0, locals := 131 }) s m args below meth c 8 g (AA g) 0 0 (MQ below (KQi g q) args s 0 0 (AA g)) μ 77 [(0, .ref (g.1 6 0)), (1, .int a1), (3, .int a3), (4, .int a4), (5, .int b5), (7, .int b7)] [.int t0] := by
        intro b5 b7 t0 μ h
        unfold wp_X6_bearsOne_b77 at h
        refine v_istore (pc := 77) (lv' := [(6, .int t0), (0, .ref (g.1 6 0)), (1, .int a1), (3, .int a3), (4, .int a4), (5, .int b5), (7, .int b7)]) X (by decide) rfl dX6_bearsOne_77 ?_
        refine v_iinc (pc := 79) (lv' := [(7, .int (b7 + 1)), (6, .int t0), (0, .ref (g.1 6 0)), (1, .int a1), (3, .int a3), (4, .int a4), (5, .int b5)]) (j := 6) X rfl (congrArg (HAdd.hAdd _) cst_i_1) (by decide) rfl dX6_bearsOne_79 ?_
        refine v_goto (pc := 82) (tgt := 34) X dX6_bearsOne_82 (by decide) ?_
        refine v_sub [2, 3, 4, 5, 6, 1, 0] rfl ?_
        exact ih _ _ _ _ h
      have B76 : ∀ (b5 : Int32) (b7 : Int32) (μ : Mem), wp_X6_bearsOne_b76 a1 a2 a3 a4 q (wp_X6_bearsOne_l34 a1 a2 a3 a4 q n) b5 b7 μ → V p l e ({ frames := 6, cells := 0, slots := 0, locals := 131 }) s m args below meth c 8 g (AA g) 0 0 (MQ below (KQi g q) args s 0 0 (AA g)) μ 76 [(0, .ref (g.1 6 0)), (1, .int a1), (3, .int a3), (4, .int a4), (5, .int b5), (7, .int b7)] [] := by
        intro b5 b7 μ h
        unfold wp_X6_bearsOne_b76 at h
        refine v_iconst (pc := 76) X cst_i_0 dX6_bearsOne_76 ?_
        exact B77 _ _ _ _ h
      intro b5 b6 b7 μ h
      unfold wp_X6_bearsOne_l34 at h
      refine v_iload (pc := 34) X 6 rfl dX6_bearsOne_34 ?_
      refine v_iload_n (pc := 36) X rfl 2 rfl dX6_bearsOne_36 ?_
      refine v_icmp_ge (pc := 37) (tgt := 85) X h dX6_bearsOne_37 (by decide) (fun h => ?_) (fun h => ?_)
      · refine v_sub [0, 5] rfl ?_
        exact B85 _ _ h
      · refine v_iload (pc := 40) X 5 rfl dX6_bearsOne_40 ?_
        refine v_if_eq (pc := 42) (tgt := 85) X h dX6_bearsOne_42 (by decide) (fun h => ?_) (fun h => ?_)
        · refine v_sub [0, 5] rfl ?_
          exact B85 _ _ h
        · refine v_aload_n (pc := 45) X rfl 0 rfl dX6_bearsOne_45 ?_
          refine v_callVv (pc := 46) X (c_X6_cycle l g hI _ _ h) wd_367 wd_364 wd_365 wd_366 wd_5 ⟨rfl, rfl⟩ hdc_X6_cycle ⟨Nat.le_of_ble_eq_true rfl, Nat.le_of_ble_eq_true rfl⟩ ⟨Nat.le_refl 0, Nat.le_refl 0⟩ Nat.one_pos rfl rfl (As := []) rfl rfl (Nat.le_of_ble_eq_true rfl) dX6_bearsOne_46 (fun m_1 h => ?_)
          refine v_aload_n (pc := 49) X rfl 0 rfl dX6_bearsOne_49 ?_
          refine v_iload_n (pc := 50) X rfl 1 rfl dX6_bearsOne_50 ?_
          refine v_callVi (pc := 51) X (c_X6_spreadBut l g hI _ _ _ h) wd_537 wd_534 wd_535 wd_536 wd_5 ⟨rfl, rfl⟩ hdc_X6_spreadBut ⟨Nat.le_of_ble_eq_true rfl, Nat.le_of_ble_eq_true rfl⟩ ⟨Nat.le_refl 0, Nat.le_refl 0⟩ Nat.one_pos rfl rfl (As := [.int a1]) rfl rfl (Nat.le_of_ble_eq_true rfl) dX6_bearsOne_51 (fun x_3 m_2 h => ?_)
          refine v_iload (pc := 54) X 3 rfl dX6_bearsOne_54 ?_
          refine v_icmp_gt (pc := 56) (tgt := 76) X h dX6_bearsOne_56 (by decide) (fun h => ?_) (fun h => ?_)
          · refine v_sub [0, 1, 2, 3, 4, 6] rfl ?_
            exact B76 _ _ _ h
          · refine v_iload (pc := 59) X 4 rfl dX6_bearsOne_59 ?_
            refine v_aload_n (pc := 61) X rfl 0 rfl dX6_bearsOne_61 ?_
            refine v_iconst (pc := 62) X cst_i_4 dX6_bearsOne_62 ?_
            refine v_callVi (pc := 63) X (c_X6_setOf l g hI _ _ _ h) wd_451 wd_448 wd_449 wd_450 wd_5 ⟨rfl, rfl⟩ hdc_X6_setOf ⟨Nat.le_of_ble_eq_true rfl, Nat.le_of_ble_eq_true rfl⟩ ⟨Nat.le_refl 0, Nat.le_refl 0⟩ Nat.one_pos rfl rfl (As := [.int (nI 4)]) rfl rfl (Nat.le_of_ble_eq_true rfl) dX6_bearsOne_63 (fun x_5 m_4 h => ?_)
            refine v_iconst (pc := 66) X cst_i_m1 dX6_bearsOne_66 ?_
            refine v_ixor (pc := 67) X dX6_bearsOne_67 ?_
            refine v_iand (pc := 68) X dX6_bearsOne_68 ?_
            refine v_if_ne (pc := 69) (tgt := 76) X h dX6_bearsOne_69 (by decide) (fun h => ?_) (fun h => ?_)
            · refine v_sub [0, 1, 2, 3, 4, 6] rfl ?_
              exact B76 _ _ _ h
            · refine v_iconst (pc := 72) X cst_i_1 dX6_bearsOne_72 ?_
              refine v_goto (pc := 73) (tgt := 77) X dX6_bearsOne_73 (by decide) ?_
              refine v_sub [0, 1, 2, 3, 4, 6] rfl ?_
              exact B77 _ _ _ _ h
  unfold wp_X6_bearsOne at h
  refine v_aload_n (pc := 0) X rfl 0 rfl dX6_bearsOne_0 ?_
  refine v_iconst (pc := 1) X cst_i_4 dX6_bearsOne_1 ?_
  refine v_callVi (pc := 2) X (c_X6_setOf l g hI _ _ _ h) wd_451 wd_448 wd_449 wd_450 wd_5 ⟨rfl, rfl⟩ hdc_X6_setOf ⟨Nat.le_of_ble_eq_true rfl, Nat.le_of_ble_eq_true rfl⟩ ⟨Nat.le_refl 0, Nat.le_refl 0⟩ Nat.one_pos rfl rfl (As := [.int (nI 4)]) rfl rfl (Nat.le_of_ble_eq_true rfl) dX6_bearsOne_2 (fun x_2 m_1 h => ?_)
  refine v_iconst (pc := 5) X cst_i_1 dX6_bearsOne_5 ?_
  refine v_iload_n (pc := 6) X rfl 1 rfl dX6_bearsOne_6 ?_
  refine v_ishl (pc := 7) X dX6_bearsOne_7 ?_
  refine v_iconst (pc := 8) X cst_i_m1 dX6_bearsOne_8 ?_
  refine v_ixor (pc := 9) X dX6_bearsOne_9 ?_
  refine v_iand (pc := 10) X dX6_bearsOne_10 ?_
  refine v_nm h (fun y_3 h => ?_)
  refine v_istore (pc := 11) (lv' := [(5, .int y_3), (0, .ref (g.1 6 0)), (1, .int a1), (2, .int a2), (3, .int a3), (4, .int a4)]) X (by decide) rfl dX6_bearsOne_11 ?_
  refine v_aload_n (pc := 13) X rfl 1 rfl dX6_bearsOne_13 ?_
  refine v_iconst (pc := 14) X cst_i_2 dX6_bearsOne_14 ?_
  refine v_callVv (pc := 15) X (c_X6_save l g hI _ _ _ h) wd_572 wd_569 wd_570 wd_571 wd_5 ⟨rfl, rfl⟩ hdc_X6_save ⟨Nat.le_of_ble_eq_true rfl, Nat.le_of_ble_eq_true rfl⟩ ⟨Nat.le_refl 0, Nat.le_refl 0⟩ Nat.one_pos rfl rfl (As := [.int (nI 2)]) rfl rfl (Nat.le_of_ble_eq_true rfl) dX6_bearsOne_15 (fun m_4 h => ?_)
  refine v_aload_n (pc := 18) X rfl 1 rfl dX6_bearsOne_18 ?_
  refine gf_6_0 (pc := 19) X Nat.one_pos wd_91 dX6_bearsOne_19 ?_
  refine v_bipush (pc := 22) X cst_b_24 dX6_bearsOne_22 ?_
  refine v_iload_n (pc := 24) X rfl 2 rfl dX6_bearsOne_24 ?_
  refine v_iadd (pc := 25) X dX6_bearsOne_25 ?_
  refine v_iload_n (pc := 26) X rfl 3 rfl dX6_bearsOne_26 ?_
  refine as_20 (pc := 27) X Nat.one_pos h dX6_bearsOne_27 (fun m_5 h => ?_)
  refine v_iconst (pc := 28) X cst_i_1 dX6_bearsOne_28 ?_
  refine v_istore (pc := 29) (lv' := [(6, .int 1), (5, .int y_3), (0, .ref (g.1 6 0)), (1, .int a1), (2, .int a2), (3, .int a3), (4, .int a4)]) X (by decide) rfl dX6_bearsOne_29 ?_
  refine v_iconst (pc := 31) X cst_i_0 dX6_bearsOne_31 ?_
  refine v_istore (pc := 32) (lv' := [(7, .int 0), (6, .int 1), (5, .int y_3), (0, .ref (g.1 6 0)), (1, .int a1), (2, .int a2), (3, .int a3), (4, .int a4)]) X (by decide) rfl dX6_bearsOne_32 ?_
  refine v_sub [3, 4, 6, 7, 2, 1, 0] rfl ?_
  obtain ⟨n, h⟩ := h
  exact L34 n _ _ _ _ h

def wp_X6_bears_l38 (a1 : Int32) (a2 : Int32) (a3 : Int32) (q : Int32 → Mem → Prop) : Nat → Int32 → Mem → Prop
  | 0 => fun _ _ => False
  | n + 1 => fun b4 μ =>
((b4 < 0 →
q (-6) μ) ∧ (¬ b4 < 0 →
wp_X6_bearsOne a1 b4 a2 a3 μ (fun x_2 m_1 =>
((x_2 = 0 →
wp_X6_bears_l38 a1 a2 a3 q n (b4 + (-10)) m_1) ∧ (¬ x_2 = 0 →
q b4 m_1)))))
def wp_X6_bears (a1 : Int32) (a2 : Int32) (a3 : Int32) (μ : Mem) (q : Int32 → Mem → Prop) : Prop :=
wp_X6_isNode a1 μ (fun x_2 m_1 =>
((¬ x_2 = 0 →
wp_X6_in a2 1 (nI 40) m_1 (fun x_4 m_3 =>
((x_4 = 0 →
q (-2) m_3) ∧ (¬ x_4 = 0 →
wp_X6_in a3 0 (nI 999) m_3 (fun x_6 m_5 =>
((¬ x_6 = 0 →
∃ n : Nat, wp_X6_bears_l38 a1 a2 a3 q n (nI 400) m_5) ∧ (x_6 = 0 →
q (-2) m_5))))))) ∧ (x_2 = 0 →
q (-1) m_1)))
set_option maxRecDepth 100000 in
set_option maxHeartbeats 4000000 in
theorem c_X6_bears (l : Launch) (g : GG) (hI : Inj g) (μ : Mem) (a1 : Int32) (a2 : Int32) (a3 : Int32) (q : Int32 → Mem → Prop) (h : wp_X6_bears a1 a2 a3 μ q) : Met l yX6_bears (Cond.code yX6_bears cX6_bears 5 (some .int) :: wsL_law) ({ frames := 7, cells := 0, slots := 0, locals := 158 }) (KP g [.ref (g.1 6 0), .int a1, .int a2, .int a3] μ) (KQi g q) 0 0 (AA g) := by
  refine met_V (own := RX6) hI (by decide) rfl (Nat.le_of_ble_eq_true rfl) rfl (fun p e s m args below meth c X hr hlk => ?_)
  have L38 : ∀ (n : Nat) (b4 : Int32) (μ : Mem), wp_X6_bears_l38 a1 a2 a3 q n b4 μ → V p l e ({ frames := 7, cells := 0, slots := 0, locals := 158 }) s m args below meth c 5 g (AA g) 0 0 (MQ below (KQi g q) args s 0 0 (AA g)) μ 38 [(0, .ref (g.1 6 0)), (1, .int a1), (2, .int a2), (3, .int a3), (4, .int b4)] [] := by
    intro n
    induction n with
    | zero => intro b4 μ h; exact h.elim
    | succ n ih =>
      intro b4 μ h
      unfold wp_X6_bears_l38 at h
      refine v_iload (pc := 38) X 4 rfl dX6_bears_38 ?_
      refine v_if_lt (pc := 40) (tgt := 64) X h dX6_bears_40 (by decide) (fun h => ?_) (fun h => ?_)
      · refine v_bipush (pc := 64) X cst_b_m6 dX6_bears_64 ?_
        exact v_iret (pc := 66) X hr hlk h dX6_bears_66
      · refine v_aload_n (pc := 43) X rfl 0 rfl dX6_bears_43 ?_
        refine v_iload_n (pc := 44) X rfl 1 rfl dX6_bears_44 ?_
        refine v_iload (pc := 45) X 4 rfl dX6_bears_45 ?_
        refine v_iload_n (pc := 47) X rfl 2 rfl dX6_bears_47 ?_
        refine v_iload_n (pc := 48) X rfl 3 rfl dX6_bears_48 ?_
        refine v_callVi (pc := 49) X (c_X6_bearsOne l g hI _ _ _ _ _ _ h) wd_593 wd_590 wd_591 wd_592 wd_5 ⟨rfl, rfl⟩ hdc_X6_bearsOne ⟨Nat.le_of_ble_eq_true rfl, Nat.le_of_ble_eq_true rfl⟩ ⟨Nat.le_refl 0, Nat.le_refl 0⟩ Nat.one_pos rfl rfl (As := [.int a1, .int b4, .int a2, .int a3]) rfl rfl (Nat.le_of_ble_eq_true rfl) dX6_bears_49 (fun x_2 m_1 h => ?_)
        refine v_if_eq (pc := 52) (tgt := 58) X h dX6_bears_52 (by decide) (fun h => ?_) (fun h => ?_)
        · refine v_iinc (pc := 58) (lv' := [(4, .int (b4 + (-10))), (0, .ref (g.1 6 0)), (1, .int a1), (2, .int a2), (3, .int a3)]) (j := 4) X rfl (congrArg (HAdd.hAdd _) cst_i_m10) (by decide) rfl dX6_bears_58 ?_
          refine v_goto (pc := 61) (tgt := 38) X dX6_bears_61 (by decide) ?_
          refine v_sub [1, 2, 3, 4, 0] rfl ?_
          exact ih _ _ h
        · refine v_iload (pc := 55) X 4 rfl dX6_bears_55 ?_
          exact v_iret (pc := 57) X hr hlk h dX6_bears_57
  unfold wp_X6_bears at h
  refine v_iload_n (pc := 0) X rfl 1 rfl dX6_bears_0 ?_
  refine v_callSi (pc := 1) X (c_X6_isNode l g hI _ _ _ h) wd_131 wd_129 wd_130 wd_5 ⟨rfl, rfl⟩ hdc_X6_isNode ⟨Nat.le_of_ble_eq_true rfl, Nat.le_of_ble_eq_true rfl⟩ ⟨Nat.le_refl 0, Nat.le_refl 0⟩ (As := [.int a1]) rfl rfl (Nat.le_of_ble_eq_true rfl) dX6_bears_1 (fun x_2 m_1 h => ?_)
  refine v_if_ne (pc := 4) (tgt := 9) X h dX6_bears_4 (by decide) (fun h => ?_) (fun h => ?_)
  · refine v_iload_n (pc := 9) X rfl 2 rfl dX6_bears_9 ?_
    refine v_iconst (pc := 10) X cst_i_1 dX6_bears_10 ?_
    refine v_bipush (pc := 11) X cst_b_40 dX6_bears_11 ?_
    refine v_callSi (pc := 13) X (c_X6_in l g hI _ _ _ _ _ h) wd_134 wd_132 wd_133 wd_5 ⟨rfl, rfl⟩ hdc_X6_in ⟨Nat.le_of_ble_eq_true rfl, Nat.le_of_ble_eq_true rfl⟩ ⟨Nat.le_refl 0, Nat.le_refl 0⟩ (As := [.int a2, .int 1, .int (nI 40)]) rfl rfl (Nat.le_of_ble_eq_true rfl) dX6_bears_13 (fun x_4 m_3 h => ?_)
    refine v_if_eq (pc := 16) (tgt := 30) X h dX6_bears_16 (by decide) (fun h => ?_) (fun h => ?_)
    · refine v_bipush (pc := 30) X cst_b_m2 dX6_bears_30 ?_
      exact v_iret (pc := 32) X hr hlk h dX6_bears_32
    · refine v_iload_n (pc := 19) X rfl 3 rfl dX6_bears_19 ?_
      refine v_iconst (pc := 20) X cst_i_0 dX6_bears_20 ?_
      refine v_sipush (pc := 21) X cst_s_999 dX6_bears_21 ?_
      refine v_callSi (pc := 24) X (c_X6_in l g hI _ _ _ _ _ h) wd_134 wd_132 wd_133 wd_5 ⟨rfl, rfl⟩ hdc_X6_in ⟨Nat.le_of_ble_eq_true rfl, Nat.le_of_ble_eq_true rfl⟩ ⟨Nat.le_refl 0, Nat.le_refl 0⟩ (As := [.int a3, .int 0, .int (nI 999)]) rfl rfl (Nat.le_of_ble_eq_true rfl) dX6_bears_24 (fun x_6 m_5 h => ?_)
      refine v_if_ne (pc := 27) (tgt := 33) X h dX6_bears_27 (by decide) (fun h => ?_) (fun h => ?_)
      · refine v_sipush (pc := 33) X cst_s_400 dX6_bears_33 ?_
        refine v_istore (pc := 36) (lv' := [(4, .int (nI 400)), (0, .ref (g.1 6 0)), (1, .int a1), (2, .int a2), (3, .int a3)]) X (by decide) rfl dX6_bears_36 ?_
        refine v_sub [1, 2, 3, 4, 0] rfl ?_
        obtain ⟨n, h⟩ := h
        exact L38 n _ _ h
      · refine v_bipush (pc := 30) X cst_b_m2 dX6_bears_30 ?_
        exact v_iret (pc := 32) X hr hlk h dX6_bears_32
  · refine v_iconst (pc := 7) X cst_i_m1 dX6_bears_7 ?_
    exact v_iret (pc := 8) X hr hlk h dX6_bears_8

def wp_X6_image (a1 : Int32) (μ : Mem) (q : Int32 → Mem → Prop) : Prop :=
wp_X6_in a1 0 1 μ (fun x_2 m_1 =>
((¬ x_2 = 0 →
wp_X6_save a1 m_1 (fun m_3 =>
nz 1 ∧ vp_in a1 2 ∧ ∀ m_4 : Mem, m_4 = ms m_3 22 0 (a1 : Int32).toNatClampNeg 1 →
q 1 m_4)) ∧ (x_2 = 0 →
q (-2) m_1)))
set_option maxRecDepth 100000 in
set_option maxHeartbeats 4000000 in
theorem c_X6_image (l : Launch) (g : GG) (hI : Inj g) (μ : Mem) (a1 : Int32) (q : Int32 → Mem → Prop) (h : wp_X6_image a1 μ q) : Met l yX6_image (Cond.code yX6_image cX6_image 2 (some .int) :: wsL_law) ({ frames := 1, cells := 0, slots := 0, locals := 22 }) (KP g [.ref (g.1 6 0), .int a1] μ) (KQi g q) 0 0 (AA g) := by
  refine met_V (own := RX6) hI (by decide) rfl (Nat.le_of_ble_eq_true rfl) rfl (fun p e s m args below meth c X hr hlk => ?_)
  unfold wp_X6_image at h
  refine v_iload_n (pc := 0) X rfl 1 rfl dX6_image_0 ?_
  refine v_iconst (pc := 1) X cst_i_0 dX6_image_1 ?_
  refine v_iconst (pc := 2) X cst_i_1 dX6_image_2 ?_
  refine v_callSi (pc := 3) X (c_X6_in l g hI _ _ _ _ _ h) wd_134 wd_132 wd_133 wd_5 ⟨rfl, rfl⟩ hdc_X6_in ⟨Nat.le_of_ble_eq_true rfl, Nat.le_of_ble_eq_true rfl⟩ ⟨Nat.le_refl 0, Nat.le_refl 0⟩ (As := [.int a1, .int 0, .int 1]) rfl rfl (Nat.le_of_ble_eq_true rfl) dX6_image_3 (fun x_2 m_1 h => ?_)
  refine v_if_ne (pc := 6) (tgt := 12) X h dX6_image_6 (by decide) (fun h => ?_) (fun h => ?_)
  · refine v_aload_n (pc := 12) X rfl 0 rfl dX6_image_12 ?_
    refine v_iload_n (pc := 13) X rfl 1 rfl dX6_image_13 ?_
    refine v_callVv (pc := 14) X (c_X6_save l g hI _ _ _ h) wd_572 wd_569 wd_570 wd_571 wd_5 ⟨rfl, rfl⟩ hdc_X6_save ⟨Nat.le_of_ble_eq_true rfl, Nat.le_of_ble_eq_true rfl⟩ ⟨Nat.le_refl 0, Nat.le_refl 0⟩ Nat.one_pos rfl rfl (As := [.int a1]) rfl rfl (Nat.le_of_ble_eq_true rfl) dX6_image_14 (fun m_3 h => ?_)
    refine v_aload_n (pc := 17) X rfl 0 rfl dX6_image_17 ?_
    refine gf_6_2 (pc := 18) X Nat.one_pos wd_94 dX6_image_18 ?_
    refine v_iload_n (pc := 21) X rfl 1 rfl dX6_image_21 ?_
    refine v_iconst (pc := 22) X cst_i_1 dX6_image_22 ?_
    refine as_22 (pc := 23) X Nat.one_pos h dX6_image_23 (fun m_4 h => ?_)
    refine v_iconst (pc := 24) X cst_i_1 dX6_image_24 ?_
    exact v_iret (pc := 25) X hr hlk h dX6_image_25
  · refine v_bipush (pc := 9) X cst_b_m2 dX6_image_9 ?_
    exact v_iret (pc := 11) X hr hlk h dX6_image_11

def wp_X6_restore (a1 : Int32) (μ : Mem) (q : Int32 → Mem → Prop) : Prop :=
wp_X6_in a1 0 1 μ (fun x_2 m_1 =>
((¬ x_2 = 0 →
vp_in a1 2 ∧ ∀ x_3 : Int32, x_3 = m_1 22 0 (a1 : Int32).toNatClampNeg →
((¬ x_3 = 0 →
wp_X6_load a1 m_1 (fun m_4 =>
q 1 m_4)) ∧ (x_3 = 0 →
q (-3) m_1))) ∧ (x_2 = 0 →
q (-2) m_1)))
set_option maxRecDepth 100000 in
set_option maxHeartbeats 4000000 in
theorem c_X6_restore (l : Launch) (g : GG) (hI : Inj g) (μ : Mem) (a1 : Int32) (q : Int32 → Mem → Prop) (h : wp_X6_restore a1 μ q) : Met l yX6_restore (Cond.code yX6_restore cX6_restore 2 (some .int) :: wsL_law) ({ frames := 1, cells := 0, slots := 0, locals := 22 }) (KP g [.ref (g.1 6 0), .int a1] μ) (KQi g q) 0 0 (AA g) := by
  refine met_V (own := RX6) hI (by decide) rfl (Nat.le_of_ble_eq_true rfl) rfl (fun p e s m args below meth c X hr hlk => ?_)
  unfold wp_X6_restore at h
  refine v_iload_n (pc := 0) X rfl 1 rfl dX6_restore_0 ?_
  refine v_iconst (pc := 1) X cst_i_0 dX6_restore_1 ?_
  refine v_iconst (pc := 2) X cst_i_1 dX6_restore_2 ?_
  refine v_callSi (pc := 3) X (c_X6_in l g hI _ _ _ _ _ h) wd_134 wd_132 wd_133 wd_5 ⟨rfl, rfl⟩ hdc_X6_in ⟨Nat.le_of_ble_eq_true rfl, Nat.le_of_ble_eq_true rfl⟩ ⟨Nat.le_refl 0, Nat.le_refl 0⟩ (As := [.int a1, .int 0, .int 1]) rfl rfl (Nat.le_of_ble_eq_true rfl) dX6_restore_3 (fun x_2 m_1 h => ?_)
  refine v_if_ne (pc := 6) (tgt := 12) X h dX6_restore_6 (by decide) (fun h => ?_) (fun h => ?_)
  · refine v_aload_n (pc := 12) X rfl 0 rfl dX6_restore_12 ?_
    refine gf_6_2 (pc := 13) X Nat.one_pos wd_94 dX6_restore_13 ?_
    refine v_iload_n (pc := 16) X rfl 1 rfl dX6_restore_16 ?_
    refine al_22 (pc := 17) X Nat.one_pos h dX6_restore_17 (fun x_3 h => ?_)
    refine v_if_ne (pc := 18) (tgt := 24) X h dX6_restore_18 (by decide) (fun h => ?_) (fun h => ?_)
    · refine v_aload_n (pc := 24) X rfl 0 rfl dX6_restore_24 ?_
      refine v_iload_n (pc := 25) X rfl 1 rfl dX6_restore_25 ?_
      refine v_callVv (pc := 26) X (c_X6_load l g hI _ _ _ h) wd_576 wd_573 wd_574 wd_575 wd_5 ⟨rfl, rfl⟩ hdc_X6_load ⟨Nat.le_of_ble_eq_true rfl, Nat.le_of_ble_eq_true rfl⟩ ⟨Nat.le_refl 0, Nat.le_refl 0⟩ Nat.one_pos rfl rfl (As := [.int a1]) rfl rfl (Nat.le_of_ble_eq_true rfl) dX6_restore_26 (fun m_4 h => ?_)
      refine v_iconst (pc := 29) X cst_i_1 dX6_restore_29 ?_
      exact v_iret (pc := 30) X hr hlk h dX6_restore_30
    · refine v_bipush (pc := 21) X cst_b_m3 dX6_restore_21 ?_
      exact v_iret (pc := 23) X hr hlk h dX6_restore_23
  · refine v_bipush (pc := 9) X cst_b_m2 dX6_restore_9 ?_
    exact v_iret (pc := 11) X hr hlk h dX6_restore_11

def wp_X6_count_b108 (a1 : Int32) (q : Int32 → Mem → Prop) (t0 : Int32) (t1 : Int32) (μ : Mem) : Prop :=
q (t0 + t1) μ
def wp_X6_count_b94 (a1 : Int32) (q : Int32 → Mem → Prop) (t0 : Int32) (μ : Mem) : Prop :=
vp_in 1 2 ∧ ∀ x_1 : Int32, x_1 = μ 22 0 (1 : Int32).toNatClampNeg →
((x_1 = 0 →
wp_X6_count_b108 a1 q t0 0 μ) ∧ (¬ x_1 = 0 →
wp_X6_count_b108 a1 q t0 (nI 2) μ))
def wp_X6_count (a1 : Int32) (μ : Mem) (q : Int32 → Mem → Prop) : Prop :=
((a1 = 0 →
vp_in (nI 133) 256 ∧ ∀ x_2 : Int32, x_2 = μ 20 0 ((nI 133) : Int32).toNatClampNeg →
q x_2 μ) ∧ (¬ a1 = 0 →
((a1 = 1 →
vp_in (nI 134) 256 ∧ ∀ x_4 : Int32, x_4 = μ 20 0 ((nI 134) : Int32).toNatClampNeg →
q x_4 μ) ∧ (¬ a1 = 1 →
((a1 = nI 2 →
wp_X6_setOf (nI 4) μ (fun x_7 m_6 =>
q x_7 m_6)) ∧ (¬ a1 = nI 2 →
((a1 = nI 3 →
wp_X6_setOf (nI 6) μ (fun x_10 m_9 =>
q x_10 m_9)) ∧ (¬ a1 = nI 3 →
((a1 = nI 4 →
vp_in (nI 132) 256 ∧ ∀ x_12 : Int32, x_12 = μ 20 0 ((nI 132) : Int32).toNatClampNeg →
q x_12 μ) ∧ (¬ a1 = nI 4 →
((a1 = nI 5 →
vp_in 0 2 ∧ ∀ x_14 : Int32, x_14 = μ 22 0 (0 : Int32).toNatClampNeg →
((x_14 = 0 →
wp_X6_count_b94 a1 q 0 μ) ∧ (¬ x_14 = 0 →
wp_X6_count_b94 a1 q 1 μ))) ∧ (¬ a1 = nI 5 →
q (-2) μ))))))))))))
set_option maxRecDepth 100000 in
set_option maxHeartbeats 4000000 in
theorem c_X6_count (l : Launch) (g : GG) (hI : Inj g) (μ : Mem) (a1 : Int32) (q : Int32 → Mem → Prop) (h : wp_X6_count a1 μ q) : Met l yX6_count (Cond.code yX6_count cX6_count 2 (some .int) :: wsL_law) ({ frames := 2, cells := 0, slots := 0, locals := 45 }) (KP g [.ref (g.1 6 0), .int a1] μ) (KQi g q) 0 0 (AA g) := by
  refine met_V (own := RX6) hI (by decide) rfl (Nat.le_of_ble_eq_true rfl) rfl (fun p e s m args below meth c X hr hlk => ?_)
  have B108 : ∀ (t0 : Int32) (t1 : Int32) (μ : Mem), wp_X6_count_b108 a1 q t0 t1 μ → V p l e ({ frames := 2, cells := 0, slots := 0, locals := 45 }) s m args below meth c 2 g (AA g) 0 0 (MQ below (KQi g q) args s 0 0 (AA g)) μ 108 [] [.int t1, .int t0] := by
    intro t0 t1 μ h
    unfold wp_X6_count_b108 at h
    refine v_iadd (pc := 108) X dX6_count_108 ?_
    exact v_iret (pc := 109) X hr hlk h dX6_count_109
  have B94 : ∀ (t0 : Int32) (μ : Mem), wp_X6_count_b94 a1 q t0 μ → V p l e ({ frames := 2, cells := 0, slots := 0, locals := 45 }) s m args below meth c 2 g (AA g) 0 0 (MQ below (KQi g q) args s 0 0 (AA g)) μ 94 [(0, .ref (g.1 6 0))] [.int t0] := by
    intro t0 μ h
    unfold wp_X6_count_b94 at h
    refine v_aload_n (pc := 94) X rfl 0 rfl dX6_count_94 ?_
    refine gf_6_2 (pc := 95) X Nat.one_pos wd_94 dX6_count_95 ?_
    refine v_iconst (pc := 98) X cst_i_1 dX6_count_98 ?_
    refine al_22 (pc := 99) X Nat.one_pos h dX6_count_99 (fun x_1 h => ?_)
    refine v_if_eq (pc := 100) (tgt := 107) X h dX6_count_100 (by decide) (fun h => ?_) (fun h => ?_)
    · refine v_iconst (pc := 107) X cst_i_0 dX6_count_107 ?_
      refine v_sub [] rfl ?_
      exact B108 _ _ _ h
    · refine v_iconst (pc := 103) X cst_i_2 dX6_count_103 ?_
      refine v_goto (pc := 104) (tgt := 108) X dX6_count_104 (by decide) ?_
      refine v_sub [] rfl ?_
      exact B108 _ _ _ h
  unfold wp_X6_count at h
  refine v_iload_n (pc := 0) X rfl 1 rfl dX6_count_0 ?_
  by_cases e_1 : a1 = 0
  · replace h := h.1 e_1
    refine v_tswK (pc := 1) (tgt := 40) X 0 (by rw [e_1]; decide) (by decide) (by decide) rfl (by decide) dX6_count_1 ?_
    refine v_aload_n (pc := 40) X rfl 0 rfl dX6_count_40 ?_
    refine gf_6_0 (pc := 41) X Nat.one_pos wd_91 dX6_count_41 ?_
    refine v_sipush (pc := 44) X cst_s_133 dX6_count_44 ?_
    refine al_20 (pc := 47) X Nat.one_pos h dX6_count_47 (fun x_2 h => ?_)
    exact v_iret (pc := 48) X hr hlk h dX6_count_48
  · replace h := h.2 e_1
    by_cases e_3 : a1 = 1
    · replace h := h.1 e_3
      refine v_tswK (pc := 1) (tgt := 49) X 1 (by rw [e_3]; decide) (by decide) (by decide) rfl (by decide) dX6_count_1 ?_
      refine v_aload_n (pc := 49) X rfl 0 rfl dX6_count_49 ?_
      refine gf_6_0 (pc := 50) X Nat.one_pos wd_91 dX6_count_50 ?_
      refine v_sipush (pc := 53) X cst_s_134 dX6_count_53 ?_
      refine al_20 (pc := 56) X Nat.one_pos h dX6_count_56 (fun x_4 h => ?_)
      exact v_iret (pc := 57) X hr hlk h dX6_count_57
    · replace h := h.2 e_3
      by_cases e_5 : a1 = nI 2
      · replace h := h.1 e_5
        refine v_tswK (pc := 1) (tgt := 58) X 2 (by rw [e_5]; decide) (by decide) (by decide) rfl (by decide) dX6_count_1 ?_
        refine v_aload_n (pc := 58) X rfl 0 rfl dX6_count_58 ?_
        refine v_iconst (pc := 59) X cst_i_4 dX6_count_59 ?_
        refine v_callVi (pc := 60) X (c_X6_setOf l g hI _ _ _ h) wd_451 wd_448 wd_449 wd_450 wd_5 ⟨rfl, rfl⟩ hdc_X6_setOf ⟨Nat.le_of_ble_eq_true rfl, Nat.le_of_ble_eq_true rfl⟩ ⟨Nat.le_refl 0, Nat.le_refl 0⟩ Nat.one_pos rfl rfl (As := [.int (nI 4)]) rfl rfl (Nat.le_of_ble_eq_true rfl) dX6_count_60 (fun x_7 m_6 h => ?_)
        exact v_iret (pc := 63) X hr hlk h dX6_count_63
      · replace h := h.2 e_5
        by_cases e_8 : a1 = nI 3
        · replace h := h.1 e_8
          refine v_tswK (pc := 1) (tgt := 64) X 3 (by rw [e_8]; decide) (by decide) (by decide) rfl (by decide) dX6_count_1 ?_
          refine v_aload_n (pc := 64) X rfl 0 rfl dX6_count_64 ?_
          refine v_bipush (pc := 65) X cst_b_6 dX6_count_65 ?_
          refine v_callVi (pc := 67) X (c_X6_setOf l g hI _ _ _ h) wd_451 wd_448 wd_449 wd_450 wd_5 ⟨rfl, rfl⟩ hdc_X6_setOf ⟨Nat.le_of_ble_eq_true rfl, Nat.le_of_ble_eq_true rfl⟩ ⟨Nat.le_refl 0, Nat.le_refl 0⟩ Nat.one_pos rfl rfl (As := [.int (nI 6)]) rfl rfl (Nat.le_of_ble_eq_true rfl) dX6_count_67 (fun x_10 m_9 h => ?_)
          exact v_iret (pc := 70) X hr hlk h dX6_count_70
        · replace h := h.2 e_8
          by_cases e_11 : a1 = nI 4
          · replace h := h.1 e_11
            refine v_tswK (pc := 1) (tgt := 71) X 4 (by rw [e_11]; decide) (by decide) (by decide) rfl (by decide) dX6_count_1 ?_
            refine v_aload_n (pc := 71) X rfl 0 rfl dX6_count_71 ?_
            refine gf_6_0 (pc := 72) X Nat.one_pos wd_91 dX6_count_72 ?_
            refine v_sipush (pc := 75) X cst_s_132 dX6_count_75 ?_
            refine al_20 (pc := 78) X Nat.one_pos h dX6_count_78 (fun x_12 h => ?_)
            exact v_iret (pc := 79) X hr hlk h dX6_count_79
          · replace h := h.2 e_11
            by_cases e_13 : a1 = nI 5
            · replace h := h.1 e_13
              refine v_tswK (pc := 1) (tgt := 80) X 5 (by rw [e_13]; decide) (by decide) (by decide) rfl (by decide) dX6_count_1 ?_
              refine v_aload_n (pc := 80) X rfl 0 rfl dX6_count_80 ?_
              refine gf_6_2 (pc := 81) X Nat.one_pos wd_94 dX6_count_81 ?_
              refine v_iconst (pc := 84) X cst_i_0 dX6_count_84 ?_
              refine al_22 (pc := 85) X Nat.one_pos h dX6_count_85 (fun x_14 h => ?_)
              refine v_if_eq (pc := 86) (tgt := 93) X h dX6_count_86 (by decide) (fun h => ?_) (fun h => ?_)
              · refine v_iconst (pc := 93) X cst_i_0 dX6_count_93 ?_
                refine v_sub [0] rfl ?_
                exact B94 _ _ h
              · refine v_iconst (pc := 89) X cst_i_1 dX6_count_89 ?_
                refine v_goto (pc := 90) (tgt := 94) X dX6_count_90 (by decide) ?_
                refine v_sub [0] rfl ?_
                exact B94 _ _ h
            · replace h := h.2 e_13
              refine v_tswD (pc := 1) (tgt := 110) X (by have ne_1 := lv_neT e_1 (a := 0) (by decide); have ne_3 := lv_neT e_3 (a := 1) (by decide); have ne_5 := lv_neT e_5 (a := 2) (by decide); have ne_8 := lv_neT e_8 (a := 3) (by decide); have ne_11 := lv_neT e_11 (a := 4) (by decide); have ne_13 := lv_neT e_13 (a := 5) (by decide); omega) (by decide) dX6_count_1 ?_
              refine v_bipush (pc := 110) X cst_b_m2 dX6_count_110 ?_
              exact v_iret (pc := 112) X hr hlk h dX6_count_112
