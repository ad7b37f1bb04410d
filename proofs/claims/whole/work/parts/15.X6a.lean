theorem cst_b_12 : (Int8.ofInt 12).toInt32 = ((nI 12) : Int32) := by decide +kernel
theorem cst_b_18 : (Int8.ofInt 18).toInt32 = ((nI 18) : Int32) := by decide +kernel
theorem cst_b_30 : (Int8.ofInt 30).toInt32 = ((nI 30) : Int32) := by decide +kernel
theorem cst_b_36 : (Int8.ofInt 36).toInt32 = ((nI 36) : Int32) := by decide +kernel
theorem cst_b_42 : (Int8.ofInt 42).toInt32 = ((nI 42) : Int32) := by decide +kernel
theorem cst_b_48 : (Int8.ofInt 48).toInt32 = ((nI 48) : Int32) := by decide +kernel
theorem cst_b_54 : (Int8.ofInt 54).toInt32 = ((nI 54) : Int32) := by decide +kernel
theorem cst_b_60 : (Int8.ofInt 60).toInt32 = ((nI 60) : Int32) := by decide +kernel
theorem cst_b_66 : (Int8.ofInt 66).toInt32 = ((nI 66) : Int32) := by decide +kernel
theorem cst_b_72 : (Int8.ofInt 72).toInt32 = ((nI 72) : Int32) := by decide +kernel
theorem cst_s_132 : (Int16.ofInt 132).toInt32 = ((nI 132) : Int32) := by decide +kernel
theorem hdc_X6_begin : yX6_begin.cls ≠ "java/lang/invoke/MethodHandle" ∧ yX6_begin.cls ≠ "java/lang/invoke/VarHandle" ∧ (parseMethodDescriptor yX6_begin.desc).map (fun d => d.parameters.length) = some 2 := by decide +kernel
theorem hdc_X6_givesWay : yX6_givesWay.cls ≠ "java/lang/invoke/MethodHandle" ∧ yX6_givesWay.cls ≠ "java/lang/invoke/VarHandle" ∧ (parseMethodDescriptor yX6_givesWay.desc).map (fun d => d.parameters.length) = some 1 := by decide +kernel
theorem hdc_X6_in : yX6_in.cls ≠ "java/lang/invoke/MethodHandle" ∧ yX6_in.cls ≠ "java/lang/invoke/VarHandle" ∧ (parseMethodDescriptor yX6_in.desc).map (fun d => d.parameters.length) = some 3 := by decide +kernel
theorem hdc_X6_is : yX6_is.cls ≠ "java/lang/invoke/MethodHandle" ∧ yX6_is.cls ≠ "java/lang/invoke/VarHandle" ∧ (parseMethodDescriptor yX6_is.desc).map (fun d => d.parameters.length) = some 2 := by decide +kernel
theorem hdc_X6_isFirst : yX6_isFirst.cls ≠ "java/lang/invoke/MethodHandle" ∧ yX6_isFirst.cls ≠ "java/lang/invoke/VarHandle" ∧ (parseMethodDescriptor yX6_isFirst.desc).map (fun d => d.parameters.length) = some 1 := by decide +kernel
theorem hdc_X6_isNode : yX6_isNode.cls ≠ "java/lang/invoke/MethodHandle" ∧ yX6_isNode.cls ≠ "java/lang/invoke/VarHandle" ∧ (parseMethodDescriptor yX6_isNode.desc).map (fun d => d.parameters.length) = some 1 := by decide +kernel
theorem hdc_X6_isOut : yX6_isOut.cls ≠ "java/lang/invoke/MethodHandle" ∧ yX6_isOut.cls ≠ "java/lang/invoke/VarHandle" ∧ (parseMethodDescriptor yX6_isOut.desc).map (fun d => d.parameters.length) = some 1 := by decide +kernel
theorem hdc_X6_isTaken : yX6_isTaken.cls ≠ "java/lang/invoke/MethodHandle" ∧ yX6_isTaken.cls ≠ "java/lang/invoke/VarHandle" ∧ (parseMethodDescriptor yX6_isTaken.desc).map (fun d => d.parameters.length) = some 2 := by decide +kernel
def wp_X6_in (a0 : Int32) (a1 : Int32) (a2 : Int32) (μ : Mem) (q : Int32 → Mem → Prop) : Prop :=
((a0 < a1 →
q 0 μ) ∧ (¬ a0 < a1 →
((a2 < a0 →
q 0 μ) ∧ (¬ a2 < a0 →
q 1 μ))))
set_option maxRecDepth 100000 in
set_option maxHeartbeats 4000000 in
theorem c_X6_in (l : Launch) (g : GG) (hI : Inj g) (μ : Mem) (a0 : Int32) (a1 : Int32) (a2 : Int32) (q : Int32 → Mem → Prop) (h : wp_X6_in a0 a1 a2 μ q) : Met l yX6_in (Cond.code yX6_in cX6_in 3 (some .boolean) :: wsL_law) ({ frames := 0, cells := 0, slots := 0, locals := 0 }) (KP g [.int a0, .int a1, .int a2] μ) (KQi g q) 0 0 (AA g) := by
  refine met_V (own := RX6) hI (by decide) rfl (Nat.le_of_ble_eq_true rfl) rfl (fun p e s m args below meth c X hr hlk => ?_)
  unfold wp_X6_in at h
  refine v_iload_n (pc := 0) X rfl 0 rfl dX6_in_0 ?_
  refine v_iload_n (pc := 1) X rfl 1 rfl dX6_in_1 ?_
  refine v_icmp_lt (pc := 2) (tgt := 14) X h dX6_in_2 (by decide) (fun h => ?_) (fun h => ?_)
  · refine v_iconst (pc := 14) X cst_i_0 dX6_in_14 ?_
    exact v_zret (pc := 15) X hr hlk ⟨nz_0, h⟩ dX6_in_15
  · refine v_iload_n (pc := 5) X rfl 0 rfl dX6_in_5 ?_
    refine v_iload_n (pc := 6) X rfl 2 rfl dX6_in_6 ?_
    refine v_icmp_gt (pc := 7) (tgt := 14) X h dX6_in_7 (by decide) (fun h => ?_) (fun h => ?_)
    · refine v_iconst (pc := 14) X cst_i_0 dX6_in_14 ?_
      exact v_zret (pc := 15) X hr hlk ⟨nz_0, h⟩ dX6_in_15
    · refine v_iconst (pc := 10) X cst_i_1 dX6_in_10 ?_
      refine v_goto (pc := 11) (tgt := 15) X dX6_in_11 (by decide) ?_
      exact v_zret (pc := 15) X hr hlk ⟨nz_1, h⟩ dX6_in_15

def wp_X6_isNode (a0 : Int32) (μ : Mem) (q : Int32 → Mem → Prop) : Prop :=
wp_X6_in a0 0 (nI 5) μ (fun x_2 m_1 =>
nz x_2 ∧ q x_2 m_1)
set_option maxRecDepth 100000 in
set_option maxHeartbeats 4000000 in
theorem c_X6_isNode (l : Launch) (g : GG) (hI : Inj g) (μ : Mem) (a0 : Int32) (q : Int32 → Mem → Prop) (h : wp_X6_isNode a0 μ q) : Met l yX6_isNode (Cond.code yX6_isNode cX6_isNode 1 (some .boolean) :: wsL_law) ({ frames := 1, cells := 0, slots := 0, locals := 22 }) (KP g [.int a0] μ) (KQi g q) 0 0 (AA g) := by
  refine met_V (own := RX6) hI (by decide) rfl (Nat.le_of_ble_eq_true rfl) rfl (fun p e s m args below meth c X hr hlk => ?_)
  unfold wp_X6_isNode at h
  refine v_iload_n (pc := 0) X rfl 0 rfl dX6_isNode_0 ?_
  refine v_iconst (pc := 1) X cst_i_0 dX6_isNode_1 ?_
  refine v_iconst (pc := 2) X cst_i_5 dX6_isNode_2 ?_
  refine v_callSi (pc := 3) X (c_X6_in l g hI _ _ _ _ _ h) wd_134 wd_132 wd_133 wd_5 ⟨rfl, rfl⟩ hdc_X6_in ⟨Nat.le_of_ble_eq_true rfl, Nat.le_of_ble_eq_true rfl⟩ ⟨Nat.le_refl 0, Nat.le_refl 0⟩ (As := [.int a0, .int 0, .int (nI 5)]) rfl rfl (Nat.le_of_ble_eq_true rfl) dX6_isNode_3 (fun x_2 m_1 h => ?_)
  exact v_zret (pc := 6) X hr hlk h dX6_isNode_6

def wp_X6_is (a1 : Int32) (a2 : Int32) (μ : Mem) (q : Int32 → Mem → Prop) : Prop :=
vp_in ((nI 30) + a1) 256 ∧ ∀ x_1 : Int32, x_1 = μ 20 0 (((nI 30) + a1) : Int32).toNatClampNeg →
((¬ x_1 = a2 →
q 0 μ) ∧ (x_1 = a2 →
q 1 μ))
set_option maxRecDepth 100000 in
set_option maxHeartbeats 4000000 in
theorem c_X6_is (l : Launch) (g : GG) (hI : Inj g) (μ : Mem) (a1 : Int32) (a2 : Int32) (q : Int32 → Mem → Prop) (h : wp_X6_is a1 a2 μ q) : Met l yX6_is (Cond.code yX6_is cX6_is 3 (some .boolean) :: wsL_law) ({ frames := 0, cells := 0, slots := 0, locals := 0 }) (KP g [.ref (g.1 6 0), .int a1, .int a2] μ) (KQi g q) 0 0 (AA g) := by
  refine met_V (own := RX6) hI (by decide) rfl (Nat.le_of_ble_eq_true rfl) rfl (fun p e s m args below meth c X hr hlk => ?_)
  unfold wp_X6_is at h
  refine v_aload_n (pc := 0) X rfl 0 rfl dX6_is_0 ?_
  refine gf_6_0 (pc := 1) X Nat.one_pos wd_91 dX6_is_1 ?_
  refine v_bipush (pc := 4) X cst_b_30 dX6_is_4 ?_
  refine v_iload_n (pc := 6) X rfl 1 rfl dX6_is_6 ?_
  refine v_iadd (pc := 7) X dX6_is_7 ?_
  refine al_20 (pc := 8) X Nat.one_pos h dX6_is_8 (fun x_1 h => ?_)
  refine v_iload_n (pc := 9) X rfl 2 rfl dX6_is_9 ?_
  refine v_icmp_ne (pc := 10) (tgt := 17) X h dX6_is_10 (by decide) (fun h => ?_) (fun h => ?_)
  · refine v_iconst (pc := 17) X cst_i_0 dX6_is_17 ?_
    exact v_zret (pc := 18) X hr hlk ⟨nz_0, h⟩ dX6_is_18
  · refine v_iconst (pc := 13) X cst_i_1 dX6_is_13 ?_
    refine v_goto (pc := 14) (tgt := 18) X dX6_is_14 (by decide) ?_
    exact v_zret (pc := 18) X hr hlk ⟨nz_1, h⟩ dX6_is_18

def wp_X6_isOut_b19 (a1 : Int32) (q : Int32 → Mem → Prop)  (μ : Mem) : Prop :=
q 1 μ
def wp_X6_isOut (a1 : Int32) (μ : Mem) (q : Int32 → Mem → Prop) : Prop :=
wp_X6_is a1 0 μ (fun x_2 m_1 =>
((¬ x_2 = 0 →
wp_X6_isOut_b19 a1 q  m_1) ∧ (x_2 = 0 →
wp_X6_is a1 (nI 6) m_1 (fun x_4 m_3 =>
((x_4 = 0 →
q 0 m_3) ∧ (¬ x_4 = 0 →
wp_X6_isOut_b19 a1 q  m_3))))))
set_option maxRecDepth 100000 in
set_option maxHeartbeats 4000000 in
theorem c_X6_isOut (l : Launch) (g : GG) (hI : Inj g) (μ : Mem) (a1 : Int32) (q : Int32 → Mem → Prop) (h : wp_X6_isOut a1 μ q) : Met l yX6_isOut (Cond.code yX6_isOut cX6_isOut 2 (some .boolean) :: wsL_law) ({ frames := 1, cells := 0, slots := 0, locals := 22 }) (KP g [.ref (g.1 6 0), .int a1] μ) (KQi g q) 0 0 (AA g) := by
  refine met_V (own := RX6) hI (by decide) rfl (Nat.le_of_ble_eq_true rfl) rfl (fun p e s m args below meth c X hr hlk => ?_)
  have B19 : ∀  (μ : Mem), wp_X6_isOut_b19 a1 q  μ → V p l e ({ frames := 1, cells := 0, slots := 0, locals := 22 }) s m args below meth c 2 g (AA g) 0 0 (MQ below (KQi g q) args s 0 0 (AA g)) μ 19 [] [] := by
    intro  μ h
    unfold wp_X6_isOut_b19 at h
    refine v_iconst (pc := 19) X cst_i_1 dX6_isOut_19 ?_
    refine v_goto (pc := 20) (tgt := 24) X dX6_isOut_20 (by decide) ?_
    exact v_zret (pc := 24) X hr hlk ⟨nz_1, h⟩ dX6_isOut_24
  unfold wp_X6_isOut at h
  refine v_aload_n (pc := 0) X rfl 0 rfl dX6_isOut_0 ?_
  refine v_iload_n (pc := 1) X rfl 1 rfl dX6_isOut_1 ?_
  refine v_iconst (pc := 2) X cst_i_0 dX6_isOut_2 ?_
  refine v_callVi (pc := 3) X (c_X6_is l g hI _ _ _ _ h) wd_138 wd_135 wd_136 wd_137 wd_5 ⟨rfl, rfl⟩ hdc_X6_is ⟨Nat.le_of_ble_eq_true rfl, Nat.le_of_ble_eq_true rfl⟩ ⟨Nat.le_refl 0, Nat.le_refl 0⟩ Nat.one_pos rfl rfl (As := [.int a1, .int 0]) rfl rfl (Nat.le_of_ble_eq_true rfl) dX6_isOut_3 (fun x_2 m_1 h => ?_)
  refine v_if_ne (pc := 6) (tgt := 19) X h dX6_isOut_6 (by decide) (fun h => ?_) (fun h => ?_)
  · refine v_sub [] rfl ?_
    exact B19  _ h
  · refine v_aload_n (pc := 9) X rfl 0 rfl dX6_isOut_9 ?_
    refine v_iload_n (pc := 10) X rfl 1 rfl dX6_isOut_10 ?_
    refine v_bipush (pc := 11) X cst_b_6 dX6_isOut_11 ?_
    refine v_callVi (pc := 13) X (c_X6_is l g hI _ _ _ _ h) wd_138 wd_135 wd_136 wd_137 wd_5 ⟨rfl, rfl⟩ hdc_X6_is ⟨Nat.le_of_ble_eq_true rfl, Nat.le_of_ble_eq_true rfl⟩ ⟨Nat.le_refl 0, Nat.le_refl 0⟩ Nat.one_pos rfl rfl (As := [.int a1, .int (nI 6)]) rfl rfl (Nat.le_of_ble_eq_true rfl) dX6_isOut_13 (fun x_4 m_3 h => ?_)
    refine v_if_eq (pc := 16) (tgt := 23) X h dX6_isOut_16 (by decide) (fun h => ?_) (fun h => ?_)
    · refine v_iconst (pc := 23) X cst_i_0 dX6_isOut_23 ?_
      exact v_zret (pc := 24) X hr hlk ⟨nz_0, h⟩ dX6_isOut_24
    · refine v_sub [] rfl ?_
      exact B19  _ h

def wp_X6_plain (a0 : Int32) (μ : Mem) (q : Int32 → Mem → Prop) : Prop :=
((0 ≤ a0 →
q a0 μ) ∧ (¬ 0 ≤ a0 →
q (-a0) μ))
set_option maxRecDepth 100000 in
set_option maxHeartbeats 4000000 in
theorem c_X6_plain (l : Launch) (g : GG) (hI : Inj g) (μ : Mem) (a0 : Int32) (q : Int32 → Mem → Prop) (h : wp_X6_plain a0 μ q) : Met l yX6_plain (Cond.code yX6_plain cX6_plain 1 (some .int) :: wsL_law) ({ frames := 0, cells := 0, slots := 0, locals := 0 }) (KP g [.int a0] μ) (KQi g q) 0 0 (AA g) := by
  refine met_V (own := RX6) hI (by decide) rfl (Nat.le_of_ble_eq_true rfl) rfl (fun p e s m args below meth c X hr hlk => ?_)
  unfold wp_X6_plain at h
  refine v_iload_n (pc := 0) X rfl 0 rfl dX6_plain_0 ?_
  refine v_if_ge (pc := 1) (tgt := 9) X h dX6_plain_1 (by decide) (fun h => ?_) (fun h => ?_)
  · refine v_iload_n (pc := 9) X rfl 0 rfl dX6_plain_9 ?_
    exact v_iret (pc := 10) X hr hlk h dX6_plain_10
  · refine v_iload_n (pc := 4) X rfl 0 rfl dX6_plain_4 ?_
    refine v_ineg (pc := 5) X dX6_plain_5 ?_
    refine v_goto (pc := 6) (tgt := 10) X dX6_plain_6 (by decide) ?_
    exact v_iret (pc := 10) X hr hlk h dX6_plain_10

def wp_X6_isTaken_b41 (a1 : Int32) (a2 : Int32) (q : Int32 → Mem → Prop) (K : Int32 → Int32 → Mem → Prop) (b4 : Int32) (t0 : Int32) (μ : Mem) : Prop :=
K t0 (b4 + 1) μ
def wp_X6_isTaken_b36 (a1 : Int32) (a2 : Int32) (q : Int32 → Mem → Prop) (K : Int32 → Int32 → Mem → Prop) (b4 : Int32) (μ : Mem) : Prop :=
wp_X6_isTaken_b41 a1 a2 q K b4 1 μ
def wp_X6_isTaken_b40 (a1 : Int32) (a2 : Int32) (q : Int32 → Mem → Prop) (K : Int32 → Int32 → Mem → Prop) (b4 : Int32) (μ : Mem) : Prop :=
wp_X6_isTaken_b41 a1 a2 q K b4 0 μ
def wp_X6_isTaken_l5 (a1 : Int32) (a2 : Int32) (q : Int32 → Mem → Prop) : Nat → Int32 → Int32 → Mem → Prop
  | 0 => fun _ _ _ => False
  | n + 1 => fun b3 b4 μ =>
(((nI 6) ≤ b4 →
nz b3 ∧ q b3 μ) ∧ (¬ (nI 6) ≤ b4 →
((¬ b3 = 0 →
wp_X6_isTaken_b36 a1 a2 q (wp_X6_isTaken_l5 a1 a2 q n) b4 μ) ∧ (b3 = 0 →
((b4 = a2 →
wp_X6_isTaken_b40 a1 a2 q (wp_X6_isTaken_l5 a1 a2 q n) b4 μ) ∧ (¬ b4 = a2 →
vp_in ((nI 6) + b4) 256 ∧ ∀ x_1 : Int32, x_1 = μ 20 0 (((nI 6) + b4) : Int32).toNatClampNeg →
((¬ x_1 = a1 →
wp_X6_isTaken_b40 a1 a2 q (wp_X6_isTaken_l5 a1 a2 q n) b4 μ) ∧ (x_1 = a1 →
wp_X6_isTaken_b36 a1 a2 q (wp_X6_isTaken_l5 a1 a2 q n) b4 μ))))))))
def wp_X6_isTaken (a1 : Int32) (a2 : Int32) (μ : Mem) (q : Int32 → Mem → Prop) : Prop :=
∃ n : Nat, wp_X6_isTaken_l5 a1 a2 q n 0 0 μ
set_option maxRecDepth 100000 in
set_option maxHeartbeats 4000000 in
theorem c_X6_isTaken (l : Launch) (g : GG) (hI : Inj g) (μ : Mem) (a1 : Int32) (a2 : Int32) (q : Int32 → Mem → Prop) (h : wp_X6_isTaken a1 a2 μ q) : Met l yX6_isTaken (Cond.code yX6_isTaken cX6_isTaken 5 (some .boolean) :: wsL_law) ({ frames := 0, cells := 0, slots := 0, locals := 0 }) (KP g [.ref (g.1 6 0), .int a1, .int a2] μ) (KQi g q) 0 0 (AA g) := by
  refine met_V (own := RX6) hI (by decide) rfl (Nat.le_of_ble_eq_true rfl) rfl (fun p e s m args below meth c X hr hlk => ?_)
  have L5 : ∀ (n : Nat) (b3 : Int32) (b4 : Int32) (μ : Mem), wp_X6_isTaken_l5 a1 a2 q n b3 b4 μ → V p l e ({ frames := 0, cells := 0, slots := 0, locals := 0 }) s m args below meth c 5 g (AA g) 0 0 (MQ below (KQi g q) args s 0 0 (AA g)) μ 5 [(0, .ref (g.1 6 0)), (1, .int a1), (2, .int a2), (3, .int b3), (4, .int b4)] [] := by
    intro n
    induction n with
    | zero => intro b3 b4 μ h; exact h.elim
    | succ n ih =>
      have B41 : ∀ (b4 : Int32) (t0 : Int32) (μ : Mem), wp_X6_isTaken_b41 a1 a2 q (wp_X6_isTaken_l5 a1 a2 q n) b4 t0 μ → V p l e ({ frames := 0, cells := 0, slots := 0, locals := 0 }) s m args below meth c 5 g (AA g) 0 0 (MQ below (KQi g q) args s 0 0 (AA g)) μ 41 [(0, .ref (g.1 6 0)), (1, .int a1), (2, .int a2), (4, .int b4)] [.int t0] := by
        intro b4 t0 μ h
        unfold wp_X6_isTaken_b41 at h
        refine v_istore_n (pc := 41) (lv' := [(3, .int t0), (0, .ref (g.1 6 0)), (1, .int a1), (2, .int a2), (4, .int b4)]) X rfl (by decide) rfl dX6_isTaken_41 ?_
        refine v_iinc (pc := 42) (lv' := [(4, .int (b4 + 1)), (3, .int t0), (0, .ref (g.1 6 0)), (1, .int a1), (2, .int a2)]) (j := 4) X rfl (congrArg (HAdd.hAdd _) cst_i_1) (by decide) rfl dX6_isTaken_42 ?_
        refine v_goto (pc := 45) (tgt := 5) X dX6_isTaken_45 (by decide) ?_
        refine v_sub [2, 3, 4, 1, 0] rfl ?_
        exact ih _ _ _ h
      have B36 : ∀ (b4 : Int32) (μ : Mem), wp_X6_isTaken_b36 a1 a2 q (wp_X6_isTaken_l5 a1 a2 q n) b4 μ → V p l e ({ frames := 0, cells := 0, slots := 0, locals := 0 }) s m args below meth c 5 g (AA g) 0 0 (MQ below (KQi g q) args s 0 0 (AA g)) μ 36 [(0, .ref (g.1 6 0)), (1, .int a1), (2, .int a2), (4, .int b4)] [] := by
        intro b4 μ h
        unfold wp_X6_isTaken_b36 at h
        refine v_iconst (pc := 36) X cst_i_1 dX6_isTaken_36 ?_
        refine v_goto (pc := 37) (tgt := 41) X dX6_isTaken_37 (by decide) ?_
        exact B41 _ _ _ h
      have B40 : ∀ (b4 : Int32) (μ : Mem), wp_X6_isTaken_b40 a1 a2 q (wp_X6_isTaken_l5 a1 a2 q n) b4 μ → V p l e ({ frames := 0, cells := 0, slots := 0, locals := 0 }) s m args below meth c 5 g (AA g) 0 0 (MQ below (KQi g q) args s 0 0 (AA g)) μ 40 [(0, .ref (g.1 6 0)), (1, .int a1), (2, .int a2), (4, .int b4)] [] := by
        intro b4 μ h
        unfold wp_X6_isTaken_b40 at h
        refine v_iconst (pc := 40) X cst_i_0 dX6_isTaken_40 ?_
        exact B41 _ _ _ h
      intro b3 b4 μ h
      unfold wp_X6_isTaken_l5 at h
      refine v_iload (pc := 5) X 4 rfl dX6_isTaken_5 ?_
      refine v_bipush (pc := 7) X cst_b_6 dX6_isTaken_7 ?_
      refine v_icmp_ge (pc := 9) (tgt := 48) X h dX6_isTaken_9 (by decide) (fun h => ?_) (fun h => ?_)
      · refine v_iload_n (pc := 48) X rfl 3 rfl dX6_isTaken_48 ?_
        exact v_zret (pc := 49) X hr hlk h dX6_isTaken_49
      · refine v_iload_n (pc := 12) X rfl 3 rfl dX6_isTaken_12 ?_
        refine v_if_ne (pc := 13) (tgt := 36) X h dX6_isTaken_13 (by decide) (fun h => ?_) (fun h => ?_)
        · refine v_sub [0, 1, 2, 4] rfl ?_
          exact B36 _ _ h
        · refine v_iload (pc := 16) X 4 rfl dX6_isTaken_16 ?_
          refine v_iload_n (pc := 18) X rfl 2 rfl dX6_isTaken_18 ?_
          refine v_icmp_eq (pc := 19) (tgt := 40) X h dX6_isTaken_19 (by decide) (fun h => ?_) (fun h => ?_)
          · refine v_sub [0, 1, 2, 4] rfl ?_
            exact B40 _ _ h
          · refine v_aload_n (pc := 22) X rfl 0 rfl dX6_isTaken_22 ?_
            refine gf_6_0 (pc := 23) X Nat.one_pos wd_91 dX6_isTaken_23 ?_
            refine v_bipush (pc := 26) X cst_b_6 dX6_isTaken_26 ?_
            refine v_iload (pc := 28) X 4 rfl dX6_isTaken_28 ?_
            refine v_iadd (pc := 30) X dX6_isTaken_30 ?_
            refine al_20 (pc := 31) X Nat.one_pos h dX6_isTaken_31 (fun x_1 h => ?_)
            refine v_iload_n (pc := 32) X rfl 1 rfl dX6_isTaken_32 ?_
            refine v_icmp_ne (pc := 33) (tgt := 40) X h dX6_isTaken_33 (by decide) (fun h => ?_) (fun h => ?_)
            · refine v_sub [0, 1, 2, 4] rfl ?_
              exact B40 _ _ h
            · refine v_sub [0, 1, 2, 4] rfl ?_
              exact B36 _ _ h
  unfold wp_X6_isTaken at h
  refine v_iconst (pc := 0) X cst_i_0 dX6_isTaken_0 ?_
  refine v_istore_n (pc := 1) (lv' := [(3, .int 0), (0, .ref (g.1 6 0)), (1, .int a1), (2, .int a2)]) X rfl (by decide) rfl dX6_isTaken_1 ?_
  refine v_iconst (pc := 2) X cst_i_0 dX6_isTaken_2 ?_
  refine v_istore (pc := 3) (lv' := [(4, .int 0), (3, .int 0), (0, .ref (g.1 6 0)), (1, .int a1), (2, .int a2)]) X (by decide) rfl dX6_isTaken_3 ?_
  refine v_sub [2, 3, 4, 1, 0] rfl ?_
  obtain ⟨n, h⟩ := h
  exact L5 n _ _ _ h

def wp_X6_node (a1 : Int32) (a2 : Int32) (a3 : Int32) (a4 : Int32) (μ : Mem) (q : Int32 → Mem → Prop) : Prop :=
wp_X6_isNode a1 μ (fun x_2 m_1 =>
((¬ x_2 = 0 →
wp_X6_in a2 1 (nI 2) m_1 (fun x_4 m_3 =>
((x_4 = 0 →
q (-2) m_3) ∧ (¬ x_4 = 0 →
wp_X6_in a3 1 (nI 9) m_3 (fun x_6 m_5 =>
((x_6 = 0 →
q (-2) m_5) ∧ (¬ x_6 = 0 →
wp_X6_in a4 1 (nI 9) m_5 (fun x_8 m_7 =>
((¬ x_8 = 0 →
wp_X6_is a1 0 m_7 (fun x_10 m_9 =>
((x_10 = 0 →
q (-3) m_9) ∧ (¬ x_10 = 0 →
wp_X6_isTaken a3 a1 m_9 (fun x_12 m_11 =>
((x_12 = 0 →
vp_in ((nI 6) + a1) 256 ∧ ∀ x_13 : Int32, x_13 = m_11 20 0 (((nI 6) + a1) : Int32).toNatClampNeg →
vp_in (0 + a1) 256 ∧ ∀ m_14 : Mem, m_14 = ms m_11 20 0 ((0 + a1) : Int32).toNatClampNeg a2 →
vp_in ((nI 6) + a1) 256 ∧ ∀ m_15 : Mem, m_15 = ms m_14 20 0 (((nI 6) + a1) : Int32).toNatClampNeg a3 →
vp_in ((nI 12) + a1) 256 ∧ ∀ m_16 : Mem, m_16 = ms m_15 20 0 (((nI 12) + a1) : Int32).toNatClampNeg a4 →
q x_13 m_16) ∧ (¬ x_12 = 0 →
q (-3) m_11))))))) ∧ (x_8 = 0 →
q (-2) m_7)))))))))) ∧ (x_2 = 0 →
q (-1) m_1)))
set_option maxRecDepth 100000 in
set_option maxHeartbeats 4000000 in
theorem c_X6_node (l : Launch) (g : GG) (hI : Inj g) (μ : Mem) (a1 : Int32) (a2 : Int32) (a3 : Int32) (a4 : Int32) (q : Int32 → Mem → Prop) (h : wp_X6_node a1 a2 a3 a4 μ q) : Met l yX6_node (Cond.code yX6_node cX6_node 6 (some .int) :: wsL_law) ({ frames := 2, cells := 0, slots := 0, locals := 42 }) (KP g [.ref (g.1 6 0), .int a1, .int a2, .int a3, .int a4] μ) (KQi g q) 0 0 (AA g) := by
  refine met_V (own := RX6) hI (by decide) rfl (Nat.le_of_ble_eq_true rfl) rfl (fun p e s m args below meth c X hr hlk => ?_)
  unfold wp_X6_node at h
  refine v_iload_n (pc := 0) X rfl 1 rfl dX6_node_0 ?_
  refine v_callSi (pc := 1) X (c_X6_isNode l g hI _ _ _ h) wd_131 wd_129 wd_130 wd_5 ⟨rfl, rfl⟩ hdc_X6_isNode ⟨Nat.le_of_ble_eq_true rfl, Nat.le_of_ble_eq_true rfl⟩ ⟨Nat.le_refl 0, Nat.le_refl 0⟩ (As := [.int a1]) rfl rfl (Nat.le_of_ble_eq_true rfl) dX6_node_1 (fun x_2 m_1 h => ?_)
  refine v_if_ne (pc := 4) (tgt := 9) X h dX6_node_4 (by decide) (fun h => ?_) (fun h => ?_)
  · refine v_iload_n (pc := 9) X rfl 2 rfl dX6_node_9 ?_
    refine v_iconst (pc := 10) X cst_i_1 dX6_node_10 ?_
    refine v_iconst (pc := 11) X cst_i_2 dX6_node_11 ?_
    refine v_callSi (pc := 12) X (c_X6_in l g hI _ _ _ _ _ h) wd_134 wd_132 wd_133 wd_5 ⟨rfl, rfl⟩ hdc_X6_in ⟨Nat.le_of_ble_eq_true rfl, Nat.le_of_ble_eq_true rfl⟩ ⟨Nat.le_refl 0, Nat.le_refl 0⟩ (As := [.int a2, .int 1, .int (nI 2)]) rfl rfl (Nat.le_of_ble_eq_true rfl) dX6_node_12 (fun x_4 m_3 h => ?_)
    refine v_if_eq (pc := 15) (tgt := 39) X h dX6_node_15 (by decide) (fun h => ?_) (fun h => ?_)
    · refine v_bipush (pc := 39) X cst_b_m2 dX6_node_39 ?_
      exact v_iret (pc := 41) X hr hlk h dX6_node_41
    · refine v_iload_n (pc := 18) X rfl 3 rfl dX6_node_18 ?_
      refine v_iconst (pc := 19) X cst_i_1 dX6_node_19 ?_
      refine v_bipush (pc := 20) X cst_b_9 dX6_node_20 ?_
      refine v_callSi (pc := 22) X (c_X6_in l g hI _ _ _ _ _ h) wd_134 wd_132 wd_133 wd_5 ⟨rfl, rfl⟩ hdc_X6_in ⟨Nat.le_of_ble_eq_true rfl, Nat.le_of_ble_eq_true rfl⟩ ⟨Nat.le_refl 0, Nat.le_refl 0⟩ (As := [.int a3, .int 1, .int (nI 9)]) rfl rfl (Nat.le_of_ble_eq_true rfl) dX6_node_22 (fun x_6 m_5 h => ?_)
      refine v_if_eq (pc := 25) (tgt := 39) X h dX6_node_25 (by decide) (fun h => ?_) (fun h => ?_)
      · refine v_bipush (pc := 39) X cst_b_m2 dX6_node_39 ?_
        exact v_iret (pc := 41) X hr hlk h dX6_node_41
      · refine v_iload (pc := 28) X 4 rfl dX6_node_28 ?_
        refine v_iconst (pc := 30) X cst_i_1 dX6_node_30 ?_
        refine v_bipush (pc := 31) X cst_b_9 dX6_node_31 ?_
        refine v_callSi (pc := 33) X (c_X6_in l g hI _ _ _ _ _ h) wd_134 wd_132 wd_133 wd_5 ⟨rfl, rfl⟩ hdc_X6_in ⟨Nat.le_of_ble_eq_true rfl, Nat.le_of_ble_eq_true rfl⟩ ⟨Nat.le_refl 0, Nat.le_refl 0⟩ (As := [.int a4, .int 1, .int (nI 9)]) rfl rfl (Nat.le_of_ble_eq_true rfl) dX6_node_33 (fun x_8 m_7 h => ?_)
        refine v_if_ne (pc := 36) (tgt := 42) X h dX6_node_36 (by decide) (fun h => ?_) (fun h => ?_)
        · refine v_aload_n (pc := 42) X rfl 0 rfl dX6_node_42 ?_
          refine v_iload_n (pc := 43) X rfl 1 rfl dX6_node_43 ?_
          refine v_iconst (pc := 44) X cst_i_0 dX6_node_44 ?_
          refine v_callVi (pc := 45) X (c_X6_is l g hI _ _ _ _ h) wd_138 wd_135 wd_136 wd_137 wd_5 ⟨rfl, rfl⟩ hdc_X6_is ⟨Nat.le_of_ble_eq_true rfl, Nat.le_of_ble_eq_true rfl⟩ ⟨Nat.le_refl 0, Nat.le_refl 0⟩ Nat.one_pos rfl rfl (As := [.int a1, .int 0]) rfl rfl (Nat.le_of_ble_eq_true rfl) dX6_node_45 (fun x_10 m_9 h => ?_)
          refine v_if_eq (pc := 48) (tgt := 60) X h dX6_node_48 (by decide) (fun h => ?_) (fun h => ?_)
          · refine v_bipush (pc := 60) X cst_b_m3 dX6_node_60 ?_
            exact v_iret (pc := 62) X hr hlk h dX6_node_62
          · refine v_aload_n (pc := 51) X rfl 0 rfl dX6_node_51 ?_
            refine v_iload_n (pc := 52) X rfl 3 rfl dX6_node_52 ?_
            refine v_iload_n (pc := 53) X rfl 1 rfl dX6_node_53 ?_
            refine v_callVi (pc := 54) X (c_X6_isTaken l g hI _ _ _ _ h) wd_142 wd_139 wd_140 wd_141 wd_5 ⟨rfl, rfl⟩ hdc_X6_isTaken ⟨Nat.le_of_ble_eq_true rfl, Nat.le_of_ble_eq_true rfl⟩ ⟨Nat.le_refl 0, Nat.le_refl 0⟩ Nat.one_pos rfl rfl (As := [.int a3, .int a1]) rfl rfl (Nat.le_of_ble_eq_true rfl) dX6_node_54 (fun x_12 m_11 h => ?_)
            refine v_if_eq (pc := 57) (tgt := 63) X h dX6_node_57 (by decide) (fun h => ?_) (fun h => ?_)
            · refine v_aload_n (pc := 63) X rfl 0 rfl dX6_node_63 ?_
              refine gf_6_0 (pc := 64) X Nat.one_pos wd_91 dX6_node_64 ?_
              refine v_bipush (pc := 67) X cst_b_6 dX6_node_67 ?_
              refine v_iload_n (pc := 69) X rfl 1 rfl dX6_node_69 ?_
              refine v_iadd (pc := 70) X dX6_node_70 ?_
              refine al_20 (pc := 71) X Nat.one_pos h dX6_node_71 (fun x_13 h => ?_)
              refine v_istore (pc := 72) (lv' := [(5, .int x_13), (0, .ref (g.1 6 0)), (1, .int a1), (2, .int a2), (3, .int a3), (4, .int a4)]) X (by decide) rfl dX6_node_72 ?_
              refine v_aload_n (pc := 74) X rfl 1 rfl dX6_node_74 ?_
              refine gf_6_0 (pc := 75) X Nat.one_pos wd_91 dX6_node_75 ?_
              refine v_iconst (pc := 78) X cst_i_0 dX6_node_78 ?_
              refine v_iload_n (pc := 79) X rfl 2 rfl dX6_node_79 ?_
              refine v_iadd (pc := 80) X dX6_node_80 ?_
              refine v_iload_n (pc := 81) X rfl 3 rfl dX6_node_81 ?_
              refine as_20 (pc := 82) X Nat.one_pos h dX6_node_82 (fun m_14 h => ?_)
              refine v_aload_n (pc := 83) X rfl 1 rfl dX6_node_83 ?_
              refine gf_6_0 (pc := 84) X Nat.one_pos wd_91 dX6_node_84 ?_
              refine v_bipush (pc := 87) X cst_b_6 dX6_node_87 ?_
              refine v_iload_n (pc := 89) X rfl 2 rfl dX6_node_89 ?_
              refine v_iadd (pc := 90) X dX6_node_90 ?_
              refine v_iload_n (pc := 91) X rfl 4 rfl dX6_node_91 ?_
              refine as_20 (pc := 92) X Nat.one_pos h dX6_node_92 (fun m_15 h => ?_)
              refine v_aload_n (pc := 93) X rfl 1 rfl dX6_node_93 ?_
              refine gf_6_0 (pc := 94) X Nat.one_pos wd_91 dX6_node_94 ?_
              refine v_bipush (pc := 97) X cst_b_12 dX6_node_97 ?_
              refine v_iload_n (pc := 99) X rfl 2 rfl dX6_node_99 ?_
              refine v_iadd (pc := 100) X dX6_node_100 ?_
              refine v_iload (pc := 101) X 5 rfl dX6_node_101 ?_
              refine as_20 (pc := 103) X Nat.one_pos h dX6_node_103 (fun m_16 h => ?_)
              refine v_iload (pc := 104) X 0 rfl dX6_node_104 ?_
              exact v_iret (pc := 106) X hr hlk h dX6_node_106
            · refine v_bipush (pc := 60) X cst_b_m3 dX6_node_60 ?_
              exact v_iret (pc := 62) X hr hlk h dX6_node_62
        · refine v_bipush (pc := 39) X cst_b_m2 dX6_node_39 ?_
          exact v_iret (pc := 41) X hr hlk h dX6_node_41
  · refine v_iconst (pc := 7) X cst_i_m1 dX6_node_7 ?_
    exact v_iret (pc := 8) X hr hlk h dX6_node_8

def wp_X6_clock_b43 (a1 : Int32) (a2 : Int32) (a3 : Int32) (q : Int32 → Mem → Prop) (t0 : Int32) (t1 : Int32) (t2 : Int32) (μ : Mem) : Prop :=
wp_X6_in t0 t1 t2 μ (fun x_2 m_1 =>
((¬ x_2 = 0 →
vp_in (((nI 18) + ((nI 6) * a2)) + a1) 256 ∧ ∀ x_3 : Int32, x_3 = m_1 20 0 ((((nI 18) + ((nI 6) * a2)) + a1) : Int32).toNatClampNeg →
vp_in (((nI 18) + ((nI 6) * a2)) + a1) 256 ∧ ∀ m_4 : Mem, m_4 = ms m_1 20 0 ((((nI 18) + ((nI 6) * a2)) + a1) : Int32).toNatClampNeg a3 →
q (x_3 + (nI 1000)) m_4) ∧ (x_2 = 0 →
q (-2) m_1)))
def wp_X6_clock_b31 (a1 : Int32) (a2 : Int32) (a3 : Int32) (q : Int32 → Mem → Prop) (t0 : Int32) (t1 : Int32) (μ : Mem) : Prop :=
((¬ a2 = 0 →
wp_X6_clock_b43 a1 a2 a3 q t0 t1 (nI 400) μ) ∧ (a2 = 0 →
wp_X6_clock_b43 a1 a2 a3 q t0 t1 (nI 50) μ))
def wp_X6_clock (a1 : Int32) (a2 : Int32) (a3 : Int32) (μ : Mem) (q : Int32 → Mem → Prop) : Prop :=
wp_X6_isNode a1 μ (fun x_2 m_1 =>
((¬ x_2 = 0 →
wp_X6_in a2 0 1 m_1 (fun x_4 m_3 =>
((x_4 = 0 →
q (-2) m_3) ∧ (¬ x_4 = 0 →
((¬ a2 = 0 →
wp_X6_clock_b31 a1 a2 a3 q a3 (-400) m_3) ∧ (a2 = 0 →
wp_X6_clock_b31 a1 a2 a3 q a3 (-50) m_3)))))) ∧ (x_2 = 0 →
q (-1) m_1)))
set_option maxRecDepth 100000 in
set_option maxHeartbeats 4000000 in
theorem c_X6_clock (l : Launch) (g : GG) (hI : Inj g) (μ : Mem) (a1 : Int32) (a2 : Int32) (a3 : Int32) (q : Int32 → Mem → Prop) (h : wp_X6_clock a1 a2 a3 μ q) : Met l yX6_clock (Cond.code yX6_clock cX6_clock 5 (some .int) :: wsL_law) ({ frames := 2, cells := 0, slots := 0, locals := 42 }) (KP g [.ref (g.1 6 0), .int a1, .int a2, .int a3] μ) (KQi g q) 0 0 (AA g) := by
  refine met_V (own := RX6) hI (by decide) rfl (Nat.le_of_ble_eq_true rfl) rfl (fun p e s m args below meth c X hr hlk => ?_)
  have B43 : ∀ (t0 : Int32) (t1 : Int32) (t2 : Int32) (μ : Mem), wp_X6_clock_b43 a1 a2 a3 q t0 t1 t2 μ → V p l e ({ frames := 2, cells := 0, slots := 0, locals := 42 }) s m args below meth c 5 g (AA g) 0 0 (MQ below (KQi g q) args s 0 0 (AA g)) μ 43 [(0, .ref (g.1 6 0)), (1, .int a1), (2, .int a2), (3, .int a3)] [.int t2, .int t1, .int t0] := by
    intro t0 t1 t2 μ h
    unfold wp_X6_clock_b43 at h
    refine v_callSi (pc := 43) X (c_X6_in l g hI _ _ _ _ _ h) wd_134 wd_132 wd_133 wd_5 ⟨rfl, rfl⟩ hdc_X6_in ⟨Nat.le_of_ble_eq_true rfl, Nat.le_of_ble_eq_true rfl⟩ ⟨Nat.le_refl 0, Nat.le_refl 0⟩ (As := [.int t0, .int t1, .int t2]) rfl rfl (Nat.le_of_ble_eq_true rfl) dX6_clock_43 (fun x_2 m_1 h => ?_)
    refine v_if_ne (pc := 46) (tgt := 52) X h dX6_clock_46 (by decide) (fun h => ?_) (fun h => ?_)
    · refine v_aload_n (pc := 52) X rfl 0 rfl dX6_clock_52 ?_
      refine gf_6_0 (pc := 53) X Nat.one_pos wd_91 dX6_clock_53 ?_
      refine v_bipush (pc := 56) X cst_b_18 dX6_clock_56 ?_
      refine v_bipush (pc := 58) X cst_b_6 dX6_clock_58 ?_
      refine v_iload_n (pc := 60) X rfl 2 rfl dX6_clock_60 ?_
      refine v_imul (pc := 61) X dX6_clock_61 ?_
      refine v_iadd (pc := 62) X dX6_clock_62 ?_
      refine v_iload_n (pc := 63) X rfl 1 rfl dX6_clock_63 ?_
      refine v_iadd (pc := 64) X dX6_clock_64 ?_
      refine al_20 (pc := 65) X Nat.one_pos h dX6_clock_65 (fun x_3 h => ?_)
      refine v_istore (pc := 66) (lv' := [(4, .int x_3), (0, .ref (g.1 6 0)), (1, .int a1), (2, .int a2), (3, .int a3)]) X (by decide) rfl dX6_clock_66 ?_
      refine v_aload_n (pc := 68) X rfl 1 rfl dX6_clock_68 ?_
      refine gf_6_0 (pc := 69) X Nat.one_pos wd_91 dX6_clock_69 ?_
      refine v_bipush (pc := 72) X cst_b_18 dX6_clock_72 ?_
      refine v_bipush (pc := 74) X cst_b_6 dX6_clock_74 ?_
      refine v_iload_n (pc := 76) X rfl 3 rfl dX6_clock_76 ?_
      refine v_imul (pc := 77) X dX6_clock_77 ?_
      refine v_iadd (pc := 78) X dX6_clock_78 ?_
      refine v_iload_n (pc := 79) X rfl 2 rfl dX6_clock_79 ?_
      refine v_iadd (pc := 80) X dX6_clock_80 ?_
      refine v_iload_n (pc := 81) X rfl 4 rfl dX6_clock_81 ?_
      refine as_20 (pc := 82) X Nat.one_pos h dX6_clock_82 (fun m_4 h => ?_)
      refine v_iload (pc := 83) X 0 rfl dX6_clock_83 ?_
      refine v_sipush (pc := 85) X cst_s_1000 dX6_clock_85 ?_
      refine v_iadd (pc := 88) X dX6_clock_88 ?_
      exact v_iret (pc := 89) X hr hlk h dX6_clock_89
    · refine v_bipush (pc := 49) X cst_b_m2 dX6_clock_49 ?_
      exact v_iret (pc := 51) X hr hlk h dX6_clock_51
  have B31 : ∀ (t0 : Int32) (t1 : Int32) (μ : Mem), wp_X6_clock_b31 a1 a2 a3 q t0 t1 μ → V p l e ({ frames := 2, cells := 0, slots := 0, locals := 42 }) s m args below meth c 5 g (AA g) 0 0 (MQ below (KQi g q) args s 0 0 (AA g)) μ 31 [(0, .ref (g.1 6 0)), (1, .int a1), (2, .int a2), (3, .int a3)] [.int t1, .int t0] := by
    intro t0 t1 μ h
    unfold wp_X6_clock_b31 at h
    refine v_iload_n (pc := 31) X rfl 2 rfl dX6_clock_31 ?_
    refine v_if_ne (pc := 32) (tgt := 40) X h dX6_clock_32 (by decide) (fun h => ?_) (fun h => ?_)
    · refine v_sipush (pc := 40) X cst_s_400 dX6_clock_40 ?_
      exact B43 _ _ _ _ h
    · refine v_bipush (pc := 35) X cst_b_50 dX6_clock_35 ?_
      refine v_goto (pc := 37) (tgt := 43) X dX6_clock_37 (by decide) ?_
      exact B43 _ _ _ _ h
  unfold wp_X6_clock at h
  refine v_iload_n (pc := 0) X rfl 1 rfl dX6_clock_0 ?_
  refine v_callSi (pc := 1) X (c_X6_isNode l g hI _ _ _ h) wd_131 wd_129 wd_130 wd_5 ⟨rfl, rfl⟩ hdc_X6_isNode ⟨Nat.le_of_ble_eq_true rfl, Nat.le_of_ble_eq_true rfl⟩ ⟨Nat.le_refl 0, Nat.le_refl 0⟩ (As := [.int a1]) rfl rfl (Nat.le_of_ble_eq_true rfl) dX6_clock_1 (fun x_2 m_1 h => ?_)
  refine v_if_ne (pc := 4) (tgt := 9) X h dX6_clock_4 (by decide) (fun h => ?_) (fun h => ?_)
  · refine v_iload_n (pc := 9) X rfl 2 rfl dX6_clock_9 ?_
    refine v_iconst (pc := 10) X cst_i_0 dX6_clock_10 ?_
    refine v_iconst (pc := 11) X cst_i_1 dX6_clock_11 ?_
    refine v_callSi (pc := 12) X (c_X6_in l g hI _ _ _ _ _ h) wd_134 wd_132 wd_133 wd_5 ⟨rfl, rfl⟩ hdc_X6_in ⟨Nat.le_of_ble_eq_true rfl, Nat.le_of_ble_eq_true rfl⟩ ⟨Nat.le_refl 0, Nat.le_refl 0⟩ (As := [.int a2, .int 0, .int 1]) rfl rfl (Nat.le_of_ble_eq_true rfl) dX6_clock_12 (fun x_4 m_3 h => ?_)
    refine v_if_eq (pc := 15) (tgt := 49) X h dX6_clock_15 (by decide) (fun h => ?_) (fun h => ?_)
    · refine v_bipush (pc := 49) X cst_b_m2 dX6_clock_49 ?_
      exact v_iret (pc := 51) X hr hlk h dX6_clock_51
    · refine v_iload_n (pc := 18) X rfl 3 rfl dX6_clock_18 ?_
      refine v_iload_n (pc := 19) X rfl 2 rfl dX6_clock_19 ?_
      refine v_if_ne (pc := 20) (tgt := 28) X h dX6_clock_20 (by decide) (fun h => ?_) (fun h => ?_)
      · refine v_sipush (pc := 28) X cst_s_m400 dX6_clock_28 ?_
        exact B31 _ _ _ h
      · refine v_bipush (pc := 23) X cst_b_m50 dX6_clock_23 ?_
        refine v_goto (pc := 25) (tgt := 31) X dX6_clock_25 (by decide) ?_
        exact B31 _ _ _ h
  · refine v_iconst (pc := 7) X cst_i_m1 dX6_clock_7 ?_
    exact v_iret (pc := 8) X hr hlk h dX6_clock_8

def wp_X6_bound (a1 : Int32) (μ : Mem) (q : Int32 → Mem → Prop) : Prop :=
wp_X6_in a1 0 (nI 500) μ (fun x_2 m_1 =>
((¬ x_2 = 0 →
vp_in (nI 132) 256 ∧ ∀ x_3 : Int32, x_3 = m_1 20 0 ((nI 132) : Int32).toNatClampNeg →
vp_in (nI 132) 256 ∧ ∀ m_4 : Mem, m_4 = ms m_1 20 0 ((nI 132) : Int32).toNatClampNeg a1 →
q x_3 m_4) ∧ (x_2 = 0 →
q (-2) m_1)))
set_option maxRecDepth 100000 in
set_option maxHeartbeats 4000000 in
theorem c_X6_bound (l : Launch) (g : GG) (hI : Inj g) (μ : Mem) (a1 : Int32) (q : Int32 → Mem → Prop) (h : wp_X6_bound a1 μ q) : Met l yX6_bound (Cond.code yX6_bound cX6_bound 3 (some .int) :: wsL_law) ({ frames := 1, cells := 0, slots := 0, locals := 22 }) (KP g [.ref (g.1 6 0), .int a1] μ) (KQi g q) 0 0 (AA g) := by
  refine met_V (own := RX6) hI (by decide) rfl (Nat.le_of_ble_eq_true rfl) rfl (fun p e s m args below meth c X hr hlk => ?_)
  unfold wp_X6_bound at h
  refine v_iload_n (pc := 0) X rfl 1 rfl dX6_bound_0 ?_
  refine v_iconst (pc := 1) X cst_i_0 dX6_bound_1 ?_
  refine v_sipush (pc := 2) X cst_s_500 dX6_bound_2 ?_
  refine v_callSi (pc := 5) X (c_X6_in l g hI _ _ _ _ _ h) wd_134 wd_132 wd_133 wd_5 ⟨rfl, rfl⟩ hdc_X6_in ⟨Nat.le_of_ble_eq_true rfl, Nat.le_of_ble_eq_true rfl⟩ ⟨Nat.le_refl 0, Nat.le_refl 0⟩ (As := [.int a1, .int 0, .int (nI 500)]) rfl rfl (Nat.le_of_ble_eq_true rfl) dX6_bound_5 (fun x_2 m_1 h => ?_)
  refine v_if_ne (pc := 8) (tgt := 14) X h dX6_bound_8 (by decide) (fun h => ?_) (fun h => ?_)
  · refine v_aload_n (pc := 14) X rfl 0 rfl dX6_bound_14 ?_
    refine gf_6_0 (pc := 15) X Nat.one_pos wd_91 dX6_bound_15 ?_
    refine v_sipush (pc := 18) X cst_s_132 dX6_bound_18 ?_
    refine al_20 (pc := 21) X Nat.one_pos h dX6_bound_21 (fun x_3 h => ?_)
    refine v_istore_n (pc := 22) (lv' := [(2, .int x_3), (0, .ref (g.1 6 0)), (1, .int a1)]) X rfl (by decide) rfl dX6_bound_22 ?_
    refine v_aload_n (pc := 23) X rfl 1 rfl dX6_bound_23 ?_
    refine gf_6_0 (pc := 24) X Nat.one_pos wd_91 dX6_bound_24 ?_
    refine v_sipush (pc := 27) X cst_s_132 dX6_bound_27 ?_
    refine v_iload_n (pc := 30) X rfl 2 rfl dX6_bound_30 ?_
    refine as_20 (pc := 31) X Nat.one_pos h dX6_bound_31 (fun m_4 h => ?_)
    refine v_iload_n (pc := 32) X rfl 0 rfl dX6_bound_32 ?_
    exact v_iret (pc := 33) X hr hlk h dX6_bound_33
  · refine v_bipush (pc := 11) X cst_b_m2 dX6_bound_11 ?_
    exact v_iret (pc := 13) X hr hlk h dX6_bound_13

def wp_X6_begin (a1 : Int32) (a2 : Int32) (μ : Mem) (q : Mem → Prop) : Prop :=
vp_in ((nI 30) + a1) 256 ∧ ∀ m_1 : Mem, m_1 = ms μ 20 0 (((nI 30) + a1) : Int32).toNatClampNeg a2 →
vp_in ((nI 36) + a1) 256 ∧ ∀ m_2 : Mem, m_2 = ms m_1 20 0 (((nI 36) + a1) : Int32).toNatClampNeg 0 →
vp_in ((nI 42) + a1) 256 ∧ ∀ m_3 : Mem, m_3 = ms m_2 20 0 (((nI 42) + a1) : Int32).toNatClampNeg 0 →
vp_in ((nI 48) + a1) 256 ∧ ∀ m_4 : Mem, m_4 = ms m_3 20 0 (((nI 48) + a1) : Int32).toNatClampNeg 0 →
vp_in ((nI 54) + a1) 256 ∧ ∀ m_5 : Mem, m_5 = ms m_4 20 0 (((nI 54) + a1) : Int32).toNatClampNeg 0 →
q m_5
set_option maxRecDepth 100000 in
set_option maxHeartbeats 4000000 in
theorem c_X6_begin (l : Launch) (g : GG) (hI : Inj g) (μ : Mem) (a1 : Int32) (a2 : Int32) (q : Mem → Prop) (h : wp_X6_begin a1 a2 μ q) : Met l yX6_begin (Cond.code yX6_begin cX6_begin 3 none :: wsL_law) ({ frames := 0, cells := 0, slots := 0, locals := 0 }) (KP g [.ref (g.1 6 0), .int a1, .int a2] μ) (KQv g q) 0 0 (AA g) := by
  refine met_V (own := RX6) hI (by decide) rfl (Nat.le_of_ble_eq_true rfl) rfl (fun p e s m args below meth c X hr hlk => ?_)
  unfold wp_X6_begin at h
  refine v_aload_n (pc := 0) X rfl 0 rfl dX6_begin_0 ?_
  refine gf_6_0 (pc := 1) X Nat.one_pos wd_91 dX6_begin_1 ?_
  refine v_bipush (pc := 4) X cst_b_30 dX6_begin_4 ?_
  refine v_iload_n (pc := 6) X rfl 1 rfl dX6_begin_6 ?_
  refine v_iadd (pc := 7) X dX6_begin_7 ?_
  refine v_iload_n (pc := 8) X rfl 2 rfl dX6_begin_8 ?_
  refine as_20 (pc := 9) X Nat.one_pos h dX6_begin_9 (fun m_1 h => ?_)
  refine v_aload_n (pc := 10) X rfl 0 rfl dX6_begin_10 ?_
  refine gf_6_0 (pc := 11) X Nat.one_pos wd_91 dX6_begin_11 ?_
  refine v_bipush (pc := 14) X cst_b_36 dX6_begin_14 ?_
  refine v_iload_n (pc := 16) X rfl 1 rfl dX6_begin_16 ?_
  refine v_iadd (pc := 17) X dX6_begin_17 ?_
  refine v_iconst (pc := 18) X cst_i_0 dX6_begin_18 ?_
  refine as_20 (pc := 19) X Nat.one_pos h dX6_begin_19 (fun m_2 h => ?_)
  refine v_aload_n (pc := 20) X rfl 0 rfl dX6_begin_20 ?_
  refine gf_6_0 (pc := 21) X Nat.one_pos wd_91 dX6_begin_21 ?_
  refine v_bipush (pc := 24) X cst_b_42 dX6_begin_24 ?_
  refine v_iload_n (pc := 26) X rfl 1 rfl dX6_begin_26 ?_
  refine v_iadd (pc := 27) X dX6_begin_27 ?_
  refine v_iconst (pc := 28) X cst_i_0 dX6_begin_28 ?_
  refine as_20 (pc := 29) X Nat.one_pos h dX6_begin_29 (fun m_3 h => ?_)
  refine v_aload_n (pc := 30) X rfl 0 rfl dX6_begin_30 ?_
  refine gf_6_0 (pc := 31) X Nat.one_pos wd_91 dX6_begin_31 ?_
  refine v_bipush (pc := 34) X cst_b_48 dX6_begin_34 ?_
  refine v_iload_n (pc := 36) X rfl 1 rfl dX6_begin_36 ?_
  refine v_iadd (pc := 37) X dX6_begin_37 ?_
  refine v_iconst (pc := 38) X cst_i_0 dX6_begin_38 ?_
  refine as_20 (pc := 39) X Nat.one_pos h dX6_begin_39 (fun m_4 h => ?_)
  refine v_aload_n (pc := 40) X rfl 0 rfl dX6_begin_40 ?_
  refine gf_6_0 (pc := 41) X Nat.one_pos wd_91 dX6_begin_41 ?_
  refine v_bipush (pc := 44) X cst_b_54 dX6_begin_44 ?_
  refine v_iload_n (pc := 46) X rfl 1 rfl dX6_begin_46 ?_
  refine v_iadd (pc := 47) X dX6_begin_47 ?_
  refine v_iconst (pc := 48) X cst_i_0 dX6_begin_48 ?_
  refine as_20 (pc := 49) X Nat.one_pos h dX6_begin_49 (fun m_5 h => ?_)
  exact v_vret (pc := 50) X hr hlk h dX6_begin_50

def wp_X6_wake_b99 (a1 : Int32) (a2 : Int32) (q : Int32 → Mem → Prop) (K : Int32 → Int32 → Mem → Prop) (b4 : Int32) (t0 : Int32) (t1 : Int32) (μ : Mem) : Prop :=
∀ y_1 : Int32, y_1 = (t0 + t1) →
K y_1 (b4 + 1) μ
def wp_X6_wake_l77 (a1 : Int32) (a2 : Int32) (q : Int32 → Mem → Prop) : Nat → Int32 → Int32 → Mem → Prop
  | 0 => fun _ _ _ => False
  | n + 1 => fun b3 b4 μ =>
(((nI 6) ≤ b4 →
q b3 μ) ∧ (¬ (nI 6) ≤ b4 →
wp_X6_isOut b4 μ (fun x_2 m_1 =>
((x_2 = 0 →
wp_X6_wake_b99 a1 a2 q (wp_X6_wake_l77 a1 a2 q n) b4 b3 1 m_1) ∧ (¬ x_2 = 0 →
wp_X6_wake_b99 a1 a2 q (wp_X6_wake_l77 a1 a2 q n) b4 b3 0 m_1)))))
def wp_X6_wake (a1 : Int32) (a2 : Int32) (μ : Mem) (q : Int32 → Mem → Prop) : Prop :=
wp_X6_isNode a1 μ (fun x_2 m_1 =>
((¬ x_2 = 0 →
wp_X6_in a2 (-500) (nI 500) m_1 (fun x_4 m_3 =>
((¬ x_4 = 0 →
wp_X6_isOut a1 m_3 (fun x_6 m_5 =>
((¬ x_6 = 0 →
wp_X6_begin a1 1 m_5 (fun m_7 =>
vp_in ((nI 60) + a1) 256 ∧ ∀ m_8 : Mem, m_8 = ms m_7 20 0 (((nI 60) + a1) : Int32).toNatClampNeg a2 →
vp_in ((nI 66) + a1) 256 ∧ ∀ m_9 : Mem, m_9 = ms m_8 20 0 (((nI 66) + a1) : Int32).toNatClampNeg 0 →
vp_in ((nI 72) + a1) 256 ∧ ∀ m_10 : Mem, m_10 = ms m_9 20 0 (((nI 72) + a1) : Int32).toNatClampNeg 0 →
∃ n : Nat, wp_X6_wake_l77 a1 a2 q n 0 0 m_10)) ∧ (x_6 = 0 →
q (-3) m_5)))) ∧ (x_4 = 0 →
q (-2) m_3)))) ∧ (x_2 = 0 →
q (-1) m_1)))
set_option maxRecDepth 100000 in
set_option maxHeartbeats 4000000 in
theorem c_X6_wake (l : Launch) (g : GG) (hI : Inj g) (μ : Mem) (a1 : Int32) (a2 : Int32) (q : Int32 → Mem → Prop) (h : wp_X6_wake a1 a2 μ q) : Met l yX6_wake (Cond.code yX6_wake cX6_wake 5 (some .int) :: wsL_law) ({ frames := 2, cells := 0, slots := 0, locals := 43 }) (KP g [.ref (g.1 6 0), .int a1, .int a2] μ) (KQi g q) 0 0 (AA g) := by
  refine met_V (own := RX6) hI (by decide) rfl (Nat.le_of_ble_eq_true rfl) rfl (fun p e s m args below meth c X hr hlk => ?_)
  have L77 : ∀ (n : Nat) (b3 : Int32) (b4 : Int32) (μ : Mem), wp_X6_wake_l77 a1 a2 q n b3 b4 μ → V p l e ({ frames := 2, cells := 0, slots := 0, locals := 43 }) s m args below meth c 5 g (AA g) 0 0 (MQ below (KQi g q) args s 0 0 (AA g)) μ 77 [(0, .ref (g.1 6 0)), (3, .int b3), (4, .int b4)] [] := by
    intro n
    induction n with
    | zero => intro b3 b4 μ h; exact h.elim
    | succ n ih =>
      have B99 : ∀ (b4 : Int32) (t0 : Int32) (t1 : Int32) (μ : Mem), wp_X6_wake_b99 a1 a2 q (wp_X6_wake_l77 a1 a2 q n) b4 t0 t1 μ → V p l e ({ frames := 2, cells := 0, slots := 0, locals := 43 }) s m args below meth c 5 g (AA g) 0 0 (MQ below (KQi g q) args s 0 0 (AA g)) μ 99 [(0, .ref (g.1 6 0)), (4, .int b4)] [.int t1, .int t0] := by
        intro b4 t0 t1 μ h
        unfold wp_X6_wake_b99 at h
        refine v_iadd (pc := 99) X dX6_wake_99 ?_
        refine v_nm h (fun y_1 h => ?_)
        refine v_istore_n (pc := 100) (lv' := [(3, .int y_1), (0, .ref (g.1 6 0)), (4, .int b4)]) X rfl (by decide) rfl dX6_wake_100 ?_
        refine v_iinc (pc := 101) (lv' := [(4, .int (b4 + 1)), (3, .int y_1), (0, .ref (g.1 6 0))]) (j := 2) X rfl (congrArg (HAdd.hAdd _) cst_i_1) (by decide) rfl dX6_wake_101 ?_
        refine v_goto (pc := 104) (tgt := 77) X dX6_wake_104 (by decide) ?_
        refine v_sub [2, 1, 0] rfl ?_
        exact ih _ _ _ h
      intro b3 b4 μ h
      unfold wp_X6_wake_l77 at h
      refine v_iload (pc := 77) X 2 rfl dX6_wake_77 ?_
      refine v_bipush (pc := 79) X cst_b_6 dX6_wake_79 ?_
      refine v_icmp_ge (pc := 81) (tgt := 107) X h dX6_wake_81 (by decide) (fun h => ?_) (fun h => ?_)
      · refine v_iload_n (pc := 107) X rfl 1 rfl dX6_wake_107 ?_
        exact v_iret (pc := 108) X hr hlk h dX6_wake_108
      · refine v_iload_n (pc := 84) X rfl 1 rfl dX6_wake_84 ?_
        refine v_aload_n (pc := 85) X rfl 0 rfl dX6_wake_85 ?_
        refine v_iload (pc := 86) X 2 rfl dX6_wake_86 ?_
        refine v_callVi (pc := 88) X (c_X6_isOut l g hI _ _ _ h) wd_199 wd_196 wd_197 wd_198 wd_5 ⟨rfl, rfl⟩ hdc_X6_isOut ⟨Nat.le_of_ble_eq_true rfl, Nat.le_of_ble_eq_true rfl⟩ ⟨Nat.le_refl 0, Nat.le_refl 0⟩ Nat.one_pos rfl rfl (As := [.int b4]) rfl rfl (Nat.le_of_ble_eq_true rfl) dX6_wake_88 (fun x_2 m_1 h => ?_)
        refine v_if_eq (pc := 91) (tgt := 98) X h dX6_wake_91 (by decide) (fun h => ?_) (fun h => ?_)
        · refine v_iconst (pc := 98) X cst_i_1 dX6_wake_98 ?_
          refine v_sub [0, 2] rfl ?_
          exact B99 _ _ _ _ h
        · refine v_iconst (pc := 94) X cst_i_0 dX6_wake_94 ?_
          refine v_goto (pc := 95) (tgt := 99) X dX6_wake_95 (by decide) ?_
          refine v_sub [0, 2] rfl ?_
          exact B99 _ _ _ _ h
  unfold wp_X6_wake at h
  refine v_iload_n (pc := 0) X rfl 1 rfl dX6_wake_0 ?_
  refine v_callSi (pc := 1) X (c_X6_isNode l g hI _ _ _ h) wd_131 wd_129 wd_130 wd_5 ⟨rfl, rfl⟩ hdc_X6_isNode ⟨Nat.le_of_ble_eq_true rfl, Nat.le_of_ble_eq_true rfl⟩ ⟨Nat.le_refl 0, Nat.le_refl 0⟩ (As := [.int a1]) rfl rfl (Nat.le_of_ble_eq_true rfl) dX6_wake_1 (fun x_2 m_1 h => ?_)
  refine v_if_ne (pc := 4) (tgt := 9) X h dX6_wake_4 (by decide) (fun h => ?_) (fun h => ?_)
  · refine v_iload_n (pc := 9) X rfl 2 rfl dX6_wake_9 ?_
    refine v_sipush (pc := 10) X cst_s_m500 dX6_wake_10 ?_
    refine v_sipush (pc := 13) X cst_s_500 dX6_wake_13 ?_
    refine v_callSi (pc := 16) X (c_X6_in l g hI _ _ _ _ _ h) wd_134 wd_132 wd_133 wd_5 ⟨rfl, rfl⟩ hdc_X6_in ⟨Nat.le_of_ble_eq_true rfl, Nat.le_of_ble_eq_true rfl⟩ ⟨Nat.le_refl 0, Nat.le_refl 0⟩ (As := [.int a2, .int (-500), .int (nI 500)]) rfl rfl (Nat.le_of_ble_eq_true rfl) dX6_wake_16 (fun x_4 m_3 h => ?_)
    refine v_if_ne (pc := 19) (tgt := 25) X h dX6_wake_19 (by decide) (fun h => ?_) (fun h => ?_)
    · refine v_aload_n (pc := 25) X rfl 0 rfl dX6_wake_25 ?_
      refine v_iload_n (pc := 26) X rfl 1 rfl dX6_wake_26 ?_
      refine v_callVi (pc := 27) X (c_X6_isOut l g hI _ _ _ h) wd_199 wd_196 wd_197 wd_198 wd_5 ⟨rfl, rfl⟩ hdc_X6_isOut ⟨Nat.le_of_ble_eq_true rfl, Nat.le_of_ble_eq_true rfl⟩ ⟨Nat.le_refl 0, Nat.le_refl 0⟩ Nat.one_pos rfl rfl (As := [.int a1]) rfl rfl (Nat.le_of_ble_eq_true rfl) dX6_wake_27 (fun x_6 m_5 h => ?_)
      refine v_if_ne (pc := 30) (tgt := 36) X h dX6_wake_30 (by decide) (fun h => ?_) (fun h => ?_)
      · refine v_aload_n (pc := 36) X rfl 0 rfl dX6_wake_36 ?_
        refine v_iload_n (pc := 37) X rfl 1 rfl dX6_wake_37 ?_
        refine v_iconst (pc := 38) X cst_i_1 dX6_wake_38 ?_
        refine v_callVv (pc := 39) X (c_X6_begin l g hI _ _ _ _ h) wd_203 wd_200 wd_201 wd_202 wd_5 ⟨rfl, rfl⟩ hdc_X6_begin ⟨Nat.le_of_ble_eq_true rfl, Nat.le_of_ble_eq_true rfl⟩ ⟨Nat.le_refl 0, Nat.le_refl 0⟩ Nat.one_pos rfl rfl (As := [.int a1, .int 1]) rfl rfl (Nat.le_of_ble_eq_true rfl) dX6_wake_39 (fun m_7 h => ?_)
        refine v_aload_n (pc := 42) X rfl 0 rfl dX6_wake_42 ?_
        refine gf_6_0 (pc := 43) X Nat.one_pos wd_91 dX6_wake_43 ?_
        refine v_bipush (pc := 46) X cst_b_60 dX6_wake_46 ?_
        refine v_iload_n (pc := 48) X rfl 1 rfl dX6_wake_48 ?_
        refine v_iadd (pc := 49) X dX6_wake_49 ?_
        refine v_iload_n (pc := 50) X rfl 2 rfl dX6_wake_50 ?_
        refine as_20 (pc := 51) X Nat.one_pos h dX6_wake_51 (fun m_8 h => ?_)
        refine v_aload_n (pc := 52) X rfl 0 rfl dX6_wake_52 ?_
        refine gf_6_0 (pc := 53) X Nat.one_pos wd_91 dX6_wake_53 ?_
        refine v_bipush (pc := 56) X cst_b_66 dX6_wake_56 ?_
        refine v_iload_n (pc := 58) X rfl 1 rfl dX6_wake_58 ?_
        refine v_iadd (pc := 59) X dX6_wake_59 ?_
        refine v_iconst (pc := 60) X cst_i_0 dX6_wake_60 ?_
        refine as_20 (pc := 61) X Nat.one_pos h dX6_wake_61 (fun m_9 h => ?_)
        refine v_aload_n (pc := 62) X rfl 0 rfl dX6_wake_62 ?_
        refine gf_6_0 (pc := 63) X Nat.one_pos wd_91 dX6_wake_63 ?_
        refine v_bipush (pc := 66) X cst_b_72 dX6_wake_66 ?_
        refine v_iload_n (pc := 68) X rfl 1 rfl dX6_wake_68 ?_
        refine v_iadd (pc := 69) X dX6_wake_69 ?_
        refine v_iconst (pc := 70) X cst_i_0 dX6_wake_70 ?_
        refine as_20 (pc := 71) X Nat.one_pos h dX6_wake_71 (fun m_10 h => ?_)
        refine v_iconst (pc := 72) X cst_i_0 dX6_wake_72 ?_
        refine v_istore_n (pc := 73) (lv' := [(3, .int 0), (0, .ref (g.1 6 0)), (1, .int a1), (2, .int a2)]) X rfl (by decide) rfl dX6_wake_73 ?_
        refine v_iconst (pc := 74) X cst_i_0 dX6_wake_74 ?_
        refine v_istore (pc := 75) (lv' := [(4, .int 0), (3, .int 0), (0, .ref (g.1 6 0)), (1, .int a1), (2, .int a2)]) X (by decide) rfl dX6_wake_75 ?_
        refine v_sub [2, 1, 0] rfl ?_
        obtain ⟨n, h⟩ := h
        exact L77 n _ _ _ h
      · refine v_bipush (pc := 33) X cst_b_m3 dX6_wake_33 ?_
        exact v_iret (pc := 35) X hr hlk h dX6_wake_35
    · refine v_bipush (pc := 22) X cst_b_m2 dX6_wake_22 ?_
      exact v_iret (pc := 24) X hr hlk h dX6_wake_24
  · refine v_iconst (pc := 7) X cst_i_m1 dX6_wake_7 ?_
    exact v_iret (pc := 8) X hr hlk h dX6_wake_8

def wp_X6_off (a1 : Int32) (μ : Mem) (q : Int32 → Mem → Prop) : Prop :=
wp_X6_isNode a1 μ (fun x_2 m_1 =>
((¬ x_2 = 0 →
vp_in ((nI 30) + a1) 256 ∧ ∀ x_3 : Int32, x_3 = m_1 20 0 (((nI 30) + a1) : Int32).toNatClampNeg →
wp_X6_begin a1 0 m_1 (fun m_4 =>
vp_in ((nI 60) + a1) 256 ∧ ∀ m_5 : Mem, m_5 = ms m_4 20 0 (((nI 60) + a1) : Int32).toNatClampNeg 0 →
vp_in ((nI 66) + a1) 256 ∧ ∀ m_6 : Mem, m_6 = ms m_5 20 0 (((nI 66) + a1) : Int32).toNatClampNeg 0 →
vp_in ((nI 72) + a1) 256 ∧ ∀ m_7 : Mem, m_7 = ms m_6 20 0 (((nI 72) + a1) : Int32).toNatClampNeg 0 →
q x_3 m_7)) ∧ (x_2 = 0 →
q (-1) m_1)))
set_option maxRecDepth 100000 in
set_option maxHeartbeats 4000000 in
theorem c_X6_off (l : Launch) (g : GG) (hI : Inj g) (μ : Mem) (a1 : Int32) (q : Int32 → Mem → Prop) (h : wp_X6_off a1 μ q) : Met l yX6_off (Cond.code yX6_off cX6_off 3 (some .int) :: wsL_law) ({ frames := 2, cells := 0, slots := 0, locals := 42 }) (KP g [.ref (g.1 6 0), .int a1] μ) (KQi g q) 0 0 (AA g) := by
  refine met_V (own := RX6) hI (by decide) rfl (Nat.le_of_ble_eq_true rfl) rfl (fun p e s m args below meth c X hr hlk => ?_)
  unfold wp_X6_off at h
  refine v_iload_n (pc := 0) X rfl 1 rfl dX6_off_0 ?_
  refine v_callSi (pc := 1) X (c_X6_isNode l g hI _ _ _ h) wd_131 wd_129 wd_130 wd_5 ⟨rfl, rfl⟩ hdc_X6_isNode ⟨Nat.le_of_ble_eq_true rfl, Nat.le_of_ble_eq_true rfl⟩ ⟨Nat.le_refl 0, Nat.le_refl 0⟩ (As := [.int a1]) rfl rfl (Nat.le_of_ble_eq_true rfl) dX6_off_1 (fun x_2 m_1 h => ?_)
  refine v_if_ne (pc := 4) (tgt := 9) X h dX6_off_4 (by decide) (fun h => ?_) (fun h => ?_)
  · refine v_aload_n (pc := 9) X rfl 0 rfl dX6_off_9 ?_
    refine gf_6_0 (pc := 10) X Nat.one_pos wd_91 dX6_off_10 ?_
    refine v_bipush (pc := 13) X cst_b_30 dX6_off_13 ?_
    refine v_iload_n (pc := 15) X rfl 1 rfl dX6_off_15 ?_
    refine v_iadd (pc := 16) X dX6_off_16 ?_
    refine al_20 (pc := 17) X Nat.one_pos h dX6_off_17 (fun x_3 h => ?_)
    refine v_istore_n (pc := 18) (lv' := [(2, .int x_3), (0, .ref (g.1 6 0)), (1, .int a1)]) X rfl (by decide) rfl dX6_off_18 ?_
    refine v_aload_n (pc := 19) X rfl 1 rfl dX6_off_19 ?_
    refine v_iload_n (pc := 20) X rfl 2 rfl dX6_off_20 ?_
    refine v_iconst (pc := 21) X cst_i_0 dX6_off_21 ?_
    refine v_callVv (pc := 22) X (c_X6_begin l g hI _ _ _ _ h) wd_203 wd_200 wd_201 wd_202 wd_5 ⟨rfl, rfl⟩ hdc_X6_begin ⟨Nat.le_of_ble_eq_true rfl, Nat.le_of_ble_eq_true rfl⟩ ⟨Nat.le_refl 0, Nat.le_refl 0⟩ Nat.one_pos rfl rfl (As := [.int a1, .int 0]) rfl rfl (Nat.le_of_ble_eq_true rfl) dX6_off_22 (fun m_4 h => ?_)
    refine v_aload_n (pc := 25) X rfl 1 rfl dX6_off_25 ?_
    refine gf_6_0 (pc := 26) X Nat.one_pos wd_91 dX6_off_26 ?_
    refine v_bipush (pc := 29) X cst_b_60 dX6_off_29 ?_
    refine v_iload_n (pc := 31) X rfl 2 rfl dX6_off_31 ?_
    refine v_iadd (pc := 32) X dX6_off_32 ?_
    refine v_iconst (pc := 33) X cst_i_0 dX6_off_33 ?_
    refine as_20 (pc := 34) X Nat.one_pos h dX6_off_34 (fun m_5 h => ?_)
    refine v_aload_n (pc := 35) X rfl 1 rfl dX6_off_35 ?_
    refine gf_6_0 (pc := 36) X Nat.one_pos wd_91 dX6_off_36 ?_
    refine v_bipush (pc := 39) X cst_b_66 dX6_off_39 ?_
    refine v_iload_n (pc := 41) X rfl 2 rfl dX6_off_41 ?_
    refine v_iadd (pc := 42) X dX6_off_42 ?_
    refine v_iconst (pc := 43) X cst_i_0 dX6_off_43 ?_
    refine as_20 (pc := 44) X Nat.one_pos h dX6_off_44 (fun m_6 h => ?_)
    refine v_aload_n (pc := 45) X rfl 1 rfl dX6_off_45 ?_
    refine gf_6_0 (pc := 46) X Nat.one_pos wd_91 dX6_off_46 ?_
    refine v_bipush (pc := 49) X cst_b_72 dX6_off_49 ?_
    refine v_iload_n (pc := 51) X rfl 2 rfl dX6_off_51 ?_
    refine v_iadd (pc := 52) X dX6_off_52 ?_
    refine v_iconst (pc := 53) X cst_i_0 dX6_off_53 ?_
    refine as_20 (pc := 54) X Nat.one_pos h dX6_off_54 (fun m_7 h => ?_)
    refine v_iload_n (pc := 55) X rfl 0 rfl dX6_off_55 ?_
    exact v_iret (pc := 56) X hr hlk h dX6_off_56
  · refine v_iconst (pc := 7) X cst_i_m1 dX6_off_7 ?_
    exact v_iret (pc := 8) X hr hlk h dX6_off_8

def wp_X6_lay_b41 (a1 : Int32) (q : Mem → Prop) (b2 : Int32) (μ : Mem) : Prop :=
vp_in b2 8 ∧ ∀ m_1 : Mem, m_1 = ms μ 23 0 (b2 : Int32).toNatClampNeg a1 →
∀ x_2 : Int32, x_2 = m_1 6 0 4 →
∀ m_3 : Mem, m_3 = ms m_1 6 0 4 (x_2 + 1) →
q m_3
def wp_X6_lay_l5 (a1 : Int32) (q : Mem → Prop) : Nat → Int32 → Mem → Prop
  | 0 => fun _ _ => False
  | n + 1 => fun b2 μ =>
((b2 ≤ 0 →
wp_X6_lay_b41 a1 q b2 μ) ∧ (¬ b2 ≤ 0 →
vp_in (b2 - 1) 8 ∧ ∀ x_1 : Int32, x_1 = μ 23 0 ((b2 - 1) : Int32).toNatClampNeg →
((x_1 ≤ a1 →
wp_X6_lay_b41 a1 q b2 μ) ∧ (¬ x_1 ≤ a1 →
vp_in (b2 - 1) 8 ∧ ∀ x_2 : Int32, x_2 = μ 23 0 ((b2 - 1) : Int32).toNatClampNeg →
vp_in b2 8 ∧ ∀ m_3 : Mem, m_3 = ms μ 23 0 (b2 : Int32).toNatClampNeg x_2 →
wp_X6_lay_l5 a1 q n (b2 + (-1)) m_3))))
def wp_X6_lay (a1 : Int32) (μ : Mem) (q : Mem → Prop) : Prop :=
∀ x_1 : Int32, x_1 = μ 6 0 4 →
∃ n : Nat, wp_X6_lay_l5 a1 q n x_1 μ
set_option maxRecDepth 100000 in
set_option maxHeartbeats 4000000 in
theorem c_X6_lay (l : Launch) (g : GG) (hI : Inj g) (μ : Mem) (a1 : Int32) (q : Mem → Prop) (h : wp_X6_lay a1 μ q) : Met l yX6_lay (Cond.code yX6_lay cX6_lay 3 none :: wsL_law) ({ frames := 0, cells := 0, slots := 0, locals := 0 }) (KP g [.ref (g.1 6 0), .int a1] μ) (KQv g q) 0 0 (AA g) := by
  refine met_V (own := RX6) hI (by decide) rfl (Nat.le_of_ble_eq_true rfl) rfl (fun p e s m args below meth c X hr hlk => ?_)
  have B41 : ∀ (b2 : Int32) (μ : Mem), wp_X6_lay_b41 a1 q b2 μ → V p l e ({ frames := 0, cells := 0, slots := 0, locals := 0 }) s m args below meth c 3 g (AA g) 0 0 (MQ below (KQv g q) args s 0 0 (AA g)) μ 41 [(0, .ref (g.1 6 0)), (1, .int a1), (2, .int b2)] [] := by
    intro b2 μ h
    unfold wp_X6_lay_b41 at h
    refine v_aload_n (pc := 41) X rfl 0 rfl dX6_lay_41 ?_
    refine gf_6_3 (pc := 42) X Nat.one_pos wd_95 dX6_lay_42 ?_
    refine v_iload_n (pc := 45) X rfl 2 rfl dX6_lay_45 ?_
    refine v_iload_n (pc := 46) X rfl 1 rfl dX6_lay_46 ?_
    refine as_23 (pc := 47) X Nat.one_pos h dX6_lay_47 (fun m_1 h => ?_)
    refine v_aload_n (pc := 48) X rfl 0 rfl dX6_lay_48 ?_
    refine v_dup (pc := 49) X rfl dX6_lay_49 ?_
    refine gf_6_4 (pc := 50) X Nat.one_pos wd_428 h dX6_lay_50 (fun x_2 h => ?_)
    refine v_iconst (pc := 53) X cst_i_1 dX6_lay_53 ?_
    refine v_iadd (pc := 54) X dX6_lay_54 ?_
    refine pf_6_4 (pc := 55) X Nat.one_pos wd_428 h dX6_lay_55 (fun m_3 h => ?_)
    exact v_vret (pc := 58) X hr hlk h dX6_lay_58
  have L5 : ∀ (n : Nat) (b2 : Int32) (μ : Mem), wp_X6_lay_l5 a1 q n b2 μ → V p l e ({ frames := 0, cells := 0, slots := 0, locals := 0 }) s m args below meth c 3 g (AA g) 0 0 (MQ below (KQv g q) args s 0 0 (AA g)) μ 5 [(0, .ref (g.1 6 0)), (1, .int a1), (2, .int b2)] [] := by
    intro n
    induction n with
    | zero => intro b2 μ h; exact h.elim
    | succ n ih =>
      intro b2 μ h
      unfold wp_X6_lay_l5 at h
      refine v_iload_n (pc := 5) X rfl 2 rfl dX6_lay_5 ?_
      refine v_if_le (pc := 6) (tgt := 41) X h dX6_lay_6 (by decide) (fun h => ?_) (fun h => ?_)
      · exact B41 _ _ h
      · refine v_aload_n (pc := 9) X rfl 0 rfl dX6_lay_9 ?_
        refine gf_6_3 (pc := 10) X Nat.one_pos wd_95 dX6_lay_10 ?_
        refine v_iload_n (pc := 13) X rfl 2 rfl dX6_lay_13 ?_
        refine v_iconst (pc := 14) X cst_i_1 dX6_lay_14 ?_
        refine v_isub (pc := 15) X dX6_lay_15 ?_
        refine al_23 (pc := 16) X Nat.one_pos h dX6_lay_16 (fun x_1 h => ?_)
        refine v_iload_n (pc := 17) X rfl 1 rfl dX6_lay_17 ?_
        refine v_icmp_le (pc := 18) (tgt := 41) X h dX6_lay_18 (by decide) (fun h => ?_) (fun h => ?_)
        · exact B41 _ _ h
        · refine v_aload_n (pc := 21) X rfl 0 rfl dX6_lay_21 ?_
          refine gf_6_3 (pc := 22) X Nat.one_pos wd_95 dX6_lay_22 ?_
          refine v_iload_n (pc := 25) X rfl 2 rfl dX6_lay_25 ?_
          refine v_aload_n (pc := 26) X rfl 0 rfl dX6_lay_26 ?_
          refine gf_6_3 (pc := 27) X Nat.one_pos wd_95 dX6_lay_27 ?_
          refine v_iload_n (pc := 30) X rfl 2 rfl dX6_lay_30 ?_
          refine v_iconst (pc := 31) X cst_i_1 dX6_lay_31 ?_
          refine v_isub (pc := 32) X dX6_lay_32 ?_
          refine al_23 (pc := 33) X Nat.one_pos h dX6_lay_33 (fun x_2 h => ?_)
          refine as_23 (pc := 34) X Nat.one_pos h dX6_lay_34 (fun m_3 h => ?_)
          refine v_iinc (pc := 35) (lv' := [(2, .int (b2 + (-1))), (0, .ref (g.1 6 0)), (1, .int a1)]) (j := 2) X rfl (congrArg (HAdd.hAdd _) cst_i_m1) (by decide) rfl dX6_lay_35 ?_
          refine v_goto (pc := 38) (tgt := 5) X dX6_lay_38 (by decide) ?_
          refine v_sub [1, 2, 0] rfl ?_
          exact ih _ _ h
  unfold wp_X6_lay at h
  refine v_aload_n (pc := 0) X rfl 0 rfl dX6_lay_0 ?_
  refine gf_6_4 (pc := 1) X Nat.one_pos wd_428 h dX6_lay_1 (fun x_1 h => ?_)
  refine v_istore_n (pc := 4) (lv' := [(2, .int x_1), (0, .ref (g.1 6 0)), (1, .int a1)]) X rfl (by decide) rfl dX6_lay_4 ?_
  refine v_sub [1, 2, 0] rfl ?_
  obtain ⟨n, h⟩ := h
  exact L5 n _ _ h

def wp_X6_trimmed_b13  (q : Int32 → Mem → Prop) (t0 : Int32) (μ : Mem) : Prop :=
vp_in t0 8 ∧ ∀ x_1 : Int32, x_1 = μ 23 0 (t0 : Int32).toNatClampNeg →
∀ x_2 : Int32, x_2 = μ 6 0 4 →
vp_in ((x_2 - 1) - t0) 8 ∧ ∀ x_3 : Int32, x_3 = μ 23 0 (((x_2 - 1) - t0) : Int32).toNatClampNeg →
q ((x_1 + x_3) / (nI 2)) μ
def wp_X6_trimmed  (μ : Mem) (q : Int32 → Mem → Prop) : Prop :=
∀ x_1 : Int32, x_1 = μ 6 0 4 →
((x_1 < (nI 3) →
wp_X6_trimmed_b13  q 0 μ) ∧ (¬ x_1 < (nI 3) →
wp_X6_trimmed_b13  q 1 μ))
set_option maxRecDepth 100000 in
set_option maxHeartbeats 4000000 in
theorem c_X6_trimmed (l : Launch) (g : GG) (hI : Inj g) (μ : Mem)  (q : Int32 → Mem → Prop) (h : wp_X6_trimmed  μ q) : Met l yX6_trimmed (Cond.code yX6_trimmed cX6_trimmed 2 (some .int) :: wsL_law) ({ frames := 0, cells := 0, slots := 0, locals := 0 }) (KP g [.ref (g.1 6 0)] μ) (KQi g q) 0 0 (AA g) := by
  refine met_V (own := RX6) hI (by decide) rfl (Nat.le_of_ble_eq_true rfl) rfl (fun p e s m args below meth c X hr hlk => ?_)
  have B13 : ∀ (t0 : Int32) (μ : Mem), wp_X6_trimmed_b13  q t0 μ → V p l e ({ frames := 0, cells := 0, slots := 0, locals := 0 }) s m args below meth c 2 g (AA g) 0 0 (MQ below (KQi g q) args s 0 0 (AA g)) μ 13 [(0, .ref (g.1 6 0))] [.int t0] := by
    intro t0 μ h
    unfold wp_X6_trimmed_b13 at h
    refine v_istore_n (pc := 13) (lv' := [(1, .int t0), (0, .ref (g.1 6 0))]) X rfl (by decide) rfl dX6_trimmed_13 ?_
    refine v_aload_n (pc := 14) X rfl 1 rfl dX6_trimmed_14 ?_
    refine gf_6_3 (pc := 15) X Nat.one_pos wd_95 dX6_trimmed_15 ?_
    refine v_iload_n (pc := 18) X rfl 0 rfl dX6_trimmed_18 ?_
    refine al_23 (pc := 19) X Nat.one_pos h dX6_trimmed_19 (fun x_1 h => ?_)
    refine v_aload_n (pc := 20) X rfl 1 rfl dX6_trimmed_20 ?_
    refine gf_6_3 (pc := 21) X Nat.one_pos wd_95 dX6_trimmed_21 ?_
    refine v_aload_n (pc := 24) X rfl 1 rfl dX6_trimmed_24 ?_
    refine gf_6_4 (pc := 25) X Nat.one_pos wd_428 h dX6_trimmed_25 (fun x_2 h => ?_)
    refine v_iconst (pc := 28) X cst_i_1 dX6_trimmed_28 ?_
    refine v_isub (pc := 29) X dX6_trimmed_29 ?_
    refine v_iload_n (pc := 30) X rfl 0 rfl dX6_trimmed_30 ?_
    refine v_isub (pc := 31) X dX6_trimmed_31 ?_
    refine al_23 (pc := 32) X Nat.one_pos h dX6_trimmed_32 (fun x_3 h => ?_)
    refine v_iadd (pc := 33) X dX6_trimmed_33 ?_
    refine v_iconst (pc := 34) X cst_i_2 dX6_trimmed_34 ?_
    refine v_idiv (pc := 35) X (by decide) dX6_trimmed_35 ?_
    exact v_iret (pc := 36) X hr hlk h dX6_trimmed_36
  unfold wp_X6_trimmed at h
  refine v_aload_n (pc := 0) X rfl 0 rfl dX6_trimmed_0 ?_
  refine gf_6_4 (pc := 1) X Nat.one_pos wd_428 h dX6_trimmed_1 (fun x_1 h => ?_)
  refine v_iconst (pc := 4) X cst_i_3 dX6_trimmed_4 ?_
  refine v_icmp_lt (pc := 5) (tgt := 12) X h dX6_trimmed_5 (by decide) (fun h => ?_) (fun h => ?_)
  · refine v_iconst (pc := 12) X cst_i_0 dX6_trimmed_12 ?_
    exact B13 _ _ h
  · refine v_iconst (pc := 8) X cst_i_1 dX6_trimmed_8 ?_
    refine v_goto (pc := 9) (tgt := 13) X dX6_trimmed_9 (by decide) ?_
    exact B13 _ _ h

def wp_X6_isFirst (a1 : Int32) (μ : Mem) (q : Int32 → Mem → Prop) : Prop :=
wp_X6_is a1 (nI 2) μ (fun x_2 m_1 =>
((x_2 = 0 →
q 0 m_1) ∧ (¬ x_2 = 0 →
vp_in ((nI 36) + a1) 256 ∧ ∀ x_3 : Int32, x_3 = m_1 20 0 (((nI 36) + a1) : Int32).toNatClampNeg →
((¬ x_3 = 1 →
q 0 m_1) ∧ (x_3 = 1 →
q 1 m_1)))))
set_option maxRecDepth 100000 in
set_option maxHeartbeats 4000000 in
theorem c_X6_isFirst (l : Launch) (g : GG) (hI : Inj g) (μ : Mem) (a1 : Int32) (q : Int32 → Mem → Prop) (h : wp_X6_isFirst a1 μ q) : Met l yX6_isFirst (Cond.code yX6_isFirst cX6_isFirst 2 (some .boolean) :: wsL_law) ({ frames := 1, cells := 0, slots := 0, locals := 22 }) (KP g [.ref (g.1 6 0), .int a1] μ) (KQi g q) 0 0 (AA g) := by
  refine met_V (own := RX6) hI (by decide) rfl (Nat.le_of_ble_eq_true rfl) rfl (fun p e s m args below meth c X hr hlk => ?_)
  unfold wp_X6_isFirst at h
  refine v_aload_n (pc := 0) X rfl 0 rfl dX6_isFirst_0 ?_
  refine v_iload_n (pc := 1) X rfl 1 rfl dX6_isFirst_1 ?_
  refine v_iconst (pc := 2) X cst_i_2 dX6_isFirst_2 ?_
  refine v_callVi (pc := 3) X (c_X6_is l g hI _ _ _ _ h) wd_138 wd_135 wd_136 wd_137 wd_5 ⟨rfl, rfl⟩ hdc_X6_is ⟨Nat.le_of_ble_eq_true rfl, Nat.le_of_ble_eq_true rfl⟩ ⟨Nat.le_refl 0, Nat.le_refl 0⟩ Nat.one_pos rfl rfl (As := [.int a1, .int (nI 2)]) rfl rfl (Nat.le_of_ble_eq_true rfl) dX6_isFirst_3 (fun x_2 m_1 h => ?_)
  refine v_if_eq (pc := 6) (tgt := 26) X h dX6_isFirst_6 (by decide) (fun h => ?_) (fun h => ?_)
  · refine v_iconst (pc := 26) X cst_i_0 dX6_isFirst_26 ?_
    exact v_zret (pc := 27) X hr hlk ⟨nz_0, h⟩ dX6_isFirst_27
  · refine v_aload_n (pc := 9) X rfl 0 rfl dX6_isFirst_9 ?_
    refine gf_6_0 (pc := 10) X Nat.one_pos wd_91 dX6_isFirst_10 ?_
    refine v_bipush (pc := 13) X cst_b_36 dX6_isFirst_13 ?_
    refine v_iload_n (pc := 15) X rfl 1 rfl dX6_isFirst_15 ?_
    refine v_iadd (pc := 16) X dX6_isFirst_16 ?_
    refine al_20 (pc := 17) X Nat.one_pos h dX6_isFirst_17 (fun x_3 h => ?_)
    refine v_iconst (pc := 18) X cst_i_1 dX6_isFirst_18 ?_
    refine v_icmp_ne (pc := 19) (tgt := 26) X h dX6_isFirst_19 (by decide) (fun h => ?_) (fun h => ?_)
    · refine v_iconst (pc := 26) X cst_i_0 dX6_isFirst_26 ?_
      exact v_zret (pc := 27) X hr hlk ⟨nz_0, h⟩ dX6_isFirst_27
    · refine v_iconst (pc := 22) X cst_i_1 dX6_isFirst_22 ?_
      refine v_goto (pc := 23) (tgt := 27) X dX6_isFirst_23 (by decide) ?_
      exact v_zret (pc := 27) X hr hlk ⟨nz_1, h⟩ dX6_isFirst_27

def wp_X6_givesWay_b62 (a1 : Int32) (q : Int32 → Mem → Prop) (K : Int32 → Int32 → Mem → Prop) (b3 : Int32) (t0 : Int32) (μ : Mem) : Prop :=
K t0 (b3 + 1) μ
def wp_X6_givesWay_b57 (a1 : Int32) (q : Int32 → Mem → Prop) (K : Int32 → Int32 → Mem → Prop) (b3 : Int32) (μ : Mem) : Prop :=
wp_X6_givesWay_b62 a1 q K b3 1 μ
def wp_X6_givesWay_b61 (a1 : Int32) (q : Int32 → Mem → Prop) (K : Int32 → Int32 → Mem → Prop) (b3 : Int32) (μ : Mem) : Prop :=
wp_X6_givesWay_b62 a1 q K b3 0 μ
def wp_X6_givesWay_l4 (a1 : Int32) (q : Int32 → Mem → Prop) : Nat → Int32 → Int32 → Mem → Prop
  | 0 => fun _ _ _ => False
  | n + 1 => fun b2 b3 μ =>
(((nI 6) ≤ b3 →
nz b2 ∧ q b2 μ) ∧ (¬ (nI 6) ≤ b3 →
((¬ b2 = 0 →
wp_X6_givesWay_b57 a1 q (wp_X6_givesWay_l4 a1 q n) b3 μ) ∧ (b2 = 0 →
((b3 = a1 →
wp_X6_givesWay_b61 a1 q (wp_X6_givesWay_l4 a1 q n) b3 μ) ∧ (¬ b3 = a1 →
vp_in b3 6 ∧ ∀ x_1 : Int32, x_1 = μ 24 0 (b3 : Int32).toNatClampNeg →
((x_1 = 0 →
wp_X6_givesWay_b61 a1 q (wp_X6_givesWay_l4 a1 q n) b3 μ) ∧ (¬ x_1 = 0 →
wp_X6_isFirst b3 μ (fun x_3 m_2 =>
((x_3 = 0 →
wp_X6_givesWay_b57 a1 q (wp_X6_givesWay_l4 a1 q n) b3 m_2) ∧ (¬ x_3 = 0 →
vp_in ((nI 6) + b3) 256 ∧ ∀ x_4 : Int32, x_4 = m_2 20 0 (((nI 6) + b3) : Int32).toNatClampNeg →
vp_in ((nI 6) + a1) 256 ∧ ∀ x_5 : Int32, x_5 = m_2 20 0 (((nI 6) + a1) : Int32).toNatClampNeg →
((x_5 ≤ x_4 →
wp_X6_givesWay_b61 a1 q (wp_X6_givesWay_l4 a1 q n) b3 m_2) ∧ (¬ x_5 ≤ x_4 →
wp_X6_givesWay_b57 a1 q (wp_X6_givesWay_l4 a1 q n) b3 m_2)))))))))))))
def wp_X6_givesWay (a1 : Int32) (μ : Mem) (q : Int32 → Mem → Prop) : Prop :=
∃ n : Nat, wp_X6_givesWay_l4 a1 q n 0 0 μ
set_option maxRecDepth 100000 in
set_option maxHeartbeats 4000000 in
theorem c_X6_givesWay (l : Launch) (g : GG) (hI : Inj g) (μ : Mem) (a1 : Int32) (q : Int32 → Mem → Prop) (h : wp_X6_givesWay a1 μ q) : Met l yX6_givesWay (Cond.code yX6_givesWay cX6_givesWay 4 (some .boolean) :: wsL_law) ({ frames := 2, cells := 0, slots := 0, locals := 43 }) (KP g [.ref (g.1 6 0), .int a1] μ) (KQi g q) 0 0 (AA g) := by
  refine met_V (own := RX6) hI (by decide) rfl (Nat.le_of_ble_eq_true rfl) rfl (fun p e s m args below meth c X hr hlk => ?_)
  have L4 : ∀ (n : Nat) (b2 : Int32) (b3 : Int32) (μ : Mem), wp_X6_givesWay_l4 a1 q n b2 b3 μ → V p l e ({ frames := 2, cells := 0, slots := 0, locals := 43 }) s m args below meth c 4 g (AA g) 0 0 (MQ below (KQi g q) args s 0 0 (AA g)) μ 4 [(0, .ref (g.1 6 0)), (1, .int a1), (2, .int b2), (3, .int b3)] [] := by
    intro n
    induction n with
    | zero => intro b2 b3 μ h; exact h.elim
    | succ n ih =>
      have B62 : ∀ (b3 : Int32) (t0 : Int32) (μ : Mem), wp_X6_givesWay_b62 a1 q (wp_X6_givesWay_l4 a1 q n) b3 t0 μ → V p l e ({ frames := 2, cells := 0, slots := 0, locals := 43 }) s m args below meth c 4 g (AA g) 0 0 (MQ below (KQi g q) args s 0 0 (AA g)) μ 62 [(0, .ref (g.1 6 0)), (1, .int a1), (3, .int b3)] [.int t0] := by
        intro b3 t0 μ h
        unfold wp_X6_givesWay_b62 at h
        refine v_istore_n (pc := 62) (lv' := [(2, .int t0), (0, .ref (g.1 6 0)), (1, .int a1), (3, .int b3)]) X rfl (by decide) rfl dX6_givesWay_62 ?_
        refine v_iinc (pc := 63) (lv' := [(3, .int (b3 + 1)), (2, .int t0), (0, .ref (g.1 6 0)), (1, .int a1)]) (j := 3) X rfl (congrArg (HAdd.hAdd _) cst_i_1) (by decide) rfl dX6_givesWay_63 ?_
        refine v_goto (pc := 66) (tgt := 4) X dX6_givesWay_66 (by decide) ?_
        refine v_sub [2, 3, 1, 0] rfl ?_
        exact ih _ _ _ h
      have B57 : ∀ (b3 : Int32) (μ : Mem), wp_X6_givesWay_b57 a1 q (wp_X6_givesWay_l4 a1 q n) b3 μ → V p l e ({ frames := 2, cells := 0, slots := 0, locals := 43 }) s m args below meth c 4 g (AA g) 0 0 (MQ below (KQi g q) args s 0 0 (AA g)) μ 57 [(0, .ref (g.1 6 0)), (1, .int a1), (3, .int b3)] [] := by
        intro b3 μ h
        unfold wp_X6_givesWay_b57 at h
        refine v_iconst (pc := 57) X cst_i_1 dX6_givesWay_57 ?_
        refine v_goto (pc := 58) (tgt := 62) X dX6_givesWay_58 (by decide) ?_
        exact B62 _ _ _ h
      have B61 : ∀ (b3 : Int32) (μ : Mem), wp_X6_givesWay_b61 a1 q (wp_X6_givesWay_l4 a1 q n) b3 μ → V p l e ({ frames := 2, cells := 0, slots := 0, locals := 43 }) s m args below meth c 4 g (AA g) 0 0 (MQ below (KQi g q) args s 0 0 (AA g)) μ 61 [(0, .ref (g.1 6 0)), (1, .int a1), (3, .int b3)] [] := by
        intro b3 μ h
        unfold wp_X6_givesWay_b61 at h
        refine v_iconst (pc := 61) X cst_i_0 dX6_givesWay_61 ?_
        exact B62 _ _ _ h
      intro b2 b3 μ h
      unfold wp_X6_givesWay_l4 at h
      refine v_iload_n (pc := 4) X rfl 3 rfl dX6_givesWay_4 ?_
      refine v_bipush (pc := 5) X cst_b_6 dX6_givesWay_5 ?_
      refine v_icmp_ge (pc := 7) (tgt := 69) X h dX6_givesWay_7 (by decide) (fun h => ?_) (fun h => ?_)
      · refine v_iload_n (pc := 69) X rfl 2 rfl dX6_givesWay_69 ?_
        exact v_zret (pc := 70) X hr hlk h dX6_givesWay_70
      · refine v_iload_n (pc := 10) X rfl 2 rfl dX6_givesWay_10 ?_
        refine v_if_ne (pc := 11) (tgt := 57) X h dX6_givesWay_11 (by decide) (fun h => ?_) (fun h => ?_)
        · refine v_sub [0, 1, 3] rfl ?_
          exact B57 _ _ h
        · refine v_iload_n (pc := 14) X rfl 3 rfl dX6_givesWay_14 ?_
          refine v_iload_n (pc := 15) X rfl 1 rfl dX6_givesWay_15 ?_
          refine v_icmp_eq (pc := 16) (tgt := 61) X h dX6_givesWay_16 (by decide) (fun h => ?_) (fun h => ?_)
          · refine v_sub [0, 1, 3] rfl ?_
            exact B61 _ _ h
          · refine v_aload_n (pc := 19) X rfl 0 rfl dX6_givesWay_19 ?_
            refine gf_6_5 (pc := 20) X Nat.one_pos wd_96 dX6_givesWay_20 ?_
            refine v_iload_n (pc := 23) X rfl 3 rfl dX6_givesWay_23 ?_
            refine al_24 (pc := 24) X Nat.one_pos h dX6_givesWay_24 (fun x_1 h => ?_)
            refine v_if_eq (pc := 25) (tgt := 61) X h dX6_givesWay_25 (by decide) (fun h => ?_) (fun h => ?_)
            · refine v_sub [0, 1, 3] rfl ?_
              exact B61 _ _ h
            · refine v_aload_n (pc := 28) X rfl 0 rfl dX6_givesWay_28 ?_
              refine v_iload_n (pc := 29) X rfl 3 rfl dX6_givesWay_29 ?_
              refine v_callVi (pc := 30) X (c_X6_isFirst l g hI _ _ _ h) wd_375 wd_372 wd_373 wd_374 wd_5 ⟨rfl, rfl⟩ hdc_X6_isFirst ⟨Nat.le_of_ble_eq_true rfl, Nat.le_of_ble_eq_true rfl⟩ ⟨Nat.le_refl 0, Nat.le_refl 0⟩ Nat.one_pos rfl rfl (As := [.int b3]) rfl rfl (Nat.le_of_ble_eq_true rfl) dX6_givesWay_30 (fun x_3 m_2 h => ?_)
              refine v_if_eq (pc := 33) (tgt := 57) X h dX6_givesWay_33 (by decide) (fun h => ?_) (fun h => ?_)
              · refine v_sub [0, 1, 3] rfl ?_
                exact B57 _ _ h
              · refine v_aload_n (pc := 36) X rfl 0 rfl dX6_givesWay_36 ?_
                refine gf_6_0 (pc := 37) X Nat.one_pos wd_91 dX6_givesWay_37 ?_
                refine v_bipush (pc := 40) X cst_b_6 dX6_givesWay_40 ?_
                refine v_iload_n (pc := 42) X rfl 3 rfl dX6_givesWay_42 ?_
                refine v_iadd (pc := 43) X dX6_givesWay_43 ?_
                refine al_20 (pc := 44) X Nat.one_pos h dX6_givesWay_44 (fun x_4 h => ?_)
                refine v_aload_n (pc := 45) X rfl 0 rfl dX6_givesWay_45 ?_
                refine gf_6_0 (pc := 46) X Nat.one_pos wd_91 dX6_givesWay_46 ?_
                refine v_bipush (pc := 49) X cst_b_6 dX6_givesWay_49 ?_
                refine v_iload_n (pc := 51) X rfl 1 rfl dX6_givesWay_51 ?_
                refine v_iadd (pc := 52) X dX6_givesWay_52 ?_
                refine al_20 (pc := 53) X Nat.one_pos h dX6_givesWay_53 (fun x_5 h => ?_)
                refine v_icmp_ge (pc := 54) (tgt := 61) X h dX6_givesWay_54 (by decide) (fun h => ?_) (fun h => ?_)
                · refine v_sub [0, 1, 3] rfl ?_
                  exact B61 _ _ h
                · refine v_sub [0, 1, 3] rfl ?_
                  exact B57 _ _ h
  unfold wp_X6_givesWay at h
  refine v_iconst (pc := 0) X cst_i_0 dX6_givesWay_0 ?_
  refine v_istore_n (pc := 1) (lv' := [(2, .int 0), (0, .ref (g.1 6 0)), (1, .int a1)]) X rfl (by decide) rfl dX6_givesWay_1 ?_
  refine v_iconst (pc := 2) X cst_i_0 dX6_givesWay_2 ?_
  refine v_istore_n (pc := 3) (lv' := [(3, .int 0), (2, .int 0), (0, .ref (g.1 6 0)), (1, .int a1)]) X rfl (by decide) rfl dX6_givesWay_3 ?_
  refine v_sub [2, 3, 1, 0] rfl ?_
  obtain ⟨n, h⟩ := h
  exact L4 n _ _ _ h

def wp_X6_laySenders_b182  (q : Mem → Prop) (K : Int32 → Mem → Prop) (b1 : Int32) (μ : Mem) : Prop :=
K (b1 + 1) μ
def wp_X6_laySenders_l147  (q : Mem → Prop) : Nat → Int32 → Mem → Prop
  | 0 => fun _ _ => False
  | n + 1 => fun b1 μ =>
(((nI 6) ≤ b1 →
q μ) ∧ (¬ (nI 6) ≤ b1 →
vp_in b1 6 ∧ ∀ x_1 : Int32, x_1 = μ 26 0 (b1 : Int32).toNatClampNeg →
((x_1 = 0 →
wp_X6_laySenders_b182  q (wp_X6_laySenders_l147  q n) b1 μ) ∧ (¬ x_1 = 0 →
nz 0 ∧ vp_in b1 6 ∧ ∀ m_2 : Mem, m_2 = ms μ 24 0 (b1 : Int32).toNatClampNeg 0 →
wp_X6_begin b1 1 m_2 (fun m_3 =>
nz 1 ∧ vp_in b1 6 ∧ ∀ m_4 : Mem, m_4 = ms m_3 27 0 (b1 : Int32).toNatClampNeg 1 →
wp_X6_laySenders_b182  q (wp_X6_laySenders_l147  q n) b1 m_4)))))
def wp_X6_laySenders_b138  (q : Mem → Prop) (K : Int32 → Mem → Prop) (b1 : Int32) (u0 : Nat) (t1 : Int32) (t2 : Int32) (μ : Mem) : Prop :=
nz t2 ∧ vp_in t1 6 ∧ ∀ m_1 : Mem, m_1 = ms μ 26 u0 (t1 : Int32).toNatClampNeg t2 →
K (b1 + 1) m_1
def wp_X6_laySenders_b137  (q : Mem → Prop) (K : Int32 → Mem → Prop) (b1 : Int32) (u0 : Nat) (t1 : Int32) (μ : Mem) : Prop :=
wp_X6_laySenders_b138  q K b1 u0 t1 0 μ
def wp_X6_laySenders_l106  (q : Mem → Prop) : Nat → Int32 → Mem → Prop
  | 0 => fun _ _ => False
  | n + 1 => fun b1 μ =>
(((nI 6) ≤ b1 →
∃ n : Nat, wp_X6_laySenders_l147  q n 0 μ) ∧ (¬ (nI 6) ≤ b1 →
wp_X6_isFirst b1 μ (fun x_2 m_1 =>
((x_2 = 0 →
wp_X6_laySenders_b137  q (wp_X6_laySenders_l106  q n) b1 0 b1 m_1) ∧ (¬ x_2 = 0 →
wp_X6_givesWay b1 m_1 (fun x_4 m_3 =>
((x_4 = 0 →
wp_X6_laySenders_b137  q (wp_X6_laySenders_l106  q n) b1 0 b1 m_3) ∧ (¬ x_4 = 0 →
wp_X6_laySenders_b138  q (wp_X6_laySenders_l106  q n) b1 0 b1 1 m_3))))))))
def wp_X6_laySenders_b90  (q : Mem → Prop) (K : Int32 → Mem → Prop) (b1 : Int32) (u0 : Nat) (t1 : Int32) (t2 : Int32) (μ : Mem) : Prop :=
nz t2 ∧ vp_in t1 6 ∧ ∀ m_1 : Mem, m_1 = ms μ 25 u0 (t1 : Int32).toNatClampNeg t2 →
nz 0 ∧ vp_in b1 6 ∧ ∀ m_2 : Mem, m_2 = ms m_1 27 0 (b1 : Int32).toNatClampNeg 0 →
K (b1 + 1) m_2
def wp_X6_laySenders_b89  (q : Mem → Prop) (K : Int32 → Mem → Prop) (b1 : Int32) (u0 : Nat) (t1 : Int32) (μ : Mem) : Prop :=
wp_X6_laySenders_b90  q K b1 u0 t1 0 μ
def wp_X6_laySenders_b58  (q : Mem → Prop) (K : Int32 → Mem → Prop) (b1 : Int32) (u0 : Nat) (t1 : Int32) (t2 : Int32) (μ : Mem) : Prop :=
nz t2 ∧ vp_in t1 6 ∧ ∀ m_1 : Mem, m_1 = ms μ 24 u0 (t1 : Int32).toNatClampNeg t2 →
wp_X6_is b1 (nI 2) m_1 (fun x_3 m_2 =>
((x_3 = 0 →
wp_X6_laySenders_b89  q K b1 0 b1 m_2) ∧ (¬ x_3 = 0 →
vp_in ((nI 36) + b1) 256 ∧ ∀ x_4 : Int32, x_4 = m_2 20 0 (((nI 36) + b1) : Int32).toNatClampNeg →
((¬ x_4 = 0 →
wp_X6_laySenders_b89  q K b1 0 b1 m_2) ∧ (x_4 = 0 →
wp_X6_laySenders_b90  q K b1 0 b1 1 m_2)))))
def wp_X6_laySenders_b53  (q : Mem → Prop) (K : Int32 → Mem → Prop) (b1 : Int32) (u0 : Nat) (t1 : Int32) (μ : Mem) : Prop :=
wp_X6_laySenders_b58  q K b1 u0 t1 1 μ
def wp_X6_laySenders_b35  (q : Mem → Prop) (K : Int32 → Mem → Prop) (b1 : Int32) (u0 : Nat) (t1 : Int32) (μ : Mem) : Prop :=
wp_X6_is b1 (nI 3) μ (fun x_2 m_1 =>
((¬ x_2 = 0 →
wp_X6_laySenders_b53  q K b1 u0 t1 m_1) ∧ (x_2 = 0 →
wp_X6_is b1 (nI 4) m_1 (fun x_4 m_3 =>
((x_4 = 0 →
wp_X6_laySenders_b58  q K b1 u0 t1 0 m_3) ∧ (¬ x_4 = 0 →
wp_X6_laySenders_b53  q K b1 u0 t1 m_3))))))
def wp_X6_laySenders_l2  (q : Mem → Prop) : Nat → Int32 → Mem → Prop
  | 0 => fun _ _ => False
  | n + 1 => fun b1 μ =>
(((nI 6) ≤ b1 →
∃ n : Nat, wp_X6_laySenders_l106  q n 0 μ) ∧ (¬ (nI 6) ≤ b1 →
wp_X6_is b1 (nI 2) μ (fun x_2 m_1 =>
((x_2 = 0 →
wp_X6_laySenders_b35  q (wp_X6_laySenders_l2  q n) b1 0 b1 m_1) ∧ (¬ x_2 = 0 →
vp_in ((nI 36) + b1) 256 ∧ ∀ x_3 : Int32, x_3 = m_1 20 0 (((nI 36) + b1) : Int32).toNatClampNeg →
((1 ≤ x_3 →
wp_X6_laySenders_b53  q (wp_X6_laySenders_l2  q n) b1 0 b1 m_1) ∧ (¬ 1 ≤ x_3 →
wp_X6_laySenders_b35  q (wp_X6_laySenders_l2  q n) b1 0 b1 m_1)))))))
def wp_X6_laySenders  (μ : Mem) (q : Mem → Prop) : Prop :=
∃ n : Nat, wp_X6_laySenders_l2  q n 0 μ
set_option maxRecDepth 100000 in
set_option maxHeartbeats 4000000 in
theorem c_X6_laySenders (l : Launch) (g : GG) (hI : Inj g) (μ : Mem)  (q : Mem → Prop) (h : wp_X6_laySenders  μ q) : Met l yX6_laySenders (Cond.code yX6_laySenders cX6_laySenders 2 none :: wsL_law) ({ frames := 3, cells := 0, slots := 0, locals := 66 }) (KP g [.ref (g.1 6 0)] μ) (KQv g q) 0 0 (AA g) := by
  refine met_V (own := RX6) hI (by decide) rfl (Nat.le_of_ble_eq_true rfl) rfl (fun p e s m args below meth c X hr hlk => ?_)
  have L147 : ∀ (n : Nat) (b1 : Int32) (μ : Mem), wp_X6_laySenders_l147  q n b1 μ → V p l e ({ frames := 3, cells := 0, slots := 0, locals := 66 }) s m args below meth c 2 g (AA g) 0 0 (MQ below (KQv g q) args s 0 0 (AA g)) μ 147 [(0, .ref (g.1 6 0)), (1, .int b1)] [] := by
    intro n
    induction n with
    | zero => intro b1 μ h; exact h.elim
    | succ n ih =>
      have B182 : ∀ (b1 : Int32) (μ : Mem), wp_X6_laySenders_b182  q (wp_X6_laySenders_l147  q n) b1 μ → V p l e ({ frames := 3, cells := 0, slots := 0, locals := 66 }) s m args below meth c 2 g (AA g) 0 0 (MQ below (KQv g q) args s 0 0 (AA g)) μ 182 [(0, .ref (g.1 6 0)), (1, .int b1)] [] := by
        intro b1 μ h
        unfold wp_X6_laySenders_b182 at h
        refine v_iinc (pc := 182) (lv' := [(1, .int (b1 + 1)), (0, .ref (g.1 6 0))]) (j := 1) X rfl (congrArg (HAdd.hAdd _) cst_i_1) (by decide) rfl dX6_laySenders_182 ?_
        refine v_goto (pc := 185) (tgt := 147) X dX6_laySenders_185 (by decide) ?_
        refine v_sub [1, 0] rfl ?_
        exact ih _ _ h
      intro b1 μ h
      unfold wp_X6_laySenders_l147 at h
      refine v_iload_n (pc := 147) X rfl 1 rfl dX6_laySenders_147 ?_
      refine v_bipush (pc := 148) X cst_b_6 dX6_laySenders_148 ?_
      refine v_icmp_ge (pc := 150) (tgt := 188) X h dX6_laySenders_150 (by decide) (fun h => ?_) (fun h => ?_)
      · exact v_vret (pc := 188) X hr hlk h dX6_laySenders_188
      · refine v_aload_n (pc := 153) X rfl 0 rfl dX6_laySenders_153 ?_
        refine gf_6_7 (pc := 154) X Nat.one_pos wd_98 dX6_laySenders_154 ?_
        refine v_iload_n (pc := 157) X rfl 1 rfl dX6_laySenders_157 ?_
        refine al_26 (pc := 158) X Nat.one_pos h dX6_laySenders_158 (fun x_1 h => ?_)
        refine v_if_eq (pc := 159) (tgt := 182) X h dX6_laySenders_159 (by decide) (fun h => ?_) (fun h => ?_)
        · exact B182 _ _ h
        · refine v_aload_n (pc := 162) X rfl 0 rfl dX6_laySenders_162 ?_
          refine gf_6_5 (pc := 163) X Nat.one_pos wd_96 dX6_laySenders_163 ?_
          refine v_iload_n (pc := 166) X rfl 1 rfl dX6_laySenders_166 ?_
          refine v_iconst (pc := 167) X cst_i_0 dX6_laySenders_167 ?_
          refine as_24 (pc := 168) X Nat.one_pos h dX6_laySenders_168 (fun m_2 h => ?_)
          refine v_aload_n (pc := 169) X rfl 0 rfl dX6_laySenders_169 ?_
          refine v_iload_n (pc := 170) X rfl 1 rfl dX6_laySenders_170 ?_
          refine v_iconst (pc := 171) X cst_i_1 dX6_laySenders_171 ?_
          refine v_callVv (pc := 172) X (c_X6_begin l g hI _ _ _ _ h) wd_203 wd_200 wd_201 wd_202 wd_5 ⟨rfl, rfl⟩ hdc_X6_begin ⟨Nat.le_of_ble_eq_true rfl, Nat.le_of_ble_eq_true rfl⟩ ⟨Nat.le_refl 0, Nat.le_refl 0⟩ Nat.one_pos rfl rfl (As := [.int b1, .int 1]) rfl rfl (Nat.le_of_ble_eq_true rfl) dX6_laySenders_172 (fun m_3 h => ?_)
          refine v_aload_n (pc := 175) X rfl 0 rfl dX6_laySenders_175 ?_
          refine gf_6_8 (pc := 176) X Nat.one_pos wd_99 dX6_laySenders_176 ?_
          refine v_iload_n (pc := 179) X rfl 1 rfl dX6_laySenders_179 ?_
          refine v_iconst (pc := 180) X cst_i_1 dX6_laySenders_180 ?_
          refine as_27 (pc := 181) X Nat.one_pos h dX6_laySenders_181 (fun m_4 h => ?_)
          exact B182 _ _ h
  have L106 : ∀ (n : Nat) (b1 : Int32) (μ : Mem), wp_X6_laySenders_l106  q n b1 μ → V p l e ({ frames := 3, cells := 0, slots := 0, locals := 66 }) s m args below meth c 2 g (AA g) 0 0 (MQ below (KQv g q) args s 0 0 (AA g)) μ 106 [(0, .ref (g.1 6 0)), (1, .int b1)] [] := by
    intro n
    induction n with
    | zero => intro b1 μ h; exact h.elim
    | succ n ih =>
      have B138 : ∀ (b1 : Int32) (u0 : Nat) (hu0 : u0 < 1) (t1 : Int32) (t2 : Int32) (μ : Mem), wp_X6_laySenders_b138  q (wp_X6_laySenders_l106  q n) b1 u0 t1 t2 μ → V p l e ({ frames := 3, cells := 0, slots := 0, locals := 66 }) s m args below meth c 2 g (AA g) 0 0 (MQ below (KQv g q) args s 0 0 (AA g)) μ 138 [(0, .ref (g.1 6 0)), (1, .int b1)] [.int t2, .int t1, .ref (g.1 26 u0)] := by
        intro b1 u0 hu0 t1 t2 μ h
        unfold wp_X6_laySenders_b138 at h
        refine as_26 (pc := 138) X hu0 h dX6_laySenders_138 (fun m_1 h => ?_)
        refine v_iinc (pc := 139) (lv' := [(1, .int (b1 + 1)), (0, .ref (g.1 6 0))]) (j := 1) X rfl (congrArg (HAdd.hAdd _) cst_i_1) (by decide) rfl dX6_laySenders_139 ?_
        refine v_goto (pc := 142) (tgt := 106) X dX6_laySenders_142 (by decide) ?_
        refine v_sub [1, 0] rfl ?_
        exact ih _ _ h
      have B137 : ∀ (b1 : Int32) (u0 : Nat) (hu0 : u0 < 1) (t1 : Int32) (μ : Mem), wp_X6_laySenders_b137  q (wp_X6_laySenders_l106  q n) b1 u0 t1 μ → V p l e ({ frames := 3, cells := 0, slots := 0, locals := 66 }) s m args below meth c 2 g (AA g) 0 0 (MQ below (KQv g q) args s 0 0 (AA g)) μ 137 [(0, .ref (g.1 6 0)), (1, .int b1)] [.int t1, .ref (g.1 26 u0)] := by
        intro b1 u0 hu0 t1 μ h
        unfold wp_X6_laySenders_b137 at h
        refine v_iconst (pc := 137) X cst_i_0 dX6_laySenders_137 ?_
        exact B138 _ _ hu0 _ _ _ h
      intro b1 μ h
      unfold wp_X6_laySenders_l106 at h
      refine v_iload_n (pc := 106) X rfl 1 rfl dX6_laySenders_106 ?_
      refine v_bipush (pc := 107) X cst_b_6 dX6_laySenders_107 ?_
      refine v_icmp_ge (pc := 109) (tgt := 145) X h dX6_laySenders_109 (by decide) (fun h => ?_) (fun h => ?_)
      · refine v_iconst (pc := 145) X cst_i_0 dX6_laySenders_145 ?_
        refine v_istore_n (pc := 146) (lv' := [(1, .int 0), (0, .ref (g.1 6 0))]) X rfl (by decide) rfl dX6_laySenders_146 ?_
        refine v_sub [1, 0] rfl ?_
        obtain ⟨n, h⟩ := h
        exact L147 n _ _ h
      · refine v_aload_n (pc := 112) X rfl 0 rfl dX6_laySenders_112 ?_
        refine gf_6_7 (pc := 113) X Nat.one_pos wd_98 dX6_laySenders_113 ?_
        refine v_iload_n (pc := 116) X rfl 1 rfl dX6_laySenders_116 ?_
        refine v_aload_n (pc := 117) X rfl 0 rfl dX6_laySenders_117 ?_
        refine v_iload_n (pc := 118) X rfl 1 rfl dX6_laySenders_118 ?_
        refine v_callVi (pc := 119) X (c_X6_isFirst l g hI _ _ _ h) wd_375 wd_372 wd_373 wd_374 wd_5 ⟨rfl, rfl⟩ hdc_X6_isFirst ⟨Nat.le_of_ble_eq_true rfl, Nat.le_of_ble_eq_true rfl⟩ ⟨Nat.le_refl 0, Nat.le_refl 0⟩ Nat.one_pos rfl rfl (As := [.int b1]) rfl rfl (Nat.le_of_ble_eq_true rfl) dX6_laySenders_119 (fun x_2 m_1 h => ?_)
        refine v_if_eq (pc := 122) (tgt := 137) X h dX6_laySenders_122 (by decide) (fun h => ?_) (fun h => ?_)
        · exact B137 _ _ Nat.one_pos _ _ h
        · refine v_aload_n (pc := 125) X rfl 0 rfl dX6_laySenders_125 ?_
          refine v_iload_n (pc := 126) X rfl 1 rfl dX6_laySenders_126 ?_
          refine v_callVi (pc := 127) X (c_X6_givesWay l g hI _ _ _ h) wd_379 wd_376 wd_377 wd_378 wd_5 ⟨rfl, rfl⟩ hdc_X6_givesWay ⟨Nat.le_of_ble_eq_true rfl, Nat.le_of_ble_eq_true rfl⟩ ⟨Nat.le_refl 0, Nat.le_refl 0⟩ Nat.one_pos rfl rfl (As := [.int b1]) rfl rfl (Nat.le_of_ble_eq_true rfl) dX6_laySenders_127 (fun x_4 m_3 h => ?_)
          refine v_if_eq (pc := 130) (tgt := 137) X h dX6_laySenders_130 (by decide) (fun h => ?_) (fun h => ?_)
          · exact B137 _ _ Nat.one_pos _ _ h
          · refine v_iconst (pc := 133) X cst_i_1 dX6_laySenders_133 ?_
            refine v_goto (pc := 134) (tgt := 138) X dX6_laySenders_134 (by decide) ?_
            exact B138 _ _ Nat.one_pos _ _ _ h
  have L2 : ∀ (n : Nat) (b1 : Int32) (μ : Mem), wp_X6_laySenders_l2  q n b1 μ → V p l e ({ frames := 3, cells := 0, slots := 0, locals := 66 }) s m args below meth c 2 g (AA g) 0 0 (MQ below (KQv g q) args s 0 0 (AA g)) μ 2 [(0, .ref (g.1 6 0)), (1, .int b1)] [] := by
    intro n
    induction n with
    | zero => intro b1 μ h; exact h.elim
    | succ n ih =>
      have B90 : ∀ (b1 : Int32) (u0 : Nat) (hu0 : u0 < 1) (t1 : Int32) (t2 : Int32) (μ : Mem), wp_X6_laySenders_b90  q (wp_X6_laySenders_l2  q n) b1 u0 t1 t2 μ → V p l e ({ frames := 3, cells := 0, slots := 0, locals := 66 }) s m args below meth c 2 g (AA g) 0 0 (MQ below (KQv g q) args s 0 0 (AA g)) μ 90 [(0, .ref (g.1 6 0)), (1, .int b1)] [.int t2, .int t1, .ref (g.1 25 u0)] := by
        intro b1 u0 hu0 t1 t2 μ h
        unfold wp_X6_laySenders_b90 at h
        refine as_25 (pc := 90) X hu0 h dX6_laySenders_90 (fun m_1 h => ?_)
        refine v_aload_n (pc := 91) X rfl 0 rfl dX6_laySenders_91 ?_
        refine gf_6_8 (pc := 92) X Nat.one_pos wd_99 dX6_laySenders_92 ?_
        refine v_iload_n (pc := 95) X rfl 1 rfl dX6_laySenders_95 ?_
        refine v_iconst (pc := 96) X cst_i_0 dX6_laySenders_96 ?_
        refine as_27 (pc := 97) X Nat.one_pos h dX6_laySenders_97 (fun m_2 h => ?_)
        refine v_iinc (pc := 98) (lv' := [(1, .int (b1 + 1)), (0, .ref (g.1 6 0))]) (j := 1) X rfl (congrArg (HAdd.hAdd _) cst_i_1) (by decide) rfl dX6_laySenders_98 ?_
        refine v_goto (pc := 101) (tgt := 2) X dX6_laySenders_101 (by decide) ?_
        refine v_sub [1, 0] rfl ?_
        exact ih _ _ h
      have B89 : ∀ (b1 : Int32) (u0 : Nat) (hu0 : u0 < 1) (t1 : Int32) (μ : Mem), wp_X6_laySenders_b89  q (wp_X6_laySenders_l2  q n) b1 u0 t1 μ → V p l e ({ frames := 3, cells := 0, slots := 0, locals := 66 }) s m args below meth c 2 g (AA g) 0 0 (MQ below (KQv g q) args s 0 0 (AA g)) μ 89 [(0, .ref (g.1 6 0)), (1, .int b1)] [.int t1, .ref (g.1 25 u0)] := by
        intro b1 u0 hu0 t1 μ h
        unfold wp_X6_laySenders_b89 at h
        refine v_iconst (pc := 89) X cst_i_0 dX6_laySenders_89 ?_
        exact B90 _ _ hu0 _ _ _ h
      have B58 : ∀ (b1 : Int32) (u0 : Nat) (hu0 : u0 < 1) (t1 : Int32) (t2 : Int32) (μ : Mem), wp_X6_laySenders_b58  q (wp_X6_laySenders_l2  q n) b1 u0 t1 t2 μ → V p l e ({ frames := 3, cells := 0, slots := 0, locals := 66 }) s m args below meth c 2 g (AA g) 0 0 (MQ below (KQv g q) args s 0 0 (AA g)) μ 58 [(0, .ref (g.1 6 0)), (1, .int b1)] [.int t2, .int t1, .ref (g.1 24 u0)] := by
        intro b1 u0 hu0 t1 t2 μ h
        unfold wp_X6_laySenders_b58 at h
        refine as_24 (pc := 58) X hu0 h dX6_laySenders_58 (fun m_1 h => ?_)
        refine v_aload_n (pc := 59) X rfl 0 rfl dX6_laySenders_59 ?_
        refine gf_6_6 (pc := 60) X Nat.one_pos wd_97 dX6_laySenders_60 ?_
        refine v_iload_n (pc := 63) X rfl 1 rfl dX6_laySenders_63 ?_
        refine v_aload_n (pc := 64) X rfl 0 rfl dX6_laySenders_64 ?_
        refine v_iload_n (pc := 65) X rfl 1 rfl dX6_laySenders_65 ?_
        refine v_iconst (pc := 66) X cst_i_2 dX6_laySenders_66 ?_
        refine v_callVi (pc := 67) X (c_X6_is l g hI _ _ _ _ h) wd_138 wd_135 wd_136 wd_137 wd_5 ⟨rfl, rfl⟩ hdc_X6_is ⟨Nat.le_of_ble_eq_true rfl, Nat.le_of_ble_eq_true rfl⟩ ⟨Nat.le_refl 0, Nat.le_refl 0⟩ Nat.one_pos rfl rfl (As := [.int b1, .int (nI 2)]) rfl rfl (Nat.le_of_ble_eq_true rfl) dX6_laySenders_67 (fun x_3 m_2 h => ?_)
        refine v_if_eq (pc := 70) (tgt := 89) X h dX6_laySenders_70 (by decide) (fun h => ?_) (fun h => ?_)
        · exact B89 _ _ Nat.one_pos _ _ h
        · refine v_aload_n (pc := 73) X rfl 0 rfl dX6_laySenders_73 ?_
          refine gf_6_0 (pc := 74) X Nat.one_pos wd_91 dX6_laySenders_74 ?_
          refine v_bipush (pc := 77) X cst_b_36 dX6_laySenders_77 ?_
          refine v_iload_n (pc := 79) X rfl 1 rfl dX6_laySenders_79 ?_
          refine v_iadd (pc := 80) X dX6_laySenders_80 ?_
          refine al_20 (pc := 81) X Nat.one_pos h dX6_laySenders_81 (fun x_4 h => ?_)
          refine v_if_ne (pc := 82) (tgt := 89) X h dX6_laySenders_82 (by decide) (fun h => ?_) (fun h => ?_)
          · exact B89 _ _ Nat.one_pos _ _ h
          · refine v_iconst (pc := 85) X cst_i_1 dX6_laySenders_85 ?_
            refine v_goto (pc := 86) (tgt := 90) X dX6_laySenders_86 (by decide) ?_
            exact B90 _ _ Nat.one_pos _ _ _ h
      have B53 : ∀ (b1 : Int32) (u0 : Nat) (hu0 : u0 < 1) (t1 : Int32) (μ : Mem), wp_X6_laySenders_b53  q (wp_X6_laySenders_l2  q n) b1 u0 t1 μ → V p l e ({ frames := 3, cells := 0, slots := 0, locals := 66 }) s m args below meth c 2 g (AA g) 0 0 (MQ below (KQv g q) args s 0 0 (AA g)) μ 53 [(0, .ref (g.1 6 0)), (1, .int b1)] [.int t1, .ref (g.1 24 u0)] := by
        intro b1 u0 hu0 t1 μ h
        unfold wp_X6_laySenders_b53 at h
        refine v_iconst (pc := 53) X cst_i_1 dX6_laySenders_53 ?_
        refine v_goto (pc := 54) (tgt := 58) X dX6_laySenders_54 (by decide) ?_
        exact B58 _ _ hu0 _ _ _ h
      have B35 : ∀ (b1 : Int32) (u0 : Nat) (hu0 : u0 < 1) (t1 : Int32) (μ : Mem), wp_X6_laySenders_b35  q (wp_X6_laySenders_l2  q n) b1 u0 t1 μ → V p l e ({ frames := 3, cells := 0, slots := 0, locals := 66 }) s m args below meth c 2 g (AA g) 0 0 (MQ below (KQv g q) args s 0 0 (AA g)) μ 35 [(0, .ref (g.1 6 0)), (1, .int b1)] [.int t1, .ref (g.1 24 u0)] := by
        intro b1 u0 hu0 t1 μ h
        unfold wp_X6_laySenders_b35 at h
        refine v_aload_n (pc := 35) X rfl 0 rfl dX6_laySenders_35 ?_
        refine v_iload_n (pc := 36) X rfl 1 rfl dX6_laySenders_36 ?_
        refine v_iconst (pc := 37) X cst_i_3 dX6_laySenders_37 ?_
        refine v_callVi (pc := 38) X (c_X6_is l g hI _ _ _ _ h) wd_138 wd_135 wd_136 wd_137 wd_5 ⟨rfl, rfl⟩ hdc_X6_is ⟨Nat.le_of_ble_eq_true rfl, Nat.le_of_ble_eq_true rfl⟩ ⟨Nat.le_refl 0, Nat.le_refl 0⟩ Nat.one_pos rfl rfl (As := [.int b1, .int (nI 3)]) rfl rfl (Nat.le_of_ble_eq_true rfl) dX6_laySenders_38 (fun x_2 m_1 h => ?_)
        refine v_if_ne (pc := 41) (tgt := 53) X h dX6_laySenders_41 (by decide) (fun h => ?_) (fun h => ?_)
        · exact B53 _ _ hu0 _ _ h
        · refine v_aload_n (pc := 44) X rfl 0 rfl dX6_laySenders_44 ?_
          refine v_iload_n (pc := 45) X rfl 1 rfl dX6_laySenders_45 ?_
          refine v_iconst (pc := 46) X cst_i_4 dX6_laySenders_46 ?_
          refine v_callVi (pc := 47) X (c_X6_is l g hI _ _ _ _ h) wd_138 wd_135 wd_136 wd_137 wd_5 ⟨rfl, rfl⟩ hdc_X6_is ⟨Nat.le_of_ble_eq_true rfl, Nat.le_of_ble_eq_true rfl⟩ ⟨Nat.le_refl 0, Nat.le_refl 0⟩ Nat.one_pos rfl rfl (As := [.int b1, .int (nI 4)]) rfl rfl (Nat.le_of_ble_eq_true rfl) dX6_laySenders_47 (fun x_4 m_3 h => ?_)
          refine v_if_eq (pc := 50) (tgt := 57) X h dX6_laySenders_50 (by decide) (fun h => ?_) (fun h => ?_)
          · refine v_iconst (pc := 57) X cst_i_0 dX6_laySenders_57 ?_
            exact B58 _ _ hu0 _ _ _ h
          · exact B53 _ _ hu0 _ _ h
      intro b1 μ h
      unfold wp_X6_laySenders_l2 at h
      refine v_iload_n (pc := 2) X rfl 1 rfl dX6_laySenders_2 ?_
      refine v_bipush (pc := 3) X cst_b_6 dX6_laySenders_3 ?_
      refine v_icmp_ge (pc := 5) (tgt := 104) X h dX6_laySenders_5 (by decide) (fun h => ?_) (fun h => ?_)
      · refine v_iconst (pc := 104) X cst_i_0 dX6_laySenders_104 ?_
        refine v_istore_n (pc := 105) (lv' := [(1, .int 0), (0, .ref (g.1 6 0))]) X rfl (by decide) rfl dX6_laySenders_105 ?_
        refine v_sub [1, 0] rfl ?_
        obtain ⟨n, h⟩ := h
        exact L106 n _ _ h
      · refine v_aload_n (pc := 8) X rfl 0 rfl dX6_laySenders_8 ?_
        refine gf_6_5 (pc := 9) X Nat.one_pos wd_96 dX6_laySenders_9 ?_
        refine v_iload_n (pc := 12) X rfl 1 rfl dX6_laySenders_12 ?_
        refine v_aload_n (pc := 13) X rfl 0 rfl dX6_laySenders_13 ?_
        refine v_iload_n (pc := 14) X rfl 1 rfl dX6_laySenders_14 ?_
        refine v_iconst (pc := 15) X cst_i_2 dX6_laySenders_15 ?_
        refine v_callVi (pc := 16) X (c_X6_is l g hI _ _ _ _ h) wd_138 wd_135 wd_136 wd_137 wd_5 ⟨rfl, rfl⟩ hdc_X6_is ⟨Nat.le_of_ble_eq_true rfl, Nat.le_of_ble_eq_true rfl⟩ ⟨Nat.le_refl 0, Nat.le_refl 0⟩ Nat.one_pos rfl rfl (As := [.int b1, .int (nI 2)]) rfl rfl (Nat.le_of_ble_eq_true rfl) dX6_laySenders_16 (fun x_2 m_1 h => ?_)
        refine v_if_eq (pc := 19) (tgt := 35) X h dX6_laySenders_19 (by decide) (fun h => ?_) (fun h => ?_)
        · exact B35 _ _ Nat.one_pos _ _ h
        · refine v_aload_n (pc := 22) X rfl 0 rfl dX6_laySenders_22 ?_
          refine gf_6_0 (pc := 23) X Nat.one_pos wd_91 dX6_laySenders_23 ?_
          refine v_bipush (pc := 26) X cst_b_36 dX6_laySenders_26 ?_
          refine v_iload_n (pc := 28) X rfl 1 rfl dX6_laySenders_28 ?_
          refine v_iadd (pc := 29) X dX6_laySenders_29 ?_
          refine al_20 (pc := 30) X Nat.one_pos h dX6_laySenders_30 (fun x_3 h => ?_)
          refine v_iconst (pc := 31) X cst_i_1 dX6_laySenders_31 ?_
          refine v_icmp_ge (pc := 32) (tgt := 53) X h dX6_laySenders_32 (by decide) (fun h => ?_) (fun h => ?_)
          · exact B53 _ _ Nat.one_pos _ _ h
          · exact B35 _ _ Nat.one_pos _ _ h
  unfold wp_X6_laySenders at h
  refine v_iconst (pc := 0) X cst_i_0 dX6_laySenders_0 ?_
  refine v_istore_n (pc := 1) (lv' := [(1, .int 0), (0, .ref (g.1 6 0))]) X rfl (by decide) rfl dX6_laySenders_1 ?_
  refine v_sub [1, 0] rfl ?_
  obtain ⟨n, h⟩ := h
  exact L2 n _ _ h
