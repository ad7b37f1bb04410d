theorem cst_b_m6 : (Int8.ofInt (-6)).toInt32 = ((-6) : Int32) := by decide +kernel
theorem hdc_X4_clear : yX4_clear.cls ≠ "java/lang/invoke/MethodHandle" ∧ yX4_clear.cls ≠ "java/lang/invoke/VarHandle" ∧ (parseMethodDescriptor yX4_clear.desc).map (fun d => d.parameters.length) = some 0 := by decide +kernel
theorem hdc_X4_put : yX4_put.cls ≠ "java/lang/invoke/MethodHandle" ∧ yX4_put.cls ≠ "java/lang/invoke/VarHandle" ∧ (parseMethodDescriptor yX4_put.desc).map (fun d => d.parameters.length) = some 1 := by decide +kernel
theorem hdc_X4_trimmed : yX4_trimmed.cls ≠ "java/lang/invoke/MethodHandle" ∧ yX4_trimmed.cls ≠ "java/lang/invoke/VarHandle" ∧ (parseMethodDescriptor yX4_trimmed.desc).map (fun d => d.parameters.length) = some 0 := by decide +kernel
theorem hdc_X5_bitOf : yX5_bitOf.cls ≠ "java/lang/invoke/MethodHandle" ∧ yX5_bitOf.cls ≠ "java/lang/invoke/VarHandle" ∧ (parseMethodDescriptor yX5_bitOf.desc).map (fun d => d.parameters.length) = some 1 := by decide +kernel
theorem hdc_X5_isIn : yX5_isIn.cls ≠ "java/lang/invoke/MethodHandle" ∧ yX5_isIn.cls ≠ "java/lang/invoke/VarHandle" ∧ (parseMethodDescriptor yX5_isIn.desc).map (fun d => d.parameters.length) = some 2 := by decide +kernel
def wp_X1_clear (i0 : Nat) (μ : Mem) (q : Mem → Prop) : Prop :=
∀ m_1 : Mem, m_1 = ms μ 1 i0 0 0 →
∀ m_2 : Mem, m_2 = ms m_1 1 i0 1 0 →
∀ m_3 : Mem, m_3 = ms m_2 1 i0 2 (-6) →
q m_3
set_option maxRecDepth 100000 in
set_option maxHeartbeats 4000000 in
theorem c_X1_clear (l : Launch) (g : GG) (hI : Inj g) (μ : Mem) (i0 : Nat) (hi0 : i0 < 48) (q : Mem → Prop) (h : wp_X1_clear i0 μ q) : Met l yX1_clear (Cond.code yX1_clear cX1_clear 1 none :: wsL_law) ({ frames := 0, cells := 0, slots := 0, locals := 0 }) (KP g [.ref (g.1 1 i0)] μ) (KQv g q) 0 0 (AA g) := by
  refine met_V (own := RX1) hI (by decide) rfl (Nat.le_of_ble_eq_true rfl) rfl (fun p e s m args below meth c X hr hlk => ?_)
  unfold wp_X1_clear at h
  refine v_aload_n (pc := 0) X rfl 0 rfl dX1_clear_0 ?_
  refine v_iconst (pc := 1) X cst_i_0 dX1_clear_1 ?_
  refine pf_1_0 (pc := 2) X hi0 wd_80 h dX1_clear_2 (fun m_1 h => ?_)
  refine v_aload_n (pc := 5) X rfl 0 rfl dX1_clear_5 ?_
  refine v_iconst (pc := 6) X cst_i_0 dX1_clear_6 ?_
  refine pf_1_1 (pc := 7) X hi0 wd_81 h dX1_clear_7 (fun m_2 h => ?_)
  refine v_aload_n (pc := 10) X rfl 0 rfl dX1_clear_10 ?_
  refine v_bipush (pc := 11) X cst_b_m6 dX1_clear_11 ?_
  refine pf_1_2 (pc := 13) X hi0 wd_82 h dX1_clear_13 (fun m_3 h => ?_)
  exact v_vret (pc := 16) X hr hlk h dX1_clear_16

def wp_X1_copy_l50 (i0 : Nat) (i1 : Nat) (q : Mem → Prop) : Nat → Int32 → Mem → Prop
  | 0 => fun _ _ => False
  | n + 1 => fun b2 μ =>
(((nI 6) ≤ b2 →
q μ) ∧ (¬ (nI 6) ≤ b2 →
(((nI 6) ≤ b2 →
q μ) ∧ (¬ (nI 6) ≤ b2 →
vp_in b2 6 ∧ ∀ x_1 : Int32, x_1 = μ 7 i1 (b2 : Int32).toNatClampNeg →
vp_in b2 6 ∧ ∀ m_2 : Mem, m_2 = ms μ 7 i0 (b2 : Int32).toNatClampNeg x_1 →
wp_X1_copy_l50 i0 i1 q n (b2 + 1) m_2))))
def wp_X1_copy (i0 : Nat) (i1 : Nat) (μ : Mem) (q : Mem → Prop) : Prop :=
∀ x_1 : Int32, x_1 = μ 1 i1 0 →
∀ m_2 : Mem, m_2 = ms μ 1 i0 0 x_1 →
∀ x_3 : Int32, x_3 = m_2 1 i1 1 →
∀ m_4 : Mem, m_4 = ms m_2 1 i0 1 x_3 →
∀ x_5 : Int32, x_5 = m_4 1 i1 2 →
∀ m_6 : Mem, m_6 = ms m_4 1 i0 2 x_5 →
∀ x_7 : Int32, x_7 = m_6 1 i1 3 →
∀ m_8 : Mem, m_8 = ms m_6 1 i0 3 x_7 →
∀ x_9 : Int32, x_9 = m_8 1 i1 4 →
∀ m_10 : Mem, m_10 = ms m_8 1 i0 4 x_9 →
∀ x_11 : Int32, x_11 = m_10 1 i1 5 →
∀ m_12 : Mem, m_12 = ms m_10 1 i0 5 x_11 →
∃ n : Nat, wp_X1_copy_l50 i0 i1 q n 0 m_12
set_option maxRecDepth 100000 in
set_option maxHeartbeats 4000000 in
theorem c_X1_copy (l : Launch) (g : GG) (hI : Inj g) (μ : Mem) (i0 : Nat) (hi0 : i0 < 48) (i1 : Nat) (hi1 : i1 < 48) (q : Mem → Prop) (h : wp_X1_copy i0 i1 μ q) : Met l yX1_copy (Cond.code yX1_copy cX1_copy 3 none :: wsL_law) ({ frames := 0, cells := 0, slots := 0, locals := 0 }) (KP g [.ref (g.1 1 i0), .ref (g.1 1 i1)] μ) (KQv g q) 0 0 (AA g) := by
  refine met_V (own := RX1) hI (by decide) rfl (Nat.le_of_ble_eq_true rfl) rfl (fun p e s m args below meth c X hr hlk => ?_)
  have L50 : ∀ (n : Nat) (b2 : Int32) (μ : Mem), wp_X1_copy_l50 i0 i1 q n b2 μ → V p l e ({ frames := 0, cells := 0, slots := 0, locals := 0 }) s m args below meth c 3 g (AA g) 0 0 (MQ below (KQv g q) args s 0 0 (AA g)) μ 50 [(0, .ref (g.1 1 i0)), (1, .ref (g.1 1 i1)), (2, .int b2)] [] := by
    intro n
    induction n with
    | zero => intro b2 μ h; exact h.elim
    | succ n ih =>
      intro b2 μ h
      unfold wp_X1_copy_l50 at h
      refine v_iload_n (pc := 50) X rfl 2 rfl dX1_copy_50 ?_
      refine v_aload_n (pc := 51) X rfl 0 rfl dX1_copy_51 ?_
      refine gf_1_6 (pc := 52) X hi0 wd_86 dX1_copy_52 ?_
      refine len_7 (pc := 55) X hi0 dX1_copy_55 ?_
      refine v_icmp_ge (pc := 56) (tgt := 86) X h dX1_copy_56 (by decide) (fun h => ?_) (fun h => ?_)
      · exact v_vret (pc := 86) X hr hlk h dX1_copy_86
      · refine v_iload_n (pc := 59) X rfl 2 rfl dX1_copy_59 ?_
        refine v_aload_n (pc := 60) X rfl 1 rfl dX1_copy_60 ?_
        refine gf_1_6 (pc := 61) X hi1 wd_86 dX1_copy_61 ?_
        refine len_7 (pc := 64) X hi1 dX1_copy_64 ?_
        refine v_icmp_ge (pc := 65) (tgt := 86) X h dX1_copy_65 (by decide) (fun h => ?_) (fun h => ?_)
        · exact v_vret (pc := 86) X hr hlk h dX1_copy_86
        · refine v_aload_n (pc := 68) X rfl 0 rfl dX1_copy_68 ?_
          refine gf_1_6 (pc := 69) X hi0 wd_86 dX1_copy_69 ?_
          refine v_iload_n (pc := 72) X rfl 2 rfl dX1_copy_72 ?_
          refine v_aload_n (pc := 73) X rfl 1 rfl dX1_copy_73 ?_
          refine gf_1_6 (pc := 74) X hi1 wd_86 dX1_copy_74 ?_
          refine v_iload_n (pc := 77) X rfl 2 rfl dX1_copy_77 ?_
          refine al_7 (pc := 78) X hi1 h dX1_copy_78 (fun x_1 h => ?_)
          refine as_7 (pc := 79) X hi0 h dX1_copy_79 (fun m_2 h => ?_)
          refine v_iinc (pc := 80) (lv' := [(2, .int (b2 + 1)), (0, .ref (g.1 1 i0)), (1, .ref (g.1 1 i1))]) (j := 2) X rfl (congrArg (HAdd.hAdd _) cst_i_1) (by decide) rfl dX1_copy_80 ?_
          refine v_goto (pc := 83) (tgt := 50) X dX1_copy_83 (by decide) ?_
          refine v_sub [1, 2, 0] rfl ?_
          exact ih _ _ h
  unfold wp_X1_copy at h
  refine v_aload_n (pc := 0) X rfl 0 rfl dX1_copy_0 ?_
  refine v_aload_n (pc := 1) X rfl 1 rfl dX1_copy_1 ?_
  refine gf_1_0 (pc := 2) X hi1 wd_80 h dX1_copy_2 (fun x_1 h => ?_)
  refine pf_1_0 (pc := 5) X hi0 wd_80 h dX1_copy_5 (fun m_2 h => ?_)
  refine v_aload_n (pc := 8) X rfl 0 rfl dX1_copy_8 ?_
  refine v_aload_n (pc := 9) X rfl 1 rfl dX1_copy_9 ?_
  refine gf_1_1 (pc := 10) X hi1 wd_81 h dX1_copy_10 (fun x_3 h => ?_)
  refine pf_1_1 (pc := 13) X hi0 wd_81 h dX1_copy_13 (fun m_4 h => ?_)
  refine v_aload_n (pc := 16) X rfl 0 rfl dX1_copy_16 ?_
  refine v_aload_n (pc := 17) X rfl 1 rfl dX1_copy_17 ?_
  refine gf_1_2 (pc := 18) X hi1 wd_82 h dX1_copy_18 (fun x_5 h => ?_)
  refine pf_1_2 (pc := 21) X hi0 wd_82 h dX1_copy_21 (fun m_6 h => ?_)
  refine v_aload_n (pc := 24) X rfl 0 rfl dX1_copy_24 ?_
  refine v_aload_n (pc := 25) X rfl 1 rfl dX1_copy_25 ?_
  refine gf_1_3 (pc := 26) X hi1 wd_83 h dX1_copy_26 (fun x_7 h => ?_)
  refine pf_1_3 (pc := 29) X hi0 wd_83 h dX1_copy_29 (fun m_8 h => ?_)
  refine v_aload_n (pc := 32) X rfl 0 rfl dX1_copy_32 ?_
  refine v_aload_n (pc := 33) X rfl 1 rfl dX1_copy_33 ?_
  refine gf_1_4 (pc := 34) X hi1 wd_84 h dX1_copy_34 (fun x_9 h => ?_)
  refine pf_1_4 (pc := 37) X hi0 wd_84 h dX1_copy_37 (fun m_10 h => ?_)
  refine v_aload_n (pc := 40) X rfl 0 rfl dX1_copy_40 ?_
  refine v_aload_n (pc := 41) X rfl 1 rfl dX1_copy_41 ?_
  refine gf_1_5 (pc := 42) X hi1 wd_85 h dX1_copy_42 (fun x_11 h => ?_)
  refine pf_1_5 (pc := 45) X hi0 wd_85 h dX1_copy_45 (fun m_12 h => ?_)
  refine v_iconst (pc := 48) X cst_i_0 dX1_copy_48 ?_
  refine v_istore_n (pc := 49) (lv' := [(2, .int 0), (0, .ref (g.1 1 i0)), (1, .ref (g.1 1 i1))]) X rfl (by decide) rfl dX1_copy_49 ?_
  refine v_sub [1, 2, 0] rfl ?_
  obtain ⟨n, h⟩ := h
  exact L50 n _ _ h

def wp_X1_note_b86 (i0 : Nat) (a1 : Int32) (i2 : Nat) (a3 : Int32) (q : Mem → Prop) (b4 : Int32) (μ : Mem) : Prop :=
∀ m_1 : Mem, m_1 = ms μ 1 i0 2 a1 →
∀ x_2 : Int32, x_2 = m_1 3 i2 1 →
∀ m_3 : Mem, m_3 = ms m_1 1 i0 3 x_2 →
∀ m_4 : Mem, m_4 = ms m_3 1 i0 4 b4 →
∀ x_5 : Int32, x_5 = m_4 3 i2 3 →
∀ x_6 : Int32, x_6 = m_4 3 i2 12 →
∀ m_7 : Mem, m_7 = ms m_4 1 i0 5 (x_5 + x_6) →
q m_7
def wp_X1_note (i0 : Nat) (a1 : Int32) (i2 : Nat) (a3 : Int32) (μ : Mem) (q : Mem → Prop) : Prop :=
((a1 < 0 →
q μ) ∧ (¬ a1 < 0 →
((a1 < (nI 6) →
∀ x_1 : Int32, x_1 = μ 3 i2 11 →
∀ x_2 : Int32, x_2 = μ 3 i2 4 →
∀ y_3 : Int32, y_3 = ((x_1 + x_2) - a3) →
∀ x_4 : Int32, x_4 = μ 1 i0 0 →
wp_X5_bitOf a1 μ (fun x_6 m_5 =>
∀ m_7 : Mem, m_7 = ms m_5 1 i0 0 (x_4 ||| x_6) →
vp_in a1 6 ∧ ∀ m_8 : Mem, m_8 = ms m_7 7 i0 (a1 : Int32).toNatClampNeg y_3 →
∀ x_9 : Int32, x_9 = m_8 3 i2 0 →
((¬ x_9 = 1 →
q m_8) ∧ (x_9 = 1 →
∀ x_10 : Int32, x_10 = m_8 1 i0 1 →
∀ m_11 : Mem, m_11 = ms m_8 1 i0 1 (x_10 + 1) →
∀ x_12 : Int32, x_12 = m_11 1 i0 2 →
((x_12 = (-6) →
wp_X1_note_b86 i0 a1 i2 a3 q y_3 m_11) ∧ (¬ x_12 = (-6) →
∀ x_13 : Int32, x_13 = m_11 3 i2 1 →
∀ x_14 : Int32, x_14 = m_11 1 i0 3 →
((x_14 ≤ x_13 →
q m_11) ∧ (¬ x_14 ≤ x_13 →
wp_X1_note_b86 i0 a1 i2 a3 q y_3 m_11)))))))) ∧ (¬ a1 < (nI 6) →
q μ))))
set_option maxRecDepth 100000 in
set_option maxHeartbeats 4000000 in
theorem c_X1_note (l : Launch) (g : GG) (hI : Inj g) (μ : Mem) (i0 : Nat) (hi0 : i0 < 48) (a1 : Int32) (i2 : Nat) (hi2 : i2 < 24) (a3 : Int32) (q : Mem → Prop) (h : wp_X1_note i0 a1 i2 a3 μ q) : Met l yX1_note (Cond.code yX1_note cX1_note 5 none :: wsL_law) ({ frames := 1, cells := 0, slots := 0, locals := 20 }) (KP g [.ref (g.1 1 i0), .int a1, .ref (g.1 3 i2), .int a3] μ) (KQv g q) 0 0 (AA g) := by
  refine met_V (own := RX1) hI (by decide) rfl (Nat.le_of_ble_eq_true rfl) rfl (fun p e s m args below meth c X hr hlk => ?_)
  have B86 : ∀ (b4 : Int32) (μ : Mem), wp_X1_note_b86 i0 a1 i2 a3 q b4 μ → V p l e ({ frames := 1, cells := 0, slots := 0, locals := 20 }) s m args below meth c 5 g (AA g) 0 0 (MQ below (KQv g q) args s 0 0 (AA g)) μ 86 [(0, .ref (g.1 1 i0)), (1, .int a1), (2, .ref (g.1 3 i2)), (4, .int b4)] [] := by
    intro b4 μ h
    unfold wp_X1_note_b86 at h
    refine v_aload_n (pc := 86) X rfl 0 rfl dX1_note_86 ?_
    refine v_iload_n (pc := 87) X rfl 1 rfl dX1_note_87 ?_
    refine pf_1_2 (pc := 88) X hi0 wd_82 h dX1_note_88 (fun m_1 h => ?_)
    refine v_aload_n (pc := 91) X rfl 0 rfl dX1_note_91 ?_
    refine v_aload_n (pc := 92) X rfl 2 rfl dX1_note_92 ?_
    refine gf_3_1 (pc := 93) X hi2 wd_278 h dX1_note_93 (fun x_2 h => ?_)
    refine pf_1_3 (pc := 96) X hi0 wd_83 h dX1_note_96 (fun m_3 h => ?_)
    refine v_aload_n (pc := 99) X rfl 0 rfl dX1_note_99 ?_
    refine v_iload (pc := 100) X 3 rfl dX1_note_100 ?_
    refine pf_1_4 (pc := 102) X hi0 wd_84 h dX1_note_102 (fun m_4 h => ?_)
    refine v_aload_n (pc := 105) X rfl 0 rfl dX1_note_105 ?_
    refine v_aload_n (pc := 106) X rfl 2 rfl dX1_note_106 ?_
    refine gf_3_3 (pc := 107) X hi2 wd_279 h dX1_note_107 (fun x_5 h => ?_)
    refine v_aload_n (pc := 110) X rfl 2 rfl dX1_note_110 ?_
    refine gf_3_12 (pc := 111) X hi2 wd_280 h dX1_note_111 (fun x_6 h => ?_)
    refine v_iadd (pc := 114) X dX1_note_114 ?_
    refine pf_1_5 (pc := 115) X hi0 wd_85 h dX1_note_115 (fun m_7 h => ?_)
    exact v_vret (pc := 118) X hr hlk h dX1_note_118
  unfold wp_X1_note at h
  refine v_iload_n (pc := 0) X rfl 1 rfl dX1_note_0 ?_
  refine v_if_lt (pc := 1) (tgt := 13) X h dX1_note_1 (by decide) (fun h => ?_) (fun h => ?_)
  · exact v_vret (pc := 13) X hr hlk h dX1_note_13
  · refine v_iload_n (pc := 4) X rfl 1 rfl dX1_note_4 ?_
    refine v_aload_n (pc := 5) X rfl 0 rfl dX1_note_5 ?_
    refine gf_1_6 (pc := 6) X hi0 wd_86 dX1_note_6 ?_
    refine len_7 (pc := 9) X hi0 dX1_note_9 ?_
    refine v_icmp_lt (pc := 10) (tgt := 14) X h dX1_note_10 (by decide) (fun h => ?_) (fun h => ?_)
    · refine v_aload_n (pc := 14) X rfl 2 rfl dX1_note_14 ?_
      refine gf_3_11 (pc := 15) X hi2 wd_275 h dX1_note_15 (fun x_1 h => ?_)
      refine v_aload_n (pc := 18) X rfl 2 rfl dX1_note_18 ?_
      refine gf_3_4 (pc := 19) X hi2 wd_276 h dX1_note_19 (fun x_2 h => ?_)
      refine v_iadd (pc := 22) X dX1_note_22 ?_
      refine v_iload_n (pc := 23) X rfl 3 rfl dX1_note_23 ?_
      refine v_isub (pc := 24) X dX1_note_24 ?_
      refine v_nm h (fun y_3 h => ?_)
      refine v_istore (pc := 25) (lv' := [(4, .int y_3), (0, .ref (g.1 1 i0)), (1, .int a1), (2, .ref (g.1 3 i2)), (3, .int a3)]) X (by decide) rfl dX1_note_25 ?_
      refine v_aload_n (pc := 27) X rfl 1 rfl dX1_note_27 ?_
      refine v_dup (pc := 28) X rfl dX1_note_28 ?_
      refine gf_1_0 (pc := 29) X hi0 wd_80 h dX1_note_29 (fun x_4 h => ?_)
      refine v_iload_n (pc := 32) X rfl 2 rfl dX1_note_32 ?_
      refine v_callNi (pc := 33) X (c_X5_bitOf l g hI _ _ _ h) wd_184 nst_2 wd_183 wd_2 ⟨rfl, rfl⟩ hdc_X5_bitOf ⟨Nat.le_of_ble_eq_true rfl, Nat.le_of_ble_eq_true rfl⟩ ⟨Nat.le_refl 0, Nat.le_refl 0⟩ (As := [.int a1]) rfl rfl (Nat.le_of_ble_eq_true rfl) dX1_note_33 (fun x_6 m_5 h => ?_)
      refine v_ior (pc := 36) X dX1_note_36 ?_
      refine pf_1_0 (pc := 37) X hi0 wd_80 h dX1_note_37 (fun m_7 h => ?_)
      refine v_aload_n (pc := 40) X rfl 1 rfl dX1_note_40 ?_
      refine gf_1_6 (pc := 41) X hi0 wd_86 dX1_note_41 ?_
      refine v_iload_n (pc := 44) X rfl 2 rfl dX1_note_44 ?_
      refine v_iload (pc := 45) X 0 rfl dX1_note_45 ?_
      refine as_7 (pc := 47) X hi0 h dX1_note_47 (fun m_8 h => ?_)
      refine v_aload_n (pc := 48) X rfl 3 rfl dX1_note_48 ?_
      refine gf_3_0 (pc := 49) X hi2 wd_277 h dX1_note_49 (fun x_9 h => ?_)
      refine v_iconst (pc := 52) X cst_i_1 dX1_note_52 ?_
      refine v_icmp_ne (pc := 53) (tgt := 118) X h dX1_note_53 (by decide) (fun h => ?_) (fun h => ?_)
      · exact v_vret (pc := 118) X hr hlk h dX1_note_118
      · refine v_aload_n (pc := 56) X rfl 1 rfl dX1_note_56 ?_
        refine v_dup (pc := 57) X rfl dX1_note_57 ?_
        refine gf_1_1 (pc := 58) X hi0 wd_81 h dX1_note_58 (fun x_10 h => ?_)
        refine v_iconst (pc := 61) X cst_i_1 dX1_note_61 ?_
        refine v_iadd (pc := 62) X dX1_note_62 ?_
        refine pf_1_1 (pc := 63) X hi0 wd_81 h dX1_note_63 (fun m_11 h => ?_)
        refine v_aload_n (pc := 66) X rfl 1 rfl dX1_note_66 ?_
        refine gf_1_2 (pc := 67) X hi0 wd_82 h dX1_note_67 (fun x_12 h => ?_)
        refine v_bipush (pc := 70) X cst_b_m6 dX1_note_70 ?_
        refine v_icmp_eq (pc := 72) (tgt := 86) X h dX1_note_72 (by decide) (fun h => ?_) (fun h => ?_)
        · refine v_sub [1, 2, 3, 0] rfl ?_
          exact B86 _ _ h
        · refine v_aload_n (pc := 75) X rfl 3 rfl dX1_note_75 ?_
          refine gf_3_1 (pc := 76) X hi2 wd_278 h dX1_note_76 (fun x_13 h => ?_)
          refine v_aload_n (pc := 79) X rfl 1 rfl dX1_note_79 ?_
          refine gf_1_3 (pc := 80) X hi0 wd_83 h dX1_note_80 (fun x_14 h => ?_)
          refine v_icmp_ge (pc := 83) (tgt := 118) X h dX1_note_83 (by decide) (fun h => ?_) (fun h => ?_)
          · exact v_vret (pc := 118) X hr hlk h dX1_note_118
          · refine v_sub [1, 2, 3, 0] rfl ?_
            exact B86 _ _ h
    · exact v_vret (pc := 13) X hr hlk h dX1_note_13

def wp_X1_trimOfSeen_b41 (i0 : Nat) (i1 : Nat) (q : Int32 → Mem → Prop) (K : Int32 → Mem → Prop) (b2 : Int32) (μ : Mem) : Prop :=
K (b2 + 1) μ
def wp_X1_trimOfSeen_l11 (i0 : Nat) (i1 : Nat) (q : Int32 → Mem → Prop) : Nat → Int32 → Mem → Prop
  | 0 => fun _ _ => False
  | n + 1 => fun b2 μ =>
(((nI 6) ≤ b2 →
wp_X4_trimmed i1 μ (fun x_2 m_1 =>
q x_2 m_1)) ∧ (¬ (nI 6) ≤ b2 →
∀ x_3 : Int32, x_3 = μ 1 i0 0 →
wp_X5_isIn x_3 b2 μ (fun x_5 m_4 =>
((x_5 = 0 →
wp_X1_trimOfSeen_b41 i0 i1 q (wp_X1_trimOfSeen_l11 i0 i1 q n) b2 m_4) ∧ (¬ x_5 = 0 →
vp_in b2 6 ∧ ∀ x_6 : Int32, x_6 = m_4 7 i0 (b2 : Int32).toNatClampNeg →
wp_X4_put i1 x_6 m_4 (fun m_7 =>
wp_X1_trimOfSeen_b41 i0 i1 q (wp_X1_trimOfSeen_l11 i0 i1 q n) b2 m_7))))))
def wp_X1_trimOfSeen (i0 : Nat) (i1 : Nat) (μ : Mem) (q : Int32 → Mem → Prop) : Prop :=
wp_X4_clear i1 μ (fun m_1 =>
wp_X4_put i1 0 m_1 (fun m_2 =>
∃ n : Nat, wp_X1_trimOfSeen_l11 i0 i1 q n 0 m_2))
set_option maxRecDepth 100000 in
set_option maxHeartbeats 4000000 in
theorem c_X1_trimOfSeen (l : Launch) (g : GG) (hI : Inj g) (μ : Mem) (i0 : Nat) (hi0 : i0 < 48) (i1 : Nat) (hi1 : i1 < 5) (q : Int32 → Mem → Prop) (h : wp_X1_trimOfSeen i0 i1 μ q) : Met l yX1_trimOfSeen (Cond.code yX1_trimOfSeen cX1_trimOfSeen 3 (some .int) :: wsL_law) ({ frames := 1, cells := 0, slots := 0, locals := 22 }) (KP g [.ref (g.1 1 i0), .ref (g.1 4 i1)] μ) (KQi g q) 0 0 (AA g) := by
  refine met_V (own := RX1) hI (by decide) rfl (Nat.le_of_ble_eq_true rfl) rfl (fun p e s m args below meth c X hr hlk => ?_)
  have L11 : ∀ (n : Nat) (b2 : Int32) (μ : Mem), wp_X1_trimOfSeen_l11 i0 i1 q n b2 μ → V p l e ({ frames := 1, cells := 0, slots := 0, locals := 22 }) s m args below meth c 3 g (AA g) 0 0 (MQ below (KQi g q) args s 0 0 (AA g)) μ 11 [(0, .ref (g.1 1 i0)), (1, .ref (g.1 4 i1)), (2, .int b2)] [] := by
    intro n
    induction n with
    | zero => intro b2 μ h; exact h.elim
    | succ n ih =>
      have B41 : ∀ (b2 : Int32) (μ : Mem), wp_X1_trimOfSeen_b41 i0 i1 q (wp_X1_trimOfSeen_l11 i0 i1 q n) b2 μ → V p l e ({ frames := 1, cells := 0, slots := 0, locals := 22 }) s m args below meth c 3 g (AA g) 0 0 (MQ below (KQi g q) args s 0 0 (AA g)) μ 41 [(0, .ref (g.1 1 i0)), (1, .ref (g.1 4 i1)), (2, .int b2)] [] := by
        intro b2 μ h
        unfold wp_X1_trimOfSeen_b41 at h
        refine v_iinc (pc := 41) (lv' := [(2, .int (b2 + 1)), (0, .ref (g.1 1 i0)), (1, .ref (g.1 4 i1))]) (j := 2) X rfl (congrArg (HAdd.hAdd _) cst_i_1) (by decide) rfl dX1_trimOfSeen_41 ?_
        refine v_goto (pc := 44) (tgt := 11) X dX1_trimOfSeen_44 (by decide) ?_
        refine v_sub [1, 2, 0] rfl ?_
        exact ih _ _ h
      intro b2 μ h
      unfold wp_X1_trimOfSeen_l11 at h
      refine v_iload_n (pc := 11) X rfl 2 rfl dX1_trimOfSeen_11 ?_
      refine v_aload_n (pc := 12) X rfl 0 rfl dX1_trimOfSeen_12 ?_
      refine gf_1_6 (pc := 13) X hi0 wd_86 dX1_trimOfSeen_13 ?_
      refine len_7 (pc := 16) X hi0 dX1_trimOfSeen_16 ?_
      refine v_icmp_ge (pc := 17) (tgt := 47) X h dX1_trimOfSeen_17 (by decide) (fun h => ?_) (fun h => ?_)
      · refine v_aload_n (pc := 47) X rfl 1 rfl dX1_trimOfSeen_47 ?_
        refine v_callVi (pc := 48) X (c_X4_trimmed l g hI _ _ hi1 _ h) wd_344 wd_341 wd_342 wd_343 wd_21 ⟨rfl, rfl⟩ hdc_X4_trimmed ⟨Nat.le_of_ble_eq_true rfl, Nat.le_of_ble_eq_true rfl⟩ ⟨Nat.le_refl 0, Nat.le_refl 0⟩ hi1 rfl rfl (As := []) rfl rfl (Nat.le_of_ble_eq_true rfl) dX1_trimOfSeen_48 (fun x_2 m_1 h => ?_)
        exact v_iret (pc := 51) X hr hlk h dX1_trimOfSeen_51
      · refine v_aload_n (pc := 20) X rfl 0 rfl dX1_trimOfSeen_20 ?_
        refine gf_1_0 (pc := 21) X hi0 wd_80 h dX1_trimOfSeen_21 (fun x_3 h => ?_)
        refine v_iload_n (pc := 24) X rfl 2 rfl dX1_trimOfSeen_24 ?_
        refine v_callNi (pc := 25) X (c_X5_isIn l g hI _ _ _ _ h) wd_243 nst_3 wd_242 wd_2 ⟨rfl, rfl⟩ hdc_X5_isIn ⟨Nat.le_of_ble_eq_true rfl, Nat.le_of_ble_eq_true rfl⟩ ⟨Nat.le_refl 0, Nat.le_refl 0⟩ (As := [.int x_3, .int b2]) rfl rfl (Nat.le_of_ble_eq_true rfl) dX1_trimOfSeen_25 (fun x_5 m_4 h => ?_)
        refine v_if_eq (pc := 28) (tgt := 41) X h dX1_trimOfSeen_28 (by decide) (fun h => ?_) (fun h => ?_)
        · exact B41 _ _ h
        · refine v_aload_n (pc := 31) X rfl 1 rfl dX1_trimOfSeen_31 ?_
          refine v_aload_n (pc := 32) X rfl 0 rfl dX1_trimOfSeen_32 ?_
          refine gf_1_6 (pc := 33) X hi0 wd_86 dX1_trimOfSeen_33 ?_
          refine v_iload_n (pc := 36) X rfl 2 rfl dX1_trimOfSeen_36 ?_
          refine al_7 (pc := 37) X hi0 h dX1_trimOfSeen_37 (fun x_6 h => ?_)
          refine v_callVv (pc := 38) X (c_X4_put l g hI _ _ hi1 _ _ h) wd_340 wd_337 wd_338 wd_339 wd_21 ⟨rfl, rfl⟩ hdc_X4_put ⟨Nat.le_of_ble_eq_true rfl, Nat.le_of_ble_eq_true rfl⟩ ⟨Nat.le_refl 0, Nat.le_refl 0⟩ hi1 rfl rfl (As := [.int x_6]) rfl rfl (Nat.le_of_ble_eq_true rfl) dX1_trimOfSeen_38 (fun m_7 h => ?_)
          exact B41 _ _ h
  unfold wp_X1_trimOfSeen at h
  refine v_aload_n (pc := 0) X rfl 1 rfl dX1_trimOfSeen_0 ?_
  refine v_callVv (pc := 1) X (c_X4_clear l g hI _ _ hi1 _ h) wd_336 wd_333 wd_334 wd_335 wd_21 ⟨rfl, rfl⟩ hdc_X4_clear ⟨Nat.le_of_ble_eq_true rfl, Nat.le_of_ble_eq_true rfl⟩ ⟨Nat.le_refl 0, Nat.le_refl 0⟩ hi1 rfl rfl (As := []) rfl rfl (Nat.le_of_ble_eq_true rfl) dX1_trimOfSeen_1 (fun m_1 h => ?_)
  refine v_aload_n (pc := 4) X rfl 1 rfl dX1_trimOfSeen_4 ?_
  refine v_iconst (pc := 5) X cst_i_0 dX1_trimOfSeen_5 ?_
  refine v_callVv (pc := 6) X (c_X4_put l g hI _ _ hi1 _ _ h) wd_340 wd_337 wd_338 wd_339 wd_21 ⟨rfl, rfl⟩ hdc_X4_put ⟨Nat.le_of_ble_eq_true rfl, Nat.le_of_ble_eq_true rfl⟩ ⟨Nat.le_refl 0, Nat.le_refl 0⟩ hi1 rfl rfl (As := [.int 0]) rfl rfl (Nat.le_of_ble_eq_true rfl) dX1_trimOfSeen_6 (fun m_2 h => ?_)
  refine v_iconst (pc := 9) X cst_i_0 dX1_trimOfSeen_9 ?_
  refine v_istore_n (pc := 10) (lv' := [(2, .int 0), (0, .ref (g.1 1 i0)), (1, .ref (g.1 4 i1))]) X rfl (by decide) rfl dX1_trimOfSeen_10 ?_
  refine v_sub [1, 2, 0] rfl ?_
  obtain ⟨n, h⟩ := h
  exact L11 n _ _ h

def wp_X1_trimOfMoves_b68 (i0 : Nat) (i1 : Nat) (i2 : Nat) (q : Int32 → Mem → Prop)  (μ : Mem) : Prop :=
wp_X4_trimmed i2 μ (fun x_2 m_1 =>
q x_2 m_1)
def wp_X1_trimOfMoves_b62 (i0 : Nat) (i1 : Nat) (i2 : Nat) (q : Int32 → Mem → Prop) (K : Int32 → Mem → Prop) (b3 : Int32) (μ : Mem) : Prop :=
K (b3 + 1) μ
def wp_X1_trimOfMoves_l11 (i0 : Nat) (i1 : Nat) (i2 : Nat) (q : Int32 → Mem → Prop) : Nat → Int32 → Mem → Prop
  | 0 => fun _ _ => False
  | n + 1 => fun b3 μ =>
(((nI 6) ≤ b3 →
wp_X1_trimOfMoves_b68 i0 i1 i2 q  μ) ∧ (¬ (nI 6) ≤ b3 →
(((nI 6) ≤ b3 →
wp_X1_trimOfMoves_b68 i0 i1 i2 q  μ) ∧ (¬ (nI 6) ≤ b3 →
∀ x_1 : Int32, x_1 = μ 1 i0 0 →
∀ x_2 : Int32, x_2 = μ 1 i1 0 →
wp_X5_isIn (x_1 &&& x_2) b3 μ (fun x_4 m_3 =>
((x_4 = 0 →
wp_X1_trimOfMoves_b62 i0 i1 i2 q (wp_X1_trimOfMoves_l11 i0 i1 i2 q n) b3 m_3) ∧ (¬ x_4 = 0 →
vp_in b3 6 ∧ ∀ x_5 : Int32, x_5 = m_3 7 i0 (b3 : Int32).toNatClampNeg →
vp_in b3 6 ∧ ∀ x_6 : Int32, x_6 = m_3 7 i1 (b3 : Int32).toNatClampNeg →
wp_X4_put i2 (x_5 - x_6) m_3 (fun m_7 =>
wp_X1_trimOfMoves_b62 i0 i1 i2 q (wp_X1_trimOfMoves_l11 i0 i1 i2 q n) b3 m_7))))))))
def wp_X1_trimOfMoves (i0 : Nat) (i1 : Nat) (i2 : Nat) (μ : Mem) (q : Int32 → Mem → Prop) : Prop :=
wp_X4_clear i2 μ (fun m_1 =>
wp_X4_put i2 0 m_1 (fun m_2 =>
∃ n : Nat, wp_X1_trimOfMoves_l11 i0 i1 i2 q n 0 m_2))
set_option maxRecDepth 100000 in
set_option maxHeartbeats 4000000 in
theorem c_X1_trimOfMoves (l : Launch) (g : GG) (hI : Inj g) (μ : Mem) (i0 : Nat) (hi0 : i0 < 48) (i1 : Nat) (hi1 : i1 < 48) (i2 : Nat) (hi2 : i2 < 5) (q : Int32 → Mem → Prop) (h : wp_X1_trimOfMoves i0 i1 i2 μ q) : Met l yX1_trimOfMoves (Cond.code yX1_trimOfMoves cX1_trimOfMoves 4 (some .int) :: wsL_law) ({ frames := 1, cells := 0, slots := 0, locals := 22 }) (KP g [.ref (g.1 1 i0), .ref (g.1 1 i1), .ref (g.1 4 i2)] μ) (KQi g q) 0 0 (AA g) := by
  refine met_V (own := RX1) hI (by decide) rfl (Nat.le_of_ble_eq_true rfl) rfl (fun p e s m args below meth c X hr hlk => ?_)
  have B68 : ∀  (μ : Mem), wp_X1_trimOfMoves_b68 i0 i1 i2 q  μ → V p l e ({ frames := 1, cells := 0, slots := 0, locals := 22 }) s m args below meth c 4 g (AA g) 0 0 (MQ below (KQi g q) args s 0 0 (AA g)) μ 68 [(2, .ref (g.1 4 i2))] [] := by
    intro  μ h
    unfold wp_X1_trimOfMoves_b68 at h
    refine v_aload_n (pc := 68) X rfl 0 rfl dX1_trimOfMoves_68 ?_
    refine v_callVi (pc := 69) X (c_X4_trimmed l g hI _ _ hi2 _ h) wd_344 wd_341 wd_342 wd_343 wd_21 ⟨rfl, rfl⟩ hdc_X4_trimmed ⟨Nat.le_of_ble_eq_true rfl, Nat.le_of_ble_eq_true rfl⟩ ⟨Nat.le_refl 0, Nat.le_refl 0⟩ hi2 rfl rfl (As := []) rfl rfl (Nat.le_of_ble_eq_true rfl) dX1_trimOfMoves_69 (fun x_2 m_1 h => ?_)
    exact v_iret (pc := 72) X hr hlk h dX1_trimOfMoves_72
  have L11 : ∀ (n : Nat) (b3 : Int32) (μ : Mem), wp_X1_trimOfMoves_l11 i0 i1 i2 q n b3 μ → V p l e ({ frames := 1, cells := 0, slots := 0, locals := 22 }) s m args below meth c 4 g (AA g) 0 0 (MQ below (KQi g q) args s 0 0 (AA g)) μ 11 [(0, .ref (g.1 1 i0)), (1, .ref (g.1 1 i1)), (2, .ref (g.1 4 i2)), (3, .int b3)] [] := by
    intro n
    induction n with
    | zero => intro b3 μ h; exact h.elim
    | succ n ih =>
      have B62 : ∀ (b3 : Int32) (μ : Mem), wp_X1_trimOfMoves_b62 i0 i1 i2 q (wp_X1_trimOfMoves_l11 i0 i1 i2 q n) b3 μ → V p l e ({ frames := 1, cells := 0, slots := 0, locals := 22 }) s m args below meth c 4 g (AA g) 0 0 (MQ below (KQi g q) args s 0 0 (AA g)) μ 62 [(0, .ref (g.1 1 i0)), (1, .ref (g.1 1 i1)), (2, .ref (g.1 4 i2)), (3, .int b3)] [] := by
        intro b3 μ h
        unfold wp_X1_trimOfMoves_b62 at h
        refine v_iinc (pc := 62) (lv' := [(3, .int (b3 + 1)), (0, .ref (g.1 1 i0)), (1, .ref (g.1 1 i1)), (2, .ref (g.1 4 i2))]) (j := 3) X rfl (congrArg (HAdd.hAdd _) cst_i_1) (by decide) rfl dX1_trimOfMoves_62 ?_
        refine v_goto (pc := 65) (tgt := 11) X dX1_trimOfMoves_65 (by decide) ?_
        refine v_sub [1, 2, 3, 0] rfl ?_
        exact ih _ _ h
      intro b3 μ h
      unfold wp_X1_trimOfMoves_l11 at h
      refine v_iload_n (pc := 11) X rfl 3 rfl dX1_trimOfMoves_11 ?_
      refine v_aload_n (pc := 12) X rfl 0 rfl dX1_trimOfMoves_12 ?_
      refine gf_1_6 (pc := 13) X hi0 wd_86 dX1_trimOfMoves_13 ?_
      refine len_7 (pc := 16) X hi0 dX1_trimOfMoves_16 ?_
      refine v_icmp_ge (pc := 17) (tgt := 68) X h dX1_trimOfMoves_17 (by decide) (fun h => ?_) (fun h => ?_)
      · refine v_sub [2] rfl ?_
        exact B68  _ h
      · refine v_iload_n (pc := 20) X rfl 3 rfl dX1_trimOfMoves_20 ?_
        refine v_aload_n (pc := 21) X rfl 1 rfl dX1_trimOfMoves_21 ?_
        refine gf_1_6 (pc := 22) X hi1 wd_86 dX1_trimOfMoves_22 ?_
        refine len_7 (pc := 25) X hi1 dX1_trimOfMoves_25 ?_
        refine v_icmp_ge (pc := 26) (tgt := 68) X h dX1_trimOfMoves_26 (by decide) (fun h => ?_) (fun h => ?_)
        · refine v_sub [2] rfl ?_
          exact B68  _ h
        · refine v_aload_n (pc := 29) X rfl 0 rfl dX1_trimOfMoves_29 ?_
          refine gf_1_0 (pc := 30) X hi0 wd_80 h dX1_trimOfMoves_30 (fun x_1 h => ?_)
          refine v_aload_n (pc := 33) X rfl 1 rfl dX1_trimOfMoves_33 ?_
          refine gf_1_0 (pc := 34) X hi1 wd_80 h dX1_trimOfMoves_34 (fun x_2 h => ?_)
          refine v_iand (pc := 37) X dX1_trimOfMoves_37 ?_
          refine v_iload_n (pc := 38) X rfl 3 rfl dX1_trimOfMoves_38 ?_
          refine v_callNi (pc := 39) X (c_X5_isIn l g hI _ _ _ _ h) wd_243 nst_3 wd_242 wd_2 ⟨rfl, rfl⟩ hdc_X5_isIn ⟨Nat.le_of_ble_eq_true rfl, Nat.le_of_ble_eq_true rfl⟩ ⟨Nat.le_refl 0, Nat.le_refl 0⟩ (As := [.int (x_1 &&& x_2), .int b3]) rfl rfl (Nat.le_of_ble_eq_true rfl) dX1_trimOfMoves_39 (fun x_4 m_3 h => ?_)
          refine v_if_eq (pc := 42) (tgt := 62) X h dX1_trimOfMoves_42 (by decide) (fun h => ?_) (fun h => ?_)
          · exact B62 _ _ h
          · refine v_aload_n (pc := 45) X rfl 2 rfl dX1_trimOfMoves_45 ?_
            refine v_aload_n (pc := 46) X rfl 0 rfl dX1_trimOfMoves_46 ?_
            refine gf_1_6 (pc := 47) X hi0 wd_86 dX1_trimOfMoves_47 ?_
            refine v_iload_n (pc := 50) X rfl 3 rfl dX1_trimOfMoves_50 ?_
            refine al_7 (pc := 51) X hi0 h dX1_trimOfMoves_51 (fun x_5 h => ?_)
            refine v_aload_n (pc := 52) X rfl 1 rfl dX1_trimOfMoves_52 ?_
            refine gf_1_6 (pc := 53) X hi1 wd_86 dX1_trimOfMoves_53 ?_
            refine v_iload_n (pc := 56) X rfl 3 rfl dX1_trimOfMoves_56 ?_
            refine al_7 (pc := 57) X hi1 h dX1_trimOfMoves_57 (fun x_6 h => ?_)
            refine v_isub (pc := 58) X dX1_trimOfMoves_58 ?_
            refine v_callVv (pc := 59) X (c_X4_put l g hI _ _ hi2 _ _ h) wd_340 wd_337 wd_338 wd_339 wd_21 ⟨rfl, rfl⟩ hdc_X4_put ⟨Nat.le_of_ble_eq_true rfl, Nat.le_of_ble_eq_true rfl⟩ ⟨Nat.le_refl 0, Nat.le_refl 0⟩ hi2 rfl rfl (As := [.int (x_5 - x_6)]) rfl rfl (Nat.le_of_ble_eq_true rfl) dX1_trimOfMoves_59 (fun m_7 h => ?_)
            exact B62 _ _ h
  unfold wp_X1_trimOfMoves at h
  refine v_aload_n (pc := 0) X rfl 2 rfl dX1_trimOfMoves_0 ?_
  refine v_callVv (pc := 1) X (c_X4_clear l g hI _ _ hi2 _ h) wd_336 wd_333 wd_334 wd_335 wd_21 ⟨rfl, rfl⟩ hdc_X4_clear ⟨Nat.le_of_ble_eq_true rfl, Nat.le_of_ble_eq_true rfl⟩ ⟨Nat.le_refl 0, Nat.le_refl 0⟩ hi2 rfl rfl (As := []) rfl rfl (Nat.le_of_ble_eq_true rfl) dX1_trimOfMoves_1 (fun m_1 h => ?_)
  refine v_aload_n (pc := 4) X rfl 2 rfl dX1_trimOfMoves_4 ?_
  refine v_iconst (pc := 5) X cst_i_0 dX1_trimOfMoves_5 ?_
  refine v_callVv (pc := 6) X (c_X4_put l g hI _ _ hi2 _ _ h) wd_340 wd_337 wd_338 wd_339 wd_21 ⟨rfl, rfl⟩ hdc_X4_put ⟨Nat.le_of_ble_eq_true rfl, Nat.le_of_ble_eq_true rfl⟩ ⟨Nat.le_refl 0, Nat.le_refl 0⟩ hi2 rfl rfl (As := [.int 0]) rfl rfl (Nat.le_of_ble_eq_true rfl) dX1_trimOfMoves_6 (fun m_2 h => ?_)
  refine v_iconst (pc := 9) X cst_i_0 dX1_trimOfMoves_9 ?_
  refine v_istore_n (pc := 10) (lv' := [(3, .int 0), (0, .ref (g.1 1 i0)), (1, .ref (g.1 1 i1)), (2, .ref (g.1 4 i2))]) X rfl (by decide) rfl dX1_trimOfMoves_10 ?_
  refine v_sub [1, 2, 3, 0] rfl ?_
  obtain ⟨n, h⟩ := h
  exact L11 n _ _ h
