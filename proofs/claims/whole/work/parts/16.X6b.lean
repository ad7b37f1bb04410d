theorem cst_b_117 : (Int8.ofInt 117).toInt32 = ((nI 117) : Int32) := by decide +kernel
theorem cst_b_24 : (Int8.ofInt 24).toInt32 = ((nI 24) : Int32) := by decide +kernel
theorem cst_b_78 : (Int8.ofInt 78).toInt32 = ((nI 78) : Int32) := by decide +kernel
theorem cst_b_84 : (Int8.ofInt 84).toInt32 = ((nI 84) : Int32) := by decide +kernel
theorem cst_b_90 : (Int8.ofInt 90).toInt32 = ((nI 90) : Int32) := by decide +kernel
theorem cst_b_96 : (Int8.ofInt 96).toInt32 = ((nI 96) : Int32) := by decide +kernel
theorem cst_s_133 : (Int16.ofInt 133).toInt32 = ((nI 133) : Int32) := by decide +kernel
theorem cst_s_134 : (Int16.ofInt 134).toInt32 = ((nI 134) : Int32) := by decide +kernel
theorem cst_s_135 : (Int16.ofInt 135).toInt32 = ((nI 135) : Int32) := by decide +kernel
theorem cst_s_136 : (Int16.ofInt 136).toInt32 = ((nI 136) : Int32) := by decide +kernel
theorem cst_s_139 : (Int16.ofInt 139).toInt32 = ((nI 139) : Int32) := by decide +kernel
theorem hdc_X6_become : yX6_become.cls ≠ "java/lang/invoke/MethodHandle" ∧ yX6_become.cls ≠ "java/lang/invoke/VarHandle" ∧ (parseMethodDescriptor yX6_become.desc).map (fun d => d.parameters.length) = some 2 := by decide +kernel
theorem hdc_X6_correct : yX6_correct.cls ≠ "java/lang/invoke/MethodHandle" ∧ yX6_correct.cls ≠ "java/lang/invoke/VarHandle" ∧ (parseMethodDescriptor yX6_correct.desc).map (fun d => d.parameters.length) = some 1 := by decide +kernel
theorem hdc_X6_end : yX6_end.cls ≠ "java/lang/invoke/MethodHandle" ∧ yX6_end.cls ≠ "java/lang/invoke/VarHandle" ∧ (parseMethodDescriptor yX6_end.desc).map (fun d => d.parameters.length) = some 1 := by decide +kernel
theorem hdc_X6_follow : yX6_follow.cls ≠ "java/lang/invoke/MethodHandle" ∧ yX6_follow.cls ≠ "java/lang/invoke/VarHandle" ∧ (parseMethodDescriptor yX6_follow.desc).map (fun d => d.parameters.length) = some 2 := by decide +kernel
theorem hdc_X6_hear : yX6_hear.cls ≠ "java/lang/invoke/MethodHandle" ∧ yX6_hear.cls ≠ "java/lang/invoke/VarHandle" ∧ (parseMethodDescriptor yX6_hear.desc).map (fun d => d.parameters.length) = some 1 := by decide +kernel
theorem hdc_X6_join : yX6_join.cls ≠ "java/lang/invoke/MethodHandle" ∧ yX6_join.cls ≠ "java/lang/invoke/VarHandle" ∧ (parseMethodDescriptor yX6_join.desc).map (fun d => d.parameters.length) = some 1 := by decide +kernel
theorem hdc_X6_keepCycle : yX6_keepCycle.cls ≠ "java/lang/invoke/MethodHandle" ∧ yX6_keepCycle.cls ≠ "java/lang/invoke/VarHandle" ∧ (parseMethodDescriptor yX6_keepCycle.desc).map (fun d => d.parameters.length) = some 1 := by decide +kernel
theorem hdc_X6_keepEvent : yX6_keepEvent.cls ≠ "java/lang/invoke/MethodHandle" ∧ yX6_keepEvent.cls ≠ "java/lang/invoke/VarHandle" ∧ (parseMethodDescriptor yX6_keepEvent.desc).map (fun d => d.parameters.length) = some 1 := by decide +kernel
theorem hdc_X6_keepOn : yX6_keepOn.cls ≠ "java/lang/invoke/MethodHandle" ∧ yX6_keepOn.cls ≠ "java/lang/invoke/VarHandle" ∧ (parseMethodDescriptor yX6_keepOn.desc).map (fun d => d.parameters.length) = some 1 := by decide +kernel
theorem hdc_X6_lay : yX6_lay.cls ≠ "java/lang/invoke/MethodHandle" ∧ yX6_lay.cls ≠ "java/lang/invoke/VarHandle" ∧ (parseMethodDescriptor yX6_lay.desc).map (fun d => d.parameters.length) = some 1 := by decide +kernel
theorem hdc_X6_laySenders : yX6_laySenders.cls ≠ "java/lang/invoke/MethodHandle" ∧ yX6_laySenders.cls ≠ "java/lang/invoke/VarHandle" ∧ (parseMethodDescriptor yX6_laySenders.desc).map (fun d => d.parameters.length) = some 0 := by decide +kernel
theorem hdc_X6_lead : yX6_lead.cls ≠ "java/lang/invoke/MethodHandle" ∧ yX6_lead.cls ≠ "java/lang/invoke/VarHandle" ∧ (parseMethodDescriptor yX6_lead.desc).map (fun d => d.parameters.length) = some 1 := by decide +kernel
theorem hdc_X6_listen : yX6_listen.cls ≠ "java/lang/invoke/MethodHandle" ∧ yX6_listen.cls ≠ "java/lang/invoke/VarHandle" ∧ (parseMethodDescriptor yX6_listen.desc).map (fun d => d.parameters.length) = some 1 := by decide +kernel
theorem hdc_X6_otherSign : yX6_otherSign.cls ≠ "java/lang/invoke/MethodHandle" ∧ yX6_otherSign.cls ≠ "java/lang/invoke/VarHandle" ∧ (parseMethodDescriptor yX6_otherSign.desc).map (fun d => d.parameters.length) = some 1 := by decide +kernel
theorem hdc_X6_plain : yX6_plain.cls ≠ "java/lang/invoke/MethodHandle" ∧ yX6_plain.cls ≠ "java/lang/invoke/VarHandle" ∧ (parseMethodDescriptor yX6_plain.desc).map (fun d => d.parameters.length) = some 1 := by decide +kernel
theorem hdc_X6_trimChanged : yX6_trimChanged.cls ≠ "java/lang/invoke/MethodHandle" ∧ yX6_trimChanged.cls ≠ "java/lang/invoke/VarHandle" ∧ (parseMethodDescriptor yX6_trimChanged.desc).map (fun d => d.parameters.length) = some 1 := by decide +kernel
theorem hdc_X6_trimSeen : yX6_trimSeen.cls ≠ "java/lang/invoke/MethodHandle" ∧ yX6_trimSeen.cls ≠ "java/lang/invoke/VarHandle" ∧ (parseMethodDescriptor yX6_trimSeen.desc).map (fun d => d.parameters.length) = some 1 := by decide +kernel
theorem hdc_X6_trimmed : yX6_trimmed.cls ≠ "java/lang/invoke/MethodHandle" ∧ yX6_trimmed.cls ≠ "java/lang/invoke/VarHandle" ∧ (parseMethodDescriptor yX6_trimmed.desc).map (fun d => d.parameters.length) = some 0 := by decide +kernel
def wp_X6_hear_b177 (a1 : Int32) (q : Mem → Prop) (K : Int32 → Mem → Prop) (b2 : Int32) (μ : Mem) : Prop :=
K (b2 + 1) μ
def wp_X6_hear_b176 (a1 : Int32) (q : Mem → Prop) (K : Int32 → Mem → Prop) (b2 : Int32) (u0 : Nat) (t1 : Int32) (t2 : Int32) (μ : Mem) : Prop :=
vp_in t1 6 ∧ ∀ m_1 : Mem, m_1 = ms μ 30 u0 (t1 : Int32).toNatClampNeg t2 →
wp_X6_hear_b177 a1 q K b2 m_1
def wp_X6_hear_b166 (a1 : Int32) (q : Mem → Prop) (K : Int32 → Mem → Prop) (b2 : Int32) (u0 : Nat) (t1 : Int32) (μ : Mem) : Prop :=
wp_X6_hear_b176 a1 q K b2 u0 t1 b2 μ
def wp_X6_hear_l24 (a1 : Int32) (q : Mem → Prop) : Nat → Int32 → Mem → Prop
  | 0 => fun _ _ => False
  | n + 1 => fun b2 μ =>
(((nI 6) ≤ b2 →
q μ) ∧ (¬ (nI 6) ≤ b2 →
wp_X6_isOut a1 μ (fun x_2 m_1 =>
((¬ x_2 = 0 →
q m_1) ∧ (x_2 = 0 →
((b2 = a1 →
wp_X6_hear_b177 a1 q (wp_X6_hear_l24 a1 q n) b2 m_1) ∧ (¬ b2 = a1 →
vp_in b2 6 ∧ ∀ x_3 : Int32, x_3 = m_1 24 0 (b2 : Int32).toNatClampNeg →
((x_3 = 0 →
wp_X6_hear_b177 a1 q (wp_X6_hear_l24 a1 q n) b2 m_1) ∧ (¬ x_3 = 0 →
vp_in a1 6 ∧ ∀ x_4 : Int32, x_4 = m_1 28 0 (a1 : Int32).toNatClampNeg →
vp_in a1 6 ∧ ∀ m_5 : Mem, m_5 = ms m_1 28 0 (a1 : Int32).toNatClampNeg (x_4 ||| (1 <<< (b2 &&& 31))) →
vp_in ((nI 60) + b2) 256 ∧ ∀ x_6 : Int32, x_6 = m_5 20 0 (((nI 60) + b2) : Int32).toNatClampNeg →
vp_in ((nI 24) + b2) 256 ∧ ∀ x_7 : Int32, x_7 = m_5 20 0 (((nI 24) + b2) : Int32).toNatClampNeg →
vp_in ((nI 60) + a1) 256 ∧ ∀ x_8 : Int32, x_8 = m_5 20 0 (((nI 60) + a1) : Int32).toNatClampNeg →
vp_in (((nI 6) * a1) + b2) 36 ∧ ∀ m_9 : Mem, m_9 = ms m_5 31 0 ((((nI 6) * a1) + b2) : Int32).toNatClampNeg ((x_6 + x_7) - x_8) →
vp_in (0 + b2) 256 ∧ ∀ x_10 : Int32, x_10 = m_9 20 0 ((0 + b2) : Int32).toNatClampNeg →
((¬ x_10 = 1 →
wp_X6_hear_b177 a1 q (wp_X6_hear_l24 a1 q n) b2 m_9) ∧ (x_10 = 1 →
vp_in a1 6 ∧ ∀ x_11 : Int32, x_11 = m_9 29 0 (a1 : Int32).toNatClampNeg →
vp_in a1 6 ∧ ∀ m_12 : Mem, m_12 = ms m_9 29 0 (a1 : Int32).toNatClampNeg (x_11 + 1) →
vp_in a1 6 ∧ ∀ x_13 : Int32, x_13 = m_12 30 0 (a1 : Int32).toNatClampNeg →
((x_13 < 0 →
wp_X6_hear_b166 a1 q (wp_X6_hear_l24 a1 q n) b2 0 a1 m_12) ∧ (¬ x_13 < 0 →
vp_in ((nI 6) + b2) 256 ∧ ∀ x_14 : Int32, x_14 = m_12 20 0 (((nI 6) + b2) : Int32).toNatClampNeg →
vp_in a1 6 ∧ ∀ x_15 : Int32, x_15 = m_12 30 0 (a1 : Int32).toNatClampNeg →
vp_in ((nI 6) + x_15) 256 ∧ ∀ x_16 : Int32, x_16 = m_12 20 0 (((nI 6) + x_15) : Int32).toNatClampNeg →
((x_16 ≤ x_14 →
vp_in a1 6 ∧ ∀ x_17 : Int32, x_17 = m_12 30 0 (a1 : Int32).toNatClampNeg →
wp_X6_hear_b176 a1 q (wp_X6_hear_l24 a1 q n) b2 0 a1 x_17 m_12) ∧ (¬ x_16 ≤ x_14 →
wp_X6_hear_b166 a1 q (wp_X6_hear_l24 a1 q n) b2 0 a1 m_12)))))))))))))))
def wp_X6_hear (a1 : Int32) (μ : Mem) (q : Mem → Prop) : Prop :=
vp_in a1 6 ∧ ∀ m_1 : Mem, m_1 = ms μ 28 0 (a1 : Int32).toNatClampNeg 0 →
vp_in a1 6 ∧ ∀ m_2 : Mem, m_2 = ms m_1 29 0 (a1 : Int32).toNatClampNeg 0 →
vp_in a1 6 ∧ ∀ m_3 : Mem, m_3 = ms m_2 30 0 (a1 : Int32).toNatClampNeg (-6) →
∃ n : Nat, wp_X6_hear_l24 a1 q n 0 m_3
set_option maxRecDepth 100000 in
set_option maxHeartbeats 4000000 in
theorem c_X6_hear (l : Launch) (g : GG) (hI : Inj g) (μ : Mem) (a1 : Int32) (q : Mem → Prop) (h : wp_X6_hear a1 μ q) : Met l yX6_hear (Cond.code yX6_hear cX6_hear 3 none :: wsL_law) ({ frames := 2, cells := 0, slots := 0, locals := 43 }) (KP g [.ref (g.1 6 0), .int a1] μ) (KQv g q) 0 0 (AA g) := by
  refine met_V (own := RX6) hI (by decide) rfl (Nat.le_of_ble_eq_true rfl) rfl (fun p e s m args below meth c X hr hlk => ?_)
  have L24 : ∀ (n : Nat) (b2 : Int32) (μ : Mem), wp_X6_hear_l24 a1 q n b2 μ → V p l e ({ frames := 2, cells := 0, slots := 0, locals := 43 }) s m args below meth c 3 g (AA g) 0 0 (MQ below (KQv g q) args s 0 0 (AA g)) μ 24 [(0, .ref (g.1 6 0)), (1, .int a1), (2, .int b2)] [] := by
    intro n
    induction n with
    | zero => intro b2 μ h; exact h.elim
    | succ n ih =>
      have B177 : ∀ (b2 : Int32) (μ : Mem), wp_X6_hear_b177 a1 q (wp_X6_hear_l24 a1 q n) b2 μ → V p l e ({ frames := 2, cells := 0, slots := 0, locals := 43 }) s m args below meth c 3 g (AA g) 0 0 (MQ below (KQv g q) args s 0 0 (AA g)) μ 177 [(0, .ref (g.1 6 0)), (1, .int a1), (2, .int b2)] [] := by
        intro b2 μ h
        unfold wp_X6_hear_b177 at h
        refine v_iinc (pc := 177) (lv' := [(2, .int (b2 + 1)), (0, .ref (g.1 6 0)), (1, .int a1)]) (j := 2) X rfl (congrArg (HAdd.hAdd _) cst_i_1) (by decide) rfl dX6_hear_177 ?_
        refine v_goto (pc := 180) (tgt := 24) X dX6_hear_180 (by decide) ?_
        refine v_sub [1, 2, 0] rfl ?_
        exact ih _ _ h
      have B176 : ∀ (b2 : Int32) (u0 : Nat) (hu0 : u0 < 1) (t1 : Int32) (t2 : Int32) (μ : Mem), wp_X6_hear_b176 a1 q (wp_X6_hear_l24 a1 q n) b2 u0 t1 t2 μ → V p l e ({ frames := 2, cells := 0, slots := 0, locals := 43 }) s m args below meth c 3 g (AA g) 0 0 (MQ below (KQv g q) args s 0 0 (AA g)) μ 176 [(0, .ref (g.1 6 0)), (1, .int a1), (2, .int b2)] [.int t2, .int t1, .ref (g.1 30 u0)] := by
        intro b2 u0 hu0 t1 t2 μ h
        unfold wp_X6_hear_b176 at h
        refine as_30 (pc := 176) X hu0 h dX6_hear_176 (fun m_1 h => ?_)
        exact B177 _ _ h
      have B166 : ∀ (b2 : Int32) (u0 : Nat) (hu0 : u0 < 1) (t1 : Int32) (μ : Mem), wp_X6_hear_b166 a1 q (wp_X6_hear_l24 a1 q n) b2 u0 t1 μ → V p l e ({ frames := 2, cells := 0, slots := 0, locals := 43 }) s m args below meth c 3 g (AA g) 0 0 (MQ below (KQv g q) args s 0 0 (AA g)) μ 166 [(0, .ref (g.1 6 0)), (1, .int a1), (2, .int b2)] [.int t1, .ref (g.1 30 u0)] := by
        intro b2 u0 hu0 t1 μ h
        unfold wp_X6_hear_b166 at h
        refine v_iload_n (pc := 166) X rfl 2 rfl dX6_hear_166 ?_
        refine v_goto (pc := 167) (tgt := 176) X dX6_hear_167 (by decide) ?_
        exact B176 _ _ hu0 _ _ _ h
      intro b2 μ h
      unfold wp_X6_hear_l24 at h
      refine v_iload_n (pc := 24) X rfl 2 rfl dX6_hear_24 ?_
      refine v_bipush (pc := 25) X cst_b_6 dX6_hear_25 ?_
      refine v_icmp_ge (pc := 27) (tgt := 183) X h dX6_hear_27 (by decide) (fun h => ?_) (fun h => ?_)
      · exact v_vret (pc := 183) X hr hlk h dX6_hear_183
      · refine v_aload_n (pc := 30) X rfl 0 rfl dX6_hear_30 ?_
        refine v_iload_n (pc := 31) X rfl 1 rfl dX6_hear_31 ?_
        refine v_callVi (pc := 32) X (c_X6_isOut l g hI _ _ _ h) wd_199 wd_196 wd_197 wd_198 wd_5 ⟨rfl, rfl⟩ hdc_X6_isOut ⟨Nat.le_of_ble_eq_true rfl, Nat.le_of_ble_eq_true rfl⟩ ⟨Nat.le_refl 0, Nat.le_refl 0⟩ Nat.one_pos rfl rfl (As := [.int a1]) rfl rfl (Nat.le_of_ble_eq_true rfl) dX6_hear_32 (fun x_2 m_1 h => ?_)
        refine v_if_ne (pc := 35) (tgt := 183) X h dX6_hear_35 (by decide) (fun h => ?_) (fun h => ?_)
        · exact v_vret (pc := 183) X hr hlk h dX6_hear_183
        · refine v_iload_n (pc := 38) X rfl 2 rfl dX6_hear_38 ?_
          refine v_iload_n (pc := 39) X rfl 1 rfl dX6_hear_39 ?_
          refine v_icmp_eq (pc := 40) (tgt := 177) X h dX6_hear_40 (by decide) (fun h => ?_) (fun h => ?_)
          · exact B177 _ _ h
          · refine v_aload_n (pc := 43) X rfl 0 rfl dX6_hear_43 ?_
            refine gf_6_5 (pc := 44) X Nat.one_pos wd_96 dX6_hear_44 ?_
            refine v_iload_n (pc := 47) X rfl 2 rfl dX6_hear_47 ?_
            refine al_24 (pc := 48) X Nat.one_pos h dX6_hear_48 (fun x_3 h => ?_)
            refine v_if_eq (pc := 49) (tgt := 177) X h dX6_hear_49 (by decide) (fun h => ?_) (fun h => ?_)
            · exact B177 _ _ h
            · refine v_aload_n (pc := 52) X rfl 0 rfl dX6_hear_52 ?_
              refine gf_6_9 (pc := 53) X Nat.one_pos wd_100 dX6_hear_53 ?_
              refine v_iload_n (pc := 56) X rfl 1 rfl dX6_hear_56 ?_
              refine v_dup2 (pc := 57) X rfl rfl dX6_hear_57 ?_
              refine al_28 (pc := 58) X Nat.one_pos h dX6_hear_58 (fun x_4 h => ?_)
              refine v_iconst (pc := 59) X cst_i_1 dX6_hear_59 ?_
              refine v_iload_n (pc := 60) X rfl 2 rfl dX6_hear_60 ?_
              refine v_ishl (pc := 61) X dX6_hear_61 ?_
              refine v_ior (pc := 62) X dX6_hear_62 ?_
              refine as_28 (pc := 63) X Nat.one_pos h dX6_hear_63 (fun m_5 h => ?_)
              refine v_aload_n (pc := 64) X rfl 0 rfl dX6_hear_64 ?_
              refine gf_6_12 (pc := 65) X Nat.one_pos wd_103 dX6_hear_65 ?_
              refine v_bipush (pc := 68) X cst_b_6 dX6_hear_68 ?_
              refine v_iload_n (pc := 70) X rfl 1 rfl dX6_hear_70 ?_
              refine v_imul (pc := 71) X dX6_hear_71 ?_
              refine v_iload_n (pc := 72) X rfl 2 rfl dX6_hear_72 ?_
              refine v_iadd (pc := 73) X dX6_hear_73 ?_
              refine v_aload_n (pc := 74) X rfl 0 rfl dX6_hear_74 ?_
              refine gf_6_0 (pc := 75) X Nat.one_pos wd_91 dX6_hear_75 ?_
              refine v_bipush (pc := 78) X cst_b_60 dX6_hear_78 ?_
              refine v_iload_n (pc := 80) X rfl 2 rfl dX6_hear_80 ?_
              refine v_iadd (pc := 81) X dX6_hear_81 ?_
              refine al_20 (pc := 82) X Nat.one_pos h dX6_hear_82 (fun x_6 h => ?_)
              refine v_aload_n (pc := 83) X rfl 0 rfl dX6_hear_83 ?_
              refine gf_6_0 (pc := 84) X Nat.one_pos wd_91 dX6_hear_84 ?_
              refine v_bipush (pc := 87) X cst_b_24 dX6_hear_87 ?_
              refine v_iload_n (pc := 89) X rfl 2 rfl dX6_hear_89 ?_
              refine v_iadd (pc := 90) X dX6_hear_90 ?_
              refine al_20 (pc := 91) X Nat.one_pos h dX6_hear_91 (fun x_7 h => ?_)
              refine v_iadd (pc := 92) X dX6_hear_92 ?_
              refine v_aload_n (pc := 93) X rfl 0 rfl dX6_hear_93 ?_
              refine gf_6_0 (pc := 94) X Nat.one_pos wd_91 dX6_hear_94 ?_
              refine v_bipush (pc := 97) X cst_b_60 dX6_hear_97 ?_
              refine v_iload_n (pc := 99) X rfl 1 rfl dX6_hear_99 ?_
              refine v_iadd (pc := 100) X dX6_hear_100 ?_
              refine al_20 (pc := 101) X Nat.one_pos h dX6_hear_101 (fun x_8 h => ?_)
              refine v_isub (pc := 102) X dX6_hear_102 ?_
              refine as_31 (pc := 103) X Nat.one_pos h dX6_hear_103 (fun m_9 h => ?_)
              refine v_aload_n (pc := 104) X rfl 0 rfl dX6_hear_104 ?_
              refine gf_6_0 (pc := 105) X Nat.one_pos wd_91 dX6_hear_105 ?_
              refine v_iconst (pc := 108) X cst_i_0 dX6_hear_108 ?_
              refine v_iload_n (pc := 109) X rfl 2 rfl dX6_hear_109 ?_
              refine v_iadd (pc := 110) X dX6_hear_110 ?_
              refine al_20 (pc := 111) X Nat.one_pos h dX6_hear_111 (fun x_10 h => ?_)
              refine v_iconst (pc := 112) X cst_i_1 dX6_hear_112 ?_
              refine v_icmp_ne (pc := 113) (tgt := 177) X h dX6_hear_113 (by decide) (fun h => ?_) (fun h => ?_)
              · exact B177 _ _ h
              · refine v_aload_n (pc := 116) X rfl 0 rfl dX6_hear_116 ?_
                refine gf_6_10 (pc := 117) X Nat.one_pos wd_101 dX6_hear_117 ?_
                refine v_iload_n (pc := 120) X rfl 1 rfl dX6_hear_120 ?_
                refine v_dup2 (pc := 121) X rfl rfl dX6_hear_121 ?_
                refine al_29 (pc := 122) X Nat.one_pos h dX6_hear_122 (fun x_11 h => ?_)
                refine v_iconst (pc := 123) X cst_i_1 dX6_hear_123 ?_
                refine v_iadd (pc := 124) X dX6_hear_124 ?_
                refine as_29 (pc := 125) X Nat.one_pos h dX6_hear_125 (fun m_12 h => ?_)
                refine v_aload_n (pc := 126) X rfl 0 rfl dX6_hear_126 ?_
                refine gf_6_11 (pc := 127) X Nat.one_pos wd_102 dX6_hear_127 ?_
                refine v_iload_n (pc := 130) X rfl 1 rfl dX6_hear_130 ?_
                refine v_aload_n (pc := 131) X rfl 0 rfl dX6_hear_131 ?_
                refine gf_6_11 (pc := 132) X Nat.one_pos wd_102 dX6_hear_132 ?_
                refine v_iload_n (pc := 135) X rfl 1 rfl dX6_hear_135 ?_
                refine al_30 (pc := 136) X Nat.one_pos h dX6_hear_136 (fun x_13 h => ?_)
                refine v_if_lt (pc := 137) (tgt := 166) X h dX6_hear_137 (by decide) (fun h => ?_) (fun h => ?_)
                · exact B166 _ _ Nat.one_pos _ _ h
                · refine v_aload_n (pc := 140) X rfl 0 rfl dX6_hear_140 ?_
                  refine gf_6_0 (pc := 141) X Nat.one_pos wd_91 dX6_hear_141 ?_
                  refine v_bipush (pc := 144) X cst_b_6 dX6_hear_144 ?_
                  refine v_iload_n (pc := 146) X rfl 2 rfl dX6_hear_146 ?_
                  refine v_iadd (pc := 147) X dX6_hear_147 ?_
                  refine al_20 (pc := 148) X Nat.one_pos h dX6_hear_148 (fun x_14 h => ?_)
                  refine v_aload_n (pc := 149) X rfl 0 rfl dX6_hear_149 ?_
                  refine gf_6_0 (pc := 150) X Nat.one_pos wd_91 dX6_hear_150 ?_
                  refine v_bipush (pc := 153) X cst_b_6 dX6_hear_153 ?_
                  refine v_aload_n (pc := 155) X rfl 0 rfl dX6_hear_155 ?_
                  refine gf_6_11 (pc := 156) X Nat.one_pos wd_102 dX6_hear_156 ?_
                  refine v_iload_n (pc := 159) X rfl 1 rfl dX6_hear_159 ?_
                  refine al_30 (pc := 160) X Nat.one_pos h dX6_hear_160 (fun x_15 h => ?_)
                  refine v_iadd (pc := 161) X dX6_hear_161 ?_
                  refine al_20 (pc := 162) X Nat.one_pos h dX6_hear_162 (fun x_16 h => ?_)
                  refine v_icmp_ge (pc := 163) (tgt := 170) X h dX6_hear_163 (by decide) (fun h => ?_) (fun h => ?_)
                  · refine v_aload_n (pc := 170) X rfl 0 rfl dX6_hear_170 ?_
                    refine gf_6_11 (pc := 171) X Nat.one_pos wd_102 dX6_hear_171 ?_
                    refine v_iload_n (pc := 174) X rfl 1 rfl dX6_hear_174 ?_
                    refine al_30 (pc := 175) X Nat.one_pos h dX6_hear_175 (fun x_17 h => ?_)
                    exact B176 _ _ Nat.one_pos _ _ _ h
                  · exact B166 _ _ Nat.one_pos _ _ h
  unfold wp_X6_hear at h
  refine v_aload_n (pc := 0) X rfl 0 rfl dX6_hear_0 ?_
  refine gf_6_9 (pc := 1) X Nat.one_pos wd_100 dX6_hear_1 ?_
  refine v_iload_n (pc := 4) X rfl 1 rfl dX6_hear_4 ?_
  refine v_iconst (pc := 5) X cst_i_0 dX6_hear_5 ?_
  refine as_28 (pc := 6) X Nat.one_pos h dX6_hear_6 (fun m_1 h => ?_)
  refine v_aload_n (pc := 7) X rfl 0 rfl dX6_hear_7 ?_
  refine gf_6_10 (pc := 8) X Nat.one_pos wd_101 dX6_hear_8 ?_
  refine v_iload_n (pc := 11) X rfl 1 rfl dX6_hear_11 ?_
  refine v_iconst (pc := 12) X cst_i_0 dX6_hear_12 ?_
  refine as_29 (pc := 13) X Nat.one_pos h dX6_hear_13 (fun m_2 h => ?_)
  refine v_aload_n (pc := 14) X rfl 0 rfl dX6_hear_14 ?_
  refine gf_6_11 (pc := 15) X Nat.one_pos wd_102 dX6_hear_15 ?_
  refine v_iload_n (pc := 18) X rfl 1 rfl dX6_hear_18 ?_
  refine v_bipush (pc := 19) X cst_b_m6 dX6_hear_19 ?_
  refine as_30 (pc := 21) X Nat.one_pos h dX6_hear_21 (fun m_3 h => ?_)
  refine v_iconst (pc := 22) X cst_i_0 dX6_hear_22 ?_
  refine v_istore_n (pc := 23) (lv' := [(2, .int 0), (0, .ref (g.1 6 0)), (1, .int a1)]) X rfl (by decide) rfl dX6_hear_23 ?_
  refine v_sub [1, 2, 0] rfl ?_
  obtain ⟨n, h⟩ := h
  exact L24 n _ _ h

def wp_X6_keepEvent_b59 (a1 : Int32) (q : Mem → Prop)  (μ : Mem) : Prop :=
vp_in (nI 135) 256 ∧ ∀ x_1 : Int32, x_1 = μ 20 0 ((nI 135) : Int32).toNatClampNeg →
∀ y_2 : Int32, y_2 = ((nI 136) + ((nI 3) * x_1)) →
vp_in (nI 133) 256 ∧ ∀ x_3 : Int32, x_3 = μ 20 0 ((nI 133) : Int32).toNatClampNeg →
vp_in y_2 256 ∧ ∀ m_4 : Mem, m_4 = ms μ 20 0 (y_2 : Int32).toNatClampNeg x_3 →
vp_in (y_2 + 1) 256 ∧ ∀ m_5 : Mem, m_5 = ms m_4 20 0 ((y_2 + 1) : Int32).toNatClampNeg a1 →
vp_in ((nI 30) + a1) 256 ∧ ∀ x_6 : Int32, x_6 = m_5 20 0 (((nI 30) + a1) : Int32).toNatClampNeg →
vp_in (y_2 + (nI 2)) 256 ∧ ∀ m_7 : Mem, m_7 = ms m_5 20 0 ((y_2 + (nI 2)) : Int32).toNatClampNeg x_6 →
vp_in (nI 135) 256 ∧ ∀ x_8 : Int32, x_8 = m_7 20 0 ((nI 135) : Int32).toNatClampNeg →
vp_in (nI 135) 256 ∧ ∀ m_9 : Mem, m_9 = ms m_7 20 0 ((nI 135) : Int32).toNatClampNeg (x_8 + 1) →
q m_9
def wp_X6_keepEvent_l15 (a1 : Int32) (q : Mem → Prop) : Nat → Int32 → Mem → Prop
  | 0 => fun _ _ => False
  | n + 1 => fun b2 μ =>
(((nI 117) ≤ b2 →
vp_in (nI 135) 256 ∧ ∀ x_1 : Int32, x_1 = μ 20 0 ((nI 135) : Int32).toNatClampNeg →
vp_in (nI 135) 256 ∧ ∀ m_2 : Mem, m_2 = ms μ 20 0 ((nI 135) : Int32).toNatClampNeg (x_1 - 1) →
wp_X6_keepEvent_b59 a1 q  m_2) ∧ (¬ (nI 117) ≤ b2 →
vp_in ((nI 139) + b2) 256 ∧ ∀ x_3 : Int32, x_3 = μ 20 0 (((nI 139) + b2) : Int32).toNatClampNeg →
vp_in ((nI 136) + b2) 256 ∧ ∀ m_4 : Mem, m_4 = ms μ 20 0 (((nI 136) + b2) : Int32).toNatClampNeg x_3 →
wp_X6_keepEvent_l15 a1 q n (b2 + 1) m_4))
def wp_X6_keepEvent (a1 : Int32) (μ : Mem) (q : Mem → Prop) : Prop :=
vp_in (nI 135) 256 ∧ ∀ x_1 : Int32, x_1 = μ 20 0 ((nI 135) : Int32).toNatClampNeg →
((¬ x_1 = (nI 40) →
wp_X6_keepEvent_b59 a1 q  μ) ∧ (x_1 = (nI 40) →
∃ n : Nat, wp_X6_keepEvent_l15 a1 q n 0 μ))
set_option maxRecDepth 100000 in
set_option maxHeartbeats 4000000 in
theorem c_X6_keepEvent (l : Launch) (g : GG) (hI : Inj g) (μ : Mem) (a1 : Int32) (q : Mem → Prop) (h : wp_X6_keepEvent a1 μ q) : Met l yX6_keepEvent (Cond.code yX6_keepEvent cX6_keepEvent 3 none :: wsL_law) ({ frames := 0, cells := 0, slots := 0, locals := 0 }) (KP g [.ref (g.1 6 0), .int a1] μ) (KQv g q) 0 0 (AA g) := by
  refine met_V (own := RX6) hI (by decide) rfl (Nat.le_of_ble_eq_true rfl) rfl (fun p e s m args below meth c X hr hlk => ?_)
  have B59 : ∀  (μ : Mem), wp_X6_keepEvent_b59 a1 q  μ → V p l e ({ frames := 0, cells := 0, slots := 0, locals := 0 }) s m args below meth c 3 g (AA g) 0 0 (MQ below (KQv g q) args s 0 0 (AA g)) μ 59 [(0, .ref (g.1 6 0)), (1, .int a1)] [] := by
    intro  μ h
    unfold wp_X6_keepEvent_b59 at h
    refine v_sipush (pc := 59) X cst_s_136 dX6_keepEvent_59 ?_
    refine v_iconst (pc := 62) X cst_i_3 dX6_keepEvent_62 ?_
    refine v_aload_n (pc := 63) X rfl 0 rfl dX6_keepEvent_63 ?_
    refine gf_6_0 (pc := 64) X Nat.one_pos wd_91 dX6_keepEvent_64 ?_
    refine v_sipush (pc := 67) X cst_s_135 dX6_keepEvent_67 ?_
    refine al_20 (pc := 70) X Nat.one_pos h dX6_keepEvent_70 (fun x_1 h => ?_)
    refine v_imul (pc := 71) X dX6_keepEvent_71 ?_
    refine v_iadd (pc := 72) X dX6_keepEvent_72 ?_
    refine v_nm h (fun y_2 h => ?_)
    refine v_istore_n (pc := 73) (lv' := [(2, .int y_2), (0, .ref (g.1 6 0)), (1, .int a1)]) X rfl (by decide) rfl dX6_keepEvent_73 ?_
    refine v_aload_n (pc := 74) X rfl 1 rfl dX6_keepEvent_74 ?_
    refine gf_6_0 (pc := 75) X Nat.one_pos wd_91 dX6_keepEvent_75 ?_
    refine v_iload_n (pc := 78) X rfl 0 rfl dX6_keepEvent_78 ?_
    refine v_aload_n (pc := 79) X rfl 1 rfl dX6_keepEvent_79 ?_
    refine gf_6_0 (pc := 80) X Nat.one_pos wd_91 dX6_keepEvent_80 ?_
    refine v_sipush (pc := 83) X cst_s_133 dX6_keepEvent_83 ?_
    refine al_20 (pc := 86) X Nat.one_pos h dX6_keepEvent_86 (fun x_3 h => ?_)
    refine as_20 (pc := 87) X Nat.one_pos h dX6_keepEvent_87 (fun m_4 h => ?_)
    refine v_aload_n (pc := 88) X rfl 1 rfl dX6_keepEvent_88 ?_
    refine gf_6_0 (pc := 89) X Nat.one_pos wd_91 dX6_keepEvent_89 ?_
    refine v_iload_n (pc := 92) X rfl 0 rfl dX6_keepEvent_92 ?_
    refine v_iconst (pc := 93) X cst_i_1 dX6_keepEvent_93 ?_
    refine v_iadd (pc := 94) X dX6_keepEvent_94 ?_
    refine v_iload_n (pc := 95) X rfl 2 rfl dX6_keepEvent_95 ?_
    refine as_20 (pc := 96) X Nat.one_pos h dX6_keepEvent_96 (fun m_5 h => ?_)
    refine v_aload_n (pc := 97) X rfl 1 rfl dX6_keepEvent_97 ?_
    refine gf_6_0 (pc := 98) X Nat.one_pos wd_91 dX6_keepEvent_98 ?_
    refine v_iload_n (pc := 101) X rfl 0 rfl dX6_keepEvent_101 ?_
    refine v_iconst (pc := 102) X cst_i_2 dX6_keepEvent_102 ?_
    refine v_iadd (pc := 103) X dX6_keepEvent_103 ?_
    refine v_aload_n (pc := 104) X rfl 1 rfl dX6_keepEvent_104 ?_
    refine gf_6_0 (pc := 105) X Nat.one_pos wd_91 dX6_keepEvent_105 ?_
    refine v_bipush (pc := 108) X cst_b_30 dX6_keepEvent_108 ?_
    refine v_iload_n (pc := 110) X rfl 2 rfl dX6_keepEvent_110 ?_
    refine v_iadd (pc := 111) X dX6_keepEvent_111 ?_
    refine al_20 (pc := 112) X Nat.one_pos h dX6_keepEvent_112 (fun x_6 h => ?_)
    refine as_20 (pc := 113) X Nat.one_pos h dX6_keepEvent_113 (fun m_7 h => ?_)
    refine v_aload_n (pc := 114) X rfl 1 rfl dX6_keepEvent_114 ?_
    refine gf_6_0 (pc := 115) X Nat.one_pos wd_91 dX6_keepEvent_115 ?_
    refine v_sipush (pc := 118) X cst_s_135 dX6_keepEvent_118 ?_
    refine v_dup2 (pc := 121) X rfl rfl dX6_keepEvent_121 ?_
    refine al_20 (pc := 122) X Nat.one_pos h dX6_keepEvent_122 (fun x_8 h => ?_)
    refine v_iconst (pc := 123) X cst_i_1 dX6_keepEvent_123 ?_
    refine v_iadd (pc := 124) X dX6_keepEvent_124 ?_
    refine as_20 (pc := 125) X Nat.one_pos h dX6_keepEvent_125 (fun m_9 h => ?_)
    exact v_vret (pc := 126) X hr hlk h dX6_keepEvent_126
  have L15 : ∀ (n : Nat) (b2 : Int32) (μ : Mem), wp_X6_keepEvent_l15 a1 q n b2 μ → V p l e ({ frames := 0, cells := 0, slots := 0, locals := 0 }) s m args below meth c 3 g (AA g) 0 0 (MQ below (KQv g q) args s 0 0 (AA g)) μ 15 [(0, .ref (g.1 6 0)), (1, .int a1), (2, .int b2)] [] := by
    intro n
    induction n with
    | zero => intro b2 μ h; exact h.elim
    | succ n ih =>
      intro b2 μ h
      unfold wp_X6_keepEvent_l15 at h
      refine v_iload_n (pc := 15) X rfl 2 rfl dX6_keepEvent_15 ?_
      refine v_bipush (pc := 16) X cst_b_117 dX6_keepEvent_16 ?_
      refine v_icmp_ge (pc := 18) (tgt := 47) X h dX6_keepEvent_18 (by decide) (fun h => ?_) (fun h => ?_)
      · refine v_aload_n (pc := 47) X rfl 0 rfl dX6_keepEvent_47 ?_
        refine gf_6_0 (pc := 48) X Nat.one_pos wd_91 dX6_keepEvent_48 ?_
        refine v_sipush (pc := 51) X cst_s_135 dX6_keepEvent_51 ?_
        refine v_dup2 (pc := 54) X rfl rfl dX6_keepEvent_54 ?_
        refine al_20 (pc := 55) X Nat.one_pos h dX6_keepEvent_55 (fun x_1 h => ?_)
        refine v_iconst (pc := 56) X cst_i_1 dX6_keepEvent_56 ?_
        refine v_isub (pc := 57) X dX6_keepEvent_57 ?_
        refine as_20 (pc := 58) X Nat.one_pos h dX6_keepEvent_58 (fun m_2 h => ?_)
        refine v_sub [0, 1] rfl ?_
        exact B59  _ h
      · refine v_aload_n (pc := 21) X rfl 0 rfl dX6_keepEvent_21 ?_
        refine gf_6_0 (pc := 22) X Nat.one_pos wd_91 dX6_keepEvent_22 ?_
        refine v_sipush (pc := 25) X cst_s_136 dX6_keepEvent_25 ?_
        refine v_iload_n (pc := 28) X rfl 2 rfl dX6_keepEvent_28 ?_
        refine v_iadd (pc := 29) X dX6_keepEvent_29 ?_
        refine v_aload_n (pc := 30) X rfl 0 rfl dX6_keepEvent_30 ?_
        refine gf_6_0 (pc := 31) X Nat.one_pos wd_91 dX6_keepEvent_31 ?_
        refine v_sipush (pc := 34) X cst_s_139 dX6_keepEvent_34 ?_
        refine v_iload_n (pc := 37) X rfl 2 rfl dX6_keepEvent_37 ?_
        refine v_iadd (pc := 38) X dX6_keepEvent_38 ?_
        refine al_20 (pc := 39) X Nat.one_pos h dX6_keepEvent_39 (fun x_3 h => ?_)
        refine as_20 (pc := 40) X Nat.one_pos h dX6_keepEvent_40 (fun m_4 h => ?_)
        refine v_iinc (pc := 41) (lv' := [(2, .int (b2 + 1)), (0, .ref (g.1 6 0)), (1, .int a1)]) (j := 2) X rfl (congrArg (HAdd.hAdd _) cst_i_1) (by decide) rfl dX6_keepEvent_41 ?_
        refine v_goto (pc := 44) (tgt := 15) X dX6_keepEvent_44 (by decide) ?_
        refine v_sub [1, 2, 0] rfl ?_
        exact ih _ _ h
  unfold wp_X6_keepEvent at h
  refine v_aload_n (pc := 0) X rfl 0 rfl dX6_keepEvent_0 ?_
  refine gf_6_0 (pc := 1) X Nat.one_pos wd_91 dX6_keepEvent_1 ?_
  refine v_sipush (pc := 4) X cst_s_135 dX6_keepEvent_4 ?_
  refine al_20 (pc := 7) X Nat.one_pos h dX6_keepEvent_7 (fun x_1 h => ?_)
  refine v_bipush (pc := 8) X cst_b_40 dX6_keepEvent_8 ?_
  refine v_icmp_ne (pc := 10) (tgt := 59) X h dX6_keepEvent_10 (by decide) (fun h => ?_) (fun h => ?_)
  · exact B59  _ h
  · refine v_iconst (pc := 13) X cst_i_0 dX6_keepEvent_13 ?_
    refine v_istore_n (pc := 14) (lv' := [(2, .int 0), (0, .ref (g.1 6 0)), (1, .int a1)]) X rfl (by decide) rfl dX6_keepEvent_14 ?_
    refine v_sub [1, 2, 0] rfl ?_
    obtain ⟨n, h⟩ := h
    exact L15 n _ _ h

def wp_X6_become (a1 : Int32) (a2 : Int32) (μ : Mem) (q : Mem → Prop) : Prop :=
wp_X6_begin a1 a2 μ (fun m_1 =>
nz 1 ∧ vp_in a1 6 ∧ ∀ m_2 : Mem, m_2 = ms m_1 27 0 (a1 : Int32).toNatClampNeg 1 →
wp_X6_keepEvent a1 m_2 (fun m_3 =>
q m_3))
set_option maxRecDepth 100000 in
set_option maxHeartbeats 4000000 in
theorem c_X6_become (l : Launch) (g : GG) (hI : Inj g) (μ : Mem) (a1 : Int32) (a2 : Int32) (q : Mem → Prop) (h : wp_X6_become a1 a2 μ q) : Met l yX6_become (Cond.code yX6_become cX6_become 3 none :: wsL_law) ({ frames := 1, cells := 0, slots := 0, locals := 22 }) (KP g [.ref (g.1 6 0), .int a1, .int a2] μ) (KQv g q) 0 0 (AA g) := by
  refine met_V (own := RX6) hI (by decide) rfl (Nat.le_of_ble_eq_true rfl) rfl (fun p e s m args below meth c X hr hlk => ?_)
  unfold wp_X6_become at h
  refine v_aload_n (pc := 0) X rfl 0 rfl dX6_become_0 ?_
  refine v_iload_n (pc := 1) X rfl 1 rfl dX6_become_1 ?_
  refine v_iload_n (pc := 2) X rfl 2 rfl dX6_become_2 ?_
  refine v_callVv (pc := 3) X (c_X6_begin l g hI _ _ _ _ h) wd_203 wd_200 wd_201 wd_202 wd_5 ⟨rfl, rfl⟩ hdc_X6_begin ⟨Nat.le_of_ble_eq_true rfl, Nat.le_of_ble_eq_true rfl⟩ ⟨Nat.le_refl 0, Nat.le_refl 0⟩ Nat.one_pos rfl rfl (As := [.int a1, .int a2]) rfl rfl (Nat.le_of_ble_eq_true rfl) dX6_become_3 (fun m_1 h => ?_)
  refine v_aload_n (pc := 6) X rfl 0 rfl dX6_become_6 ?_
  refine gf_6_8 (pc := 7) X Nat.one_pos wd_99 dX6_become_7 ?_
  refine v_iload_n (pc := 10) X rfl 1 rfl dX6_become_10 ?_
  refine v_iconst (pc := 11) X cst_i_1 dX6_become_11 ?_
  refine as_27 (pc := 12) X Nat.one_pos h dX6_become_12 (fun m_2 h => ?_)
  refine v_aload_n (pc := 13) X rfl 0 rfl dX6_become_13 ?_
  refine v_iload_n (pc := 14) X rfl 1 rfl dX6_become_14 ?_
  refine v_callVv (pc := 15) X (c_X6_keepEvent l g hI _ _ _ h) wd_391 wd_388 wd_389 wd_390 wd_5 ⟨rfl, rfl⟩ hdc_X6_keepEvent ⟨Nat.le_of_ble_eq_true rfl, Nat.le_of_ble_eq_true rfl⟩ ⟨Nat.le_refl 0, Nat.le_refl 0⟩ Nat.one_pos rfl rfl (As := [.int a1]) rfl rfl (Nat.le_of_ble_eq_true rfl) dX6_become_15 (fun m_3 h => ?_)
  exact v_vret (pc := 18) X hr hlk h dX6_become_18

def wp_X6_otherSign_b33 (a1 : Int32) (q : Int32 → Mem → Prop) (K : Int32 → Int32 → Mem → Prop) (b3 : Int32) (t0 : Int32) (μ : Mem) : Prop :=
K t0 (b3 + 1) μ
def wp_X6_otherSign_b28 (a1 : Int32) (q : Int32 → Mem → Prop) (K : Int32 → Int32 → Mem → Prop) (b3 : Int32) (μ : Mem) : Prop :=
wp_X6_otherSign_b33 a1 q K b3 1 μ
def wp_X6_otherSign_b32 (a1 : Int32) (q : Int32 → Mem → Prop) (K : Int32 → Int32 → Mem → Prop) (b3 : Int32) (μ : Mem) : Prop :=
wp_X6_otherSign_b33 a1 q K b3 0 μ
def wp_X6_otherSign_l4 (a1 : Int32) (q : Int32 → Mem → Prop) : Nat → Int32 → Int32 → Mem → Prop
  | 0 => fun _ _ _ => False
  | n + 1 => fun b2 b3 μ =>
(((nI 6) ≤ b3 →
nz b2 ∧ q b2 μ) ∧ (¬ (nI 6) ≤ b3 →
((¬ b2 = 0 →
wp_X6_otherSign_b28 a1 q (wp_X6_otherSign_l4 a1 q n) b3 μ) ∧ (b2 = 0 →
((b3 = a1 →
wp_X6_otherSign_b32 a1 q (wp_X6_otherSign_l4 a1 q n) b3 μ) ∧ (¬ b3 = a1 →
vp_in b3 6 ∧ ∀ x_1 : Int32, x_1 = μ 25 0 (b3 : Int32).toNatClampNeg →
((x_1 = 0 →
wp_X6_otherSign_b32 a1 q (wp_X6_otherSign_l4 a1 q n) b3 μ) ∧ (¬ x_1 = 0 →
wp_X6_otherSign_b28 a1 q (wp_X6_otherSign_l4 a1 q n) b3 μ))))))))
def wp_X6_otherSign (a1 : Int32) (μ : Mem) (q : Int32 → Mem → Prop) : Prop :=
∃ n : Nat, wp_X6_otherSign_l4 a1 q n 0 0 μ
set_option maxRecDepth 100000 in
set_option maxHeartbeats 4000000 in
theorem c_X6_otherSign (l : Launch) (g : GG) (hI : Inj g) (μ : Mem) (a1 : Int32) (q : Int32 → Mem → Prop) (h : wp_X6_otherSign a1 μ q) : Met l yX6_otherSign (Cond.code yX6_otherSign cX6_otherSign 4 (some .boolean) :: wsL_law) ({ frames := 0, cells := 0, slots := 0, locals := 0 }) (KP g [.ref (g.1 6 0), .int a1] μ) (KQi g q) 0 0 (AA g) := by
  refine met_V (own := RX6) hI (by decide) rfl (Nat.le_of_ble_eq_true rfl) rfl (fun p e s m args below meth c X hr hlk => ?_)
  have L4 : ∀ (n : Nat) (b2 : Int32) (b3 : Int32) (μ : Mem), wp_X6_otherSign_l4 a1 q n b2 b3 μ → V p l e ({ frames := 0, cells := 0, slots := 0, locals := 0 }) s m args below meth c 4 g (AA g) 0 0 (MQ below (KQi g q) args s 0 0 (AA g)) μ 4 [(0, .ref (g.1 6 0)), (1, .int a1), (2, .int b2), (3, .int b3)] [] := by
    intro n
    induction n with
    | zero => intro b2 b3 μ h; exact h.elim
    | succ n ih =>
      have B33 : ∀ (b3 : Int32) (t0 : Int32) (μ : Mem), wp_X6_otherSign_b33 a1 q (wp_X6_otherSign_l4 a1 q n) b3 t0 μ → V p l e ({ frames := 0, cells := 0, slots := 0, locals := 0 }) s m args below meth c 4 g (AA g) 0 0 (MQ below (KQi g q) args s 0 0 (AA g)) μ 33 [(0, .ref (g.1 6 0)), (1, .int a1), (3, .int b3)] [.int t0] := by
        intro b3 t0 μ h
        unfold wp_X6_otherSign_b33 at h
        refine v_istore_n (pc := 33) (lv' := [(2, .int t0), (0, .ref (g.1 6 0)), (1, .int a1), (3, .int b3)]) X rfl (by decide) rfl dX6_otherSign_33 ?_
        refine v_iinc (pc := 34) (lv' := [(3, .int (b3 + 1)), (2, .int t0), (0, .ref (g.1 6 0)), (1, .int a1)]) (j := 3) X rfl (congrArg (HAdd.hAdd _) cst_i_1) (by decide) rfl dX6_otherSign_34 ?_
        refine v_goto (pc := 37) (tgt := 4) X dX6_otherSign_37 (by decide) ?_
        refine v_sub [2, 3, 1, 0] rfl ?_
        exact ih _ _ _ h
      have B28 : ∀ (b3 : Int32) (μ : Mem), wp_X6_otherSign_b28 a1 q (wp_X6_otherSign_l4 a1 q n) b3 μ → V p l e ({ frames := 0, cells := 0, slots := 0, locals := 0 }) s m args below meth c 4 g (AA g) 0 0 (MQ below (KQi g q) args s 0 0 (AA g)) μ 28 [(0, .ref (g.1 6 0)), (1, .int a1), (3, .int b3)] [] := by
        intro b3 μ h
        unfold wp_X6_otherSign_b28 at h
        refine v_iconst (pc := 28) X cst_i_1 dX6_otherSign_28 ?_
        refine v_goto (pc := 29) (tgt := 33) X dX6_otherSign_29 (by decide) ?_
        exact B33 _ _ _ h
      have B32 : ∀ (b3 : Int32) (μ : Mem), wp_X6_otherSign_b32 a1 q (wp_X6_otherSign_l4 a1 q n) b3 μ → V p l e ({ frames := 0, cells := 0, slots := 0, locals := 0 }) s m args below meth c 4 g (AA g) 0 0 (MQ below (KQi g q) args s 0 0 (AA g)) μ 32 [(0, .ref (g.1 6 0)), (1, .int a1), (3, .int b3)] [] := by
        intro b3 μ h
        unfold wp_X6_otherSign_b32 at h
        refine v_iconst (pc := 32) X cst_i_0 dX6_otherSign_32 ?_
        exact B33 _ _ _ h
      intro b2 b3 μ h
      unfold wp_X6_otherSign_l4 at h
      refine v_iload_n (pc := 4) X rfl 3 rfl dX6_otherSign_4 ?_
      refine v_bipush (pc := 5) X cst_b_6 dX6_otherSign_5 ?_
      refine v_icmp_ge (pc := 7) (tgt := 40) X h dX6_otherSign_7 (by decide) (fun h => ?_) (fun h => ?_)
      · refine v_iload_n (pc := 40) X rfl 2 rfl dX6_otherSign_40 ?_
        exact v_zret (pc := 41) X hr hlk h dX6_otherSign_41
      · refine v_iload_n (pc := 10) X rfl 2 rfl dX6_otherSign_10 ?_
        refine v_if_ne (pc := 11) (tgt := 28) X h dX6_otherSign_11 (by decide) (fun h => ?_) (fun h => ?_)
        · refine v_sub [0, 1, 3] rfl ?_
          exact B28 _ _ h
        · refine v_iload_n (pc := 14) X rfl 3 rfl dX6_otherSign_14 ?_
          refine v_iload_n (pc := 15) X rfl 1 rfl dX6_otherSign_15 ?_
          refine v_icmp_eq (pc := 16) (tgt := 32) X h dX6_otherSign_16 (by decide) (fun h => ?_) (fun h => ?_)
          · refine v_sub [0, 1, 3] rfl ?_
            exact B32 _ _ h
          · refine v_aload_n (pc := 19) X rfl 0 rfl dX6_otherSign_19 ?_
            refine gf_6_6 (pc := 20) X Nat.one_pos wd_97 dX6_otherSign_20 ?_
            refine v_iload_n (pc := 23) X rfl 3 rfl dX6_otherSign_23 ?_
            refine al_25 (pc := 24) X Nat.one_pos h dX6_otherSign_24 (fun x_1 h => ?_)
            refine v_if_eq (pc := 25) (tgt := 32) X h dX6_otherSign_25 (by decide) (fun h => ?_) (fun h => ?_)
            · refine v_sub [0, 1, 3] rfl ?_
              exact B32 _ _ h
            · refine v_sub [0, 1, 3] rfl ?_
              exact B28 _ _ h
  unfold wp_X6_otherSign at h
  refine v_iconst (pc := 0) X cst_i_0 dX6_otherSign_0 ?_
  refine v_istore_n (pc := 1) (lv' := [(2, .int 0), (0, .ref (g.1 6 0)), (1, .int a1)]) X rfl (by decide) rfl dX6_otherSign_1 ?_
  refine v_iconst (pc := 2) X cst_i_0 dX6_otherSign_2 ?_
  refine v_istore_n (pc := 3) (lv' := [(3, .int 0), (2, .int 0), (0, .ref (g.1 6 0)), (1, .int a1)]) X rfl (by decide) rfl dX6_otherSign_3 ?_
  refine v_sub [2, 3, 1, 0] rfl ?_
  obtain ⟨n, h⟩ := h
  exact L4 n _ _ _ h

def wp_X6_follow (a1 : Int32) (a2 : Int32) (μ : Mem) (q : Mem → Prop) : Prop :=
wp_X6_become a1 a2 μ (fun m_1 =>
vp_in a1 6 ∧ ∀ x_2 : Int32, x_2 = m_1 30 0 (a1 : Int32).toNatClampNeg →
vp_in ((nI 60) + a1) 256 ∧ ∀ x_3 : Int32, x_3 = m_1 20 0 (((nI 60) + a1) : Int32).toNatClampNeg →
vp_in (((nI 6) * a1) + x_2) 36 ∧ ∀ x_4 : Int32, x_4 = m_1 31 0 ((((nI 6) * a1) + x_2) : Int32).toNatClampNeg →
vp_in ((nI 60) + a1) 256 ∧ ∀ m_5 : Mem, m_5 = ms m_1 20 0 (((nI 60) + a1) : Int32).toNatClampNeg (x_3 + x_4) →
vp_in ((nI 18) + x_2) 256 ∧ ∀ x_6 : Int32, x_6 = m_5 20 0 (((nI 18) + x_2) : Int32).toNatClampNeg →
vp_in x_2 6 ∧ ∀ x_7 : Int32, x_7 = m_5 32 0 (x_2 : Int32).toNatClampNeg →
vp_in ((nI 18) + a1) 256 ∧ ∀ x_8 : Int32, x_8 = m_5 20 0 (((nI 18) + a1) : Int32).toNatClampNeg →
vp_in ((nI 66) + a1) 256 ∧ ∀ m_9 : Mem, m_9 = ms m_5 20 0 (((nI 66) + a1) : Int32).toNatClampNeg ((x_6 + x_7) - x_8) →
q m_9)
set_option maxRecDepth 100000 in
set_option maxHeartbeats 4000000 in
theorem c_X6_follow (l : Launch) (g : GG) (hI : Inj g) (μ : Mem) (a1 : Int32) (a2 : Int32) (q : Mem → Prop) (h : wp_X6_follow a1 a2 μ q) : Met l yX6_follow (Cond.code yX6_follow cX6_follow 4 none :: wsL_law) ({ frames := 2, cells := 0, slots := 0, locals := 44 }) (KP g [.ref (g.1 6 0), .int a1, .int a2] μ) (KQv g q) 0 0 (AA g) := by
  refine met_V (own := RX6) hI (by decide) rfl (Nat.le_of_ble_eq_true rfl) rfl (fun p e s m args below meth c X hr hlk => ?_)
  unfold wp_X6_follow at h
  refine v_aload_n (pc := 0) X rfl 0 rfl dX6_follow_0 ?_
  refine v_iload_n (pc := 1) X rfl 1 rfl dX6_follow_1 ?_
  refine v_iload_n (pc := 2) X rfl 2 rfl dX6_follow_2 ?_
  refine v_callVv (pc := 3) X (c_X6_become l g hI _ _ _ _ h) wd_407 wd_404 wd_405 wd_406 wd_5 ⟨rfl, rfl⟩ hdc_X6_become ⟨Nat.le_of_ble_eq_true rfl, Nat.le_of_ble_eq_true rfl⟩ ⟨Nat.le_refl 0, Nat.le_refl 0⟩ Nat.one_pos rfl rfl (As := [.int a1, .int a2]) rfl rfl (Nat.le_of_ble_eq_true rfl) dX6_follow_3 (fun m_1 h => ?_)
  refine v_aload_n (pc := 6) X rfl 0 rfl dX6_follow_6 ?_
  refine gf_6_11 (pc := 7) X Nat.one_pos wd_102 dX6_follow_7 ?_
  refine v_iload_n (pc := 10) X rfl 1 rfl dX6_follow_10 ?_
  refine al_30 (pc := 11) X Nat.one_pos h dX6_follow_11 (fun x_2 h => ?_)
  refine v_istore_n (pc := 12) (lv' := [(3, .int x_2), (0, .ref (g.1 6 0)), (1, .int a1), (2, .int a2)]) X rfl (by decide) rfl dX6_follow_12 ?_
  refine v_aload_n (pc := 13) X rfl 1 rfl dX6_follow_13 ?_
  refine gf_6_0 (pc := 14) X Nat.one_pos wd_91 dX6_follow_14 ?_
  refine v_bipush (pc := 17) X cst_b_60 dX6_follow_17 ?_
  refine v_iload_n (pc := 19) X rfl 2 rfl dX6_follow_19 ?_
  refine v_iadd (pc := 20) X dX6_follow_20 ?_
  refine v_dup2 (pc := 21) X rfl rfl dX6_follow_21 ?_
  refine al_20 (pc := 22) X Nat.one_pos h dX6_follow_22 (fun x_3 h => ?_)
  refine v_aload_n (pc := 23) X rfl 1 rfl dX6_follow_23 ?_
  refine gf_6_12 (pc := 24) X Nat.one_pos wd_103 dX6_follow_24 ?_
  refine v_bipush (pc := 27) X cst_b_6 dX6_follow_27 ?_
  refine v_iload_n (pc := 29) X rfl 2 rfl dX6_follow_29 ?_
  refine v_imul (pc := 30) X dX6_follow_30 ?_
  refine v_iload_n (pc := 31) X rfl 0 rfl dX6_follow_31 ?_
  refine v_iadd (pc := 32) X dX6_follow_32 ?_
  refine al_31 (pc := 33) X Nat.one_pos h dX6_follow_33 (fun x_4 h => ?_)
  refine v_iadd (pc := 34) X dX6_follow_34 ?_
  refine as_20 (pc := 35) X Nat.one_pos h dX6_follow_35 (fun m_5 h => ?_)
  refine v_aload_n (pc := 36) X rfl 1 rfl dX6_follow_36 ?_
  refine gf_6_0 (pc := 37) X Nat.one_pos wd_91 dX6_follow_37 ?_
  refine v_bipush (pc := 40) X cst_b_66 dX6_follow_40 ?_
  refine v_iload_n (pc := 42) X rfl 2 rfl dX6_follow_42 ?_
  refine v_iadd (pc := 43) X dX6_follow_43 ?_
  refine v_aload_n (pc := 44) X rfl 1 rfl dX6_follow_44 ?_
  refine gf_6_0 (pc := 45) X Nat.one_pos wd_91 dX6_follow_45 ?_
  refine v_bipush (pc := 48) X cst_b_18 dX6_follow_48 ?_
  refine v_iload_n (pc := 50) X rfl 0 rfl dX6_follow_50 ?_
  refine v_iadd (pc := 51) X dX6_follow_51 ?_
  refine al_20 (pc := 52) X Nat.one_pos h dX6_follow_52 (fun x_6 h => ?_)
  refine v_aload_n (pc := 53) X rfl 1 rfl dX6_follow_53 ?_
  refine gf_6_13 (pc := 54) X Nat.one_pos wd_104 dX6_follow_54 ?_
  refine v_iload_n (pc := 57) X rfl 0 rfl dX6_follow_57 ?_
  refine al_32 (pc := 58) X Nat.one_pos h dX6_follow_58 (fun x_7 h => ?_)
  refine v_iadd (pc := 59) X dX6_follow_59 ?_
  refine v_aload_n (pc := 60) X rfl 1 rfl dX6_follow_60 ?_
  refine gf_6_0 (pc := 61) X Nat.one_pos wd_91 dX6_follow_61 ?_
  refine v_bipush (pc := 64) X cst_b_18 dX6_follow_64 ?_
  refine v_iload_n (pc := 66) X rfl 2 rfl dX6_follow_66 ?_
  refine v_iadd (pc := 67) X dX6_follow_67 ?_
  refine al_20 (pc := 68) X Nat.one_pos h dX6_follow_68 (fun x_8 h => ?_)
  refine v_isub (pc := 69) X dX6_follow_69 ?_
  refine as_20 (pc := 70) X Nat.one_pos h dX6_follow_70 (fun m_9 h => ?_)
  exact v_vret (pc := 71) X hr hlk h dX6_follow_71

def wp_X6_listen_b135 (a1 : Int32) (q : Mem → Prop) (b2 : Int32) (μ : Mem) : Prop :=
((b2 = 0 →
q μ) ∧ (¬ b2 = 0 →
vp_in ((nI 42) + a1) 256 ∧ ∀ x_1 : Int32, x_1 = μ 20 0 (((nI 42) + a1) : Int32).toNatClampNeg →
vp_in ((nI 12) + a1) 256 ∧ ∀ x_2 : Int32, x_2 = μ 20 0 (((nI 12) + a1) : Int32).toNatClampNeg →
((x_1 < x_2 →
q μ) ∧ (¬ x_1 < x_2 →
wp_X6_become a1 (nI 2) μ (fun m_3 =>
q m_3)))))
def wp_X6_listen_b99 (a1 : Int32) (q : Mem → Prop) (b2 : Int32) (μ : Mem) : Prop :=
((¬ b2 = 0 →
wp_X6_listen_b135 a1 q b2 μ) ∧ (b2 = 0 →
vp_in a1 6 ∧ ∀ x_1 : Int32, x_1 = μ 29 0 (a1 : Int32).toNatClampNeg →
((x_1 < (nI 2) →
wp_X6_listen_b135 a1 q b2 μ) ∧ (¬ x_1 < (nI 2) →
vp_in ((nI 90) + a1) 256 ∧ ∀ x_2 : Int32, x_2 = μ 20 0 (((nI 90) + a1) : Int32).toNatClampNeg →
((x_2 < (nI 2) →
wp_X6_listen_b135 a1 q b2 μ) ∧ (¬ x_2 < (nI 2) →
wp_X6_follow a1 (nI 4) μ (fun m_3 =>
q m_3)))))))
def wp_X6_listen_b58 (a1 : Int32) (q : Mem → Prop) (t0 : Int32) (μ : Mem) : Prop :=
((t0 = 0 →
wp_X6_listen_b99 a1 q t0 μ) ∧ (¬ t0 = 0 →
vp_in a1 6 ∧ ∀ x_1 : Int32, x_1 = μ 30 0 (a1 : Int32).toNatClampNeg →
((x_1 < 0 →
wp_X6_listen_b99 a1 q t0 μ) ∧ (¬ x_1 < 0 →
vp_in a1 6 ∧ ∀ x_2 : Int32, x_2 = μ 30 0 (a1 : Int32).toNatClampNeg →
vp_in ((nI 78) + a1) 256 ∧ ∀ x_3 : Int32, x_3 = μ 20 0 (((nI 78) + a1) : Int32).toNatClampNeg →
((¬ x_2 = x_3 →
wp_X6_listen_b99 a1 q t0 μ) ∧ (x_2 = x_3 →
wp_X6_follow a1 (nI 3) μ (fun m_4 =>
q m_4)))))))
def wp_X6_listen_b40 (a1 : Int32) (q : Mem → Prop) (u0 : Nat) (t1 : Int32) (t2 : Int32) (μ : Mem) : Prop :=
vp_in t1 256 ∧ ∀ m_1 : Mem, m_1 = ms μ 20 u0 (t1 : Int32).toNatClampNeg t2 →
vp_in (0 + a1) 256 ∧ ∀ x_2 : Int32, x_2 = m_1 20 0 ((0 + a1) : Int32).toNatClampNeg →
((¬ x_2 = 1 →
wp_X6_listen_b58 a1 q 0 m_1) ∧ (x_2 = 1 →
wp_X6_listen_b58 a1 q 1 m_1))
def wp_X6_listen_b39 (a1 : Int32) (q : Mem → Prop) (u0 : Nat) (t1 : Int32) (μ : Mem) : Prop :=
wp_X6_listen_b40 a1 q u0 t1 0 μ
def wp_X6_listen (a1 : Int32) (μ : Mem) (q : Mem → Prop) : Prop :=
vp_in a1 6 ∧ ∀ x_1 : Int32, x_1 = μ 28 0 (a1 : Int32).toNatClampNeg →
((¬ x_1 = 0 →
wp_X6_listen_b39 a1 q 0 ((nI 42) + a1) μ) ∧ (x_1 = 0 →
wp_X6_otherSign a1 μ (fun x_3 m_2 =>
((¬ x_3 = 0 →
wp_X6_listen_b39 a1 q 0 ((nI 42) + a1) m_2) ∧ (x_3 = 0 →
vp_in ((nI 42) + a1) 256 ∧ ∀ x_4 : Int32, x_4 = m_2 20 0 (((nI 42) + a1) : Int32).toNatClampNeg →
wp_X6_listen_b40 a1 q 0 ((nI 42) + a1) (x_4 + 1) m_2)))))
set_option maxRecDepth 100000 in
set_option maxHeartbeats 4000000 in
theorem c_X6_listen (l : Launch) (g : GG) (hI : Inj g) (μ : Mem) (a1 : Int32) (q : Mem → Prop) (h : wp_X6_listen a1 μ q) : Met l yX6_listen (Cond.code yX6_listen cX6_listen 3 none :: wsL_law) ({ frames := 3, cells := 0, slots := 0, locals := 67 }) (KP g [.ref (g.1 6 0), .int a1] μ) (KQv g q) 0 0 (AA g) := by
  refine met_V (own := RX6) hI (by decide) rfl (Nat.le_of_ble_eq_true rfl) rfl (fun p e s m args below meth c X hr hlk => ?_)
  have B135 : ∀ (b2 : Int32) (μ : Mem), wp_X6_listen_b135 a1 q b2 μ → V p l e ({ frames := 3, cells := 0, slots := 0, locals := 67 }) s m args below meth c 3 g (AA g) 0 0 (MQ below (KQv g q) args s 0 0 (AA g)) μ 135 [(0, .ref (g.1 6 0)), (1, .int a1), (2, .int b2)] [] := by
    intro b2 μ h
    unfold wp_X6_listen_b135 at h
    refine v_iload_n (pc := 135) X rfl 2 rfl dX6_listen_135 ?_
    refine v_if_eq (pc := 136) (tgt := 166) X h dX6_listen_136 (by decide) (fun h => ?_) (fun h => ?_)
    · exact v_vret (pc := 166) X hr hlk h dX6_listen_166
    · refine v_aload_n (pc := 139) X rfl 0 rfl dX6_listen_139 ?_
      refine gf_6_0 (pc := 140) X Nat.one_pos wd_91 dX6_listen_140 ?_
      refine v_bipush (pc := 143) X cst_b_42 dX6_listen_143 ?_
      refine v_iload_n (pc := 145) X rfl 1 rfl dX6_listen_145 ?_
      refine v_iadd (pc := 146) X dX6_listen_146 ?_
      refine al_20 (pc := 147) X Nat.one_pos h dX6_listen_147 (fun x_1 h => ?_)
      refine v_aload_n (pc := 148) X rfl 0 rfl dX6_listen_148 ?_
      refine gf_6_0 (pc := 149) X Nat.one_pos wd_91 dX6_listen_149 ?_
      refine v_bipush (pc := 152) X cst_b_12 dX6_listen_152 ?_
      refine v_iload_n (pc := 154) X rfl 1 rfl dX6_listen_154 ?_
      refine v_iadd (pc := 155) X dX6_listen_155 ?_
      refine al_20 (pc := 156) X Nat.one_pos h dX6_listen_156 (fun x_2 h => ?_)
      refine v_icmp_lt (pc := 157) (tgt := 166) X h dX6_listen_157 (by decide) (fun h => ?_) (fun h => ?_)
      · exact v_vret (pc := 166) X hr hlk h dX6_listen_166
      · refine v_aload_n (pc := 160) X rfl 0 rfl dX6_listen_160 ?_
        refine v_iload_n (pc := 161) X rfl 1 rfl dX6_listen_161 ?_
        refine v_iconst (pc := 162) X cst_i_2 dX6_listen_162 ?_
        refine v_callVv (pc := 163) X (c_X6_become l g hI _ _ _ _ h) wd_407 wd_404 wd_405 wd_406 wd_5 ⟨rfl, rfl⟩ hdc_X6_become ⟨Nat.le_of_ble_eq_true rfl, Nat.le_of_ble_eq_true rfl⟩ ⟨Nat.le_refl 0, Nat.le_refl 0⟩ Nat.one_pos rfl rfl (As := [.int a1, .int (nI 2)]) rfl rfl (Nat.le_of_ble_eq_true rfl) dX6_listen_163 (fun m_3 h => ?_)
        exact v_vret (pc := 166) X hr hlk h dX6_listen_166
  have B99 : ∀ (b2 : Int32) (μ : Mem), wp_X6_listen_b99 a1 q b2 μ → V p l e ({ frames := 3, cells := 0, slots := 0, locals := 67 }) s m args below meth c 3 g (AA g) 0 0 (MQ below (KQv g q) args s 0 0 (AA g)) μ 99 [(0, .ref (g.1 6 0)), (1, .int a1), (2, .int b2)] [] := by
    intro b2 μ h
    unfold wp_X6_listen_b99 at h
    refine v_iload_n (pc := 99) X rfl 2 rfl dX6_listen_99 ?_
    refine v_if_ne (pc := 100) (tgt := 135) X h dX6_listen_100 (by decide) (fun h => ?_) (fun h => ?_)
    · exact B135 _ _ h
    · refine v_aload_n (pc := 103) X rfl 0 rfl dX6_listen_103 ?_
      refine gf_6_10 (pc := 104) X Nat.one_pos wd_101 dX6_listen_104 ?_
      refine v_iload_n (pc := 107) X rfl 1 rfl dX6_listen_107 ?_
      refine al_29 (pc := 108) X Nat.one_pos h dX6_listen_108 (fun x_1 h => ?_)
      refine v_iconst (pc := 109) X cst_i_2 dX6_listen_109 ?_
      refine v_icmp_lt (pc := 110) (tgt := 135) X h dX6_listen_110 (by decide) (fun h => ?_) (fun h => ?_)
      · exact B135 _ _ h
      · refine v_aload_n (pc := 113) X rfl 0 rfl dX6_listen_113 ?_
        refine gf_6_0 (pc := 114) X Nat.one_pos wd_91 dX6_listen_114 ?_
        refine v_bipush (pc := 117) X cst_b_90 dX6_listen_117 ?_
        refine v_iload_n (pc := 119) X rfl 1 rfl dX6_listen_119 ?_
        refine v_iadd (pc := 120) X dX6_listen_120 ?_
        refine al_20 (pc := 121) X Nat.one_pos h dX6_listen_121 (fun x_2 h => ?_)
        refine v_iconst (pc := 122) X cst_i_2 dX6_listen_122 ?_
        refine v_icmp_lt (pc := 123) (tgt := 135) X h dX6_listen_123 (by decide) (fun h => ?_) (fun h => ?_)
        · exact B135 _ _ h
        · refine v_aload_n (pc := 126) X rfl 0 rfl dX6_listen_126 ?_
          refine v_iload_n (pc := 127) X rfl 1 rfl dX6_listen_127 ?_
          refine v_iconst (pc := 128) X cst_i_4 dX6_listen_128 ?_
          refine v_callVv (pc := 129) X (c_X6_follow l g hI _ _ _ _ h) wd_403 wd_400 wd_401 wd_402 wd_5 ⟨rfl, rfl⟩ hdc_X6_follow ⟨Nat.le_of_ble_eq_true rfl, Nat.le_of_ble_eq_true rfl⟩ ⟨Nat.le_refl 0, Nat.le_refl 0⟩ Nat.one_pos rfl rfl (As := [.int a1, .int (nI 4)]) rfl rfl (Nat.le_of_ble_eq_true rfl) dX6_listen_129 (fun m_3 h => ?_)
          refine v_goto (pc := 132) (tgt := 166) X dX6_listen_132 (by decide) ?_
          exact v_vret (pc := 166) X hr hlk h dX6_listen_166
  have B58 : ∀ (t0 : Int32) (μ : Mem), wp_X6_listen_b58 a1 q t0 μ → V p l e ({ frames := 3, cells := 0, slots := 0, locals := 67 }) s m args below meth c 3 g (AA g) 0 0 (MQ below (KQv g q) args s 0 0 (AA g)) μ 58 [(0, .ref (g.1 6 0)), (1, .int a1)] [.int t0] := by
    intro t0 μ h
    unfold wp_X6_listen_b58 at h
    refine v_istore_n (pc := 58) (lv' := [(2, .int t0), (0, .ref (g.1 6 0)), (1, .int a1)]) X rfl (by decide) rfl dX6_listen_58 ?_
    refine v_iload_n (pc := 59) X rfl 0 rfl dX6_listen_59 ?_
    refine v_if_eq (pc := 60) (tgt := 99) X h dX6_listen_60 (by decide) (fun h => ?_) (fun h => ?_)
    · refine v_sub [1, 2, 0] rfl ?_
      exact B99 _ _ h
    · refine v_aload_n (pc := 63) X rfl 1 rfl dX6_listen_63 ?_
      refine gf_6_11 (pc := 64) X Nat.one_pos wd_102 dX6_listen_64 ?_
      refine v_iload_n (pc := 67) X rfl 2 rfl dX6_listen_67 ?_
      refine al_30 (pc := 68) X Nat.one_pos h dX6_listen_68 (fun x_1 h => ?_)
      refine v_if_lt (pc := 69) (tgt := 99) X h dX6_listen_69 (by decide) (fun h => ?_) (fun h => ?_)
      · refine v_sub [1, 2, 0] rfl ?_
        exact B99 _ _ h
      · refine v_aload_n (pc := 72) X rfl 1 rfl dX6_listen_72 ?_
        refine gf_6_11 (pc := 73) X Nat.one_pos wd_102 dX6_listen_73 ?_
        refine v_iload_n (pc := 76) X rfl 2 rfl dX6_listen_76 ?_
        refine al_30 (pc := 77) X Nat.one_pos h dX6_listen_77 (fun x_2 h => ?_)
        refine v_aload_n (pc := 78) X rfl 1 rfl dX6_listen_78 ?_
        refine gf_6_0 (pc := 79) X Nat.one_pos wd_91 dX6_listen_79 ?_
        refine v_bipush (pc := 82) X cst_b_78 dX6_listen_82 ?_
        refine v_iload_n (pc := 84) X rfl 2 rfl dX6_listen_84 ?_
        refine v_iadd (pc := 85) X dX6_listen_85 ?_
        refine al_20 (pc := 86) X Nat.one_pos h dX6_listen_86 (fun x_3 h => ?_)
        refine v_icmp_ne (pc := 87) (tgt := 99) X h dX6_listen_87 (by decide) (fun h => ?_) (fun h => ?_)
        · refine v_sub [1, 2, 0] rfl ?_
          exact B99 _ _ h
        · refine v_aload_n (pc := 90) X rfl 1 rfl dX6_listen_90 ?_
          refine v_iload_n (pc := 91) X rfl 2 rfl dX6_listen_91 ?_
          refine v_iconst (pc := 92) X cst_i_3 dX6_listen_92 ?_
          refine v_callVv (pc := 93) X (c_X6_follow l g hI _ _ _ _ h) wd_403 wd_400 wd_401 wd_402 wd_5 ⟨rfl, rfl⟩ hdc_X6_follow ⟨Nat.le_of_ble_eq_true rfl, Nat.le_of_ble_eq_true rfl⟩ ⟨Nat.le_refl 0, Nat.le_refl 0⟩ Nat.one_pos rfl rfl (As := [.int a1, .int (nI 3)]) rfl rfl (Nat.le_of_ble_eq_true rfl) dX6_listen_93 (fun m_4 h => ?_)
          refine v_goto (pc := 96) (tgt := 166) X dX6_listen_96 (by decide) ?_
          exact v_vret (pc := 166) X hr hlk h dX6_listen_166
  have B40 : ∀ (u0 : Nat) (hu0 : u0 < 1) (t1 : Int32) (t2 : Int32) (μ : Mem), wp_X6_listen_b40 a1 q u0 t1 t2 μ → V p l e ({ frames := 3, cells := 0, slots := 0, locals := 67 }) s m args below meth c 3 g (AA g) 0 0 (MQ below (KQv g q) args s 0 0 (AA g)) μ 40 [(0, .ref (g.1 6 0)), (1, .int a1)] [.int t2, .int t1, .ref (g.1 20 u0)] := by
    intro u0 hu0 t1 t2 μ h
    unfold wp_X6_listen_b40 at h
    refine as_20 (pc := 40) X hu0 h dX6_listen_40 (fun m_1 h => ?_)
    refine v_aload_n (pc := 41) X rfl 0 rfl dX6_listen_41 ?_
    refine gf_6_0 (pc := 42) X Nat.one_pos wd_91 dX6_listen_42 ?_
    refine v_iconst (pc := 45) X cst_i_0 dX6_listen_45 ?_
    refine v_iload_n (pc := 46) X rfl 1 rfl dX6_listen_46 ?_
    refine v_iadd (pc := 47) X dX6_listen_47 ?_
    refine al_20 (pc := 48) X Nat.one_pos h dX6_listen_48 (fun x_2 h => ?_)
    refine v_iconst (pc := 49) X cst_i_1 dX6_listen_49 ?_
    refine v_icmp_ne (pc := 50) (tgt := 57) X h dX6_listen_50 (by decide) (fun h => ?_) (fun h => ?_)
    · refine v_iconst (pc := 57) X cst_i_0 dX6_listen_57 ?_
      exact B58 _ _ h
    · refine v_iconst (pc := 53) X cst_i_1 dX6_listen_53 ?_
      refine v_goto (pc := 54) (tgt := 58) X dX6_listen_54 (by decide) ?_
      exact B58 _ _ h
  have B39 : ∀ (u0 : Nat) (hu0 : u0 < 1) (t1 : Int32) (μ : Mem), wp_X6_listen_b39 a1 q u0 t1 μ → V p l e ({ frames := 3, cells := 0, slots := 0, locals := 67 }) s m args below meth c 3 g (AA g) 0 0 (MQ below (KQv g q) args s 0 0 (AA g)) μ 39 [(0, .ref (g.1 6 0)), (1, .int a1)] [.int t1, .ref (g.1 20 u0)] := by
    intro u0 hu0 t1 μ h
    unfold wp_X6_listen_b39 at h
    refine v_iconst (pc := 39) X cst_i_0 dX6_listen_39 ?_
    exact B40 _ hu0 _ _ _ h
  unfold wp_X6_listen at h
  refine v_aload_n (pc := 0) X rfl 0 rfl dX6_listen_0 ?_
  refine gf_6_0 (pc := 1) X Nat.one_pos wd_91 dX6_listen_1 ?_
  refine v_bipush (pc := 4) X cst_b_42 dX6_listen_4 ?_
  refine v_iload_n (pc := 6) X rfl 1 rfl dX6_listen_6 ?_
  refine v_iadd (pc := 7) X dX6_listen_7 ?_
  refine v_aload_n (pc := 8) X rfl 0 rfl dX6_listen_8 ?_
  refine gf_6_9 (pc := 9) X Nat.one_pos wd_100 dX6_listen_9 ?_
  refine v_iload_n (pc := 12) X rfl 1 rfl dX6_listen_12 ?_
  refine al_28 (pc := 13) X Nat.one_pos h dX6_listen_13 (fun x_1 h => ?_)
  refine v_if_ne (pc := 14) (tgt := 39) X h dX6_listen_14 (by decide) (fun h => ?_) (fun h => ?_)
  · exact B39 _ Nat.one_pos _ _ h
  · refine v_aload_n (pc := 17) X rfl 0 rfl dX6_listen_17 ?_
    refine v_iload_n (pc := 18) X rfl 1 rfl dX6_listen_18 ?_
    refine v_callVi (pc := 19) X (c_X6_otherSign l g hI _ _ _ h) wd_399 wd_396 wd_397 wd_398 wd_5 ⟨rfl, rfl⟩ hdc_X6_otherSign ⟨Nat.le_of_ble_eq_true rfl, Nat.le_of_ble_eq_true rfl⟩ ⟨Nat.le_refl 0, Nat.le_refl 0⟩ Nat.one_pos rfl rfl (As := [.int a1]) rfl rfl (Nat.le_of_ble_eq_true rfl) dX6_listen_19 (fun x_3 m_2 h => ?_)
    refine v_if_ne (pc := 22) (tgt := 39) X h dX6_listen_22 (by decide) (fun h => ?_) (fun h => ?_)
    · exact B39 _ Nat.one_pos _ _ h
    · refine v_aload_n (pc := 25) X rfl 0 rfl dX6_listen_25 ?_
      refine gf_6_0 (pc := 26) X Nat.one_pos wd_91 dX6_listen_26 ?_
      refine v_bipush (pc := 29) X cst_b_42 dX6_listen_29 ?_
      refine v_iload_n (pc := 31) X rfl 1 rfl dX6_listen_31 ?_
      refine v_iadd (pc := 32) X dX6_listen_32 ?_
      refine al_20 (pc := 33) X Nat.one_pos h dX6_listen_33 (fun x_4 h => ?_)
      refine v_iconst (pc := 34) X cst_i_1 dX6_listen_34 ?_
      refine v_iadd (pc := 35) X dX6_listen_35 ?_
      refine v_goto (pc := 36) (tgt := 40) X dX6_listen_36 (by decide) ?_
      exact B40 _ Nat.one_pos _ _ _ h

def wp_X6_lead_b31 (a1 : Int32) (q : Mem → Prop)  (μ : Mem) : Prop :=
vp_in ((nI 36) + a1) 256 ∧ ∀ x_1 : Int32, x_1 = μ 20 0 (((nI 36) + a1) : Int32).toNatClampNeg →
((x_1 < (nI 7) →
q μ) ∧ (¬ x_1 < (nI 7) →
wp_X6_become a1 1 μ (fun m_2 =>
q m_2)))
def wp_X6_lead (a1 : Int32) (μ : Mem) (q : Mem → Prop) : Prop :=
vp_in ((nI 36) + a1) 256 ∧ ∀ x_1 : Int32, x_1 = μ 20 0 (((nI 36) + a1) : Int32).toNatClampNeg →
((x_1 < (nI 3) →
wp_X6_lead_b31 a1 q  μ) ∧ (¬ x_1 < (nI 3) →
vp_in a1 6 ∧ ∀ x_2 : Int32, x_2 = μ 29 0 (a1 : Int32).toNatClampNeg →
((x_2 ≤ 0 →
wp_X6_lead_b31 a1 q  μ) ∧ (¬ x_2 ≤ 0 →
wp_X6_become a1 (nI 4) μ (fun m_3 =>
q m_3)))))
set_option maxRecDepth 100000 in
set_option maxHeartbeats 4000000 in
theorem c_X6_lead (l : Launch) (g : GG) (hI : Inj g) (μ : Mem) (a1 : Int32) (q : Mem → Prop) (h : wp_X6_lead a1 μ q) : Met l yX6_lead (Cond.code yX6_lead cX6_lead 2 none :: wsL_law) ({ frames := 2, cells := 0, slots := 0, locals := 44 }) (KP g [.ref (g.1 6 0), .int a1] μ) (KQv g q) 0 0 (AA g) := by
  refine met_V (own := RX6) hI (by decide) rfl (Nat.le_of_ble_eq_true rfl) rfl (fun p e s m args below meth c X hr hlk => ?_)
  have B31 : ∀  (μ : Mem), wp_X6_lead_b31 a1 q  μ → V p l e ({ frames := 2, cells := 0, slots := 0, locals := 44 }) s m args below meth c 2 g (AA g) 0 0 (MQ below (KQv g q) args s 0 0 (AA g)) μ 31 [(0, .ref (g.1 6 0)), (1, .int a1)] [] := by
    intro  μ h
    unfold wp_X6_lead_b31 at h
    refine v_aload_n (pc := 31) X rfl 0 rfl dX6_lead_31 ?_
    refine gf_6_0 (pc := 32) X Nat.one_pos wd_91 dX6_lead_32 ?_
    refine v_bipush (pc := 35) X cst_b_36 dX6_lead_35 ?_
    refine v_iload_n (pc := 37) X rfl 1 rfl dX6_lead_37 ?_
    refine v_iadd (pc := 38) X dX6_lead_38 ?_
    refine al_20 (pc := 39) X Nat.one_pos h dX6_lead_39 (fun x_1 h => ?_)
    refine v_bipush (pc := 40) X cst_b_7 dX6_lead_40 ?_
    refine v_icmp_lt (pc := 42) (tgt := 51) X h dX6_lead_42 (by decide) (fun h => ?_) (fun h => ?_)
    · exact v_vret (pc := 51) X hr hlk h dX6_lead_51
    · refine v_aload_n (pc := 45) X rfl 0 rfl dX6_lead_45 ?_
      refine v_iload_n (pc := 46) X rfl 1 rfl dX6_lead_46 ?_
      refine v_iconst (pc := 47) X cst_i_1 dX6_lead_47 ?_
      refine v_callVv (pc := 48) X (c_X6_become l g hI _ _ _ _ h) wd_407 wd_404 wd_405 wd_406 wd_5 ⟨rfl, rfl⟩ hdc_X6_become ⟨Nat.le_of_ble_eq_true rfl, Nat.le_of_ble_eq_true rfl⟩ ⟨Nat.le_refl 0, Nat.le_refl 0⟩ Nat.one_pos rfl rfl (As := [.int a1, .int 1]) rfl rfl (Nat.le_of_ble_eq_true rfl) dX6_lead_48 (fun m_2 h => ?_)
      exact v_vret (pc := 51) X hr hlk h dX6_lead_51
  unfold wp_X6_lead at h
  refine v_aload_n (pc := 0) X rfl 0 rfl dX6_lead_0 ?_
  refine gf_6_0 (pc := 1) X Nat.one_pos wd_91 dX6_lead_1 ?_
  refine v_bipush (pc := 4) X cst_b_36 dX6_lead_4 ?_
  refine v_iload_n (pc := 6) X rfl 1 rfl dX6_lead_6 ?_
  refine v_iadd (pc := 7) X dX6_lead_7 ?_
  refine al_20 (pc := 8) X Nat.one_pos h dX6_lead_8 (fun x_1 h => ?_)
  refine v_iconst (pc := 9) X cst_i_3 dX6_lead_9 ?_
  refine v_icmp_lt (pc := 10) (tgt := 31) X h dX6_lead_10 (by decide) (fun h => ?_) (fun h => ?_)
  · exact B31  _ h
  · refine v_aload_n (pc := 13) X rfl 0 rfl dX6_lead_13 ?_
    refine gf_6_10 (pc := 14) X Nat.one_pos wd_101 dX6_lead_14 ?_
    refine v_iload_n (pc := 17) X rfl 1 rfl dX6_lead_17 ?_
    refine al_29 (pc := 18) X Nat.one_pos h dX6_lead_18 (fun x_2 h => ?_)
    refine v_if_le (pc := 19) (tgt := 31) X h dX6_lead_19 (by decide) (fun h => ?_) (fun h => ?_)
    · exact B31  _ h
    · refine v_aload_n (pc := 22) X rfl 0 rfl dX6_lead_22 ?_
      refine v_iload_n (pc := 23) X rfl 1 rfl dX6_lead_23 ?_
      refine v_iconst (pc := 24) X cst_i_4 dX6_lead_24 ?_
      refine v_callVv (pc := 25) X (c_X6_become l g hI _ _ _ _ h) wd_407 wd_404 wd_405 wd_406 wd_5 ⟨rfl, rfl⟩ hdc_X6_become ⟨Nat.le_of_ble_eq_true rfl, Nat.le_of_ble_eq_true rfl⟩ ⟨Nat.le_refl 0, Nat.le_refl 0⟩ Nat.one_pos rfl rfl (As := [.int a1, .int (nI 4)]) rfl rfl (Nat.le_of_ble_eq_true rfl) dX6_lead_25 (fun m_3 h => ?_)
      refine v_goto (pc := 28) (tgt := 51) X dX6_lead_28 (by decide) ?_
      exact v_vret (pc := 51) X hr hlk h dX6_lead_51

def wp_X6_join (a1 : Int32) (μ : Mem) (q : Mem → Prop) : Prop :=
vp_in a1 6 ∧ ∀ x_1 : Int32, x_1 = μ 29 0 (a1 : Int32).toNatClampNeg →
((¬ x_1 = 0 →
vp_in ((nI 36) + a1) 256 ∧ ∀ x_2 : Int32, x_2 = μ 20 0 (((nI 36) + a1) : Int32).toNatClampNeg →
((x_2 < (nI 2) →
q μ) ∧ (¬ x_2 < (nI 2) →
wp_X6_become a1 (nI 4) μ (fun m_3 =>
q m_3)))) ∧ (x_1 = 0 →
wp_X6_become a1 1 μ (fun m_4 =>
q m_4)))
set_option maxRecDepth 100000 in
set_option maxHeartbeats 4000000 in
theorem c_X6_join (l : Launch) (g : GG) (hI : Inj g) (μ : Mem) (a1 : Int32) (q : Mem → Prop) (h : wp_X6_join a1 μ q) : Met l yX6_join (Cond.code yX6_join cX6_join 2 none :: wsL_law) ({ frames := 2, cells := 0, slots := 0, locals := 44 }) (KP g [.ref (g.1 6 0), .int a1] μ) (KQv g q) 0 0 (AA g) := by
  refine met_V (own := RX6) hI (by decide) rfl (Nat.le_of_ble_eq_true rfl) rfl (fun p e s m args below meth c X hr hlk => ?_)
  unfold wp_X6_join at h
  refine v_aload_n (pc := 0) X rfl 0 rfl dX6_join_0 ?_
  refine gf_6_10 (pc := 1) X Nat.one_pos wd_101 dX6_join_1 ?_
  refine v_iload_n (pc := 4) X rfl 1 rfl dX6_join_4 ?_
  refine al_29 (pc := 5) X Nat.one_pos h dX6_join_5 (fun x_1 h => ?_)
  refine v_if_ne (pc := 6) (tgt := 18) X h dX6_join_6 (by decide) (fun h => ?_) (fun h => ?_)
  · refine v_aload_n (pc := 18) X rfl 0 rfl dX6_join_18 ?_
    refine gf_6_0 (pc := 19) X Nat.one_pos wd_91 dX6_join_19 ?_
    refine v_bipush (pc := 22) X cst_b_36 dX6_join_22 ?_
    refine v_iload_n (pc := 24) X rfl 1 rfl dX6_join_24 ?_
    refine v_iadd (pc := 25) X dX6_join_25 ?_
    refine al_20 (pc := 26) X Nat.one_pos h dX6_join_26 (fun x_2 h => ?_)
    refine v_iconst (pc := 27) X cst_i_2 dX6_join_27 ?_
    refine v_icmp_lt (pc := 28) (tgt := 37) X h dX6_join_28 (by decide) (fun h => ?_) (fun h => ?_)
    · exact v_vret (pc := 37) X hr hlk h dX6_join_37
    · refine v_aload_n (pc := 31) X rfl 0 rfl dX6_join_31 ?_
      refine v_iload_n (pc := 32) X rfl 1 rfl dX6_join_32 ?_
      refine v_iconst (pc := 33) X cst_i_4 dX6_join_33 ?_
      refine v_callVv (pc := 34) X (c_X6_become l g hI _ _ _ _ h) wd_407 wd_404 wd_405 wd_406 wd_5 ⟨rfl, rfl⟩ hdc_X6_become ⟨Nat.le_of_ble_eq_true rfl, Nat.le_of_ble_eq_true rfl⟩ ⟨Nat.le_refl 0, Nat.le_refl 0⟩ Nat.one_pos rfl rfl (As := [.int a1, .int (nI 4)]) rfl rfl (Nat.le_of_ble_eq_true rfl) dX6_join_34 (fun m_3 h => ?_)
      exact v_vret (pc := 37) X hr hlk h dX6_join_37
  · refine v_aload_n (pc := 9) X rfl 0 rfl dX6_join_9 ?_
    refine v_iload_n (pc := 10) X rfl 1 rfl dX6_join_10 ?_
    refine v_iconst (pc := 11) X cst_i_1 dX6_join_11 ?_
    refine v_callVv (pc := 12) X (c_X6_become l g hI _ _ _ _ h) wd_407 wd_404 wd_405 wd_406 wd_5 ⟨rfl, rfl⟩ hdc_X6_become ⟨Nat.le_of_ble_eq_true rfl, Nat.le_of_ble_eq_true rfl⟩ ⟨Nat.le_refl 0, Nat.le_refl 0⟩ Nat.one_pos rfl rfl (As := [.int a1, .int 1]) rfl rfl (Nat.le_of_ble_eq_true rfl) dX6_join_12 (fun m_4 h => ?_)
    refine v_goto (pc := 15) (tgt := 37) X dX6_join_15 (by decide) ?_
    exact v_vret (pc := 37) X hr hlk h dX6_join_37

def wp_X6_trimSeen_b47 (a1 : Int32) (q : Int32 → Mem → Prop) (K : Int32 → Mem → Prop) (b2 : Int32) (μ : Mem) : Prop :=
K (b2 + 1) μ
def wp_X6_trimSeen_l12 (a1 : Int32) (q : Int32 → Mem → Prop) : Nat → Int32 → Mem → Prop
  | 0 => fun _ _ => False
  | n + 1 => fun b2 μ =>
(((nI 6) ≤ b2 →
wp_X6_trimmed  μ (fun x_2 m_1 =>
q x_2 m_1)) ∧ (¬ (nI 6) ≤ b2 →
vp_in a1 6 ∧ ∀ x_3 : Int32, x_3 = μ 28 0 (a1 : Int32).toNatClampNeg →
((¬ ((x_3 >>> (b2 &&& 31)) &&& 1) = 1 →
wp_X6_trimSeen_b47 a1 q (wp_X6_trimSeen_l12 a1 q n) b2 μ) ∧ (((x_3 >>> (b2 &&& 31)) &&& 1) = 1 →
vp_in (((nI 6) * a1) + b2) 36 ∧ ∀ x_4 : Int32, x_4 = μ 31 0 ((((nI 6) * a1) + b2) : Int32).toNatClampNeg →
wp_X6_lay x_4 μ (fun m_5 =>
wp_X6_trimSeen_b47 a1 q (wp_X6_trimSeen_l12 a1 q n) b2 m_5)))))
def wp_X6_trimSeen (a1 : Int32) (μ : Mem) (q : Int32 → Mem → Prop) : Prop :=
∀ m_1 : Mem, m_1 = ms μ 6 0 4 0 →
wp_X6_lay 0 m_1 (fun m_2 =>
∃ n : Nat, wp_X6_trimSeen_l12 a1 q n 0 m_2)
set_option maxRecDepth 100000 in
set_option maxHeartbeats 4000000 in
theorem c_X6_trimSeen (l : Launch) (g : GG) (hI : Inj g) (μ : Mem) (a1 : Int32) (q : Int32 → Mem → Prop) (h : wp_X6_trimSeen a1 μ q) : Met l yX6_trimSeen (Cond.code yX6_trimSeen cX6_trimSeen 3 (some .int) :: wsL_law) ({ frames := 1, cells := 0, slots := 0, locals := 22 }) (KP g [.ref (g.1 6 0), .int a1] μ) (KQi g q) 0 0 (AA g) := by
  refine met_V (own := RX6) hI (by decide) rfl (Nat.le_of_ble_eq_true rfl) rfl (fun p e s m args below meth c X hr hlk => ?_)
  have L12 : ∀ (n : Nat) (b2 : Int32) (μ : Mem), wp_X6_trimSeen_l12 a1 q n b2 μ → V p l e ({ frames := 1, cells := 0, slots := 0, locals := 22 }) s m args below meth c 3 g (AA g) 0 0 (MQ below (KQi g q) args s 0 0 (AA g)) μ 12 [(0, .ref (g.1 6 0)), (1, .int a1), (2, .int b2)] [] := by
    intro n
    induction n with
    | zero => intro b2 μ h; exact h.elim
    | succ n ih =>
      have B47 : ∀ (b2 : Int32) (μ : Mem), wp_X6_trimSeen_b47 a1 q (wp_X6_trimSeen_l12 a1 q n) b2 μ → V p l e ({ frames := 1, cells := 0, slots := 0, locals := 22 }) s m args below meth c 3 g (AA g) 0 0 (MQ below (KQi g q) args s 0 0 (AA g)) μ 47 [(0, .ref (g.1 6 0)), (1, .int a1), (2, .int b2)] [] := by
        intro b2 μ h
        unfold wp_X6_trimSeen_b47 at h
        refine v_iinc (pc := 47) (lv' := [(2, .int (b2 + 1)), (0, .ref (g.1 6 0)), (1, .int a1)]) (j := 2) X rfl (congrArg (HAdd.hAdd _) cst_i_1) (by decide) rfl dX6_trimSeen_47 ?_
        refine v_goto (pc := 50) (tgt := 12) X dX6_trimSeen_50 (by decide) ?_
        refine v_sub [1, 2, 0] rfl ?_
        exact ih _ _ h
      intro b2 μ h
      unfold wp_X6_trimSeen_l12 at h
      refine v_iload_n (pc := 12) X rfl 2 rfl dX6_trimSeen_12 ?_
      refine v_bipush (pc := 13) X cst_b_6 dX6_trimSeen_13 ?_
      refine v_icmp_ge (pc := 15) (tgt := 53) X h dX6_trimSeen_15 (by decide) (fun h => ?_) (fun h => ?_)
      · refine v_aload_n (pc := 53) X rfl 0 rfl dX6_trimSeen_53 ?_
        refine v_callVi (pc := 54) X (c_X6_trimmed l g hI _ _ h) wd_436 wd_433 wd_434 wd_435 wd_5 ⟨rfl, rfl⟩ hdc_X6_trimmed ⟨Nat.le_of_ble_eq_true rfl, Nat.le_of_ble_eq_true rfl⟩ ⟨Nat.le_refl 0, Nat.le_refl 0⟩ Nat.one_pos rfl rfl (As := []) rfl rfl (Nat.le_of_ble_eq_true rfl) dX6_trimSeen_54 (fun x_2 m_1 h => ?_)
        exact v_iret (pc := 57) X hr hlk h dX6_trimSeen_57
      · refine v_aload_n (pc := 18) X rfl 0 rfl dX6_trimSeen_18 ?_
        refine gf_6_9 (pc := 19) X Nat.one_pos wd_100 dX6_trimSeen_19 ?_
        refine v_iload_n (pc := 22) X rfl 1 rfl dX6_trimSeen_22 ?_
        refine al_28 (pc := 23) X Nat.one_pos h dX6_trimSeen_23 (fun x_3 h => ?_)
        refine v_iload_n (pc := 24) X rfl 2 rfl dX6_trimSeen_24 ?_
        refine v_ishr (pc := 25) X dX6_trimSeen_25 ?_
        refine v_iconst (pc := 26) X cst_i_1 dX6_trimSeen_26 ?_
        refine v_iand (pc := 27) X dX6_trimSeen_27 ?_
        refine v_iconst (pc := 28) X cst_i_1 dX6_trimSeen_28 ?_
        refine v_icmp_ne (pc := 29) (tgt := 47) X h dX6_trimSeen_29 (by decide) (fun h => ?_) (fun h => ?_)
        · exact B47 _ _ h
        · refine v_aload_n (pc := 32) X rfl 0 rfl dX6_trimSeen_32 ?_
          refine v_aload_n (pc := 33) X rfl 0 rfl dX6_trimSeen_33 ?_
          refine gf_6_12 (pc := 34) X Nat.one_pos wd_103 dX6_trimSeen_34 ?_
          refine v_bipush (pc := 37) X cst_b_6 dX6_trimSeen_37 ?_
          refine v_iload_n (pc := 39) X rfl 1 rfl dX6_trimSeen_39 ?_
          refine v_imul (pc := 40) X dX6_trimSeen_40 ?_
          refine v_iload_n (pc := 41) X rfl 2 rfl dX6_trimSeen_41 ?_
          refine v_iadd (pc := 42) X dX6_trimSeen_42 ?_
          refine al_31 (pc := 43) X Nat.one_pos h dX6_trimSeen_43 (fun x_4 h => ?_)
          refine v_callVv (pc := 44) X (c_X6_lay l g hI _ _ _ h) wd_432 wd_429 wd_430 wd_431 wd_5 ⟨rfl, rfl⟩ hdc_X6_lay ⟨Nat.le_of_ble_eq_true rfl, Nat.le_of_ble_eq_true rfl⟩ ⟨Nat.le_refl 0, Nat.le_refl 0⟩ Nat.one_pos rfl rfl (As := [.int x_4]) rfl rfl (Nat.le_of_ble_eq_true rfl) dX6_trimSeen_44 (fun m_5 h => ?_)
          exact B47 _ _ h
  unfold wp_X6_trimSeen at h
  refine v_aload_n (pc := 0) X rfl 0 rfl dX6_trimSeen_0 ?_
  refine v_iconst (pc := 1) X cst_i_0 dX6_trimSeen_1 ?_
  refine pf_6_4 (pc := 2) X Nat.one_pos wd_428 h dX6_trimSeen_2 (fun m_1 h => ?_)
  refine v_aload_n (pc := 5) X rfl 0 rfl dX6_trimSeen_5 ?_
  refine v_iconst (pc := 6) X cst_i_0 dX6_trimSeen_6 ?_
  refine v_callVv (pc := 7) X (c_X6_lay l g hI _ _ _ h) wd_432 wd_429 wd_430 wd_431 wd_5 ⟨rfl, rfl⟩ hdc_X6_lay ⟨Nat.le_of_ble_eq_true rfl, Nat.le_of_ble_eq_true rfl⟩ ⟨Nat.le_refl 0, Nat.le_refl 0⟩ Nat.one_pos rfl rfl (As := [.int 0]) rfl rfl (Nat.le_of_ble_eq_true rfl) dX6_trimSeen_7 (fun m_2 h => ?_)
  refine v_iconst (pc := 10) X cst_i_0 dX6_trimSeen_10 ?_
  refine v_istore_n (pc := 11) (lv' := [(2, .int 0), (0, .ref (g.1 6 0)), (1, .int a1)]) X rfl (by decide) rfl dX6_trimSeen_11 ?_
  refine v_sub [1, 2, 0] rfl ?_
  obtain ⟨n, h⟩ := h
  exact L12 n _ _ h

def wp_X6_trimChanged_b71 (a1 : Int32) (q : Int32 → Mem → Prop) (K : Int32 → Mem → Prop) (b2 : Int32) (μ : Mem) : Prop :=
K (b2 + 1) μ
def wp_X6_trimChanged_l12 (a1 : Int32) (q : Int32 → Mem → Prop) : Nat → Int32 → Mem → Prop
  | 0 => fun _ _ => False
  | n + 1 => fun b2 μ =>
(((nI 6) ≤ b2 →
wp_X6_trimmed  μ (fun x_2 m_1 =>
q x_2 m_1)) ∧ (¬ (nI 6) ≤ b2 →
vp_in a1 6 ∧ ∀ x_3 : Int32, x_3 = μ 28 0 (a1 : Int32).toNatClampNeg →
vp_in ((nI 84) + a1) 256 ∧ ∀ x_4 : Int32, x_4 = μ 20 0 (((nI 84) + a1) : Int32).toNatClampNeg →
((((x_3 &&& x_4) &&& (1 <<< (b2 &&& 31))) = 0 →
wp_X6_trimChanged_b71 a1 q (wp_X6_trimChanged_l12 a1 q n) b2 μ) ∧ (¬ ((x_3 &&& x_4) &&& (1 <<< (b2 &&& 31))) = 0 →
vp_in (((nI 6) * a1) + b2) 36 ∧ ∀ x_5 : Int32, x_5 = μ 31 0 ((((nI 6) * a1) + b2) : Int32).toNatClampNeg →
vp_in (((nI 96) + ((nI 6) * a1)) + b2) 256 ∧ ∀ x_6 : Int32, x_6 = μ 20 0 ((((nI 96) + ((nI 6) * a1)) + b2) : Int32).toNatClampNeg →
wp_X6_lay (x_5 - x_6) μ (fun m_7 =>
wp_X6_trimChanged_b71 a1 q (wp_X6_trimChanged_l12 a1 q n) b2 m_7)))))
def wp_X6_trimChanged (a1 : Int32) (μ : Mem) (q : Int32 → Mem → Prop) : Prop :=
∀ m_1 : Mem, m_1 = ms μ 6 0 4 0 →
wp_X6_lay 0 m_1 (fun m_2 =>
∃ n : Nat, wp_X6_trimChanged_l12 a1 q n 0 m_2)
set_option maxRecDepth 100000 in
set_option maxHeartbeats 4000000 in
theorem c_X6_trimChanged (l : Launch) (g : GG) (hI : Inj g) (μ : Mem) (a1 : Int32) (q : Int32 → Mem → Prop) (h : wp_X6_trimChanged a1 μ q) : Met l yX6_trimChanged (Cond.code yX6_trimChanged cX6_trimChanged 3 (some .int) :: wsL_law) ({ frames := 1, cells := 0, slots := 0, locals := 22 }) (KP g [.ref (g.1 6 0), .int a1] μ) (KQi g q) 0 0 (AA g) := by
  refine met_V (own := RX6) hI (by decide) rfl (Nat.le_of_ble_eq_true rfl) rfl (fun p e s m args below meth c X hr hlk => ?_)
  have L12 : ∀ (n : Nat) (b2 : Int32) (μ : Mem), wp_X6_trimChanged_l12 a1 q n b2 μ → V p l e ({ frames := 1, cells := 0, slots := 0, locals := 22 }) s m args below meth c 3 g (AA g) 0 0 (MQ below (KQi g q) args s 0 0 (AA g)) μ 12 [(0, .ref (g.1 6 0)), (1, .int a1), (2, .int b2)] [] := by
    intro n
    induction n with
    | zero => intro b2 μ h; exact h.elim
    | succ n ih =>
      have B71 : ∀ (b2 : Int32) (μ : Mem), wp_X6_trimChanged_b71 a1 q (wp_X6_trimChanged_l12 a1 q n) b2 μ → V p l e ({ frames := 1, cells := 0, slots := 0, locals := 22 }) s m args below meth c 3 g (AA g) 0 0 (MQ below (KQi g q) args s 0 0 (AA g)) μ 71 [(0, .ref (g.1 6 0)), (1, .int a1), (2, .int b2)] [] := by
        intro b2 μ h
        unfold wp_X6_trimChanged_b71 at h
        refine v_iinc (pc := 71) (lv' := [(2, .int (b2 + 1)), (0, .ref (g.1 6 0)), (1, .int a1)]) (j := 2) X rfl (congrArg (HAdd.hAdd _) cst_i_1) (by decide) rfl dX6_trimChanged_71 ?_
        refine v_goto (pc := 74) (tgt := 12) X dX6_trimChanged_74 (by decide) ?_
        refine v_sub [1, 2, 0] rfl ?_
        exact ih _ _ h
      intro b2 μ h
      unfold wp_X6_trimChanged_l12 at h
      refine v_iload_n (pc := 12) X rfl 2 rfl dX6_trimChanged_12 ?_
      refine v_bipush (pc := 13) X cst_b_6 dX6_trimChanged_13 ?_
      refine v_icmp_ge (pc := 15) (tgt := 77) X h dX6_trimChanged_15 (by decide) (fun h => ?_) (fun h => ?_)
      · refine v_aload_n (pc := 77) X rfl 0 rfl dX6_trimChanged_77 ?_
        refine v_callVi (pc := 78) X (c_X6_trimmed l g hI _ _ h) wd_436 wd_433 wd_434 wd_435 wd_5 ⟨rfl, rfl⟩ hdc_X6_trimmed ⟨Nat.le_of_ble_eq_true rfl, Nat.le_of_ble_eq_true rfl⟩ ⟨Nat.le_refl 0, Nat.le_refl 0⟩ Nat.one_pos rfl rfl (As := []) rfl rfl (Nat.le_of_ble_eq_true rfl) dX6_trimChanged_78 (fun x_2 m_1 h => ?_)
        exact v_iret (pc := 81) X hr hlk h dX6_trimChanged_81
      · refine v_aload_n (pc := 18) X rfl 0 rfl dX6_trimChanged_18 ?_
        refine gf_6_9 (pc := 19) X Nat.one_pos wd_100 dX6_trimChanged_19 ?_
        refine v_iload_n (pc := 22) X rfl 1 rfl dX6_trimChanged_22 ?_
        refine al_28 (pc := 23) X Nat.one_pos h dX6_trimChanged_23 (fun x_3 h => ?_)
        refine v_aload_n (pc := 24) X rfl 0 rfl dX6_trimChanged_24 ?_
        refine gf_6_0 (pc := 25) X Nat.one_pos wd_91 dX6_trimChanged_25 ?_
        refine v_bipush (pc := 28) X cst_b_84 dX6_trimChanged_28 ?_
        refine v_iload_n (pc := 30) X rfl 1 rfl dX6_trimChanged_30 ?_
        refine v_iadd (pc := 31) X dX6_trimChanged_31 ?_
        refine al_20 (pc := 32) X Nat.one_pos h dX6_trimChanged_32 (fun x_4 h => ?_)
        refine v_iand (pc := 33) X dX6_trimChanged_33 ?_
        refine v_iconst (pc := 34) X cst_i_1 dX6_trimChanged_34 ?_
        refine v_iload_n (pc := 35) X rfl 2 rfl dX6_trimChanged_35 ?_
        refine v_ishl (pc := 36) X dX6_trimChanged_36 ?_
        refine v_iand (pc := 37) X dX6_trimChanged_37 ?_
        refine v_if_eq (pc := 38) (tgt := 71) X h dX6_trimChanged_38 (by decide) (fun h => ?_) (fun h => ?_)
        · exact B71 _ _ h
        · refine v_aload_n (pc := 41) X rfl 0 rfl dX6_trimChanged_41 ?_
          refine v_aload_n (pc := 42) X rfl 0 rfl dX6_trimChanged_42 ?_
          refine gf_6_12 (pc := 43) X Nat.one_pos wd_103 dX6_trimChanged_43 ?_
          refine v_bipush (pc := 46) X cst_b_6 dX6_trimChanged_46 ?_
          refine v_iload_n (pc := 48) X rfl 1 rfl dX6_trimChanged_48 ?_
          refine v_imul (pc := 49) X dX6_trimChanged_49 ?_
          refine v_iload_n (pc := 50) X rfl 2 rfl dX6_trimChanged_50 ?_
          refine v_iadd (pc := 51) X dX6_trimChanged_51 ?_
          refine al_31 (pc := 52) X Nat.one_pos h dX6_trimChanged_52 (fun x_5 h => ?_)
          refine v_aload_n (pc := 53) X rfl 0 rfl dX6_trimChanged_53 ?_
          refine gf_6_0 (pc := 54) X Nat.one_pos wd_91 dX6_trimChanged_54 ?_
          refine v_bipush (pc := 57) X cst_b_96 dX6_trimChanged_57 ?_
          refine v_bipush (pc := 59) X cst_b_6 dX6_trimChanged_59 ?_
          refine v_iload_n (pc := 61) X rfl 1 rfl dX6_trimChanged_61 ?_
          refine v_imul (pc := 62) X dX6_trimChanged_62 ?_
          refine v_iadd (pc := 63) X dX6_trimChanged_63 ?_
          refine v_iload_n (pc := 64) X rfl 2 rfl dX6_trimChanged_64 ?_
          refine v_iadd (pc := 65) X dX6_trimChanged_65 ?_
          refine al_20 (pc := 66) X Nat.one_pos h dX6_trimChanged_66 (fun x_6 h => ?_)
          refine v_isub (pc := 67) X dX6_trimChanged_67 ?_
          refine v_callVv (pc := 68) X (c_X6_lay l g hI _ _ _ h) wd_432 wd_429 wd_430 wd_431 wd_5 ⟨rfl, rfl⟩ hdc_X6_lay ⟨Nat.le_of_ble_eq_true rfl, Nat.le_of_ble_eq_true rfl⟩ ⟨Nat.le_refl 0, Nat.le_refl 0⟩ Nat.one_pos rfl rfl (As := [.int (x_5 - x_6)]) rfl rfl (Nat.le_of_ble_eq_true rfl) dX6_trimChanged_68 (fun m_7 h => ?_)
          exact B71 _ _ h
  unfold wp_X6_trimChanged at h
  refine v_aload_n (pc := 0) X rfl 0 rfl dX6_trimChanged_0 ?_
  refine v_iconst (pc := 1) X cst_i_0 dX6_trimChanged_1 ?_
  refine pf_6_4 (pc := 2) X Nat.one_pos wd_428 h dX6_trimChanged_2 (fun m_1 h => ?_)
  refine v_aload_n (pc := 5) X rfl 0 rfl dX6_trimChanged_5 ?_
  refine v_iconst (pc := 6) X cst_i_0 dX6_trimChanged_6 ?_
  refine v_callVv (pc := 7) X (c_X6_lay l g hI _ _ _ h) wd_432 wd_429 wd_430 wd_431 wd_5 ⟨rfl, rfl⟩ hdc_X6_lay ⟨Nat.le_of_ble_eq_true rfl, Nat.le_of_ble_eq_true rfl⟩ ⟨Nat.le_refl 0, Nat.le_refl 0⟩ Nat.one_pos rfl rfl (As := [.int 0]) rfl rfl (Nat.le_of_ble_eq_true rfl) dX6_trimChanged_7 (fun m_2 h => ?_)
  refine v_iconst (pc := 10) X cst_i_0 dX6_trimChanged_10 ?_
  refine v_istore_n (pc := 11) (lv' := [(2, .int 0), (0, .ref (g.1 6 0)), (1, .int a1)]) X rfl (by decide) rfl dX6_trimChanged_11 ?_
  refine v_sub [1, 2, 0] rfl ?_
  obtain ⟨n, h⟩ := h
  exact L12 n _ _ h

def wp_X6_correct_b30 (a1 : Int32) (q : Mem → Prop)  (μ : Mem) : Prop :=
vp_in ((nI 54) + a1) 256 ∧ ∀ x_1 : Int32, x_1 = μ 20 0 (((nI 54) + a1) : Int32).toNatClampNeg →
vp_in ((nI 54) + a1) 256 ∧ ∀ m_2 : Mem, m_2 = ms μ 20 0 (((nI 54) + a1) : Int32).toNatClampNeg (x_1 + 1) →
vp_in ((nI 48) + a1) 256 ∧ ∀ m_3 : Mem, m_3 = ms m_2 20 0 (((nI 48) + a1) : Int32).toNatClampNeg 0 →
q m_3
def wp_X6_correct_b137 (a1 : Int32) (q : Mem → Prop) (u0 : Nat) (t1 : Int32) (t2 : Int32) (μ : Mem) : Prop :=
vp_in t1 256 ∧ ∀ m_1 : Mem, m_1 = ms μ 20 u0 (t1 : Int32).toNatClampNeg t2 →
q m_1
def wp_X6_correct (a1 : Int32) (μ : Mem) (q : Mem → Prop) : Prop :=
wp_X6_trimSeen a1 μ (fun x_2 m_1 =>
vp_in a1 6 ∧ ∀ x_3 : Int32, x_3 = m_1 28 0 (a1 : Int32).toNatClampNeg →
((x_3 = 0 →
wp_X6_correct_b30 a1 q  m_1) ∧ (¬ x_3 = 0 →
wp_X6_plain x_2 m_1 (fun x_5 m_4 =>
vp_in (nI 132) 256 ∧ ∀ x_6 : Int32, x_6 = m_4 20 0 ((nI 132) : Int32).toNatClampNeg →
((x_5 ≤ x_6 →
vp_in ((nI 48) + a1) 256 ∧ ∀ x_7 : Int32, x_7 = m_4 20 0 (((nI 48) + a1) : Int32).toNatClampNeg →
vp_in ((nI 48) + a1) 256 ∧ ∀ m_8 : Mem, m_8 = ms m_4 20 0 (((nI 48) + a1) : Int32).toNatClampNeg (x_7 + 1) →
vp_in ((nI 54) + a1) 256 ∧ ∀ m_9 : Mem, m_9 = ms m_8 20 0 (((nI 54) + a1) : Int32).toNatClampNeg 0 →
vp_in ((nI 60) + a1) 256 ∧ ∀ x_10 : Int32, x_10 = m_9 20 0 (((nI 60) + a1) : Int32).toNatClampNeg →
vp_in ((nI 60) + a1) 256 ∧ ∀ m_11 : Mem, m_11 = ms m_9 20 0 (((nI 60) + a1) : Int32).toNatClampNeg (x_10 + x_2) →
vp_in ((nI 66) + a1) 256 ∧ ∀ x_12 : Int32, x_12 = m_11 20 0 (((nI 66) + a1) : Int32).toNatClampNeg →
wp_X6_trimChanged a1 m_11 (fun x_14 m_13 =>
∀ y_15 : Int32, y_15 = (x_12 + x_14) →
(((-100) ≤ y_15 →
((y_15 ≤ (nI 100) →
wp_X6_correct_b137 a1 q 0 ((nI 66) + a1) y_15 m_13) ∧ (¬ y_15 ≤ (nI 100) →
wp_X6_correct_b137 a1 q 0 ((nI 66) + a1) (nI 100) m_13))) ∧ (¬ (-100) ≤ y_15 →
wp_X6_correct_b137 a1 q 0 ((nI 66) + a1) (-100) m_13)))) ∧ (¬ x_5 ≤ x_6 →
wp_X6_correct_b30 a1 q  m_4))))))
set_option maxRecDepth 100000 in
set_option maxHeartbeats 4000000 in
theorem c_X6_correct (l : Launch) (g : GG) (hI : Inj g) (μ : Mem) (a1 : Int32) (q : Mem → Prop) (h : wp_X6_correct a1 μ q) : Met l yX6_correct (Cond.code yX6_correct cX6_correct 4 none :: wsL_law) ({ frames := 2, cells := 0, slots := 0, locals := 44 }) (KP g [.ref (g.1 6 0), .int a1] μ) (KQv g q) 0 0 (AA g) := by
  refine met_V (own := RX6) hI (by decide) rfl (Nat.le_of_ble_eq_true rfl) rfl (fun p e s m args below meth c X hr hlk => ?_)
  have B30 : ∀  (μ : Mem), wp_X6_correct_b30 a1 q  μ → V p l e ({ frames := 2, cells := 0, slots := 0, locals := 44 }) s m args below meth c 4 g (AA g) 0 0 (MQ below (KQv g q) args s 0 0 (AA g)) μ 30 [(0, .ref (g.1 6 0)), (1, .int a1)] [] := by
    intro  μ h
    unfold wp_X6_correct_b30 at h
    refine v_aload_n (pc := 30) X rfl 0 rfl dX6_correct_30 ?_
    refine gf_6_0 (pc := 31) X Nat.one_pos wd_91 dX6_correct_31 ?_
    refine v_bipush (pc := 34) X cst_b_54 dX6_correct_34 ?_
    refine v_iload_n (pc := 36) X rfl 1 rfl dX6_correct_36 ?_
    refine v_iadd (pc := 37) X dX6_correct_37 ?_
    refine v_dup2 (pc := 38) X rfl rfl dX6_correct_38 ?_
    refine al_20 (pc := 39) X Nat.one_pos h dX6_correct_39 (fun x_1 h => ?_)
    refine v_iconst (pc := 40) X cst_i_1 dX6_correct_40 ?_
    refine v_iadd (pc := 41) X dX6_correct_41 ?_
    refine as_20 (pc := 42) X Nat.one_pos h dX6_correct_42 (fun m_2 h => ?_)
    refine v_aload_n (pc := 43) X rfl 0 rfl dX6_correct_43 ?_
    refine gf_6_0 (pc := 44) X Nat.one_pos wd_91 dX6_correct_44 ?_
    refine v_bipush (pc := 47) X cst_b_48 dX6_correct_47 ?_
    refine v_iload_n (pc := 49) X rfl 1 rfl dX6_correct_49 ?_
    refine v_iadd (pc := 50) X dX6_correct_50 ?_
    refine v_iconst (pc := 51) X cst_i_0 dX6_correct_51 ?_
    refine as_20 (pc := 52) X Nat.one_pos h dX6_correct_52 (fun m_3 h => ?_)
    exact v_vret (pc := 53) X hr hlk h dX6_correct_53
  have B137 : ∀ (u0 : Nat) (hu0 : u0 < 1) (t1 : Int32) (t2 : Int32) (μ : Mem), wp_X6_correct_b137 a1 q u0 t1 t2 μ → V p l e ({ frames := 2, cells := 0, slots := 0, locals := 44 }) s m args below meth c 4 g (AA g) 0 0 (MQ below (KQv g q) args s 0 0 (AA g)) μ 137 [] [.int t2, .int t1, .ref (g.1 20 u0)] := by
    intro u0 hu0 t1 t2 μ h
    unfold wp_X6_correct_b137 at h
    refine as_20 (pc := 137) X hu0 h dX6_correct_137 (fun m_1 h => ?_)
    exact v_vret (pc := 138) X hr hlk h dX6_correct_138
  unfold wp_X6_correct at h
  refine v_aload_n (pc := 0) X rfl 0 rfl dX6_correct_0 ?_
  refine v_iload_n (pc := 1) X rfl 1 rfl dX6_correct_1 ?_
  refine v_callVi (pc := 2) X (c_X6_trimSeen l g hI _ _ _ h) wd_427 wd_424 wd_425 wd_426 wd_5 ⟨rfl, rfl⟩ hdc_X6_trimSeen ⟨Nat.le_of_ble_eq_true rfl, Nat.le_of_ble_eq_true rfl⟩ ⟨Nat.le_refl 0, Nat.le_refl 0⟩ Nat.one_pos rfl rfl (As := [.int a1]) rfl rfl (Nat.le_of_ble_eq_true rfl) dX6_correct_2 (fun x_2 m_1 h => ?_)
  refine v_istore_n (pc := 5) (lv' := [(2, .int x_2), (0, .ref (g.1 6 0)), (1, .int a1)]) X rfl (by decide) rfl dX6_correct_5 ?_
  refine v_aload_n (pc := 6) X rfl 1 rfl dX6_correct_6 ?_
  refine gf_6_9 (pc := 7) X Nat.one_pos wd_100 dX6_correct_7 ?_
  refine v_iload_n (pc := 10) X rfl 2 rfl dX6_correct_10 ?_
  refine al_28 (pc := 11) X Nat.one_pos h dX6_correct_11 (fun x_3 h => ?_)
  refine v_if_eq (pc := 12) (tgt := 30) X h dX6_correct_12 (by decide) (fun h => ?_) (fun h => ?_)
  · refine v_sub [1, 2] rfl ?_
    exact B30  _ h
  · refine v_iload_n (pc := 15) X rfl 0 rfl dX6_correct_15 ?_
    refine v_callSi (pc := 16) X (c_X6_plain l g hI _ _ _ h) wd_439 wd_437 wd_438 wd_5 ⟨rfl, rfl⟩ hdc_X6_plain ⟨Nat.le_of_ble_eq_true rfl, Nat.le_of_ble_eq_true rfl⟩ ⟨Nat.le_refl 0, Nat.le_refl 0⟩ (As := [.int x_2]) rfl rfl (Nat.le_of_ble_eq_true rfl) dX6_correct_16 (fun x_5 m_4 h => ?_)
    refine v_aload_n (pc := 19) X rfl 1 rfl dX6_correct_19 ?_
    refine gf_6_0 (pc := 20) X Nat.one_pos wd_91 dX6_correct_20 ?_
    refine v_sipush (pc := 23) X cst_s_132 dX6_correct_23 ?_
    refine al_20 (pc := 26) X Nat.one_pos h dX6_correct_26 (fun x_6 h => ?_)
    refine v_icmp_le (pc := 27) (tgt := 54) X h dX6_correct_27 (by decide) (fun h => ?_) (fun h => ?_)
    · refine v_aload_n (pc := 54) X rfl 1 rfl dX6_correct_54 ?_
      refine gf_6_0 (pc := 55) X Nat.one_pos wd_91 dX6_correct_55 ?_
      refine v_bipush (pc := 58) X cst_b_48 dX6_correct_58 ?_
      refine v_iload_n (pc := 60) X rfl 2 rfl dX6_correct_60 ?_
      refine v_iadd (pc := 61) X dX6_correct_61 ?_
      refine v_dup2 (pc := 62) X rfl rfl dX6_correct_62 ?_
      refine al_20 (pc := 63) X Nat.one_pos h dX6_correct_63 (fun x_7 h => ?_)
      refine v_iconst (pc := 64) X cst_i_1 dX6_correct_64 ?_
      refine v_iadd (pc := 65) X dX6_correct_65 ?_
      refine as_20 (pc := 66) X Nat.one_pos h dX6_correct_66 (fun m_8 h => ?_)
      refine v_aload_n (pc := 67) X rfl 1 rfl dX6_correct_67 ?_
      refine gf_6_0 (pc := 68) X Nat.one_pos wd_91 dX6_correct_68 ?_
      refine v_bipush (pc := 71) X cst_b_54 dX6_correct_71 ?_
      refine v_iload_n (pc := 73) X rfl 2 rfl dX6_correct_73 ?_
      refine v_iadd (pc := 74) X dX6_correct_74 ?_
      refine v_iconst (pc := 75) X cst_i_0 dX6_correct_75 ?_
      refine as_20 (pc := 76) X Nat.one_pos h dX6_correct_76 (fun m_9 h => ?_)
      refine v_aload_n (pc := 77) X rfl 1 rfl dX6_correct_77 ?_
      refine gf_6_0 (pc := 78) X Nat.one_pos wd_91 dX6_correct_78 ?_
      refine v_bipush (pc := 81) X cst_b_60 dX6_correct_81 ?_
      refine v_iload_n (pc := 83) X rfl 2 rfl dX6_correct_83 ?_
      refine v_iadd (pc := 84) X dX6_correct_84 ?_
      refine v_dup2 (pc := 85) X rfl rfl dX6_correct_85 ?_
      refine al_20 (pc := 86) X Nat.one_pos h dX6_correct_86 (fun x_10 h => ?_)
      refine v_iload_n (pc := 87) X rfl 0 rfl dX6_correct_87 ?_
      refine v_iadd (pc := 88) X dX6_correct_88 ?_
      refine as_20 (pc := 89) X Nat.one_pos h dX6_correct_89 (fun m_11 h => ?_)
      refine v_aload_n (pc := 90) X rfl 1 rfl dX6_correct_90 ?_
      refine gf_6_0 (pc := 91) X Nat.one_pos wd_91 dX6_correct_91 ?_
      refine v_bipush (pc := 94) X cst_b_66 dX6_correct_94 ?_
      refine v_iload_n (pc := 96) X rfl 2 rfl dX6_correct_96 ?_
      refine v_iadd (pc := 97) X dX6_correct_97 ?_
      refine al_20 (pc := 98) X Nat.one_pos h dX6_correct_98 (fun x_12 h => ?_)
      refine v_aload_n (pc := 99) X rfl 1 rfl dX6_correct_99 ?_
      refine v_iload_n (pc := 100) X rfl 2 rfl dX6_correct_100 ?_
      refine v_callVi (pc := 101) X (c_X6_trimChanged l g hI _ _ _ h) wd_443 wd_440 wd_441 wd_442 wd_5 ⟨rfl, rfl⟩ hdc_X6_trimChanged ⟨Nat.le_of_ble_eq_true rfl, Nat.le_of_ble_eq_true rfl⟩ ⟨Nat.le_refl 0, Nat.le_refl 0⟩ Nat.one_pos rfl rfl (As := [.int a1]) rfl rfl (Nat.le_of_ble_eq_true rfl) dX6_correct_101 (fun x_14 m_13 h => ?_)
      refine v_iadd (pc := 104) X dX6_correct_104 ?_
      refine v_nm h (fun y_15 h => ?_)
      refine v_istore_n (pc := 105) (lv' := [(3, .int y_15), (2, .int x_2), (0, .ref (g.1 6 0)), (1, .int a1)]) X rfl (by decide) rfl dX6_correct_105 ?_
      refine v_aload_n (pc := 106) X rfl 2 rfl dX6_correct_106 ?_
      refine gf_6_0 (pc := 107) X Nat.one_pos wd_91 dX6_correct_107 ?_
      refine v_bipush (pc := 110) X cst_b_66 dX6_correct_110 ?_
      refine v_iload_n (pc := 112) X rfl 3 rfl dX6_correct_112 ?_
      refine v_iadd (pc := 113) X dX6_correct_113 ?_
      refine v_iload_n (pc := 114) X rfl 0 rfl dX6_correct_114 ?_
      refine v_bipush (pc := 115) X cst_b_m100 dX6_correct_115 ?_
      refine v_icmp_ge (pc := 117) (tgt := 125) X h dX6_correct_117 (by decide) (fun h => ?_) (fun h => ?_)
      · refine v_iload_n (pc := 125) X rfl 0 rfl dX6_correct_125 ?_
        refine v_bipush (pc := 126) X cst_b_100 dX6_correct_126 ?_
        refine v_icmp_le (pc := 128) (tgt := 136) X h dX6_correct_128 (by decide) (fun h => ?_) (fun h => ?_)
        · refine v_iload_n (pc := 136) X rfl 0 rfl dX6_correct_136 ?_
          refine v_sub [] rfl ?_
          exact B137 _ Nat.one_pos _ _ _ h
        · refine v_bipush (pc := 131) X cst_b_100 dX6_correct_131 ?_
          refine v_goto (pc := 133) (tgt := 137) X dX6_correct_133 (by decide) ?_
          refine v_sub [] rfl ?_
          exact B137 _ Nat.one_pos _ _ _ h
      · refine v_bipush (pc := 120) X cst_b_m100 dX6_correct_120 ?_
        refine v_goto (pc := 122) (tgt := 137) X dX6_correct_122 (by decide) ?_
        refine v_sub [] rfl ?_
        exact B137 _ Nat.one_pos _ _ _ h
    · refine v_sub [1, 2] rfl ?_
      exact B30  _ h

def wp_X6_keepOn_b82 (a1 : Int32) (q : Mem → Prop)  (μ : Mem) : Prop :=
wp_X6_is a1 (nI 5) μ (fun x_2 m_1 =>
((x_2 = 0 →
q m_1) ∧ (¬ x_2 = 0 →
vp_in ((nI 48) + a1) 256 ∧ ∀ x_3 : Int32, x_3 = m_1 20 0 (((nI 48) + a1) : Int32).toNatClampNeg →
((x_3 < (nI 2) →
q m_1) ∧ (¬ x_3 < (nI 2) →
wp_X6_become a1 (nI 4) m_1 (fun m_4 =>
q m_4))))))
def wp_X6_keepOn_b50 (a1 : Int32) (q : Mem → Prop)  (μ : Mem) : Prop :=
wp_X6_is a1 (nI 5) μ (fun x_2 m_1 =>
((x_2 = 0 →
wp_X6_keepOn_b82 a1 q  m_1) ∧ (¬ x_2 = 0 →
vp_in ((nI 54) + a1) 256 ∧ ∀ x_3 : Int32, x_3 = m_1 20 0 (((nI 54) + a1) : Int32).toNatClampNeg →
((x_3 < (nI 3) →
wp_X6_keepOn_b82 a1 q  m_1) ∧ (¬ x_3 < (nI 3) →
wp_X6_become a1 (nI 6) m_1 (fun m_4 =>
q m_4))))))
def wp_X6_keepOn_b19 (a1 : Int32) (q : Mem → Prop)  (μ : Mem) : Prop :=
wp_X6_is a1 (nI 4) μ (fun x_2 m_1 =>
((x_2 = 0 →
wp_X6_keepOn_b50 a1 q  m_1) ∧ (¬ x_2 = 0 →
vp_in ((nI 54) + a1) 256 ∧ ∀ x_3 : Int32, x_3 = m_1 20 0 (((nI 54) + a1) : Int32).toNatClampNeg →
((x_3 < 1 →
wp_X6_keepOn_b50 a1 q  m_1) ∧ (¬ x_3 < 1 →
wp_X6_become a1 (nI 5) m_1 (fun m_4 =>
q m_4))))))
def wp_X6_keepOn (a1 : Int32) (μ : Mem) (q : Mem → Prop) : Prop :=
vp_in (nI 133) 256 ∧ ∀ x_1 : Int32, x_1 = μ 20 0 ((nI 133) : Int32).toNatClampNeg →
((¬ (x_1 - x_1 / (nI 2) * (nI 2)) = 1 →
wp_X6_keepOn_b19 a1 q  μ) ∧ ((x_1 - x_1 / (nI 2) * (nI 2)) = 1 →
wp_X6_correct a1 μ (fun m_2 =>
wp_X6_keepOn_b19 a1 q  m_2)))
set_option maxRecDepth 100000 in
set_option maxHeartbeats 4000000 in
theorem c_X6_keepOn (l : Launch) (g : GG) (hI : Inj g) (μ : Mem) (a1 : Int32) (q : Mem → Prop) (h : wp_X6_keepOn a1 μ q) : Met l yX6_keepOn (Cond.code yX6_keepOn cX6_keepOn 2 none :: wsL_law) ({ frames := 3, cells := 0, slots := 0, locals := 67 }) (KP g [.ref (g.1 6 0), .int a1] μ) (KQv g q) 0 0 (AA g) := by
  refine met_V (own := RX6) hI (by decide) rfl (Nat.le_of_ble_eq_true rfl) rfl (fun p e s m args below meth c X hr hlk => ?_)
  have B82 : ∀  (μ : Mem), wp_X6_keepOn_b82 a1 q  μ → V p l e ({ frames := 3, cells := 0, slots := 0, locals := 67 }) s m args below meth c 2 g (AA g) 0 0 (MQ below (KQv g q) args s 0 0 (AA g)) μ 82 [(0, .ref (g.1 6 0)), (1, .int a1)] [] := by
    intro  μ h
    unfold wp_X6_keepOn_b82 at h
    refine v_aload_n (pc := 82) X rfl 0 rfl dX6_keepOn_82 ?_
    refine v_iload_n (pc := 83) X rfl 1 rfl dX6_keepOn_83 ?_
    refine v_iconst (pc := 84) X cst_i_5 dX6_keepOn_84 ?_
    refine v_callVi (pc := 85) X (c_X6_is l g hI _ _ _ _ h) wd_138 wd_135 wd_136 wd_137 wd_5 ⟨rfl, rfl⟩ hdc_X6_is ⟨Nat.le_of_ble_eq_true rfl, Nat.le_of_ble_eq_true rfl⟩ ⟨Nat.le_refl 0, Nat.le_refl 0⟩ Nat.one_pos rfl rfl (As := [.int a1, .int (nI 5)]) rfl rfl (Nat.le_of_ble_eq_true rfl) dX6_keepOn_85 (fun x_2 m_1 h => ?_)
    refine v_if_eq (pc := 88) (tgt := 110) X h dX6_keepOn_88 (by decide) (fun h => ?_) (fun h => ?_)
    · exact v_vret (pc := 110) X hr hlk h dX6_keepOn_110
    · refine v_aload_n (pc := 91) X rfl 0 rfl dX6_keepOn_91 ?_
      refine gf_6_0 (pc := 92) X Nat.one_pos wd_91 dX6_keepOn_92 ?_
      refine v_bipush (pc := 95) X cst_b_48 dX6_keepOn_95 ?_
      refine v_iload_n (pc := 97) X rfl 1 rfl dX6_keepOn_97 ?_
      refine v_iadd (pc := 98) X dX6_keepOn_98 ?_
      refine al_20 (pc := 99) X Nat.one_pos h dX6_keepOn_99 (fun x_3 h => ?_)
      refine v_iconst (pc := 100) X cst_i_2 dX6_keepOn_100 ?_
      refine v_icmp_lt (pc := 101) (tgt := 110) X h dX6_keepOn_101 (by decide) (fun h => ?_) (fun h => ?_)
      · exact v_vret (pc := 110) X hr hlk h dX6_keepOn_110
      · refine v_aload_n (pc := 104) X rfl 0 rfl dX6_keepOn_104 ?_
        refine v_iload_n (pc := 105) X rfl 1 rfl dX6_keepOn_105 ?_
        refine v_iconst (pc := 106) X cst_i_4 dX6_keepOn_106 ?_
        refine v_callVv (pc := 107) X (c_X6_become l g hI _ _ _ _ h) wd_407 wd_404 wd_405 wd_406 wd_5 ⟨rfl, rfl⟩ hdc_X6_become ⟨Nat.le_of_ble_eq_true rfl, Nat.le_of_ble_eq_true rfl⟩ ⟨Nat.le_refl 0, Nat.le_refl 0⟩ Nat.one_pos rfl rfl (As := [.int a1, .int (nI 4)]) rfl rfl (Nat.le_of_ble_eq_true rfl) dX6_keepOn_107 (fun m_4 h => ?_)
        exact v_vret (pc := 110) X hr hlk h dX6_keepOn_110
  have B50 : ∀  (μ : Mem), wp_X6_keepOn_b50 a1 q  μ → V p l e ({ frames := 3, cells := 0, slots := 0, locals := 67 }) s m args below meth c 2 g (AA g) 0 0 (MQ below (KQv g q) args s 0 0 (AA g)) μ 50 [(0, .ref (g.1 6 0)), (1, .int a1)] [] := by
    intro  μ h
    unfold wp_X6_keepOn_b50 at h
    refine v_aload_n (pc := 50) X rfl 0 rfl dX6_keepOn_50 ?_
    refine v_iload_n (pc := 51) X rfl 1 rfl dX6_keepOn_51 ?_
    refine v_iconst (pc := 52) X cst_i_5 dX6_keepOn_52 ?_
    refine v_callVi (pc := 53) X (c_X6_is l g hI _ _ _ _ h) wd_138 wd_135 wd_136 wd_137 wd_5 ⟨rfl, rfl⟩ hdc_X6_is ⟨Nat.le_of_ble_eq_true rfl, Nat.le_of_ble_eq_true rfl⟩ ⟨Nat.le_refl 0, Nat.le_refl 0⟩ Nat.one_pos rfl rfl (As := [.int a1, .int (nI 5)]) rfl rfl (Nat.le_of_ble_eq_true rfl) dX6_keepOn_53 (fun x_2 m_1 h => ?_)
    refine v_if_eq (pc := 56) (tgt := 82) X h dX6_keepOn_56 (by decide) (fun h => ?_) (fun h => ?_)
    · exact B82  _ h
    · refine v_aload_n (pc := 59) X rfl 0 rfl dX6_keepOn_59 ?_
      refine gf_6_0 (pc := 60) X Nat.one_pos wd_91 dX6_keepOn_60 ?_
      refine v_bipush (pc := 63) X cst_b_54 dX6_keepOn_63 ?_
      refine v_iload_n (pc := 65) X rfl 1 rfl dX6_keepOn_65 ?_
      refine v_iadd (pc := 66) X dX6_keepOn_66 ?_
      refine al_20 (pc := 67) X Nat.one_pos h dX6_keepOn_67 (fun x_3 h => ?_)
      refine v_iconst (pc := 68) X cst_i_3 dX6_keepOn_68 ?_
      refine v_icmp_lt (pc := 69) (tgt := 82) X h dX6_keepOn_69 (by decide) (fun h => ?_) (fun h => ?_)
      · exact B82  _ h
      · refine v_aload_n (pc := 72) X rfl 0 rfl dX6_keepOn_72 ?_
        refine v_iload_n (pc := 73) X rfl 1 rfl dX6_keepOn_73 ?_
        refine v_bipush (pc := 74) X cst_b_6 dX6_keepOn_74 ?_
        refine v_callVv (pc := 76) X (c_X6_become l g hI _ _ _ _ h) wd_407 wd_404 wd_405 wd_406 wd_5 ⟨rfl, rfl⟩ hdc_X6_become ⟨Nat.le_of_ble_eq_true rfl, Nat.le_of_ble_eq_true rfl⟩ ⟨Nat.le_refl 0, Nat.le_refl 0⟩ Nat.one_pos rfl rfl (As := [.int a1, .int (nI 6)]) rfl rfl (Nat.le_of_ble_eq_true rfl) dX6_keepOn_76 (fun m_4 h => ?_)
        refine v_goto (pc := 79) (tgt := 110) X dX6_keepOn_79 (by decide) ?_
        exact v_vret (pc := 110) X hr hlk h dX6_keepOn_110
  have B19 : ∀  (μ : Mem), wp_X6_keepOn_b19 a1 q  μ → V p l e ({ frames := 3, cells := 0, slots := 0, locals := 67 }) s m args below meth c 2 g (AA g) 0 0 (MQ below (KQv g q) args s 0 0 (AA g)) μ 19 [(0, .ref (g.1 6 0)), (1, .int a1)] [] := by
    intro  μ h
    unfold wp_X6_keepOn_b19 at h
    refine v_aload_n (pc := 19) X rfl 0 rfl dX6_keepOn_19 ?_
    refine v_iload_n (pc := 20) X rfl 1 rfl dX6_keepOn_20 ?_
    refine v_iconst (pc := 21) X cst_i_4 dX6_keepOn_21 ?_
    refine v_callVi (pc := 22) X (c_X6_is l g hI _ _ _ _ h) wd_138 wd_135 wd_136 wd_137 wd_5 ⟨rfl, rfl⟩ hdc_X6_is ⟨Nat.le_of_ble_eq_true rfl, Nat.le_of_ble_eq_true rfl⟩ ⟨Nat.le_refl 0, Nat.le_refl 0⟩ Nat.one_pos rfl rfl (As := [.int a1, .int (nI 4)]) rfl rfl (Nat.le_of_ble_eq_true rfl) dX6_keepOn_22 (fun x_2 m_1 h => ?_)
    refine v_if_eq (pc := 25) (tgt := 50) X h dX6_keepOn_25 (by decide) (fun h => ?_) (fun h => ?_)
    · exact B50  _ h
    · refine v_aload_n (pc := 28) X rfl 0 rfl dX6_keepOn_28 ?_
      refine gf_6_0 (pc := 29) X Nat.one_pos wd_91 dX6_keepOn_29 ?_
      refine v_bipush (pc := 32) X cst_b_54 dX6_keepOn_32 ?_
      refine v_iload_n (pc := 34) X rfl 1 rfl dX6_keepOn_34 ?_
      refine v_iadd (pc := 35) X dX6_keepOn_35 ?_
      refine al_20 (pc := 36) X Nat.one_pos h dX6_keepOn_36 (fun x_3 h => ?_)
      refine v_iconst (pc := 37) X cst_i_1 dX6_keepOn_37 ?_
      refine v_icmp_lt (pc := 38) (tgt := 50) X h dX6_keepOn_38 (by decide) (fun h => ?_) (fun h => ?_)
      · exact B50  _ h
      · refine v_aload_n (pc := 41) X rfl 0 rfl dX6_keepOn_41 ?_
        refine v_iload_n (pc := 42) X rfl 1 rfl dX6_keepOn_42 ?_
        refine v_iconst (pc := 43) X cst_i_5 dX6_keepOn_43 ?_
        refine v_callVv (pc := 44) X (c_X6_become l g hI _ _ _ _ h) wd_407 wd_404 wd_405 wd_406 wd_5 ⟨rfl, rfl⟩ hdc_X6_become ⟨Nat.le_of_ble_eq_true rfl, Nat.le_of_ble_eq_true rfl⟩ ⟨Nat.le_refl 0, Nat.le_refl 0⟩ Nat.one_pos rfl rfl (As := [.int a1, .int (nI 5)]) rfl rfl (Nat.le_of_ble_eq_true rfl) dX6_keepOn_44 (fun m_4 h => ?_)
        refine v_goto (pc := 47) (tgt := 110) X dX6_keepOn_47 (by decide) ?_
        exact v_vret (pc := 110) X hr hlk h dX6_keepOn_110
  unfold wp_X6_keepOn at h
  refine v_aload_n (pc := 0) X rfl 0 rfl dX6_keepOn_0 ?_
  refine gf_6_0 (pc := 1) X Nat.one_pos wd_91 dX6_keepOn_1 ?_
  refine v_sipush (pc := 4) X cst_s_133 dX6_keepOn_4 ?_
  refine al_20 (pc := 7) X Nat.one_pos h dX6_keepOn_7 (fun x_1 h => ?_)
  refine v_iconst (pc := 8) X cst_i_2 dX6_keepOn_8 ?_
  refine v_irem (pc := 9) X (by decide) dX6_keepOn_9 ?_
  refine v_iconst (pc := 10) X cst_i_1 dX6_keepOn_10 ?_
  refine v_icmp_ne (pc := 11) (tgt := 19) X h dX6_keepOn_11 (by decide) (fun h => ?_) (fun h => ?_)
  · exact B19  _ h
  · refine v_aload_n (pc := 14) X rfl 0 rfl dX6_keepOn_14 ?_
    refine v_iload_n (pc := 15) X rfl 1 rfl dX6_keepOn_15 ?_
    refine v_callVv (pc := 16) X (c_X6_correct l g hI _ _ _ h) wd_423 wd_420 wd_421 wd_422 wd_5 ⟨rfl, rfl⟩ hdc_X6_correct ⟨Nat.le_of_ble_eq_true rfl, Nat.le_of_ble_eq_true rfl⟩ ⟨Nat.le_refl 0, Nat.le_refl 0⟩ Nat.one_pos rfl rfl (As := [.int a1]) rfl rfl (Nat.le_of_ble_eq_true rfl) dX6_keepOn_16 (fun m_2 h => ?_)
    exact B19  _ h

def wp_X6_end_b80 (a1 : Int32) (q : Mem → Prop)  (μ : Mem) : Prop :=
wp_X6_keepOn a1 μ (fun m_1 =>
q m_1)
def wp_X6_end_b14 (a1 : Int32) (q : Mem → Prop)  (μ : Mem) : Prop :=
vp_in ((nI 30) + a1) 256 ∧ ∀ x_1 : Int32, x_1 = μ 20 0 (((nI 30) + a1) : Int32).toNatClampNeg →
((x_1 = 1 →
wp_X6_listen a1 μ (fun m_3 =>
q m_3)) ∧ (¬ x_1 = 1 →
((x_1 = nI 2 →
wp_X6_lead a1 μ (fun m_5 =>
q m_5)) ∧ (¬ x_1 = nI 2 →
((x_1 = nI 3 →
wp_X6_join a1 μ (fun m_7 =>
q m_7)) ∧ (¬ x_1 = nI 3 →
((x_1 = nI 4 →
wp_X6_end_b80 a1 q  μ) ∧ (¬ x_1 = nI 4 →
((x_1 = nI 5 →
wp_X6_end_b80 a1 q  μ) ∧ (¬ x_1 = nI 5 →
q μ))))))))))
def wp_X6_end (a1 : Int32) (μ : Mem) (q : Mem → Prop) : Prop :=
vp_in a1 6 ∧ ∀ x_1 : Int32, x_1 = μ 26 0 (a1 : Int32).toNatClampNeg →
((x_1 = 0 →
wp_X6_end_b14 a1 q  μ) ∧ (¬ x_1 = 0 →
wp_X6_keepEvent a1 μ (fun m_2 =>
wp_X6_end_b14 a1 q  m_2)))
set_option maxRecDepth 100000 in
set_option maxHeartbeats 4000000 in
theorem c_X6_end (l : Launch) (g : GG) (hI : Inj g) (μ : Mem) (a1 : Int32) (q : Mem → Prop) (h : wp_X6_end a1 μ q) : Met l yX6_end (Cond.code yX6_end cX6_end 2 none :: wsL_law) ({ frames := 4, cells := 0, slots := 0, locals := 89 }) (KP g [.ref (g.1 6 0), .int a1] μ) (KQv g q) 0 0 (AA g) := by
  refine met_V (own := RX6) hI (by decide) rfl (Nat.le_of_ble_eq_true rfl) rfl (fun p e s m args below meth c X hr hlk => ?_)
  have B80 : ∀  (μ : Mem), wp_X6_end_b80 a1 q  μ → V p l e ({ frames := 4, cells := 0, slots := 0, locals := 89 }) s m args below meth c 2 g (AA g) 0 0 (MQ below (KQv g q) args s 0 0 (AA g)) μ 80 [(0, .ref (g.1 6 0)), (1, .int a1)] [] := by
    intro  μ h
    unfold wp_X6_end_b80 at h
    refine v_aload_n (pc := 80) X rfl 0 rfl dX6_end_80 ?_
    refine v_iload_n (pc := 81) X rfl 1 rfl dX6_end_81 ?_
    refine v_callVv (pc := 82) X (c_X6_keepOn l g hI _ _ _ h) wd_419 wd_416 wd_417 wd_418 wd_5 ⟨rfl, rfl⟩ hdc_X6_keepOn ⟨Nat.le_of_ble_eq_true rfl, Nat.le_of_ble_eq_true rfl⟩ ⟨Nat.le_refl 0, Nat.le_refl 0⟩ Nat.one_pos rfl rfl (As := [.int a1]) rfl rfl (Nat.le_of_ble_eq_true rfl) dX6_end_82 (fun m_1 h => ?_)
    refine v_goto (pc := 85) (tgt := 88) X dX6_end_85 (by decide) ?_
    exact v_vret (pc := 88) X hr hlk h dX6_end_88
  have B14 : ∀  (μ : Mem), wp_X6_end_b14 a1 q  μ → V p l e ({ frames := 4, cells := 0, slots := 0, locals := 89 }) s m args below meth c 2 g (AA g) 0 0 (MQ below (KQv g q) args s 0 0 (AA g)) μ 14 [(0, .ref (g.1 6 0)), (1, .int a1)] [] := by
    intro  μ h
    unfold wp_X6_end_b14 at h
    refine v_aload_n (pc := 14) X rfl 0 rfl dX6_end_14 ?_
    refine gf_6_0 (pc := 15) X Nat.one_pos wd_91 dX6_end_15 ?_
    refine v_bipush (pc := 18) X cst_b_30 dX6_end_18 ?_
    refine v_iload_n (pc := 20) X rfl 1 rfl dX6_end_20 ?_
    refine v_iadd (pc := 21) X dX6_end_21 ?_
    refine al_20 (pc := 22) X Nat.one_pos h dX6_end_22 (fun x_1 h => ?_)
    by_cases e_2 : x_1 = 1
    · replace h := h.1 e_2
      refine v_tswK (pc := 23) (tgt := 56) X 1 (by rw [e_2]; decide) (by decide) (by decide) rfl (by decide) dX6_end_23 ?_
      refine v_aload_n (pc := 56) X rfl 0 rfl dX6_end_56 ?_
      refine v_iload_n (pc := 57) X rfl 1 rfl dX6_end_57 ?_
      refine v_callVv (pc := 58) X (c_X6_listen l g hI _ _ _ h) wd_395 wd_392 wd_393 wd_394 wd_5 ⟨rfl, rfl⟩ hdc_X6_listen ⟨Nat.le_of_ble_eq_true rfl, Nat.le_of_ble_eq_true rfl⟩ ⟨Nat.le_refl 0, Nat.le_refl 0⟩ Nat.one_pos rfl rfl (As := [.int a1]) rfl rfl (Nat.le_of_ble_eq_true rfl) dX6_end_58 (fun m_3 h => ?_)
      refine v_goto (pc := 61) (tgt := 88) X dX6_end_61 (by decide) ?_
      exact v_vret (pc := 88) X hr hlk h dX6_end_88
    · replace h := h.2 e_2
      by_cases e_4 : x_1 = nI 2
      · replace h := h.1 e_4
        refine v_tswK (pc := 23) (tgt := 64) X 2 (by rw [e_4]; decide) (by decide) (by decide) rfl (by decide) dX6_end_23 ?_
        refine v_aload_n (pc := 64) X rfl 0 rfl dX6_end_64 ?_
        refine v_iload_n (pc := 65) X rfl 1 rfl dX6_end_65 ?_
        refine v_callVv (pc := 66) X (c_X6_lead l g hI _ _ _ h) wd_411 wd_408 wd_409 wd_410 wd_5 ⟨rfl, rfl⟩ hdc_X6_lead ⟨Nat.le_of_ble_eq_true rfl, Nat.le_of_ble_eq_true rfl⟩ ⟨Nat.le_refl 0, Nat.le_refl 0⟩ Nat.one_pos rfl rfl (As := [.int a1]) rfl rfl (Nat.le_of_ble_eq_true rfl) dX6_end_66 (fun m_5 h => ?_)
        refine v_goto (pc := 69) (tgt := 88) X dX6_end_69 (by decide) ?_
        exact v_vret (pc := 88) X hr hlk h dX6_end_88
      · replace h := h.2 e_4
        by_cases e_6 : x_1 = nI 3
        · replace h := h.1 e_6
          refine v_tswK (pc := 23) (tgt := 72) X 3 (by rw [e_6]; decide) (by decide) (by decide) rfl (by decide) dX6_end_23 ?_
          refine v_aload_n (pc := 72) X rfl 0 rfl dX6_end_72 ?_
          refine v_iload_n (pc := 73) X rfl 1 rfl dX6_end_73 ?_
          refine v_callVv (pc := 74) X (c_X6_join l g hI _ _ _ h) wd_415 wd_412 wd_413 wd_414 wd_5 ⟨rfl, rfl⟩ hdc_X6_join ⟨Nat.le_of_ble_eq_true rfl, Nat.le_of_ble_eq_true rfl⟩ ⟨Nat.le_refl 0, Nat.le_refl 0⟩ Nat.one_pos rfl rfl (As := [.int a1]) rfl rfl (Nat.le_of_ble_eq_true rfl) dX6_end_74 (fun m_7 h => ?_)
          refine v_goto (pc := 77) (tgt := 88) X dX6_end_77 (by decide) ?_
          exact v_vret (pc := 88) X hr hlk h dX6_end_88
        · replace h := h.2 e_6
          by_cases e_8 : x_1 = nI 4
          · replace h := h.1 e_8
            refine v_tswK (pc := 23) (tgt := 80) X 4 (by rw [e_8]; decide) (by decide) (by decide) rfl (by decide) dX6_end_23 ?_
            exact B80  _ h
          · replace h := h.2 e_8
            by_cases e_9 : x_1 = nI 5
            · replace h := h.1 e_9
              refine v_tswK (pc := 23) (tgt := 80) X 5 (by rw [e_9]; decide) (by decide) (by decide) rfl (by decide) dX6_end_23 ?_
              exact B80  _ h
            · replace h := h.2 e_9
              refine v_tswD (pc := 23) (tgt := 88) X (by have ne_2 := lv_neT e_2 (a := 1) (by decide); have ne_4 := lv_neT e_4 (a := 2) (by decide); have ne_6 := lv_neT e_6 (a := 3) (by decide); have ne_8 := lv_neT e_8 (a := 4) (by decide); have ne_9 := lv_neT e_9 (a := 5) (by decide); omega) (by decide) dX6_end_23 ?_
              exact v_vret (pc := 88) X hr hlk h dX6_end_88
  unfold wp_X6_end at h
  refine v_aload_n (pc := 0) X rfl 0 rfl dX6_end_0 ?_
  refine gf_6_7 (pc := 1) X Nat.one_pos wd_98 dX6_end_1 ?_
  refine v_iload_n (pc := 4) X rfl 1 rfl dX6_end_4 ?_
  refine al_26 (pc := 5) X Nat.one_pos h dX6_end_5 (fun x_1 h => ?_)
  refine v_if_eq (pc := 6) (tgt := 14) X h dX6_end_6 (by decide) (fun h => ?_) (fun h => ?_)
  · exact B14  _ h
  · refine v_aload_n (pc := 9) X rfl 0 rfl dX6_end_9 ?_
    refine v_iload_n (pc := 10) X rfl 1 rfl dX6_end_10 ?_
    refine v_callVv (pc := 11) X (c_X6_keepEvent l g hI _ _ _ h) wd_391 wd_388 wd_389 wd_390 wd_5 ⟨rfl, rfl⟩ hdc_X6_keepEvent ⟨Nat.le_of_ble_eq_true rfl, Nat.le_of_ble_eq_true rfl⟩ ⟨Nat.le_refl 0, Nat.le_refl 0⟩ Nat.one_pos rfl rfl (As := [.int a1]) rfl rfl (Nat.le_of_ble_eq_true rfl) dX6_end_11 (fun m_2 h => ?_)
    exact B14  _ h

def wp_X6_keepCycle_b173 (a1 : Int32) (q : Mem → Prop) (u0 : Nat) (t1 : Int32) (t2 : Int32) (t3 : Int32) (μ : Mem) : Prop :=
vp_in t1 256 ∧ ∀ m_1 : Mem, m_1 = ms μ 20 u0 (t1 : Int32).toNatClampNeg (t2 + t3) →
q m_1
def wp_X6_keepCycle_b149 (a1 : Int32) (q : Mem → Prop)  (μ : Mem) : Prop :=
vp_in ((nI 36) + a1) 256 ∧ ∀ x_1 : Int32, x_1 = μ 20 0 (((nI 36) + a1) : Int32).toNatClampNeg →
vp_in a1 6 ∧ ∀ x_2 : Int32, x_2 = μ 27 0 (a1 : Int32).toNatClampNeg →
((x_2 = 0 →
wp_X6_keepCycle_b173 a1 q 0 ((nI 36) + a1) x_1 1 μ) ∧ (¬ x_2 = 0 →
wp_X6_keepCycle_b173 a1 q 0 ((nI 36) + a1) x_1 0 μ))
def wp_X6_keepCycle_l73 (a1 : Int32) (q : Mem → Prop) : Nat → Int32 → Mem → Prop
  | 0 => fun _ _ => False
  | n + 1 => fun b2 μ =>
(((nI 6) ≤ b2 →
wp_X6_isOut a1 μ (fun x_2 m_1 =>
((¬ x_2 = 0 →
wp_X6_keepCycle_b149 a1 q  m_1) ∧ (x_2 = 0 →
vp_in ((nI 60) + a1) 256 ∧ ∀ x_3 : Int32, x_3 = m_1 20 0 (((nI 60) + a1) : Int32).toNatClampNeg →
vp_in ((nI 18) + a1) 256 ∧ ∀ x_4 : Int32, x_4 = m_1 20 0 (((nI 18) + a1) : Int32).toNatClampNeg →
vp_in ((nI 66) + a1) 256 ∧ ∀ x_5 : Int32, x_5 = m_1 20 0 (((nI 66) + a1) : Int32).toNatClampNeg →
vp_in ((nI 60) + a1) 256 ∧ ∀ m_6 : Mem, m_6 = ms m_1 20 0 (((nI 60) + a1) : Int32).toNatClampNeg (x_3 + (x_4 + x_5)) →
wp_X6_keepCycle_b149 a1 q  m_6)))) ∧ (¬ (nI 6) ≤ b2 →
vp_in (((nI 6) * a1) + b2) 36 ∧ ∀ x_7 : Int32, x_7 = μ 31 0 ((((nI 6) * a1) + b2) : Int32).toNatClampNeg →
vp_in (((nI 96) + ((nI 6) * a1)) + b2) 256 ∧ ∀ m_8 : Mem, m_8 = ms μ 20 0 ((((nI 96) + ((nI 6) * a1)) + b2) : Int32).toNatClampNeg x_7 →
wp_X6_keepCycle_l73 a1 q n (b2 + 1) m_8))
def wp_X6_keepCycle_b24 (a1 : Int32) (q : Mem → Prop) (u0 : Nat) (t1 : Int32) (t2 : Int32) (t3 : Int32) (μ : Mem) : Prop :=
vp_in t1 256 ∧ ∀ m_1 : Mem, m_1 = ms μ 20 u0 (t1 : Int32).toNatClampNeg (t2 + t3) →
vp_in a1 6 ∧ ∀ x_2 : Int32, x_2 = m_1 30 0 (a1 : Int32).toNatClampNeg →
vp_in ((nI 78) + a1) 256 ∧ ∀ m_3 : Mem, m_3 = ms m_1 20 0 (((nI 78) + a1) : Int32).toNatClampNeg x_2 →
vp_in a1 6 ∧ ∀ x_4 : Int32, x_4 = m_3 28 0 (a1 : Int32).toNatClampNeg →
vp_in ((nI 84) + a1) 256 ∧ ∀ m_5 : Mem, m_5 = ms m_3 20 0 (((nI 84) + a1) : Int32).toNatClampNeg x_4 →
vp_in a1 6 ∧ ∀ x_6 : Int32, x_6 = m_5 29 0 (a1 : Int32).toNatClampNeg →
vp_in ((nI 90) + a1) 256 ∧ ∀ m_7 : Mem, m_7 = ms m_5 20 0 (((nI 90) + a1) : Int32).toNatClampNeg x_6 →
∃ n : Nat, wp_X6_keepCycle_l73 a1 q n 0 m_7
def wp_X6_keepCycle (a1 : Int32) (μ : Mem) (q : Mem → Prop) : Prop :=
vp_in ((nI 72) + a1) 256 ∧ ∀ x_1 : Int32, x_1 = μ 20 0 (((nI 72) + a1) : Int32).toNatClampNeg →
vp_in a1 6 ∧ ∀ x_2 : Int32, x_2 = μ 24 0 (a1 : Int32).toNatClampNeg →
((x_2 = 0 →
wp_X6_keepCycle_b24 a1 q 0 ((nI 72) + a1) x_1 0 μ) ∧ (¬ x_2 = 0 →
wp_X6_keepCycle_b24 a1 q 0 ((nI 72) + a1) x_1 1 μ))
set_option maxRecDepth 100000 in
set_option maxHeartbeats 4000000 in
theorem c_X6_keepCycle (l : Launch) (g : GG) (hI : Inj g) (μ : Mem) (a1 : Int32) (q : Mem → Prop) (h : wp_X6_keepCycle a1 μ q) : Met l yX6_keepCycle (Cond.code yX6_keepCycle cX6_keepCycle 3 none :: wsL_law) ({ frames := 2, cells := 0, slots := 0, locals := 43 }) (KP g [.ref (g.1 6 0), .int a1] μ) (KQv g q) 0 0 (AA g) := by
  refine met_V (own := RX6) hI (by decide) rfl (Nat.le_of_ble_eq_true rfl) rfl (fun p e s m args below meth c X hr hlk => ?_)
  have B173 : ∀ (u0 : Nat) (hu0 : u0 < 1) (t1 : Int32) (t2 : Int32) (t3 : Int32) (μ : Mem), wp_X6_keepCycle_b173 a1 q u0 t1 t2 t3 μ → V p l e ({ frames := 2, cells := 0, slots := 0, locals := 43 }) s m args below meth c 3 g (AA g) 0 0 (MQ below (KQv g q) args s 0 0 (AA g)) μ 173 [] [.int t3, .int t2, .int t1, .ref (g.1 20 u0)] := by
    intro u0 hu0 t1 t2 t3 μ h
    unfold wp_X6_keepCycle_b173 at h
    refine v_iadd (pc := 173) X dX6_keepCycle_173 ?_
    refine as_20 (pc := 174) X hu0 h dX6_keepCycle_174 (fun m_1 h => ?_)
    exact v_vret (pc := 175) X hr hlk h dX6_keepCycle_175
  have B149 : ∀  (μ : Mem), wp_X6_keepCycle_b149 a1 q  μ → V p l e ({ frames := 2, cells := 0, slots := 0, locals := 43 }) s m args below meth c 3 g (AA g) 0 0 (MQ below (KQv g q) args s 0 0 (AA g)) μ 149 [(0, .ref (g.1 6 0)), (1, .int a1)] [] := by
    intro  μ h
    unfold wp_X6_keepCycle_b149 at h
    refine v_aload_n (pc := 149) X rfl 0 rfl dX6_keepCycle_149 ?_
    refine gf_6_0 (pc := 150) X Nat.one_pos wd_91 dX6_keepCycle_150 ?_
    refine v_bipush (pc := 153) X cst_b_36 dX6_keepCycle_153 ?_
    refine v_iload_n (pc := 155) X rfl 1 rfl dX6_keepCycle_155 ?_
    refine v_iadd (pc := 156) X dX6_keepCycle_156 ?_
    refine v_dup2 (pc := 157) X rfl rfl dX6_keepCycle_157 ?_
    refine al_20 (pc := 158) X Nat.one_pos h dX6_keepCycle_158 (fun x_1 h => ?_)
    refine v_aload_n (pc := 159) X rfl 0 rfl dX6_keepCycle_159 ?_
    refine gf_6_8 (pc := 160) X Nat.one_pos wd_99 dX6_keepCycle_160 ?_
    refine v_iload_n (pc := 163) X rfl 1 rfl dX6_keepCycle_163 ?_
    refine al_27 (pc := 164) X Nat.one_pos h dX6_keepCycle_164 (fun x_2 h => ?_)
    refine v_if_eq (pc := 165) (tgt := 172) X h dX6_keepCycle_165 (by decide) (fun h => ?_) (fun h => ?_)
    · refine v_iconst (pc := 172) X cst_i_1 dX6_keepCycle_172 ?_
      refine v_sub [] rfl ?_
      exact B173 _ Nat.one_pos _ _ _ _ h
    · refine v_iconst (pc := 168) X cst_i_0 dX6_keepCycle_168 ?_
      refine v_goto (pc := 169) (tgt := 173) X dX6_keepCycle_169 (by decide) ?_
      refine v_sub [] rfl ?_
      exact B173 _ Nat.one_pos _ _ _ _ h
  have L73 : ∀ (n : Nat) (b2 : Int32) (μ : Mem), wp_X6_keepCycle_l73 a1 q n b2 μ → V p l e ({ frames := 2, cells := 0, slots := 0, locals := 43 }) s m args below meth c 3 g (AA g) 0 0 (MQ below (KQv g q) args s 0 0 (AA g)) μ 73 [(0, .ref (g.1 6 0)), (1, .int a1), (2, .int b2)] [] := by
    intro n
    induction n with
    | zero => intro b2 μ h; exact h.elim
    | succ n ih =>
      intro b2 μ h
      unfold wp_X6_keepCycle_l73 at h
      refine v_iload_n (pc := 73) X rfl 2 rfl dX6_keepCycle_73 ?_
      refine v_bipush (pc := 74) X cst_b_6 dX6_keepCycle_74 ?_
      refine v_icmp_ge (pc := 76) (tgt := 110) X h dX6_keepCycle_76 (by decide) (fun h => ?_) (fun h => ?_)
      · refine v_aload_n (pc := 110) X rfl 0 rfl dX6_keepCycle_110 ?_
        refine v_iload_n (pc := 111) X rfl 1 rfl dX6_keepCycle_111 ?_
        refine v_callVi (pc := 112) X (c_X6_isOut l g hI _ _ _ h) wd_199 wd_196 wd_197 wd_198 wd_5 ⟨rfl, rfl⟩ hdc_X6_isOut ⟨Nat.le_of_ble_eq_true rfl, Nat.le_of_ble_eq_true rfl⟩ ⟨Nat.le_refl 0, Nat.le_refl 0⟩ Nat.one_pos rfl rfl (As := [.int a1]) rfl rfl (Nat.le_of_ble_eq_true rfl) dX6_keepCycle_112 (fun x_2 m_1 h => ?_)
        refine v_if_ne (pc := 115) (tgt := 149) X h dX6_keepCycle_115 (by decide) (fun h => ?_) (fun h => ?_)
        · refine v_sub [0, 1] rfl ?_
          exact B149  _ h
        · refine v_aload_n (pc := 118) X rfl 0 rfl dX6_keepCycle_118 ?_
          refine gf_6_0 (pc := 119) X Nat.one_pos wd_91 dX6_keepCycle_119 ?_
          refine v_bipush (pc := 122) X cst_b_60 dX6_keepCycle_122 ?_
          refine v_iload_n (pc := 124) X rfl 1 rfl dX6_keepCycle_124 ?_
          refine v_iadd (pc := 125) X dX6_keepCycle_125 ?_
          refine v_dup2 (pc := 126) X rfl rfl dX6_keepCycle_126 ?_
          refine al_20 (pc := 127) X Nat.one_pos h dX6_keepCycle_127 (fun x_3 h => ?_)
          refine v_aload_n (pc := 128) X rfl 0 rfl dX6_keepCycle_128 ?_
          refine gf_6_0 (pc := 129) X Nat.one_pos wd_91 dX6_keepCycle_129 ?_
          refine v_bipush (pc := 132) X cst_b_18 dX6_keepCycle_132 ?_
          refine v_iload_n (pc := 134) X rfl 1 rfl dX6_keepCycle_134 ?_
          refine v_iadd (pc := 135) X dX6_keepCycle_135 ?_
          refine al_20 (pc := 136) X Nat.one_pos h dX6_keepCycle_136 (fun x_4 h => ?_)
          refine v_aload_n (pc := 137) X rfl 0 rfl dX6_keepCycle_137 ?_
          refine gf_6_0 (pc := 138) X Nat.one_pos wd_91 dX6_keepCycle_138 ?_
          refine v_bipush (pc := 141) X cst_b_66 dX6_keepCycle_141 ?_
          refine v_iload_n (pc := 143) X rfl 1 rfl dX6_keepCycle_143 ?_
          refine v_iadd (pc := 144) X dX6_keepCycle_144 ?_
          refine al_20 (pc := 145) X Nat.one_pos h dX6_keepCycle_145 (fun x_5 h => ?_)
          refine v_iadd (pc := 146) X dX6_keepCycle_146 ?_
          refine v_iadd (pc := 147) X dX6_keepCycle_147 ?_
          refine as_20 (pc := 148) X Nat.one_pos h dX6_keepCycle_148 (fun m_6 h => ?_)
          refine v_sub [0, 1] rfl ?_
          exact B149  _ h
      · refine v_aload_n (pc := 79) X rfl 0 rfl dX6_keepCycle_79 ?_
        refine gf_6_0 (pc := 80) X Nat.one_pos wd_91 dX6_keepCycle_80 ?_
        refine v_bipush (pc := 83) X cst_b_96 dX6_keepCycle_83 ?_
        refine v_bipush (pc := 85) X cst_b_6 dX6_keepCycle_85 ?_
        refine v_iload_n (pc := 87) X rfl 1 rfl dX6_keepCycle_87 ?_
        refine v_imul (pc := 88) X dX6_keepCycle_88 ?_
        refine v_iadd (pc := 89) X dX6_keepCycle_89 ?_
        refine v_iload_n (pc := 90) X rfl 2 rfl dX6_keepCycle_90 ?_
        refine v_iadd (pc := 91) X dX6_keepCycle_91 ?_
        refine v_aload_n (pc := 92) X rfl 0 rfl dX6_keepCycle_92 ?_
        refine gf_6_12 (pc := 93) X Nat.one_pos wd_103 dX6_keepCycle_93 ?_
        refine v_bipush (pc := 96) X cst_b_6 dX6_keepCycle_96 ?_
        refine v_iload_n (pc := 98) X rfl 1 rfl dX6_keepCycle_98 ?_
        refine v_imul (pc := 99) X dX6_keepCycle_99 ?_
        refine v_iload_n (pc := 100) X rfl 2 rfl dX6_keepCycle_100 ?_
        refine v_iadd (pc := 101) X dX6_keepCycle_101 ?_
        refine al_31 (pc := 102) X Nat.one_pos h dX6_keepCycle_102 (fun x_7 h => ?_)
        refine as_20 (pc := 103) X Nat.one_pos h dX6_keepCycle_103 (fun m_8 h => ?_)
        refine v_iinc (pc := 104) (lv' := [(2, .int (b2 + 1)), (0, .ref (g.1 6 0)), (1, .int a1)]) (j := 2) X rfl (congrArg (HAdd.hAdd _) cst_i_1) (by decide) rfl dX6_keepCycle_104 ?_
        refine v_goto (pc := 107) (tgt := 73) X dX6_keepCycle_107 (by decide) ?_
        refine v_sub [1, 2, 0] rfl ?_
        exact ih _ _ h
  have B24 : ∀ (u0 : Nat) (hu0 : u0 < 1) (t1 : Int32) (t2 : Int32) (t3 : Int32) (μ : Mem), wp_X6_keepCycle_b24 a1 q u0 t1 t2 t3 μ → V p l e ({ frames := 2, cells := 0, slots := 0, locals := 43 }) s m args below meth c 3 g (AA g) 0 0 (MQ below (KQv g q) args s 0 0 (AA g)) μ 24 [(0, .ref (g.1 6 0)), (1, .int a1)] [.int t3, .int t2, .int t1, .ref (g.1 20 u0)] := by
    intro u0 hu0 t1 t2 t3 μ h
    unfold wp_X6_keepCycle_b24 at h
    refine v_iadd (pc := 24) X dX6_keepCycle_24 ?_
    refine as_20 (pc := 25) X hu0 h dX6_keepCycle_25 (fun m_1 h => ?_)
    refine v_aload_n (pc := 26) X rfl 0 rfl dX6_keepCycle_26 ?_
    refine gf_6_0 (pc := 27) X Nat.one_pos wd_91 dX6_keepCycle_27 ?_
    refine v_bipush (pc := 30) X cst_b_78 dX6_keepCycle_30 ?_
    refine v_iload_n (pc := 32) X rfl 1 rfl dX6_keepCycle_32 ?_
    refine v_iadd (pc := 33) X dX6_keepCycle_33 ?_
    refine v_aload_n (pc := 34) X rfl 0 rfl dX6_keepCycle_34 ?_
    refine gf_6_11 (pc := 35) X Nat.one_pos wd_102 dX6_keepCycle_35 ?_
    refine v_iload_n (pc := 38) X rfl 1 rfl dX6_keepCycle_38 ?_
    refine al_30 (pc := 39) X Nat.one_pos h dX6_keepCycle_39 (fun x_2 h => ?_)
    refine as_20 (pc := 40) X Nat.one_pos h dX6_keepCycle_40 (fun m_3 h => ?_)
    refine v_aload_n (pc := 41) X rfl 0 rfl dX6_keepCycle_41 ?_
    refine gf_6_0 (pc := 42) X Nat.one_pos wd_91 dX6_keepCycle_42 ?_
    refine v_bipush (pc := 45) X cst_b_84 dX6_keepCycle_45 ?_
    refine v_iload_n (pc := 47) X rfl 1 rfl dX6_keepCycle_47 ?_
    refine v_iadd (pc := 48) X dX6_keepCycle_48 ?_
    refine v_aload_n (pc := 49) X rfl 0 rfl dX6_keepCycle_49 ?_
    refine gf_6_9 (pc := 50) X Nat.one_pos wd_100 dX6_keepCycle_50 ?_
    refine v_iload_n (pc := 53) X rfl 1 rfl dX6_keepCycle_53 ?_
    refine al_28 (pc := 54) X Nat.one_pos h dX6_keepCycle_54 (fun x_4 h => ?_)
    refine as_20 (pc := 55) X Nat.one_pos h dX6_keepCycle_55 (fun m_5 h => ?_)
    refine v_aload_n (pc := 56) X rfl 0 rfl dX6_keepCycle_56 ?_
    refine gf_6_0 (pc := 57) X Nat.one_pos wd_91 dX6_keepCycle_57 ?_
    refine v_bipush (pc := 60) X cst_b_90 dX6_keepCycle_60 ?_
    refine v_iload_n (pc := 62) X rfl 1 rfl dX6_keepCycle_62 ?_
    refine v_iadd (pc := 63) X dX6_keepCycle_63 ?_
    refine v_aload_n (pc := 64) X rfl 0 rfl dX6_keepCycle_64 ?_
    refine gf_6_10 (pc := 65) X Nat.one_pos wd_101 dX6_keepCycle_65 ?_
    refine v_iload_n (pc := 68) X rfl 1 rfl dX6_keepCycle_68 ?_
    refine al_29 (pc := 69) X Nat.one_pos h dX6_keepCycle_69 (fun x_6 h => ?_)
    refine as_20 (pc := 70) X Nat.one_pos h dX6_keepCycle_70 (fun m_7 h => ?_)
    refine v_iconst (pc := 71) X cst_i_0 dX6_keepCycle_71 ?_
    refine v_istore_n (pc := 72) (lv' := [(2, .int 0), (0, .ref (g.1 6 0)), (1, .int a1)]) X rfl (by decide) rfl dX6_keepCycle_72 ?_
    refine v_sub [1, 2, 0] rfl ?_
    obtain ⟨n, h⟩ := h
    exact L73 n _ _ h
  unfold wp_X6_keepCycle at h
  refine v_aload_n (pc := 0) X rfl 0 rfl dX6_keepCycle_0 ?_
  refine gf_6_0 (pc := 1) X Nat.one_pos wd_91 dX6_keepCycle_1 ?_
  refine v_bipush (pc := 4) X cst_b_72 dX6_keepCycle_4 ?_
  refine v_iload_n (pc := 6) X rfl 1 rfl dX6_keepCycle_6 ?_
  refine v_iadd (pc := 7) X dX6_keepCycle_7 ?_
  refine v_dup2 (pc := 8) X rfl rfl dX6_keepCycle_8 ?_
  refine al_20 (pc := 9) X Nat.one_pos h dX6_keepCycle_9 (fun x_1 h => ?_)
  refine v_aload_n (pc := 10) X rfl 0 rfl dX6_keepCycle_10 ?_
  refine gf_6_5 (pc := 11) X Nat.one_pos wd_96 dX6_keepCycle_11 ?_
  refine v_iload_n (pc := 14) X rfl 1 rfl dX6_keepCycle_14 ?_
  refine al_24 (pc := 15) X Nat.one_pos h dX6_keepCycle_15 (fun x_2 h => ?_)
  refine v_if_eq (pc := 16) (tgt := 23) X h dX6_keepCycle_16 (by decide) (fun h => ?_) (fun h => ?_)
  · refine v_iconst (pc := 23) X cst_i_0 dX6_keepCycle_23 ?_
    exact B24 _ Nat.one_pos _ _ _ _ h
  · refine v_iconst (pc := 19) X cst_i_1 dX6_keepCycle_19 ?_
    refine v_goto (pc := 20) (tgt := 24) X dX6_keepCycle_20 (by decide) ?_
    exact B24 _ Nat.one_pos _ _ _ _ h

def wp_X6_cycle_l95  (q : Mem → Prop) : Nat → Int32 → Mem → Prop
  | 0 => fun _ _ => False
  | n + 1 => fun b1 μ =>
(((nI 6) ≤ b1 →
vp_in (nI 133) 256 ∧ ∀ x_1 : Int32, x_1 = μ 20 0 ((nI 133) : Int32).toNatClampNeg →
vp_in (nI 133) 256 ∧ ∀ m_2 : Mem, m_2 = ms μ 20 0 ((nI 133) : Int32).toNatClampNeg (x_1 + 1) →
q m_2) ∧ (¬ (nI 6) ≤ b1 →
wp_X6_keepCycle b1 μ (fun m_3 =>
wp_X6_cycle_l95  q n (b1 + 1) m_3)))
def wp_X6_cycle_l76  (q : Mem → Prop) : Nat → Int32 → Mem → Prop
  | 0 => fun _ _ => False
  | n + 1 => fun b1 μ =>
(((nI 6) ≤ b1 →
∃ n : Nat, wp_X6_cycle_l95  q n 0 μ) ∧ (¬ (nI 6) ≤ b1 →
wp_X6_end b1 μ (fun m_1 =>
wp_X6_cycle_l76  q n (b1 + 1) m_1)))
def wp_X6_cycle_b66  (q : Mem → Prop) (K : Int32 → Mem → Prop) (b1 : Int32) (u0 : Nat) (t1 : Int32) (t2 : Int32) (t3 : Int32) (μ : Mem) : Prop :=
vp_in t1 256 ∧ ∀ m_1 : Mem, m_1 = ms μ 20 u0 (t1 : Int32).toNatClampNeg (t2 ||| t3) →
K (b1 + 1) m_1
def wp_X6_cycle_l15  (q : Mem → Prop) : Nat → Int32 → Mem → Prop
  | 0 => fun _ _ => False
  | n + 1 => fun b1 μ =>
(((nI 6) ≤ b1 →
∃ n : Nat, wp_X6_cycle_l76  q n 0 μ) ∧ (¬ (nI 6) ≤ b1 →
wp_X6_hear b1 μ (fun m_1 =>
vp_in ((nI 66) + b1) 256 ∧ ∀ x_2 : Int32, x_2 = m_1 20 0 (((nI 66) + b1) : Int32).toNatClampNeg →
vp_in b1 6 ∧ ∀ m_3 : Mem, m_3 = ms m_1 32 0 (b1 : Int32).toNatClampNeg x_2 →
vp_in (nI 134) 256 ∧ ∀ x_4 : Int32, x_4 = m_3 20 0 ((nI 134) : Int32).toNatClampNeg →
vp_in b1 6 ∧ ∀ x_5 : Int32, x_5 = m_3 24 0 (b1 : Int32).toNatClampNeg →
((x_5 = 0 →
wp_X6_cycle_b66  q (wp_X6_cycle_l15  q n) b1 0 (nI 134) x_4 0 m_3) ∧ (¬ x_5 = 0 →
wp_X6_cycle_b66  q (wp_X6_cycle_l15  q n) b1 0 (nI 134) x_4 (1 <<< (b1 &&& 31)) m_3)))))
def wp_X6_cycle  (μ : Mem) (q : Mem → Prop) : Prop :=
wp_X6_laySenders  μ (fun m_1 =>
vp_in (nI 134) 256 ∧ ∀ m_2 : Mem, m_2 = ms m_1 20 0 ((nI 134) : Int32).toNatClampNeg 0 →
∃ n : Nat, wp_X6_cycle_l15  q n 0 m_2)
set_option maxRecDepth 100000 in
set_option maxHeartbeats 4000000 in
theorem c_X6_cycle (l : Launch) (g : GG) (hI : Inj g) (μ : Mem)  (q : Mem → Prop) (h : wp_X6_cycle  μ q) : Met l yX6_cycle (Cond.code yX6_cycle cX6_cycle 2 none :: wsL_law) ({ frames := 5, cells := 0, slots := 0, locals := 110 }) (KP g [.ref (g.1 6 0)] μ) (KQv g q) 0 0 (AA g) := by
  refine met_V (own := RX6) hI (by decide) rfl (Nat.le_of_ble_eq_true rfl) rfl (fun p e s m args below meth c X hr hlk => ?_)
  have L95 : ∀ (n : Nat) (b1 : Int32) (μ : Mem), wp_X6_cycle_l95  q n b1 μ → V p l e ({ frames := 5, cells := 0, slots := 0, locals := 110 }) s m args below meth c 2 g (AA g) 0 0 (MQ below (KQv g q) args s 0 0 (AA g)) μ 95 [(0, .ref (g.1 6 0)), (1, .int b1)] [] := by
    intro n
    induction n with
    | zero => intro b1 μ h; exact h.elim
    | succ n ih =>
      intro b1 μ h
      unfold wp_X6_cycle_l95 at h
      refine v_iload_n (pc := 95) X rfl 1 rfl dX6_cycle_95 ?_
      refine v_bipush (pc := 96) X cst_b_6 dX6_cycle_96 ?_
      refine v_icmp_ge (pc := 98) (tgt := 112) X h dX6_cycle_98 (by decide) (fun h => ?_) (fun h => ?_)
      · refine v_aload_n (pc := 112) X rfl 0 rfl dX6_cycle_112 ?_
        refine gf_6_0 (pc := 113) X Nat.one_pos wd_91 dX6_cycle_113 ?_
        refine v_sipush (pc := 116) X cst_s_133 dX6_cycle_116 ?_
        refine v_dup2 (pc := 119) X rfl rfl dX6_cycle_119 ?_
        refine al_20 (pc := 120) X Nat.one_pos h dX6_cycle_120 (fun x_1 h => ?_)
        refine v_iconst (pc := 121) X cst_i_1 dX6_cycle_121 ?_
        refine v_iadd (pc := 122) X dX6_cycle_122 ?_
        refine as_20 (pc := 123) X Nat.one_pos h dX6_cycle_123 (fun m_2 h => ?_)
        exact v_vret (pc := 124) X hr hlk h dX6_cycle_124
      · refine v_aload_n (pc := 101) X rfl 0 rfl dX6_cycle_101 ?_
        refine v_iload_n (pc := 102) X rfl 1 rfl dX6_cycle_102 ?_
        refine v_callVv (pc := 103) X (c_X6_keepCycle l g hI _ _ _ h) wd_447 wd_444 wd_445 wd_446 wd_5 ⟨rfl, rfl⟩ hdc_X6_keepCycle ⟨Nat.le_of_ble_eq_true rfl, Nat.le_of_ble_eq_true rfl⟩ ⟨Nat.le_refl 0, Nat.le_refl 0⟩ Nat.one_pos rfl rfl (As := [.int b1]) rfl rfl (Nat.le_of_ble_eq_true rfl) dX6_cycle_103 (fun m_3 h => ?_)
        refine v_iinc (pc := 106) (lv' := [(1, .int (b1 + 1)), (0, .ref (g.1 6 0))]) (j := 1) X rfl (congrArg (HAdd.hAdd _) cst_i_1) (by decide) rfl dX6_cycle_106 ?_
        refine v_goto (pc := 109) (tgt := 95) X dX6_cycle_109 (by decide) ?_
        refine v_sub [1, 0] rfl ?_
        exact ih _ _ h
  have L76 : ∀ (n : Nat) (b1 : Int32) (μ : Mem), wp_X6_cycle_l76  q n b1 μ → V p l e ({ frames := 5, cells := 0, slots := 0, locals := 110 }) s m args below meth c 2 g (AA g) 0 0 (MQ below (KQv g q) args s 0 0 (AA g)) μ 76 [(0, .ref (g.1 6 0)), (1, .int b1)] [] := by
    intro n
    induction n with
    | zero => intro b1 μ h; exact h.elim
    | succ n ih =>
      intro b1 μ h
      unfold wp_X6_cycle_l76 at h
      refine v_iload_n (pc := 76) X rfl 1 rfl dX6_cycle_76 ?_
      refine v_bipush (pc := 77) X cst_b_6 dX6_cycle_77 ?_
      refine v_icmp_ge (pc := 79) (tgt := 93) X h dX6_cycle_79 (by decide) (fun h => ?_) (fun h => ?_)
      · refine v_iconst (pc := 93) X cst_i_0 dX6_cycle_93 ?_
        refine v_istore_n (pc := 94) (lv' := [(1, .int 0), (0, .ref (g.1 6 0))]) X rfl (by decide) rfl dX6_cycle_94 ?_
        refine v_sub [1, 0] rfl ?_
        obtain ⟨n, h⟩ := h
        exact L95 n _ _ h
      · refine v_aload_n (pc := 82) X rfl 0 rfl dX6_cycle_82 ?_
        refine v_iload_n (pc := 83) X rfl 1 rfl dX6_cycle_83 ?_
        refine v_callVv (pc := 84) X (c_X6_end l g hI _ _ _ h) wd_387 wd_384 wd_385 wd_386 wd_5 ⟨rfl, rfl⟩ hdc_X6_end ⟨Nat.le_of_ble_eq_true rfl, Nat.le_of_ble_eq_true rfl⟩ ⟨Nat.le_refl 0, Nat.le_refl 0⟩ Nat.one_pos rfl rfl (As := [.int b1]) rfl rfl (Nat.le_of_ble_eq_true rfl) dX6_cycle_84 (fun m_1 h => ?_)
        refine v_iinc (pc := 87) (lv' := [(1, .int (b1 + 1)), (0, .ref (g.1 6 0))]) (j := 1) X rfl (congrArg (HAdd.hAdd _) cst_i_1) (by decide) rfl dX6_cycle_87 ?_
        refine v_goto (pc := 90) (tgt := 76) X dX6_cycle_90 (by decide) ?_
        refine v_sub [1, 0] rfl ?_
        exact ih _ _ h
  have L15 : ∀ (n : Nat) (b1 : Int32) (μ : Mem), wp_X6_cycle_l15  q n b1 μ → V p l e ({ frames := 5, cells := 0, slots := 0, locals := 110 }) s m args below meth c 2 g (AA g) 0 0 (MQ below (KQv g q) args s 0 0 (AA g)) μ 15 [(0, .ref (g.1 6 0)), (1, .int b1)] [] := by
    intro n
    induction n with
    | zero => intro b1 μ h; exact h.elim
    | succ n ih =>
      have B66 : ∀ (b1 : Int32) (u0 : Nat) (hu0 : u0 < 1) (t1 : Int32) (t2 : Int32) (t3 : Int32) (μ : Mem), wp_X6_cycle_b66  q (wp_X6_cycle_l15  q n) b1 u0 t1 t2 t3 μ → V p l e ({ frames := 5, cells := 0, slots := 0, locals := 110 }) s m args below meth c 2 g (AA g) 0 0 (MQ below (KQv g q) args s 0 0 (AA g)) μ 66 [(0, .ref (g.1 6 0)), (1, .int b1)] [.int t3, .int t2, .int t1, .ref (g.1 20 u0)] := by
        intro b1 u0 hu0 t1 t2 t3 μ h
        unfold wp_X6_cycle_b66 at h
        refine v_ior (pc := 66) X dX6_cycle_66 ?_
        refine as_20 (pc := 67) X hu0 h dX6_cycle_67 (fun m_1 h => ?_)
        refine v_iinc (pc := 68) (lv' := [(1, .int (b1 + 1)), (0, .ref (g.1 6 0))]) (j := 1) X rfl (congrArg (HAdd.hAdd _) cst_i_1) (by decide) rfl dX6_cycle_68 ?_
        refine v_goto (pc := 71) (tgt := 15) X dX6_cycle_71 (by decide) ?_
        refine v_sub [1, 0] rfl ?_
        exact ih _ _ h
      intro b1 μ h
      unfold wp_X6_cycle_l15 at h
      refine v_iload_n (pc := 15) X rfl 1 rfl dX6_cycle_15 ?_
      refine v_bipush (pc := 16) X cst_b_6 dX6_cycle_16 ?_
      refine v_icmp_ge (pc := 18) (tgt := 74) X h dX6_cycle_18 (by decide) (fun h => ?_) (fun h => ?_)
      · refine v_iconst (pc := 74) X cst_i_0 dX6_cycle_74 ?_
        refine v_istore_n (pc := 75) (lv' := [(1, .int 0), (0, .ref (g.1 6 0))]) X rfl (by decide) rfl dX6_cycle_75 ?_
        refine v_sub [1, 0] rfl ?_
        obtain ⟨n, h⟩ := h
        exact L76 n _ _ h
      · refine v_aload_n (pc := 21) X rfl 0 rfl dX6_cycle_21 ?_
        refine v_iload_n (pc := 22) X rfl 1 rfl dX6_cycle_22 ?_
        refine v_callVv (pc := 23) X (c_X6_hear l g hI _ _ _ h) wd_383 wd_380 wd_381 wd_382 wd_5 ⟨rfl, rfl⟩ hdc_X6_hear ⟨Nat.le_of_ble_eq_true rfl, Nat.le_of_ble_eq_true rfl⟩ ⟨Nat.le_refl 0, Nat.le_refl 0⟩ Nat.one_pos rfl rfl (As := [.int b1]) rfl rfl (Nat.le_of_ble_eq_true rfl) dX6_cycle_23 (fun m_1 h => ?_)
        refine v_aload_n (pc := 26) X rfl 0 rfl dX6_cycle_26 ?_
        refine gf_6_13 (pc := 27) X Nat.one_pos wd_104 dX6_cycle_27 ?_
        refine v_iload_n (pc := 30) X rfl 1 rfl dX6_cycle_30 ?_
        refine v_aload_n (pc := 31) X rfl 0 rfl dX6_cycle_31 ?_
        refine gf_6_0 (pc := 32) X Nat.one_pos wd_91 dX6_cycle_32 ?_
        refine v_bipush (pc := 35) X cst_b_66 dX6_cycle_35 ?_
        refine v_iload_n (pc := 37) X rfl 1 rfl dX6_cycle_37 ?_
        refine v_iadd (pc := 38) X dX6_cycle_38 ?_
        refine al_20 (pc := 39) X Nat.one_pos h dX6_cycle_39 (fun x_2 h => ?_)
        refine as_32 (pc := 40) X Nat.one_pos h dX6_cycle_40 (fun m_3 h => ?_)
        refine v_aload_n (pc := 41) X rfl 0 rfl dX6_cycle_41 ?_
        refine gf_6_0 (pc := 42) X Nat.one_pos wd_91 dX6_cycle_42 ?_
        refine v_sipush (pc := 45) X cst_s_134 dX6_cycle_45 ?_
        refine v_dup2 (pc := 48) X rfl rfl dX6_cycle_48 ?_
        refine al_20 (pc := 49) X Nat.one_pos h dX6_cycle_49 (fun x_4 h => ?_)
        refine v_aload_n (pc := 50) X rfl 0 rfl dX6_cycle_50 ?_
        refine gf_6_5 (pc := 51) X Nat.one_pos wd_96 dX6_cycle_51 ?_
        refine v_iload_n (pc := 54) X rfl 1 rfl dX6_cycle_54 ?_
        refine al_24 (pc := 55) X Nat.one_pos h dX6_cycle_55 (fun x_5 h => ?_)
        refine v_if_eq (pc := 56) (tgt := 65) X h dX6_cycle_56 (by decide) (fun h => ?_) (fun h => ?_)
        · refine v_iconst (pc := 65) X cst_i_0 dX6_cycle_65 ?_
          exact B66 _ _ Nat.one_pos _ _ _ _ h
        · refine v_iconst (pc := 59) X cst_i_1 dX6_cycle_59 ?_
          refine v_iload_n (pc := 60) X rfl 1 rfl dX6_cycle_60 ?_
          refine v_ishl (pc := 61) X dX6_cycle_61 ?_
          refine v_goto (pc := 62) (tgt := 66) X dX6_cycle_62 (by decide) ?_
          exact B66 _ _ Nat.one_pos _ _ _ _ h
  unfold wp_X6_cycle at h
  refine v_aload_n (pc := 0) X rfl 0 rfl dX6_cycle_0 ?_
  refine v_callVv (pc := 1) X (c_X6_laySenders l g hI _ _ h) wd_371 wd_368 wd_369 wd_370 wd_5 ⟨rfl, rfl⟩ hdc_X6_laySenders ⟨Nat.le_of_ble_eq_true rfl, Nat.le_of_ble_eq_true rfl⟩ ⟨Nat.le_refl 0, Nat.le_refl 0⟩ Nat.one_pos rfl rfl (As := []) rfl rfl (Nat.le_of_ble_eq_true rfl) dX6_cycle_1 (fun m_1 h => ?_)
  refine v_aload_n (pc := 4) X rfl 0 rfl dX6_cycle_4 ?_
  refine gf_6_0 (pc := 5) X Nat.one_pos wd_91 dX6_cycle_5 ?_
  refine v_sipush (pc := 8) X cst_s_134 dX6_cycle_8 ?_
  refine v_iconst (pc := 11) X cst_i_0 dX6_cycle_11 ?_
  refine as_20 (pc := 12) X Nat.one_pos h dX6_cycle_12 (fun m_2 h => ?_)
  refine v_iconst (pc := 13) X cst_i_0 dX6_cycle_13 ?_
  refine v_istore_n (pc := 14) (lv' := [(1, .int 0), (0, .ref (g.1 6 0))]) X rfl (by decide) rfl dX6_cycle_14 ?_
  refine v_sub [1, 0] rfl ?_
  obtain ⟨n, h⟩ := h
  exact L15 n _ _ h
