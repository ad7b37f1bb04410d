theorem cst_b_40 : (Int8.ofInt 40).toInt32 = ((nI 40) : Int32) := by decide +kernel
theorem cst_i_3 : Int32.ofInt 3 = ((nI 3) : Int32) := by decide +kernel
def wp_X4_clear (i0 : Nat) (μ : Mem) (q : Mem → Prop) : Prop :=
∀ m_1 : Mem, m_1 = ms μ 4 i0 1 0 →
q m_1
set_option maxRecDepth 100000 in
set_option maxHeartbeats 4000000 in
theorem c_X4_clear (l : Launch) (g : GG) (hI : Inj g) (μ : Mem) (i0 : Nat) (hi0 : i0 < 5) (q : Mem → Prop) (h : wp_X4_clear i0 μ q) : Met l yX4_clear (Cond.code yX4_clear cX4_clear 1 none :: wsL_law) ({ frames := 0, cells := 0, slots := 0, locals := 0 }) (KP g [.ref (g.1 4 i0)] μ) (KQv g q) 0 0 (AA g) := by
  refine met_V (own := RX4) hI (by decide) rfl (Nat.le_of_ble_eq_true rfl) rfl (fun p e s m args below meth c X hr hlk => ?_)
  unfold wp_X4_clear at h
  refine v_aload_n (pc := 0) X rfl 0 rfl dX4_clear_0 ?_
  refine v_iconst (pc := 1) X cst_i_0 dX4_clear_1 ?_
  refine pf_4_1 (pc := 2) X hi0 wd_53 h dX4_clear_2 (fun m_1 h => ?_)
  exact v_vret (pc := 5) X hr hlk h dX4_clear_5

def wp_X4_put_b61 (i0 : Nat) (a1 : Int32) (q : Mem → Prop) (b2 : Int32) (μ : Mem) : Prop :=
vp_in b2 6 ∧ ∀ m_1 : Mem, m_1 = ms μ 11 i0 (b2 : Int32).toNatClampNeg a1 →
∀ x_2 : Int32, x_2 = m_1 4 i0 1 →
∀ m_3 : Mem, m_3 = ms m_1 4 i0 1 (x_2 + 1) →
q m_3
def wp_X4_put_l25 (i0 : Nat) (a1 : Int32) (q : Mem → Prop) : Nat → Int32 → Mem → Prop
  | 0 => fun _ _ => False
  | n + 1 => fun b2 μ =>
((b2 ≤ 0 →
wp_X4_put_b61 i0 a1 q b2 μ) ∧ (¬ b2 ≤ 0 →
vp_in (b2 - 1) 6 ∧ ∀ x_1 : Int32, x_1 = μ 11 i0 ((b2 - 1) : Int32).toNatClampNeg →
((x_1 ≤ a1 →
wp_X4_put_b61 i0 a1 q b2 μ) ∧ (¬ x_1 ≤ a1 →
vp_in (b2 - 1) 6 ∧ ∀ x_2 : Int32, x_2 = μ 11 i0 ((b2 - 1) : Int32).toNatClampNeg →
vp_in b2 6 ∧ ∀ m_3 : Mem, m_3 = ms μ 11 i0 (b2 : Int32).toNatClampNeg x_2 →
wp_X4_put_l25 i0 a1 q n (b2 + (-1)) m_3))))
def wp_X4_put (i0 : Nat) (a1 : Int32) (μ : Mem) (q : Mem → Prop) : Prop :=
∀ x_1 : Int32, x_1 = μ 4 i0 1 →
((x_1 < 0 →
q μ) ∧ (¬ x_1 < 0 →
∀ x_2 : Int32, x_2 = μ 4 i0 1 →
((x_2 < (nI 6) →
∀ x_3 : Int32, x_3 = μ 4 i0 1 →
∃ n : Nat, wp_X4_put_l25 i0 a1 q n x_3 μ) ∧ (¬ x_2 < (nI 6) →
q μ))))
set_option maxRecDepth 100000 in
set_option maxHeartbeats 4000000 in
theorem c_X4_put (l : Launch) (g : GG) (hI : Inj g) (μ : Mem) (i0 : Nat) (hi0 : i0 < 5) (a1 : Int32) (q : Mem → Prop) (h : wp_X4_put i0 a1 μ q) : Met l yX4_put (Cond.code yX4_put cX4_put 3 none :: wsL_law) ({ frames := 0, cells := 0, slots := 0, locals := 0 }) (KP g [.ref (g.1 4 i0), .int a1] μ) (KQv g q) 0 0 (AA g) := by
  refine met_V (own := RX4) hI (by decide) rfl (Nat.le_of_ble_eq_true rfl) rfl (fun p e s m args below meth c X hr hlk => ?_)
  have B61 : ∀ (b2 : Int32) (μ : Mem), wp_X4_put_b61 i0 a1 q b2 μ → V p l e ({ frames := 0, cells := 0, slots := 0, locals := 0 }) s m args below meth c 3 g (AA g) 0 0 (MQ below (KQv g q) args s 0 0 (AA g)) μ 61 [(0, .ref (g.1 4 i0)), (1, .int a1), (2, .int b2)] [] := by
    intro b2 μ h
    unfold wp_X4_put_b61 at h
    refine v_aload_n (pc := 61) X rfl 0 rfl dX4_put_61 ?_
    refine gf_4_0 (pc := 62) X hi0 wd_52 dX4_put_62 ?_
    refine v_iload_n (pc := 65) X rfl 2 rfl dX4_put_65 ?_
    refine v_iload_n (pc := 66) X rfl 1 rfl dX4_put_66 ?_
    refine as_11 (pc := 67) X hi0 h dX4_put_67 (fun m_1 h => ?_)
    refine v_aload_n (pc := 68) X rfl 0 rfl dX4_put_68 ?_
    refine v_dup (pc := 69) X rfl dX4_put_69 ?_
    refine gf_4_1 (pc := 70) X hi0 wd_53 h dX4_put_70 (fun x_2 h => ?_)
    refine v_iconst (pc := 73) X cst_i_1 dX4_put_73 ?_
    refine v_iadd (pc := 74) X dX4_put_74 ?_
    refine pf_4_1 (pc := 75) X hi0 wd_53 h dX4_put_75 (fun m_3 h => ?_)
    exact v_vret (pc := 78) X hr hlk h dX4_put_78
  have L25 : ∀ (n : Nat) (b2 : Int32) (μ : Mem), wp_X4_put_l25 i0 a1 q n b2 μ → V p l e ({ frames := 0, cells := 0, slots := 0, locals := 0 }) s m args below meth c 3 g (AA g) 0 0 (MQ below (KQv g q) args s 0 0 (AA g)) μ 25 [(0, .ref (g.1 4 i0)), (1, .int a1), (2, .int b2)] [] := by
    intro n
    induction n with
    | zero => intro b2 μ h; exact h.elim
    | succ n ih =>
      intro b2 μ h
      unfold wp_X4_put_l25 at h
      refine v_iload_n (pc := 25) X rfl 2 rfl dX4_put_25 ?_
      refine v_if_le (pc := 26) (tgt := 61) X h dX4_put_26 (by decide) (fun h => ?_) (fun h => ?_)
      · exact B61 _ _ h
      · refine v_aload_n (pc := 29) X rfl 0 rfl dX4_put_29 ?_
        refine gf_4_0 (pc := 30) X hi0 wd_52 dX4_put_30 ?_
        refine v_iload_n (pc := 33) X rfl 2 rfl dX4_put_33 ?_
        refine v_iconst (pc := 34) X cst_i_1 dX4_put_34 ?_
        refine v_isub (pc := 35) X dX4_put_35 ?_
        refine al_11 (pc := 36) X hi0 h dX4_put_36 (fun x_1 h => ?_)
        refine v_iload_n (pc := 37) X rfl 1 rfl dX4_put_37 ?_
        refine v_icmp_le (pc := 38) (tgt := 61) X h dX4_put_38 (by decide) (fun h => ?_) (fun h => ?_)
        · exact B61 _ _ h
        · refine v_aload_n (pc := 41) X rfl 0 rfl dX4_put_41 ?_
          refine gf_4_0 (pc := 42) X hi0 wd_52 dX4_put_42 ?_
          refine v_iload_n (pc := 45) X rfl 2 rfl dX4_put_45 ?_
          refine v_aload_n (pc := 46) X rfl 0 rfl dX4_put_46 ?_
          refine gf_4_0 (pc := 47) X hi0 wd_52 dX4_put_47 ?_
          refine v_iload_n (pc := 50) X rfl 2 rfl dX4_put_50 ?_
          refine v_iconst (pc := 51) X cst_i_1 dX4_put_51 ?_
          refine v_isub (pc := 52) X dX4_put_52 ?_
          refine al_11 (pc := 53) X hi0 h dX4_put_53 (fun x_2 h => ?_)
          refine as_11 (pc := 54) X hi0 h dX4_put_54 (fun m_3 h => ?_)
          refine v_iinc (pc := 55) (lv' := [(2, .int (b2 + (-1))), (0, .ref (g.1 4 i0)), (1, .int a1)]) (j := 2) X rfl (congrArg (HAdd.hAdd _) cst_i_m1) (by decide) rfl dX4_put_55 ?_
          refine v_goto (pc := 58) (tgt := 25) X dX4_put_58 (by decide) ?_
          refine v_sub [1, 2, 0] rfl ?_
          exact ih _ _ h
  unfold wp_X4_put at h
  refine v_aload_n (pc := 0) X rfl 0 rfl dX4_put_0 ?_
  refine gf_4_1 (pc := 1) X hi0 wd_53 h dX4_put_1 (fun x_1 h => ?_)
  refine v_if_lt (pc := 4) (tgt := 19) X h dX4_put_4 (by decide) (fun h => ?_) (fun h => ?_)
  · exact v_vret (pc := 19) X hr hlk h dX4_put_19
  · refine v_aload_n (pc := 7) X rfl 0 rfl dX4_put_7 ?_
    refine gf_4_1 (pc := 8) X hi0 wd_53 h dX4_put_8 (fun x_2 h => ?_)
    refine v_aload_n (pc := 11) X rfl 0 rfl dX4_put_11 ?_
    refine gf_4_0 (pc := 12) X hi0 wd_52 dX4_put_12 ?_
    refine len_11 (pc := 15) X hi0 dX4_put_15 ?_
    refine v_icmp_lt (pc := 16) (tgt := 20) X h dX4_put_16 (by decide) (fun h => ?_) (fun h => ?_)
    · refine v_aload_n (pc := 20) X rfl 0 rfl dX4_put_20 ?_
      refine gf_4_1 (pc := 21) X hi0 wd_53 h dX4_put_21 (fun x_3 h => ?_)
      refine v_istore_n (pc := 24) (lv' := [(2, .int x_3), (0, .ref (g.1 4 i0)), (1, .int a1)]) X rfl (by decide) rfl dX4_put_24 ?_
      refine v_sub [1, 2, 0] rfl ?_
      obtain ⟨n, h⟩ := h
      exact L25 n _ _ h
    · exact v_vret (pc := 19) X hr hlk h dX4_put_19

def wp_X4_areWithin_l2 (i0 : Nat) (a1 : Int32) (a2 : Int32) (q : Int32 → Mem → Prop) : Nat → Int32 → Mem → Prop
  | 0 => fun _ _ => False
  | n + 1 => fun b3 μ =>
∀ x_1 : Int32, x_1 = μ 4 i0 1 →
((x_1 ≤ b3 →
q 1 μ) ∧ (¬ x_1 ≤ b3 →
(((nI 6) ≤ b3 →
q 1 μ) ∧ (¬ (nI 6) ≤ b3 →
vp_in b3 6 ∧ ∀ x_2 : Int32, x_2 = μ 11 i0 (b3 : Int32).toNatClampNeg →
wp_X5_isWithin x_2 a1 a2 μ (fun x_4 m_3 =>
((¬ x_4 = 0 →
wp_X4_areWithin_l2 i0 a1 a2 q n (b3 + 1) m_3) ∧ (x_4 = 0 →
q 0 m_3)))))))
def wp_X4_areWithin (i0 : Nat) (a1 : Int32) (a2 : Int32) (μ : Mem) (q : Int32 → Mem → Prop) : Prop :=
∃ n : Nat, wp_X4_areWithin_l2 i0 a1 a2 q n 0 μ
set_option maxRecDepth 100000 in
set_option maxHeartbeats 4000000 in
theorem c_X4_areWithin (l : Launch) (g : GG) (hI : Inj g) (μ : Mem) (i0 : Nat) (hi0 : i0 < 5) (a1 : Int32) (a2 : Int32) (q : Int32 → Mem → Prop) (h : wp_X4_areWithin i0 a1 a2 μ q) : Met l yX4_areWithin (Cond.code yX4_areWithin cX4_areWithin 4 (some .boolean) :: wsL_law) ({ frames := 1, cells := 0, slots := 0, locals := 22 }) (KP g [.ref (g.1 4 i0), .int a1, .int a2] μ) (KQi g q) 0 0 (AA g) := by
  refine met_V (own := RX4) hI (by decide) rfl (Nat.le_of_ble_eq_true rfl) rfl (fun p e s m args below meth c X hr hlk => ?_)
  have L2 : ∀ (n : Nat) (b3 : Int32) (μ : Mem), wp_X4_areWithin_l2 i0 a1 a2 q n b3 μ → V p l e ({ frames := 1, cells := 0, slots := 0, locals := 22 }) s m args below meth c 4 g (AA g) 0 0 (MQ below (KQi g q) args s 0 0 (AA g)) μ 2 [(0, .ref (g.1 4 i0)), (1, .int a1), (2, .int a2), (3, .int b3)] [] := by
    intro n
    induction n with
    | zero => intro b3 μ h; exact h.elim
    | succ n ih =>
      intro b3 μ h
      unfold wp_X4_areWithin_l2 at h
      refine v_iload_n (pc := 2) X rfl 3 rfl dX4_areWithin_2 ?_
      refine v_aload_n (pc := 3) X rfl 0 rfl dX4_areWithin_3 ?_
      refine gf_4_1 (pc := 4) X hi0 wd_53 h dX4_areWithin_4 (fun x_1 h => ?_)
      refine v_icmp_ge (pc := 7) (tgt := 41) X h dX4_areWithin_7 (by decide) (fun h => ?_) (fun h => ?_)
      · refine v_iconst (pc := 41) X cst_i_1 dX4_areWithin_41 ?_
        exact v_zret (pc := 42) X hr hlk ⟨nz_1, h⟩ dX4_areWithin_42
      · refine v_iload_n (pc := 10) X rfl 3 rfl dX4_areWithin_10 ?_
        refine v_aload_n (pc := 11) X rfl 0 rfl dX4_areWithin_11 ?_
        refine gf_4_0 (pc := 12) X hi0 wd_52 dX4_areWithin_12 ?_
        refine len_11 (pc := 15) X hi0 dX4_areWithin_15 ?_
        refine v_icmp_ge (pc := 16) (tgt := 41) X h dX4_areWithin_16 (by decide) (fun h => ?_) (fun h => ?_)
        · refine v_iconst (pc := 41) X cst_i_1 dX4_areWithin_41 ?_
          exact v_zret (pc := 42) X hr hlk ⟨nz_1, h⟩ dX4_areWithin_42
        · refine v_aload_n (pc := 19) X rfl 0 rfl dX4_areWithin_19 ?_
          refine gf_4_0 (pc := 20) X hi0 wd_52 dX4_areWithin_20 ?_
          refine v_iload_n (pc := 23) X rfl 3 rfl dX4_areWithin_23 ?_
          refine al_11 (pc := 24) X hi0 h dX4_areWithin_24 (fun x_2 h => ?_)
          refine v_iload_n (pc := 25) X rfl 1 rfl dX4_areWithin_25 ?_
          refine v_iload_n (pc := 26) X rfl 2 rfl dX4_areWithin_26 ?_
          refine v_callNi (pc := 27) X (c_X5_isWithin l g hI _ _ _ _ _ h) wd_119 nst_4 wd_118 wd_2 ⟨rfl, rfl⟩ hdc_X5_isWithin ⟨Nat.le_of_ble_eq_true rfl, Nat.le_of_ble_eq_true rfl⟩ ⟨Nat.le_refl 0, Nat.le_refl 0⟩ (As := [.int x_2, .int a1, .int a2]) rfl rfl (Nat.le_of_ble_eq_true rfl) dX4_areWithin_27 (fun x_4 m_3 h => ?_)
          refine v_if_ne (pc := 30) (tgt := 35) X h dX4_areWithin_30 (by decide) (fun h => ?_) (fun h => ?_)
          · refine v_iinc (pc := 35) (lv' := [(3, .int (b3 + 1)), (0, .ref (g.1 4 i0)), (1, .int a1), (2, .int a2)]) (j := 3) X rfl (congrArg (HAdd.hAdd _) cst_i_1) (by decide) rfl dX4_areWithin_35 ?_
            refine v_goto (pc := 38) (tgt := 2) X dX4_areWithin_38 (by decide) ?_
            refine v_sub [1, 2, 3, 0] rfl ?_
            exact ih _ _ h
          · refine v_iconst (pc := 33) X cst_i_0 dX4_areWithin_33 ?_
            exact v_zret (pc := 34) X hr hlk ⟨nz_0, h⟩ dX4_areWithin_34
  unfold wp_X4_areWithin at h
  refine v_iconst (pc := 0) X cst_i_0 dX4_areWithin_0 ?_
  refine v_istore_n (pc := 1) (lv' := [(3, .int 0), (0, .ref (g.1 4 i0)), (1, .int a1), (2, .int a2)]) X rfl (by decide) rfl dX4_areWithin_1 ?_
  refine v_sub [1, 2, 3, 0] rfl ?_
  obtain ⟨n, h⟩ := h
  exact L2 n _ _ h

def wp_X4_trimmed_b13 (i0 : Nat) (q : Int32 → Mem → Prop) (t0 : Int32) (μ : Mem) : Prop :=
∀ x_1 : Int32, x_1 = μ 4 i0 1 →
∀ y_2 : Int32, y_2 = ((x_1 - 1) - t0) →
((y_2 < t0 →
q 0 μ) ∧ (¬ y_2 < t0 →
((y_2 < (nI 6) →
vp_in t0 6 ∧ ∀ x_3 : Int32, x_3 = μ 11 i0 (t0 : Int32).toNatClampNeg →
vp_in y_2 6 ∧ ∀ x_4 : Int32, x_4 = μ 11 i0 (y_2 : Int32).toNatClampNeg →
q ((x_3 + x_4) / (nI 2)) μ) ∧ (¬ y_2 < (nI 6) →
q 0 μ))))
def wp_X4_trimmed (i0 : Nat) (μ : Mem) (q : Int32 → Mem → Prop) : Prop :=
∀ x_1 : Int32, x_1 = μ 4 i0 1 →
((x_1 < (nI 3) →
wp_X4_trimmed_b13 i0 q 0 μ) ∧ (¬ x_1 < (nI 3) →
wp_X4_trimmed_b13 i0 q 1 μ))
set_option maxRecDepth 100000 in
set_option maxHeartbeats 4000000 in
theorem c_X4_trimmed (l : Launch) (g : GG) (hI : Inj g) (μ : Mem) (i0 : Nat) (hi0 : i0 < 5) (q : Int32 → Mem → Prop) (h : wp_X4_trimmed i0 μ q) : Met l yX4_trimmed (Cond.code yX4_trimmed cX4_trimmed 3 (some .int) :: wsL_law) ({ frames := 0, cells := 0, slots := 0, locals := 0 }) (KP g [.ref (g.1 4 i0)] μ) (KQi g q) 0 0 (AA g) := by
  refine met_V (own := RX4) hI (by decide) rfl (Nat.le_of_ble_eq_true rfl) rfl (fun p e s m args below meth c X hr hlk => ?_)
  have B13 : ∀ (t0 : Int32) (μ : Mem), wp_X4_trimmed_b13 i0 q t0 μ → V p l e ({ frames := 0, cells := 0, slots := 0, locals := 0 }) s m args below meth c 3 g (AA g) 0 0 (MQ below (KQi g q) args s 0 0 (AA g)) μ 13 [(0, .ref (g.1 4 i0))] [.int t0] := by
    intro t0 μ h
    unfold wp_X4_trimmed_b13 at h
    refine v_istore_n (pc := 13) (lv' := [(1, .int t0), (0, .ref (g.1 4 i0))]) X rfl (by decide) rfl dX4_trimmed_13 ?_
    refine v_aload_n (pc := 14) X rfl 1 rfl dX4_trimmed_14 ?_
    refine gf_4_1 (pc := 15) X hi0 wd_53 h dX4_trimmed_15 (fun x_1 h => ?_)
    refine v_iconst (pc := 18) X cst_i_1 dX4_trimmed_18 ?_
    refine v_isub (pc := 19) X dX4_trimmed_19 ?_
    refine v_iload_n (pc := 20) X rfl 0 rfl dX4_trimmed_20 ?_
    refine v_isub (pc := 21) X dX4_trimmed_21 ?_
    refine v_nm h (fun y_2 h => ?_)
    refine v_istore_n (pc := 22) (lv' := [(2, .int y_2), (1, .int t0), (0, .ref (g.1 4 i0))]) X rfl (by decide) rfl dX4_trimmed_22 ?_
    refine v_iload_n (pc := 23) X rfl 0 rfl dX4_trimmed_23 ?_
    refine v_iload_n (pc := 24) X rfl 1 rfl dX4_trimmed_24 ?_
    refine v_icmp_lt (pc := 25) (tgt := 37) X h dX4_trimmed_25 (by decide) (fun h => ?_) (fun h => ?_)
    · refine v_iconst (pc := 37) X cst_i_0 dX4_trimmed_37 ?_
      exact v_iret (pc := 38) X hr hlk h dX4_trimmed_38
    · refine v_iload_n (pc := 28) X rfl 0 rfl dX4_trimmed_28 ?_
      refine v_aload_n (pc := 29) X rfl 2 rfl dX4_trimmed_29 ?_
      refine gf_4_0 (pc := 30) X hi0 wd_52 dX4_trimmed_30 ?_
      refine len_11 (pc := 33) X hi0 dX4_trimmed_33 ?_
      refine v_icmp_lt (pc := 34) (tgt := 39) X h dX4_trimmed_34 (by decide) (fun h => ?_) (fun h => ?_)
      · refine v_aload_n (pc := 39) X rfl 2 rfl dX4_trimmed_39 ?_
        refine gf_4_0 (pc := 40) X hi0 wd_52 dX4_trimmed_40 ?_
        refine v_iload_n (pc := 43) X rfl 1 rfl dX4_trimmed_43 ?_
        refine al_11 (pc := 44) X hi0 h dX4_trimmed_44 (fun x_3 h => ?_)
        refine v_aload_n (pc := 45) X rfl 2 rfl dX4_trimmed_45 ?_
        refine gf_4_0 (pc := 46) X hi0 wd_52 dX4_trimmed_46 ?_
        refine v_iload_n (pc := 49) X rfl 0 rfl dX4_trimmed_49 ?_
        refine al_11 (pc := 50) X hi0 h dX4_trimmed_50 (fun x_4 h => ?_)
        refine v_iadd (pc := 51) X dX4_trimmed_51 ?_
        refine v_iconst (pc := 52) X cst_i_2 dX4_trimmed_52 ?_
        refine v_idiv (pc := 53) X (by decide) dX4_trimmed_53 ?_
        exact v_iret (pc := 54) X hr hlk h dX4_trimmed_54
      · refine v_iconst (pc := 37) X cst_i_0 dX4_trimmed_37 ?_
        exact v_iret (pc := 38) X hr hlk h dX4_trimmed_38
  unfold wp_X4_trimmed at h
  refine v_aload_n (pc := 0) X rfl 0 rfl dX4_trimmed_0 ?_
  refine gf_4_1 (pc := 1) X hi0 wd_53 h dX4_trimmed_1 (fun x_1 h => ?_)
  refine v_iconst (pc := 4) X cst_i_3 dX4_trimmed_4 ?_
  refine v_icmp_lt (pc := 5) (tgt := 12) X h dX4_trimmed_5 (by decide) (fun h => ?_) (fun h => ?_)
  · refine v_iconst (pc := 12) X cst_i_0 dX4_trimmed_12 ?_
    exact B13 _ _ h
  · refine v_iconst (pc := 8) X cst_i_1 dX4_trimmed_8 ?_
    refine v_goto (pc := 9) (tgt := 13) X dX4_trimmed_9 (by decide) ?_
    exact B13 _ _ h

def wp_X2_copy_l2 (i0 : Nat) (i1 : Nat) (q : Mem → Prop) : Nat → Int32 → Mem → Prop
  | 0 => fun _ _ => False
  | n + 1 => fun b2 μ =>
(((nI 40) ≤ b2 →
∀ x_1 : Int32, x_1 = μ 2 i1 3 →
∀ m_2 : Mem, m_2 = ms μ 2 i0 3 x_1 →
∀ x_3 : Int32, x_3 = m_2 2 i1 4 →
∀ m_4 : Mem, m_4 = ms m_2 2 i0 4 x_3 →
q m_4) ∧ (¬ (nI 40) ≤ b2 →
vp_in b2 40 ∧ ∀ x_5 : Int32, x_5 = μ 8 i1 (b2 : Int32).toNatClampNeg →
vp_in b2 40 ∧ ∀ m_6 : Mem, m_6 = ms μ 8 i0 (b2 : Int32).toNatClampNeg x_5 →
vp_in b2 40 ∧ ∀ x_7 : Int32, x_7 = m_6 9 i1 (b2 : Int32).toNatClampNeg →
vp_in b2 40 ∧ ∀ m_8 : Mem, m_8 = ms m_6 9 i0 (b2 : Int32).toNatClampNeg x_7 →
vp_in b2 40 ∧ ∀ x_9 : Int32, x_9 = m_8 10 i1 (b2 : Int32).toNatClampNeg →
vp_in b2 40 ∧ ∀ m_10 : Mem, m_10 = ms m_8 10 i0 (b2 : Int32).toNatClampNeg x_9 →
wp_X2_copy_l2 i0 i1 q n (b2 + 1) m_10))
def wp_X2_copy (i0 : Nat) (i1 : Nat) (μ : Mem) (q : Mem → Prop) : Prop :=
∃ n : Nat, wp_X2_copy_l2 i0 i1 q n 0 μ
set_option maxRecDepth 100000 in
set_option maxHeartbeats 4000000 in
theorem c_X2_copy (l : Launch) (g : GG) (hI : Inj g) (μ : Mem) (i0 : Nat) (hi0 : i0 < 4) (i1 : Nat) (hi1 : i1 < 4) (q : Mem → Prop) (h : wp_X2_copy i0 i1 μ q) : Met l yX2_copy (Cond.code yX2_copy cX2_copy 3 none :: wsL_law) ({ frames := 0, cells := 0, slots := 0, locals := 0 }) (KP g [.ref (g.1 2 i0), .ref (g.1 2 i1)] μ) (KQv g q) 0 0 (AA g) := by
  refine met_V (own := RX2) hI (by decide) rfl (Nat.le_of_ble_eq_true rfl) rfl (fun p e s m args below meth c X hr hlk => ?_)
  have L2 : ∀ (n : Nat) (b2 : Int32) (μ : Mem), wp_X2_copy_l2 i0 i1 q n b2 μ → V p l e ({ frames := 0, cells := 0, slots := 0, locals := 0 }) s m args below meth c 3 g (AA g) 0 0 (MQ below (KQv g q) args s 0 0 (AA g)) μ 2 [(0, .ref (g.1 2 i0)), (1, .ref (g.1 2 i1)), (2, .int b2)] [] := by
    intro n
    induction n with
    | zero => intro b2 μ h; exact h.elim
    | succ n ih =>
      intro b2 μ h
      unfold wp_X2_copy_l2 at h
      refine v_iload_n (pc := 2) X rfl 2 rfl dX2_copy_2 ?_
      refine v_bipush (pc := 3) X cst_b_40 dX2_copy_3 ?_
      refine v_icmp_ge (pc := 5) (tgt := 50) X h dX2_copy_5 (by decide) (fun h => ?_) (fun h => ?_)
      · refine v_aload_n (pc := 50) X rfl 0 rfl dX2_copy_50 ?_
        refine v_aload_n (pc := 51) X rfl 1 rfl dX2_copy_51 ?_
        refine gf_2_3 (pc := 52) X hi1 wd_47 h dX2_copy_52 (fun x_1 h => ?_)
        refine pf_2_3 (pc := 55) X hi0 wd_47 h dX2_copy_55 (fun m_2 h => ?_)
        refine v_aload_n (pc := 58) X rfl 0 rfl dX2_copy_58 ?_
        refine v_aload_n (pc := 59) X rfl 1 rfl dX2_copy_59 ?_
        refine gf_2_4 (pc := 60) X hi1 wd_48 h dX2_copy_60 (fun x_3 h => ?_)
        refine pf_2_4 (pc := 63) X hi0 wd_48 h dX2_copy_63 (fun m_4 h => ?_)
        exact v_vret (pc := 66) X hr hlk h dX2_copy_66
      · refine v_aload_n (pc := 8) X rfl 0 rfl dX2_copy_8 ?_
        refine gf_2_0 (pc := 9) X hi0 wd_44 dX2_copy_9 ?_
        refine v_iload_n (pc := 12) X rfl 2 rfl dX2_copy_12 ?_
        refine v_aload_n (pc := 13) X rfl 1 rfl dX2_copy_13 ?_
        refine gf_2_0 (pc := 14) X hi1 wd_44 dX2_copy_14 ?_
        refine v_iload_n (pc := 17) X rfl 2 rfl dX2_copy_17 ?_
        refine al_8 (pc := 18) X hi1 h dX2_copy_18 (fun x_5 h => ?_)
        refine as_8 (pc := 19) X hi0 h dX2_copy_19 (fun m_6 h => ?_)
        refine v_aload_n (pc := 20) X rfl 0 rfl dX2_copy_20 ?_
        refine gf_2_1 (pc := 21) X hi0 wd_45 dX2_copy_21 ?_
        refine v_iload_n (pc := 24) X rfl 2 rfl dX2_copy_24 ?_
        refine v_aload_n (pc := 25) X rfl 1 rfl dX2_copy_25 ?_
        refine gf_2_1 (pc := 26) X hi1 wd_45 dX2_copy_26 ?_
        refine v_iload_n (pc := 29) X rfl 2 rfl dX2_copy_29 ?_
        refine al_9 (pc := 30) X hi1 h dX2_copy_30 (fun x_7 h => ?_)
        refine as_9 (pc := 31) X hi0 h dX2_copy_31 (fun m_8 h => ?_)
        refine v_aload_n (pc := 32) X rfl 0 rfl dX2_copy_32 ?_
        refine gf_2_2 (pc := 33) X hi0 wd_46 dX2_copy_33 ?_
        refine v_iload_n (pc := 36) X rfl 2 rfl dX2_copy_36 ?_
        refine v_aload_n (pc := 37) X rfl 1 rfl dX2_copy_37 ?_
        refine gf_2_2 (pc := 38) X hi1 wd_46 dX2_copy_38 ?_
        refine v_iload_n (pc := 41) X rfl 2 rfl dX2_copy_41 ?_
        refine al_10 (pc := 42) X hi1 h dX2_copy_42 (fun x_9 h => ?_)
        refine as_10 (pc := 43) X hi0 h dX2_copy_43 (fun m_10 h => ?_)
        refine v_iinc (pc := 44) (lv' := [(2, .int (b2 + 1)), (0, .ref (g.1 2 i0)), (1, .ref (g.1 2 i1))]) (j := 2) X rfl (congrArg (HAdd.hAdd _) cst_i_1) (by decide) rfl dX2_copy_44 ?_
        refine v_goto (pc := 47) (tgt := 2) X dX2_copy_47 (by decide) ?_
        refine v_sub [1, 2, 0] rfl ?_
        exact ih _ _ h
  unfold wp_X2_copy at h
  refine v_iconst (pc := 0) X cst_i_0 dX2_copy_0 ?_
  refine v_istore_n (pc := 1) (lv' := [(2, .int 0), (0, .ref (g.1 2 i0)), (1, .ref (g.1 2 i1))]) X rfl (by decide) rfl dX2_copy_1 ?_
  refine v_sub [1, 2, 0] rfl ?_
  obtain ⟨n, h⟩ := h
  exact L2 n _ _ h

def wp_X2_add (i0 : Nat) (a1 : Int32) (a2 : Int32) (a3 : Int32) (μ : Mem) (q : Mem → Prop) : Prop :=
∀ x_1 : Int32, x_1 = μ 2 i0 4 →
∀ x_2 : Int32, x_2 = μ 2 i0 3 →
∀ y_3 : Int32, y_3 = ((x_1 + x_2) - (x_1 + x_2) / (nI 40) * (nI 40)) →
vp_in y_3 40 ∧ ∀ m_4 : Mem, m_4 = ms μ 8 i0 (y_3 : Int32).toNatClampNeg a1 →
vp_in y_3 40 ∧ ∀ m_5 : Mem, m_5 = ms m_4 9 i0 (y_3 : Int32).toNatClampNeg a2 →
vp_in y_3 40 ∧ ∀ m_6 : Mem, m_6 = ms m_5 10 i0 (y_3 : Int32).toNatClampNeg a3 →
∀ x_7 : Int32, x_7 = m_6 2 i0 3 →
(((nI 40) ≤ x_7 →
∀ x_8 : Int32, x_8 = m_6 2 i0 4 →
∀ m_9 : Mem, m_9 = ms m_6 2 i0 4 ((x_8 + 1) - (x_8 + 1) / (nI 40) * (nI 40)) →
q m_9) ∧ (¬ (nI 40) ≤ x_7 →
∀ x_10 : Int32, x_10 = m_6 2 i0 3 →
∀ m_11 : Mem, m_11 = ms m_6 2 i0 3 (x_10 + 1) →
q m_11))
set_option maxRecDepth 100000 in
set_option maxHeartbeats 4000000 in
theorem c_X2_add (l : Launch) (g : GG) (hI : Inj g) (μ : Mem) (i0 : Nat) (hi0 : i0 < 4) (a1 : Int32) (a2 : Int32) (a3 : Int32) (q : Mem → Prop) (h : wp_X2_add i0 a1 a2 a3 μ q) : Met l yX2_add (Cond.code yX2_add cX2_add 5 none :: wsL_law) ({ frames := 0, cells := 0, slots := 0, locals := 0 }) (KP g [.ref (g.1 2 i0), .int a1, .int a2, .int a3] μ) (KQv g q) 0 0 (AA g) := by
  refine met_V (own := RX2) hI (by decide) rfl (Nat.le_of_ble_eq_true rfl) rfl (fun p e s m args below meth c X hr hlk => ?_)
  unfold wp_X2_add at h
  refine v_aload_n (pc := 0) X rfl 0 rfl dX2_add_0 ?_
  refine gf_2_4 (pc := 1) X hi0 wd_48 h dX2_add_1 (fun x_1 h => ?_)
  refine v_aload_n (pc := 4) X rfl 0 rfl dX2_add_4 ?_
  refine gf_2_3 (pc := 5) X hi0 wd_47 h dX2_add_5 (fun x_2 h => ?_)
  refine v_iadd (pc := 8) X dX2_add_8 ?_
  refine v_bipush (pc := 9) X cst_b_40 dX2_add_9 ?_
  refine v_irem (pc := 11) X (by decide) dX2_add_11 ?_
  refine v_nm h (fun y_3 h => ?_)
  refine v_istore (pc := 12) (lv' := [(4, .int y_3), (0, .ref (g.1 2 i0)), (1, .int a1), (2, .int a2), (3, .int a3)]) X (by decide) rfl dX2_add_12 ?_
  refine v_aload_n (pc := 14) X rfl 1 rfl dX2_add_14 ?_
  refine gf_2_0 (pc := 15) X hi0 wd_44 dX2_add_15 ?_
  refine v_iload (pc := 18) X 0 rfl dX2_add_18 ?_
  refine v_iload_n (pc := 20) X rfl 2 rfl dX2_add_20 ?_
  refine as_8 (pc := 21) X hi0 h dX2_add_21 (fun m_4 h => ?_)
  refine v_aload_n (pc := 22) X rfl 1 rfl dX2_add_22 ?_
  refine gf_2_1 (pc := 23) X hi0 wd_45 dX2_add_23 ?_
  refine v_iload (pc := 26) X 0 rfl dX2_add_26 ?_
  refine v_iload_n (pc := 28) X rfl 3 rfl dX2_add_28 ?_
  refine as_9 (pc := 29) X hi0 h dX2_add_29 (fun m_5 h => ?_)
  refine v_aload_n (pc := 30) X rfl 1 rfl dX2_add_30 ?_
  refine gf_2_2 (pc := 31) X hi0 wd_46 dX2_add_31 ?_
  refine v_iload (pc := 34) X 0 rfl dX2_add_34 ?_
  refine v_iload_n (pc := 36) X rfl 4 rfl dX2_add_36 ?_
  refine as_10 (pc := 37) X hi0 h dX2_add_37 (fun m_6 h => ?_)
  refine v_aload_n (pc := 38) X rfl 1 rfl dX2_add_38 ?_
  refine gf_2_3 (pc := 39) X hi0 wd_47 h dX2_add_39 (fun x_7 h => ?_)
  refine v_bipush (pc := 42) X cst_b_40 dX2_add_42 ?_
  refine v_icmp_ge (pc := 44) (tgt := 60) X h dX2_add_44 (by decide) (fun h => ?_) (fun h => ?_)
  · refine v_aload_n (pc := 60) X rfl 1 rfl dX2_add_60 ?_
    refine v_aload_n (pc := 61) X rfl 1 rfl dX2_add_61 ?_
    refine gf_2_4 (pc := 62) X hi0 wd_48 h dX2_add_62 (fun x_8 h => ?_)
    refine v_iconst (pc := 65) X cst_i_1 dX2_add_65 ?_
    refine v_iadd (pc := 66) X dX2_add_66 ?_
    refine v_bipush (pc := 67) X cst_b_40 dX2_add_67 ?_
    refine v_irem (pc := 69) X (by decide) dX2_add_69 ?_
    refine pf_2_4 (pc := 70) X hi0 wd_48 h dX2_add_70 (fun m_9 h => ?_)
    exact v_vret (pc := 73) X hr hlk h dX2_add_73
  · refine v_aload_n (pc := 47) X rfl 1 rfl dX2_add_47 ?_
    refine v_dup (pc := 48) X rfl dX2_add_48 ?_
    refine gf_2_3 (pc := 49) X hi0 wd_47 h dX2_add_49 (fun x_10 h => ?_)
    refine v_iconst (pc := 52) X cst_i_1 dX2_add_52 ?_
    refine v_iadd (pc := 53) X dX2_add_53 ?_
    refine pf_2_3 (pc := 54) X hi0 wd_47 h dX2_add_54 (fun m_11 h => ?_)
    refine v_goto (pc := 57) (tgt := 73) X dX2_add_57 (by decide) ?_
    exact v_vret (pc := 73) X hr hlk h dX2_add_73

def wp_X2_placeOf (i0 : Nat) (a1 : Int32) (μ : Mem) (q : Int32 → Mem → Prop) : Prop :=
((a1 < 0 →
q (-1) μ) ∧ (¬ a1 < 0 →
∀ x_1 : Int32, x_1 = μ 2 i0 3 →
((x_1 ≤ a1 →
q (-1) μ) ∧ (¬ x_1 ≤ a1 →
∀ x_2 : Int32, x_2 = μ 2 i0 4 →
q ((x_2 + a1) - (x_2 + a1) / (nI 40) * (nI 40)) μ))))
set_option maxRecDepth 100000 in
set_option maxHeartbeats 4000000 in
theorem c_X2_placeOf (l : Launch) (g : GG) (hI : Inj g) (μ : Mem) (i0 : Nat) (hi0 : i0 < 4) (a1 : Int32) (q : Int32 → Mem → Prop) (h : wp_X2_placeOf i0 a1 μ q) : Met l yX2_placeOf (Cond.code yX2_placeOf cX2_placeOf 2 (some .int) :: wsL_law) ({ frames := 0, cells := 0, slots := 0, locals := 0 }) (KP g [.ref (g.1 2 i0), .int a1] μ) (KQi g q) 0 0 (AA g) := by
  refine met_V (own := RX2) hI (by decide) rfl (Nat.le_of_ble_eq_true rfl) rfl (fun p e s m args below meth c X hr hlk => ?_)
  unfold wp_X2_placeOf at h
  refine v_iload_n (pc := 0) X rfl 1 rfl dX2_placeOf_0 ?_
  refine v_if_lt (pc := 1) (tgt := 24) X h dX2_placeOf_1 (by decide) (fun h => ?_) (fun h => ?_)
  · refine v_iconst (pc := 24) X cst_i_m1 dX2_placeOf_24 ?_
    exact v_iret (pc := 25) X hr hlk h dX2_placeOf_25
  · refine v_iload_n (pc := 4) X rfl 1 rfl dX2_placeOf_4 ?_
    refine v_aload_n (pc := 5) X rfl 0 rfl dX2_placeOf_5 ?_
    refine gf_2_3 (pc := 6) X hi0 wd_47 h dX2_placeOf_6 (fun x_1 h => ?_)
    refine v_icmp_ge (pc := 9) (tgt := 24) X h dX2_placeOf_9 (by decide) (fun h => ?_) (fun h => ?_)
    · refine v_iconst (pc := 24) X cst_i_m1 dX2_placeOf_24 ?_
      exact v_iret (pc := 25) X hr hlk h dX2_placeOf_25
    · refine v_aload_n (pc := 12) X rfl 0 rfl dX2_placeOf_12 ?_
      refine gf_2_4 (pc := 13) X hi0 wd_48 h dX2_placeOf_13 (fun x_2 h => ?_)
      refine v_iload_n (pc := 16) X rfl 1 rfl dX2_placeOf_16 ?_
      refine v_iadd (pc := 17) X dX2_placeOf_17 ?_
      refine v_bipush (pc := 18) X cst_b_40 dX2_placeOf_18 ?_
      refine v_irem (pc := 20) X (by decide) dX2_placeOf_20 ?_
      refine v_goto (pc := 21) (tgt := 25) X dX2_placeOf_21 (by decide) ?_
      exact v_iret (pc := 25) X hr hlk h dX2_placeOf_25
