theorem op_told {N : Nat} {μ : Mem} (h : Inv N μ) (a1 a2 : Int32) : wp_X5_told a1 a2 μ (fun r μ1 => wp_X6_told a1 a2 μ1 (fun r' μ2 => r = r' ∧ Inv (N + 50) μ2)) := by
  have fin : Inv (N + 50) μ := Inv_mono h (by omega)
  unfold wp_X5_told wp_X6_told
  rw [w_isNode]
  simp only [w6_isNode, b2i_0]
  refine ⟨fun c => ?_, fun c => ⟨fun c2 => absurd c c2, fun _ => (by first | exact fin | exact ⟨rfl, fin⟩ | exact ⟨trivial, fin⟩)⟩⟩
  have c' : wth a1 0 (nI 5) = true := by simpa using c
  obtain ⟨n, hn, rfl⟩ := within_node c'
  refine ⟨vi hn (by omega), ?_⟩
  rw [cl (show n < 100000 by omega)]
  rintro j rfl
  obtain ⟨a0, -, aG, -⟩ := h.1.2.2.1 n hn
  have e5 : μ 3 (6 * 0 + n) 5 = μ 20 0 (30 + n) := by rw [h.1.1 n hn 5 (by omega) (by omega), rT_5]
  have e7 : μ 3 (6 * 0 + n) 7 = μ 20 0 (36 + n) := by rw [h.1.1 n hn 7 (by omega) (by omega), rT_7]
  have e8 : μ 3 (6 * 0 + n) 8 = μ 20 0 (42 + n) := by rw [h.1.1 n hn 8 (by omega) (by omega)]; simp [rT]
  have e9 : μ 3 (6 * 0 + n) 9 = μ 20 0 (48 + n) := by rw [h.1.1 n hn 9 (by omega) (by omega)]; simp [rT]
  have e10 : μ 3 (6 * 0 + n) 10 = μ 20 0 (54 + n) := by rw [h.1.1 n hn 10 (by omega) (by omega)]; simp [rT]
  have e11 : μ 3 (6 * 0 + n) 11 = μ 20 0 (60 + n) := by rw [h.1.1 n hn 11 (by omega) (by omega), rT_11]
  have e12 : μ 3 (6 * 0 + n) 12 = μ 20 0 (66 + n) := by rw [h.1.1 n hn 12 (by omega) (by omega), rT_12]
  have e13 : μ 3 (6 * 0 + n) 13 = μ 20 0 (72 + n) := by rw [h.1.1 n hn 13 (by omega) (by omega), rT_13]
  obtain ⟨w, w1, w2⟩ := h.2.1.2.2.2 n hn
  by_cases d : wth a2 0 (nI 9) = true
  · obtain ⟨m, m1, rfl⟩ := wth_nat (k := 9) (by omega) d
    have hin : ∀ m x y, m ≤ 4 → x = nI (30 + 6 * m + n) → vp_in x 256 ∧ (∀ z, z = μ 20 0 x.toNatClampNeg → y = μ 20 0 (30 + 6 * m + n) → y = z ∧ Inv (N + 50) μ) := fun m x y hm e => by
      subst e
      rw [cl (by omega)]
      exact ⟨vi (by omega) (by omega), fun z e1 e2 => ⟨by rw [e1, e2], fin⟩⟩
    have ine : ∀ x y, x < 100000 → y < 100000 → x ≠ y → ¬ nI x = nI y := fun x y hx hy hne e => hne ((nI_eq (by omega) (by omega)).mp e)
    have ix : ∀ m, nI 30 + nI 6 * nI m + nI n = nI (30 + 6 * m + n) := fun m => by rw [pk_mul, nI_add, nI_add]
    have wt : ∀ m, m ≤ 4 → wth (nI m) 0 (nI 4) = true := fun m hm => by
      rcases (show m = 0 ∨ m = 1 ∨ m = 2 ∨ m = 3 ∨ m = 4 by omega) with rfl | rfl | rfl | rfl | rfl <;> decide
    have low : ∀ m y, m ≤ 4 → y = μ 20 0 (30 + 6 * m + n) → (¬ wth (nI n) 0 (nI 5) = false → wp_X6_in (nI m) 0 (nI 4) μ (fun x_4 m_3 => ((x_4 = 0 → ((nI m = nI 5 → vp_in ((nI 60) + nI n) 256 ∧ ∀ x_6 : Int32, x_6 = m_3 20 0 (((nI 60) + nI n) : Int32).toNatClampNeg → y = x_6 + 100000 ∧ Inv (N + 50) m_3) ∧ (¬ nI m = nI 5 → ((nI m = nI 6 → vp_in ((nI 66) + nI n) 256 ∧ ∀ x_8 : Int32, x_8 = m_3 20 0 (((nI 66) + nI n) : Int32).toNatClampNeg → y = x_8 + nI 1000 ∧ Inv (N + 50) m_3) ∧ (¬ nI m = nI 6 → ((nI m = nI 7 → vp_in ((nI 72) + nI n) 256 ∧ ∀ x_10 : Int32, x_10 = m_3 20 0 (((nI 72) + nI n) : Int32).toNatClampNeg → y = x_10 ∧ Inv (N + 50) m_3) ∧ (¬ nI m = nI 7 → ((nI m = nI 8 → vp_in ((nI 78) + nI n) 256 ∧ ∀ x_12 : Int32, x_12 = m_3 20 0 (((nI 78) + nI n) : Int32).toNatClampNeg → y = x_12 ∧ Inv (N + 50) m_3) ∧ (¬ nI m = nI 8 → ((nI m = nI 9 → vp_in ((nI 84) + nI n) 256 ∧ ∀ x_14 : Int32, x_14 = m_3 20 0 (((nI 84) + nI n) : Int32).toNatClampNeg → wp_X6_size x_14 m_3 (fun x_16 m_15 => y = x_16 ∧ Inv (N + 50) m_15)) ∧ (¬ nI m = nI 9 → y = -2 ∧ Inv (N + 50) m_3))))))))))) ∧ (¬ x_4 = 0 → vp_in (((nI 30) + ((nI 6) * nI m)) + nI n) 256 ∧ ∀ x_17 : Int32, x_17 = m_3 20 0 ((((nI 30) + ((nI 6) * nI m)) + nI n) : Int32).toNatClampNeg → y = x_17 ∧ Inv (N + 50) m_3)))) ∧ (wth (nI n) 0 (nI 5) = false → y = -1 ∧ Inv (N + 50) μ) := fun m y hm hy => by
      refine ⟨fun _ => ?_, fun z => absurd z c⟩
      rw [w_in, wt m hm]
      refine ⟨fun z => absurd z (by decide), fun _ => ?_⟩
      rw [ix m]
      have v : vp_in (nI (30 + 6 * m + n)) 256 := vi (by omega) (by omega)
      refine ⟨v, ?_⟩
      rw [cl (show 30 + 6 * m + n < 100000 by omega)]
      rintro x rfl
      exact ⟨hy, fin⟩
    have nf : ∀ a b : Nat, (decide (nI a = nI b) = false) → ¬ nI a = nI b := fun a b e => by simpa using e
    have v60 : vp_in (nI (60 + n)) 256 := vi (by omega) (by omega)
    have v66 : vp_in (nI (66 + n)) 256 := vi (by omega) (by omega)
    have v72 : vp_in (nI (72 + n)) 256 := vi (by omega) (by omega)
    have v78 : vp_in (nI (78 + n)) 256 := vi (by omega) (by omega)
    have v84 : vp_in (nI (84 + n)) 256 := vi (by omega) (by omega)
    have c60 := cl (show 60 + n < 100000 by omega)
    have c66 := cl (show 66 + n < 100000 by omega)
    have c72 := cl (show 72 + n < 100000 by omega)
    have c78 := cl (show 78 + n < 100000 by omega)
    have c84 := cl (show 84 + n < 100000 by omega)
    rcases (show m = 0 ∨ m = 1 ∨ m = 2 ∨ m = 3 ∨ m = 4 ∨ m = 5 ∨ m = 6 ∨ m = 7 ∨ m = 8 ∨ m = 9 by omega) with rfl | rfl | rfl | rfl | rfl | rfl | rfl | rfl | rfl | rfl
    · refine ⟨fun _ => ?_, fun z => absurd rfl z⟩
      rintro x rfl
      exact low 0 _ (by omega) e5
    · refine ⟨fun z => absurd z (by decide), fun _ => ⟨fun _ => ?_, fun z => absurd rfl z⟩⟩
      rintro x rfl
      exact low 1 _ (by omega) e7
    · refine ⟨fun z => absurd z (by decide), fun _ => ⟨fun z => absurd z (by decide), fun _ => ⟨fun _ => ?_, fun z => absurd rfl z⟩⟩⟩
      rintro x rfl
      exact low 2 _ (by omega) e8
    · refine ⟨fun z => absurd z (by decide), fun _ => ⟨fun z => absurd z (by decide), fun _ => ⟨fun z => absurd z (by decide), fun _ => ⟨fun _ => ?_, fun z => absurd rfl z⟩⟩⟩⟩
      rintro x rfl
      exact low 3 _ (by omega) e9
    · refine ⟨fun z => absurd z (by decide), fun _ => ⟨fun z => absurd z (by decide), fun _ => ⟨fun z => absurd z (by decide), fun _ => ⟨fun z => absurd z (by decide), fun _ => ⟨fun _ => ?_, fun z => absurd rfl z⟩⟩⟩⟩⟩
      rintro x rfl
      exact low 4 _ (by omega) e10
    · refine ⟨fun z => absurd z (by decide), fun _ => ⟨fun z => absurd z (by decide), fun _ => ⟨fun z => absurd z (by decide), fun _ => ⟨fun z => absurd z (by decide), fun _ => ⟨fun z => absurd z (by decide), fun _ => ⟨fun _ => ?_, fun z => absurd rfl z⟩⟩⟩⟩⟩⟩
      rintro x rfl
      refine ⟨fun _ => ?_, fun z => absurd z c⟩
      rw [w_in]
      refine ⟨fun _ => ?_, fun z => absurd (by decide) z⟩
      simp only [nI_add]
      refine ⟨fun _ => ⟨v60, ?_⟩, fun z => absurd (by decide) z⟩
      rw [c60]
      rintro x rfl
      exact ⟨by rw [e11], fin⟩
    · refine ⟨fun z => absurd z (by decide), fun _ => ⟨fun z => absurd z (by decide), fun _ => ⟨fun z => absurd z (by decide), fun _ => ⟨fun z => absurd z (by decide), fun _ => ⟨fun z => absurd z (by decide), fun _ => ⟨fun z => absurd z (by decide), fun _ => ⟨fun _ => ?_, fun z => absurd rfl z⟩⟩⟩⟩⟩⟩⟩
      rintro x rfl
      refine ⟨fun _ => ?_, fun z => absurd z c⟩
      rw [w_in]
      refine ⟨fun _ => ?_, fun z => absurd (by decide) z⟩
      simp only [nI_add]
      refine ⟨fun z => absurd z (by decide), fun _ => ⟨fun _ => ⟨v66, ?_⟩, fun z => absurd (by decide) z⟩⟩
      rw [c66]
      rintro x rfl
      exact ⟨by rw [e12], fin⟩
    · refine ⟨fun z => absurd z (by decide), fun _ => ⟨fun z => absurd z (by decide), fun _ => ⟨fun z => absurd z (by decide), fun _ => ⟨fun z => absurd z (by decide), fun _ => ⟨fun z => absurd z (by decide), fun _ => ⟨fun z => absurd z (by decide), fun _ => ⟨fun z => absurd z (by decide), fun _ => ⟨fun _ => ?_, fun z => absurd rfl z⟩⟩⟩⟩⟩⟩⟩⟩
      rintro x rfl
      refine ⟨fun _ => ?_, fun z => absurd z c⟩
      rw [w_in]
      refine ⟨fun _ => ?_, fun z => absurd (by decide) z⟩
      simp only [nI_add]
      refine ⟨fun z => absurd z (by decide), fun _ => ⟨fun z => absurd z (by decide), fun _ => ⟨fun _ => ⟨v72, ?_⟩, fun z => absurd (by decide) z⟩⟩⟩
      rw [c72]
      rintro x rfl
      exact ⟨by rw [e13], fin⟩
    · refine ⟨fun z => absurd z (by decide), fun _ => ⟨fun z => absurd z (by decide), fun _ => ⟨fun z => absurd z (by decide), fun _ => ⟨fun z => absurd z (by decide), fun _ => ⟨fun z => absurd z (by decide), fun _ => ⟨fun z => absurd z (by decide), fun _ => ⟨fun z => absurd z (by decide), fun _ => ⟨fun z => absurd z (by decide), fun _ => ⟨fun _ => ?_, fun z => absurd rfl z⟩⟩⟩⟩⟩⟩⟩⟩⟩
      rintro j rfl x rfl
      refine ⟨fun _ => ?_, fun z => absurd z c⟩
      rw [w_in]
      refine ⟨fun _ => ?_, fun z => absurd (by decide) z⟩
      simp only [nI_add]
      refine ⟨fun z => absurd z (by decide), fun _ => ⟨fun z => absurd z (by decide), fun _ => ⟨fun z => absurd z (by decide), fun _ => ⟨fun _ => ⟨v78, ?_⟩, fun z => absurd (by decide) z⟩⟩⟩⟩
      rw [c78]
      rintro x rfl
      exact ⟨by rw [aG], fin⟩
    · refine ⟨fun z => absurd z (by decide), fun _ => ⟨fun z => absurd z (by decide), fun _ => ⟨fun z => absurd z (by decide), fun _ => ⟨fun z => absurd z (by decide), fun _ => ⟨fun z => absurd z (by decide), fun _ => ⟨fun z => absurd z (by decide), fun _ => ⟨fun z => absurd z (by decide), fun _ => ⟨fun z => absurd z (by decide), fun _ => ⟨fun z => absurd z (by decide), fun _ => ⟨fun _ => ?_, fun z => absurd rfl z⟩⟩⟩⟩⟩⟩⟩⟩⟩⟩
      rintro j rfl x rfl
      rw [w_bitCount, a0]
      refine ⟨fun _ => ?_, fun z => absurd z c⟩
      rw [w_in]
      refine ⟨fun _ => ?_, fun z => absurd (by decide) z⟩
      simp only [nI_add]
      refine ⟨fun z => absurd z (by decide), fun _ => ⟨fun z => absurd z (by decide), fun _ => ⟨fun z => absurd z (by decide), fun _ => ⟨fun z => absurd z (by decide), fun _ => ⟨fun _ => ⟨v84, ?_⟩, fun z => absurd (by decide) z⟩⟩⟩⟩⟩
      rw [c84]
      rintro x rfl
      refine w6_size _ _ _ ⟨?_, fin⟩
      rw [w2]
      exact bc_sz ⟨w, w1⟩
  · have nn : ∀ m, m ≤ 9 → ¬ a2 = nI m := fun m hm e => d (by
      subst e
      rcases (show m = 0 ∨ m = 1 ∨ m = 2 ∨ m = 3 ∨ m = 4 ∨ m = 5 ∨ m = 6 ∨ m = 7 ∨ m = 8 ∨ m = 9 by omega) with rfl | rfl | rfl | rfl | rfl | rfl | rfl | rfl | rfl | rfl <;> decide)
    have w4 : wth a2 0 (nI 4) = false := wth_f (fun e => by
      obtain ⟨m, m1, m2⟩ := wth_nat (k := 4) (by omega) e
      exact nn m (by omega) m2)
    refine ⟨fun z => absurd z (nn 0 (by omega)), fun _ => ⟨fun z => absurd z (nn 1 (by omega)), fun _ => ⟨fun z => absurd z (nn 2 (by omega)), fun _ => ⟨fun z => absurd z (nn 3 (by omega)), fun _ => ⟨fun z => absurd z (nn 4 (by omega)), fun _ => ⟨fun z => absurd z (nn 5 (by omega)), fun _ => ⟨fun z => absurd z (nn 6 (by omega)), fun _ => ⟨fun z => absurd z (nn 7 (by omega)), fun _ => ⟨fun z => absurd z (nn 8 (by omega)), fun _ => ⟨fun z => absurd z (nn 9 (by omega)), fun _ => ?_⟩⟩⟩⟩⟩⟩⟩⟩⟩⟩
    refine ⟨fun _ => ?_, fun z => absurd z c⟩
    rw [w_in, w4]
    refine ⟨fun _ => ?_, fun z => absurd rfl z⟩
    exact ⟨fun z => absurd z (nn 5 (by omega)), fun _ => ⟨fun z => absurd z (nn 6 (by omega)), fun _ => ⟨fun z => absurd z (nn 7 (by omega)), fun _ => ⟨fun z => absurd z (nn 8 (by omega)), fun _ => ⟨fun z => absurd z (nn 9 (by omega)), fun _ => (by first | exact fin | exact ⟨rfl, fin⟩ | exact ⟨trivial, fin⟩)⟩⟩⟩⟩⟩
theorem op_event {N : Nat} {μ : Mem} (h : Inv N μ) (a1 a2 : Int32) : wp_X5_event a1 a2 μ (fun r μ1 => wp_X6_event a1 a2 μ1 (fun r' μ2 => r = r' ∧ Inv (N + 50) μ2)) := by
  have fin : Inv (N + 50) μ := Inv_mono h (by omega)
  unfold wp_X5_event wp_X6_event wp_X2_placeOf
  rw [w_isWithin]
  simp only [w_in, b2i_0]
  have v1 : vp_in (nI 135) 256 := vi (by omega) (by omega)
  obtain ⟨f, sz, hf, hs, l1, l2, l3, l4⟩ := h.1.2.2.2.2.2.2
  refine ⟨fun c => ?_, fun c => ⟨fun c2 => absurd c c2, fun _ => (by first | exact fin | exact ⟨rfl, fin⟩ | exact ⟨trivial, fin⟩)⟩⟩
  simp only [forall_eq, v1, true_and, cl (show 135 < 100000 by omega), l1, l2, l3]
  have c' : wth a2 0 (nI 2) = true := by simpa using c
  obtain ⟨m, m1, rfl⟩ := wth_nat (k := 2) (by omega) c'
  refine ⟨fun d => ?_, fun d => ⟨fun _ => ⟨fun z => absurd d z, fun _ => (by first | exact fin | exact ⟨rfl, fin⟩ | exact ⟨trivial, fin⟩)⟩, fun z => absurd z c⟩⟩
  rcases pk_ix a1 (n := sz) (by omega) with z | z | ⟨e, he, rfl⟩
  · have w : wth a1 0 (nI sz - 1) = false := wth_f (fun z2 => by
      simp only [wth, Bool.and_eq_true, decide_eq_true_eq] at z2
      exact z2.1 z)
    refine ⟨fun _ => ⟨fun z2 => absurd z2 (by decide), fun _ => ⟨fun _ => ⟨fun _ => ⟨fun _ => (by first | exact fin | exact ⟨rfl, fin⟩ | exact ⟨trivial, fin⟩), fun z3 => absurd w z3⟩, fun z3 => absurd z3 d⟩, fun z3 => absurd z3 c⟩⟩, fun z2 => absurd z z2⟩
  · have w : wth a1 0 (nI sz - 1) = false := wth_f (fun z2 => by
      simp only [wth, Bool.and_eq_true, decide_eq_true_eq] at z2
      by_cases s0 : sz = 0
      · subst s0
        exact z2.2 (Int32.lt_of_lt_of_le (by decide) z)
      · have : nI sz - 1 = nI (sz - 1) := pk_sub (b := 1) (by omega)
        rw [this] at z2
        exact z2.2 (Int32.lt_of_lt_of_le (nI_lt (by omega) (by omega)) z))
    have z0 : ¬ a1 < 0 := fun z2 => absurd (Int32.lt_of_le_of_lt z z2) (nI_pos (by omega))
    refine ⟨fun z2 => absurd z2 z0, fun _ => ⟨fun _ => ⟨fun z2 => absurd z2 (by decide), fun _ => ⟨fun _ => ⟨fun _ => ⟨fun _ => (by first | exact fin | exact ⟨rfl, fin⟩ | exact ⟨trivial, fin⟩), fun z3 => absurd w z3⟩, fun z3 => absurd z3 d⟩, fun z3 => absurd z3 c⟩⟩, fun z2 => absurd z z2⟩⟩
  · have w : ¬ wth (nI e) 0 (nI sz - 1) = false := by
      have : nI sz - 1 = nI (sz - 1) := pk_sub (b := 1) (by omega)
      rw [this]
      simp only [wth, Bool.and_eq_false_iff, decide_eq_false_iff_not, Classical.not_not]
      rintro (z2 | z2)
      · exact nI_pos (by omega) z2
      · exact nI_nlt (show e ≤ sz - 1 by omega) (by omega) z2
    refine ⟨fun z => absurd z (nI_pos (by omega)), fun _ => ⟨fun z => absurd z (nI_ge he (by omega)), fun _ => ?_⟩⟩
    have ep : nI f + nI e - (nI f + nI e) / nI 40 * nI 40 = nI ((f + e) % 40) := by rw [nI_add, pk_rem (by omega) (by omega) (by omega)]
    have lt40 : (f + e) % 40 < 40 := Nat.mod_lt _ (by omega)
    have v40 : vp_in (nI ((f + e) % 40)) 40 := vi lt40 (by omega)
    have c40 := cl (show (f + e) % 40 < 100000 by omega)
    have ei : nI 136 + nI 3 * nI e + nI m = nI (136 + 3 * e + m) := by rw [pk_mul, nI_add, nI_add]
    have vI : vp_in (nI (136 + 3 * e + m)) 256 := vi (by omega) (by omega)
    rw [ep]
    simp only [v40, c40, true_and, ei, vI, cl (show 136 + 3 * e + m < 100000 by omega)]
    obtain ⟨k0, k1, k2⟩ := l4 e he
    refine ⟨fun _ => ?_, fun z => absurd (nI_le (a := 0) (by omega) (by omega)) z⟩
    rcases (show m = 0 ∨ m = 1 ∨ m = 2 by omega) with rfl | rfl | rfl
    · exact ⟨fun _ => ⟨fun _ => ⟨fun _ => ⟨fun z => absurd z w, fun _ => ⟨k0, fin⟩⟩, fun z => absurd z d⟩, fun z => absurd z c⟩, fun z => absurd rfl z⟩
    · exact ⟨fun z => absurd z (by decide), fun _ => ⟨fun _ => ⟨fun _ => ⟨fun _ => ⟨fun z => absurd z w, fun _ => ⟨by rw [k1]; congr 1; omega, fin⟩⟩, fun z => absurd z d⟩, fun z => absurd z c⟩, fun z => absurd rfl z⟩⟩
    · exact ⟨fun z => absurd z (by decide), fun _ => ⟨fun z => absurd z (by decide), fun _ => ⟨fun _ => ⟨fun _ => ⟨fun z => absurd z w, fun _ => ⟨by rw [k2]; congr 1; omega, fin⟩⟩, fun z => absurd z d⟩, fun z => absurd z c⟩⟩⟩
theorem op_count {N : Nat} {μ : Mem} (h : Inv N μ) (a1 : Int32) : wp_X5_count a1 μ (fun r μ1 => wp_X6_count a1 μ1 (fun r' μ2 => r = r' ∧ Inv (N + 50) μ2)) := by
  have fin : Inv (N + 50) μ := Inv_mono h (by omega)
  have v132 : vp_in (nI 132) 256 := vi (by omega) (by omega)
  have v133 : vp_in (nI 133) 256 := vi (by omega) (by omega)
  have v134 : vp_in (nI 134) 256 := vi (by omega) (by omega)
  have v0 : vp_in 0 2 := vi (n := 0) (by omega) (by omega)
  have v1 : vp_in 1 2 := vi (n := 1) (by omega) (by omega)
  have c0 : (0 : Int32).toNatClampNeg = 0 := rfl
  have c1 : (1 : Int32).toNatClampNeg = 1 := rfl
  have k5 : ∀ m, m < 6 → μ 3 (6 * 0 + m) 5 = μ 20 0 (30 + m) := fun m hm => by rw [h.1.1 m hm 5 (by omega) (by omega), rT_5]
  have st : ∀ t, bitsN (fun n => decide (μ 3 (6 * 0 + n) 5 = t)) 6 = bitsN (fun n => decide (μ 20 0 (30 + n) = t)) 6 := fun t => bitsN_congr 6 (fun n hn => by simp only [k5 n hn])
  obtain ⟨-, -, -, h4, h5, h6, -⟩ := h.1
  have h7 := h.2.2.2.2
  unfold wp_X5_count wp_X6_count wp_X6_count_b94 wp_X6_count_b108
  simp only [forall_eq, v132, v133, v134, v0, v1, true_and, cl (show 132 < 100000 by omega), cl (show 133 < 100000 by omega), cl (show 134 < 100000 by omega), c0, c1]
  refine ⟨fun e => ⟨fun _ => ⟨h5, fin⟩, fun z => absurd e z⟩, fun d0 => ⟨fun e => ⟨fun z => absurd z d0, fun _ => ⟨fun _ => ⟨h6, fin⟩, fun z => absurd e z⟩⟩, fun d1 => ⟨fun e => ?_, fun d2 => ⟨fun e => ?_, fun d3 => ⟨fun e => ?_, fun d4 => ⟨fun e => ?_, fun d5 => ?_⟩⟩⟩⟩⟩⟩
  · refine w_thatAre 0 _ _ _ ⟨fun z => absurd z d0, fun _ => ⟨fun z => absurd z d1, fun _ => ⟨fun _ => w6_setOf _ _ _ ⟨st _, fin⟩, fun z => absurd e z⟩⟩⟩
  · refine w_thatAre 0 _ _ _ ⟨fun z => absurd z d0, fun _ => ⟨fun z => absurd z d1, fun _ => ⟨fun z => absurd z d2, fun _ => ⟨fun _ => w6_setOf _ _ _ ⟨st _, fin⟩, fun z => absurd e z⟩⟩⟩⟩
  · exact ⟨fun z => absurd z d0, fun _ => ⟨fun z => absurd z d1, fun _ => ⟨fun z => absurd z d2, fun _ => ⟨fun z => absurd z d3, fun _ => ⟨fun _ => ⟨h4, fin⟩, fun z => absurd e z⟩⟩⟩⟩⟩
  · refine ⟨fun z => absurd z d0, fun _ => ⟨fun z => absurd z d1, fun _ => ⟨fun z => absurd z d2, fun _ => ⟨fun z => absurd z d3, fun _ => ⟨fun z => absurd z d4, fun _ => ⟨fun _ => ?_, fun z => absurd e z⟩⟩⟩⟩⟩⟩
    rw [h7]
    by_cases x0 : μ 22 0 0 = 0 <;> by_cases x1 : μ 22 0 1 = 0 <;> simp only [x0, x1, if_true, if_false, true_implies, false_implies, not_true_eq_false, not_false_eq_true, and_true, true_and, fin]
  · exact ⟨fun z => absurd z d0, fun _ => ⟨fun z => absurd z d1, fun _ => ⟨fun z => absurd z d2, fun _ => ⟨fun z => absurd z d3, fun _ => ⟨fun z => absurd z d4, fun _ => ⟨fun z => absurd z d5, fun _ => (by first | exact fin | exact ⟨rfl, fin⟩ | exact ⟨trivial, fin⟩)⟩⟩⟩⟩⟩⟩
