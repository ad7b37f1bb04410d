theorem wth_nat {a : Int32} {k : Nat} (hk : k < 100000) (h : wth a 0 (nI k) = true) : ∃ n, n ≤ k ∧ a = nI n := by
  simp only [wth, Bool.and_eq_true, decide_eq_true_eq] at h
  rcases pk_ix a (n := k + 1) (by omega) with c | c | ⟨j, c1, c2⟩
  · exact absurd c h.1
  · refine absurd ?_ h.2
    refine Int32.lt_of_lt_of_le (nI_lt (show k < k + 1 by omega) (by omega)) c
  · exact ⟨j, by omega, c2⟩
theorem ms_o (μ : Mem) {k i k' i' : Nat} (s : Nat) (v : Int32) (h : ¬ (k' = k ∧ i' = i)) : ms μ k i s v k' i' = μ k' i' := by rw [ms_mr, mr_n _ _ h]
theorem ms_s (μ : Mem) (k i s : Nat) (v : Int32) : ms μ k i s v k i = upd (μ k i) s v := by rw [ms_mr, mr_s]
theorem RB_setF {b n f : Nat} {μ : Mem} {T : Nat → Int32} (v : Int32) (h : RB b μ T) (hn : n < 6) (hf : f < 14) (hf6 : f ≠ 6) : RB b (ms μ 3 (6 * b + n) f v) (upd T (if f < 6 then 6 * f + n else 6 * (f - 1) + n) v) := by
  obtain ⟨h1, h2, h3, h4, h5, h6, h7⟩ := h
  have hi : ∀ j, 78 ≤ j → upd T (if f < 6 then 6 * f + n else 6 * (f - 1) + n) v j = T j := fun j hj => upd_n _ _ (by split <;> omega)
  have r14 : ∀ m, m < 6 → ∀ g, 14 ≤ g → ms μ 3 (6 * b + n) f v 3 (6 * b + m) g = μ 3 (6 * b + m) g := fun m hm g hg => by
    by_cases c : m = n
    · subst c; rw [ms_s, upd_n _ _ (by omega)]
    · rw [ms_o _ _ _ (by omega)]
  refine ⟨fun m hm g hg hg6 => ?_, fun m hm => by rw [r14 m hm 14 (by omega), r14 m hm 15 (by omega)]; exact h2 m hm, fun m hm => ?_, by rw [ms_o _ _ _ (by omega), hi _ (by omega)]; exact h4, by rw [ms_o _ _ _ (by omega), hi _ (by omega)]; exact h5, by rw [ms_o _ _ _ (by omega), hi _ (by omega)]; exact h6, LR_congr (LR_keep h7 (ms_o _ _ _ (by omega)) (ms_o _ _ _ (by omega)) (ms_o _ _ _ (by omega)) (ms_o _ _ _ (by omega))) (fun j hj _ => hi j (by omega))⟩
  · have hr : rT (upd T (if f < 6 then 6 * f + n else 6 * (f - 1) + n) v) m g = if m = n ∧ g = f then v else rT T m g := by
      unfold rT
      by_cases c : m = n ∧ g = f
      · obtain ⟨rfl, rfl⟩ := c
        by_cases c2 : g < 6
        · simp [c2, upd]
        · simp [c2, hg6, upd]
      · rw [if_neg c, if_neg hg6, if_neg hg6]
        by_cases c2 : g < 6
        · rw [if_pos c2, if_pos c2, upd_n _ _ (by split <;> omega)]
        · rw [if_neg c2, if_neg c2, upd_n _ _ (by split <;> omega)]
    rw [hr]
    by_cases c : m = n
    · subst c
      rw [ms_s]
      by_cases c2 : g = f
      · subst c2; rw [upd_s, if_pos ⟨rfl, rfl⟩]
      · rw [upd_n _ _ c2, if_neg (by omega)]; exact h1 m hm g hg hg6
    · rw [ms_o _ _ _ (by omega), if_neg (by omega)]
      exact h1 m hm g hg hg6
  · rw [r14 m hm 14 (by omega), ms_o _ _ _ (by omega), ms_o _ _ _ (by omega), hi _ (by omega), hi _ (by omega), hi _ (by omega)]
    obtain ⟨a1, a2, a3, a4⟩ := h3 m hm
    refine ⟨a1, a2, a3, fun o ho hb => ?_⟩
    rw [hi _ (by omega)]
    exact a4 o ho hb
theorem RB_set6 {b n : Nat} {μ : Mem} {T : Nat → Int32} (v : Int32) (h : RB b μ T) (hn : n < 6) : RB b (ms μ 3 (6 * b + n) 6 v) T := by
  obtain ⟨h1, h2, h3, h4, h5, h6, h7⟩ := h
  have r14 : ∀ m, m < 6 → ∀ g, g ≠ 6 → ms μ 3 (6 * b + n) 6 v 3 (6 * b + m) g = μ 3 (6 * b + m) g := fun m hm g hg => by
    by_cases c : m = n
    · subst c; rw [ms_s, upd_n _ _ (by omega)]
    · rw [ms_o _ _ _ (by omega)]
  refine ⟨fun m hm g hg hg6 => by rw [r14 m hm g hg6]; exact h1 m hm g hg hg6, fun m hm => by rw [r14 m hm 14 (by omega), r14 m hm 15 (by omega)]; exact h2 m hm, fun m hm => ?_, by rw [ms_o _ _ _ (by omega)]; exact h4, by rw [ms_o _ _ _ (by omega)]; exact h5, by rw [ms_o _ _ _ (by omega)]; exact h6, LR_keep h7 (ms_o _ _ _ (by omega)) (ms_o _ _ _ (by omega)) (ms_o _ _ _ (by omega)) (ms_o _ _ _ (by omega))⟩
  rw [r14 m hm 14 (by omega), ms_o _ _ _ (by omega), ms_o _ _ _ (by omega)]
  exact h3 m hm
theorem BG_setF {b n f : Nat} {μ : Mem} (v : Int32) (h : BG b μ) (hn : n < 6) (hf : f < 14) (hf6 : f = 6 → nz v) : BG b (ms μ 3 (6 * b + n) f v) := by
  intro m hm
  by_cases c : m = n
  · subst c
    rw [ms_s, upd_n _ _ (show 15 ≠ f by omega), upd_n _ _ (show 14 ≠ f by omega)]
    refine ⟨?_, (h m hm).2⟩
    by_cases c6 : f = 6
    · subst c6; rw [upd_s]; exact hf6 rfl
    · rw [upd_n _ _ (Ne.symm c6)]; exact (h m hm).1
  · rw [ms_o _ _ _ (by omega)]
    exact h m hm
theorem BG_fr {b : Nat} {μ M : Mem} (h : BG b μ) (e : ∀ n, n < 6 → M 3 (6 * b + n) = μ 3 (6 * b + n)) : BG b M := by
  intro n hn
  rw [e n hn]
  exact h n hn
theorem GI_upd {N j : Nat} {T : Nat → Int32} (v : Int32) (h : GI N T) (hj : ¬ (30 ≤ j ∧ j < 36) ∧ ¬ (48 ≤ j ∧ j < 60) ∧ ¬ (84 ≤ j ∧ j < 90) ∧ j ≠ 133 ∧ j ≠ 135) : GI N (upd T j v) := by
  obtain ⟨h1, ⟨c, h2, h3⟩, ⟨sz, h4, h5⟩, h6⟩ := h
  refine ⟨fun n hn => ?_, ⟨c, h2, by rw [upd_n _ _ (by omega)]; exact h3⟩, ⟨sz, h4, by rw [upd_n _ _ (by omega)]; exact h5⟩, fun n hn => ?_⟩
  · rw [upd_n _ _ (by omega), upd_n _ _ (by omega), upd_n _ _ (by omega)]; exact h1 n hn
  · rw [upd_n _ _ (by omega)]; exact h6 n hn
theorem Inv_T {N n f : Nat} {μ : Mem} (h : Inv N μ) (hn : n < 6) (hf : f < 14) (hf6 : f ≠ 6) : μ 3 n f = rT (μ 20 0) n f := by
  have := h.1.1 n hn f hf hf6
  rwa [show 6 * 0 + n = n by omega] at this
/-- only bus 0's cells and the reference's row and working cells change -/
theorem Inv_mem {N N' : Nat} {μ M : Mem} (h : Inv N μ) (hN : N ≤ N') (f : ∀ k i, ¬ own 0 k i → ¬ scr k i → ¬ (k = 4 ∧ i = 4) → ¬ (k = 11 ∧ i = 4) → M k i = μ k i) (h0 : RB 0 M (M 20 0)) (hG : GI N' (M 20 0)) (b0 : BG 0 M) : Inv N' M := by
  refine Inv_step h hN (fun k i h1 h2 h3 h4 h5 h6 h7 h8 => f k i h6 (by unfold scr; omega) h4 h5) (fun k hk j hj => ?_) h0 hG b0 (BG_frame (h.2.2.1 1 (by omega)) (fun k i ho => f k i (own_ne ho (by omega)) (by have := own_k ho; unfold scr; omega) (by unfold own at ho; omega) (by unfold own at ho; omega)))
  unfold img
  rw [f 21 0 (by unfold own; omega) (by unfold scr; omega) (by omega) (by omega)]
theorem wth_f {a lo hi : Int32} (h : ¬ wth a lo hi = true) : wth a lo hi = false := by simpa using h
theorem op_bound {N : Nat} {μ : Mem} (h : Inv N μ) (a1 : Int32) : wp_X5_bound a1 μ (fun r μ1 => wp_X6_bound a1 μ1 (fun r' μ2 => r = r' ∧ Inv (N + 50) μ2)) := by
  have fin : Inv (N + 50) μ := Inv_mono h (by omega)
  unfold wp_X5_bound wp_X6_bound
  have v1 : vp_in (nI 132) 256 := vi (by omega) (by omega)
  simp only [w_isWithin, w_in, forall_eq, v1, true_and, cl (show 132 < 100000 by omega), b2i_0]
  refine ⟨fun c => ⟨fun _ => ⟨?_, ?_⟩, fun c2 => absurd c2 c⟩, fun c => ⟨fun c2 => absurd c c2, fun _ => (by first | exact fin | exact ⟨rfl, fin⟩ | exact ⟨trivial, fin⟩)⟩⟩
  · rw [ms_o _ _ _ (by omega)]
    exact h.1.2.2.2.1
  · have e20 : ms (ms μ 0 0 3 a1) 20 0 132 a1 20 0 = upd (μ 20 0) 132 a1 := by rw [ms_s, ms_o _ _ _ (by omega)]
    refine Inv_mem h (by omega) (fun k i h1 h2 _ _ => ?_) ?_ (by rw [e20]; exact GI_mono (GI_upd a1 h.2.1 (by omega)) (by omega)) (BG_fr (h.2.2.1 0 (by omega)) (fun n hn => by rw [ms_o _ _ _ (by omega), ms_o _ _ _ (by omega)]))
    · unfold own at h1
      unfold scr at h2
      rw [ms_o _ _ _ (by omega), ms_o _ _ _ (by omega)]
    · rw [e20]
      obtain ⟨h1, h2, h3, h4, h5, h6, h7⟩ := h.1
      have fr : ∀ k i, ¬ (k = 0 ∧ i = 0) → ¬ (k = 20 ∧ i = 0) → ms (ms μ 0 0 3 a1) 20 0 132 a1 k i = μ k i := fun k i z1 z2 => by rw [ms_o _ _ _ z2, ms_o _ _ _ z1]
      have r0 : ms (ms μ 0 0 3 a1) 20 0 132 a1 0 0 = upd (μ 0 0) 3 a1 := by rw [ms_o _ _ _ (by omega), ms_s]
      refine ⟨fun n hn f hf hf6 => ?_, fun n hn => ?_, fun n hn => ?_, by rw [r0, upd_s, upd_s], by rw [r0, upd_n _ _ (by omega), upd_n _ _ (by omega)]; exact h5, by rw [r0, upd_n _ _ (by omega), upd_n _ _ (by omega)]; exact h6, LR_congr (LR_keep h7 (fr _ _ (by omega) (by omega)) (fr _ _ (by omega) (by omega)) (fr _ _ (by omega) (by omega)) (fr _ _ (by omega) (by omega))) (fun j hj _ => upd_n _ _ (by omega))⟩
      · rw [fr _ _ (by omega) (by omega), h1 n hn f hf hf6]
        unfold rT
        by_cases c1 : f < 6
        · rw [if_pos c1, if_pos c1, upd_n _ _ (by omega)]
        · rw [if_neg c1, if_neg c1, if_neg hf6, if_neg hf6, upd_n _ _ (by omega)]
      · rw [fr _ _ (by omega) (by omega)]; exact h2 n hn
      · rw [fr 3 _ (by omega) (by omega), fr 1 _ (by omega) (by omega), fr 7 _ (by omega) (by omega), upd_n _ _ (by omega), upd_n _ _ (by omega), upd_n _ _ (by omega)]
        obtain ⟨z1, z2, z3, z4⟩ := h3 n hn
        refine ⟨z1, z2, z3, fun o ho hb => ?_⟩
        rw [upd_n _ _ (by omega)]
        exact z4 o ho hb
/-- one node's settings -/
theorem Inv_fr {N N' : Nat} {μ μ1 M : Mem} (h : Inv N μ) (hN : N ≤ N') (f1 : ∀ k i, ¬ own 0 k i → μ1 k i = μ k i) (hR : RB 0 μ1 (M 20 0)) (hB : BG 0 μ1) (hG : GI N' (M 20 0)) (f2 : ∀ k i, ¬ scr k i → M k i = μ1 k i) : Inv N' M := by
  have fo : ∀ k i, own 0 k i → M k i = μ1 k i := fun k i ho => f2 k i (by have := own_k ho; unfold scr; omega)
  exact Inv_mem h hN (fun k i z1 z2 _ _ => by rw [f2 k i z2, f1 k i z1]) (RB_frame hR fo) hG (BG_frame hB fo)
theorem op_clock {N : Nat} {μ : Mem} (h : Inv N μ) (a1 a2 a3 : Int32) : wp_X5_clock a1 a2 a3 μ (fun r μ1 => wp_X6_clock a1 a2 a3 μ1 (fun r' μ2 => r = r' ∧ Inv (N + 50) μ2)) := by
  have fin : Inv (N + 50) μ := Inv_mono h (by omega)
  unfold wp_X5_clock wp_X6_clock
  rw [w_isNode]
  simp only [w6_isNode, b2i_0]
  refine ⟨fun c => ?_, fun c => ⟨fun c2 => absurd c c2, fun _ => (by first | exact fin | exact ⟨rfl, fin⟩ | exact ⟨trivial, fin⟩)⟩⟩
  have c' : wth a1 0 (nI 5) = true := by simpa using c
  obtain ⟨n, hn, rfl⟩ := within_node c'
  refine ⟨vi hn (by omega), ?_⟩
  rw [cl (show n < 100000 by omega)]
  rintro j rfl
  have key : ∀ f : Nat, f = 3 ∨ f = 4 → ∀ v, Inv (N + 50) (ms (ms μ 3 (6 * 0 + n) f v) 20 0 (6 * f + n) v) := fun f hf v => by
    have e20 : ms (ms μ 3 (6 * 0 + n) f v) 20 0 (6 * f + n) v 20 0 = upd (μ 20 0) (6 * f + n) v := by rw [ms_s, ms_o _ _ _ (by omega)]
    refine Inv_fr h (by omega) (μ1 := ms μ 3 (6 * 0 + n) f v) (fun k i ho => ms_o _ _ _ (by unfold own at ho; omega)) ?_ (BG_setF v (h.2.2.1 0 (by omega)) hn (by omega) (by omega)) (by rw [e20]; exact GI_mono (GI_upd v h.2.1 (by omega)) (by omega)) (fun k i hk => ms_o _ _ _ (by unfold scr at hk; omega))
    rw [e20]
    have := RB_setF v h.1 hn (show f < 14 by omega) (show f ≠ 6 by omega)
    rwa [if_pos (by omega)] at this
  have k3 : μ 3 (6 * 0 + n) 3 = μ 20 0 (18 + n) := by rw [h.1.1 n hn 3 (by omega) (by omega), rT_3]
  have k4 : μ 3 (6 * 0 + n) 4 = μ 20 0 (24 + n) := by rw [h.1.1 n hn 4 (by omega) (by omega), rT_4]
  unfold wp_X5_clock_b55 wp_X6_clock_b31 wp_X6_clock_b43
  simp only [w_isWithin, w_in, b2i_0, c', forall_eq]
  by_cases d0 : a2 = 0
  · subst d0
    have v1 : vp_in (nI (18 + n)) 256 := vi (by omega) (by omega)
    have e1 : nI 18 + nI 6 * 0 + nI n = nI (18 + n) := by rw [show (0 : Int32) = nI 0 from rfl, pk_mul, nI_add, nI_add]
    have w1 : wth 0 0 1 = true := by decide
    have z : ¬ (0 : Int32) = 1 := by decide
    simp only [e1, v1, cl (show 18 + n < 100000 by omega), w1, true_and, not_true_eq_false, false_implies, true_implies, Bool.true_eq_false, not_false_eq_true, and_true, z]
    by_cases d1 : wth a3 (-50) (nI 50) = true
    · simp only [d1, Bool.true_eq_false, not_false_eq_true, true_implies, false_implies, and_true, true_and]
      exact ⟨by rw [ms_o _ _ _ (by omega), k3], key 3 (by omega) a3⟩
    · have d1' := wth_f d1
      simp only [d1', not_true_eq_false, true_implies, false_implies, and_true, true_and]
      first | exact fin | exact ⟨rfl, fin⟩ | exact ⟨trivial, fin⟩
  · by_cases d2 : a2 = 1
    · subst d2
      have v1 : vp_in (nI (24 + n)) 256 := vi (by omega) (by omega)
      have e1 : nI 18 + nI 6 * 1 + nI n = nI (24 + n) := by rw [show (1 : Int32) = nI 1 from rfl, pk_mul, nI_add, nI_add]
      have w1 : wth 1 0 1 = true := by decide
      have z : ¬ (1 : Int32) = 0 := by decide
      simp only [e1, v1, cl (show 24 + n < 100000 by omega), w1, true_and, not_true_eq_false, false_implies, true_implies, Bool.true_eq_false, not_false_eq_true, and_true, z]
      by_cases d1 : wth a3 (-400) (nI 400) = true
      · simp only [d1, Bool.true_eq_false, not_false_eq_true, true_implies, false_implies, and_true, true_and]
        exact ⟨by rw [ms_o _ _ _ (by omega), k4], key 4 (by omega) a3⟩
      · have d1' := wth_f d1
        simp only [d1', not_true_eq_false, true_implies, false_implies, and_true, true_and]
        first | exact fin | exact ⟨rfl, fin⟩ | exact ⟨trivial, fin⟩
    · have w1 : wth a2 0 1 = false := by
        refine wth_f (fun e => ?_)
        obtain ⟨j, j1, j2⟩ := wth_nat (k := 1) (by omega) e
        rcases (show j = 0 ∨ j = 1 by omega) with rfl | rfl
        · exact d0 j2
        · exact d2 j2
      simp only [d0, d2, w1, not_true_eq_false, true_implies, false_implies, and_true, true_and, not_false_eq_true, Bool.true_eq_false]
      first | exact fin | exact ⟨rfl, fin⟩ | exact ⟨trivial, fin⟩
theorem op_node {N : Nat} {μ : Mem} (h : Inv N μ) (a1 a2 a3 a4 : Int32) : wp_X5_node a1 a2 a3 a4 μ (fun r μ1 => wp_X6_node a1 a2 a3 a4 μ1 (fun r' μ2 => r = r' ∧ Inv (N + 50) μ2)) := by
  have fin : Inv (N + 50) μ := Inv_mono h (by omega)
  unfold wp_X5_node wp_X6_node
  rw [w_isNode]
  simp only [w6_isNode, b2i_0]
  refine ⟨fun c => ?_, fun c => ⟨fun c2 => absurd c c2, fun _ => (by first | exact fin | exact ⟨rfl, fin⟩ | exact ⟨trivial, fin⟩)⟩⟩
  have c' : wth a1 0 (nI 5) = true := by simpa using c
  obtain ⟨n, hn, rfl⟩ := within_node c'
  unfold wp_X5_node_b19 wp_X5_node_b24
  have hw : wth a2 1 (nI 2) = (decide (a2 = 1) || decide (a2 = nI 2)) := by
    by_cases d : wth a2 0 (nI 2) = true
    · obtain ⟨j, j1, rfl⟩ := wth_nat (k := 2) (by omega) d
      rcases (show j = 0 ∨ j = 1 ∨ j = 2 by omega) with rfl | rfl | rfl <;> decide
    · have d1 : ¬ a2 = 1 := fun e => d (by subst e; decide)
      have d2 : ¬ a2 = nI 2 := fun e => d (by subst e; decide)
      simp only [d1, d2, decide_false, Bool.or_self]
      refine wth_f (fun e => d ?_)
      simp only [wth, Bool.and_eq_true, decide_eq_true_eq] at e ⊢
      exact ⟨fun z => e.1 (Int32.lt_trans z (by decide)), e.2⟩
  have v0 : vp_in (nI n) 6 := vi hn (by omega)
  have v1 : vp_in (nI (6 + n)) 256 := vi (by omega) (by omega)
  have v2 : vp_in (nI (0 + n)) 256 := vi (by omega) (by omega)
  have v3 : vp_in (nI (12 + n)) 256 := vi (by omega) (by omega)
  have z0 : (0 : Int32) + nI n = nI (0 + n) := by rw [show (0 : Int32) = nI 0 from rfl, nI_add]
  simp only [w_isWithin, w_in, b2i_0, c', forall_eq, v0, v1, v2, v3, z0, nI_add, true_and, cl (show n < 100000 by omega), cl (show 6 + n < 100000 by omega), cl (show 0 + n < 100000 by omega), cl (show 12 + n < 100000 by omega), w6_is hn, hw]
  have k5 : μ 3 (6 * 0 + n) 5 = μ 20 0 (30 + n) := by rw [h.1.1 n hn 5 (by omega) (by omega), rT_5]
  have k1 : ∀ o, o < 6 → μ 3 (6 * 0 + o) 1 = μ 20 0 (6 + o) := fun o ho => by rw [h.1.1 o ho 1 (by omega) (by omega), rT_1]
  by_cases dk : a2 = 1 ∨ a2 = nI 2
  · have hk : (decide (a2 = 1) || decide (a2 = nI 2)) = true := by simpa using dk
    have main : ∀ (P Q R : Prop), P → ((a2 = 1 → P) ∧ (¬ a2 = 1 → (¬ a2 = nI 2 → Q) ∧ (a2 = nI 2 → P))) := fun P Q R hP => ⟨fun _ => hP, fun d1 => ⟨fun d2 => absurd dk (by simp [d1, d2]), fun _ => hP⟩⟩
    refine main _ _ True ?_
    simp only [hk, show ¬ (1 : Int32) = 0 by decide, not_true_eq_false, false_implies, true_implies, Bool.true_eq_false, not_false_eq_true, and_true, true_and]
    by_cases d3 : wth a3 1 (nI 9) = true
    · by_cases d4 : wth a4 1 (nI 9) = true
      · simp only [d3, d4, not_true_eq_false, false_implies, true_implies, Bool.true_eq_false, not_false_eq_true, and_true, true_and, k5]
        by_cases d5 : μ 20 0 (30 + n) = 0
        · simp only [d5, not_true_eq_false, false_implies, true_implies, decide_true, Bool.true_eq_false, not_false_eq_true, and_true, true_and]
          refine w_isSlot 0 a3 hn μ _ ?_
          have ea : anyN (fun o => decide (¬ o = n) && decide (μ 3 (6 * 0 + o) 1 = a3)) 6 = anyN (fun o => decide (¬ o = n) && decide (μ 20 0 (6 + o) = a3)) 6 := anyN_congr 6 (fun o ho => by simp only [k1 o ho])
          rw [ea]
          simp only [b2i_0]
          generalize hA : anyN (fun o => decide (¬ o = n) && decide (μ 20 0 (6 + o) = a3)) 6 = A
          refine ⟨fun e => ?_, fun e => ?_⟩
          · refine ⟨fun z => absurd z (by rw [ms_o _ _ _ (by omega), ms_o _ _ _ (by omega), ms_o _ _ _ (by omega), d5]; decide), fun _ => ?_⟩
            refine w6_isTaken hn a3 _ _ ?_
            rw [ms_o _ _ _ (by omega), ms_o _ _ _ (by omega), ms_o _ _ _ (by omega), hA, e]
            refine ⟨fun _ => ⟨?_, ?_⟩, fun z => absurd rfl z⟩
            · rw [k1 n hn]
            · generalize hM : ms (ms (ms μ 3 (6 * 0 + n) 0 a2) 3 (6 * 0 + n) 1 a3) 3 (6 * 0 + n) 2 a4 = M1
              have f1 : ∀ k i, ¬ (k = 3 ∧ i = 6 * 0 + n) → M1 k i = μ k i := fun k i hk => by rw [← hM, ms_o _ _ _ hk, ms_o _ _ _ hk, ms_o _ _ _ hk]
              have e20 : ms (ms (ms M1 20 0 (0 + n) a2) 20 0 (6 + n) a3) 20 0 (12 + n) a4 20 0 = upd (upd (upd (μ 20 0) (0 + n) a2) (6 + n) a3) (12 + n) a4 := by rw [ms_s, ms_s, ms_s, f1 _ _ (by omega)]
              have r0 := RB_setF a2 h.1 hn (show 0 < 14 by omega) (by omega)
              have r1 := RB_setF a3 r0 hn (show 1 < 14 by omega) (by omega)
              have r2 := RB_setF a4 r1 hn (show 2 < 14 by omega) (by omega)
              rw [hM] at r2
              refine Inv_fr h (by omega) (μ1 := M1) (fun k i ho => f1 k i (by unfold own at ho; omega)) (by rw [e20]; exact r2) ?_ (by rw [e20]; exact GI_mono (GI_upd _ (GI_upd _ (GI_upd _ h.2.1 (by omega)) (by omega)) (by omega)) (by omega)) (fun k i hk => by
                have hk' : ¬ (k = 20 ∧ i = 0) := by unfold scr at hk; omega
                rw [ms_o _ _ _ hk', ms_o _ _ _ hk', ms_o _ _ _ hk'])
              rw [← hM]
              exact BG_setF _ (BG_setF _ (BG_setF _ (h.2.2.1 0 (by omega)) hn (by omega) (by omega)) hn (by omega) (by omega)) hn (by omega) (by omega)
          · have e' : A = true := by simpa using e
            refine ⟨fun z => absurd z (by rw [d5]; decide), fun _ => ?_⟩
            refine w6_isTaken hn a3 _ _ ?_
            rw [hA, e']
            exact ⟨fun z => absurd z (by decide), fun _ => (by first | exact fin | exact ⟨rfl, fin⟩ | exact ⟨trivial, fin⟩)⟩
        · simp only [d5, not_true_eq_false, false_implies, true_implies, decide_false, not_false_eq_true, and_true, true_and]
          first | exact fin | exact ⟨rfl, fin⟩ | exact ⟨trivial, fin⟩
      · have d4' := wth_f d4
        simp only [d3, d4', not_true_eq_false, false_implies, true_implies, Bool.true_eq_false, not_false_eq_true, and_true, true_and]
        first | exact fin | exact ⟨rfl, fin⟩ | exact ⟨trivial, fin⟩
    · have d3' := wth_f d3
      simp only [d3', not_true_eq_false, false_implies, true_implies, Bool.true_eq_false, not_false_eq_true, and_true, true_and]
      first | exact fin | exact ⟨rfl, fin⟩ | exact ⟨trivial, fin⟩
  · have d1 : ¬ a2 = 1 := fun e => dk (Or.inl e)
    have d2 : ¬ a2 = nI 2 := fun e => dk (Or.inr e)
    simp only [d1, d2, decide_false, Bool.or_self, not_true_eq_false, false_implies, true_implies, not_false_eq_true, and_true, true_and]
    exact ⟨fun _ => by first | exact fin | exact ⟨rfl, fin⟩, fun z => absurd z (by decide)⟩
