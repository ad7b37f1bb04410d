theorem T1_k {T : Nat → Int32} {j : Nat} (h : j < 30 ∨ 60 ≤ j) : T1m T 6 j = T j := by
  unfold T1m
  rw [if_neg (by omega)]
theorem T1_rA {T : Nat → Int32} {n f : Nat} (hn : n < 6) (hf : f < 13) : mw (T1m T 6) (b2i (flT T n)) n f = rA T n f := by
  unfold mw rA
  cases hfl : flT T n
  · have key : ∀ j, j % 6 = n → T1m T 6 j = T j := fun j hj => by
      unfold T1m
      rw [if_neg (fun z => by rw [hj, hfl] at z; exact absurd z.2.2.2 (by decide))]
    rw [key _ (by omega), key _ (by omega)]
    simp [rT, b2i]
  · simp only [if_true]
    by_cases h5 : f < 5
    · rw [if_pos (by omega), T1_k (by omega), cBec_k (by omega)]
      unfold rT
      rw [if_pos (by omega)]
    · by_cases h11 : 11 ≤ f
      · rw [if_neg (by omega), if_neg (by omega), T1_k (by omega), cBec_k (by omega)]
        unfold rT
        rw [if_neg (by omega), if_neg (by omega)]
      · have key : ∀ j, 30 ≤ j → j < 60 → j % 6 = n → T1m T 6 j = if j < 36 then 1 else 0 := fun j h1 h2 h3 => by
          unfold T1m
          rw [if_pos ⟨h1, h2, by omega, by rw [h3]; exact hfl⟩]
        rcases (show f = 5 ∨ f = 6 ∨ f = 7 ∨ f = 8 ∨ f = 9 ∨ f = 10 by omega) with rfl | rfl | rfl | rfl | rfl | rfl
        · rw [if_pos (by omega), key _ (by omega) (by omega) (by omega), if_pos (by omega)]; simp [cBec, upd]
        · simp [cBec, upd, b2i]
        · rw [if_neg (by omega), if_neg (by omega), key _ (by omega) (by omega) (by omega), if_neg (by omega)]; simp [cBec, upd]
        · rw [if_neg (by omega), if_neg (by omega), key _ (by omega) (by omega) (by omega), if_neg (by omega)]; simp [cBec, upd]
        · rw [if_neg (by omega), if_neg (by omega), key _ (by omega) (by omega) (by omega), if_neg (by omega)]; simp [cBec, upd]
        · rw [if_neg (by omega), if_neg (by omega), key _ (by omega) (by omega) (by omega), if_neg (by omega)]; simp [cBec, upd]
theorem stN_congr {p p' : Nat → Bool} {kd kd' : Nat → Int32} : ∀ m, (∀ o, o < m → p o = p' o ∧ kd o = kd' o) → stN p kd m = stN p' kd' m
  | 0, _ => rfl
  | m + 1, h => by
    have ih := stN_congr (p := p) (p' := p') (kd := kd) (kd' := kd') m (fun o ho => h o (by omega))
    simp only [stN, ih, (h m (by omega)).1, (h m (by omega)).2]
theorem gN_congr {p p' : Nat → Bool} {kd kd' sl sl' : Nat → Int32} : ∀ m, m ≤ 6 → (∀ o, o < 6 → p o = p' o ∧ kd o = kd' o ∧ sl o = sl' o) → gN p kd sl m = gN p' kd' sl' m
  | 0, _, _ => rfl
  | m + 1, hm, h => by
    have ih := gN_congr (p := p) (p' := p') (kd := kd) (kd' := kd') (sl := sl) (sl' := sl') m (by omega) h
    obtain ⟨h1, h2, h3⟩ := h m (by omega)
    simp only [gN, ih, h1, h2, h3]
    rcases gN_ex (p := p') (kd := kd') (sl := sl') m (by omega) with ⟨e, -⟩ | ⟨o, ho, e, -⟩
    · rw [e, (h ((-6 : Int32).toNatClampNeg) (by decide)).2.2]
    · rw [e, cl (by omega), (h o (by omega)).2.2]
/-- what the hearings of the reference hold behind the first m nodes -/
def C1 (T : Nat → Int32) (M0 : Mem) (m : Nat) (M : Mem) : Prop :=
  M 20 0 = upd (T1m T 6) 134 (bitsN (snT T) m) ∧ (∀ n, n < m → M 28 0 n = hdT T n ∧ M 29 0 n = stT T n ∧ M 30 0 n = gdT T n ∧ (∀ o, o < 6 → heT T n o = true → M 31 0 (6 * n + o) = svT T n o) ∧ M 32 0 n = T (66 + n)) ∧ ∀ k i, ¬ ((k = 20 ∨ k = 28 ∨ k = 29 ∨ k = 30 ∨ k = 31 ∨ k = 32) ∧ i = 0) → M k i = M0 k i
theorem w6_hears {T : Nat → Int32} {M0 : Mem} {q : Mem → Prop} (h20 : M0 20 0 = upd (T1m T 6) 134 0) (h24 : ∀ n, n < 6 → M0 24 0 n = b2i (snT T n)) (hq : ∀ M, C1 T M0 6 M → ∃ n : Nat, wp_X6_cycle_l76 q n 0 M) : ∃ n : Nat, wp_X6_cycle_l15 q n 0 M0 := by
  refine ⟨7, loop6 (fun f m M => wp_X6_cycle_l15 q f (nI m) M) (fun m M => C1 T M0 m M) ?_ ?_ _ ⟨by rw [h20]; rfl, fun n hn => absurd hn (Nat.not_lt_zero n), fun _ _ _ => rfl⟩⟩
  · intro M hI
    unfold wp_X6_cycle_l15
    exact ⟨fun _ => hq M hI, fun c => absurd le66 c⟩
  · intro k m M hm hI ih
    obtain ⟨i1, i2, i3⟩ := hI
    unfold wp_X6_cycle_l15
    refine ⟨fun c => absurd c (nI_ge hm (by omega)), fun _ => ?_⟩
    have lo : ∀ j, j < 30 ∨ (60 ≤ j ∧ j ≠ 134) → M 20 0 j = T j := fun j hj => by
      rw [i1, upd_n _ _ (by omega), T1_k (by omega)]
    have e24 : ∀ n, n < 6 → M 24 0 n = b2i (snT T n) := fun n hn => by rw [i3 24 0 (by omega)]; exact h24 n hn
    have e30 : M 20 0 (30 + m) = rA T m 5 := by
      rw [i1, upd_n _ _ (by omega), ← T1_rA hm (show 5 < 13 by omega)]
      simp [mw]
    have hpp : ∀ o, o < 6 → (awB (M 20 0 (30 + m)) && (decide (¬ o = m) && decide (¬ M 24 0 o = 0))) = heT T m o := fun o ho => by
      rw [e30, e24 o ho]
      simp only [b2i_0, heT]
      cases snT T o <;> simp
    refine w6_hear hm (fun M1 h1 => ?_)
    obtain ⟨s1, s2, s3, s4, s5, s6⟩ := h1
    have eh : bitsN (fun o => awB (M 20 0 (30 + m)) && (decide (¬ o = m) && decide (¬ M 24 0 o = 0))) 6 = hdT T m := bitsN_congr 6 hpp
    have est : stN (fun o => awB (M 20 0 (30 + m)) && (decide (¬ o = m) && decide (¬ M 24 0 o = 0))) (M 20 0) 6 = stT T m := stN_congr 6 (fun o ho => ⟨hpp o ho, lo o (by omega)⟩)
    have eg : gN (fun o => awB (M 20 0 (30 + m)) && (decide (¬ o = m) && decide (¬ M 24 0 o = 0))) (M 20 0) (fun o => M 20 0 (6 + o)) 6 = gdT T m := gN_congr 6 (Nat.le_refl 6) (fun o ho => ⟨hpp o ho, lo o (by omega), lo (6 + o) (by omega)⟩)
    rw [eh] at s1
    rw [est] at s2
    rw [eg] at s3
    have v1 : vp_in (nI (66 + m)) 256 := vi (by omega) (by omega)
    have v2 : vp_in (nI m) 6 := vi hm (by omega)
    have v3 : vp_in (nI 134) 256 := vi (by omega) (by omega)
    have f20 : M1 20 0 = M 20 0 := s6 20 0 (by omega)
    have f24 : M1 24 0 = M 24 0 := s6 24 0 (by omega)
    have f32 : M1 32 0 = M 32 0 := s6 32 0 (by omega)
    have f66 : M 20 0 (66 + m) = T (66 + m) := lo _ (by omega)
    have f134 : M 20 0 134 = bitsN (snT T) m := by rw [i1, upd_s]
    have k20 : ∀ r, mr M1 32 0 r 20 0 = M 20 0 := fun r => by rw [mr_k _ _ (by decide), f20]
    have k24 : ∀ r, mr M1 32 0 r 24 0 = M 24 0 := fun r => by rw [mr_k _ _ (by decide), f24]
    unfold wp_X6_cycle_b66
    simp only [forall_eq, nI_add, nI_1, v1, v2, v3, true_and, cl (show 66 + m < 100000 by omega), cl (show m < 100000 by omega), cl (show 134 < 100000 by omega), ms_mr, f20, f66, k20, k24, f134, e24 m hm, b2i_0]
    have fin : ∀ x, x = bitsN (snT T) (m + 1) → C1 T M0 (m + 1) (mr (mr M1 32 0 (upd (M1 32 0) m (T (66 + m)))) 20 0 (upd (M 20 0) 134 x)) := by
      intro x hx
      refine ⟨?_, fun n hn => ?_, fun k' i' hk => ?_⟩
      · rw [mr_s, i1, hx]
        funext j
        simp only [upd]
        split <;> rfl
      · rw [mr_k _ _ (show 28 ≠ 20 by decide), mr_k _ _ (show 28 ≠ 32 by decide), mr_k _ _ (show 29 ≠ 20 by decide), mr_k _ _ (show 29 ≠ 32 by decide), mr_k _ _ (show 30 ≠ 20 by decide), mr_k _ _ (show 30 ≠ 32 by decide), mr_k _ _ (show 31 ≠ 20 by decide), mr_k _ _ (show 31 ≠ 32 by decide), mr_k _ _ (show 32 ≠ 20 by decide), mr_s, s1, s2, s3]
        by_cases e : n = m
        · subst e
          rw [upd_s, upd_s, upd_s, upd_s]
          refine ⟨rfl, rfl, rfl, fun o ho hh => ?_, rfl⟩
          rw [s4 o ho ((hpp o ho).trans hh), lo _ (by omega), lo _ (by omega), lo _ (by omega)]
          rfl
        · obtain ⟨a1, a2, a3, a4, a5⟩ := i2 n (by omega)
          rw [upd_n _ _ e, upd_n _ _ e, upd_n _ _ e, upd_n _ _ e, f32]
          refine ⟨a1, a2, a3, fun o ho hh => ?_, a5⟩
          rw [s5 _ (by omega)]
          exact a4 o ho hh
      · rw [mr_n _ _ (fun z => hk ⟨by omega, z.2⟩), mr_n _ _ (fun z => hk ⟨by omega, z.2⟩), s6 k' i' (by omega)]
        exact i3 k' i' hk
    refine ⟨fun c => ih _ (fin _ ?_), fun c => ih _ (fin _ ?_)⟩
    · simp only [bitsN, c]
      simp
    · simp only [bitsN, eq_true_of_ne_false c]
      rfl
/-- keepCycle -/
theorem w6_keepCycle {n : Nat} {μ : Mem} {q : Mem → Prop} (hn : n < 6)
    (hq : ∀ M, M 20 0 (72 + n) = μ 20 0 (72 + n) + (if μ 24 0 n = 0 then 0 else 1) → M 20 0 (78 + n) = μ 30 0 n → M 20 0 (84 + n) = μ 28 0 n → M 20 0 (90 + n) = μ 29 0 n → (∀ o, o < 6 → M 20 0 (96 + 6 * n + o) = μ 31 0 (6 * n + o)) → M 20 0 (60 + n) = (if awB (μ 20 0 (30 + n)) then μ 20 0 (60 + n) + (μ 20 0 (18 + n) + μ 20 0 (66 + n)) else μ 20 0 (60 + n)) → M 20 0 (36 + n) = μ 20 0 (36 + n) + (if μ 27 0 n = 0 then 1 else 0) → (∀ j, j ≠ 72 + n → j ≠ 78 + n → j ≠ 84 + n → j ≠ 90 + n → j ≠ 60 + n → j ≠ 36 + n → ¬ (96 + 6 * n ≤ j ∧ j < 96 + 6 * n + 6) → M 20 0 j = μ 20 0 j) → (∀ k i, ¬ (k = 20 ∧ i = 0) → M k i = μ k i) → q M) : wp_X6_keepCycle (nI n) μ q := by
  have v0 : vp_in (nI n) 6 := vi hn (by omega)
  have v1 : vp_in (nI (72 + n)) 256 := vi (by omega) (by omega)
  have v2 : vp_in (nI (78 + n)) 256 := vi (by omega) (by omega)
  have v3 : vp_in (nI (84 + n)) 256 := vi (by omega) (by omega)
  have v4 : vp_in (nI (90 + n)) 256 := vi (by omega) (by omega)
  have v5 : vp_in (nI (60 + n)) 256 := vi (by omega) (by omega)
  have v6 : vp_in (nI (18 + n)) 256 := vi (by omega) (by omega)
  have v7 : vp_in (nI (66 + n)) 256 := vi (by omega) (by omega)
  have v8 : vp_in (nI (36 + n)) 256 := vi (by omega) (by omega)
  have tail : ∀ x, x = (if μ 24 0 n = 0 then (0 : Int32) else 1) → wp_X6_keepCycle_b24 (nI n) q 0 (nI 72 + nI n) (μ 20 0 (72 + n)) x μ := by
    intro x hx
    unfold wp_X6_keepCycle_b24
    simp only [forall_eq, nI_add, v0, v1, v2, v3, v4, true_and, cl (show n < 100000 by omega), cl (show 72 + n < 100000 by omega), cl (show 78 + n < 100000 by omega), cl (show 84 + n < 100000 by omega), cl (show 90 + n < 100000 by omega), ms_mr, mr_mr, mr_s, mr_k μ _ (show 30 ≠ 20 by decide), mr_k μ _ (show 28 ≠ 20 by decide), mr_k μ _ (show 29 ≠ 20 by decide)]
    generalize hR : upd (upd (upd (upd (μ 20 0) (72 + n) (μ 20 0 (72 + n) + x)) (78 + n) (μ 30 0 n)) (84 + n) (μ 28 0 n)) (90 + n) (μ 29 0 n) = R
    have R72 : R (72 + n) = μ 20 0 (72 + n) + x := by rw [← hR, upd_n _ _ (by omega), upd_n _ _ (by omega), upd_n _ _ (by omega), upd_s]
    have R78 : R (78 + n) = μ 30 0 n := by rw [← hR, upd_n _ _ (by omega), upd_n _ _ (by omega), upd_s]
    have R84 : R (84 + n) = μ 28 0 n := by rw [← hR, upd_n _ _ (by omega), upd_s]
    have R90 : R (90 + n) = μ 29 0 n := by rw [← hR, upd_s]
    have Ro : ∀ j, j ≠ 72 + n → j ≠ 78 + n → j ≠ 84 + n → j ≠ 90 + n → R j = μ 20 0 j := fun j h1 h2 h3 h4 => by rw [← hR, upd_n _ _ h4, upd_n _ _ h3, upd_n _ _ h2, upd_n _ _ h1]
    refine ⟨7, loop6 (fun f m M => wp_X6_keepCycle_l73 (nI n) q f (nI m) M) (fun m M => M = mr μ 20 0 (fun j => if 96 + 6 * n ≤ j ∧ j < 96 + 6 * n + m then μ 31 0 (j - 96) else R j)) ?_ ?_ _ ?_⟩
    · intro M hM
      unfold wp_X6_keepCycle_l73
      refine ⟨fun _ => ?_, fun c => absurd le66 c⟩
      have m20 : ∀ j, M 20 0 j = if 96 + 6 * n ≤ j ∧ j < 96 + 6 * n + 6 then μ 31 0 (j - 96) else R j := fun j => by rw [hM, mr_s]
      have mo : ∀ k i, ¬ (k = 20 ∧ i = 0) → M k i = μ k i := fun k i hk => by rw [hM, mr_n _ _ hk]
      have m30 : M 20 0 (30 + n) = μ 20 0 (30 + n) := by rw [m20, if_neg (by omega), Ro _ (by omega) (by omega) (by omega) (by omega)]
      have m60 : M 20 0 (60 + n) = μ 20 0 (60 + n) := by rw [m20, if_neg (by omega), Ro _ (by omega) (by omega) (by omega) (by omega)]
      have m18 : M 20 0 (18 + n) = μ 20 0 (18 + n) := by rw [m20, if_neg (by omega), Ro _ (by omega) (by omega) (by omega) (by omega)]
      have m66 : M 20 0 (66 + n) = μ 20 0 (66 + n) := by rw [m20, if_neg (by omega), Ro _ (by omega) (by omega) (by omega) (by omega)]
      have m36 : M 20 0 (36 + n) = μ 20 0 (36 + n) := by rw [m20, if_neg (by omega), Ro _ (by omega) (by omega) (by omega) (by omega)]
      have m27 : M 27 0 = μ 27 0 := mo 27 0 (by omega)
      have fin : ∀ (a b : Int32), a = (if awB (μ 20 0 (30 + n)) then μ 20 0 (60 + n) + (μ 20 0 (18 + n) + μ 20 0 (66 + n)) else μ 20 0 (60 + n)) → b = μ 20 0 (36 + n) + (if μ 27 0 n = 0 then 1 else 0) → q (mr M 20 0 (upd (upd (M 20 0) (60 + n) a) (36 + n) b)) := by
        intro a b ha hb
        refine hq _ ?_ ?_ ?_ ?_ (fun o ho => ?_) ?_ ?_ (fun j h1 h2 h3 h4 h5 h6 h7 => ?_) (fun k i hk => ?_)
        · rw [mr_s, upd_n _ _ (by omega), upd_n _ _ (by omega), m20, if_neg (by omega), R72, hx]
        · rw [mr_s, upd_n _ _ (by omega), upd_n _ _ (by omega), m20, if_neg (by omega), R78]
        · rw [mr_s, upd_n _ _ (by omega), upd_n _ _ (by omega), m20, if_neg (by omega), R84]
        · rw [mr_s, upd_n _ _ (by omega), upd_n _ _ (by omega), m20, if_neg (by omega), R90]
        · rw [mr_s, upd_n _ _ (by omega), upd_n _ _ (by omega), m20, if_pos (by omega), show 96 + 6 * n + o - 96 = 6 * n + o by omega]
        · rw [mr_s, upd_n _ _ (by omega), upd_s, ha]
        · rw [mr_s, upd_s, hb]
        · rw [mr_s, upd_n _ _ h6, upd_n _ _ h5, m20, if_neg h7, Ro _ h1 h2 h3 h4]
        · rw [mr_n _ _ hk, mo k i hk]
      unfold wp_X6_keepCycle_b149 wp_X6_keepCycle_b173
      simp only [w6_isOut hn, forall_eq, nI_add, v0, v5, v6, v7, v8, true_and, cl (show n < 100000 by omega), cl (show 60 + n < 100000 by omega), cl (show 18 + n < 100000 by omega), cl (show 66 + n < 100000 by omega), cl (show 36 + n < 100000 by omega), b2i_0, ms_mr, mr_mr, mr_s, m30, m60, m18, m66, m36, m27, mr_k M _ (show 27 ≠ 20 by decide)]
      rw [upd_n _ _ (show 36 + n ≠ 60 + n by omega), m36]
      have same : upd (M 20 0) (60 + n) (μ 20 0 (60 + n)) = M 20 0 := by rw [← m60, upd_same]
      refine ⟨fun c => ⟨fun c2 => ?_, fun c2 => ?_⟩, fun c => ⟨fun c2 => ?_, fun c2 => ?_⟩⟩
      · have ca : awB (μ 20 0 (30 + n)) = false := by simpa using c
        have := fin (μ 20 0 (60 + n)) (μ 20 0 (36 + n) + 1) (by rw [ca]; rfl) (by rw [if_pos c2])
        rw [same] at this
        exact this
      · have ca : awB (μ 20 0 (30 + n)) = false := by simpa using c
        have := fin (μ 20 0 (60 + n)) (μ 20 0 (36 + n) + 0) (by rw [ca]; rfl) (by rw [if_neg c2])
        rw [same] at this
        exact this
      · have ca : awB (μ 20 0 (30 + n)) = true := by simpa using c
        exact fin _ _ (by rw [ca]; rfl) (by rw [if_pos c2])
      · have ca : awB (μ 20 0 (30 + n)) = true := by simpa using c
        exact fin _ _ (by rw [ca]; rfl) (by rw [if_neg c2])
    · intro k m M hm hM ih
      unfold wp_X6_keepCycle_l73
      refine ⟨fun c => absurd c (nI_ge hm (by omega)), fun _ => ?_⟩
      have w1 : vp_in (nI (6 * n + m)) 36 := vi (by omega) (by omega)
      have w2 : vp_in (nI (96 + 6 * n + m)) 256 := vi (by omega) (by omega)
      have m31 : M 31 0 = μ 31 0 := by rw [hM, mr_k _ _ (by decide)]
      simp only [forall_eq, nI_add, nI_1, pk_mul, w1, w2, true_and, cl (show 6 * n + m < 100000 by omega), cl (show 96 + 6 * n + m < 100000 by omega), ms_mr, m31]
      refine ih _ ?_
      rw [hM, mr_mr, mr_s]
      congr 1
      funext j
      simp only [upd]
      by_cases a : j = 96 + 6 * n + m
      · subst a
        rw [if_pos rfl, if_pos (by omega), show 96 + 6 * n + m - 96 = 6 * n + m by omega]
      · rw [if_neg a]
        by_cases a2 : 96 + 6 * n ≤ j ∧ j < 96 + 6 * n + m
        · rw [if_pos a2, if_pos (by omega)]
        · rw [if_neg a2, if_neg (by omega)]
    · congr 1
      funext j
      rw [if_neg (by omega)]
  unfold wp_X6_keepCycle
  simp only [forall_eq, v0, true_and, cl (show n < 100000 by omega)]
  refine ⟨by rw [nI_add]; exact v1, ?_⟩
  rw [show μ 20 0 (nI 72 + nI n).toNatClampNeg = μ 20 0 (72 + n) by rw [nI_add, cl (by omega)]]
  exact ⟨fun c => tail 0 (by rw [if_pos c]), fun c => tail 1 (by rw [if_neg c])⟩
