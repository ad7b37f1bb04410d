def cN (k : Nat) (a b : Nat → Int32) : Nat → Int32 := fun f => if f < k then b f else a f
theorem cN_0 (a b : Nat → Int32) : cN 0 a b = a := by funext f; simp [cN]
theorem cN_s (k : Nat) (a b : Nat → Int32) : upd (cN k a b) k (b k) = cN (k + 1) a b := by
  funext f
  simp only [upd, cN]
  by_cases h : f = k
  · subst h; rw [if_pos rfl, if_pos (by omega)]
  · rw [if_neg h]
    by_cases h2 : f < k
    · rw [if_pos h2, if_pos (by omega)]
    · rw [if_neg h2, if_neg (by omega)]
theorem cN_1 (k : Nat) (a b : Nat → Int32) (h : 0 < k) : upd a 0 (b 0) = cN 1 a b := by rw [← cN_s, cN_0]
theorem w_copy1 {h h2 : Nat} (hne : h2 ≠ h) (μ : Mem) (q : Mem → Prop) (hq : q (mr (mr μ 1 h (cN 6 (μ 1 h) (μ 1 h2))) 7 h (cN 6 (μ 7 h) (μ 7 h2)))) : wp_X1_copy h h2 μ q := by
  unfold wp_X1_copy
  have k : ∀ (r : Nat → Int32), mr μ 1 h r 1 h2 = μ 1 h2 := fun r => mr_i _ _ hne
  simp only [forall_eq, ms_mr, mr_s, mr_mr, k]
  rw [cN_1 6 _ _ (by omega), cN_s, cN_s, cN_s, cN_s, cN_s]
  generalize hM : mr μ 1 h (cN 6 (μ 1 h) (μ 1 h2)) = M at hq ⊢
  have e7 : M 7 h = μ 7 h := by rw [← hM, mr_k _ _ (by decide)]
  have e72 : M 7 h2 = μ 7 h2 := by rw [← hM, mr_k _ _ (by decide)]
  rw [← e7, ← e72] at hq
  refine ⟨7, loop6 (fun f m M' => wp_X1_copy_l50 h h2 q f (nI m) M') (fun m M' => M' = mr M 7 h (cN m (M 7 h) (M 7 h2))) ?_ ?_ _ ?_⟩
  · intro M' hI
    unfold wp_X1_copy_l50
    refine ⟨fun _ => ?_, fun c => absurd le66 c⟩
    rw [hI]; exact hq
  · intro k m M' hm hI ih
    unfold wp_X1_copy_l50
    refine ⟨fun c => absurd c (nI_ge hm (by omega)), fun _ => ⟨fun c => absurd c (nI_ge hm (by omega)), fun _ => ?_⟩⟩
    have v : vp_in (nI m) 6 := vi hm (by omega)
    have f2 : M' 7 h2 = M 7 h2 := by rw [hI, mr_i _ _ hne]
    have f1 : M' 7 h = cN m (M 7 h) (M 7 h2) := by rw [hI, mr_s]
    simp only [forall_eq, v, true_and, cl (show m < 100000 by omega), nI_1, ms_mr, f2, f1, cN_s]
    refine ih _ ?_
    rw [hI, mr_mr]
  · rw [cN_0, mr_same]
theorem w_copy3 {i j : Nat} (hij : i ≠ j) (μ : Mem) (q : Mem → Prop) (hz : nz (μ 3 j 6)) (hS : hx i (μ 3 i 15) ≠ hx i (μ 3 i 14))
    (hq : ∀ M, M 3 i = cN 14 (μ 3 i) (μ 3 j) → M 1 (hx i (μ 3 i 14)) = cN 6 (μ 1 (hx i (μ 3 i 14))) (μ 1 (hx j (μ 3 j 14))) → M 7 (hx i (μ 3 i 14)) = cN 6 (μ 7 (hx i (μ 3 i 14))) (μ 7 (hx j (μ 3 j 14))) → (∀ k a, ¬ (k = 3 ∧ a = i) → ¬ ((k = 1 ∨ k = 7) ∧ 2 * i ≤ a ∧ a ≤ 2 * i + 1) → M k a = μ k a) → q M) : wp_X3_copy i j μ q := by
  unfold wp_X3_copy
  have k : ∀ (r : Nat → Int32), mr μ 3 i r 3 j = μ 3 j := fun r => mr_i _ _ (Ne.symm hij)
  simp only [forall_eq, ms_mr, mr_s, mr_mr, k, hz, true_and]
  rw [cN_1 14 _ _ (by omega), cN_s, cN_s, cN_s, cN_s, cN_s, cN_s, cN_s, cN_s, cN_s, cN_s, cN_s, cN_s, cN_s]
  have c14 : cN 14 (μ 3 i) (μ 3 j) 14 = μ 3 i 14 := by simp [cN]
  have c15 : cN 14 (μ 3 i) (μ 3 j) 15 = μ 3 i 15 := by simp [cN]
  have g1 := hx_ge i (μ 3 i 14)
  have g2 := hx_le i (μ 3 i 14)
  have g3 := hx_ge i (μ 3 i 15)
  have g4 := hx_le i (μ 3 i 15)
  have g5 := hx_ge j (μ 3 j 14)
  have g6 := hx_le j (μ 3 j 14)
  have g7 := hx_ge j (μ 3 j 15)
  have g8 := hx_le j (μ 3 j 15)
  rw [c14]
  refine w_copy1 (by omega) _ _ ?_
  have r3 : ∀ (x y : Nat → Int32) a, mr (mr (mr μ 3 i (cN 14 (μ 3 i) (μ 3 j))) 1 (hx i (μ 3 i 14)) x) 7 (hx i (μ 3 i 14)) y 3 a = mr μ 3 i (cN 14 (μ 3 i) (μ 3 j)) 3 a := fun x y a => by
    rw [mr_k _ _ (by decide), mr_k _ _ (by decide)]
  rw [r3, r3, mr_s, k, c15]
  refine w_copy1 (by omega) _ _ ?_
  refine hq _ ?_ ?_ ?_ (fun k' a h1 h2 => ?_)
  · rw [mr_k _ _ (by decide), mr_k _ _ (by decide), r3, mr_s]
  · rw [mr_k _ _ (show 1 ≠ 7 by decide), mr_i _ _ (Ne.symm hS), mr_k _ _ (show 1 ≠ 7 by decide), mr_s, mr_k _ _ (show 1 ≠ 3 by decide), mr_k _ _ (show 1 ≠ 3 by decide)]
  · rw [mr_i _ _ (Ne.symm hS), mr_k _ _ (show 7 ≠ 1 by decide), mr_s, mr_k _ _ (show 7 ≠ 3 by decide), mr_k _ _ (show 7 ≠ 3 by decide)]
  · rw [mr_n _ _ (by omega), mr_n _ _ (by omega), mr_n _ _ (by omega), mr_n _ _ (by omega), mr_n _ _ h1]
theorem w_copy2 {b b2 : Nat} (hne : b ≠ b2) (μ : Mem) (q : Mem → Prop)
    (hq : q (mr (mr (mr (mr μ 8 b (cN 40 (μ 8 b) (μ 8 b2))) 9 b (cN 40 (μ 9 b) (μ 9 b2))) 10 b (cN 40 (μ 10 b) (μ 10 b2))) 2 b (upd (upd (μ 2 b) 3 (μ 2 b2 3)) 4 (μ 2 b2 4)))) : wp_X2_copy b b2 μ q := by
  refine ⟨41, loopN 40 (fun f m M => wp_X2_copy_l2 b b2 q f (nI m) M) (fun m M => M = mr (mr (mr μ 8 b (cN m (μ 8 b) (μ 8 b2))) 9 b (cN m (μ 9 b) (μ 9 b2))) 10 b (cN m (μ 10 b) (μ 10 b2))) ?_ ?_ 40 0 μ (by omega) ?_⟩
  · intro M hM
    unfold wp_X2_copy_l2
    refine ⟨fun _ => ?_, fun c => absurd (nI_le (Nat.le_refl 40) (by omega)) c⟩
    have e2 : ∀ a, M 2 a = μ 2 a := fun a => by rw [hM, mr_k _ _ (by decide), mr_k _ _ (by decide), mr_k _ _ (by decide)]
    have k : ∀ (r : Nat → Int32), mr M 2 b r 2 b2 = μ 2 b2 := fun r => by rw [mr_i _ _ (Ne.symm hne), e2]
    simp only [forall_eq, ms_mr, mr_s, mr_mr, k, e2]
    rw [hM]; exact hq
  · intro k m M hm hM ih
    unfold wp_X2_copy_l2
    refine ⟨fun c => absurd c (nI_ge hm (by omega)), fun _ => ?_⟩
    have v : vp_in (nI m) 40 := vi hm (by omega)
    have a8 : M 8 b = cN m (μ 8 b) (μ 8 b2) := by rw [hM, mr_k _ _ (by decide), mr_k _ _ (by decide), mr_s]
    have a82 : M 8 b2 = μ 8 b2 := by rw [hM, mr_k _ _ (by decide), mr_k _ _ (by decide), mr_i _ _ (Ne.symm hne)]
    have a9 : M 9 b = cN m (μ 9 b) (μ 9 b2) := by rw [hM, mr_k _ _ (by decide), mr_s]
    have a92 : M 9 b2 = μ 9 b2 := by rw [hM, mr_k _ _ (by decide), mr_i _ _ (Ne.symm hne), mr_k _ _ (by decide)]
    have a10 : M 10 b = cN m (μ 10 b) (μ 10 b2) := by rw [hM, mr_s]
    have a102 : M 10 b2 = μ 10 b2 := by rw [hM, mr_i _ _ (Ne.symm hne), mr_k _ _ (by decide), mr_k _ _ (by decide)]
    have k1 : ∀ (M : Mem) (r : Nat → Int32) a, mr M 8 b r 9 a = M 9 a := fun M r a => mr_k _ _ (by decide)
    have k2 : ∀ (M : Mem) (r : Nat → Int32) a, mr M 9 b r 10 a = M 10 a := fun M r a => mr_k _ _ (by decide)
    have k3 : ∀ (M : Mem) (r : Nat → Int32) a, mr M 8 b r 10 a = M 10 a := fun M r a => mr_k _ _ (by decide)
    simp only [forall_eq, v, true_and, cl (show m < 100000 by omega), nI_1, ms_mr, k1, k2, k3, a8, a82, a9, a92, a10, a102, cN_s]
    refine ih _ ?_
    funext k' a
    by_cases h1 : k' = 10 ∧ a = b
    · obtain ⟨rfl, rfl⟩ := h1
      rw [mr_s, mr_s]
    · rw [mr_n _ _ h1, mr_n _ _ h1]
      by_cases h2 : k' = 9 ∧ a = b
      · obtain ⟨rfl, rfl⟩ := h2
        rw [mr_s, mr_s]
      · rw [mr_n _ _ h2, mr_n _ _ h2]
        by_cases h3 : k' = 8 ∧ a = b
        · obtain ⟨rfl, rfl⟩ := h3
          rw [mr_s, mr_s]
        · rw [mr_n _ _ h3, mr_n _ _ h3, hM, mr_n _ _ h1, mr_n _ _ h2, mr_n _ _ h3]
  · rw [cN_0, cN_0, cN_0, mr_same, mr_same, mr_same]
theorem w_copyB {b b2 : Nat} (hne : b ≠ b2) (μ : Mem) (q : Mem → Prop) (hz : ∀ n, n < 6 → nz (μ 3 (6 * b2 + n) 6)) (hS : ∀ n, n < 6 → hx (6 * b + n) (μ 3 (6 * b + n) 15) ≠ hx (6 * b + n) (μ 3 (6 * b + n) 14))
    (hq : ∀ M, (∀ k i, ¬ own b k i → M k i = μ k i) → (∀ n, n < 6 → nz (M 3 (6 * b + n) 6) ∧ hx (6 * b + n) (M 3 (6 * b + n) 15) ≠ hx (6 * b + n) (M 3 (6 * b + n) 14)) → (∀ T, RB b2 μ T → RB b M T) → q M) : wp_X0_copy b b2 μ q := by
  refine ⟨7, loop6 (fun f m M => wp_X0_copy_l2 b b2 q f (nI m) M) (fun m M => (∀ n, n < m → M 3 (6 * b + n) = cN 14 (μ 3 (6 * b + n)) (μ 3 (6 * b2 + n)) ∧ M 1 (hx (6 * b + n) (μ 3 (6 * b + n) 14)) = cN 6 (μ 1 (hx (6 * b + n) (μ 3 (6 * b + n) 14))) (μ 1 (hx (6 * b2 + n) (μ 3 (6 * b2 + n) 14))) ∧ M 7 (hx (6 * b + n) (μ 3 (6 * b + n) 14)) = cN 6 (μ 7 (hx (6 * b + n) (μ 3 (6 * b + n) 14))) (μ 7 (hx (6 * b2 + n) (μ 3 (6 * b2 + n) 14)))) ∧ ∀ k i, ¬ tch b m k i → M k i = μ k i) ?_ ?_ _ ⟨fun n hn => absurd hn (Nat.not_lt_zero n), fun _ _ _ => rfl⟩⟩
  · intro M hI
    obtain ⟨i1, i2⟩ := hI
    unfold wp_X0_copy_l2 wp_X0_copy_b41
    refine ⟨fun _ => ?_, fun c => absurd le66 c⟩
    refine w_copy2 hne _ _ ?_
    have o : ∀ k a, k ≠ 3 → k ≠ 1 → k ≠ 7 → M k a = μ k a := fun k a h1 h2 h3 => i2 k a (by unfold tch; omega)
    generalize hM2 : mr (mr (mr (mr M 8 b (cN 40 (M 8 b) (M 8 b2))) 9 b (cN 40 (M 9 b) (M 9 b2))) 10 b (cN 40 (M 10 b) (M 10 b2))) 2 b (upd (upd (M 2 b) 3 (M 2 b2 3)) 4 (M 2 b2 4)) = M2
    have z0 : ∀ a, M2 0 a = μ 0 a := fun a => by rw [← hM2, mr_k _ _ (by decide), mr_k _ _ (by decide), mr_k _ _ (by decide), mr_k _ _ (by decide), o _ _ (by decide) (by decide) (by decide)]
    have k0 : ∀ (r : Nat → Int32), mr M2 0 b r 0 b2 = μ 0 b2 := fun r => by rw [mr_i _ _ (Ne.symm hne), z0]
    simp only [forall_eq, ms_mr, mr_s, mr_mr, k0, z0]
    have f2 : ∀ k a r, ¬ ((k = 0 ∨ k = 2 ∨ k = 8 ∨ k = 9 ∨ k = 10) ∧ a = b) → mr M2 0 b r k a = M k a := fun k a r hk => by
      rw [mr_n _ _ (fun z => hk ⟨by omega, z.2⟩), ← hM2, mr_n _ _ (fun z => hk ⟨by omega, z.2⟩), mr_n _ _ (fun z => hk ⟨by omega, z.2⟩), mr_n _ _ (fun z => hk ⟨by omega, z.2⟩), mr_n _ _ (fun z => hk ⟨by omega, z.2⟩)]
    have e3 : ∀ n r, n < 6 → mr M2 0 b r 3 (6 * b + n) = cN 14 (μ 3 (6 * b + n)) (μ 3 (6 * b2 + n)) := fun n r hn => by rw [f2 _ _ _ (by omega)]; exact (i1 n hn).1
    have c14 : ∀ n, cN 14 (μ 3 (6 * b + n)) (μ 3 (6 * b2 + n)) 14 = μ 3 (6 * b + n) 14 := fun n => by simp [cN]
    have c15 : ∀ n, cN 14 (μ 3 (6 * b + n)) (μ 3 (6 * b2 + n)) 15 = μ 3 (6 * b + n) 15 := fun n => by simp [cN]
    refine hq _ (fun k i hk => ?_) (fun n hn => ⟨?_, ?_⟩) (fun T hR => ?_)
    · unfold own at hk
      rw [f2 _ _ _ (by omega), i2 _ _ (by unfold tch; omega)]
    · rw [e3 n _ hn]
      have : cN 14 (μ 3 (6 * b + n)) (μ 3 (6 * b2 + n)) 6 = μ 3 (6 * b2 + n) 6 := by simp [cN]
      rw [this]
      exact hz n hn
    · rw [e3 n _ hn, c14, c15]
      exact hS n hn
    · obtain ⟨r1, r2, r3, r4, r5, r6, r7⟩ := hR
      refine ⟨fun n hn f hf hf6 => ?_, fun n hn => ?_, fun n hn => ?_, ?_, ?_, ?_, ?_⟩
      · rw [e3 n _ hn]
        unfold cN
        rw [if_pos hf]
        exact r1 n hn f hf hf6
      · rw [e3 n _ hn, c14, c15]
        exact hS n hn
      · obtain ⟨s1, s2, s3, s4⟩ := r3 n hn
        rw [e3 n _ hn, c14, f2 1 _ _ (by omega), f2 7 _ _ (by omega), (i1 n hn).2.1, (i1 n hn).2.2]
        unfold cN
        refine ⟨?_, ?_, ?_, fun o ho hb => ?_⟩
        · rw [if_pos (by omega)]; exact s1
        · rw [if_pos (by omega)]; exact s2
        · rw [if_pos (by omega)]; exact s3
        · rw [if_pos ho]; exact s4 o ho hb
      · rw [mr_s, upd_n _ _ (by decide), upd_n _ _ (by decide), upd_s]; exact r4
      · rw [mr_s, upd_n _ _ (by decide), upd_s]; exact r5
      · rw [mr_s, upd_s]; exact r6
      · obtain ⟨f, sz, l1, l2, l3, l4, l5, l6⟩ := r7
        have x2 : ∀ r, mr M2 0 b r 2 b = upd (upd (M 2 b) 3 (M 2 b2 3)) 4 (M 2 b2 4) := fun r => by rw [mr_k _ _ (by decide), ← hM2, mr_s]
        have x8 : ∀ r, mr M2 0 b r 8 b = cN 40 (M 8 b) (M 8 b2) := fun r => by rw [mr_k _ _ (by decide), ← hM2, mr_k _ _ (by decide), mr_k _ _ (by decide), mr_k _ _ (by decide), mr_s]
        have x9 : ∀ r, mr M2 0 b r 9 b = cN 40 (M 9 b) (M 9 b2) := fun r => by rw [mr_k _ _ (by decide), ← hM2, mr_k _ _ (by decide), mr_k _ _ (by decide), mr_s]
        have x10 : ∀ r, mr M2 0 b r 10 b = cN 40 (M 10 b) (M 10 b2) := fun r => by rw [mr_k _ _ (by decide), ← hM2, mr_k _ _ (by decide), mr_s]
        refine ⟨f, sz, l1, l2, ?_, ?_, l5, fun e he => ?_⟩
        · rw [x2, upd_n _ _ (by decide), upd_s, o _ _ (by decide) (by decide) (by decide)]; exact l3
        · rw [x2, upd_s, o _ _ (by decide) (by decide) (by decide)]; exact l4
        · rw [x8, x9, x10, o 8 b2 (by decide) (by decide) (by decide), o 9 b2 (by decide) (by decide) (by decide), o 10 b2 (by decide) (by decide) (by decide)]
          unfold cN
          rw [if_pos (by omega), if_pos (by omega), if_pos (by omega)]
          exact l6 e he
  · intro k m M hm hI ih
    obtain ⟨i1, i2⟩ := hI
    unfold wp_X0_copy_l2
    refine ⟨fun c => absurd c (nI_ge hm (by omega)), fun _ => ⟨fun c => absurd c (nI_ge hm (by omega)), fun _ => ?_⟩⟩
    have v : vp_in (nI m) 6 := vi hm (by omega)
    simp only [forall_eq, v, true_and, cl (show m < 100000 by omega), nI_1]
    have a1 : M 3 (6 * b + m) = μ 3 (6 * b + m) := i2 _ _ (by unfold tch; omega)
    have a2 : M 3 (6 * b2 + m) = μ 3 (6 * b2 + m) := i2 _ _ (by unfold tch; omega)
    have a3 : ∀ k' x, k' = 1 ∨ k' = 7 → M k' (hx (6 * b + m) x) = μ k' (hx (6 * b + m) x) := fun k' x hk => i2 _ _ (by have := hx_ge (6 * b + m) x; unfold tch; omega)
    have a4 : ∀ k' x, k' = 1 ∨ k' = 7 → M k' (hx (6 * b2 + m) x) = μ k' (hx (6 * b2 + m) x) := fun k' x hk => i2 _ _ (by have := hx_ge (6 * b2 + m) x; have := hx_le (6 * b2 + m) x; unfold tch; omega)
    refine w_copy3 (by omega) M _ (by rw [a2]; exact hz m hm) (by rw [a1]; exact hS m hm) (fun M' h1 h2 h3 h4 => ih _ ⟨fun n hn => ?_, fun k' i' hk => ?_⟩)
    · by_cases hnm : n = m
      · subst hnm
        rw [a1] at h1 h2 h3
        rw [a2] at h1 h2 h3
        rw [a3 1 _ (Or.inl rfl), a4 1 _ (Or.inl rfl)] at h2
        rw [a3 7 _ (Or.inr rfl), a4 7 _ (Or.inr rfl)] at h3
        exact ⟨h1, h2, h3⟩
      · have g := hx_le (6 * b + n) (μ 3 (6 * b + n) 14)
        have g2 := hx_ge (6 * b + n) (μ 3 (6 * b + n) 14)
        rw [h4 3 (6 * b + n) (by omega) (by omega), h4 1 _ (by omega) (by omega), h4 7 _ (by omega) (by omega)]
        exact i1 n (by omega)
    · unfold tch at hk
      rw [h4 k' i' (by omega) (by omega)]
      exact i2 k' i' (by unfold tch; omega)
