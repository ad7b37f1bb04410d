theorem bitsN_f : ∀ m, bitsN (fun _ => false) m = 0
  | 0 => rfl
  | m + 1 => by simp [bitsN, bitsN_f m]
theorem stN_f (kd : Nat → Int32) : ∀ m, stN (fun _ => false) kd m = 0
  | 0 => rfl
  | m + 1 => by simp [stN, stN_f kd m]
theorem gN_f (kd sl : Nat → Int32) : ∀ m, gN (fun _ => false) kd sl m = -6
  | 0 => rfl
  | m + 1 => by simp [gN, gN_f kd sl m]
def HP (p : Nat → Bool) (μ : Mem) (n : Nat) (m : Nat) (M : Mem) : Prop :=
  M 28 0 = upd (μ 28 0) n (bitsN p m) ∧ M 29 0 = upd (μ 29 0) n (stN p (μ 20 0) m) ∧ M 30 0 = upd (μ 30 0) n (gN p (μ 20 0) (fun o => μ 20 0 (6 + o)) m) ∧ (∀ o, o < m → p o = true → M 31 0 (6 * n + o) = μ 20 0 (60 + o) + μ 20 0 (24 + o) - μ 20 0 (60 + n)) ∧ (∀ j, ¬ (6 * n ≤ j ∧ j < 6 * n + 6) → M 31 0 j = μ 31 0 j) ∧ ∀ k i, ¬ ((k = 28 ∨ k = 29 ∨ k = 30 ∨ k = 31) ∧ i = 0) → M k i = μ k i
theorem w6_hear {n : Nat} {μ : Mem} {q : Mem → Prop} (hn : n < 6) (hq : ∀ M, HP (fun o => awB (μ 20 0 (30 + n)) && (decide (¬ o = n) && decide (¬ μ 24 0 o = 0))) μ n 6 M → q M) : wp_X6_hear (nI n) μ q := by
  unfold wp_X6_hear
  have v0 : vp_in (nI n) 6 := vi hn (by omega)
  simp only [forall_eq, v0, true_and, cl (show n < 100000 by omega), ms_mr]
  rw [mr_k μ _ (show 29 ≠ 28 by decide), mr_k _ _ (show 30 ≠ 29 by decide), mr_k _ _ (show 30 ≠ 28 by decide)]
  have hM0 : ∃ M0 : Mem, M0 = mr (mr (mr μ 28 0 (upd (μ 28 0) n 0)) 29 0 (upd (μ 29 0) n 0)) 30 0 (upd (μ 30 0) n (-6)) := ⟨_, rfl⟩
  obtain ⟨M0, hM0⟩ := hM0
  rw [← hM0]
  have start : ∀ p : Nat → Bool, HP p μ n 0 M0 := fun p => by
    refine ⟨?_, ?_, ?_, fun o ho => absurd ho (Nat.not_lt_zero o), fun j _ => ?_, fun k i hk => ?_⟩
    · rw [hM0, mr_k _ _ (by decide), mr_k _ _ (by decide), mr_s]; rfl
    · rw [hM0, mr_k _ _ (by decide), mr_s]; rfl
    · rw [hM0, mr_s]; rfl
    · rw [hM0, mr_k _ _ (by decide), mr_k _ _ (by decide), mr_k _ _ (by decide)]
    · rw [hM0, mr_n _ _ (fun z => hk ⟨by omega, z.2⟩), mr_n _ _ (fun z => hk ⟨by omega, z.2⟩), mr_n _ _ (fun z => hk ⟨by omega, z.2⟩)]
  cases ha : awB (μ 20 0 (30 + n))
  · refine ⟨1, ?_⟩
    unfold wp_X6_hear_l24
    refine ⟨fun c => absurd c (by decide), fun _ => ?_⟩
    rw [w6_isOut hn]
    have e20 : M0 20 0 = μ 20 0 := (start (fun _ => false)).2.2.2.2.2 20 0 (by omega)
    rw [e20, ha]
    refine ⟨fun _ => hq M0 ?_, fun c => absurd c (by decide)⟩
    rw [ha]
    simp only [Bool.false_and]
    obtain ⟨s1, s2, s3, s4, s5, s6⟩ := start (fun _ => false)
    exact ⟨by rw [s1, bitsN_f, bitsN_f], by rw [s2, stN_f, stN_f], by rw [s3, gN_f, gN_f], fun o _ ho => absurd (show false = true from ho) (by decide), s5, s6⟩
  · rw [ha] at hq
    simp only [Bool.true_and] at hq
    generalize hp : (fun o => decide (¬ o = n) && decide (¬ μ 24 0 o = 0)) = p at hq
    have hp' : ∀ o, p o = (decide (¬ o = n) && decide (¬ μ 24 0 o = 0)) := fun o => (congrFun hp o).symm
    refine ⟨7, loop6 (fun f m M => wp_X6_hear_l24 (nI n) q f (nI m) M) (fun m M => HP p μ n m M) ?_ ?_ _ (start p)⟩
    · intro M hI
      unfold wp_X6_hear_l24
      exact ⟨fun _ => hq M hI, fun c => absurd le66 c⟩
    · intro k m M hm hI ih
      obtain ⟨s1, s2, s3, s4, s5, s6⟩ := hI
      unfold wp_X6_hear_l24 wp_X6_hear_b166 wp_X6_hear_b176 wp_X6_hear_b177
      refine ⟨fun c => absurd c (nI_ge hm (by omega)), fun _ => ?_⟩
      have e20 : M 20 0 = μ 20 0 := s6 20 0 (by omega)
      have e24 : M 24 0 = μ 24 0 := s6 24 0 (by omega)
      have v1 : vp_in (nI m) 6 := vi hm (by omega)
      have v2 : vp_in (nI (60 + m)) 256 := vi (by omega) (by omega)
      have v3 : vp_in (nI (24 + m)) 256 := vi (by omega) (by omega)
      have v4 : vp_in (nI (60 + n)) 256 := vi (by omega) (by omega)
      have v5 : vp_in (nI (6 * n + m)) 36 := vi (by omega) (by omega)
      have v6 : vp_in (nI m) 256 := vi (by omega) (by omega)
      have v7 : vp_in (nI (6 + m)) 256 := vi (by omega) (by omega)
      have z0 : (0 : Int32) + nI m = nI m := by simp
      have k1 : ∀ (M : Mem) (r : Nat → Int32), mr M 28 0 r 20 0 = M 20 0 := fun M r => mr_k _ _ (by decide)
      have k2 : ∀ (M : Mem) (r : Nat → Int32), mr M 31 0 r 20 0 = M 20 0 := fun M r => mr_k _ _ (by decide)
      have k3 : ∀ (M : Mem) (r : Nat → Int32), mr M 29 0 r 20 0 = M 20 0 := fun M r => mr_k _ _ (by decide)
      have k4 : ∀ (M : Mem) (r : Nat → Int32), mr M 28 0 r 31 0 = M 31 0 := fun M r => mr_k _ _ (by decide)
      have k5 : ∀ (M : Mem) (r : Nat → Int32), mr M 31 0 r 29 0 = M 29 0 := fun M r => mr_k _ _ (by decide)
      have k6 : ∀ (M : Mem) (r : Nat → Int32), mr M 28 0 r 29 0 = M 29 0 := fun M r => mr_k _ _ (by decide)
      have k7 : ∀ (M : Mem) (r : Nat → Int32), mr M 29 0 r 30 0 = M 30 0 := fun M r => mr_k _ _ (by decide)
      have k8 : ∀ (M : Mem) (r : Nat → Int32), mr M 31 0 r 30 0 = M 30 0 := fun M r => mr_k _ _ (by decide)
      have k9 : ∀ (M : Mem) (r : Nat → Int32), mr M 28 0 r 30 0 = M 30 0 := fun M r => mr_k _ _ (by decide)
      have e28n : M 28 0 n = bitsN p m := by rw [s1, upd_s]
      have e29n : M 29 0 n = stN p (μ 20 0) m := by rw [s2, upd_s]
      have e30n : M 30 0 n = gN p (μ 20 0) (fun o => μ 20 0 (6 + o)) m := by rw [s3, upd_s]
      simp only [w6_isOut hn, forall_eq, nI_add, nI_1, pk_mul, z0, v0, v1, v2, v3, v4, v5, v6, v7, true_and, cl (show n < 100000 by omega), cl (show m < 100000 by omega), cl (show 60 + m < 100000 by omega), cl (show 24 + m < 100000 by omega), cl (show 60 + n < 100000 by omega), cl (show 6 * n + m < 100000 by omega), cl (show 6 + m < 100000 by omega), nI_ne (show m < 100000 by omega) (show n < 100000 by omega), b2i_0, ms_mr, k1, k2, k3, k4, k5, k6, k7, k8, k9, e20, e24, ha, e28n, e29n, e30n]
      simp only [Bool.not_true, not_true_eq_false, false_implies, true_implies, true_and]
      have bm : ((1 : Int32) <<< (nI m &&& 31)) = bit m := rfl
      rw [bm]
      have skip : p m = false → HP p μ n (m + 1) M := fun hpm => by
        refine ⟨?_, ?_, ?_, fun o ho hpo => ?_, s5, s6⟩
        · rw [s1]; simp only [bitsN, hpm]; rfl
        · rw [s2]; simp only [stN, hpm]; rfl
        · rw [s3]; simp only [gN, hpm]; rfl
        · by_cases e : o = m
          · subst e; rw [hpm] at hpo; exact absurd hpo (by decide)
          · exact s4 o (by omega) hpo
      have take : ∀ (M' : Mem), p m = true → M' 28 0 = upd (M 28 0) n (bitsN p m ||| bit m) → M' 31 0 = upd (M 31 0) (6 * n + m) (μ 20 0 (60 + m) + μ 20 0 (24 + m) - μ 20 0 (60 + n)) → M' 29 0 = upd (M 29 0) n (stN p (μ 20 0) (m + 1)) → M' 30 0 = upd (M 30 0) n (gN p (μ 20 0) (fun o => μ 20 0 (6 + o)) (m + 1)) → (∀ k i, ¬ ((k = 28 ∨ k = 29 ∨ k = 30 ∨ k = 31) ∧ i = 0) → M' k i = M k i) → HP p μ n (m + 1) M' := by
        intro M' hpm t1 t2 t3 t4 t5
        refine ⟨?_, ?_, ?_, fun o ho hpo => ?_, fun j hj => ?_, fun k i hk => ?_⟩
        · rw [t1, s1]
          funext j
          simp only [upd, bitsN, hpm, if_true]
          split <;> rfl
        · rw [t3, s2]
          funext j
          simp only [upd]
          split <;> rfl
        · rw [t4, s3]
          funext j
          simp only [upd]
          split <;> rfl
        · rw [t2]
          by_cases e : o = m
          · subst e; rw [upd_s]
          · rw [upd_n _ _ (by omega)]; exact s4 o (by omega) hpo
        · rw [t2, upd_n _ _ (by omega)]; exact s5 j hj
        · rw [t5 k i hk]; exact s6 k i hk
      refine ⟨fun c => ih _ (skip (by rw [hp' m]; simp [c])), fun c => ⟨fun c2 => ih _ (skip (by rw [hp' m]; simp [c2])), fun c2 => ?_⟩⟩
      have hpm : p m = true := by rw [hp' m]; simp [c, c2]
      refine ⟨fun c3 => ih _ (take _ hpm ?_ ?_ ?_ ?_ ?_), fun c3 => ?_⟩
      · rw [mr_k _ _ (by decide), mr_s]
      · rw [mr_s]
      · rw [k5, k6]
        have : stN p (μ 20 0) (m + 1) = M 29 0 n := by rw [e29n]; simp [stN, c3]
        rw [this, upd_same]
      · rw [k8, k9]
        have : gN p (μ 20 0) (fun o => μ 20 0 (6 + o)) (m + 1) = M 30 0 n := by rw [e30n]; simp [gN, c3]
        rw [this, upd_same]
      · intro k' i' hk
        rw [mr_n _ _ (fun z => hk ⟨by omega, z.2⟩), mr_n _ _ (fun z => hk ⟨by omega, z.2⟩)]
      have st1 : stN p (μ 20 0) (m + 1) = stN p (μ 20 0) m + 1 := by simp [stN, c3, hpm]
      have putG : ∀ x, x = gN p (μ 20 0) (fun o => μ 20 0 (6 + o)) (m + 1) → wp_X6_hear_l24 (nI n) q k (nI (m + 1)) (mr (mr (mr (mr M 28 0 (upd (M 28 0) n (bitsN p m ||| bit m))) 31 0 (upd (M 31 0) (6 * n + m) (μ 20 0 (60 + m) + μ 20 0 (24 + m) - μ 20 0 (60 + n)))) 29 0 (upd (M 29 0) n (stN p (μ 20 0) m + 1))) 30 0 (upd (M 30 0) n x)) := by
        intro x hx
        refine ih _ (take _ hpm ?_ ?_ ?_ ?_ ?_)
        · rw [mr_k _ _ (by decide), mr_k _ _ (by decide), mr_k _ _ (by decide), mr_s]
        · rw [mr_k _ _ (by decide), mr_k _ _ (by decide), mr_s]
        · rw [mr_k _ _ (by decide), mr_s, st1]
        · rw [mr_s, hx]
        · intro k' i' hk
          rw [mr_n _ _ (fun z => hk ⟨by omega, z.2⟩), mr_n _ _ (fun z => hk ⟨by omega, z.2⟩), mr_n _ _ (fun z => hk ⟨by omega, z.2⟩), mr_n _ _ (fun z => hk ⟨by omega, z.2⟩)]
      refine ⟨fun c4 => putG _ ?_, fun c4 => ?_⟩
      · simp only [gN]
        rw [if_pos]
        rw [hpm]; simp [c3, c4]
      · rcases gN_ex (p := p) (kd := μ 20 0) (sl := fun o => μ 20 0 (6 + o)) m (by omega) with ⟨e1, -⟩ | ⟨o, ho, e1, -⟩
        · rw [e1] at c4; exact absurd (by decide) c4
        · have v8 : vp_in (nI (6 + o)) 256 := vi (by omega) (by omega)
          rw [e1, nI_add, cl (show 6 + o < 100000 by omega)]
          refine ⟨v8, fun c5 => putG _ ?_, fun c5 => putG _ ?_⟩
          · simp only [gN]
            rw [if_neg, e1]
            rw [e1, cl (show o < 100000 by omega)]
            have h1 : ¬ nI o < 0 := nI_pos (by omega)
            have h2 : ¬ μ 20 0 (6 + m) < μ 20 0 (6 + o) := Int32.not_lt.mpr c5
            simp [h1, h2]
          · simp only [gN]
            rw [if_pos]
            rw [e1, cl (show o < 100000 by omega), hpm]
            have h2 : μ 20 0 (6 + m) < μ 20 0 (6 + o) := Int32.not_le.mp c5
            simp [c3, h2]
