theorem w6_givesWay {n : Nat} (hn : n < 6) (μ : Mem) (q : Int32 → Mem → Prop) (h : q (b2i (anyN (fun o => decide (¬ o = n) && (decide (¬ μ 24 0 o = 0) && (!fsT (μ 20 0) o || decide (μ 20 0 (6 + o) < μ 20 0 (6 + n))))) 6)) μ) : wp_X6_givesWay (nI n) μ q := by
  generalize hp : (fun o => decide (¬ o = n) && (decide (¬ μ 24 0 o = 0) && (!fsT (μ 20 0) o || decide (μ 20 0 (6 + o) < μ 20 0 (6 + n))))) = p at h
  have hp' : ∀ o, p o = (decide (¬ o = n) && (decide (¬ μ 24 0 o = 0) && (!fsT (μ 20 0) o || decide (μ 20 0 (6 + o) < μ 20 0 (6 + n))))) := fun o => (congrFun hp o).symm
  refine ⟨7, loop6c (fun f m => wp_X6_givesWay_l4 (nI n) q f (b2i (anyN p m)) (nI m) μ) ?_ ?_⟩
  · unfold wp_X6_givesWay_l4
    exact ⟨fun _ => ⟨b2i_nz _, h⟩, fun c => absurd le66 c⟩
  · intro k m hm ih
    unfold wp_X6_givesWay_l4 wp_X6_givesWay_b57 wp_X6_givesWay_b61 wp_X6_givesWay_b62
    refine ⟨fun c => absurd c (nI_ge hm (by omega)), fun _ => ?_⟩
    have v1 : vp_in (nI (6 + m)) 256 := vi (by omega) (by omega)
    have v2 : vp_in (nI (6 + n)) 256 := vi (by omega) (by omega)
    simp only [forall_eq, cl (show m < 100000 by omega), nI_1, vi hm (show 6 < 100000 by omega), true_and, nI_ne (show m < 100000 by omega) (show n < 100000 by omega), b2i_0, w6_isFirst hm, nI_add, v1, v2, cl (show 6 + m < 100000 by omega), cl (show 6 + n < 100000 by omega)]
    simp only [anyN] at ih
    have yes : anyN p m = false → p m = true → wp_X6_givesWay_l4 (nI n) q k 1 (nI (m + 1)) μ := fun a b => by rw [a, b] at ih; exact ih
    have no : anyN p m = false → p m = false → wp_X6_givesWay_l4 (nI n) q k 0 (nI (m + 1)) μ := fun a b => by rw [a, b] at ih; exact ih
    refine ⟨fun c => ?_, fun c => ⟨fun c2 => no c ?_, fun c2 => ⟨fun c3 => no c ?_, fun c3 => ⟨fun c4 => yes c ?_, fun c4 => ⟨fun c5 => no c ?_, fun c5 => yes c ?_⟩⟩⟩⟩⟩
    · rw [eq_true_of_ne_false c, Bool.true_or] at ih
      exact ih
    · rw [hp' m]; simp [c2]
    · rw [hp' m]; simp [c3]
    · rw [hp' m, show fsT (μ 20 0) m = false from c4]
      simp [c2, c3]
    · rw [hp' m, show fsT (μ 20 0) m = true from eq_true_of_ne_false c4, show decide (μ 20 0 (6 + m) < μ 20 0 (6 + n)) = false from decide_eq_false (Int32.not_lt.mpr c5)]
      simp
    · rw [hp' m, show decide (μ 20 0 (6 + m) < μ 20 0 (6 + n)) = true from decide_eq_true (Int32.not_le.mp c5)]
      simp [c2, c3]
def T1m (T : Nat → Int32) (m : Nat) : Nat → Int32 := fun j => if 30 ≤ j ∧ j < 60 ∧ j % 6 < m ∧ flT T (j % 6) = true then (if j < 36 then 1 else 0) else T j
theorem T1m_t {T : Nat → Int32} {m : Nat} (hm : m < 6) (h : flT T m = true) : upd (upd (upd (upd (upd (T1m T m) (30 + m) 1) (36 + m) 0) (42 + m) 0) (48 + m) 0) (54 + m) 0 = T1m T (m + 1) := by
  funext j
  unfold T1m
  simp only [upd]
  by_cases c : 30 ≤ j ∧ j < 60 ∧ j % 6 = m
  · rw [if_pos (show 30 ≤ j ∧ j < 60 ∧ j % 6 < m + 1 ∧ flT T (j % 6) = true from ⟨c.1, c.2.1, by omega, by rw [c.2.2]; exact h⟩)]
    by_cases h1 : j = 54 + m
    · rw [if_pos h1, if_neg (by omega)]
    · rw [if_neg h1]
      by_cases h2 : j = 48 + m
      · rw [if_pos h2, if_neg (by omega)]
      · rw [if_neg h2]
        by_cases h3 : j = 42 + m
        · rw [if_pos h3, if_neg (by omega)]
        · rw [if_neg h3]
          by_cases h4 : j = 36 + m
          · rw [if_pos h4, if_neg (by omega)]
          · rw [if_neg h4, if_pos (show j = 30 + m by omega), if_pos (by omega)]
  · rw [if_neg (by omega), if_neg (by omega), if_neg (by omega), if_neg (by omega), if_neg (by omega)]
    by_cases d : 30 ≤ j ∧ j < 60 ∧ j % 6 < m ∧ flT T (j % 6) = true
    · rw [if_pos d, if_pos (show 30 ≤ j ∧ j < 60 ∧ j % 6 < m + 1 ∧ flT T (j % 6) = true from ⟨d.1, d.2.1, by omega, d.2.2.2⟩)]
    · rw [if_neg d, if_neg (fun z => d ⟨z.1, z.2.1, by omega, z.2.2.2⟩)]
theorem T1m_f {T : Nat → Int32} {m : Nat} (h : flT T m = false) : T1m T (m + 1) = T1m T m := by
  funext j
  unfold T1m
  by_cases d : 30 ≤ j ∧ j < 60 ∧ j % 6 < m ∧ flT T (j % 6) = true
  · rw [if_pos d, if_pos ⟨d.1, d.2.1, by omega, d.2.2.2⟩]
  · rw [if_neg d, if_neg (fun z => d ⟨z.1, z.2.1, by
      have : j % 6 ≠ m := fun e => by rw [e, h] at z; exact absurd z.2.2.2 (by decide)
      omega, z.2.2.2⟩)]
def LSP (μ M : Mem) : Prop := M 20 0 = T1m (μ 20 0) 6 ∧ (∀ n, n < 6 → M 24 0 n = b2i (snT (μ 20 0) n) ∧ M 25 0 n = b2i (sgT (μ 20 0) n) ∧ M 26 0 n = b2i (flT (μ 20 0) n) ∧ M 27 0 n = b2i (flT (μ 20 0) n)) ∧ ∀ k i, ¬ ((k = 20 ∨ k = 24 ∨ k = 25 ∨ k = 26 ∨ k = 27) ∧ i = 0) → M k i = μ k i
theorem w6_lay3 {μ M0 : Mem} {q : Mem → Prop} (hT : M0 20 0 = μ 20 0) (ha : ∀ n, n < 6 → M0 24 0 n = b2i (rdT (μ 20 0) n) ∧ M0 25 0 n = b2i (sgT (μ 20 0) n) ∧ M0 26 0 n = b2i (flT (μ 20 0) n) ∧ M0 27 0 n = 0) (hf : ∀ k i, ¬ ((k = 20 ∨ k = 24 ∨ k = 25 ∨ k = 26 ∨ k = 27) ∧ i = 0) → M0 k i = μ k i) (hq : ∀ M, LSP μ M → q M) : ∃ n : Nat, wp_X6_laySenders_l147 q n 0 M0 := by
  refine ⟨7, loop6 (fun f m M => wp_X6_laySenders_l147 q f (nI m) M) (fun m M => M 20 0 = T1m (μ 20 0) m ∧ (∀ n, n < 6 → M 24 0 n = (if n < m then b2i (snT (μ 20 0) n) else b2i (rdT (μ 20 0) n)) ∧ M 25 0 n = b2i (sgT (μ 20 0) n) ∧ M 26 0 n = b2i (flT (μ 20 0) n) ∧ M 27 0 n = (if n < m then b2i (flT (μ 20 0) n) else 0)) ∧ ∀ k i, ¬ ((k = 20 ∨ k = 24 ∨ k = 25 ∨ k = 26 ∨ k = 27) ∧ i = 0) → M k i = μ k i) ?_ ?_ _ ⟨?_, ?_, hf⟩⟩
  · intro M hI
    unfold wp_X6_laySenders_l147
    refine ⟨fun _ => hq M ⟨hI.1, fun n hn => ?_, hI.2.2⟩, fun c => absurd le66 c⟩
    have := hI.2.1 n hn
    rw [if_pos hn, if_pos hn] at this
    exact this
  · intro k m M hm hI ih
    obtain ⟨i1, i2, i3⟩ := hI
    unfold wp_X6_laySenders_l147 wp_X6_laySenders_b182
    refine ⟨fun c => absurd c (nI_ge hm (by omega)), fun _ => ?_⟩
    have v0 : vp_in (nI m) 6 := vi hm (by omega)
    obtain ⟨a1, a2, a3, a4⟩ := i2 m hm
    simp only [forall_eq, v0, true_and, cl (show m < 100000 by omega), nI_1, a3, b2i_0, nz_0, nz_1, ms_mr, w6_begin hm]
    refine ⟨fun c => ih _ ⟨?_, fun n hn => ?_, i3⟩, fun c => ih _ ⟨?_, fun n hn => ?_, fun k' i' hk => ?_⟩⟩
    · rw [T1m_f c]; exact i1
    · obtain ⟨b1, b2, b3, b4⟩ := i2 n hn
      refine ⟨?_, b2, b3, ?_⟩
      · rw [b1]
        by_cases e : n < m
        · rw [if_pos e, if_pos (by omega)]
        · rw [if_neg e]
          by_cases e2 : n = m
          · subst e2
            rw [if_pos (by omega)]
            unfold snT
            rw [c]; simp
          · rw [if_neg (by omega)]
      · rw [b4]
        by_cases e : n < m
        · rw [if_pos e, if_pos (by omega)]
        · rw [if_neg e]
          by_cases e2 : n = m
          · subst e2
            rw [if_pos (by omega), c]; rfl
          · rw [if_neg (by omega)]
    · have c' := eq_true_of_ne_false c
      rw [mr_k _ _ (by decide), mr_s, mr_k _ _ (by decide), i1]
      exact T1m_t hm c'
    · have c' := eq_true_of_ne_false c
      obtain ⟨b1, b2, b3, b4⟩ := i2 n hn
      rw [mr_k _ _ (show 24 ≠ 27 by decide), mr_k _ _ (show 24 ≠ 20 by decide), mr_s, mr_k _ _ (show 25 ≠ 27 by decide), mr_k _ _ (show 25 ≠ 20 by decide), mr_k _ _ (show 25 ≠ 24 by decide), mr_k _ _ (show 26 ≠ 27 by decide), mr_k _ _ (show 26 ≠ 20 by decide), mr_k _ _ (show 26 ≠ 24 by decide), mr_s, mr_k _ _ (show 27 ≠ 20 by decide), mr_k _ _ (show 27 ≠ 24 by decide)]
      refine ⟨?_, b2, b3, ?_⟩
      · by_cases e2 : n = m
        · subst e2
          rw [upd_s, if_pos (by omega)]
          unfold snT
          rw [c']; simp [b2i]
        · rw [upd_n _ _ e2, b1]
          by_cases e : n < m
          · rw [if_pos e, if_pos (by omega)]
          · rw [if_neg e, if_neg (by omega)]
      · by_cases e2 : n = m
        · subst e2
          rw [upd_s, if_pos (by omega), c']; rfl
        · rw [upd_n _ _ e2, b4]
          by_cases e : n < m
          · rw [if_pos e, if_pos (by omega)]
          · rw [if_neg e, if_neg (by omega)]
    · rw [mr_n _ _ (fun z => hk ⟨by omega, z.2⟩), mr_n _ _ (fun z => hk ⟨by omega, z.2⟩), mr_n _ _ (fun z => hk ⟨by omega, z.2⟩)]
      exact i3 k' i' hk
  · rw [hT]
    funext j
    unfold T1m
    rw [if_neg (by omega)]
  · intro n hn
    obtain ⟨b1, b2, b3, b4⟩ := ha n hn
    rw [if_neg (Nat.not_lt_zero n), if_neg (Nat.not_lt_zero n)]
    exact ⟨b1, b2, b3, b4⟩
theorem w6_lay2 {μ M0 : Mem} {q : Mem → Prop} (hT : M0 20 0 = μ 20 0) (ha : ∀ n, n < 6 → M0 24 0 n = b2i (rdT (μ 20 0) n) ∧ M0 25 0 n = b2i (sgT (μ 20 0) n) ∧ M0 27 0 n = 0) (hf : ∀ k i, ¬ ((k = 20 ∨ k = 24 ∨ k = 25 ∨ k = 26 ∨ k = 27) ∧ i = 0) → M0 k i = μ k i) (hq : ∀ M, LSP μ M → q M) : ∃ n : Nat, wp_X6_laySenders_l106 q n 0 M0 := by
  refine ⟨7, loop6 (fun f m M => wp_X6_laySenders_l106 q f (nI m) M) (fun m M => (∀ n, n < m → M 26 0 n = b2i (flT (μ 20 0) n)) ∧ ∀ k i, ¬ (k = 26 ∧ i = 0) → M k i = M0 k i) ?_ ?_ _ ⟨fun n hn => absurd hn (Nat.not_lt_zero n), fun _ _ _ => rfl⟩⟩
  · intro M hI
    unfold wp_X6_laySenders_l106
    refine ⟨fun _ => ?_, fun c => absurd le66 c⟩
    refine w6_lay3 (μ := μ) (by rw [hI.2 20 0 (by omega), hT]) (fun n hn => ?_) (fun k i hk => ?_) hq
    · rw [hI.2 24 0 (by omega), hI.2 25 0 (by omega), hI.2 27 0 (by omega)]
      exact ⟨(ha n hn).1, (ha n hn).2.1, hI.1 n hn, (ha n hn).2.2⟩
    · rw [hI.2 k i (by omega)]; exact hf k i hk
  · intro k m M hm hI ih
    obtain ⟨i1, i2⟩ := hI
    unfold wp_X6_laySenders_l106 wp_X6_laySenders_b137 wp_X6_laySenders_b138
    refine ⟨fun c => absurd c (nI_ge hm (by omega)), fun _ => ?_⟩
    have v0 : vp_in (nI m) 6 := vi hm (by omega)
    have e20 : M 20 0 = μ 20 0 := by rw [i2 20 0 (by omega), hT]
    have e24 : M 24 0 = M0 24 0 := i2 24 0 (by omega)
    have fin : ∀ x, x = b2i (flT (μ 20 0) m) → wp_X6_laySenders_l106 q k (nI (m + 1)) (mr M 26 0 (upd (M 26 0) m x)) := by
      intro x hx
      refine ih _ ⟨fun n hn => ?_, fun k' i' hk => ?_⟩
      · rw [mr_s]
        by_cases e : n = m
        · subst e; rw [upd_s, hx]
        · rw [upd_n _ _ e]; exact i1 n (by omega)
      · rw [mr_n _ _ hk]; exact i2 k' i' hk
    have hw : anyN (fun o => decide (¬ o = m) && (decide (¬ M0 24 0 o = 0) && (!fsT (μ 20 0) o || decide (μ 20 0 (6 + o) < μ 20 0 (6 + m))))) 6 = anyN (wyT (μ 20 0) m) 6 := by
      refine anyN_congr 6 (fun o ho => ?_)
      rw [(ha o ho).1]
      simp only [b2i_0, wyT]
      cases rdT (μ 20 0) o <;> simp
    simp only [forall_eq, v0, true_and, cl (show m < 100000 by omega), nI_1, w6_isFirst hm, b2i_0, nz_0, nz_1, ms_mr, e20]
    refine ⟨fun c => fin _ ?_, fun c => ?_⟩
    · unfold flT
      rw [show fsT (μ 20 0) m = false from c]; rfl
    · refine w6_givesWay hm M _ ?_
      rw [e20, e24, hw]
      simp only [b2i_0]
      refine ⟨fun c2 => fin _ ?_, fun c2 => fin _ ?_⟩
      · unfold flT
        rw [c2]; simp [b2i]
      · unfold flT
        rw [show fsT (μ 20 0) m = true from eq_true_of_ne_false c, eq_true_of_ne_false c2]; rfl
theorem w6_laySenders {μ : Mem} {q : Mem → Prop} (hq : ∀ M, LSP μ M → q M) : wp_X6_laySenders μ q := by
  refine ⟨7, loop6 (fun f m M => wp_X6_laySenders_l2 q f (nI m) M) (fun m M => (∀ n, n < m → M 24 0 n = b2i (rdT (μ 20 0) n) ∧ M 25 0 n = b2i (sgT (μ 20 0) n) ∧ M 27 0 n = 0) ∧ ∀ k i, ¬ ((k = 24 ∨ k = 25 ∨ k = 27) ∧ i = 0) → M k i = μ k i) ?_ ?_ _ ⟨fun n hn => absurd hn (Nat.not_lt_zero n), fun _ _ _ => rfl⟩⟩
  · intro M hI
    unfold wp_X6_laySenders_l2
    refine ⟨fun _ => ?_, fun c => absurd le66 c⟩
    exact w6_lay2 (hI.2 20 0 (by omega)) hI.1 (fun k i hk => hI.2 k i (by omega)) hq
  · intro k m M hm hI ih
    obtain ⟨i1, i2⟩ := hI
    have v0 : vp_in (nI m) 6 := vi hm (by omega)
    have v1 : vp_in (nI (36 + m)) 256 := vi (by omega) (by omega)
    have e20 : M 20 0 = μ 20 0 := i2 20 0 (by omega)
    have b90 : ∀ x y, x = b2i (rdT (μ 20 0) m) → y = b2i (sgT (μ 20 0) m) → wp_X6_laySenders_b90 q (wp_X6_laySenders_l2 q k) (nI m) 0 (nI m) y (mr M 24 0 (upd (M 24 0) m x)) := by
      intro x y hx hy
      unfold wp_X6_laySenders_b90
      simp only [forall_eq, v0, true_and, cl (show m < 100000 by omega), nI_1, nz_0, ms_mr]
      refine ⟨by rw [hy]; exact b2i_nz _, ih _ ⟨fun n hn => ?_, fun k' i' hk => ?_⟩⟩
      · rw [mr_k _ _ (show 24 ≠ 27 by decide), mr_k _ _ (show 24 ≠ 25 by decide), mr_s, mr_k _ _ (show 25 ≠ 27 by decide), mr_s, mr_s, mr_k _ _ (show 25 ≠ 24 by decide), mr_k _ _ (show 27 ≠ 25 by decide), mr_k _ _ (show 27 ≠ 24 by decide)]
        by_cases e : n = m
        · subst e
          rw [upd_s, upd_s, upd_s]
          exact ⟨hx, hy, rfl⟩
        · rw [upd_n _ _ e, upd_n _ _ e, upd_n _ _ e]
          exact i1 n (by omega)
      · rw [mr_n _ _ (fun z => hk ⟨by omega, z.2⟩), mr_n _ _ (fun z => hk ⟨by omega, z.2⟩), mr_n _ _ (fun z => hk ⟨by omega, z.2⟩)]
        exact i2 k' i' hk
    have b58 : ∀ x, x = b2i (rdT (μ 20 0) m) → wp_X6_laySenders_b58 q (wp_X6_laySenders_l2 q k) (nI m) 0 (nI m) x M := by
      intro x hx
      unfold wp_X6_laySenders_b58 wp_X6_laySenders_b89
      have e20' : ∀ z, mr M 24 0 z 20 0 = μ 20 0 := fun z => by rw [mr_k _ _ (by decide), e20]
      simp only [forall_eq, v0, v1, true_and, cl (show m < 100000 by omega), nI_add, cl (show 36 + m < 100000 by omega), ms_mr, w6_is hm, b2i_0, e20', decide_eq_false_iff_not, Classical.not_not]
      refine ⟨by rw [hx]; exact b2i_nz _, fun c => b90 x 0 hx ?_, fun c => ⟨fun c2 => b90 x 0 hx ?_, fun c2 => b90 x 1 hx ?_⟩⟩
      · simp [sgT, sgB, c, b2i]
      · simp [sgT, sgB, c2, b2i]
      · simp [sgT, sgB, c, c2, b2i]
    unfold wp_X6_laySenders_l2 wp_X6_laySenders_b35 wp_X6_laySenders_b53
    refine ⟨fun c => absurd c (nI_ge hm (by omega)), fun _ => ?_⟩
    simp only [forall_eq, v1, true_and, nI_add, cl (show 36 + m < 100000 by omega), w6_is hm, b2i_0, e20, decide_eq_false_iff_not, Classical.not_not]
    refine ⟨fun c => ⟨fun c2 => b58 1 ?_, fun c2 => ⟨fun c3 => b58 0 ?_, fun c3 => b58 1 ?_⟩⟩, fun c => ⟨fun c2 => b58 1 ?_, fun c2 => ⟨fun c3 => b58 1 ?_, fun c3 => ⟨fun c4 => b58 0 ?_, fun c4 => b58 1 ?_⟩⟩⟩⟩
    · simp [rdT, rdB, c2, b2i]
    · simp [rdT, rdB, c, c2, c3, b2i]
    · simp [rdT, rdB, c3, b2i]
    · simp [rdT, rdB, c, c2, b2i]
    · simp [rdT, rdB, c3, b2i]
    · simp [rdT, rdB, c2, c3, c4, b2i]
    · simp [rdT, rdB, c4, b2i]
