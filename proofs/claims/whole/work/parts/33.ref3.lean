theorem E_l40 {μ : Mem} {n sz : Nat} {r L : Nat → Int32} {M : Mem} {t gs gp : Int32} {q : Mem → Prop} (hn : n < 6) (h : isE μ n r L M) (hs : sz ≤ 40) (hL : L 135 = nI sz) (h5 : r 5 = 1) (hr0 : r 0 = μ 20 0 n) (hr2 : r 2 = μ 20 0 (12 + n)) (hr3 : r 3 = μ 20 0 (18 + n))
    (hg : (μ 30 0 n = -6 ∧ μ 29 0 n = 0) ∨ ∃ g, g < 6 ∧ μ 30 0 n = nI g ∧ gs = μ 31 0 (6 * n + g) ∧ gp = μ 20 0 (18 + g) + μ 32 0 g)
    (hq : ∀ M', isE μ n (cLis2 (μ 29 0 n) (μ 30 0 n) gs gp (μ 20 0 (78 + n)) (μ 20 0 (90 + n)) (upd r 8 t)) (lgE L (μ 20 0 133) n r (cLis2 (μ 29 0 n) (μ 30 0 n) gs gp (μ 20 0 (78 + n)) (μ 20 0 (90 + n)) (upd r 8 t))) M' → q M') : wp_X6_listen_b40 (nI n) q 0 (nI 42 + nI n) t M := by
  unfold wp_X6_listen_b40 wp_X6_listen_b58 wp_X6_listen_b99 wp_X6_listen_b135
  have v0 : vp_in (nI n) 6 := vi hn (by omega)
  have v0' : vp_in (nI n) 256 := vi (by omega) (by omega)
  have v1 : vp_in (nI (42 + n)) 256 := vi (by omega) (by omega)
  have v2 : vp_in (nI (78 + n)) 256 := vi (by omega) (by omega)
  have v3 : vp_in (nI (90 + n)) 256 := vi (by omega) (by omega)
  have v4 : vp_in (nI (12 + n)) 256 := vi (by omega) (by omega)
  have h1 := isE_upd (p := 42) (f := 8) (x := t) h hn (by omega) (by omega) (by omega) rfl
  have z0 : (0 : Int32) + nI n = nI n := by simp
  simp only [forall_eq, nI_add, v0, v0', v1, v2, v3, v4, true_and, z0, cl (show n < 100000 by omega), cl (show 42 + n < 100000 by omega), cl (show 78 + n < 100000 by omega), cl (show 90 + n < 100000 by omega), cl (show 12 + n < 100000 by omega), ms_mr]
  generalize hM1 : mr M 20 0 (upd (M 20 0) (42 + n) t) = M1 at h1
  have e0 : M1 20 0 n = r 0 := by rw [h1.1, pw_lo (by omega), hr0]
  have e30 : M1 30 0 = μ 30 0 := isE_k h1 (by omega) 0
  have e29 : M1 29 0 = μ 29 0 := isE_k h1 (by omega) 0
  have e78 : M1 20 0 (78 + n) = μ 20 0 (78 + n) := by rw [h1.1, pw_lo (by omega)]
  have e90 : M1 20 0 (90 + n) = μ 20 0 (90 + n) := by rw [h1.1, pw_lo (by omega)]
  have e42 : M1 20 0 (42 + n) = t := by rw [h1.1, pw_8 hn, upd_s]
  have e12 : M1 20 0 (12 + n) = r 2 := by rw [h1.1, pw_lo (by omega), hr2]
  simp only [e0, e30, e29, e78, e90, e42, e12]
  have u0 : upd r 8 t 0 = r 0 := upd_n _ _ (by decide)
  have u2 : upd r 8 t 2 = r 2 := upd_n _ _ (by decide)
  have u3 : upd r 8 t 3 = μ 20 0 (18 + n) := by rw [upd_n _ _ (by decide), hr3]
  have u5 : upd r 8 t 5 = r 5 := upd_n _ _ (by decide)
  have keep : isE μ n (upd r 8 t) (lgE L (μ 20 0 133) n r (upd r 8 t)) M1 := by rw [lgE_same u5]; exact h1
  unfold cLis2 at hq
  rw [u0, upd_s, u2] at hq
  have hz : (0 : Int32) ≠ 1 := by decide
  refine ⟨fun c => ?_, fun c => ?_⟩
  · rw [if_neg c] at hq
    simp only [not_true_eq_false, false_implies, true_implies, and_true, true_and]
    refine ⟨fun c2 => ?_, fun c2 => ⟨fun c3 => ?_, fun c3 => ?_⟩⟩
    · rw [if_neg (fun z => z.1 c2)] at hq
      exact hq M1 keep
    · rw [if_neg (fun z => z.2 c3)] at hq
      exact hq M1 keep
    · rw [if_pos ⟨c2, c3⟩] at hq
      rcases hg with ⟨g1, g2⟩ | ⟨g, hg6, g1, g2, g3⟩
      · rw [g2] at c2
        exact absurd (by decide) c2
      · subst g2; subst g3
        exact E_follow hn h1 hs hL (by rw [h5]; decide) hg6 g1 u3 hq
  · rw [if_pos c] at hq
    have z1 : ¬ (1 : Int32) = 0 := by decide
    simp only [z1, false_implies, not_false_eq_true, true_implies, true_and, and_true]
    have b135 : ¬ (¬ μ 30 0 n = -6 ∧ μ 30 0 n = μ 20 0 (78 + n)) → (t < r 2 → q M1) ∧ (¬ t < r 2 → wp_X6_become (nI n) (nI 2) M1 fun m_3 => q m_3) := by
      intro cc
      rw [if_neg cc] at hq
      refine ⟨fun c3 => ?_, fun c3 => ?_⟩
      · rw [if_pos c3] at hq
        exact hq M1 keep
      · rw [if_neg c3] at hq
        exact E_bec hn h1 hs hL (by rw [h5]; decide) hq
    rcases hg with ⟨g1, g2⟩ | ⟨g, hg6, g1, g2, g3⟩
    · refine ⟨fun _ => b135 (fun z => z.1 g1), fun c2 => ?_⟩
      rw [g1] at c2
      exact absurd (by decide) c2
    · refine ⟨fun c2 => ?_, fun _ => ⟨fun c3 => b135 (fun z => c3 z.2), fun c3 => ?_⟩⟩
      · rw [g1] at c2
        exact absurd c2 (nI_pos (by omega))
      · have hn6 : ¬ μ 30 0 n = -6 := by
          rw [g1]
          intro z
          have := nI_pos (n := g) (by omega)
          rw [z] at this
          exact this (by decide)
        rw [if_pos ⟨hn6, c3⟩] at hq
        subst g2; subst g3
        exact E_follow hn h1 hs hL (by rw [h5]; decide) hg6 g1 u3 hq
theorem E_listen {μ : Mem} {n sz : Nat} {r L : Nat → Int32} {M : Mem} {gs gp : Int32} {q : Mem → Prop} (hn : n < 6) (h : isE μ n r L M) (hs : sz ≤ 40) (hL : L 135 = nI sz) (h5 : r 5 = 1) (hr0 : r 0 = μ 20 0 n) (hr2 : r 2 = μ 20 0 (12 + n)) (hr3 : r 3 = μ 20 0 (18 + n))
    (hg : (μ 30 0 n = -6 ∧ μ 29 0 n = 0) ∨ ∃ g, g < 6 ∧ μ 30 0 n = nI g ∧ gs = μ 31 0 (6 * n + g) ∧ gp = μ 20 0 (18 + g) + μ 32 0 g)
    (hq : ∀ M', isE μ n (cLis (μ 28 0 n) (μ 29 0 n) (μ 30 0 n) gs gp (μ 20 0 (78 + n)) (μ 20 0 (90 + n)) (b2i (anyN (fun o => decide (¬ o = n) && decide (¬ μ 25 0 o = 0)) 6)) r) (lgE L (μ 20 0 133) n r (cLis (μ 28 0 n) (μ 29 0 n) (μ 30 0 n) gs gp (μ 20 0 (78 + n)) (μ 20 0 (90 + n)) (b2i (anyN (fun o => decide (¬ o = n) && decide (¬ μ 25 0 o = 0)) 6)) r)) M' → q M') : wp_X6_listen (nI n) M q := by
  unfold wp_X6_listen wp_X6_listen_b39
  have v0 : vp_in (nI n) 6 := vi hn (by omega)
  have v1 : vp_in (nI (42 + n)) 256 := vi (by omega) (by omega)
  have e28 : M 28 0 = μ 28 0 := isE_k h (by omega) 0
  have e25 : M 25 0 = μ 25 0 := isE_k h (by omega) 0
  simp only [forall_eq, v0, true_and, cl (show n < 100000 by omega), e28]
  unfold cLis at hq
  refine ⟨fun c => ?_, fun c => ?_⟩
  · rw [if_neg (fun z => c z.1)] at hq
    exact E_l40 hn h hs hL h5 hr0 hr2 hr3 hg hq
  · refine w6_otherSign hn M _ ?_
    rw [e25]
    refine ⟨fun c2 => ?_, fun c2 => ?_⟩
    · rw [if_neg (fun z => c2 z.2)] at hq
      exact E_l40 hn h hs hL h5 hr0 hr2 hr3 hg hq
    · rw [if_pos ⟨c, c2⟩] at hq
      have e8 : M 20 0 (nI 42 + nI n).toNatClampNeg = r 8 := by rw [nI_add, cl (by omega), h.1, pw_8 hn]
      refine ⟨by rw [nI_add]; exact v1, ?_⟩
      rw [e8]
      exact E_l40 hn h hs hL h5 hr0 hr2 hr3 hg hq
theorem w6_plain (x : Int32) (μ : Mem) (q : Int32 → Mem → Prop) : wp_X6_plain x μ q = q (absF x) μ := by
  unfold wp_X6_plain absF
  by_cases c : 0 ≤ x
  · simp [c]
  · simp [c]
theorem clampF_eq (y : Int32) : clampF y = if (-100) ≤ y then (if y ≤ nI 100 then y else nI 100) else (-100) := by
  unfold clampF
  have t1 : ((-100 : Int32)).toInt = -100 := by decide
  have t2 : (nI 100).toInt = 100 := by decide
  by_cases a : y < nI 100
  · rw [if_pos a]
    rw [Int32.lt_iff_toInt_lt, t2] at a
    by_cases b : (-100) < y
    · rw [if_pos b, if_pos (Int32.le_of_lt b), if_pos]
      rw [Int32.le_iff_toInt_le, t2]; omega
    · rw [if_neg b]
      by_cases c : (-100) ≤ y
      · rw [if_pos c, if_pos (by rw [Int32.le_iff_toInt_le, t2]; omega)]
        rw [Int32.lt_iff_toInt_lt, t1] at b
        rw [Int32.le_iff_toInt_le, t1] at c
        apply Int32.toInt_inj.mp
        rw [t1]; omega
      · rw [if_neg c]
  · rw [if_neg a, if_pos (by decide)]
    rw [Int32.lt_iff_toInt_lt, t2] at a
    rw [if_pos (by rw [Int32.le_iff_toInt_le, t1]; omega)]
    by_cases c : y ≤ nI 100
    · rw [if_pos c]
      rw [Int32.le_iff_toInt_le, t2] at c
      apply Int32.toInt_inj.mp
      rw [t2]; omega
    · rw [if_neg c]
def cPre (hd ts tm bd : Int32) (r : Nat → Int32) : Nat → Int32 := if hd = 0 ∨ ¬ absF ts ≤ bd then upd (upd r 10 (r 10 + 1)) 9 0 else upd (upd (upd (upd r 9 (r 9 + 1)) 10 0) 11 (r 11 + ts)) 12 (clampF (r 12 + tm))
theorem cCor_pre (hd ts tm bd : Int32) (r : Nat → Int32) : cCor hd ts tm bd r = cKeep (cPre hd ts tm bd r) := rfl
theorem E_correct {μ : Mem} {n : Nat} {r L : Nat → Int32} {M : Mem} {q : Mem → Prop} (hn : n < 6) (h : isE μ n r L M) (h64 : ∃ w, w < 64 ∧ μ 28 0 n = nI w)
    (hq : ∀ M', isE μ n (cPre (μ 28 0 n) (tsF (inb (μ 28 0 n)) (fun o => μ 31 0 (6 * n + o))) (tsF (inb (μ 28 0 n &&& μ 20 0 (84 + n))) (fun o => μ 31 0 (6 * n + o) - μ 20 0 (96 + 6 * n + o))) (μ 20 0 132) r) L M' → q M') : wp_X6_correct (nI n) M q := by
  unfold wp_X6_correct
  have e28 : M 28 0 = μ 28 0 := isE_k h (by omega) 0
  have e31 : M 31 0 = μ 31 0 := isE_k h (by omega) 0
  refine w6_trimSeen hn (by rw [e28]; exact h64) (fun M1 hf1 => ?_)
  rw [e28, e31]
  have h1 := isE_fr h hf1
  generalize htsd : tsF (inb (μ 28 0 n)) (fun o => μ 31 0 (6 * n + o)) = ts at hq ⊢
  have v0 : vp_in (nI n) 6 := vi hn (by omega)
  have v1 : vp_in (nI 132) 256 := vi (by omega) (by omega)
  have v2 : vp_in (nI (48 + n)) 256 := vi (by omega) (by omega)
  have v3 : vp_in (nI (54 + n)) 256 := vi (by omega) (by omega)
  have v4 : vp_in (nI (60 + n)) 256 := vi (by omega) (by omega)
  have v5 : vp_in (nI (66 + n)) 256 := vi (by omega) (by omega)
  have f28 : M1 28 0 = μ 28 0 := isE_k h1 (by omega) 0
  have b30 : (μ 28 0 n = 0 ∨ ¬ absF ts ≤ μ 20 0 132) → wp_X6_correct_b30 (nI n) q M1 := by
    intro c
    unfold wp_X6_correct_b30
    unfold cPre at hq
    rw [if_pos c] at hq
    have e10 : M1 20 0 (54 + n) = r 10 := by rw [h1.1, pw_10 hn]
    simp only [forall_eq, nI_add, v2, v3, true_and, cl (show 54 + n < 100000 by omega), cl (show 48 + n < 100000 by omega), e10, ms_mr]
    have h2 := isE_upd (p := 54) (f := 10) (x := r 10 + 1) h1 hn (by omega) (by omega) (by omega) rfl
    exact hq _ (isE_upd (p := 48) (f := 9) (x := 0) h2 hn (by omega) (by omega) (by omega) rfl)
  have e132 : M1 20 0 132 = μ 20 0 132 := by rw [h1.1, pw_lo (by omega)]
  simp only [forall_eq, v0, v1, true_and, cl (show n < 100000 by omega), cl (show 132 < 100000 by omega), f28, w6_plain, e132]
  refine ⟨fun c => b30 (Or.inl c), fun c => ⟨fun c2 => ?_, fun c2 => b30 (Or.inr c2)⟩⟩
  have hc : ¬ (μ 28 0 n = 0 ∨ ¬ absF ts ≤ μ 20 0 132) := fun z => z.elim c (fun z => z c2)
  unfold cPre at hq
  rw [if_neg hc] at hq
  have e9 : M1 20 0 (48 + n) = r 9 := by rw [h1.1, pw_9 hn]
  have h2 := isE_upd (p := 48) (f := 9) (x := r 9 + 1) h1 hn (by omega) (by omega) (by omega) rfl
  have h3 := isE_upd (p := 54) (f := 10) (x := 0) h2 hn (by omega) (by omega) (by omega) rfl
  simp only [nI_add, v2, v3, v4, v5, true_and, cl (show 48 + n < 100000 by omega), cl (show 54 + n < 100000 by omega), cl (show 60 + n < 100000 by omega), cl (show 66 + n < 100000 by omega), e9, ms_mr]
  generalize hM3 : mr (mr M1 20 0 (upd (M1 20 0) (48 + n) (r 9 + 1))) 20 0 (upd (mr M1 20 0 (upd (M1 20 0) (48 + n) (r 9 + 1)) 20 0) (54 + n) 0) = M3 at h3 ⊢
  have e11 : M3 20 0 (60 + n) = r 11 := by rw [h3.1, pw_11 hn, upd_n _ _ (by decide), upd_n _ _ (by decide)]
  have h4 := isE_upd (p := 60) (f := 11) (x := r 11 + ts) h3 hn (by omega) (by omega) (by omega) rfl
  rw [e11]
  generalize hM4 : mr M3 20 0 (upd (M3 20 0) (60 + n) (r 11 + ts)) = M4 at h4 ⊢
  have e12 : M4 20 0 (66 + n) = r 12 := by rw [h4.1, pw_12 hn, upd_n _ _ (by decide), upd_n _ _ (by decide), upd_n _ _ (by decide)]
  have g28 : M4 28 0 = μ 28 0 := isE_k h4 (by omega) 0
  have g31 : M4 31 0 = μ 31 0 := isE_k h4 (by omega) 0
  have g84 : M4 20 0 (84 + n) = μ 20 0 (84 + n) := by rw [h4.1, pw_lo (by omega)]
  refine w6_trimChanged hn (fun M5 hf5 => ?_)
  have h5 := isE_fr h4 hf5
  have etm : tsF (inb (M4 28 0 n &&& M4 20 0 (84 + n))) (fun o => M4 31 0 (6 * n + o) - M4 20 0 (96 + 6 * n + o)) = tsF (inb (μ 28 0 n &&& μ 20 0 (84 + n))) (fun o => μ 31 0 (6 * n + o) - μ 20 0 (96 + 6 * n + o)) := by
    rw [g28, g31, g84]
    refine tsF_congr (fun _ _ => rfl) (fun o ho _ => ?_)
    show _ - M4 20 0 _ = _
    rw [h4.1, pw_lo (by omega)]
  rw [etm, e12]
  generalize htmd : tsF (inb (μ 28 0 n &&& μ 20 0 (84 + n))) (fun o => μ 31 0 (6 * n + o) - μ 20 0 (96 + 6 * n + o)) = tm at hq ⊢
  unfold wp_X6_correct_b137
  simp only [forall_eq, v5, true_and, cl (show 66 + n < 100000 by omega), ms_mr]
  have fin : ∀ x, x = clampF (r 12 + tm) → q (mr M5 20 0 (upd (M5 20 0) (66 + n) x)) := fun x hx => by
    rw [hx]
    exact hq _ (isE_upd (p := 66) (f := 12) (x := clampF (r 12 + tm)) h5 hn (by omega) (by omega) (by omega) rfl)
  refine ⟨fun c3 => ⟨fun c4 => fin _ ?_, fun c4 => fin _ ?_⟩, fun c3 => fin _ ?_⟩
  · rw [clampF_eq, if_pos c3, if_pos c4]
  · rw [clampF_eq, if_pos c3, if_neg c4]
  · rw [clampF_eq, if_neg c3]
theorem lt_1 (x : Int32) : (x < 1) = (x ≤ 0) := by
  apply propext
  rw [Int32.lt_iff_toInt_lt, Int32.le_iff_toInt_le, show (1 : Int32).toInt = 1 by decide, show (0 : Int32).toInt = 0 by decide]
  omega
theorem E_keep19 {μ : Mem} {n sz : Nat} {r0 r L : Nat → Int32} {M : Mem} {q : Mem → Prop} (hn : n < 6) (h : isE μ n r L M) (hs : sz ≤ 40) (hL : L 135 = nI sz) (h5 : r 5 = r0 5) (hq : ∀ M', isE μ n (cKeep r) (lgE L (μ 20 0 133) n r0 (cKeep r)) M' → q M') : wp_X6_keepOn_b19 (nI n) q M := by
  unfold wp_X6_keepOn_b19 wp_X6_keepOn_b50 wp_X6_keepOn_b82
  have v2 : vp_in (nI (48 + n)) 256 := vi (by omega) (by omega)
  have v3 : vp_in (nI (54 + n)) 256 := vi (by omega) (by omega)
  have e5 : M 20 0 (30 + n) = r 5 := by rw [h.1, pw_5 hn]
  have e9 : M 20 0 (48 + n) = r 9 := by rw [h.1, pw_9 hn]
  have e10 : M 20 0 (54 + n) = r 10 := by rw [h.1, pw_10 hn]
  simp only [w6_is hn, b2i_0, forall_eq, nI_add, v2, v3, true_and, cl (show 48 + n < 100000 by omega), cl (show 54 + n < 100000 by omega), e5, e9, e10, lt_1, decide_eq_false_iff_not, Classical.not_not]
  unfold cKeep at hq
  have same : isE μ n r (lgE L (μ 20 0 133) n r0 r) M := by rw [lgE_same h5]; exact h
  have b82 : ¬ (r 5 = nI 4 ∧ ¬ r 10 ≤ 0) → ¬ (r 5 = nI 5 ∧ ¬ r 10 < nI 3) → (¬ r 5 = nI 5 → q M) ∧ (r 5 = nI 5 → (r 9 < nI 2 → q M) ∧ (¬ r 9 < nI 2 → wp_X6_become (nI n) (nI 4) M fun m_4 => q m_4)) := by
    intro c1 c2
    rw [if_neg c1, if_neg c2] at hq
    refine ⟨fun c3 => ?_, fun c3 => ⟨fun c4 => ?_, fun c4 => ?_⟩⟩
    · rw [if_neg (fun z => c3 z.1)] at hq
      exact hq M same
    · rw [if_neg (fun z => z.2 c4)] at hq
      exact hq M same
    · rw [if_pos ⟨c3, c4⟩] at hq
      exact E_bec (r0 := r0) hn h hs hL (by rw [← h5, c3]; decide) hq
  have b50 : ¬ (r 5 = nI 4 ∧ ¬ r 10 ≤ 0) → (¬ r 5 = nI 5 → (¬ r 5 = nI 5 → q M) ∧ (r 5 = nI 5 → (r 9 < nI 2 → q M) ∧ (¬ r 9 < nI 2 → wp_X6_become (nI n) (nI 4) M fun m_4 => q m_4))) ∧ (r 5 = nI 5 → (r 10 < nI 3 → (¬ r 5 = nI 5 → q M) ∧ (r 5 = nI 5 → (r 9 < nI 2 → q M) ∧ (¬ r 9 < nI 2 → wp_X6_become (nI n) (nI 4) M fun m_4 => q m_4))) ∧ (¬ r 10 < nI 3 → wp_X6_become (nI n) (nI 6) M fun m_4 => q m_4)) := by
    intro c1
    refine ⟨fun c2 => b82 c1 (fun z => c2 z.1), fun c2 => ⟨fun c3 => b82 c1 (fun z => z.2 c3), fun c3 => ?_⟩⟩
    rw [if_neg c1, if_pos ⟨c2, c3⟩] at hq
    exact E_bec (r0 := r0) hn h hs hL (by rw [← h5, c2]; decide) hq
  refine ⟨fun c => b50 (fun z => c z.1), fun c => ⟨fun c2 => b50 (fun z => z.2 c2), fun c2 => ?_⟩⟩
  rw [if_pos ⟨c, c2⟩] at hq
  exact E_bec (r0 := r0) hn h hs hL (by rw [← h5, c]; decide) hq
