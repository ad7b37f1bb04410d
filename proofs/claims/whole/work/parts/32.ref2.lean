def isE (μ : Mem) (n : Nat) (r L : Nat → Int32) (M : Mem) : Prop := M 20 0 = pw (μ 20 0) n r L ∧ M 27 0 = upd (μ 27 0) n (r 6) ∧ ∀ k i, ¬ ((k = 6 ∨ k = 20 ∨ k = 23 ∨ k = 27) ∧ i = 0) → M k i = μ k i
theorem pw_congr {T r r' L L' : Nat → Int32} {n : Nat} (h : ∀ f, f = 5 ∨ (7 ≤ f ∧ f ≤ 12) → r f = r' f) (hL : ∀ j, 135 ≤ j → L j = L' j) : pw T n r L = pw T n r' L' := by
  funext j
  unfold pw
  by_cases h1 : 135 ≤ j
  · rw [if_pos h1, if_pos h1, hL j h1]
  · rw [if_neg h1, if_neg h1]
    by_cases h2 : 30 ≤ j ∧ j < 72 ∧ j % 6 = n
    · rw [if_pos h2, if_pos h2]
      apply h
      by_cases h3 : j < 36
      · rw [if_pos h3]; exact Or.inl rfl
      · rw [if_neg h3]; omega
    · rw [if_neg h2, if_neg h2]
theorem isE_congr {μ : Mem} {n : Nat} {r r' L : Nat → Int32} {M : Mem} (h : isE μ n r L M) (hr : ∀ f, 5 ≤ f → f ≤ 12 → r f = r' f) : isE μ n r' L M :=
  ⟨h.1.trans (pw_congr (fun f hf => hr f (by omega) (by omega)) (fun _ _ => rfl)), by rw [h.2.1, hr 6 (by omega) (by omega)], h.2.2⟩
theorem isE_id {μ : Mem} {n : Nat} (hn : n < 6) : isE μ n (mw (μ 20 0) (μ 27 0 n) n) (μ 20 0) μ :=
  ⟨(pw_id hn).symm, by unfold mw; rw [if_neg (by omega), if_pos rfl, upd_same], fun _ _ _ => rfl⟩
theorem isE_upd {μ : Mem} {n p f : Nat} {r L : Nat → Int32} {M : Mem} {x : Int32} (h : isE μ n r L M) (hn : n < 6) (hp : 30 ≤ p) (hp2 : p + n < 72) (hpm : p % 6 = 0) (hf : f = if p < 36 then 5 else p / 6 + 1) : isE μ n (upd r f x) L (mr M 20 0 (upd (M 20 0) (p + n) x)) := by
  refine ⟨?_, ?_, fun k i hk => ?_⟩
  · rw [mr_s, h.1, upd_pw hn hp hp2 hpm hf]
  · rw [mr_k _ _ (by decide), h.2.1, upd_n _ _ (by rw [hf]; split <;> omega)]
  · rw [mr_n _ _ (fun z => hk ⟨by omega, z.2⟩)]
    exact h.2.2 k i hk
theorem isE_k {μ : Mem} {n : Nat} {r L : Nat → Int32} {M : Mem} (h : isE μ n r L M) {k : Nat} (hk : k ≠ 6 ∧ k ≠ 20 ∧ k ≠ 23 ∧ k ≠ 27) (i : Nat) : M k i = μ k i := h.2.2 k i (by omega)
theorem isE_fr {μ : Mem} {n : Nat} {r L : Nat → Int32} {M M' : Mem} (h : isE μ n r L M) (hf : frM M M') : isE μ n r L M' :=
  ⟨by rw [hf 20 0 (by omega)]; exact h.1, by rw [hf 27 0 (by omega)]; exact h.2.1, fun k i hk => by rw [hf k i (by omega)]; exact h.2.2 k i hk⟩
theorem E_become {μ : Mem} {n sz : Nat} {r L : Nat → Int32} {M : Mem} {t : Int32} {q : Mem → Prop} (hn : n < 6) (h : isE μ n r L M) (hs : sz ≤ 40) (hL : L 135 = nI sz) (hq : ∀ M', isE μ n (cBec t r) (kev L (μ 20 0 133) (nI n) t) M' → q M') : wp_X6_become (nI n) t M q := by
  unfold wp_X6_become
  have hv : vp_in (nI n) 6 := vi hn (by omega)
  rw [w6_begin hn]
  simp only [nz_1, hv, true_and, forall_eq, ms_mr, cl (show n < 100000 by omega)]
  have e : upd (upd (upd (upd (upd (M 20 0) (30 + n) t) (36 + n) 0) (42 + n) 0) (48 + n) 0) (54 + n) 0 = pw (μ 20 0) n (cBec t r) L := by
    rw [h.1, upd_pw (f := 5) hn (by omega) (by omega) (by omega) rfl, upd_pw (f := 7) hn (by omega) (by omega) (by omega) rfl, upd_pw (f := 8) hn (by omega) (by omega) (by omega) rfl, upd_pw (f := 9) hn (by omega) (by omega) (by omega) rfl, upd_pw (f := 10) hn (by omega) (by omega) (by omega) rfl]
    refine pw_congr (fun f hf => ?_) (fun _ _ => rfl)
    unfold cBec
    simp only [upd]
    by_cases h10 : f = 10
    · rw [if_pos h10, if_pos h10]
    · rw [if_neg h10, if_neg h10]
      by_cases h9 : f = 9
      · rw [if_pos h9, if_pos h9]
      · rw [if_neg h9, if_neg h9]
        by_cases h8 : f = 8
        · rw [if_pos h8, if_pos h8]
        · rw [if_neg h8, if_neg h8]
          by_cases h7 : f = 7
          · rw [if_pos h7, if_pos h7]
          · rw [if_neg h7, if_neg h7, if_neg (show ¬ f = 6 by omega)]
  rw [e]
  have e20 : ∀ x, mr (mr M 20 0 (pw (μ 20 0) n (cBec t r) L)) 27 0 x 20 0 = pw (μ 20 0) n (cBec t r) L := fun x => by rw [mr_k _ _ (by decide), mr_s]
  refine w6_keepEvent (sz := sz) hn hs (by rw [e20, pw_L (by omega)]; exact hL) ?_
  rw [e20, pw_lo (show 133 < 30 ∨ (72 ≤ 133 ∧ 133 < 135) by omega), pw_5 hn, kev_pw]
  refine hq _ ⟨?_, ?_, fun k i hk => ?_⟩
  · rw [mr_s]
    have : cBec t r 5 = t := by simp [cBec, upd]
    rw [this]
  · rw [mr_k _ _ (by decide), mr_s, mr_k _ _ (by decide), h.2.1]
    funext j
    simp only [upd]
    by_cases hj : j = n
    · simp [hj, cBec, upd]
    · simp [hj]
  · rw [mr_n _ _ (fun z => hk ⟨by omega, z.2⟩), mr_n _ _ (fun z => hk ⟨by omega, z.2⟩), mr_n _ _ (fun z => hk ⟨by omega, z.2⟩)]
    exact h.2.2 k i hk
def lgE (L : Nat → Int32) (c : Int32) (n : Nat) (r r' : Nat → Int32) : Nat → Int32 := if r' 5 = r 5 then L else kev L c (nI n) (r' 5)
theorem cBec_5 (t : Int32) (r : Nat → Int32) : cBec t r 5 = t := by simp [cBec, upd]
/-- .. behind a become, the log as lgE has it -/
theorem E_bec {μ : Mem} {n sz : Nat} {r0 r L : Nat → Int32} {M : Mem} {t : Int32} {q : Mem → Prop} (hn : n < 6) (h : isE μ n r L M) (hs : sz ≤ 40) (hL : L 135 = nI sz) (hne : ¬ t = r0 5) (hq : ∀ M', isE μ n (cBec t r) (lgE L (μ 20 0 133) n r0 (cBec t r)) M' → q M') : wp_X6_become (nI n) t M q := by
  refine E_become hn h hs hL (fun M' h' => hq M' ?_)
  unfold lgE
  rw [cBec_5, if_neg hne]
  exact h'
theorem lgE_same {L : Nat → Int32} {c : Int32} {n : Nat} {r r' : Nat → Int32} (h : r' 5 = r 5) : lgE L c n r r' = L := by unfold lgE; rw [if_pos h]
theorem E_lead {μ : Mem} {n sz : Nat} {r L : Nat → Int32} {M : Mem} {q : Mem → Prop} (hn : n < 6) (h : isE μ n r L M) (hs : sz ≤ 40) (hL : L 135 = nI sz) (h5 : r 5 = nI 2) (hq : ∀ M', isE μ n (cLead (μ 29 0 n) r) (lgE L (μ 20 0 133) n r (cLead (μ 29 0 n) r)) M' → q M') : wp_X6_lead (nI n) M q := by
  unfold wp_X6_lead wp_X6_lead_b31
  have v1 : vp_in (nI (36 + n)) 256 := vi (by omega) (by omega)
  have v2 : vp_in (nI n) 6 := vi hn (by omega)
  have e7 : M 20 0 (36 + n) = r 7 := by rw [h.1, pw_7 hn]
  have e29 : M 29 0 = μ 29 0 := isE_k h (by omega) 0
  simp only [forall_eq, nI_add, v1, v2, true_and, cl (show 36 + n < 100000 by omega), cl (show n < 100000 by omega), e7, e29]
  have b31 : ¬ (¬ r 7 < nI 3 ∧ ¬ μ 29 0 n ≤ 0) → (r 7 < nI 7 → q M) ∧ (¬ r 7 < nI 7 → wp_X6_become (nI n) 1 M fun m_2 => q m_2) := by
    intro c
    unfold cLead at hq
    rw [if_neg c] at hq
    refine ⟨fun c3 => ?_, fun c3 => ?_⟩
    · rw [if_pos c3] at hq
      exact hq M (by rw [lgE_same rfl]; exact h)
    · rw [if_neg c3] at hq
      exact E_bec hn h hs hL (by rw [h5]; decide) hq
  refine ⟨fun c => b31 (fun z => z.1 c), fun c => ⟨fun c2 => b31 (fun z => z.2 c2), fun c2 => ?_⟩⟩
  unfold cLead at hq
  rw [if_pos ⟨c, c2⟩] at hq
  exact E_bec hn h hs hL (by rw [h5]; decide) hq
theorem E_join {μ : Mem} {n sz : Nat} {r L : Nat → Int32} {M : Mem} {q : Mem → Prop} (hn : n < 6) (h : isE μ n r L M) (hs : sz ≤ 40) (hL : L 135 = nI sz) (h5 : r 5 = nI 3) (hq : ∀ M', isE μ n (cJoin (μ 29 0 n) r) (lgE L (μ 20 0 133) n r (cJoin (μ 29 0 n) r)) M' → q M') : wp_X6_join (nI n) M q := by
  unfold wp_X6_join
  have v1 : vp_in (nI (36 + n)) 256 := vi (by omega) (by omega)
  have v2 : vp_in (nI n) 6 := vi hn (by omega)
  have e7 : M 20 0 (36 + n) = r 7 := by rw [h.1, pw_7 hn]
  have e29 : M 29 0 = μ 29 0 := isE_k h (by omega) 0
  simp only [forall_eq, nI_add, v1, v2, true_and, cl (show 36 + n < 100000 by omega), cl (show n < 100000 by omega), e7, e29]
  unfold cJoin at hq
  refine ⟨fun c => ?_, fun c => ?_⟩
  · rw [if_neg c] at hq
    refine ⟨fun c3 => ?_, fun c3 => ?_⟩
    · rw [if_pos c3] at hq
      exact hq M (by rw [lgE_same rfl]; exact h)
    · rw [if_neg c3] at hq
      exact E_bec hn h hs hL (by rw [h5]; decide) hq
  · rw [if_pos c] at hq
    exact E_bec hn h hs hL (by rw [h5]; decide) hq
theorem w6_otherSign {n : Nat} (hn : n < 6) (μ : Mem) (q : Int32 → Mem → Prop) (h : q (b2i (anyN (fun o => decide (¬ o = n) && decide (¬ μ 25 0 o = 0)) 6)) μ) : wp_X6_otherSign (nI n) μ q := by
  generalize hp : (fun o => decide (¬ o = n) && decide (¬ μ 25 0 o = 0)) = p at h
  have hp' : ∀ o, p o = (decide (¬ o = n) && decide (¬ μ 25 0 o = 0)) := fun o => (congrFun hp o).symm
  refine ⟨7, loop6c (fun f m => wp_X6_otherSign_l4 (nI n) q f (b2i (anyN p m)) (nI m) μ) ?_ ?_⟩
  · unfold wp_X6_otherSign_l4
    exact ⟨fun _ => ⟨b2i_nz _, h⟩, fun c => absurd le66 c⟩
  · intro k m hm ih
    unfold wp_X6_otherSign_l4 wp_X6_otherSign_b28 wp_X6_otherSign_b32 wp_X6_otherSign_b33
    refine ⟨fun c => absurd c (nI_ge hm (by omega)), fun _ => ?_⟩
    simp only [forall_eq, cl (show m < 100000 by omega), nI_1, vi hm (show 6 < 100000 by omega), true_and, nI_ne (show m < 100000 by omega) (show n < 100000 by omega), b2i_0]
    simp only [anyN] at ih
    refine ⟨fun c => ?_, fun c => ⟨fun c2 => ?_, fun c2 => ⟨fun c3 => ?_, fun c3 => ?_⟩⟩⟩
    · rw [eq_true_of_ne_false c, Bool.true_or] at ih
      exact ih
    · rw [c, hp' m] at ih
      simp only [c2, not_true_eq_false, decide_false, Bool.false_and, Bool.or_false] at ih
      rw [← c2] at ih ⊢
      exact ih
    · rw [c, hp' m] at ih
      simp only [c3, not_true_eq_false, decide_false, Bool.and_false, Bool.or_false] at ih
      exact ih
    · have : p m = true := by rw [hp' m]; simp [c2, c3]
      rw [c, this] at ih
      exact ih
theorem cBec_cFol (t gs gp : Int32) (r : Nat → Int32) : upd (upd (cBec t r) 11 (r 11 + gs)) 12 (gp - r 3) = cBec t (cFol gs gp r) := by
  funext f
  unfold cBec cFol
  simp only [upd]
  by_cases h12 : f = 12
  · subst h12; simp
  · by_cases h11 : f = 11
    · subst h11; simp
    · simp [h12, h11]
/-- follow, the guide g being one of the six -/
theorem E_follow {μ : Mem} {n sz g : Nat} {r0 r L : Nat → Int32} {M : Mem} {t : Int32} {q : Mem → Prop} (hn : n < 6) (h : isE μ n r L M) (hs : sz ≤ 40) (hL : L 135 = nI sz) (hne : ¬ t = r0 5) (hg : g < 6) (hgd : μ 30 0 n = nI g) (h3 : r 3 = μ 20 0 (18 + n)) (hq : ∀ M', isE μ n (cBec t (cFol (μ 31 0 (6 * n + g)) (μ 20 0 (18 + g) + μ 32 0 g) r)) (lgE L (μ 20 0 133) n r0 (cBec t (cFol (μ 31 0 (6 * n + g)) (μ 20 0 (18 + g) + μ 32 0 g) r))) M' → q M') : wp_X6_follow (nI n) t M q := by
  unfold wp_X6_follow
  refine E_bec (r0 := r0) hn h hs hL hne (fun M1 h1 => ?_)
  have v0 : vp_in (nI n) 6 := vi hn (by omega)
  have v1 : vp_in (nI (60 + n)) 256 := vi (by omega) (by omega)
  have v2 : vp_in (nI (6 * n + g)) 36 := vi (by omega) (by omega)
  have v3 : vp_in (nI (18 + g)) 256 := vi (by omega) (by omega)
  have v4 : vp_in (nI g) 6 := vi hg (by omega)
  have v5 : vp_in (nI (18 + n)) 256 := vi (by omega) (by omega)
  have v6 : vp_in (nI (66 + n)) 256 := vi (by omega) (by omega)
  have e30 : M1 30 0 n = nI g := by rw [isE_k h1 (by omega) 0]; exact hgd
  have e31 : M1 31 0 = μ 31 0 := isE_k h1 (by omega) 0
  have e32 : M1 32 0 = μ 32 0 := isE_k h1 (by omega) 0
  have e11 : M1 20 0 (60 + n) = r 11 := by rw [h1.1, pw_11 hn, cBec_k (by omega)]
  have h2 := isE_upd (p := 60) (f := 11) (x := r 11 + μ 31 0 (6 * n + g)) h1 hn (by omega) (by omega) (by omega) rfl
  have e18 : ∀ o, o < 6 → (mr M1 20 0 (upd (M1 20 0) (60 + n) (r 11 + μ 31 0 (6 * n + g)))) 20 0 (18 + o) = μ 20 0 (18 + o) := fun o ho => by
    rw [h2.1, pw_lo (by omega)]
  simp only [forall_eq, nI_add, pk_mul, cl (show n < 100000 by omega), v0, true_and, e30, cl (show 60 + n < 100000 by omega), v1, v2, cl (show 6 * n + g < 100000 by omega), v3, cl (show 18 + g < 100000 by omega), v4, cl (show g < 100000 by omega), v5, cl (show 18 + n < 100000 by omega), v6, cl (show 66 + n < 100000 by omega), ms_mr, e31, e11, e18 g hg, e18 n hn]
  rw [show mr M1 20 0 (upd (M1 20 0) (60 + n) (r 11 + μ 31 0 (6 * n + g))) 32 0 = μ 32 0 by rw [mr_k _ _ (by decide), e32], ← h3]
  refine hq _ ?_
  have h4 := isE_upd (p := 66) (f := 12) (x := μ 20 0 (18 + g) + μ 32 0 g - r 3) h2 hn (by omega) (by omega) (by omega) rfl
  rw [cBec_cFol] at h4
  have e5 : lgE L (μ 20 0 133) n r0 (cBec t r) = lgE L (μ 20 0 133) n r0 (cBec t (cFol (μ 31 0 (6 * n + g)) (μ 20 0 (18 + g) + μ 32 0 g) r)) := by
    unfold lgE
    rw [cBec_5, cBec_5]
  rw [e5] at h4
  exact h4
