/-! THE REFERENCE: one node's numbers in its row T, taken out and put back -/
def mw (T : Nat → Int32) (c : Int32) (n : Nat) : Nat → Int32 := fun f => if f < 6 then T (6 * f + n) else if f = 6 then c else T (6 * (f - 1) + n)
def pw (T : Nat → Int32) (n : Nat) (r L : Nat → Int32) : Nat → Int32 := fun j => if 135 ≤ j then L j else if 30 ≤ j ∧ j < 72 ∧ j % 6 = n then r (if j < 36 then 5 else j / 6 + 1) else T j
theorem pw_lo {T r L : Nat → Int32} {n j : Nat} (h : j < 30 ∨ (72 ≤ j ∧ j < 135)) : pw T n r L j = T j := by
  unfold pw
  rw [if_neg (by omega), if_neg (by omega)]
theorem pw_L {T r L : Nat → Int32} {n j : Nat} (h : 135 ≤ j) : pw T n r L j = L j := by
  unfold pw
  rw [if_pos h]
theorem pw_f {T r L : Nat → Int32} {n f : Nat} (hn : n < 6) (h : 6 ≤ f) (h2 : f < 12) : pw T n r L (6 * f + n) = r (f + 1) := by
  unfold pw
  rw [if_neg (by omega), if_pos ⟨by omega, by omega, by omega⟩, if_neg (by omega)]
  congr 1
  omega
theorem pw_5 {T r L : Nat → Int32} {n : Nat} (hn : n < 6) : pw T n r L (30 + n) = r 5 := by
  unfold pw
  rw [if_neg (by omega), if_pos ⟨by omega, by omega, by omega⟩, if_pos (by omega)]
theorem pw_7 {T r L : Nat → Int32} {n : Nat} (hn : n < 6) : pw T n r L (36 + n) = r 7 := pw_f (f := 6) hn (by omega) (by omega)
theorem pw_8 {T r L : Nat → Int32} {n : Nat} (hn : n < 6) : pw T n r L (42 + n) = r 8 := pw_f (f := 7) hn (by omega) (by omega)
theorem pw_9 {T r L : Nat → Int32} {n : Nat} (hn : n < 6) : pw T n r L (48 + n) = r 9 := pw_f (f := 8) hn (by omega) (by omega)
theorem pw_10 {T r L : Nat → Int32} {n : Nat} (hn : n < 6) : pw T n r L (54 + n) = r 10 := pw_f (f := 9) hn (by omega) (by omega)
theorem pw_11 {T r L : Nat → Int32} {n : Nat} (hn : n < 6) : pw T n r L (60 + n) = r 11 := pw_f (f := 10) hn (by omega) (by omega)
theorem pw_12 {T r L : Nat → Int32} {n : Nat} (hn : n < 6) : pw T n r L (66 + n) = r 12 := pw_f (f := 11) hn (by omega) (by omega)
theorem pw_o {T r L : Nat → Int32} {n o f : Nat} (hn : n < 6) (ho : o < 6) (hne : o ≠ n) (hf : 6 * f + o < 135) : pw T n r L (6 * f + o) = T (6 * f + o) := by
  unfold pw
  rw [if_neg (by omega), if_neg (by omega)]
theorem upd_pw {T r L : Nat → Int32} {n p f : Nat} {x : Int32} (hn : n < 6) (hp : 30 ≤ p) (hp2 : p + n < 72) (hpm : p % 6 = 0) (hf : f = if p < 36 then 5 else p / 6 + 1) : upd (pw T n r L) (p + n) x = pw T n (upd r f x) L := by
  funext j
  unfold pw
  simp only [upd]
  by_cases h : j = p + n
  · subst h
    rw [if_pos rfl, if_neg (by omega), if_pos ⟨by omega, by omega, by omega⟩, if_pos]
    by_cases h36 : p < 36
    · rw [if_pos h36] at hf
      rw [if_pos (by omega), hf]
    · rw [if_neg h36] at hf
      rw [if_neg (by omega), hf]
      omega
  · rw [if_neg h]
    by_cases h1 : 135 ≤ j
    · rw [if_pos h1, if_pos h1]
    · rw [if_neg h1, if_neg h1]
      by_cases h2 : 30 ≤ j ∧ j < 72 ∧ j % 6 = n
      · rw [if_pos h2, if_pos h2]
        have hne : ¬ (if j < 36 then 5 else j / 6 + 1) = f := by
          rw [hf]
          split <;> split <;> omega
        rw [if_neg hne]
      · rw [if_neg h2, if_neg h2]
theorem kev_lo {T : Nat → Int32} {c n v : Int32} {j : Nat} (h : j < 135) : kev T c n v j = T j := by
  unfold kev
  split
  · rw [if_neg (by omega), if_neg (by omega), if_neg (by omega), if_neg (by omega)]
  · rw [if_neg (by omega), if_neg (by omega), if_neg (by omega), if_neg (by omega)]
theorem kev_pw {T r L : Nat → Int32} {m : Nat} {c n v : Int32} : kev (pw T m r L) c n v = pw T m r (kev L c n v) := by
  funext j
  by_cases h : 135 ≤ j
  · rw [pw_L h]
    unfold kev
    rw [pw_L (show 135 ≤ 135 by omega), pw_L (show 135 ≤ j + 3 by omega), pw_L h]
  · rw [kev_lo (by omega)]
    unfold pw
    rw [if_neg h, if_neg h]
theorem pw_id {T : Nat → Int32} {c : Int32} {n : Nat} (hn : n < 6) : pw T n (mw T c n) T = T := by
  funext j
  unfold pw
  by_cases h : 135 ≤ j
  · rw [if_pos h]
  · rw [if_neg h]
    by_cases h2 : 30 ≤ j ∧ j < 72 ∧ j % 6 = n
    · rw [if_pos h2]
      unfold mw
      by_cases h3 : j < 36
      · rw [if_pos h3, if_pos (by omega)]
        congr 1; omega
      · rw [if_neg h3, if_neg (by omega), if_neg (by omega)]
        congr 1; omega
    · rw [if_neg h2]
theorem pw_pw {T r L r' L' : Nat → Int32} {n : Nat} : pw (pw T n r L) n r' L' = pw T n r' L' := by
  funext j
  unfold pw
  by_cases h : 135 ≤ j
  · rw [if_pos h, if_pos h]
  · rw [if_neg h, if_neg h, if_neg h]
    by_cases h2 : 30 ≤ j ∧ j < 72 ∧ j % 6 = n
    · rw [if_pos h2, if_pos h2]
    · rw [if_neg h2, if_neg h2, if_neg h2]
theorem w6_is {n : Nat} (hn : n < 6) (t : Int32) (μ : Mem) (q : Int32 → Mem → Prop) : wp_X6_is (nI n) t μ q = q (b2i (decide (μ 20 0 (30 + n) = t))) μ := by
  unfold wp_X6_is
  have h : vp_in (nI (30 + n)) 256 := vi (by omega) (by omega)
  simp only [forall_eq, nI_add, h, true_and, cl (show 30 + n < 100000 by omega)]
  by_cases c : μ 20 0 (30 + n) = t <;> simp [c, b2i]
theorem w6_isOut {n : Nat} (hn : n < 6) (μ : Mem) (q : Int32 → Mem → Prop) : wp_X6_isOut (nI n) μ q = q (b2i (!awB (μ 20 0 (30 + n)))) μ := by
  unfold wp_X6_isOut wp_X6_isOut_b19 awB
  simp only [w6_is hn, b2i_0]
  by_cases c : μ 20 0 (30 + n) = 0 <;> by_cases c2 : μ 20 0 (30 + n) = nI 6 <;> simp [c, c2, b2i]
theorem w6_isFirst {n : Nat} (hn : n < 6) (μ : Mem) (q : Int32 → Mem → Prop) : wp_X6_isFirst (nI n) μ q = q (b2i (fsB (μ 20 0 (30 + n)) (μ 20 0 (36 + n)))) μ := by
  unfold wp_X6_isFirst fsB
  have h : vp_in (nI (36 + n)) 256 := vi (by omega) (by omega)
  simp only [w6_is hn, b2i_0, forall_eq, nI_add, h, true_and, cl (show 36 + n < 100000 by omega)]
  by_cases c : μ 20 0 (30 + n) = nI 2 <;> by_cases c2 : μ 20 0 (36 + n) = 1 <;> simp [c, c2, b2i]
theorem w6_begin {n : Nat} (hn : n < 6) (t : Int32) (μ : Mem) (q : Mem → Prop) : wp_X6_begin (nI n) t μ q = q (mr μ 20 0 (upd (upd (upd (upd (upd (μ 20 0) (30 + n) t) (36 + n) 0) (42 + n) 0) (48 + n) 0) (54 + n) 0)) := by
  unfold wp_X6_begin
  have h1 : vp_in (nI (30 + n)) 256 := vi (by omega) (by omega)
  have h2 : vp_in (nI (36 + n)) 256 := vi (by omega) (by omega)
  have h3 : vp_in (nI (42 + n)) 256 := vi (by omega) (by omega)
  have h4 : vp_in (nI (48 + n)) 256 := vi (by omega) (by omega)
  have h5 : vp_in (nI (54 + n)) 256 := vi (by omega) (by omega)
  simp only [forall_eq, nI_add, h1, h2, h3, h4, h5, true_and, cl (show 30 + n < 100000 by omega), cl (show 36 + n < 100000 by omega), cl (show 42 + n < 100000 by omega), cl (show 48 + n < 100000 by omega), cl (show 54 + n < 100000 by omega), ms_mr, mr_s, mr_mr]
theorem w6_ev59 {n sz : Nat} (hn : n < 6) {μ : Mem} {q : Mem → Prop} (hs : sz < 40) (hT : μ 20 0 135 = nI sz) (h : q (mr μ 20 0 (upd (upd (upd (upd (μ 20 0) (136 + 3 * sz) (μ 20 0 133)) (137 + 3 * sz) (nI n)) (138 + 3 * sz) (μ 20 0 (30 + n))) 135 (nI (sz + 1))))) : wp_X6_keepEvent_b59 (nI n) q μ := by
  unfold wp_X6_keepEvent_b59
  have h1 : vp_in (nI 135) 256 := vi (by omega) (by omega)
  have h2 : vp_in (nI 133) 256 := vi (by omega) (by omega)
  have h3 : vp_in (nI (136 + 3 * sz)) 256 := vi (by omega) (by omega)
  have h4 : vp_in (nI (136 + 3 * sz + 1)) 256 := vi (by omega) (by omega)
  have h5 : vp_in (nI (136 + 3 * sz + 2)) 256 := vi (by omega) (by omega)
  have h6 : vp_in (nI (30 + n)) 256 := vi (by omega) (by omega)
  simp only [forall_eq, nI_add, nI_1, pk_mul, h1, h2, h3, h4, h5, h6, true_and, cl (show 135 < 100000 by omega), cl (show 133 < 100000 by omega), cl (show 136 + 3 * sz < 100000 by omega), cl (show 136 + 3 * sz + 1 < 100000 by omega), cl (show 136 + 3 * sz + 2 < 100000 by omega), cl (show 30 + n < 100000 by omega), ms_mr, mr_s, mr_mr, hT]
  rw [upd_n _ _ (show 30 + n ≠ 136 + 3 * sz + 1 by omega), upd_n _ _ (show 30 + n ≠ 136 + 3 * sz by omega), upd_n _ _ (show 135 ≠ 136 + 3 * sz + 2 by omega), upd_n _ _ (show 135 ≠ 136 + 3 * sz + 1 by omega), upd_n _ _ (show 135 ≠ 136 + 3 * sz by omega), hT, nI_1, show 136 + 3 * sz + 1 = 137 + 3 * sz by omega, show 136 + 3 * sz + 2 = 138 + 3 * sz by omega]
  exact h
theorem w6_keepEvent {n sz : Nat} (hn : n < 6) {μ : Mem} {q : Mem → Prop} (hs : sz ≤ 40) (hT : μ 20 0 135 = nI sz) (h : q (mr μ 20 0 (kev (μ 20 0) (μ 20 0 133) (nI n) (μ 20 0 (30 + n))))) : wp_X6_keepEvent (nI n) μ q := by
  unfold wp_X6_keepEvent
  have h1 : vp_in (nI 135) 256 := vi (by omega) (by omega)
  simp only [forall_eq, h1, true_and, cl (show 135 < 100000 by omega)]
  refine ⟨fun c => ?_, fun c => ?_⟩
  · have hlt : sz < 40 := by
      rcases Nat.lt_or_ge sz 40 with z | z
      · exact z
      · have : sz = 40 := by omega
        rw [this] at hT
        exact absurd hT c
    refine w6_ev59 hn hlt hT ?_
    have e : kev (μ 20 0) (μ 20 0 133) (nI n) (μ 20 0 (30 + n)) = upd (upd (upd (upd (μ 20 0) (136 + 3 * sz) (μ 20 0 133)) (137 + 3 * sz) (nI n)) (138 + 3 * sz) (μ 20 0 (30 + n))) 135 (nI (sz + 1)) := by
      funext j
      unfold kev
      rw [if_neg c]
      simp only [upd]
      rw [hT, cl (by omega), nI_1]
      by_cases a : j = 135
      · subst a
        rw [if_pos rfl, if_neg (by omega), if_neg (by omega), if_neg (by omega), if_pos rfl]
      · rw [if_neg a, if_neg a]
        by_cases a1 : j = 136 + 3 * sz
        · rw [if_pos a1, if_neg (by omega), if_neg (by omega), if_pos a1]
        · rw [if_neg a1, if_neg a1]
          by_cases a2 : j = 137 + 3 * sz
          · rw [if_pos a2, if_neg (by omega), if_pos a2]
          · rw [if_neg a2, if_neg a2]
    rw [← e]
    exact h
  · refine ⟨118, loopN 117 (fun f m μ' => wp_X6_keepEvent_l15 (nI n) q f (nI m) μ') (fun m μ' => μ' = mr μ 20 0 (fun j => if 136 ≤ j ∧ j < 136 + m then μ 20 0 (j + 3) else μ 20 0 j)) ?_ ?_ 117 0 μ (by omega) ?_⟩
    · intro μ1 hm1
      unfold wp_X6_keepEvent_l15
      refine ⟨fun _ => ?_, fun cc => absurd (nI_le (Nat.le_refl 117) (by omega)) cc⟩
      have e135 : μ1 20 0 135 = nI 40 := by
        rw [hm1, mr_s]
        show (if 136 ≤ 135 ∧ 135 < 136 + 117 then _ else _) = _
        rw [if_neg (by omega)]
        exact c
      simp only [forall_eq, h1, true_and, cl (show 135 < 100000 by omega), e135, nI_pred 39, ms_mr]
      refine w6_ev59 (sz := 39) hn (by omega) (by rw [mr_s, upd_s]) ?_
      rw [mr_mr, mr_s, hm1, mr_mr, mr_s]
      have e : kev (μ 20 0) (μ 20 0 133) (nI n) (μ 20 0 (30 + n)) = upd (upd (upd (upd (upd (fun j => if 136 ≤ j ∧ j < 136 + 117 then μ 20 0 (j + 3) else μ 20 0 j) 135 (nI 39)) (136 + 3 * 39) (upd (fun j => if 136 ≤ j ∧ j < 136 + 117 then μ 20 0 (j + 3) else μ 20 0 j) 135 (nI 39) 133)) (137 + 3 * 39) (nI n)) (138 + 3 * 39) (upd (fun j => if 136 ≤ j ∧ j < 136 + 117 then μ 20 0 (j + 3) else μ 20 0 j) 135 (nI 39) (30 + n))) 135 (nI (39 + 1)) := by
        funext j
        unfold kev
        rw [if_pos c]
        simp only [upd]
        rw [if_neg (show ¬ (133 : Nat) = 135 by omega), if_neg (show ¬ (136 ≤ 133 ∧ 133 < 136 + 117) by omega), if_neg (show ¬ 30 + n = 135 by omega), if_neg (show ¬ (136 ≤ 30 + n ∧ 30 + n < 136 + 117) by omega)]
        by_cases a : j = 135
        · subst a
          rw [if_neg (by omega), if_neg (by omega), if_neg (by omega), if_neg (by omega), if_pos rfl]
          exact c
        · rw [if_neg a]
          by_cases a1 : j = 255
          · rw [if_neg (by omega), if_neg (by omega), if_neg (by omega), if_pos a1, if_pos (by omega)]
          · by_cases a2 : j = 254
            · rw [if_neg (by omega), if_neg (by omega), if_pos a2, if_neg (by omega), if_pos (by omega)]
            · by_cases a3 : j = 253
              · rw [if_neg (by omega), if_pos a3, if_neg (by omega), if_neg (by omega), if_pos (by omega)]
              · rw [if_neg (show ¬ j = 138 + 3 * 39 by omega), if_neg (show ¬ j = 137 + 3 * 39 by omega), if_neg (show ¬ j = 136 + 3 * 39 by omega), if_neg a, if_neg a3, if_neg a2, if_neg a1]
      rw [← e]
      exact h
    · intro k m μ1 hm hm1 ih
      unfold wp_X6_keepEvent_l15
      refine ⟨fun cc => absurd cc (nI_ge hm (by omega)), fun _ => ?_⟩
      have g1 : vp_in (nI (139 + m)) 256 := vi (by omega) (by omega)
      have g2 : vp_in (nI (136 + m)) 256 := vi (by omega) (by omega)
      simp only [forall_eq, nI_add, nI_1, g1, g2, true_and, cl (show 139 + m < 100000 by omega), cl (show 136 + m < 100000 by omega), ms_mr]
      refine ih _ ?_
      rw [hm1, mr_mr, mr_s]
      congr 1
      funext j
      simp only [upd]
      by_cases a : j = 136 + m
      · subst a
        rw [if_pos rfl, if_neg (by omega), if_pos (by omega), show 136 + m + 3 = 139 + m by omega]
      · rw [if_neg a]
        by_cases a2 : 136 ≤ j ∧ j < 136 + m
        · rw [if_pos a2, if_pos (by omega)]
        · rw [if_neg a2, if_neg (by omega)]
    · have : (fun j => if 136 ≤ j ∧ j < 136 + 0 then μ 20 0 (j + 3) else μ 20 0 j) = μ 20 0 := by
        funext j
        rw [if_neg (by omega)]
      rw [this, mr_same]
