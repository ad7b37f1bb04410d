def nodesUp (b m : Nat) (F : Nat → (Nat → Int32) → (Nat → Int32)) (μ : Mem) : Mem := fun k i => if k = 3 ∧ 6 * b ≤ i ∧ i < 6 * b + m then F (i - 6 * b) (μ 3 i) else μ k i
theorem nu_0 (b : Nat) (F : Nat → (Nat → Int32) → (Nat → Int32)) (μ : Mem) : nodesUp b 0 F μ = μ := by
  funext k i
  simp only [nodesUp]
  rw [if_neg (by omega)]
theorem nu_s (b m : Nat) (F : Nat → (Nat → Int32) → (Nat → Int32)) (μ : Mem) : mr (nodesUp b m F μ) 3 (6 * b + m) (F m (μ 3 (6 * b + m))) = nodesUp b (m + 1) F μ := by
  funext k i
  simp only [mr, nodesUp]
  by_cases h : k = 3 ∧ i = 6 * b + m
  · obtain ⟨rfl, rfl⟩ := h
    rw [if_pos ⟨rfl, rfl⟩, if_pos ⟨rfl, by omega, by omega⟩, show 6 * b + m - 6 * b = m by omega]
  · rw [if_neg h]
    by_cases h2 : k = 3 ∧ 6 * b ≤ i ∧ i < 6 * b + m
    · rw [if_pos h2, if_pos ⟨h2.1, h2.2.1, by omega⟩]
    · rw [if_neg h2, if_neg (by omega)]
theorem nu_at (b m n : Nat) (F : Nat → (Nat → Int32) → (Nat → Int32)) (μ : Mem) : nodesUp b m F μ 3 (6 * b + n) = if n < m then F n (μ 3 (6 * b + n)) else μ 3 (6 * b + n) := by
  unfold nodesUp
  by_cases h : n < m
  · rw [if_pos ⟨rfl, by omega, by omega⟩, if_pos h, show 6 * b + n - 6 * b = n by omega]
  · rw [if_neg (by omega), if_neg h]
theorem nu_k (b m : Nat) (F : Nat → (Nat → Int32) → (Nat → Int32)) (μ : Mem) {k : Nat} (i : Nat) (h : k ≠ 3) : nodesUp b m F μ k i = μ k i := by
  simp only [nodesUp]
  rw [if_neg (fun z => h z.1)]
theorem nu_o (b m : Nat) (F : Nat → (Nat → Int32) → (Nat → Int32)) (μ : Mem) {k i : Nat} (h : ¬ (k = 3 ∧ 6 * b ≤ i ∧ i < 6 * b + m)) : nodesUp b m F μ k i = μ k i := by
  simp only [nodesUp]
  rw [if_neg h]
theorem nu_nu (b : Nat) (F G : Nat → (Nat → Int32) → (Nat → Int32)) (μ : Mem) : nodesUp b 6 G (nodesUp b 6 F μ) = nodesUp b 6 (fun n r => G n (F n r)) μ := by
  funext k i
  simp only [nodesUp]
  by_cases h : k = 3 ∧ 6 * b ≤ i ∧ i < 6 * b + 6
  · rw [if_pos h, if_pos h, if_pos ⟨trivial, h.2⟩]
  · rw [if_neg h, if_neg h, if_neg h]
theorem nu_congr {b : Nat} {F G : Nat → (Nat → Int32) → (Nat → Int32)} {μ : Mem} (h : ∀ n, n < 6 → F n (μ 3 (6 * b + n)) = G n (μ 3 (6 * b + n))) : nodesUp b 6 F μ = nodesUp b 6 G μ := by
  funext k i
  simp only [nodesUp]
  by_cases hc : k = 3 ∧ 6 * b ≤ i ∧ i < 6 * b + 6
  · rw [if_pos hc, if_pos hc]
    have := h (i - 6 * b) (by omega)
    rw [show 6 * b + (i - 6 * b) = i by omega] at this
    exact this
  · rw [if_neg hc, if_neg hc]
theorem nu_mr (b m j : Nat) (F : Nat → (Nat → Int32) → (Nat → Int32)) (μ : Mem) (r : Nat → Int32) {k : Nat} (hk : k ≠ 3) : nodesUp b m F (mr μ k j r) = mr (nodesUp b m F μ) k j r := by
  funext a i
  by_cases h : a = k ∧ i = j
  · obtain ⟨rfl, rfl⟩ := h
    rw [nu_k _ _ _ _ _ hk, mr_s, mr_s]
  · rw [mr_n _ _ h]
    simp only [nodesUp]
    rw [mr_k μ r (Ne.symm hk), mr_n μ r h]
set_option maxRecDepth 100000 in
theorem bits6_diff : ∀ (a b c d e f a' b' c' d' e' f' : Bool), bits6 a b c d e f &&& (bits6 a' b' c' d' e' f' ^^^ (-1)) = bits6 (a && !a') (b && !b') (c && !c') (d && !d') (e && !e') (f && !f') := by decide +kernel
theorem bits_diff (p g : Nat → Bool) : bitsN p 6 &&& (bitsN g 6 ^^^ (-1)) = bitsN (fun n => p n && !g n) 6 := by
  rw [bits6_eq p, bits6_eq g, bits6_diff, bits6_eq]
def FA (fl sn : Nat → Bool) : Nat → (Nat → Int32) → (Nat → Int32) := fun n r => if sn n then upd (upd r 6 0) 13 (r 13 + 1) else if fl n then cBec 1 (upd r 6 0) else upd r 6 0
theorem w_choose {b : Nat} {μ : Mem} {q : Mem → Prop} {rd gw : Nat → Bool} (hrd : ∀ n, n < 6 → rdB (μ 3 (6 * b + n) 5) (μ 3 (6 * b + n) 7) = rd n)
    (hgw : ∀ n, n < 6 → (rd n && (fsB (μ 3 (6 * b + n) 5) (μ 3 (6 * b + n) 7) && anyN (fun o => decide (¬ o = n) && (rd o && (!fsB (μ 3 (6 * b + o) 5) (μ 3 (6 * b + o) 7) || decide (μ 3 (6 * b + o) 1 < μ 3 (6 * b + n) 1)))) 6)) = gw n)
    (hq : q (mr (nodesUp b 6 (FA gw (fun n => rd n && !gw n)) μ) 0 b (upd (μ 0 b) 5 (bitsN (fun n => rd n && !gw n) 6)))) : wp_X0_chooseSenders b μ q := by
  refine ⟨7, loop6 (fun f m μ' => wp_X0_chooseSenders_l4 b q f (bitsN rd m) (nI m) μ') (fun m μ' => μ' = nodesUp b m (fun _ r => upd r 6 0) μ) ?_ ?_ _ (nu_0 _ _ _).symm⟩
  · intro μ1 h1
    unfold wp_X0_chooseSenders_l4
    refine ⟨fun _ => ?_, fun c => absurd le66 c⟩
    have row : ∀ n, n < 6 → μ1 3 (6 * b + n) = upd (μ 3 (6 * b + n)) 6 0 := fun n hn => by rw [h1, nu_at, if_pos hn]
    have r5 : ∀ n, n < 6 → μ1 3 (6 * b + n) 5 = μ 3 (6 * b + n) 5 := fun n hn => by rw [row n hn, upd_n _ _ (by decide)]
    have r7 : ∀ n, n < 6 → μ1 3 (6 * b + n) 7 = μ 3 (6 * b + n) 7 := fun n hn => by rw [row n hn, upd_n _ _ (by decide)]
    have r1 : ∀ n, n < 6 → μ1 3 (6 * b + n) 1 = μ 3 (6 * b + n) 1 := fun n hn => by rw [row n hn, upd_n _ _ (by decide)]
    refine w_thatGiveWay b _ _ _ gw (fun n hn => ?_) ?_
    · rw [← hgw n hn, inb_bits rd hn, r5 n hn, r7 n hn]
      congr 2
      refine anyN_congr 6 (fun o ho => ?_)
      simp only [inb_bits rd ho, r5 o ho, r7 o ho, r1 o ho, r1 n hn]
    · simp only [forall_eq, ms_mr, bits_diff]
      refine ⟨7, loop6 (fun f m μ' => wp_X0_chooseSenders_l63 b q f (bitsN rd 6) (nI m) μ') (fun m μ' => μ' = nodesUp b m (fun n r => if (rd n && !gw n) then upd r 13 (r 13 + 1) else if rd n then cBec 1 r else r) (mr μ1 0 b (upd (μ1 0 b) 5 (bitsN (fun n => rd n && !gw n) 6)))) ?_ ?_ _ (nu_0 _ _ _).symm⟩
      · intro μ2 h2
        unfold wp_X0_chooseSenders_l63
        refine ⟨fun _ => ?_, fun c => absurd le66 c⟩
        rw [h2, nu_mr _ _ _ _ _ _ (by decide), h1, nu_nu, nu_k _ _ _ _ _ (show 0 ≠ 3 by decide)]
        refine (congrArg (fun z => q (mr z 0 b (upd (μ 0 b) 5 (bitsN (fun n => rd n && !gw n) 6)))) (nu_congr (fun n hn => ?_))).mp hq
        have hg := hgw n hn
        simp only [FA]
        rw [upd_n _ _ (show 13 ≠ 6 by decide)]
        rcases Bool.eq_false_or_eq_true (rd n) with c1 | c1
        · rcases Bool.eq_false_or_eq_true (gw n) with c2 | c2 <;> simp [c1, c2]
        · rw [c1, Bool.false_and] at hg
          simp [c1, ← hg]
      · intro k m μ2 hm h2 ih
        unfold wp_X0_chooseSenders_l63 wp_X0_chooseSenders_b119
        refine ⟨fun c => absurd c (nI_ge hm (by omega)), fun _ => ?_⟩
        have e0 : μ2 0 b 5 = bitsN (fun n => rd n && !gw n) 6 := by
          rw [h2, nu_k _ _ _ _ _ (show 0 ≠ 3 by decide), mr_s, upd_s]
        have e3 : μ2 3 (6 * b + m) = mr μ1 0 b (upd (μ1 0 b) 5 (bitsN (fun n => rd n && !gw n) 6)) 3 (6 * b + m) := by
          rw [h2, nu_at, if_neg (Nat.lt_irrefl m)]
        simp only [forall_eq, e0, w_isIn, inb_bits _ hm, b2i_0, cl (show m < 100000 by omega), vi hm (show 6 < 100000 by omega), true_and, nI_1, w_become, ms_mr]
        have key := nu_s b m (fun n r => if (rd n && !gw n) then upd r 13 (r 13 + 1) else if rd n then cBec 1 r else r) (mr μ1 0 b (upd (μ1 0 b) 5 (bitsN (fun n => rd n && !gw n) 6)))
        rw [← h2, ← e3] at key
        refine ⟨fun c => ⟨fun c2 => ih _ ?_, fun c2 => ih _ ?_⟩, fun c => ih _ ?_⟩
        · rw [← key]
          simp [c2, mr_same]
        · rw [← key]
          rw [if_neg (by rw [c]; decide), if_pos (eq_true_of_ne_false c2)]
        · rw [← key]
          have c' := eq_true_of_ne_false c
          simp only [c', if_true]
  · intro k m μ1 hm h1 ih
    unfold wp_X0_chooseSenders_l4 wp_X0_chooseSenders_b42
    refine ⟨fun c => absurd c (nI_ge hm (by omega)), fun _ => ?_⟩
    have e3 : μ1 3 (6 * b + m) = μ 3 (6 * b + m) := by
      rw [h1, nu_at, if_neg (Nat.lt_irrefl m)]
    simp only [forall_eq, cl (show m < 100000 by omega), vi hm (show 6 < 100000 by omega), true_and, nz_0, nI_1, ms_mr, w_isReady, mr_s, b2i_0, w_bitOf, e3, upd_n (μ 3 (6 * b + m)) 0 (show 5 ≠ 6 by decide), upd_n (μ 3 (6 * b + m)) 0 (show 7 ≠ 6 by decide), hrd m hm]
    have key := nu_s b m (fun _ r => upd r 6 0) μ
    rw [← h1] at key
    have ih2 := ih _ key
    simp only [bitsN] at ih2
    cases c : rd m
    · simpa [c] using ih2
    · simpa [c] using ih2
def FD (r : Nat → Int32) : Nat → Int32 := if r 6 = 0 then upd (if awB (r 5) then upd r 11 (r 11 + (r 3 + r 12)) else r) 7 (r 7 + 1) else (if awB (r 5) then upd r 11 (r 11 + (r 3 + r 12)) else r)
theorem w_moveClocks (b : Nat) (μ : Mem) (q : Mem → Prop) (hq : q (nodesUp b 6 (fun _ r => FD r) μ)) : wp_X0_moveClocks b μ q := by
  refine ⟨7, loop6 (fun f m μ' => wp_X0_moveClocks_l2 b q f (nI m) μ') (fun m μ' => μ' = nodesUp b m (fun _ r => FD r) μ) ?_ ?_ _ (nu_0 _ _ _).symm⟩
  · intro μ1 h1
    unfold wp_X0_moveClocks_l2
    refine ⟨fun _ => ?_, fun c => absurd le66 c⟩
    rw [h1]; exact hq
  · intro k m μ1 hm h1 ih
    unfold wp_X0_moveClocks_l2 wp_X0_moveClocks_b43 wp_X0_moveClocks_b60
    refine ⟨fun c => absurd c (nI_ge hm (by omega)), fun _ => ⟨vi hm (by omega), ?_⟩⟩
    have e3 : μ1 3 (6 * b + m) = μ 3 (6 * b + m) := by
      rw [h1, nu_at, if_neg (Nat.lt_irrefl m)]
    have key := nu_s b m (fun _ r => FD r) μ
    rw [← h1] at key
    have ih2 := ih _ key
    simp only [FD] at ih2
    simp only [forall_eq, cl (show m < 100000 by omega), nI_1, ms_mr, w_isAwake, mr_s, mr_mr, b2i_0, e3, upd_n (μ 3 (6 * b + m)) _ (show 6 ≠ 11 by decide), upd_n (μ 3 (6 * b + m)) _ (show 7 ≠ 11 by decide)]
    have same : mr μ1 3 (6 * b + m) (μ 3 (6 * b + m)) = μ1 := by rw [← e3]; exact mr_same _ _ _
    cases c : awB (μ 3 (6 * b + m) 5) <;> by_cases c2 : μ 3 (6 * b + m) 6 = 0 <;> simpa [c, c2, same] using ih2
