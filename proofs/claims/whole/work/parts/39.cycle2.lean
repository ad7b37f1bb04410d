def C3 (T : Nat → Int32) (M2 : Mem) (m : Nat) (M : Mem) : Prop :=
  (∀ n, n < m → (∀ f, f < 13 → f ≠ 6 → rT (M 20 0) n f = FD (endR T n) f) ∧ M 20 0 (72 + n) = T (72 + n) + b2i (snT T n) ∧ M 20 0 (78 + n) = gdT T n ∧ M 20 0 (84 + n) = hdT T n ∧ M 20 0 (90 + n) = stT T n ∧ ∀ o, o < 6 → inb (hdT T n) o = true → M 20 0 (96 + 6 * n + o) = svT T n o) ∧
  (∀ n, m ≤ n → n < 6 → ∀ f, f < 16 → M 20 0 (6 * f + n) = M2 20 0 (6 * f + n)) ∧ (∀ j, 132 ≤ j → M 20 0 j = M2 20 0 j) ∧ ∀ k i, ¬ (k = 20 ∧ i = 0) → M k i = M2 k i
theorem w6_keeps {T : Nat → Int32} {Mb M0 M2 : Mem} {q : Mem → Prop} (hC : C1 T Mb 6 M0) (hD : C2 T M0 6 M2) (h24 : ∀ n, n < 6 → M0 24 0 n = b2i (snT T n)) (hq : ∀ M, CY T (M 20 0) → (∀ k i, ¬ (k = 20 ∧ i = 0) → M k i = M2 k i) → q M) : ∃ n : Nat, wp_X6_cycle_l95 q n 0 M2 := by
  obtain ⟨c20, cH, -⟩ := hC
  obtain ⟨d1, d2, d3, d4⟩ := hD
  have lo0 : ∀ j, j < 30 ∨ (60 ≤ j ∧ j ≠ 134) → M0 20 0 j = T j := fun j hj => by
    rw [c20, upd_n _ _ (by omega), T1_k (by omega)]
  have row : ∀ n, n < 6 → ∀ f, f < 13 → mw (M2 20 0) (M2 27 0 n) n f = endR T n f := fun n hn f hf => by rw [d1 n hn f hf, if_pos hn]
  refine ⟨7, loop6 (fun f m M => wp_X6_cycle_l95 q f (nI m) M) (fun m M => C3 T M2 m M) ?_ ?_ _ ⟨fun n hn => absurd hn (Nat.not_lt_zero n), fun _ _ _ _ _ => rfl, fun _ _ => rfl, fun _ _ _ => rfl⟩⟩
  · intro M hI
    obtain ⟨i1, -, i3, i4⟩ := hI
    unfold wp_X6_cycle_l95
    refine ⟨fun _ => ?_, fun cc => absurd le66 cc⟩
    have v1 : vp_in (nI 133) 256 := vi (by omega) (by omega)
    simp only [forall_eq, v1, true_and, cl (show 133 < 100000 by omega), ms_mr]
    refine hq _ ?_ (fun k i hk => by rw [mr_n _ _ hk]; exact i4 k i hk)
    rw [mr_s]
    refine ⟨fun n hn f hf hf6 => ?_, fun n hn => ?_, ?_, ?_, ?_, fun j h1 h2 => ?_⟩
    · rw [← (i1 n hn).1 f hf hf6]
      unfold rT
      by_cases h1 : f < 6
      · rw [if_pos h1, if_pos h1, upd_n _ _ (by omega)]
      · rw [if_neg h1, if_neg h1, if_neg hf6, if_neg hf6, upd_n _ _ (by omega)]
    · obtain ⟨-, a2, a3, a4, a5, a6⟩ := i1 n hn
      rw [upd_n _ _ (by omega), upd_n _ _ (by omega), upd_n _ _ (by omega), upd_n _ _ (by omega)]
      refine ⟨a2, a3, a4, a5, fun o ho hb => ?_⟩
      rw [upd_n _ _ (by omega)]
      exact a6 o ho hb
    · rw [upd_n _ _ (by omega), i3 132 (by omega), d2 132 (by omega) (by omega), lo0 132 (by omega)]
    · rw [upd_s, i3 133 (by omega), d2 133 (by omega) (by omega), lo0 133 (by omega)]
    · rw [upd_n _ _ (by omega), i3 134 (by omega), d2 134 (by omega) (by omega), c20, upd_s]
    · rw [upd_n _ _ (by omega), i3 j (by omega), d3 j h1 h2]
      rfl
  · intro k m M hm hI ih
    obtain ⟨i1, i2, i3, i4⟩ := hI
    unfold wp_X6_cycle_l95
    refine ⟨fun cc => absurd cc (nI_ge hm (by omega)), fun _ => ?_⟩
    simp only [nI_1]
    have e : ∀ k', k' ≠ 6 ∧ k' ≠ 20 ∧ k' ≠ 23 ∧ k' ≠ 27 → M k' 0 = M0 k' 0 := fun k' hk => by rw [i4 k' 0 (by omega), d4 k' 0 (by omega)]
    obtain ⟨a28, a29, a30, a31, -⟩ := cH m hm
    -- node m's numbers ahead of it
    have g : ∀ f, f < 16 → M 20 0 (6 * f + m) = M2 20 0 (6 * f + m) := fun f hf => i2 m (Nat.le_refl m) hm f hf
    have w : ∀ f, f < 13 → f ≠ 6 → M 20 0 (if f < 6 then 6 * f + m else 6 * (f - 1) + m) = endR T m f := fun f hf hf6 => by
      rw [← row m hm f hf]
      unfold mw
      by_cases h1 : f < 6
      · rw [if_pos h1, if_pos h1, g f (by omega)]
      · rw [if_neg h1, if_neg h1, if_neg hf6, g (f - 1) (by omega)]
    have w5 : M 20 0 (30 + m) = endR T m 5 := w 5 (by omega) (by omega)
    have w11 : M 20 0 (60 + m) = endR T m 11 := w 11 (by omega) (by omega)
    have w3 : M 20 0 (18 + m) = endR T m 3 := w 3 (by omega) (by omega)
    have w12 : M 20 0 (66 + m) = endR T m 12 := w 12 (by omega) (by omega)
    have w7 : M 20 0 (36 + m) = endR T m 7 := w 7 (by omega) (by omega)
    have w6 : M 27 0 m = endR T m 6 := by
      rw [i4 27 0 (by omega), ← row m hm 6 (by omega)]
      unfold mw
      rw [if_neg (by omega), if_pos rfl]
    have e72 : M 20 0 (72 + m) = T (72 + m) := by
      have := g 12 (by omega)
      rw [show 6 * 12 + m = 72 + m by omega] at this
      rw [this, d2 _ (by omega) (by omega), lo0 _ (by omega)]
    have e24 : M 24 0 m = b2i (snT T m) := by rw [e 24 (by omega)]; exact h24 m hm
    refine w6_keepCycle hm (fun M' b1 b2 b3 b4 b5 b6 b7 b8 b9 => ih _ ⟨fun n hn => ?_, fun n h1 h2 f hf => ?_, fun j hj => ?_, fun k' i' hk => ?_⟩)
    · by_cases hnm : n = m
      · subst hnm
        refine ⟨fun f hf hf6 => ?_, ?_, ?_, ?_, ?_, fun o ho hb => ?_⟩
        · have key : rT (M' 20 0) n f = M' 20 0 (if f < 6 then 6 * f + n else 6 * (f - 1) + n) := by
            unfold rT
            by_cases h1 : f < 6
            · rw [if_pos h1, if_pos h1]
            · rw [if_neg h1, if_neg hf6, if_neg h1]
          rw [key]
          by_cases h7 : f = 7
          · subst h7
            show M' 20 0 (36 + n) = _
            rw [b7, w7, w6]
            unfold FD
            by_cases z : endR T n 6 = 0
            · rw [if_pos z, if_pos z, upd_s]
            · rw [if_neg z, if_neg z]
              split
              · rw [upd_n _ _ (by omega)]; simp
              · simp
          · by_cases h11 : f = 11
            · subst h11
              show M' 20 0 (60 + n) = _
              rw [b6, w5, w11, w3, w12]
              unfold FD
              by_cases z : endR T n 6 = 0
              · rw [if_pos z, upd_n _ _ (by omega)]
                split
                · rw [upd_s]
                · rfl
              · rw [if_neg z]
                split
                · rw [upd_s]
                · rfl
            · rw [FD_k h7 h11, ← w f hf hf6]
              by_cases h1 : f < 6
              · rw [if_pos h1]
                exact b8 _ (by omega) (by omega) (by omega) (by omega) (by omega) (by omega) (by omega)
              · rw [if_neg h1]
                exact b8 _ (by omega) (by omega) (by omega) (by omega) (by omega) (by omega) (by omega)
        · rw [b1, e72, e24]
          congr 1
          cases snT T n <;> simp [b2i]
        · rw [b2, e 30 (by omega)]; exact a30
        · rw [b3, e 28 (by omega)]; exact a28
        · rw [b4, e 29 (by omega)]; exact a29
        · rw [b5 o ho, e 31 (by omega)]
          unfold hdT at hb
          rw [inb_bits _ ho] at hb
          exact a31 o ho hb
      · obtain ⟨p1, p2, p3, p4, p5, p6⟩ := i1 n (by omega)
        have hn6 : n < 6 := by omega
        have k8 : ∀ j, j % 6 = n → j < 96 → M' 20 0 j = M 20 0 j := fun j h1 h2 => b8 j (by omega) (by omega) (by omega) (by omega) (by omega) (by omega) (by omega)
        refine ⟨fun f hf hf6 => ?_, ?_, ?_, ?_, ?_, fun o ho hb => ?_⟩
        · rw [← p1 f hf hf6]
          unfold rT
          by_cases h1 : f < 6
          · rw [if_pos h1, if_pos h1, k8 _ (by omega) (by omega)]
          · rw [if_neg h1, if_neg h1, if_neg hf6, if_neg hf6, k8 _ (by omega) (by omega)]
        · rw [k8 _ (by omega) (by omega)]; exact p2
        · rw [k8 _ (by omega) (by omega)]; exact p3
        · rw [k8 _ (by omega) (by omega)]; exact p4
        · rw [k8 _ (by omega) (by omega)]; exact p5
        · rw [b8 _ (by omega) (by omega) (by omega) (by omega) (by omega) (by omega) (by omega)]
          exact p6 o ho hb
    · rw [b8 _ (by omega) (by omega) (by omega) (by omega) (by omega) (by omega) (by omega)]
      exact i2 n (by omega) h2 f hf
    · rw [b8 _ (by omega) (by omega) (by omega) (by omega) (by omega) (by omega) (by omega)]
      exact i3 j hj
    · rw [b9 k' i' hk]
      exact i4 k' i' hk
def scr (k i : Nat) : Prop := (k = 6 ∨ k = 20 ∨ (23 ≤ k ∧ k ≤ 32)) ∧ i = 0
theorem w6_cycle {μ : Mem} {sz c : Nat} {q : Mem → Prop} (hs : sz ≤ 40) (hsz : μ 20 0 135 = nI sz) (hc : c < 100000) (hcy : μ 20 0 133 = nI c) (h5 : I5 (μ 20 0)) (hq : ∀ M, CY (μ 20 0) (M 20 0) → (∀ k i, ¬ scr k i → M k i = μ k i) → q M) : wp_X6_cycle μ q := by
  unfold wp_X6_cycle
  refine w6_laySenders (fun M hL => ?_)
  obtain ⟨l1, l2, l3⟩ := hL
  have v1 : vp_in (nI 134) 256 := vi (by omega) (by omega)
  simp only [forall_eq, v1, true_and, cl (show 134 < 100000 by omega), ms_mr, l1]
  have k : ∀ k', k' ≠ 20 → mr M 20 0 (upd (T1m (μ 20 0) 6) 134 0) k' 0 = M k' 0 := fun k' hk => mr_k _ _ hk
  refine w6_hears (T := μ 20 0) (by rw [mr_s]) (fun n hn => by rw [k 24 (by decide)]; exact (l2 n hn).1) (fun M1 h1 => ?_)
  have f1 : ∀ k', k' = 24 ∨ k' = 25 ∨ k' = 26 ∨ k' = 27 → M1 k' 0 = M k' 0 := fun k' hk => by rw [h1.2.2 k' 0 (by omega), k k' (by omega)]
  refine w6_ends hs hsz hc hcy h5 h1 (fun n hn => by rw [f1 25 (by omega)]; exact (l2 n hn).2.1) (fun n hn => by rw [f1 26 (by omega)]; exact (l2 n hn).2.2.1) (fun n hn => by rw [f1 27 (by omega)]; exact (l2 n hn).2.2.2) (fun M2 h2 => ?_)
  refine w6_keeps h1 h2 (fun n hn => by rw [f1 24 (by omega)]; exact (l2 n hn).1) (fun M3 h3 hf => hq M3 h3 (fun k' i' hk => ?_))
  unfold scr at hk
  rw [hf k' i' (by omega), h2.2.2.2 k' i' (by omega), h1.2.2 k' i' (by omega), mr_n _ _ (by omega), l3 k' i' (by omega)]
