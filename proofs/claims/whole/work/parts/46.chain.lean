/-! rows that say the same -/
def EQ (T S : Nat → Int32) : Prop := (∀ j, j < 256 → ¬ (96 ≤ j ∧ j < 132) → T j = S j) ∧ ∀ n o, n < 6 → o < 6 → inb (T (84 + n)) o = true → T (96 + 6 * n + o) = S (96 + 6 * n + o)
theorem EQ_rfl (T : Nat → Int32) : EQ T T := ⟨fun _ _ _ => rfl, fun _ _ _ _ _ => rfl⟩
theorem EQ_of {T S : Nat → Int32} (h : ∀ j, j < 256 → T j = S j) : EQ T S := ⟨fun j hj _ => h j hj, fun n o hn ho _ => h _ (by omega)⟩
theorem EQ_RB {b : Nat} {μ : Mem} {T S : Nat → Int32} (h : RB b μ T) (e : EQ T S) : RB b μ S := by
  obtain ⟨h1, h2, h3, h4, h5, h6, h7⟩ := h
  obtain ⟨e1, e2⟩ := e
  refine ⟨fun n hn f hf hf6 => ?_, h2, fun n hn => ?_, by rw [← e1 _ (by omega) (by omega)]; exact h4, by rw [← e1 _ (by omega) (by omega)]; exact h5, by rw [← e1 _ (by omega) (by omega)]; exact h6, LR_congr h7 (fun j hj hj2 => (e1 j hj2 (by omega)).symm)⟩
  · rw [h1 n hn f hf hf6]
    unfold rT
    by_cases c : f < 6
    · rw [if_pos c, if_pos c, e1 _ (by omega) (by omega)]
    · rw [if_neg c, if_neg c, if_neg hf6, if_neg hf6, e1 _ (by omega) (by omega)]
  · obtain ⟨a1, a2, a3, a4⟩ := h3 n hn
    refine ⟨by rw [← e1 _ (by omega) (by omega)]; exact a1, by rw [← e1 _ (by omega) (by omega)]; exact a2, by rw [← e1 _ (by omega) (by omega)]; exact a3, fun o ho hb => ?_⟩
    rw [← e1 (84 + n) (by omega) (by omega)] at hb
    rw [a4 o ho hb, e2 n o hn ho hb]
theorem AG_trans {r r' r'' : Nat → Int32} (h : AG r r') (h' : AG r' r'') : AG r r'' := fun f hf => (h f hf).trans (h' f hf)
theorem AG_rfl (r : Nat → Int32) : AG r r := fun _ _ => rfl
theorem EQ_CY {T S T' S' : Nat → Int32} (e : EQ T S) (hT : CY T T') (hS : CY S S') : EQ T' S' := by
  obtain ⟨e1, e2⟩ := e
  have lo : ∀ j, j < 96 → T j = S j := fun j hj => e1 j (by omega) (by omega)
  have rd : ∀ n, n < 6 → rdT T n = rdT S n := fun n hn => by unfold rdT; rw [lo _ (by omega), lo _ (by omega)]
  have fs : ∀ n, n < 6 → fsT T n = fsT S n := fun n hn => by unfold fsT; rw [lo _ (by omega), lo _ (by omega)]
  have sg : ∀ n, n < 6 → sgT T n = sgT S n := fun n hn => by unfold sgT; rw [lo _ (by omega), lo _ (by omega)]
  have wy : ∀ n o, n < 6 → o < 6 → wyT T n o = wyT S n o := fun n o hn ho => by unfold wyT; rw [rd o ho, fs o ho, lo _ (by omega), lo _ (by omega)]
  have fl : ∀ n, n < 6 → flT T n = flT S n := fun n hn => by unfold flT; rw [fs n hn, anyN_congr 6 (fun o ho => wy n o hn ho)]
  have sn : ∀ n, n < 6 → snT T n = snT S n := fun n hn => by unfold snT; rw [rd n hn, fl n hn]
  have rt : ∀ n, n < 6 → AG (rT T n) (rT S n) := fun n hn f hf => by
    unfold rT
    by_cases c : f < 6
    · rw [if_pos c, if_pos c, lo _ (by omega)]
    · rw [if_neg c, if_neg c]
      by_cases c2 : f = 6
      · rw [if_pos c2, if_pos c2]
      · rw [if_neg c2, if_neg c2, lo _ (by omega)]
  have ra : ∀ n, n < 6 → AG (rA T n) (rA S n) := fun n hn => by
    unfold rA
    rw [fl n hn]
    split
    · exact AG_cBec (rt n hn)
    · exact rt n hn
  have he : ∀ n o, n < 6 → o < 6 → heT T n o = heT S n o := fun n o hn ho => by unfold heT; rw [ra n hn 5 (by omega), sn o ho]
  have hd : ∀ n, n < 6 → hdT T n = hdT S n := fun n hn => bitsN_congr 6 (fun o ho => he n o hn ho)
  have st : ∀ n, n < 6 → stT T n = stT S n := fun n hn => stN_congr 6 (fun o ho => ⟨he n o hn ho, lo o (by omega)⟩)
  have gd : ∀ n, n < 6 → gdT T n = gdT S n := fun n hn => gN_congr 6 (by omega) (fun o ho => ⟨he n o hn ho, lo o (by omega), lo _ (by omega)⟩)
  have sv : ∀ n o, n < 6 → o < 6 → svT T n o = svT S n o := fun n o hn ho => by unfold svT; rw [lo _ (by omega), lo _ (by omega), lo _ (by omega)]
  have gl : ∀ n, n < 6 → (gdT S n).toNatClampNeg < 6 := fun n hn => by
    unfold gdT
    rcases gN_ex (p := heT S n) (kd := S) (sl := fun o => S (6 + o)) 6 (by omega) with z | ⟨o, ho, z, -⟩
    · rw [z.1]; decide
    · rw [z, cl (by omega)]; exact ho
  have gs : ∀ n, n < 6 → gsT T n = gsT S n := fun n hn => by unfold gsT; rw [gd n hn, sv n _ hn (gl n hn)]
  have gp : ∀ n, n < 6 → gpT T n = gpT S n := fun n hn => by
    have := gl n hn
    unfold gpT
    rw [gd n hn, lo _ (by omega), lo _ (by omega)]
  have ts : ∀ n, n < 6 → tsT T n = tsT S n := fun n hn => tsF_congr (fun o ho => by rw [hd n hn]) (fun o ho _ => sv n o hn ho)
  have tm : ∀ n, n < 6 → tmT T n = tmT S n := fun n hn => tsF_congr (fun o ho => by rw [hd n hn, lo _ (by omega)]) (fun o ho hb => by rw [sv n o hn ho, e2 n o hn ho (inb_and hb).2])
  have sA : sgA T = sgA S := by unfold sgA; rw [anyN_congr 6 (fun n hn => sg n hn)]
  have od : odT T = odT S := by unfold odT; rw [e1 133 (by omega) (by omega)]
  have se : ∀ n, n < 6 → AG (setR T n) (setR S n) := fun n hn => by
    unfold setR
    rw [hd n hn, st n hn, gd n hn, gs n hn, gp n hn, lo (78 + n) (by omega), lo (90 + n) (by omega), sA]
    exact AG_cSet (ra n hn)
  have en : ∀ n, n < 6 → AG (endR T n) (endR S n) := fun n hn => by
    unfold endR
    rw [od, ra n hn 5 (by omega), hd n hn, ts n hn, tm n hn, e1 132 (by omega) (by omega)]
    split
    · exact AG_cCor (se n hn)
    · exact se n hn
  have lg : ∀ j, 135 ≤ j → j < 256 → lgT T j = lgT S j := by
    have key : ∀ m, m ≤ 6 → ∀ j, 135 ≤ j → j < 256 → lgN (T 133) (fun n => b2i (flT T n)) (fun n => rA T n 5) (fun n => endR T n 5) T m j = lgN (S 133) (fun n => b2i (flT S n)) (fun n => rA S n 5) (fun n => endR S n 5) S m j := by
      intro m
      induction m with
      | zero => intro _ j hj hj2; exact e1 j hj2 (by omega)
      | succ m ih =>
        intro hm
        have ih' := ih (by omega)
        simp only [lgN]
        simp only [fl m (by omega), ra m (by omega) 5 (by omega), en m (by omega) 5 (by omega), e1 133 (by omega) (by omega)] at ih' ⊢
        split
        · split
          · exact ih'
          · exact kev_congr ih'
        · refine kev_congr ?_
          split
          · exact ih'
          · exact kev_congr ih'
    exact key 6 (Nat.le_refl 6)
  obtain ⟨t1, t2, t3, t4, t5, t6⟩ := hT
  obtain ⟨s1, s2, s3, s4, s5, s6⟩ := hS
  have row : ∀ n, n < 6 → ∀ f, f < 13 → f ≠ 6 → rT T' n f = rT S' n f := fun n hn f hf hf6 => by
    rw [t1 n hn f hf hf6, s1 n hn f hf hf6]
    exact AG_FD (en n hn) f hf
  refine ⟨fun j hj hj2 => ?_, fun n o hn ho hb => ?_⟩
  · by_cases c1 : j < 72
    · have hm : j % 6 < 6 := Nat.mod_lt _ (by omega)
      by_cases c2 : j < 36
      · have := row (j % 6) hm (j / 6) (by omega) (by omega)
        unfold rT at this
        rw [if_pos (by omega), if_pos (by omega), show 6 * (j / 6) + j % 6 = j by omega] at this
        exact this
      · have := row (j % 6) hm (j / 6 + 1) (by omega) (by omega)
        unfold rT at this
        rw [if_neg (by omega), if_neg (by omega), if_neg (by omega), if_neg (by omega), show 6 * (j / 6 + 1 - 1) + j % 6 = j by omega] at this
        exact this
    · by_cases c2 : j < 78
      · have h := (t2 (j - 72) (by omega)).1
        have h' := (s2 (j - 72) (by omega)).1
        rw [show 72 + (j - 72) = j by omega] at h h'
        rw [h, h', sn _ (by omega), lo _ (by omega)]
      · by_cases c3 : j < 84
        · have h := (t2 (j - 78) (by omega)).2.1
          have h' := (s2 (j - 78) (by omega)).2.1
          rw [show 78 + (j - 78) = j by omega] at h h'
          rw [h, h', gd _ (by omega)]
        · by_cases c4 : j < 90
          · have h := (t2 (j - 84) (by omega)).2.2.1
            have h' := (s2 (j - 84) (by omega)).2.2.1
            rw [show 84 + (j - 84) = j by omega] at h h'
            rw [h, h', hd _ (by omega)]
          · by_cases c5 : j < 96
            · have h := (t2 (j - 90) (by omega)).2.2.2.1
              have h' := (s2 (j - 90) (by omega)).2.2.2.1
              rw [show 90 + (j - 90) = j by omega] at h h'
              rw [h, h', st _ (by omega)]
            · by_cases c6 : 135 ≤ j
              · rw [t6 j c6 hj, s6 j c6 hj, lg j c6 hj]
              · rcases (show j = 132 ∨ j = 133 ∨ j = 134 by omega) with rfl | rfl | rfl
                · rw [t3, s3, e1 132 (by omega) (by omega)]
                · rw [t4, s4, e1 133 (by omega) (by omega)]
                · rw [t5, s5]; exact bitsN_congr 6 (fun n hn => sn n hn)
  · rw [(t2 n hn).2.2.1] at hb
    rw [(t2 n hn).2.2.2.2 o ho hb, (s2 n hn).2.2.2.2 o ho (by rw [← hd n hn]; exact hb), sv n o hn ho]
/-- there is a row behind every row -/
def cyT (T : Nat → Int32) (j : Nat) : Int32 := if j < 36 then FD (endR T (j % 6)) (j / 6) else if j < 72 then FD (endR T (j % 6)) (j / 6 + 1) else if j < 78 then T j + b2i (snT T (j - 72)) else if j < 84 then gdT T (j - 78) else if j < 90 then hdT T (j - 84) else if j < 96 then stT T (j - 90) else if j < 132 then svT T ((j - 96) / 6) ((j - 96) % 6) else if j = 132 then T 132 else if j = 133 then T 133 + 1 else if j = 134 then bitsN (snT T) 6 else lgT T j
theorem CY_ex (T : Nat → Int32) : ∃ T', CY T T' := by
  refine ⟨cyT T, fun n hn f hf hf6 => ?_, fun n hn => ⟨?_, ?_, ?_, ?_, fun o ho _ => ?_⟩, ?_, ?_, ?_, fun j hj hj2 => ?_⟩
  · unfold rT cyT
    by_cases c : f < 6
    · rw [if_pos c, if_pos (by omega), show (6 * f + n) % 6 = n by omega, show (6 * f + n) / 6 = f by omega]
    · rw [if_neg c, if_neg hf6, if_neg (by omega), if_pos (by omega), show (6 * (f - 1) + n) % 6 = n by omega, show (6 * (f - 1) + n) / 6 + 1 = f by omega]
  · unfold cyT
    rw [if_neg (by omega), if_neg (by omega), if_pos (by omega), show 72 + n - 72 = n by omega]
  · unfold cyT
    rw [if_neg (by omega), if_neg (by omega), if_neg (by omega), if_pos (by omega), show 78 + n - 78 = n by omega]
  · unfold cyT
    rw [if_neg (by omega), if_neg (by omega), if_neg (by omega), if_neg (by omega), if_pos (by omega), show 84 + n - 84 = n by omega]
  · unfold cyT
    rw [if_neg (by omega), if_neg (by omega), if_neg (by omega), if_neg (by omega), if_neg (by omega), if_pos (by omega), show 90 + n - 90 = n by omega]
  · unfold cyT
    rw [if_neg (by omega), if_neg (by omega), if_neg (by omega), if_neg (by omega), if_neg (by omega), if_neg (by omega), if_pos (by omega), show (96 + 6 * n + o - 96) / 6 = n by omega, show (96 + 6 * n + o - 96) % 6 = o by omega]
  · unfold cyT
    rw [if_neg (by omega), if_neg (by omega), if_neg (by omega), if_neg (by omega), if_neg (by omega), if_neg (by omega), if_neg (by omega), if_pos (by omega)]
  · unfold cyT
    rw [if_neg (by omega), if_neg (by omega), if_neg (by omega), if_neg (by omega), if_neg (by omega), if_neg (by omega), if_neg (by omega), if_neg (by omega), if_pos (by omega)]
  · unfold cyT
    rw [if_neg (by omega), if_neg (by omega), if_neg (by omega), if_neg (by omega), if_neg (by omega), if_neg (by omega), if_neg (by omega), if_neg (by omega), if_neg (by omega), if_pos (by omega)]
  · unfold cyT
    rw [if_neg (by omega), if_neg (by omega), if_neg (by omega), if_neg (by omega), if_neg (by omega), if_neg (by omega), if_neg (by omega), if_neg (by omega), if_neg (by omega), if_neg (by omega)]
def CYs : Nat → (Nat → Int32) → (Nat → Int32) → Prop
  | 0, T, T' => ∀ j, j < 256 → T j = T' j
  | k + 1, T, T' => ∃ S, CYs k T S ∧ CY S T'
theorem CYs_EQ : ∀ (k : Nat) {T S S' : Nat → Int32}, CYs k T S → CYs k T S' → EQ S S'
  | 0, _, _, _, h, h' => EQ_of (fun j hj => (h j hj).symm.trans (h' j hj))
  | k + 1, _, _, _, h, h' => by
    obtain ⟨A, a1, a2⟩ := h
    obtain ⟨B, b1, b2⟩ := h'
    exact EQ_CY (CYs_EQ k a1 b1) a2 b2
theorem CYs_GI : ∀ (k : Nat) {N : Nat} {T S : Nat → Int32}, GI N T → CYs k T S → GI (N + k) S
  | 0, _, _, _, h, h' => GI_congr h (fun j hj => (h' j hj).symm)
  | k + 1, _, _, _, h, h' => by
    obtain ⟨A, a1, a2⟩ := h'
    exact GI_cy (CYs_GI k h a1) a2
/-- class bus b, k cycles behind T -/
def PB (b k : Nat) (T : Nat → Int32) (μ : Mem) : Prop := (∃ C, CYs k T C ∧ RB b μ C) ∧ BG b μ
theorem PB_all {b k : Nat} {T S : Nat → Int32} {μ : Mem} (h : PB b k T μ) (hS : CYs k T S) : RB b μ S := by
  obtain ⟨⟨C, c1, c2⟩, -⟩ := h
  exact EQ_RB c2 (CYs_EQ k c1 hS)
theorem w_passB {b k : Nat} {T : Nat → Int32} {μ : Mem} {q : Mem → Prop} (h : PB b k T μ) (hq : ∀ μ', (∀ k i, ¬ own b k i → μ' k i = μ k i) → PB b (k + 1) T μ' → q μ') : wp_X0_passCycle b μ q := by
  obtain ⟨⟨C, c1, c2⟩, -⟩ := h
  obtain ⟨C', hC⟩ := CY_ex C
  exact w_pass c2 (fun μ' f1 f2 f3 => hq μ' f1 ⟨⟨C', ⟨C, c1, hC⟩, f3 C' hC⟩, f2⟩)
theorem PB_0 {b : Nat} {T : Nat → Int32} {μ : Mem} (h : RB b μ T) (hB : BG b μ) : PB b 0 T μ := ⟨⟨T, fun _ _ => rfl, h⟩, hB⟩
theorem PB_frame {b k : Nat} {T : Nat → Int32} {μ M : Mem} (h : PB b k T μ) (e : ∀ k i, own b k i → M k i = μ k i) : PB b k T M := by
  obtain ⟨⟨C, c1, c2⟩, hB⟩ := h
  exact ⟨⟨C, c1, RB_frame c2 e⟩, BG_frame hB e⟩
/-- the reference, k cycles behind T -/
theorem w6_cycleB {N k : Nat} {T : Nat → Int32} {μ : Mem} {q : Mem → Prop} (hG : GI N T) (hN : N + k < 100000) (h : CYs k T (μ 20 0)) (hq : ∀ M, CYs (k + 1) T (M 20 0) → (∀ k i, ¬ scr k i → M k i = μ k i) → q M) : wp_X6_cycle μ q := by
  obtain ⟨g1, ⟨c, g2, g3⟩, ⟨sz, g4, g5⟩, -⟩ := CYs_GI k hG h
  exact w6_cycle g4 g5 (show c < 100000 by omega) g3 g1 (fun M m1 m2 => hq M ⟨_, h, m1⟩ m2)
