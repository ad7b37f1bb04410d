theorem wth1_nat {a : Int32} {k : Nat} (hk : k < 100000) (h : wth a 1 (nI k) = true) : ∃ n, n ≤ k ∧ a = nI n := by
  refine wth_nat hk ?_
  simp only [wth, Bool.and_eq_true, decide_eq_true_eq] at h ⊢
  exact ⟨fun z => h.1 (Int32.lt_trans z (by decide)), h.2⟩
def stS (S : Nat → Int32) : Int32 := bitsN (fun n => decide (S (30 + n) = nI 4)) 6
theorem stS_of {b : Nat} {μ : Mem} {S : Nat → Int32} (h : RB b μ S) : bitsN (fun n => decide (μ 3 (6 * b + n) 5 = nI 4)) 6 = stS S := bitsN_congr 6 (fun n hn => by simp only [h.1 n hn 5 (by omega) (by omega), rT_5])
def fr5 (b : Nat) (μ0 μ : Mem) : Prop := ∀ k i, ¬ own b k i → μ k i = μ0 k i
def fr6 (μ0 μ : Mem) : Prop := ∀ k i, ¬ scr k i → μ k i = μ0 k i
theorem fr5_t {b : Nat} {μ0 μ1 μ2 : Mem} (h : fr5 b μ0 μ1) (h' : fr5 b μ1 μ2) : fr5 b μ0 μ2 := fun k i hk => (h' k i hk).trans (h k i hk)
theorem fr6_t {μ0 μ1 μ2 : Mem} (h : fr6 μ0 μ1) (h' : fr6 μ1 μ2) : fr6 μ0 μ2 := fun k i hk => (h' k i hk).trans (h k i hk)
theorem fr5_T {b : Nat} {μ0 μ : Mem} (h : fr5 b μ0 μ) : μ 20 0 = μ0 20 0 := h 20 0 (by unfold own; omega)
theorem fr6_o {μ0 μ : Mem} (h : fr6 μ0 μ) {b k i : Nat} (ho : own b k i) : μ k i = μ0 k i := h k i (by have := own_k ho; unfold scr; omega)
theorem run5 {c : Nat} (hc : c ≤ 50) {T : Nat → Int32} {μ0 : Mem} {q : Int32 → Mem → Prop} (hq : ∀ μ', PB 0 c T μ' → fr5 0 μ0 μ' → q (bitsN (fun n => decide (μ' 3 (6 * 0 + n) 5 = nI 4)) 6) μ') : ∀ (d m : Nat) (μ' : Mem), m + d = c → PB 0 m T μ' → fr5 0 μ0 μ' → wp_X5_run_l15 (nI c) q (d + 1) (nI m) μ'
  | 0, m, μ', hm, hP, hf => by
    have : m = c := by omega
    subst this
    unfold wp_X5_run_l15
    exact ⟨fun _ => w_thatAre 0 _ _ _ (hq μ' hP hf), fun z => absurd (nI_le (Nat.le_refl m) (by omega)) z⟩
  | d + 1, m, μ', hm, hP, hf => by
    unfold wp_X5_run_l15
    refine ⟨fun z => absurd z (nI_ge (by omega) (by omega)), fun _ => w_passB hP (fun μ2 f2 p2 => ?_)⟩
    rw [← nI_succ]
    exact run5 hc hq d (m + 1) μ2 (by omega) p2 (fr5_t hf f2)
theorem run6 {c N : Nat} (hc : c ≤ 50) {T : Nat → Int32} (hG : GI N T) (hN : N + 50 < 100000) {μ0 : Mem} {q : Int32 → Mem → Prop} (hq : ∀ M, CYs c T (M 20 0) → fr6 μ0 M → q (stS (M 20 0)) M) : ∀ (d m : Nat) (μ' : Mem), m + d = c → CYs m T (μ' 20 0) → fr6 μ0 μ' → wp_X6_run_l15 (nI c) q (d + 1) (nI m) μ'
  | 0, m, μ', hm, hP, hf => by
    have : m = c := by omega
    subst this
    unfold wp_X6_run_l15
    exact ⟨fun _ => w6_setOf _ _ _ (hq μ' hP hf), fun z => absurd (nI_le (Nat.le_refl m) (by omega)) z⟩
  | d + 1, m, μ', hm, hP, hf => by
    unfold wp_X6_run_l15
    refine ⟨fun z => absurd z (nI_ge (by omega) (by omega)), fun _ => w6_cycleB hG (by omega) hP (fun μ2 p2 f2 => ?_)⟩
    rw [← nI_succ]
    exact run6 hc hG hN hq d (m + 1) μ2 (by omega) p2 (fr6_t hf f2)
theorem op_run {N : Nat} {μ : Mem} (h : Inv N μ) (hN : N + 300 < 100000) (a1 : Int32) : wp_X5_run a1 μ (fun r μ1 => wp_X6_run a1 μ1 (fun r' μ2 => r = r' ∧ Inv (N + 50) μ2)) := by
  have fin : Inv (N + 50) μ := Inv_mono h (by omega)
  unfold wp_X5_run wp_X6_run
  rw [w_isWithin]
  simp only [w_in, b2i_0]
  refine ⟨fun c => ?_, fun c => ⟨fun c2 => absurd c c2, fun _ => (by first | exact fin | exact ⟨rfl, fin⟩ | exact ⟨trivial, fin⟩)⟩⟩
  obtain ⟨m, hm, rfl⟩ := wth1_nat (k := 50) (by omega) (show wth a1 1 (nI 50) = true by simpa using c)
  refine ⟨m + 1, run5 hm (μ0 := μ) (T := μ 20 0) (fun μ1 p1 f1 => ?_) m 0 μ (by omega) (PB_0 h.1 (h.2.2.1 0 (by omega))) (fun _ _ _ => rfl)⟩
  refine ⟨fun _ => ⟨m + 1, run6 hm h.2.1 (by omega) (μ0 := μ1) (fun M c1 f2 => ?_) m 0 μ1 (by omega) (fun j _ => by rw [fr5_T f1]) (fun _ _ _ => rfl)⟩, fun z => absurd z c⟩
  have hR := PB_all p1 c1
  exact ⟨stS_of hR, Inv_fr h (by omega) f1 hR p1.2 (GI_mono (CYs_GI m h.2.1 c1) (by omega)) f2⟩
/-! how soon -/
def cdS (A : Int32) (S : Nat → Int32) : Prop := (A &&& (stS S ^^^ (-1))) = 0
def SR (T : Nat → Int32) (A : Int32) (K : Nat) : Prop := K ≤ 201 ∧ (∀ j, j < K → ∀ S, CYs j T S → ¬ cdS A S) ∧ (K ≤ 200 → ∀ S, CYs K T S → cdS A S)
theorem soon5 {T : Nat → Int32} {A : Int32} {μ0 : Mem} {q : Int32 → Mem → Prop} (hq : ∀ K μ', SR T A K → fr5 1 μ0 μ' → BG 1 μ' → q (if K ≤ 200 then nI K else -6) μ') : ∀ (d m : Nat) (μ' : Mem), m + d = 201 → PB 1 m T μ' → fr5 1 μ0 μ' → (∀ j, j < m → ∀ S, CYs j T S → ¬ cdS A S) → wp_X5_soon_l28 q (d + 1) A (nI m) μ'
  | 0, m, μ', hm, hP, hf, hj => by
    have : m = 201 := by omega
    subst this
    unfold wp_X5_soon_l28
    refine ⟨fun _ => ?_, fun z => absurd (nI_lt (by omega) (by omega)) z⟩
    have := hq 201 μ' ⟨by omega, hj, fun z => absurd z (by omega)⟩ hf hP.2
    rwa [if_neg (by omega)] at this
  | d + 1, m, μ', hm, hP, hf, hj => by
    unfold wp_X5_soon_l28
    refine ⟨fun z => absurd z (nI_nlt (by omega) (by omega)), fun _ => w_thatAre 1 _ _ _ ?_⟩
    rw [w_areAllIn, b2i_0]
    obtain ⟨⟨C, c1, c2⟩, hB⟩ := hP
    rw [stS_of c2]
    have all : ∀ S, CYs m T S → stS S = stS C := fun S hS => by rw [← stS_of c2, stS_of (EQ_RB c2 (CYs_EQ m c1 hS))]
    refine ⟨fun z => w_passB ⟨⟨C, c1, c2⟩, hB⟩ (fun μ2 f2 p2 => ?_), fun z => ?_⟩
    · rw [← nI_succ]
      refine soon5 hq d (m + 1) μ2 (by omega) p2 (fr5_t hf f2) (fun j hj2 S hS => ?_)
      by_cases e : j = m
      · subst e
        unfold cdS
        rw [all S hS]
        simpa using z
      · exact hj j (by omega) S hS
    · have := hq m μ' ⟨by omega, hj, fun _ S hS => by
        unfold cdS
        rw [all S hS]
        simpa using z⟩ hf hB
      rwa [if_pos (by omega)] at this
theorem soon6 {N K : Nat} {T : Nat → Int32} {A : Int32} (hG : GI N T) (hN : N + 300 < 100000) (hS : SR T A K) {μ0 : Mem} {q : Int32 → Mem → Prop} (hq : ∀ M, fr6 μ0 M → wp_X6_load (nI 2) M (fun m_1 => q (if K ≤ 200 then nI K else -6) m_1)) : ∀ (d m : Nat) (μ' : Mem), m + d = 200 → m ≤ K → CYs m T (μ' 20 0) → fr6 μ0 μ' → wp_X6_soon_l19 q (d + 1) A (nI m) μ' := by
  obtain ⟨hK, s1, s2⟩ := hS
  have b48 : ∀ m μ', m ≤ 200 → m ≤ K → CYs m T (μ' 20 0) → fr6 μ0 μ' → (cdS A (μ' 20 0) ∨ m = 200) → wp_X6_soon_b48 q A (nI m) μ' := fun m μ' hm hmK hC hf hor => by
    unfold wp_X6_soon_b48 wp_X6_soon_b65
    refine w6_setOf _ _ _ ?_
    by_cases e : cdS A (μ' 20 0)
    · have eK : m = K := by
        rcases Nat.lt_or_ge m K with z | z
        · exact absurd e (s1 m z _ hC)
        · omega
      refine ⟨fun z => absurd e z, fun _ => ?_⟩
      have := hq μ' hf
      rw [if_pos (by omega), ← eK] at this
      have one : ¬ (1 : Int32) = 0 := by decide
      simpa [one] using this
    · have eK : K = 201 := by
        have : m = 200 := by
          rcases hor with z | z
          · exact absurd z e
          · exact z
        subst this
        rcases Nat.lt_or_ge 200 K with z | z
        · omega
        · have : K = 200 := by omega
          subst this
          exact absurd (s2 (by omega) _ hC) e
      refine ⟨fun _ => ?_, fun z => absurd z e⟩
      have := hq μ' hf
      rw [if_neg (by omega)] at this
      simpa using this
  intro d
  induction d with
  | zero =>
    intro m μ' hm hmK hC hf
    unfold wp_X6_soon_l19
    refine ⟨fun _ => b48 m μ' (by omega) hmK hC hf (Or.inr (by omega)), fun z => absurd (nI_le (by omega) (by omega)) z⟩
  | succ d ih =>
    intro m μ' hm hmK hC hf
    unfold wp_X6_soon_l19
    refine ⟨fun z => absurd z (nI_ge (by omega) (by omega)), fun _ => w6_setOf _ _ _ ?_⟩
    refine ⟨fun e => b48 m μ' (by omega) hmK hC hf (Or.inl e), fun e => w6_cycleB hG (by omega) hC (fun μ2 p2 f2 => ?_)⟩
    rw [← nI_succ]
    refine ih (m + 1) μ2 (by omega) ?_ p2 (fr6_t hf f2)
    rcases Nat.lt_or_ge m K with z | z
    · omega
    · have : m = K := by omega
      subst this
      exact absurd (s2 (by omega) _ hC) e
theorem ld_sv (k : Nat) (r r' s : Nat → Int32) {j : Nat} (hj : j < 256) : ldR k 256 r (svR k 256 r' s) j = s j := by
  simp only [ldR, svR]
  rw [if_pos hj, if_pos (by omega), show 256 * k + j - 256 * k = j by omega]
theorem Inv_trial {N : Nat} {μ μ1 μ2 M : Mem} (h : Inv N μ) (f1 : fr5 1 μ μ1) (b1 : BG 1 μ1) (f2 : ∀ k i, ¬ (k = 21 ∧ i = 0) → μ2 k i = μ1 k i) (h21 : μ2 21 0 = svR 2 256 (μ 21 0) (μ 20 0)) (f3 : fr6 μ2 M) (hT : ∀ j, j < 256 → M 20 0 j = μ 20 0 j) : Inv (N + 50) M := by
  have fo : ∀ b k i, own b k i → M k i = μ1 k i := fun b k i ho => by rw [fr6_o f3 ho, f2 k i (by have := own_k ho; omega)]
  refine Inv_step h (by omega) (fun k i h1 h2 h3 h4 h5 h6 h7 h8 => by rw [f3 k i (by unfold scr; omega), f2 k i h8, f1 k i h7]) (fun k hk j hj => ?_) ?_ (GI_mono (GI_congr h.2.1 hT) (by omega)) ?_ (BG_frame b1 (fo 1))
  · unfold img
    rw [f3 21 0 (by unfold scr; omega), h21]
    simp only [svR]
    rw [if_neg (by omega)]
  · exact RB_congr (RB_frame h.1 (fun k i ho => by rw [fo 0 k i ho, f1 k i (own_ne ho (by omega))])) hT
  · exact BG_frame (h.2.2.1 0 (by omega)) (fun k i ho => by rw [fo 0 k i ho, f1 k i (own_ne ho (by omega))])
theorem op_soon {N : Nat} {μ : Mem} (h : Inv N μ) (hN : N + 300 < 100000) : wp_X5_soon μ (fun r μ1 => wp_X6_soon μ1 (fun r' μ2 => r = r' ∧ Inv (N + 50) μ2)) := by
  have fin : Inv (N + 50) μ := Inv_mono h (by omega)
  unfold wp_X5_soon
  refine w_awake 0 _ _ ?_
  have eA : bitsN (fun n => awB (μ 3 (6 * 0 + n) 5)) 6 = bitsN (fun n => awB (μ 20 0 (30 + n))) 6 := bitsN_congr 6 (fun n hn => by rw [h.1.1 n hn 5 (by omega) (by omega), rT_5])
  rw [eA]
  generalize hA : bitsN (fun n => awB (μ 20 0 (30 + n))) 6 = A
  refine ⟨fun c => w_copyB (by omega) _ _ (fun n hn => (h.2.2.1 0 (by omega) n hn).1) (fun n hn => (h.2.2.1 1 (by omega) n hn).2) (fun M0 f0 g0 r0 => ?_), fun c => ?_⟩
  · refine ⟨202, soon5 (T := μ 20 0) (μ0 := M0) (fun K μ1 hS f1 b1 => ?_) 201 0 M0 (by omega) (PB_0 (r0 _ h.1) g0) (fun _ _ _ => rfl) (fun j hj => absurd hj (Nat.not_lt_zero j))⟩
    have f1' : fr5 1 μ μ1 := fr5_t f0 f1
    have T1 := fr5_T f1'
    unfold wp_X6_soon
    refine w6_inSet _ _ ?_
    rw [T1, hA]
    refine ⟨fun _ => w6_save (k := 2) (by omega) _ _ ?_, fun z => absurd z c⟩
    generalize hM2 : mr μ1 21 0 (svR 2 256 (μ1 21 0) (μ1 20 0)) = M2
    have h21 : M2 21 0 = svR 2 256 (μ 21 0) (μ 20 0) := by rw [← hM2, mr_s, T1, f1' 21 0 (by unfold own; omega)]
    have f2 : ∀ k i, ¬ (k = 21 ∧ i = 0) → M2 k i = μ1 k i := fun k i hk => by rw [← hM2, mr_n _ _ hk]
    refine ⟨201, soon6 h.2.1 hN hS (μ0 := M2) (fun M f3 => ?_) 200 0 M2 (by omega) (by omega) (fun j _ => by rw [f2 _ _ (by omega), T1]) (fun _ _ _ => rfl)⟩
    refine w6_load (k := 2) (by omega) _ _ ⟨rfl, Inv_trial h f1' b1 f2 h21 (M := mr M 20 0 _) (fun k i hk => ?_) (fun j hj => ?_)⟩
    · rw [mr_n _ _ (by unfold scr at hk; omega), f3 k i hk]
    · rw [mr_s, f3 21 0 (by unfold scr; omega), h21, ld_sv _ _ _ _ hj]
  · unfold wp_X6_soon
    refine w6_inSet _ _ ?_
    rw [hA]
    exact ⟨fun z => absurd c z, fun _ => ⟨rfl, fin⟩⟩
