theorem w_trimOfMoves {a a2 j : Nat} {μ : Mem} {q : Int32 → Mem → Prop} {n : Nat} (hn : n < 6) (hf : inb (μ 1 a 0 &&& μ 1 a2 0) n = false) (hq : ∀ μ', frN j μ μ' → q (tsF (inb (μ 1 a 0 &&& μ 1 a2 0)) (fun o => μ 7 a o - μ 7 a2 o)) μ') : wp_X1_trimOfMoves a a2 j μ q := by
  unfold wp_X1_trimOfMoves
  rw [w_clear4]
  refine w_put (k := 0) (by omega) (by rw [mr_s, upd_s]; rfl) ?_
  generalize hp : inb (μ 1 a 0 &&& μ 1 a2 0) = p at hf hq
  generalize hvv : (fun o => μ 7 a o - μ 7 a2 o) = v at hq
  refine ⟨7, loop6 (fun f m μ' => wp_X1_trimOfMoves_l11 a a2 j q f (nI m) μ') (fun m μ' => μ' 4 j 1 = nI (putN (μ 11 j) p v m).2 ∧ μ' 11 j = (putN (μ 11 j) p v m).1 ∧ frN j μ μ') ?_ ?_ _ ?_⟩
  · intro μ' hI
    obtain ⟨i1, i2, i3⟩ := hI
    unfold wp_X1_trimOfMoves_l11 wp_X1_trimOfMoves_b68
    refine ⟨fun _ => ?_, fun c => absurd (nI_le (Nat.le_refl 6) (by omega)) c⟩
    have hz := putN_sz (μ 11 j) p v 6
    have hlt := cntB_lt _ hf 6 hn
    refine w_trimmed (k := (putN (μ 11 j) p v 6).2) (by omega) (by omega) i1 ?_
    rw [i2]
    have := hq μ' i3
    rw [← tsF_of (r0 := μ 11 j) (p := p) (v := v) (fun _ _ => rfl) (fun _ _ _ => rfl)] at this
    exact this
  · intro k m μ' hm hI ih
    obtain ⟨i1, i2, i3⟩ := hI
    unfold wp_X1_trimOfMoves_l11 wp_X1_trimOfMoves_b62
    refine ⟨fun c => absurd c (nI_ge hm (by omega)), fun _ => ⟨fun c => absurd c (nI_ge hm (by omega)), fun _ => ?_⟩⟩
    have e1 : μ' 1 a 0 = μ 1 a 0 := by rw [i3 1 a (by omega)]
    have e2 : μ' 1 a2 0 = μ 1 a2 0 := by rw [i3 1 a2 (by omega)]
    have e7 : μ' 7 a = μ 7 a := by rw [i3 7 a (by omega)]
    have e8 : μ' 7 a2 = μ 7 a2 := by rw [i3 7 a2 (by omega)]
    have hv : vp_in (nI m) 6 := vi hm (by omega)
    simp only [forall_eq, e1, e2, w_isIn, b2i_0, nI_1, cl (show m < 100000 by omega), e7, e8, hv, true_and, hp]
    refine ⟨fun c => ih μ' ?_, fun c => ?_⟩
    · simp only [putN, c]
      exact ⟨i1, i2, i3⟩
    · have c' : p m = true := by simpa using c
      have hz := putN_sz (μ 11 j) p v m
      have h5 := cntB_5 _ hf hn hm c'
      refine w_put (k := (putN (μ 11 j) p v m).2) (by omega) i1 (ih _ ?_)
      simp only [putN, c', if_true]
      refine ⟨?_, ?_, frN_put i3 _ _⟩
      · rw [mr_s, upd_s]
      · rw [mr_k _ _ (by decide), mr_s, i2, ← hvv]
  · refine ⟨?_, ?_, ?_⟩
    · rw [mr_s, upd_s]; rfl
    · rw [mr_k _ _ (by decide), mr_s, mr_k _ _ (by decide)]; rfl
    · intro k i hk
      rw [mr_n _ _ (fun z => hk ⟨Or.inl z.1, z.2⟩), mr_n _ _ (fun z => hk ⟨Or.inr z.1, z.2⟩), mr_n _ _ (fun z => hk ⟨Or.inl z.1, z.2⟩)]
/-! the reference -/
theorem w6_lay_l (v : Int32) : ∀ (k : Nat) (μ : Mem) (q : Mem → Prop), k < 8 → q (mr (mr μ 23 0 (insF v k (μ 23 0))) 6 0 (upd (μ 6 0) 4 (μ 6 0 4 + 1))) → wp_X6_lay_l5 v q (k + 1) (nI k) μ
  | 0, μ, q, hk, h => by
    unfold wp_X6_lay_l5
    refine ⟨fun _ => ?_, fun c => absurd (by decide) c⟩
    unfold wp_X6_lay_b41
    simp only [forall_eq, cl (show 0 < 100000 by omega)]
    exact ⟨vi (by omega) (by omega), by simpa [ms_mr, mr_k, insF] using h⟩
  | k + 1, μ, q, hk, h => by
    unfold wp_X6_lay_l5
    refine ⟨fun c => absurd c (nI_nle (by omega) (by omega)), fun _ => ?_⟩
    rw [nI_pred, pk_m1, cl (show k < 100000 by omega), cl (show k + 1 < 100000 by omega)]
    have h6 : vp_in (nI k) 8 := vi (by omega) (by omega)
    have h7 : vp_in (nI (k + 1)) 8 := vi (by omega) (by omega)
    simp only [forall_eq, h6, h7, true_and]
    refine ⟨fun c => ?_, fun c => ?_⟩
    · unfold wp_X6_lay_b41
      simp only [forall_eq, cl (show k + 1 < 100000 by omega), h7, true_and]
      simpa [ms_mr, mr_k, insF, c] using h
    · refine w6_lay_l v k _ q (by omega) ?_
      simpa [ms_mr, mr_k, mr_s, mr_mr, insF, c] using h
theorem w6_lay {k : Nat} {v : Int32} {μ : Mem} {q : Mem → Prop} (hk : k < 8) (hs : μ 6 0 4 = nI k) (h : q (mr (mr μ 23 0 (insF v k (μ 23 0))) 6 0 (upd (μ 6 0) 4 (nI (k + 1))))) : wp_X6_lay v μ q := by
  unfold wp_X6_lay
  simp only [forall_eq, hs]
  refine ⟨k + 1, w6_lay_l v k μ q hk ?_⟩
  rw [hs, nI_1]
  exact h
theorem w6_trimmed {k : Nat} {μ : Mem} {q : Int32 → Mem → Prop} (h1 : 1 ≤ k) (hk : k ≤ 8) (hs : μ 6 0 4 = nI k) (h : q (trimF (μ 23 0, k)) μ) : wp_X6_trimmed μ q := by
  unfold wp_X6_trimmed wp_X6_trimmed_b13
  simp only [forall_eq, hs]
  have hd : nI k - 1 = nI (k - 1) := pk_sub (b := 1) h1
  refine ⟨fun c => ?_, fun c => ?_⟩
  · have c' : k < 3 := (nI_ltI (by omega) (by omega)).mp c
    have e1 : nI k - 1 - 0 = nI (k - 1) := by rw [hd]; exact pk_sub (b := 0) (by omega)
    rw [e1]
    refine ⟨vi (n := 0) (by omega) (by omega), vi (by omega) (by omega), ?_⟩
    rw [show ((0 : Int32).toNatClampNeg) = 0 from rfl, cl (show k - 1 < 100000 by omega)]
    simpa [trimF, c'] using h
  · have c' : ¬ k < 3 := fun z => c (nI_lt z (by omega))
    have e1 : nI k - 1 - 1 = nI (k - 2) := by rw [hd]; exact pk_sub (a := k - 1) (b := 1) (by omega)
    rw [e1]
    refine ⟨vi (n := 1) (by omega) (by omega), vi (by omega) (by omega), ?_⟩
    rw [show ((1 : Int32).toNatClampNeg) = 1 from rfl, cl (show k - 2 < 100000 by omega)]
    simpa [trimF, c', show k - 1 - 1 = k - 2 by omega] using h
def frM (μ μ' : Mem) : Prop := ∀ k i, ¬ ((k = 6 ∨ k = 23) ∧ i = 0) → μ' k i = μ k i
theorem frM_put {μ0 μ : Mem} (h : frM μ0 μ) (r r' : Nat → Int32) : frM μ0 (mr (mr μ 23 0 r) 6 0 r') := by
  intro k i hk
  rw [mr_n _ _ (fun z => hk ⟨Or.inl z.1, z.2⟩), mr_n _ _ (fun z => hk ⟨Or.inr z.1, z.2⟩)]
  exact h k i hk
theorem shr_inb : ∀ (h : Fin 64) (o : Fin 6), (((nI h >>> (nI o &&& 31)) &&& 1) = 1) ↔ inb (nI h) o = true := by decide +kernel
theorem shr_in {x : Int32} (hx : ∃ h, h < 64 ∧ x = nI h) {o : Nat} (ho : o < 6) : (((x >>> (nI o &&& 31)) &&& 1) = 1) = (inb x o = true) := by
  obtain ⟨h, h1, rfl⟩ := hx
  exact propext (shr_inb ⟨h, h1⟩ ⟨o, ho⟩)
theorem w6_trimSeen {n : Nat} {μ : Mem} {q : Int32 → Mem → Prop} (hn : n < 6) (h64 : ∃ h, h < 64 ∧ μ 28 0 n = nI h) (hq : ∀ μ', frM μ μ' → q (tsF (inb (μ 28 0 n)) (fun o => μ 31 0 (6 * n + o))) μ') : wp_X6_trimSeen (nI n) μ q := by
  unfold wp_X6_trimSeen
  simp only [forall_eq, ms_mr]
  refine w6_lay (k := 0) (by omega) (by rw [mr_s, upd_s]; rfl) ?_
  generalize hp : inb (μ 28 0 n) = p at hq
  generalize hvv : (fun o => μ 31 0 (6 * n + o)) = v at hq
  refine ⟨7, loop6 (fun f m μ' => wp_X6_trimSeen_l12 (nI n) q f (nI m) μ') (fun m μ' => μ' 6 0 4 = nI (putN (μ 23 0) p v m).2 ∧ μ' 23 0 = (putN (μ 23 0) p v m).1 ∧ frM μ μ') ?_ ?_ _ ?_⟩
  · intro μ' hI
    obtain ⟨i1, i2, i3⟩ := hI
    unfold wp_X6_trimSeen_l12
    refine ⟨fun _ => ?_, fun c => absurd (nI_le (Nat.le_refl 6) (by omega)) c⟩
    have hz := putN_sz (μ 23 0) p v 6
    have hlt := cntB_le p 6
    refine w6_trimmed (k := (putN (μ 23 0) p v 6).2) (by omega) (by omega) i1 ?_
    rw [i2]
    have := hq μ' i3
    rw [← tsF_of (r0 := μ 23 0) (p := p) (v := v) (fun _ _ => rfl) (fun _ _ _ => rfl)] at this
    exact this
  · intro k m μ' hm hI ih
    obtain ⟨i1, i2, i3⟩ := hI
    unfold wp_X6_trimSeen_l12 wp_X6_trimSeen_b47
    refine ⟨fun c => absurd c (nI_ge hm (by omega)), fun _ => ?_⟩
    have e1 : μ' 28 0 = μ 28 0 := i3 28 0 (by omega)
    have e7 : μ' 31 0 = μ 31 0 := i3 31 0 (by omega)
    have hv : vp_in (nI n) 6 := vi hn (by omega)
    have hw : vp_in (nI (6 * n + m)) 36 := vi (by omega) (by omega)
    simp only [forall_eq, e1, nI_1, cl (show n < 100000 by omega), e7, hv, true_and, pk_mul, nI_add, hw, cl (show 6 * n + m < 100000 by omega), shr_in h64 hm, hp]
    refine ⟨fun c => ih μ' ?_, fun c' => ?_⟩
    · simp only [putN, c]
      exact ⟨i1, i2, i3⟩
    · have hz := putN_sz (μ 23 0) p v m
      have h5 := cntB_le p m
      refine w6_lay (k := (putN (μ 23 0) p v m).2) (by omega) i1 (ih _ ?_)
      simp only [putN, c', if_true]
      refine ⟨?_, ?_, frM_put i3 _ _⟩
      · rw [mr_s, upd_s]
      · rw [mr_k _ _ (by decide), mr_s, i2, ← hvv]
  · refine ⟨?_, ?_, ?_⟩
    · rw [mr_s, upd_s]; rfl
    · rw [mr_k _ _ (by decide), mr_s, mr_k _ _ (by decide)]; rfl
    · intro k i hk
      rw [mr_n _ _ (fun z => hk ⟨Or.inl z.1, z.2⟩), mr_n _ _ (fun z => hk ⟨Or.inr z.1, z.2⟩), mr_n _ _ (fun z => hk ⟨Or.inl z.1, z.2⟩)]
theorem w6_trimChanged {n : Nat} {μ : Mem} {q : Int32 → Mem → Prop} (hn : n < 6) (hq : ∀ μ', frM μ μ' → q (tsF (inb (μ 28 0 n &&& μ 20 0 (84 + n))) (fun o => μ 31 0 (6 * n + o) - μ 20 0 (96 + 6 * n + o))) μ') : wp_X6_trimChanged (nI n) μ q := by
  unfold wp_X6_trimChanged
  simp only [forall_eq, ms_mr]
  refine w6_lay (k := 0) (by omega) (by rw [mr_s, upd_s]; rfl) ?_
  generalize hp : inb (μ 28 0 n &&& μ 20 0 (84 + n)) = p at hq
  generalize hvv : (fun o => μ 31 0 (6 * n + o) - μ 20 0 (96 + 6 * n + o)) = v at hq
  refine ⟨7, loop6 (fun f m μ' => wp_X6_trimChanged_l12 (nI n) q f (nI m) μ') (fun m μ' => μ' 6 0 4 = nI (putN (μ 23 0) p v m).2 ∧ μ' 23 0 = (putN (μ 23 0) p v m).1 ∧ frM μ μ') ?_ ?_ _ ?_⟩
  · intro μ' hI
    obtain ⟨i1, i2, i3⟩ := hI
    unfold wp_X6_trimChanged_l12
    refine ⟨fun _ => ?_, fun c => absurd (nI_le (Nat.le_refl 6) (by omega)) c⟩
    have hz := putN_sz (μ 23 0) p v 6
    have hlt := cntB_le p 6
    refine w6_trimmed (k := (putN (μ 23 0) p v 6).2) (by omega) (by omega) i1 ?_
    rw [i2]
    have := hq μ' i3
    rw [← tsF_of (r0 := μ 23 0) (p := p) (v := v) (fun _ _ => rfl) (fun _ _ _ => rfl)] at this
    exact this
  · intro k m μ' hm hI ih
    obtain ⟨i1, i2, i3⟩ := hI
    unfold wp_X6_trimChanged_l12 wp_X6_trimChanged_b71
    refine ⟨fun c => absurd c (nI_ge hm (by omega)), fun _ => ?_⟩
    have e1 : μ' 28 0 = μ 28 0 := i3 28 0 (by omega)
    have e2 : μ' 20 0 = μ 20 0 := i3 20 0 (by omega)
    have e7 : μ' 31 0 = μ 31 0 := i3 31 0 (by omega)
    have hv : vp_in (nI n) 6 := vi hn (by omega)
    have hv2 : vp_in (nI (84 + n)) 256 := vi (by omega) (by omega)
    have hw : vp_in (nI (6 * n + m)) 36 := vi (by omega) (by omega)
    have hw2 : vp_in (nI (96 + 6 * n + m)) 256 := vi (by omega) (by omega)
    have hb : (((μ 28 0 n &&& μ 20 0 (84 + n)) &&& (1 <<< (nI m &&& 31))) = 0) = (p m = false) := by
      rw [← hp]
      unfold inb
      show ((_ &&& bit m) = 0) = _
      simp
    simp only [forall_eq, e1, e2, nI_1, cl (show n < 100000 by omega), cl (show 84 + n < 100000 by omega), e7, hv, hv2, true_and, pk_mul, nI_add, hw, hw2, cl (show 6 * n + m < 100000 by omega), cl (show 96 + 6 * n + m < 100000 by omega), hb]
    refine ⟨fun c => ih μ' ?_, fun c => ?_⟩
    · simp only [putN, c]
      exact ⟨i1, i2, i3⟩
    · have c' : p m = true := by simpa using c
      have hz := putN_sz (μ 23 0) p v m
      have h5 := cntB_le p m
      refine w6_lay (k := (putN (μ 23 0) p v m).2) (by omega) i1 (ih _ ?_)
      simp only [putN, c', if_true]
      refine ⟨?_, ?_, frM_put i3 _ _⟩
      · rw [mr_s, upd_s]
      · rw [mr_k _ _ (by decide), mr_s, i2, ← hvv]
  · refine ⟨?_, ?_, ?_⟩
    · rw [mr_s, upd_s]; rfl
    · rw [mr_k _ _ (by decide), mr_s, mr_k _ _ (by decide)]; rfl
    · intro k i hk
      rw [mr_n _ _ (fun z => hk ⟨Or.inl z.1, z.2⟩), mr_n _ _ (fun z => hk ⟨Or.inr z.1, z.2⟩), mr_n _ _ (fun z => hk ⟨Or.inl z.1, z.2⟩)]
