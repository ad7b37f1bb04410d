def putN (r0 : Nat → Int32) (p : Nat → Bool) (v : Nat → Int32) : Nat → (Nat → Int32) × Nat
  | 0 => (insF 0 0 r0, 1)
  | m + 1 => if p m then (insF (v m) (putN r0 p v m).2 (putN r0 p v m).1, (putN r0 p v m).2 + 1) else putN r0 p v m
def trimF (s : (Nat → Int32) × Nat) : Int32 := (s.1 (if s.2 < 3 then 0 else 1) + s.1 (s.2 - 1 - (if s.2 < 3 then 0 else 1))) / nI 2
def tsF (p : Nat → Bool) (v : Nat → Int32) : Int32 := trimF (putN (fun _ => 0) p v 6)
def cntB (p : Nat → Bool) : Nat → Nat
  | 0 => 0
  | m + 1 => if p m then cntB p m + 1 else cntB p m
theorem putN_sz (r0 : Nat → Int32) (p : Nat → Bool) (v : Nat → Int32) : ∀ m, (putN r0 p v m).2 = 1 + cntB p m
  | 0 => rfl
  | m + 1 => by
    have := putN_sz r0 p v m
    simp only [putN, cntB]
    split <;> omega
theorem cntB_le (p : Nat → Bool) : ∀ m, cntB p m ≤ m
  | 0 => Nat.le_refl 0
  | m + 1 => by
    have := cntB_le p m
    simp only [cntB]
    split <;> omega
theorem cntB_lt (p : Nat → Bool) {n : Nat} (hp : p n = false) : ∀ m, n < m → cntB p m < m
  | 0, h => absurd h (Nat.not_lt_zero n)
  | m + 1, h => by
    simp only [cntB]
    by_cases hn : n = m
    · subst hn
      have := cntB_le p n
      simp only [hp]
      simp
      omega
    · have := cntB_lt p hp m (by omega)
      split <;> omega
theorem cntB_step (p : Nat → Bool) : ∀ (d m : Nat), p m = true → cntB p m + 1 ≤ cntB p (m + 1 + d)
  | 0, m, h => by simp [cntB, h]
  | d + 1, m, h => by
    have := cntB_step p d m h
    show _ ≤ cntB p (m + 1 + d + 1)
    simp only [cntB]
    split <;> omega
theorem cntB_5 (p : Nat → Bool) {n m : Nat} (hp : p n = false) (hn : n < 6) (hm : m < 6) (hpm : p m = true) : 1 + cntB p m < 6 := by
  have h1 := cntB_lt p hp 6 hn
  have h2 := cntB_step p (6 - (m + 1)) m hpm
  rw [show m + 1 + (6 - (m + 1)) = 6 by omega] at h2
  omega
theorem putN_congr {r0 r0' : Nat → Int32} {p : Nat → Bool} {v v' : Nat → Int32} : ∀ m, (∀ o, o < m → p o = true → v o = v' o) → ∀ j, j < (putN r0 p v m).2 → (putN r0 p v m).1 j = (putN r0' p v' m).1 j
  | 0, _, j, hj => by
    have : j = 0 := by simp only [putN] at hj; omega
    subst this
    simp [putN, insF, upd]
  | m + 1, h, j, hj => by
    have ih := putN_congr (r0 := r0) (r0' := r0') m (fun o ho => h o (by omega))
    have s1 := putN_sz r0 p v m
    have s2 := putN_sz r0' p v' m
    simp only [putN] at hj ⊢
    by_cases hp : p m = true
    · simp only [hp, if_true] at hj ⊢
      rw [h m (by omega) hp, s2, ← s1]
      exact insF_congr _ _ _ _ ih j (by omega)
    · simp only [hp] at hj ⊢
      simp only [Bool.false_eq_true, if_false] at hj ⊢
      exact ih j hj
theorem trimF_congr {s s' : (Nat → Int32) × Nat} (h2 : s.2 = s'.2) (h0 : 1 ≤ s.2) (h : ∀ j, j < s.2 → s.1 j = s'.1 j) : trimF s = trimF s' := by
  simp only [trimF, ← h2]
  rw [h _ (by split <;> omega), h (s.2 - 1 - _) (by split <;> omega)]
theorem tsF_of {r0 : Nat → Int32} {p p' : Nat → Bool} {v v' : Nat → Int32} (hp : ∀ o, o < 6 → p o = p' o) (hv : ∀ o, o < 6 → p o = true → v o = v' o) : trimF (putN r0 p v 6) = tsF p' v' := by
  have e : ∀ m, m ≤ 6 → putN r0 p v m = putN r0 p' v m := by
    intro m
    induction m with
    | zero => intro _; rfl
    | succ m ih =>
      intro hm
      simp only [putN, ih (by omega), hp m (by omega)]
  have hc : trimF (putN r0 p v 6) = tsF p v' := trimF_congr (by rw [putN_sz, putN_sz]) (by rw [putN_sz]; omega) (putN_congr 6 hv)
  rw [hc]
  unfold tsF
  have e2 : ∀ m, m ≤ 6 → putN (fun _ => 0) p v' m = putN (fun _ => 0) p' v' m := by
    intro m
    induction m with
    | zero => intro _; rfl
    | succ m ih =>
      intro hm
      simp only [putN, ih (by omega), hp m (by omega)]
  rw [e2 6 (Nat.le_refl 6)]
/-! class -/
theorem w_clear4 (j : Nat) (μ : Mem) (q : Mem → Prop) : wp_X4_clear j μ q = q (mr μ 4 j (upd (μ 4 j) 1 0)) := by
  unfold wp_X4_clear
  simp only [forall_eq, ms_mr]
theorem w_put_l (j : Nat) (v : Int32) : ∀ (k : Nat) (μ : Mem) (q : Mem → Prop), k < 6 → q (mr (mr μ 11 j (insF v k (μ 11 j))) 4 j (upd (μ 4 j) 1 (μ 4 j 1 + 1))) → wp_X4_put_l25 j v q (k + 1) (nI k) μ
  | 0, μ, q, hk, h => by
    unfold wp_X4_put_l25
    refine ⟨fun _ => ?_, fun c => absurd (by decide) c⟩
    unfold wp_X4_put_b61
    simp only [forall_eq, cl (show 0 < 100000 by omega)]
    exact ⟨vi (by omega) (by omega), by simpa [ms_mr, mr_k, insF] using h⟩
  | k + 1, μ, q, hk, h => by
    unfold wp_X4_put_l25
    refine ⟨fun c => absurd c (nI_nle (by omega) (by omega)), fun _ => ?_⟩
    rw [nI_pred, pk_m1, cl (show k < 100000 by omega), cl (show k + 1 < 100000 by omega)]
    have h6 : vp_in (nI k) 6 := vi (by omega) (by omega)
    have h7 : vp_in (nI (k + 1)) 6 := vi (by omega) (by omega)
    simp only [forall_eq, h6, h7, true_and]
    refine ⟨fun c => ?_, fun c => ?_⟩
    · unfold wp_X4_put_b61
      simp only [forall_eq, cl (show k + 1 < 100000 by omega), h7, true_and]
      simpa [ms_mr, mr_k, insF, c] using h
    · refine w_put_l j v k _ q (by omega) ?_
      simpa [ms_mr, mr_k, mr_s, mr_mr, insF, c] using h
theorem w_put {j k : Nat} {v : Int32} {μ : Mem} {q : Mem → Prop} (hk : k < 6) (hs : μ 4 j 1 = nI k) (h : q (mr (mr μ 11 j (insF v k (μ 11 j))) 4 j (upd (μ 4 j) 1 (nI (k + 1))))) : wp_X4_put j v μ q := by
  unfold wp_X4_put
  simp only [forall_eq, hs]
  refine ⟨fun c => absurd c (nI_pos (by omega)), fun _ => ⟨fun _ => ⟨k + 1, w_put_l j v k μ q hk ?_⟩, fun c => absurd (nI_lt (by omega) (by omega)) c⟩⟩
  rw [hs, nI_1]
  exact h
theorem w_trimmed {j k : Nat} {μ : Mem} {q : Int32 → Mem → Prop} (h1 : 1 ≤ k) (hk : k ≤ 6) (hs : μ 4 j 1 = nI k) (h : q (trimF (μ 11 j, k)) μ) : wp_X4_trimmed j μ q := by
  unfold wp_X4_trimmed wp_X4_trimmed_b13
  simp only [forall_eq, hs]
  have hd : nI k - 1 = nI (k - 1) := pk_sub (b := 1) h1
  refine ⟨fun c => ?_, fun c => ?_⟩
  · have c' : k < 3 := (nI_ltI (by omega) (by omega)).mp c
    have e1 : nI k - 1 - 0 = nI (k - 1) := by rw [hd]; exact pk_sub (b := 0) (by omega)
    rw [e1]
    refine ⟨fun c2 => absurd c2 (nI_nlt (a := k - 1) (b := 0) (by omega) (by omega)), fun _ => ⟨fun _ => ?_, fun c2 => absurd (nI_lt (by omega) (by omega)) c2⟩⟩
    refine ⟨vi (n := 0) (by omega) (by omega), vi (by omega) (by omega), ?_⟩
    rw [show ((0 : Int32).toNatClampNeg) = 0 from rfl, cl (show k - 1 < 100000 by omega)]
    simpa [trimF, c'] using h
  · have c' : ¬ k < 3 := fun z => c (nI_lt z (by omega))
    have e1 : nI k - 1 - 1 = nI (k - 2) := by rw [hd]; exact pk_sub (a := k - 1) (b := 1) (by omega)
    rw [e1]
    refine ⟨fun c2 => absurd c2 (nI_nlt (a := k - 2) (b := 1) (by omega) (by omega)), fun _ => ⟨fun _ => ?_, fun c2 => absurd (nI_lt (by omega) (by omega)) c2⟩⟩
    refine ⟨vi (n := 1) (by omega) (by omega), vi (by omega) (by omega), ?_⟩
    rw [show ((1 : Int32).toNatClampNeg) = 1 from rfl, cl (show k - 2 < 100000 by omega)]
    simpa [trimF, c', show k - 1 - 1 = k - 2 by omega] using h
def frN (j : Nat) (μ μ' : Mem) : Prop := ∀ k i, ¬ ((k = 4 ∨ k = 11) ∧ i = j) → μ' k i = μ k i
theorem frN_put {j : Nat} {μ0 μ : Mem} (h : frN j μ0 μ) (r r' : Nat → Int32) : frN j μ0 (mr (mr μ 11 j r) 4 j r') := by
  intro k i hk
  rw [mr_n _ _ (fun z => hk ⟨Or.inl z.1, z.2⟩), mr_n _ _ (fun z => hk ⟨Or.inr z.1, z.2⟩)]
  exact h k i hk
theorem w_trimOfSeen {a j : Nat} {μ : Mem} {q : Int32 → Mem → Prop} {n : Nat} (hn : n < 6) (hf : inb (μ 1 a 0) n = false) (hq : ∀ μ', frN j μ μ' → q (tsF (inb (μ 1 a 0)) (μ 7 a)) μ') : wp_X1_trimOfSeen a j μ q := by
  unfold wp_X1_trimOfSeen
  rw [w_clear4]
  refine w_put (k := 0) (by omega) (by rw [mr_s, upd_s]; rfl) ?_
  refine ⟨7, loop6 (fun f m μ' => wp_X1_trimOfSeen_l11 a j q f (nI m) μ') (fun m μ' => μ' 4 j 1 = nI (putN (μ 11 j) (inb (μ 1 a 0)) (μ 7 a) m).2 ∧ μ' 11 j = (putN (μ 11 j) (inb (μ 1 a 0)) (μ 7 a) m).1 ∧ frN j μ μ') ?_ ?_ _ ?_⟩
  · intro μ' hI
    obtain ⟨i1, i2, i3⟩ := hI
    unfold wp_X1_trimOfSeen_l11
    refine ⟨fun _ => ?_, fun c => absurd (nI_le (Nat.le_refl 6) (by omega)) c⟩
    have hz := putN_sz (μ 11 j) (inb (μ 1 a 0)) (μ 7 a) 6
    have hlt := cntB_lt _ hf 6 hn
    refine w_trimmed (k := (putN (μ 11 j) (inb (μ 1 a 0)) (μ 7 a) 6).2) (by omega) (by omega) i1 ?_
    rw [i2]
    have := hq μ' i3
    rw [← tsF_of (r0 := μ 11 j) (p := inb (μ 1 a 0)) (v := μ 7 a) (fun _ _ => rfl) (fun _ _ _ => rfl)] at this
    exact this
  · intro k m μ' hm hI ih
    obtain ⟨i1, i2, i3⟩ := hI
    unfold wp_X1_trimOfSeen_l11 wp_X1_trimOfSeen_b41
    refine ⟨fun c => absurd c (nI_ge hm (by omega)), fun _ => ?_⟩
    have e1 : μ' 1 a 0 = μ 1 a 0 := by rw [i3 1 a (by omega)]
    have e7 : μ' 7 a = μ 7 a := by rw [i3 7 a (by omega)]
    simp only [forall_eq, e1, w_isIn, b2i_0, nI_1, cl (show m < 100000 by omega), e7]
    have hv : vp_in (nI m) 6 := vi hm (by omega)
    refine ⟨fun c => ih μ' ?_, fun c => ⟨hv, ?_⟩⟩
    · simp only [putN, c]
      exact ⟨i1, i2, i3⟩
    · have c' : inb (μ 1 a 0) m = true := by simpa using c
      have hz := putN_sz (μ 11 j) (inb (μ 1 a 0)) (μ 7 a) m
      have h5 := cntB_5 _ hf hn hm c'
      refine w_put (k := (putN (μ 11 j) (inb (μ 1 a 0)) (μ 7 a) m).2) (by omega) i1 (ih _ ?_)
      simp only [putN, c', if_true]
      refine ⟨?_, ?_, frN_put i3 _ _⟩
      · rw [mr_s, upd_s]
      · rw [mr_k _ _ (by decide), mr_s, i2]
  · refine ⟨?_, ?_, ?_⟩
    · rw [mr_s, upd_s]; rfl
    · rw [mr_k _ _ (by decide), mr_s, mr_k _ _ (by decide)]; rfl
    · intro k i hk
      rw [mr_n _ _ (fun z => hk ⟨Or.inl z.1, z.2⟩), mr_n _ _ (fun z => hk ⟨Or.inr z.1, z.2⟩), mr_n _ _ (fun z => hk ⟨Or.inl z.1, z.2⟩)]
