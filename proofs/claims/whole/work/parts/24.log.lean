/-! what is HEARD of one -/
def cNote (n : Nat) (s kd sl pc : Int32) (r : Nat → Int32) : Nat → Int32 :=
  if kd = 1 then
    (if r 2 = -6 ∨ ¬ r 3 ≤ sl then upd (upd (upd (upd (upd (upd r 0 (r 0 ||| bit n)) 1 (r 1 + 1)) 2 (nI n)) 3 sl) 4 s) 5 pc
     else upd (upd r 0 (r 0 ||| bit n)) 1 (r 1 + 1))
  else upd r 0 (r 0 ||| bit n)
theorem mr_sw17 (μ : Mem) (h h' : Nat) (r7 r : Nat → Int32) : mr (mr μ 7 h' r7) 1 h r = mr (mr μ 1 h r) 7 h' r7 := mr_comm μ _ _ (fun z => absurd z.1 (by decide))
theorem w_note {h n i : Nat} (a : Int32) (μ : Mem) (q : Mem → Prop) (hn : n < 6) : wp_X1_note h (nI n) i a μ q = q (mr (mr μ 1 h (cNote n (μ 3 i 11 + μ 3 i 4 - a) (μ 3 i 0) (μ 3 i 1) (μ 3 i 3 + μ 3 i 12) (μ 1 h))) 7 h (upd (μ 7 h) n (μ 3 i 11 + μ 3 i 4 - a))) := by
  unfold wp_X1_note wp_X1_note_b86 cNote
  have h1 : ¬ nI n < 0 := nI_pos (by omega)
  have h2 : nI n < nI 6 := nI_lt hn (by omega)
  have h3 : vp_in (nI n) 6 := vi hn (by omega)
  have k31 : ∀ (μ : Mem) (j : Nat) (r : Nat → Int32) (b : Nat), mr μ 1 j r 3 b = μ 3 b := fun μ j r b => mr_k μ r (by decide)
  have k37 : ∀ (μ : Mem) (j : Nat) (r : Nat → Int32) (b : Nat), mr μ 7 j r 3 b = μ 3 b := fun μ j r b => mr_k μ r (by decide)
  have k71 : ∀ (μ : Mem) (j : Nat) (r : Nat → Int32) (b : Nat), mr μ 1 j r 7 b = μ 7 b := fun μ j r b => mr_k μ r (by decide)
  have k17 : ∀ (μ : Mem) (j : Nat) (r : Nat → Int32) (b : Nat), mr μ 7 j r 1 b = μ 1 b := fun μ j r b => mr_k μ r (by decide)
  simp only [h1, h2, h3, false_implies, true_implies, not_true_eq_false, not_false_eq_true, true_and, and_true, forall_eq, w_bitOf, cl (show n < 100000 by omega), ms_mr, k31, k37, k71, k17, mr_s, mr_sw17, mr_mr]
  have u1 : ∀ (v w : Int32), upd (upd (μ 1 h) 0 v) 1 w 2 = μ 1 h 2 := fun v w => by rw [upd_n _ _ (by decide), upd_n _ _ (by decide)]
  have u2 : ∀ (v w : Int32), upd (upd (μ 1 h) 0 v) 1 w 3 = μ 1 h 3 := fun v w => by rw [upd_n _ _ (by decide), upd_n _ _ (by decide)]
  have u3 : ∀ (v : Int32), upd (μ 1 h) 0 v 1 = μ 1 h 1 := fun v => upd_n _ _ (by decide)
  simp only [u1, u2, u3]
  by_cases c1 : μ 3 i 0 = 1 <;> by_cases c2 : μ 1 h 2 = -6 <;> by_cases c3 : μ 1 h 3 ≤ μ 3 i 1 <;> simp [c1, c2, c3]
/-! the log -/
def kev (T : Nat → Int32) (c n v : Int32) : Nat → Int32 := fun j =>
  if T 135 = nI 40 then (if 136 ≤ j ∧ j < 253 then T (j + 3) else if j = 253 then c else if j = 254 then n else if j = 255 then v else T j)
  else if j = 136 + 3 * (T 135).toNatClampNeg then c else if j = 137 + 3 * (T 135).toNatClampNeg then n else if j = 138 + 3 * (T 135).toNatClampNeg then v else if j = 135 then T 135 + 1 else T j
def LR (b : Nat) (μ : Mem) (T : Nat → Int32) : Prop := ∃ f sz : Nat, f < 40 ∧ sz ≤ 40 ∧ μ 2 b 3 = nI sz ∧ μ 2 b 4 = nI f ∧ T 135 = nI sz ∧ ∀ e, e < sz → μ 8 b ((f + e) % 40) = T (136 + 3 * e) ∧ μ 9 b ((f + e) % 40) = T (137 + 3 * e) ∧ μ 10 b ((f + e) % 40) = T (138 + 3 * e)
def frL (b : Nat) (μ μ' : Mem) : Prop := ∀ k i, ¬ ((k = 2 ∨ k = 8 ∨ k = 9 ∨ k = 10) ∧ i = b) → μ' k i = μ k i
theorem w_add {b : Nat} {c n v : Int32} {μ : Mem} {T : Nat → Int32} {q : Mem → Prop} (hL : LR b μ T) (hq : ∀ μ', frL b μ μ' → LR b μ' (kev T c n v) → q μ') : wp_X2_add b c n v μ q := by
  obtain ⟨f, sz, hf, hsz, h3, h4, hT, he⟩ := hL
  unfold wp_X2_add
  have k1 : ∀ (μ : Mem) (j : Nat) (r : Nat → Int32) (b : Nat), mr μ 8 j r 9 b = μ 9 b := fun μ j r b => mr_k μ r (by decide)
  have k2 : ∀ (μ : Mem) (j : Nat) (r : Nat → Int32) (b : Nat), mr μ 9 j r 10 b = μ 10 b := fun μ j r b => mr_k μ r (by decide)
  have k3 : ∀ (μ : Mem) (j : Nat) (r : Nat → Int32) (b : Nat), mr μ 8 j r 10 b = μ 10 b := fun μ j r b => mr_k μ r (by decide)
  have k4 : ∀ (μ : Mem) (j : Nat) (r : Nat → Int32) (b : Nat), mr μ 8 j r 2 b = μ 2 b := fun μ j r b => mr_k μ r (by decide)
  have k5 : ∀ (μ : Mem) (j : Nat) (r : Nat → Int32) (b : Nat), mr μ 9 j r 2 b = μ 2 b := fun μ j r b => mr_k μ r (by decide)
  have k6 : ∀ (μ : Mem) (j : Nat) (r : Nat → Int32) (b : Nat), mr μ 10 j r 2 b = μ 2 b := fun μ j r b => mr_k μ r (by decide)
  have hv : vp_in (nI ((f + sz) % 40)) 40 := vi (by omega) (by omega)
  simp only [forall_eq, h3, h4, nI_add, pk_rem (show f + sz < 2 ^ 31 by omega) (show 0 < 40 by omega) (show 40 < 2 ^ 31 by omega), hv, true_and, cl (show (f + sz) % 40 < 100000 by omega), ms_mr, k1, k2, k3, k4, k5, k6, nI_1, pk_rem (show f + 1 < 2 ^ 31 by omega) (show 0 < 40 by omega) (show 40 < 2 ^ 31 by omega)]
  have hfr : ∀ r2, frL b μ (mr (mr (mr (mr μ 8 b (upd (μ 8 b) ((f + sz) % 40) c)) 9 b (upd (μ 9 b) ((f + sz) % 40) n)) 10 b (upd (μ 10 b) ((f + sz) % 40) v)) 2 b r2) := by
    intro r2 k i hk
    rw [mr_n _ _ (fun z => hk ⟨by omega, z.2⟩), mr_n _ _ (fun z => hk ⟨by omega, z.2⟩), mr_n _ _ (fun z => hk ⟨by omega, z.2⟩), mr_n _ _ (fun z => hk ⟨by omega, z.2⟩)]
  have r8 : ∀ r2, (mr (mr (mr (mr μ 8 b (upd (μ 8 b) ((f + sz) % 40) c)) 9 b (upd (μ 9 b) ((f + sz) % 40) n)) 10 b (upd (μ 10 b) ((f + sz) % 40) v)) 2 b r2) 8 b = upd (μ 8 b) ((f + sz) % 40) c := fun r2 => by
    rw [mr_k _ _ (by decide), mr_k _ _ (by decide), mr_k _ _ (by decide), mr_s]
  have r9 : ∀ r2, (mr (mr (mr (mr μ 8 b (upd (μ 8 b) ((f + sz) % 40) c)) 9 b (upd (μ 9 b) ((f + sz) % 40) n)) 10 b (upd (μ 10 b) ((f + sz) % 40) v)) 2 b r2) 9 b = upd (μ 9 b) ((f + sz) % 40) n := fun r2 => by
    rw [mr_k _ _ (by decide), mr_k _ _ (by decide), mr_s]
  have r10 : ∀ r2, (mr (mr (mr (mr μ 8 b (upd (μ 8 b) ((f + sz) % 40) c)) 9 b (upd (μ 9 b) ((f + sz) % 40) n)) 10 b (upd (μ 10 b) ((f + sz) % 40) v)) 2 b r2) 10 b = upd (μ 10 b) ((f + sz) % 40) v := fun r2 => by
    rw [mr_k _ _ (by decide), mr_s]
  refine ⟨fun cc => ?_, fun cc => ?_⟩
  · have c' : sz = 40 := by
      rcases Nat.lt_or_ge sz 40 with z | z
      · exact absurd cc (nI_ge z (by omega))
      · omega
    subst c'
    refine hq _ (hfr _) ⟨(f + 1) % 40, 40, by omega, by omega, ?_, ?_, ?_, ?_⟩
    · rw [mr_s, upd_n _ _ (by decide)]; exact h3
    · rw [mr_s, upd_s]
    · simp only [kev, hT, if_true]
      simp
    · intro e hle
      rw [r8, r9, r10]
      simp only [kev, hT, if_true]
      by_cases h39 : e = 39
      · subst h39
        rw [show ((f + 1) % 40 + 39) % 40 = (f + 40) % 40 by omega]
        simp [upd]
      · have hne : ((f + 1) % 40 + e) % 40 ≠ (f + 40) % 40 := by omega
        simp only [upd, hne, if_false]
        have := he (e + 1) (by omega)
        rw [show (f + (e + 1)) % 40 = ((f + 1) % 40 + e) % 40 by omega] at this
        rw [if_pos (by omega), if_pos (by omega), if_pos (by omega)]
        exact this
  · have c' : sz < 40 := by
      rcases Nat.lt_or_ge sz 40 with z | z
      · exact z
      · exact absurd (nI_le z (by omega)) cc
    have hT40 : ¬ T 135 = nI 40 := by
      rw [hT]
      intro z
      have := (nI_eq (by omega) (by omega)).mp z
      omega
    refine hq _ (hfr _) ⟨f, sz + 1, hf, by omega, ?_, ?_, ?_, ?_⟩
    · rw [mr_s, upd_s]
    · rw [mr_s, upd_n _ _ (by decide)]; exact h4
    · simp only [kev, hT40, if_false]
      rw [hT, cl (by omega), if_neg (by omega), if_neg (by omega), if_neg (by omega), if_pos trivial, nI_1]
    · intro e hle
      rw [r8, r9, r10]
      simp only [kev, hT40, if_false]
      rw [hT, cl (by omega)]
      by_cases h39 : e = sz
      · subst h39
        simp [upd]
      · have hne : (f + e) % 40 ≠ (f + sz) % 40 := by omega
        simp only [upd, hne, if_false]
        have := he e (by omega)
        rw [if_neg (by omega), if_neg (by omega), if_neg (by omega), if_neg (by omega), if_neg (by omega), if_neg (by omega), if_neg (by omega), if_neg (by omega), if_neg (by omega), if_neg (by omega), if_neg (by omega), if_neg (by omega)]
        exact this
