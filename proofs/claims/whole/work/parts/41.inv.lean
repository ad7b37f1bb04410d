/-! what a cycle keeps -/
def Kr (r : Nat → Int32) : Prop := (r 5 = nI 4 → r 10 ≤ 0) ∧ (r 5 = nI 5 → r 10 < nI 3 ∧ r 9 < nI 2)
theorem Kr_cBec {t : Int32} {r : Nat → Int32} : Kr (cBec t r) := by
  have h9 : cBec t r 9 = 0 := by simp [cBec, upd]
  have h10 : cBec t r 10 = 0 := by simp [cBec, upd]
  unfold Kr
  rw [h9, h10]
  exact ⟨fun _ => by decide, fun _ => by decide⟩
theorem Kr_same {r r' : Nat → Int32} (h : Kr r) (h5 : r' 5 = r 5) (h9 : r' 9 = r 9) (h10 : r' 10 = r 10) : Kr r' := by
  unfold Kr
  rw [h5, h9, h10]
  exact h
theorem Kr_cLis2 {st gd gs gp pgd pst : Int32} {r : Nat → Int32} (h : Kr r) : Kr (cLis2 st gd gs gp pgd pst r) := by
  unfold cLis2
  split
  · split
    · exact Kr_cBec
    · split
      · exact h
      · exact Kr_cBec
  · split
    · exact Kr_cBec
    · exact h
theorem Kr_cSet {hd st gd gs gp pgd pst s : Int32} {r : Nat → Int32} (h : Kr r) : Kr (cSet hd st gd gs gp pgd pst s r) := by
  unfold cSet
  split
  · unfold cLis
    exact Kr_cLis2 (Kr_same h (upd_n _ _ (by decide)) (upd_n _ _ (by decide)) (upd_n _ _ (by decide)))
  · split
    · unfold cLead
      split
      · exact Kr_cBec
      · split
        · exact h
        · exact Kr_cBec
    · split
      · unfold cJoin
        split
        · exact Kr_cBec
        · split
          · exact h
          · exact Kr_cBec
      · exact h
theorem Kr_cKeep {r : Nat → Int32} : Kr (cKeep r) := by
  unfold cKeep
  by_cases c1 : r 5 = nI 4 ∧ ¬ r 10 ≤ 0
  · rw [if_pos c1]; exact Kr_cBec
  · rw [if_neg c1]
    by_cases c2 : r 5 = nI 5 ∧ ¬ r 10 < nI 3
    · rw [if_pos c2]; exact Kr_cBec
    · rw [if_neg c2]
      by_cases c3 : r 5 = nI 5 ∧ ¬ r 9 < nI 2
      · rw [if_pos c3]; exact Kr_cBec
      · rw [if_neg c3]
        refine ⟨fun e => Classical.byContradiction (fun z => c1 ⟨e, z⟩), fun e => ⟨Classical.byContradiction (fun z => c2 ⟨e, z⟩), Classical.byContradiction (fun z => c3 ⟨e, z⟩)⟩⟩
theorem Kr_cCor {hd ts tm bd : Int32} {r : Nat → Int32} : Kr (cCor hd ts tm bd r) := by
  unfold cCor
  exact Kr_cKeep
theorem Kr_rT {T : Nat → Int32} {n : Nat} (h : I5 T) (hn : n < 6) : Kr (rT T n) := by
  have h5 : rT T n 5 = T (30 + n) := rT_5 T n
  have h9 : rT T n 9 = T (48 + n) := by simp [rT]
  have h10 : rT T n 10 = T (54 + n) := by simp [rT]
  unfold Kr
  rw [h5, h9, h10]
  exact h n hn
theorem Kr_endR {T : Nat → Int32} {n : Nat} (h : I5 T) (hn : n < 6) : Kr (endR T n) := by
  have hA : Kr (rA T n) := by
    unfold rA
    split
    · exact Kr_cBec
    · exact Kr_rT h hn
  unfold endR
  split
  · exact Kr_cCor
  · exact Kr_cSet hA
def GI (N : Nat) (T : Nat → Int32) : Prop := I5 T ∧ (∃ c, c ≤ N ∧ T 133 = nI c) ∧ (∃ sz, sz ≤ 40 ∧ T 135 = nI sz) ∧ ∀ n, n < 6 → ∃ h, h < 64 ∧ T (84 + n) = nI h
theorem GI_mono {N N' : Nat} {T : Nat → Int32} (h : GI N T) (hN : N ≤ N') : GI N' T := by
  obtain ⟨h1, ⟨c, h2, h3⟩, h4, h5⟩ := h
  exact ⟨h1, ⟨c, by omega, h3⟩, h4, h5⟩
theorem GI_congr {N : Nat} {T T' : Nat → Int32} (h : GI N T) (e : ∀ j, j < 256 → T' j = T j) : GI N T' := by
  obtain ⟨h1, ⟨c, h2, h3⟩, ⟨sz, h4, h5⟩, h6⟩ := h
  refine ⟨fun n hn => ?_, ⟨c, h2, by rw [e _ (by omega)]; exact h3⟩, ⟨sz, h4, by rw [e _ (by omega)]; exact h5⟩, fun n hn => ?_⟩
  · rw [e _ (by omega), e _ (by omega), e _ (by omega)]; exact h1 n hn
  · rw [e _ (by omega)]; exact h6 n hn
theorem GI_cy {N : Nat} {T T' : Nat → Int32} (h : GI N T) (hc : CY T T') : GI (N + 1) T' := by
  obtain ⟨h1, ⟨c, h2, h3⟩, ⟨sz, h4, h5⟩, h6⟩ := h
  obtain ⟨c1, c2, -, c4, -, c6⟩ := hc
  refine ⟨fun n hn => ?_, ⟨c + 1, by omega, by rw [c4, h3, nI_succ]⟩, ?_, fun n hn => ?_⟩
  · have k5 := c1 n hn 5 (by omega) (by omega)
    have k9 := c1 n hn 9 (by omega) (by omega)
    have k10 := c1 n hn 10 (by omega) (by omega)
    rw [FD_k (by omega) (by omega)] at k5 k9 k10
    have e5 : rT T' n 5 = T' (30 + n) := rT_5 T' n
    have e9 : rT T' n 9 = T' (48 + n) := by simp [rT]
    have e10 : rT T' n 10 = T' (54 + n) := by simp [rT]
    rw [← e5, ← e9, ← e10, k5, k9, k10]
    exact Kr_endR h1 hn
  · obtain ⟨sz', z1, z2⟩ := lgN_sz (c := T 133) (nw := fun n => b2i (flT T n)) (s := fun n => rA T n 5) (en := fun n => endR T n 5) h4 h5 6
    exact ⟨sz', z1, by rw [c6 135 (by omega) (by omega)]; exact z2⟩
  · obtain ⟨w, w1, w2⟩ := bits_lt (heT T n)
    exact ⟨w, w1, by rw [(c2 n hn).2.2.1]; exact w2⟩
theorem RB_congr {b : Nat} {μ : Mem} {T T' : Nat → Int32} (h : RB b μ T) (e : ∀ j, j < 256 → T' j = T j) : RB b μ T' := by
  obtain ⟨h1, h2, h3, h4, h5, h6, h7⟩ := h
  refine ⟨fun n hn f hf hf6 => ?_, h2, fun n hn => ?_, by rw [e _ (by omega)]; exact h4, by rw [e _ (by omega)]; exact h5, by rw [e _ (by omega)]; exact h6, LR_congr h7 (fun j _ hj => e j hj)⟩
  · rw [h1 n hn f hf hf6]
    unfold rT
    by_cases c : f < 6
    · rw [if_pos c, if_pos c, e _ (by omega)]
    · rw [if_neg c, if_neg c, if_neg hf6, if_neg hf6, e _ (by omega)]
  · obtain ⟨a1, a2, a3, a4⟩ := h3 n hn
    refine ⟨by rw [e _ (by omega)]; exact a1, by rw [e _ (by omega)]; exact a2, by rw [e _ (by omega)]; exact a3, fun o ho => ?_⟩
    rw [e _ (by omega), e _ (by omega)]
    exact a4 o ho
theorem hx_lo (i : Nat) (x : Int32) : 2 * i ≤ hx i x ∧ hx i x ≤ 2 * i + 1 := by
  have := hx_or i x
  omega
theorem RB_frame {b : Nat} {μ M : Mem} {T : Nat → Int32} (h : RB b μ T) (e : ∀ k i, own b k i → M k i = μ k i) : RB b M T := by
  obtain ⟨h1, h2, h3, h4, h5, h6, h7⟩ := h
  have e3 : ∀ n, n < 6 → M 3 (6 * b + n) = μ 3 (6 * b + n) := fun n hn => e _ _ (by unfold own; omega)
  have e1 : ∀ n x, n < 6 → M 1 (hx (6 * b + n) x) = μ 1 (hx (6 * b + n) x) := fun n x hn => e _ _ (by have := hx_lo (6 * b + n) x; unfold own; omega)
  have e7 : ∀ n x, n < 6 → M 7 (hx (6 * b + n) x) = μ 7 (hx (6 * b + n) x) := fun n x hn => e _ _ (by have := hx_lo (6 * b + n) x; unfold own; omega)
  have e0 : M 0 b = μ 0 b := e _ _ (by unfold own; omega)
  refine ⟨fun n hn => by rw [e3 n hn]; exact h1 n hn, fun n hn => by rw [e3 n hn]; exact h2 n hn, fun n hn => ?_, by rw [e0]; exact h4, by rw [e0]; exact h5, by rw [e0]; exact h6, LR_keep h7 (e _ _ (by unfold own; omega)) (e _ _ (by unfold own; omega)) (e _ _ (by unfold own; omega)) (e _ _ (by unfold own; omega))⟩
  rw [e3 n hn, e1 n _ hn, e7 n _ hn]
  exact h3 n hn
def BG (b : Nat) (μ : Mem) : Prop := ∀ n, n < 6 → nz (μ 3 (6 * b + n) 6) ∧ hx (6 * b + n) (μ 3 (6 * b + n) 15) ≠ hx (6 * b + n) (μ 3 (6 * b + n) 14)
theorem BG_frame {b : Nat} {μ M : Mem} (h : BG b μ) (e : ∀ k i, own b k i → M k i = μ k i) : BG b M := by
  intro n hn
  rw [e 3 (6 * b + n) (by unfold own; omega)]
  exact h n hn
theorem own_ne {b b' k i : Nat} (h : own b k i) (hb : b ≠ b') : ¬ own b' k i := by
  unfold own at *
  omega
theorem own_k {b k i : Nat} (h : own b k i) : k = 0 ∨ k = 1 ∨ k = 2 ∨ k = 3 ∨ k = 4 ∨ k = 7 ∨ k = 8 ∨ k = 9 ∨ k = 10 ∨ k = 11 := by
  unfold own at h
  omega
def img (μ : Mem) (k : Nat) : Nat → Int32 := fun j => μ 21 0 (256 * k + j)
def Inv (N : Nat) (μ : Mem) : Prop :=
  RB 0 μ (μ 20 0) ∧ GI N (μ 20 0) ∧ (∀ b, b < 4 → BG b μ) ∧
  (∀ k, k < 2 → μ 22 0 k = 0 ∨ (μ 22 0 k = 1 ∧ RB (2 + k) μ (img μ k) ∧ GI N (img μ k))) ∧
  μ 5 0 3 = (if μ 22 0 0 = 0 then 0 else 1) + (if μ 22 0 1 = 0 then 0 else nI 2)
theorem Inv_mono {N N' : Nat} {μ : Mem} (h : Inv N μ) (hN : N ≤ N') : Inv N' μ := by
  obtain ⟨h1, h2, h3, h4, h5⟩ := h
  refine ⟨h1, GI_mono h2 hN, h3, fun k hk => ?_, h5⟩
  rcases h4 k hk with z | ⟨z1, z2, z3⟩
  · exact Or.inl z
  · exact Or.inr ⟨z1, z2, GI_mono z3 hN⟩
/-- the pictures stay when only bus 0, the trial bus 1 and the reference's row and working cells change -/
theorem Inv_step {N N' : Nat} {μ M : Mem} (h : Inv N μ) (hN : N ≤ N') (f : ∀ k i, k ≠ 6 → k ≠ 20 → ¬ (23 ≤ k ∧ k ≤ 32) → ¬ (k = 4 ∧ i = 4) → ¬ (k = 11 ∧ i = 4) → ¬ own 0 k i → ¬ own 1 k i → ¬ (k = 21 ∧ i = 0) → M k i = μ k i) (hi : ∀ k, k < 2 → ∀ j, j < 256 → img M k j = img μ k j) (h0 : RB 0 M (M 20 0)) (hG : GI N' (M 20 0)) (b0 : BG 0 M) (b1 : BG 1 M) : Inv N' M := by
  obtain ⟨h1, h2, h3, h4, h5⟩ := h
  have f22 : M 22 0 = μ 22 0 := f 22 0 (by omega) (by omega) (by omega) (by omega) (by omega) (by unfold own; omega) (by unfold own; omega) (by omega)
  have f5 : M 5 0 = μ 5 0 := f 5 0 (by omega) (by omega) (by omega) (by omega) (by omega) (by unfold own; omega) (by unfold own; omega) (by omega)
  have fo : ∀ b, b = 2 ∨ b = 3 → ∀ k i, own b k i → M k i = μ k i := fun b hb k i ho => by
    have hk := own_k ho
    refine f k i (by omega) (by omega) (by omega) ?_ ?_ (own_ne ho (by omega)) (own_ne ho (by omega)) (by omega)
    · unfold own at ho; omega
    · unfold own at ho; omega
  refine ⟨h0, hG, fun b hb => ?_, fun k hk => ?_, by rw [f5, f22]; exact h5⟩
  · by_cases e0 : b = 0
    · subst e0; exact b0
    · by_cases e1 : b = 1
      · subst e1; exact b1
      · exact BG_frame (h3 b hb) (fo b (by omega))
  · rw [f22]
    rcases h4 k hk with z | ⟨z1, z2, z3⟩
    · exact Or.inl z
    · exact Or.inr ⟨z1, RB_congr (RB_frame z2 (fo (2 + k) (by omega))) (hi k hk), GI_mono (GI_congr z3 (hi k hk)) hN⟩
