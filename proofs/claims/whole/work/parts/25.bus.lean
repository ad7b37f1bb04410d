theorem loop6c (P : Nat → Nat → Prop) (h0 : P 1 6) (hs : ∀ k m, m < 6 → P k (m + 1) → P (k + 1) m) : P 7 0 :=
  loop6 (fun f m _ => P f m) (fun _ _ => True) (fun _ _ => h0) (fun k m μ hm _ ih => hs k m hm (ih μ trivial)) (fun _ _ _ => 0) trivial
theorem le66 : nI 6 ≤ nI 6 := nI_le (Nat.le_refl 6) (by omega)
theorem nI_ne {a b : Nat} (ha : a < 100000) (hb : b < 100000) : (nI a = nI b) = (a = b) := propext (nI_eq (by omega) (by omega))
theorem anyN_t {p : Nat → Bool} {o : Nat} (hp : p o = true) : ∀ m, o < m → anyN p m = true
  | 0, h => absurd h (Nat.not_lt_zero o)
  | m + 1, h => by
    simp only [anyN]
    by_cases e : o = m
    · subst e; simp [hp]
    · rw [anyN_t hp m (by omega)]; rfl
theorem anyN_ex {p : Nat → Bool} : ∀ m, anyN p m = true → ∃ o, o < m ∧ p o = true
  | 0, h => by simp [anyN] at h
  | m + 1, h => by
    simp only [anyN, Bool.or_eq_true] at h
    rcases h with h | h
    · obtain ⟨o, h1, h2⟩ := anyN_ex m h
      exact ⟨o, by omega, h2⟩
    · exact ⟨m, by omega, h⟩
theorem w_thatAre (b : Nat) (t : Int32) (μ : Mem) (q : Int32 → Mem → Prop) (h : q (bitsN (fun n => decide (μ 3 (6 * b + n) 5 = t)) 6) μ) : wp_X0_thatAre b t μ q := by
  refine ⟨7, loop6c (fun f m => wp_X0_thatAre_l4 b t q f (bitsN (fun n => decide (μ 3 (6 * b + n) 5 = t)) m) (nI m) μ) ?_ ?_⟩
  · unfold wp_X0_thatAre_l4
    exact ⟨fun _ => h, fun c => absurd le66 c⟩
  · intro k m hm ih
    unfold wp_X0_thatAre_l4 wp_X0_thatAre_b33
    refine ⟨fun c => absurd c (nI_ge hm (by omega)), fun _ => ⟨vi hm (by omega), ?_⟩⟩
    simp only [forall_eq, cl (show m < 100000 by omega), w_bitOf, nI_1]
    simp only [bitsN] at ih
    by_cases c : μ 3 (6 * b + m) 5 = t
    · simpa [c] using ih
    · simpa [c] using ih
theorem w_awake (b : Nat) (μ : Mem) (q : Int32 → Mem → Prop) (h : q (bitsN (fun n => awB (μ 3 (6 * b + n) 5)) 6) μ) : wp_X0_awake b μ q := by
  refine ⟨7, loop6c (fun f m => wp_X0_awake_l4 b q f (bitsN (fun n => awB (μ 3 (6 * b + n) 5)) m) (nI m) μ) ?_ ?_⟩
  · unfold wp_X0_awake_l4
    exact ⟨fun _ => h, fun c => absurd le66 c⟩
  · intro k m hm ih
    unfold wp_X0_awake_l4 wp_X0_awake_b32
    refine ⟨fun c => absurd c (nI_ge hm (by omega)), fun _ => ⟨vi hm (by omega), ?_⟩⟩
    simp only [forall_eq, cl (show m < 100000 by omega), w_bitOf, nI_1, w_isAwake, b2i_0]
    simp only [bitsN] at ih
    by_cases c : awB (μ 3 (6 * b + m) 5) = true
    · simpa [c] using ih
    · simpa [c] using ih
theorem w_isSlot (b : Nat) (sl : Int32) {n : Nat} (hn : n < 6) (μ : Mem) (q : Int32 → Mem → Prop) (h : q (b2i (anyN (fun o => decide (¬ o = n) && decide (μ 3 (6 * b + o) 1 = sl)) 6)) μ) : wp_X0_isSlotOfAnother b sl (nI n) μ q := by
  generalize hp : (fun o => decide (¬ o = n) && decide (μ 3 (6 * b + o) 1 = sl)) = p at h
  have hp' : ∀ o, p o = (decide (¬ o = n) && decide (μ 3 (6 * b + o) 1 = sl)) := fun o => (congrFun hp o).symm
  refine ⟨7, loop6 (fun f m μ' => wp_X0_isSlotOfAnother_l2 b sl (nI n) q f (nI m) μ') (fun m μ' => μ' = μ ∧ anyN p m = false) ?_ ?_ _ ⟨rfl, rfl⟩⟩
  · intro μ' hI
    obtain ⟨rfl, hI⟩ := hI
    unfold wp_X0_isSlotOfAnother_l2
    refine ⟨fun _ => ?_, fun c => absurd le66 c⟩
    rw [hI] at h
    exact h
  · intro k m μ' hm hI ih
    obtain ⟨rfl, hI⟩ := hI
    unfold wp_X0_isSlotOfAnother_l2 wp_X0_isSlotOfAnother_b31
    refine ⟨fun c => absurd c (nI_ge hm (by omega)), fun _ => ?_⟩
    simp only [forall_eq, cl (show m < 100000 by omega), nI_1, vi hm (show 6 < 100000 by omega), true_and, nI_ne (show m < 100000 by omega) (show n < 100000 by omega)]
    refine ⟨fun c => ih _ ⟨rfl, ?_⟩, fun c => ⟨fun c2 => ih _ ⟨rfl, ?_⟩, fun c2 => ?_⟩⟩
    · show (anyN p m || p m) = false
      rw [hI, hp' m]; simp [c]
    · show (anyN p m || p m) = false
      rw [hI, hp' m]; simp [c2]
    · have : p m = true := by rw [hp' m]; simp [c, c2]
      rw [anyN_t this 6 hm] at h
      exact h
theorem w_isSign (b : Nat) (μ : Mem) (q : Int32 → Mem → Prop) (h : q (b2i (anyN (fun n => sgB (μ 3 (6 * b + n) 5) (μ 3 (6 * b + n) 7)) 6)) μ) : wp_X0_isSignGiven b μ q := by
  generalize hp : (fun n => sgB (μ 3 (6 * b + n) 5) (μ 3 (6 * b + n) 7)) = p at h
  have hp' : ∀ n, sgB (μ 3 (6 * b + n) 5) (μ 3 (6 * b + n) 7) = p n := fun n => congrFun hp n
  refine ⟨7, loop6 (fun f m μ' => wp_X0_isSignGiven_l2 b q f (nI m) μ') (fun m μ' => μ' = μ ∧ anyN p m = false) ?_ ?_ _ ⟨rfl, rfl⟩⟩
  · intro μ' hI
    obtain ⟨rfl, hI⟩ := hI
    unfold wp_X0_isSignGiven_l2
    refine ⟨fun _ => ?_, fun c => absurd le66 c⟩
    rw [hI] at h
    exact h
  · intro k m μ' hm hI ih
    obtain ⟨rfl, hI⟩ := hI
    unfold wp_X0_isSignGiven_l2
    refine ⟨fun c => absurd c (nI_ge hm (by omega)), fun _ => ⟨vi hm (by omega), ?_⟩⟩
    simp only [forall_eq, cl (show m < 100000 by omega), nI_1, w_givesSign, b2i_0, hp']
    refine ⟨fun c => ih _ ⟨rfl, ?_⟩, fun c => ?_⟩
    · simp [anyN, hI, c]
    · rw [anyN_t (by simpa using c) 6 hm] at h
      exact h
/-! the greatest less the least -/
def lsN (p : Nat → Bool) (v : Nat → Int32) : Nat → Int32
  | 0 => 0
  | m + 1 => if p m then (if anyN p m then (if v m < lsN p v m then v m else lsN p v m) else v m) else lsN p v m
def gsN (p : Nat → Bool) (v : Nat → Int32) : Nat → Int32
  | 0 => 0
  | m + 1 => if p m then (if anyN p m then (if gsN p v m < v m then v m else gsN p v m) else v m) else gsN p v m
def spN (p : Nat → Bool) (v : Nat → Int32) : Int32 := gsN p v 6 - lsN p v 6
theorem spN_congr {p p' : Nat → Bool} {v v' : Nat → Int32} (hp : ∀ n, n < 6 → p n = p' n) (hv : ∀ n, n < 6 → v n = v' n) : spN p v = spN p' v' := by
  have key : ∀ m, m ≤ 6 → lsN p v m = lsN p' v' m ∧ gsN p v m = gsN p' v' m := by
    intro m
    induction m with
    | zero => intro _; exact ⟨rfl, rfl⟩
    | succ m ih =>
      intro hm
      obtain ⟨i1, i2⟩ := ih (by omega)
      have ha : anyN p m = anyN p' m := anyN_congr m (fun n hn => hp n (by omega))
      simp only [lsN, gsN, i1, i2, ha, hp m (by omega), hv m (by omega), and_self]
  unfold spN
  rw [(key 6 (Nat.le_refl 6)).1, (key 6 (Nat.le_refl 6)).2]
theorem w_apart (b : Nat) (x : Int32) (μ : Mem) (q : Int32 → Mem → Prop) (h : q (spN (inb x) (fun n => μ 3 (6 * b + n) 11)) μ) : wp_X0_apart b x μ q := by
  refine ⟨7, loop6c (fun f m => wp_X0_apart_l10 b x q f (b2i (anyN (inb x) m)) (lsN (inb x) (fun n => μ 3 (6 * b + n) 11) m) (gsN (inb x) (fun n => μ 3 (6 * b + n) 11) m) (nI m) μ) ?_ ?_⟩
  · unfold wp_X0_apart_l10
    exact ⟨fun _ => h, fun c => absurd le66 c⟩
  · intro k m hm ih
    unfold wp_X0_apart_l10 wp_X0_apart_b56 wp_X0_apart_b73 wp_X0_apart_b77
    refine ⟨fun c => absurd c (nI_ge hm (by omega)), fun _ => ?_⟩
    simp only [forall_eq, cl (show m < 100000 by omega), nI_1, w_isIn, b2i_0, vi hm (show 6 < 100000 by omega), true_and]
    simp only [lsN, gsN, anyN] at ih
    cases c1 : inb x m
    · simp only [c1, Bool.or_false, Bool.false_eq_true, if_false] at ih
      simpa using ih
    · simp only [c1, Bool.or_true, if_true, b2i_t] at ih
      cases c2 : anyN (inb x) m
      · simp only [c2, Bool.false_eq_true, if_false] at ih
        simpa using ih
      · simp only [c2, if_true] at ih
        simpa using ih
/-! who gives way -/
theorem w_givesWay {b n : Nat} (hn : n < 6) (x : Int32) (μ : Mem) (q : Int32 → Mem → Prop) (h : q (b2i (anyN (fun o => decide (¬ o = n) && (inb x o && (!fsB (μ 3 (6 * b + o) 5) (μ 3 (6 * b + o) 7) || decide (μ 3 (6 * b + o) 1 < μ 3 (6 * b + n) 1)))) 6)) μ) : wp_X0_givesWay b (6 * b + n) (nI n) x μ q := by
  generalize hp : (fun o => decide (¬ o = n) && (inb x o && (!fsB (μ 3 (6 * b + o) 5) (μ 3 (6 * b + o) 7) || decide (μ 3 (6 * b + o) 1 < μ 3 (6 * b + n) 1)))) = p at h
  have hp' : ∀ o, p o = (decide (¬ o = n) && (inb x o && (!fsB (μ 3 (6 * b + o) 5) (μ 3 (6 * b + o) 7) || decide (μ 3 (6 * b + o) 1 < μ 3 (6 * b + n) 1)))) := fun o => (congrFun hp o).symm
  refine ⟨7, loop6 (fun f m μ' => wp_X0_givesWay_l3 b (6 * b + n) (nI n) x q f (nI m) μ') (fun m μ' => μ' = μ ∧ anyN p m = false) ?_ ?_ _ ⟨rfl, rfl⟩⟩
  · intro μ' hI
    obtain ⟨rfl, hI⟩ := hI
    unfold wp_X0_givesWay_l3
    refine ⟨fun _ => ?_, fun c => absurd le66 c⟩
    rw [hI] at h
    exact h
  · intro k m μ' hm hI ih
    obtain ⟨rfl, hI⟩ := hI
    unfold wp_X0_givesWay_l3 wp_X0_givesWay_b60
    refine ⟨fun c => absurd c (nI_ge hm (by omega)), fun _ => ?_⟩
    simp only [forall_eq, cl (show m < 100000 by omega), nI_1, vi hm (show 6 < 100000 by omega), true_and, nI_ne (show m < 100000 by omega) (show n < 100000 by omega), w_isIn, w_isFirst, b2i_0]
    refine ⟨fun c => ih _ ⟨rfl, ?_⟩, fun c => ⟨fun c2 => ih _ ⟨rfl, ?_⟩, fun c2 => ⟨fun c3 => ?_, fun c3 => ⟨fun c4 => ih _ ⟨rfl, ?_⟩, fun c4 => ?_⟩⟩⟩⟩
    · show (anyN p m || p m) = false
      rw [hI, hp' m]; simp [c]
    · show (anyN p m || p m) = false
      rw [hI, hp' m]; simp [c2]
    · have : p m = true := by
        rw [hp' m, c3, show inb x m = true by simpa using c2]
        simp [c]
      rw [anyN_t this 6 hm] at h
      exact h
    · show (anyN p m || p m) = false
      rw [hI, hp' m, show decide (μ' 3 (6 * b + m) 1 < μ' 3 (6 * b + n) 1) = false from decide_eq_false (Int32.not_lt.mpr c4), show fsB (μ' 3 (6 * b + m) 5) (μ' 3 (6 * b + m) 7) = true by simpa using c3]
      simp
    · have : p m = true := by
        rw [hp' m, show decide (μ' 3 (6 * b + m) 1 < μ' 3 (6 * b + n) 1) = true from decide_eq_true (Int32.not_le.mp c4), show inb x m = true by simpa using c2]
        simp [c]
      rw [anyN_t this 6 hm] at h
      exact h
theorem w_thatGiveWay (b : Nat) (x : Int32) (μ : Mem) (q : Int32 → Mem → Prop) (p : Nat → Bool) (hp : ∀ n, n < 6 → (inb x n && (fsB (μ 3 (6 * b + n) 5) (μ 3 (6 * b + n) 7) && anyN (fun o => decide (¬ o = n) && (inb x o && (!fsB (μ 3 (6 * b + o) 5) (μ 3 (6 * b + o) 7) || decide (μ 3 (6 * b + o) 1 < μ 3 (6 * b + n) 1)))) 6)) = p n) (h : q (bitsN p 6) μ) : wp_X0_thatGiveWay b x μ q := by
  refine ⟨7, loop6c (fun f m => wp_X0_thatGiveWay_l4 b x q f (bitsN p m) (nI m) μ) ?_ ?_⟩
  · unfold wp_X0_thatGiveWay_l4
    exact ⟨fun _ => h, fun c => absurd le66 c⟩
  · intro k m hm ih
    unfold wp_X0_thatGiveWay_l4 wp_X0_thatGiveWay_b55
    refine ⟨fun c => absurd c (nI_ge hm (by omega)), fun _ => ?_⟩
    simp only [forall_eq, cl (show m < 100000 by omega), nI_1, vi hm (show 6 < 100000 by omega), true_and, w_isIn, w_isFirst, b2i_0]
    have hpm := hp m hm
    simp only [bitsN, ← hpm] at ih
    refine ⟨fun c => ?_, fun c => ⟨fun c2 => ?_, fun c2 => ?_⟩⟩
    · simpa [c] using ih
    · simpa [c2] using ih
    · refine w_givesWay hm x μ _ ?_
      simp only [b2i_0, w_bitOf]
      simp at c c2
      simp only [c, c2, Bool.true_and] at ih
      refine ⟨fun c3 => ?_, fun c3 => ?_⟩
      · simp only [c3, Bool.false_eq_true, if_false] at ih
        exact ih
      · have c4 := eq_true_of_ne_false c3
        simp only [c4, if_true] at ih
        exact ih
