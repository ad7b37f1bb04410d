/-! a NODE's row (class numbering: 0 kind 1 slot 2 wait 3 drift 4 lie 5 is 6 new 7 age 8 quiet 9 good 10 bad 11 at 12 rate 13 sent) -/
def rdB (s a : Int32) : Bool := (decide (s = nI 2) && decide (1 ≤ a)) || (decide (s = nI 3) || decide (s = nI 4))
def fsB (s a : Int32) : Bool := decide (s = nI 2) && decide (a = 1)
def sgB (s a : Int32) : Bool := decide (s = nI 2) && decide (a = 0)
def awB (s : Int32) : Bool := decide (¬ s = 0) && decide (¬ s = nI 6)
def cBec (t : Int32) (r : Nat → Int32) : Nat → Int32 := upd (upd (upd (upd (upd (upd r 5 t) 6 1) 7 0) 8 0) 9 0) 10 0
def cFol (gs gp : Int32) (r : Nat → Int32) : Nat → Int32 := upd (upd r 11 (r 11 + gs)) 12 (gp - r 3)
def cLis2 (st gd gs gp pgd pst : Int32) (r : Nat → Int32) : Nat → Int32 := if r 0 = 1 then (if ¬ gd = -6 ∧ gd = pgd then cBec (nI 3) (cFol gs gp r) else if r 8 < r 2 then r else cBec (nI 2) r) else if ¬ st < nI 2 ∧ ¬ pst < nI 2 then cBec (nI 4) (cFol gs gp r) else r
def cLis (hd st gd gs gp pgd pst sgn : Int32) (r : Nat → Int32) : Nat → Int32 := cLis2 st gd gs gp pgd pst (upd r 8 (if hd = 0 ∧ sgn = 0 then r 8 + 1 else 0))
def cLead (st : Int32) (r : Nat → Int32) : Nat → Int32 := if ¬ r 7 < nI 3 ∧ ¬ st ≤ 0 then cBec (nI 4) r else if r 7 < nI 7 then r else cBec 1 r
def cJoin (st : Int32) (r : Nat → Int32) : Nat → Int32 := if st = 0 then cBec 1 r else if r 7 < nI 2 then r else cBec (nI 4) r
def cSet (hd st gd gs gp pgd pst sgn : Int32) (r : Nat → Int32) : Nat → Int32 := if r 5 = 1 then cLis hd st gd gs gp pgd pst sgn r else if r 5 = nI 2 then cLead st r else if r 5 = nI 3 then cJoin st r else r
def absF (x : Int32) : Int32 := if 0 ≤ x then x else 0 - x
def clampF (y : Int32) : Int32 := if (-100) < (if y < nI 100 then y else nI 100) then (if y < nI 100 then y else nI 100) else (-100)
def cKeep (r : Nat → Int32) : Nat → Int32 := if r 5 = nI 4 ∧ ¬ r 10 ≤ 0 then cBec (nI 5) r else if r 5 = nI 5 ∧ ¬ r 10 < nI 3 then cBec (nI 6) r else if r 5 = nI 5 ∧ ¬ r 9 < nI 2 then cBec (nI 4) r else r
def cCor (hd ts tm bd : Int32) (r : Nat → Int32) : Nat → Int32 := cKeep (if hd = 0 ∨ ¬ absF ts ≤ bd then upd (upd r 10 (r 10 + 1)) 9 0 else upd (upd (upd (upd r 9 (r 9 + 1)) 10 0) 11 (r 11 + ts)) 12 (clampF (r 12 + tm)))
theorem hx_nrm (i : Nat) (x : Int32) : hx i (if x = 0 then 0 else 1) = hx i x := by
  unfold hx
  by_cases h : x = 0 <;> simp [h]
theorem hx_or (i : Nat) (x : Int32) : hx i x = 2 * i ∨ hx i x = 2 * i + 1 := by
  unfold hx
  by_cases h : x = 0 <;> simp [h]
theorem hx_if (i : Nat) (x : Int32) : (if hx i x = 2 * i then (0 : Int32) else 1) = if x = 0 then 0 else 1 := by
  unfold hx
  by_cases h : x = 0 <;> simp [h]
theorem w_become (i : Nat) (t : Int32) (μ : Mem) (q : Mem → Prop) : wp_X3_become i t μ q = q (mr μ 3 i (cBec t (μ 3 i))) := by
  unfold wp_X3_become cBec
  simp only [forall_eq, ms_mr, mr_s, mr_mr, nz_1, true_and]
theorem w_beginAnew (i : Nat) (t a : Int32) (μ : Mem) (q : Mem → Prop) : wp_X3_beginAnew i t a μ q = q (mr μ 3 i (upd (upd (upd (cBec t (μ 3 i)) 11 a) 12 0) 13 0)) := by
  unfold wp_X3_beginAnew
  simp only [forall_eq, w_become, ms_mr, mr_s, mr_mr]
theorem w_isAwake (i : Nat) (μ : Mem) (q : Int32 → Mem → Prop) : wp_X3_isAwake i μ q = q (b2i (awB (μ 3 i 5))) μ := by
  unfold wp_X3_isAwake awB
  simp only [forall_eq]
  generalize μ 3 i 5 = z
  by_cases h1 : z = 0 <;> by_cases h2 : z = nI 6 <;> simp [h1, h2, b2i]
theorem w_isReady (i : Nat) (μ : Mem) (q : Int32 → Mem → Prop) : wp_X3_isReadyToSend i μ q = q (b2i (rdB (μ 3 i 5) (μ 3 i 7))) μ := by
  unfold wp_X3_isReadyToSend wp_X3_isReadyToSend_b16 wp_X3_isReadyToSend_b32 rdB
  simp only [forall_eq]
  generalize μ 3 i 5 = z
  generalize μ 3 i 7 = w
  by_cases h1 : z = nI 2 <;> by_cases h2 : 1 ≤ w <;> by_cases h3 : z = nI 3 <;> by_cases h4 : z = nI 4 <;> simp [h1, h2, h3, h4, b2i, zz_2_3, zz_2_4, zz_3_2, zz_3_4, zz_4_2, zz_4_3]
theorem w_isFirst (i : Nat) (μ : Mem) (q : Int32 → Mem → Prop) : wp_X3_isFirstTurnOfLeader i μ q = q (b2i (fsB (μ 3 i 5) (μ 3 i 7))) μ := by
  unfold wp_X3_isFirstTurnOfLeader fsB
  simp only [forall_eq]
  generalize μ 3 i 5 = z
  generalize μ 3 i 7 = w
  by_cases h1 : z = nI 2 <;> by_cases h2 : w = 1 <;> simp [h1, h2, b2i]
theorem w_givesSign (i : Nat) (μ : Mem) (q : Int32 → Mem → Prop) : wp_X3_givesSign i μ q = q (b2i (sgB (μ 3 i 5) (μ 3 i 7))) μ := by
  unfold wp_X3_givesSign sgB
  simp only [forall_eq]
  generalize μ 3 i 5 = z
  generalize μ 3 i 7 = w
  by_cases h1 : z = nI 2 <;> by_cases h2 : w = 0 <;> simp [h1, h2, b2i]
theorem w_clear1 (h : Nat) (μ : Mem) (q : Mem → Prop) : wp_X1_clear h μ q = q (mr μ 1 h (upd (upd (upd (μ 1 h) 0 0) 1 0) 2 (-6))) := by
  unfold wp_X1_clear
  simp only [forall_eq, ms_mr, mr_s, mr_mr]
theorem w_turnHearing (i : Nat) (μ : Mem) (q : Mem → Prop) : wp_X3_turnHearing i μ q = q (mr (mr μ 3 i (upd (upd (μ 3 i) 15 (if μ 3 i 14 = 0 then 0 else 1)) 14 (if μ 3 i 15 = 0 then 0 else 1))) 1 (hx i (μ 3 i 15)) (upd (upd (upd (μ 1 (hx i (μ 3 i 15))) 0 0) 1 0) 2 (-6))) := by
  unfold wp_X3_turnHearing
  simp only [forall_eq, hx_or, true_and, hx_if, w_clear1, ms_mr, mr_s, mr_mr, upd_s, hx_nrm]
  rw [mr_k μ _ (by decide)]
theorem w_followGuide (i : Nat) (μ : Mem) (q : Mem → Prop) : wp_X3_followGuide i μ q = q (mr μ 3 i (cFol (μ 1 (hx i (μ 3 i 14)) 4) (μ 1 (hx i (μ 3 i 14)) 5) (μ 3 i))) := by
  unfold wp_X3_followGuide cFol
  simp only [forall_eq, ms_mr, mr_s, mr_mr]
  rw [upd_n (μ 3 i) _ (show 14 ≠ 11 by decide), upd_n (μ 3 i) _ (show 3 ≠ 11 by decide), mr_k μ _ (show 1 ≠ 3 by decide)]
theorem w_settleLeading (i : Nat) (μ : Mem) (q : Mem → Prop) : wp_X3_settleLeading i μ q = q (mr μ 3 i (cLead (μ 1 (hx i (μ 3 i 14)) 1) (μ 3 i))) := by
  unfold wp_X3_settleLeading wp_X3_settleLeading_b26 cLead
  simp only [forall_eq, w_become]
  by_cases h1 : μ 3 i 7 < nI 3 <;> by_cases h2 : μ 1 (hx i (μ 3 i 14)) 1 ≤ 0 <;> by_cases h3 : μ 3 i 7 < nI 7 <;> simp [h1, h2, h3, mr_same]
theorem w_settleJoining (i : Nat) (μ : Mem) (q : Mem → Prop) : wp_X3_settleJoining i μ q = q (mr μ 3 i (cJoin (μ 1 (hx i (μ 3 i 14)) 1) (μ 3 i))) := by
  unfold wp_X3_settleJoining cJoin
  simp only [forall_eq, w_become]
  by_cases h2 : μ 1 (hx i (μ 3 i 14)) 1 = 0 <;> by_cases h3 : μ 3 i 7 < nI 2 <;> simp [h2, h3, mr_same]
theorem w_sl25 (i : Nat) (t s : Int32) (μ : Mem) (q : Mem → Prop) : wp_X3_settleListening_b25 i s q i t μ = q (mr μ 3 i (cLis2 (μ 1 (hx i (μ 3 i 14)) 1) (μ 1 (hx i (μ 3 i 14)) 2) (μ 1 (hx i (μ 3 i 14)) 4) (μ 1 (hx i (μ 3 i 14)) 5) (μ 1 (hx i (μ 3 i 15)) 2) (μ 1 (hx i (μ 3 i 15)) 1) (upd (μ 3 i) 8 t))) := by
  unfold wp_X3_settleListening_b25 wp_X3_settleListening_b77 cLis2
  have e1 : ∀ j, mr μ 3 i (upd (μ 3 i) 8 t) 1 j = μ 1 j := fun j => mr_k μ _ (show 1 ≠ 3 by decide)
  simp only [forall_eq, ms_mr, w_followGuide, w_become, mr_s, mr_mr, e1, upd_n (μ 3 i) t (show 14 ≠ 8 by decide), upd_n (μ 3 i) t (show 15 ≠ 8 by decide), upd_n (μ 3 i) t (show 0 ≠ 8 by decide), upd_n (μ 3 i) t (show 2 ≠ 8 by decide), upd_s]
  by_cases h0 : μ 3 i 0 = 1
  · by_cases h1 : μ 1 (hx i (μ 3 i 14)) 2 = -6
    · by_cases h3 : t < μ 3 i 2 <;> simp [h0, h1, h3]
    · by_cases h2 : μ 1 (hx i (μ 3 i 14)) 2 = μ 1 (hx i (μ 3 i 15)) 2
      · rw [h2] at h1
        simp [h0, h1, h2]
      · by_cases h3 : t < μ 3 i 2 <;> simp [h0, h1, h2, h3]
  · by_cases h1 : μ 1 (hx i (μ 3 i 14)) 1 < nI 2 <;> by_cases h2 : μ 1 (hx i (μ 3 i 15)) 1 < nI 2 <;> simp [h0, h1, h2]
theorem w_settleListening (i : Nat) (s : Int32) (μ : Mem) (q : Mem → Prop) : wp_X3_settleListening i s μ q = q (mr μ 3 i (cLis (μ 1 (hx i (μ 3 i 14)) 0) (μ 1 (hx i (μ 3 i 14)) 1) (μ 1 (hx i (μ 3 i 14)) 2) (μ 1 (hx i (μ 3 i 14)) 4) (μ 1 (hx i (μ 3 i 14)) 5) (μ 1 (hx i (μ 3 i 15)) 2) (μ 1 (hx i (μ 3 i 15)) 1) s (μ 3 i))) := by
  unfold wp_X3_settleListening wp_X3_settleListening_b24 cLis
  simp only [forall_eq, w_sl25]
  by_cases h1 : μ 1 (hx i (μ 3 i 14)) 0 = 0 <;> by_cases h2 : s = 0 <;> simp [h1, h2]
theorem w_settle (i : Nat) (s : Int32) (μ : Mem) (q : Mem → Prop) : wp_X3_settle i s μ q = q (mr μ 3 i (cSet (μ 1 (hx i (μ 3 i 14)) 0) (μ 1 (hx i (μ 3 i 14)) 1) (μ 1 (hx i (μ 3 i 14)) 2) (μ 1 (hx i (μ 3 i 14)) 4) (μ 1 (hx i (μ 3 i 14)) 5) (μ 1 (hx i (μ 3 i 15)) 2) (μ 1 (hx i (μ 3 i 15)) 1) s (μ 3 i))) := by
  unfold wp_X3_settle cSet
  simp only [forall_eq, w_settleListening, w_settleLeading, w_settleJoining]
  by_cases h1 : μ 3 i 5 = 1
  · simp [h1]
  · by_cases h2 : μ 3 i 5 = nI 2
    · simp [h2, zz_2_1]
    · by_cases h3 : μ 3 i 5 = nI 3
      · simp [h3, zz_3_1, zz_3_2]
      · simp [h1, h2, h3, mr_same]
theorem w_b105 (i j : Nat) (b : Int32) (μ : Mem) (q : Mem → Prop) : wp_X3_correct_b105 i b j q μ = q (mr μ 3 i (cKeep (μ 3 i))) := by
  unfold wp_X3_correct_b105 wp_X3_correct_b128 wp_X3_correct_b153 cKeep
  simp only [forall_eq, w_become]
  by_cases h1 : μ 3 i 5 = nI 4 <;> by_cases h2 : μ 3 i 10 ≤ 0 <;> by_cases h3 : μ 3 i 5 = nI 5 <;> by_cases h4 : μ 3 i 10 < nI 3 <;> by_cases h5 : μ 3 i 9 < nI 2 <;> simp [h1, h2, h3, h4, h5, mr_same, zz_4_5, zz_5_4]
theorem inb_and0 {x y : Int32} {n : Nat} (h : inb x n = false) : inb (x &&& y) n = false := by
  simp only [inb, decide_eq_false_iff_not, Classical.not_not] at h ⊢
  rw [Int32.and_assoc, Int32.and_comm y, ← Int32.and_assoc, h]
  simp
theorem w_correct {i j n : Nat} {bd : Int32} {μ : Mem} {q : Mem → Prop} (hn : n < 6) (hf : inb (μ 1 (hx i (μ 3 i 14)) 0) n = false) (hq : ∀ μ', frN j μ μ' → q (mr μ' 3 i (cCor (μ 1 (hx i (μ 3 i 14)) 0) (tsF (inb (μ 1 (hx i (μ 3 i 14)) 0)) (μ 7 (hx i (μ 3 i 14)))) (tsF (inb (μ 1 (hx i (μ 3 i 14)) 0 &&& μ 1 (hx i (μ 3 i 15)) 0)) (fun o => μ 7 (hx i (μ 3 i 14)) o - μ 7 (hx i (μ 3 i 15)) o)) bd (μ 3 i)))) : wp_X3_correct i bd j μ q := by
  unfold wp_X3_correct
  simp only [forall_eq]
  refine w_trimOfSeen hn hf (fun μ1 h1 => ?_)
  generalize hts : tsF (inb (μ 1 (hx i (μ 3 i 14)) 0)) (μ 7 (hx i (μ 3 i 14))) = ts at hq ⊢
  have e3 : μ1 3 i = μ 3 i := h1 3 i (by omega)
  have e1 : ∀ a, μ1 1 a = μ 1 a := fun a => h1 1 a (by omega)
  have e7 : ∀ a, μ1 7 a = μ 7 a := fun a => h1 7 a (by omega)
  unfold wp_X3_correct_b27
  simp only [forall_eq, ms_mr, w_b105, mr_s, mr_mr, e3, e1]
  refine ⟨fun c => ?_, fun c => ⟨fun c2 => ?_, fun c2 => ?_⟩⟩
  · have := hq μ1 h1
    simpa [cCor, c] using this
  · rw [upd_n _ _ (show 14 ≠ 11 by decide), upd_n _ _ (show 14 ≠ 10 by decide), upd_n _ _ (show 14 ≠ 9 by decide), upd_n _ _ (show 15 ≠ 11 by decide), upd_n _ _ (show 15 ≠ 10 by decide), upd_n _ _ (show 15 ≠ 9 by decide)]
    refine w_trimOfMoves hn (by rw [mr_k _ _ (show 1 ≠ 3 by decide), mr_k _ _ (show 1 ≠ 3 by decide), e1, e1]; exact inb_and0 hf) (fun μ2 h2 => ?_)
    rw [mr_k _ _ (show 1 ≠ 3 by decide), mr_k _ _ (show 1 ≠ 3 by decide), mr_k _ _ (show 7 ≠ 3 by decide), mr_k _ _ (show 7 ≠ 3 by decide), e1, e1, e7, e7]
    have e32 : μ2 3 i = upd (upd (upd (μ 3 i) 9 (μ 3 i 9 + 1)) 10 0) 11 (μ 3 i 11 + ts) := by
      rw [h2 3 i (by omega), mr_s]
      rfl
    rw [e32]
    have hfr : frN j μ (mr μ2 3 i (μ 3 i)) := by
      intro k a hk
      by_cases hka : k = 3 ∧ a = i
      · obtain ⟨rfl, rfl⟩ := hka
        rw [mr_s]
      · rw [mr_n _ _ hka, h2 k a hk, mr_n _ _ hka, h1 k a hk]
    have := hq _ hfr
    rw [mr_mr] at this
    have hc : ¬ (μ 1 (hx i (μ 3 i 14)) 0 = 0 ∨ ¬ absF ts ≤ bd) := fun z => z.elim c (fun z => z c2)
    simp only [cCor, hc, if_false] at this
    exact this
  · have := hq μ1 h1
    have hc : (μ 1 (hx i (μ 3 i 14)) 0 = 0 ∨ ¬ absF ts ≤ bd) := Or.inr c2
    simp only [cCor, hc, if_true] at this
    exact this
