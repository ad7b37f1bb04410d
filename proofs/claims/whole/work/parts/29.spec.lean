/-! ONE CYCLE, over the reference's row T of numbers -/
def rT (T : Nat → Int32) (n : Nat) : Nat → Int32 := fun f => if f < 6 then T (6 * f + n) else if f = 6 then 0 else T (6 * (f - 1) + n)
def rdT (T : Nat → Int32) (n : Nat) : Bool := rdB (T (30 + n)) (T (36 + n))
def fsT (T : Nat → Int32) (n : Nat) : Bool := fsB (T (30 + n)) (T (36 + n))
def sgT (T : Nat → Int32) (n : Nat) : Bool := sgB (T (30 + n)) (T (36 + n))
def wyT (T : Nat → Int32) (n o : Nat) : Bool := decide (¬ o = n) && (rdT T o && (!fsT T o || decide (T (6 + o) < T (6 + n))))
def flT (T : Nat → Int32) (n : Nat) : Bool := fsT T n && anyN (wyT T n) 6
def snT (T : Nat → Int32) (n : Nat) : Bool := rdT T n && !flT T n
def rA (T : Nat → Int32) (n : Nat) : Nat → Int32 := if flT T n = true then cBec 1 (rT T n) else rT T n
def heT (T : Nat → Int32) (n o : Nat) : Bool := awB (rA T n 5) && (decide (¬ o = n) && snT T o)
def hdT (T : Nat → Int32) (n : Nat) : Int32 := bitsN (heT T n) 6
def stT (T : Nat → Int32) (n : Nat) : Int32 := stN (heT T n) T 6
def gdT (T : Nat → Int32) (n : Nat) : Int32 := gN (heT T n) T (fun o => T (6 + o)) 6
def svT (T : Nat → Int32) (n o : Nat) : Int32 := T (60 + o) + T (24 + o) - T (60 + n)
def gsT (T : Nat → Int32) (n : Nat) : Int32 := svT T n (gdT T n).toNatClampNeg
def gpT (T : Nat → Int32) (n : Nat) : Int32 := T (18 + (gdT T n).toNatClampNeg) + T (66 + (gdT T n).toNatClampNeg)
def tsT (T : Nat → Int32) (n : Nat) : Int32 := tsF (inb (hdT T n)) (svT T n)
def tmT (T : Nat → Int32) (n : Nat) : Int32 := tsF (inb (hdT T n &&& T (84 + n))) (fun o => svT T n o - T (96 + 6 * n + o))
def sgA (T : Nat → Int32) : Int32 := b2i (anyN (sgT T) 6)
def odT (T : Nat → Int32) : Bool := decide ((T 133 &&& 1) = 1)
def setR (T : Nat → Int32) (n : Nat) : Nat → Int32 := cSet (hdT T n) (stT T n) (gdT T n) (gsT T n) (gpT T n) (T (78 + n)) (T (90 + n)) (sgA T) (rA T n)
def endR (T : Nat → Int32) (n : Nat) : Nat → Int32 := if odT T = true ∧ (rA T n 5 = nI 4 ∨ rA T n 5 = nI 5) then cCor (hdT T n) (tsT T n) (tmT T n) (T 132) (setR T n) else setR T n
def lgT (T : Nat → Int32) : Nat → Int32 := lgN (T 133) (fun n => b2i (flT T n)) (fun n => rA T n 5) (fun n => endR T n 5) T 6
def CY (T T' : Nat → Int32) : Prop :=
  (∀ n, n < 6 → ∀ f, f < 13 → f ≠ 6 → rT T' n f = FD (endR T n) f) ∧
  (∀ n, n < 6 → T' (72 + n) = T (72 + n) + b2i (snT T n) ∧ T' (78 + n) = gdT T n ∧ T' (84 + n) = hdT T n ∧ T' (90 + n) = stT T n ∧ ∀ o, o < 6 → inb (hdT T n) o = true → T' (96 + 6 * n + o) = svT T n o) ∧
  T' 132 = T 132 ∧ T' 133 = T 133 + 1 ∧ T' 134 = bitsN (snT T) 6 ∧ ∀ j, 135 ≤ j → j < 256 → T' j = lgT T j
/-! rows that agree -/
def AG (r r' : Nat → Int32) : Prop := ∀ f, f < 13 → r f = r' f
theorem AG_upd {r r' : Nat → Int32} {k : Nat} {x x' : Int32} (h : AG r r') (hx : x = x') : AG (upd r k x) (upd r' k x') := by
  intro f hf
  simp only [upd]
  split
  · exact hx
  · exact h f hf
theorem AG_cBec {r r' : Nat → Int32} {t : Int32} (h : AG r r') : AG (cBec t r) (cBec t r') := AG_upd (AG_upd (AG_upd (AG_upd (AG_upd (AG_upd h rfl) rfl) rfl) rfl) rfl) rfl
theorem AG_cFol {r r' : Nat → Int32} {gs gp : Int32} (h : AG r r') : AG (cFol gs gp r) (cFol gs gp r') := by
  unfold cFol
  rw [h 11 (by omega), h 3 (by omega)]
  exact AG_upd (AG_upd h rfl) rfl
theorem AG_cLis2 {st gd gs gp pgd pst : Int32} {r r' : Nat → Int32} (h : AG r r') : AG (cLis2 st gd gs gp pgd pst r) (cLis2 st gd gs gp pgd pst r') := by
  unfold cLis2
  rw [h 0 (by omega), h 8 (by omega), h 2 (by omega)]
  split
  · split
    · exact AG_cBec (AG_cFol h)
    · split
      · exact h
      · exact AG_cBec h
  · split
    · exact AG_cBec (AG_cFol h)
    · exact h
theorem AG_cLead {st : Int32} {r r' : Nat → Int32} (h : AG r r') : AG (cLead st r) (cLead st r') := by
  unfold cLead
  rw [h 7 (by omega)]
  split
  · exact AG_cBec h
  · split
    · exact h
    · exact AG_cBec h
theorem AG_cJoin {st : Int32} {r r' : Nat → Int32} (h : AG r r') : AG (cJoin st r) (cJoin st r') := by
  unfold cJoin
  rw [h 7 (by omega)]
  split
  · exact AG_cBec h
  · split
    · exact h
    · exact AG_cBec h
theorem AG_cSet {hd st gd gs gp pgd pst s : Int32} {r r' : Nat → Int32} (h : AG r r') : AG (cSet hd st gd gs gp pgd pst s r) (cSet hd st gd gs gp pgd pst s r') := by
  unfold cSet
  rw [h 5 (by omega)]
  split
  · unfold cLis
    rw [h 8 (by omega)]
    exact AG_cLis2 (AG_upd h rfl)
  · split
    · exact AG_cLead h
    · split
      · exact AG_cJoin h
      · exact h
theorem AG_cKeep {r r' : Nat → Int32} (h : AG r r') : AG (cKeep r) (cKeep r') := by
  unfold cKeep
  rw [h 5 (by omega), h 10 (by omega), h 9 (by omega)]
  split
  · exact AG_cBec h
  · split
    · exact AG_cBec h
    · split
      · exact AG_cBec h
      · exact h
theorem AG_cCor {hd ts tm bd : Int32} {r r' : Nat → Int32} (h : AG r r') : AG (cCor hd ts tm bd r) (cCor hd ts tm bd r') := by
  unfold cCor
  rw [h 10 (by omega), h 9 (by omega), h 11 (by omega), h 12 (by omega)]
  refine AG_cKeep ?_
  split
  · exact AG_upd (AG_upd h rfl) rfl
  · exact AG_upd (AG_upd (AG_upd (AG_upd h rfl) rfl) rfl) rfl
theorem AG_FD {r r' : Nat → Int32} (h : AG r r') : AG (FD r) (FD r') := by
  unfold FD
  rw [h 6 (by omega), h 5 (by omega), h 11 (by omega), h 3 (by omega), h 12 (by omega), h 7 (by omega)]
  have h1 : AG (if awB (r' 5) then upd r 11 (r' 11 + (r' 3 + r' 12)) else r) (if awB (r' 5) then upd r' 11 (r' 11 + (r' 3 + r' 12)) else r') := by
    split
    · exact AG_upd h rfl
    · exact h
  split
  · exact AG_upd h1 rfl
  · exact h1
theorem cSet_gs {hd gs gp gs' gp' pgd pst s : Int32} {r : Nat → Int32} : cSet hd 0 (-6) gs gp pgd pst s r = cSet hd 0 (-6) gs' gp' pgd pst s r := by
  unfold cSet cLis cLis2
  have h0 : ((0 : Int32) < nI 2) := by decide
  simp [h0]
theorem FD_k {r : Nat → Int32} {f : Nat} (h7 : f ≠ 7) (h11 : f ≠ 11) : FD r f = r f := by
  unfold FD
  split
  · rw [upd_n _ _ h7]
    split
    · rw [upd_n _ _ h11]
    · rfl
  · split
    · rw [upd_n _ _ h11]
    · rfl
def RB (b : Nat) (μ : Mem) (T : Nat → Int32) : Prop :=
  (∀ n, n < 6 → ∀ f, f < 14 → f ≠ 6 → μ 3 (6 * b + n) f = rT T n f) ∧
  (∀ n, n < 6 → hx (6 * b + n) (μ 3 (6 * b + n) 15) ≠ hx (6 * b + n) (μ 3 (6 * b + n) 14)) ∧
  (∀ n, n < 6 → μ 1 (hx (6 * b + n) (μ 3 (6 * b + n) 14)) 0 = T (84 + n) ∧ μ 1 (hx (6 * b + n) (μ 3 (6 * b + n) 14)) 1 = T (90 + n) ∧ μ 1 (hx (6 * b + n) (μ 3 (6 * b + n) 14)) 2 = T (78 + n) ∧ ∀ o, o < 6 → inb (T (84 + n)) o = true → μ 7 (hx (6 * b + n) (μ 3 (6 * b + n) 14)) o = T (96 + 6 * n + o)) ∧
  μ 0 b 3 = T 132 ∧ μ 0 b 4 = T 133 ∧ μ 0 b 5 = T 134 ∧ LR b μ T
def own (b k i : Nat) : Prop := (k = 3 ∧ 6 * b ≤ i ∧ i < 6 * b + 6) ∨ ((k = 1 ∨ k = 7) ∧ 12 * b ≤ i ∧ i < 12 * b + 12) ∨ ((k = 0 ∨ k = 2 ∨ k = 4 ∨ k = 8 ∨ k = 9 ∨ k = 10 ∨ k = 11) ∧ i = b)
theorem rT_5 (T : Nat → Int32) (n : Nat) : rT T n 5 = T (30 + n) := by simp [rT]
theorem rT_7 (T : Nat → Int32) (n : Nat) : rT T n 7 = T (36 + n) := by simp [rT]
theorem rT_1 (T : Nat → Int32) (n : Nat) : rT T n 1 = T (6 + n) := by simp [rT]
theorem rT_0 (T : Nat → Int32) (n : Nat) : rT T n 0 = T n := by simp [rT]
theorem rT_3 (T : Nat → Int32) (n : Nat) : rT T n 3 = T (18 + n) := by simp [rT]
theorem rT_4 (T : Nat → Int32) (n : Nat) : rT T n 4 = T (24 + n) := by simp [rT]
theorem rT_11 (T : Nat → Int32) (n : Nat) : rT T n 11 = T (60 + n) := by simp [rT]
theorem rT_12 (T : Nat → Int32) (n : Nat) : rT T n 12 = T (66 + n) := by simp [rT]
theorem rT_13 (T : Nat → Int32) (n : Nat) : rT T n 13 = T (72 + n) := by simp [rT]
theorem rA_k (T : Nat → Int32) (n : Nat) {f : Nat} (h : f < 5 ∨ 11 ≤ f) : rA T n f = rT T n f := by
  unfold rA
  split
  · rw [cBec_k h]
  · rfl
theorem fs_rd (T : Nat → Int32) (n : Nat) (h : fsT T n = true) : rdT T n = true := by
  simp only [fsT, fsB, Bool.and_eq_true, decide_eq_true_eq] at h
  simp only [rdT, rdB, h.1, h.2]
  decide
theorem FA_row {T : Nat → Int32} {n : Nat} {r : Nat → Int32} (h : ∀ f, f < 14 → f ≠ 6 → r f = rT T n f) : AG (FA (flT T) (snT T) n r) (rA T n) ∧ FA (flT T) (snT T) n r 13 = T (72 + n) + b2i (snT T n) ∧ FA (flT T) (snT T) n r 14 = r 14 ∧ FA (flT T) (snT T) n r 15 = r 15 := by
  have hu : AG (upd r 6 0) (rT T n) := by
    intro f hf
    simp only [upd]
    split
    · next e => subst e; simp [rT]
    · next e => exact h f (by omega) e
  have h13 := h 13 (by omega) (by omega)
  rw [rT_13] at h13
  unfold FA rA
  rcases Bool.eq_false_or_eq_true (snT T n) with c | c
  · have cf : flT T n = false := by
      simp only [snT, Bool.and_eq_true, Bool.not_eq_true'] at c
      exact c.2
    rw [c, cf]
    simp only [if_true, Bool.false_eq_true, if_false]
    refine ⟨fun f hf => ?_, ?_, ?_, ?_⟩
    · rw [upd_n _ _ (by omega)]; exact hu f hf
    · rw [upd_s, h13]; rfl
    · rw [upd_n _ _ (by omega), upd_n _ _ (by omega)]
    · rw [upd_n _ _ (by omega), upd_n _ _ (by omega)]
  · rw [c]
    simp only [Bool.false_eq_true, if_false]
    have z : T (72 + n) + b2i false = T (72 + n) := by rw [b2i_f]; simp
    rw [z]
    split
    · refine ⟨AG_cBec hu, ?_, ?_, ?_⟩
      · rw [cBec_k (by omega), upd_n _ _ (by omega)]; exact h13
      · rw [cBec_k (by omega), upd_n _ _ (by omega)]
      · rw [cBec_k (by omega), upd_n _ _ (by omega)]
    · refine ⟨hu, ?_, ?_, ?_⟩
      · rw [upd_n _ _ (by omega)]; exact h13
      · rw [upd_n _ _ (by omega)]
      · rw [upd_n _ _ (by omega)]
