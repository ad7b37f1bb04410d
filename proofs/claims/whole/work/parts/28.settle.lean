theorem cBec_k {t : Int32} {r : Nat → Int32} {f : Nat} (h : f < 5 ∨ 11 ≤ f) : cBec t r f = r f := by
  unfold cBec
  rw [upd_n _ _ (by omega), upd_n _ _ (by omega), upd_n _ _ (by omega), upd_n _ _ (by omega), upd_n _ _ (by omega), upd_n _ _ (by omega)]
theorem cFol_k {gs gp : Int32} {r : Nat → Int32} {f : Nat} (h : f < 11 ∨ 13 ≤ f) : cFol gs gp r f = r f := by
  unfold cFol
  rw [upd_n _ _ (by omega), upd_n _ _ (by omega)]
theorem cLis2_k {st gd gs gp pgd pst : Int32} {r : Nat → Int32} {f : Nat} (h : f < 5 ∨ 13 ≤ f) : cLis2 st gd gs gp pgd pst r f = r f := by
  unfold cLis2
  split
  · split
    · rw [cBec_k (by omega), cFol_k (by omega)]
    · split
      · rfl
      · rw [cBec_k (by omega)]
  · split
    · rw [cBec_k (by omega), cFol_k (by omega)]
    · rfl
theorem cSet_k {hd st gd gs gp pgd pst s : Int32} {r : Nat → Int32} {f : Nat} (h : f < 5 ∨ 13 ≤ f) : cSet hd st gd gs gp pgd pst s r f = r f := by
  unfold cSet
  split
  · unfold cLis
    rw [cLis2_k h, upd_n _ _ (by omega)]
  · split
    · unfold cLead
      split
      · rw [cBec_k (by omega)]
      · split
        · rfl
        · rw [cBec_k (by omega)]
    · split
      · unfold cJoin
        split
        · rw [cBec_k (by omega)]
        · split
          · rfl
          · rw [cBec_k (by omega)]
      · rfl
theorem cKeep_k {r : Nat → Int32} {f : Nat} (h : f < 5 ∨ 11 ≤ f) : cKeep r f = r f := by
  unfold cKeep
  split
  · rw [cBec_k h]
  · split
    · rw [cBec_k h]
    · split
      · rw [cBec_k h]
      · rfl
theorem cCor_k {hd ts tm bd : Int32} {r : Nat → Int32} {f : Nat} (h : f < 5 ∨ 13 ≤ f) : cCor hd ts tm bd r f = r f := by
  unfold cCor
  rw [cKeep_k (by omega)]
  split
  · rw [upd_n _ _ (by omega), upd_n _ _ (by omega)]
  · rw [upd_n _ _ (by omega), upd_n _ _ (by omega), upd_n _ _ (by omega), upd_n _ _ (by omega)]
def EN (b : Nat) (μ : Mem) (s : Int32) (od : Bool) (n : Nat) : Nat → Int32 :=
  if od = true ∧ (μ 3 (6 * b + n) 5 = nI 4 ∨ μ 3 (6 * b + n) 5 = nI 5) then
    cCor (μ 1 (hx (6 * b + n) (μ 3 (6 * b + n) 14)) 0) (tsF (inb (μ 1 (hx (6 * b + n) (μ 3 (6 * b + n) 14)) 0)) (μ 7 (hx (6 * b + n) (μ 3 (6 * b + n) 14)))) (tsF (inb (μ 1 (hx (6 * b + n) (μ 3 (6 * b + n) 14)) 0 &&& μ 1 (hx (6 * b + n) (μ 3 (6 * b + n) 15)) 0)) (fun o => μ 7 (hx (6 * b + n) (μ 3 (6 * b + n) 14)) o - μ 7 (hx (6 * b + n) (μ 3 (6 * b + n) 15)) o)) (μ 0 b 3)
      (cSet (μ 1 (hx (6 * b + n) (μ 3 (6 * b + n) 14)) 0) (μ 1 (hx (6 * b + n) (μ 3 (6 * b + n) 14)) 1) (μ 1 (hx (6 * b + n) (μ 3 (6 * b + n) 14)) 2) (μ 1 (hx (6 * b + n) (μ 3 (6 * b + n) 14)) 4) (μ 1 (hx (6 * b + n) (μ 3 (6 * b + n) 14)) 5) (μ 1 (hx (6 * b + n) (μ 3 (6 * b + n) 15)) 2) (μ 1 (hx (6 * b + n) (μ 3 (6 * b + n) 15)) 1) s (μ 3 (6 * b + n)))
  else cSet (μ 1 (hx (6 * b + n) (μ 3 (6 * b + n) 14)) 0) (μ 1 (hx (6 * b + n) (μ 3 (6 * b + n) 14)) 1) (μ 1 (hx (6 * b + n) (μ 3 (6 * b + n) 14)) 2) (μ 1 (hx (6 * b + n) (μ 3 (6 * b + n) 14)) 4) (μ 1 (hx (6 * b + n) (μ 3 (6 * b + n) 14)) 5) (μ 1 (hx (6 * b + n) (μ 3 (6 * b + n) 15)) 2) (μ 1 (hx (6 * b + n) (μ 3 (6 * b + n) 15)) 1) s (μ 3 (6 * b + n))
def lgN (c : Int32) (nw s en : Nat → Int32) (L0 : Nat → Int32) : Nat → (Nat → Int32)
  | 0 => L0
  | m + 1 => if en m = s m then (if nw m = 0 then lgN c nw s en L0 m else kev (lgN c nw s en L0 m) c (nI m) (s m)) else kev (if nw m = 0 then lgN c nw s en L0 m else kev (lgN c nw s en L0 m) c (nI m) (s m)) c (nI m) (en m)
theorem LR_keep {b : Nat} {μ μ' : Mem} {T : Nat → Int32} (h : LR b μ T) (h2 : μ' 2 b = μ 2 b) (h8 : μ' 8 b = μ 8 b) (h9 : μ' 9 b = μ 9 b) (h10 : μ' 10 b = μ 10 b) : LR b μ' T := by
  unfold LR
  rw [h2, h8, h9, h10]
  exact h
def tcs (b k i : Nat) : Prop := (k = 3 ∧ 6 * b ≤ i ∧ i < 6 * b + 6) ∨ ((k = 2 ∨ k = 8 ∨ k = 9 ∨ k = 10 ∨ k = 4 ∨ k = 11) ∧ i = b)
theorem w_settleB {b : Nat} {s : Int32} {μ : Mem} {q : Mem → Prop} {L0 : Nat → Int32} (hL0 : LR b μ L0) (hf : ∀ n, n < 6 → inb (μ 1 (hx (6 * b + n) (μ 3 (6 * b + n) 14)) 0) n = false)
    (hq : ∀ μ', (∀ n, n < 6 → μ' 3 (6 * b + n) = EN b μ s (decide ((μ 0 b 4 &&& 1) = 1)) n) → LR b μ' (lgN (μ 0 b 4) (fun n => μ 3 (6 * b + n) 6) (fun n => μ 3 (6 * b + n) 5) (fun n => EN b μ s (decide ((μ 0 b 4 &&& 1) = 1)) n 5) L0 6) → (∀ k i, ¬ tcs b k i → μ' k i = μ k i) → q μ') : wp_X0_settle b s μ q := by
  generalize hod : decide ((μ 0 b 4 &&& 1) = 1) = od at hq
  have main : wp_X0_settle_b15 b s q (b2i od) μ := by
    unfold wp_X0_settle_b15
    refine ⟨7, loop6 (fun f m μ' => wp_X0_settle_l18 b s q f (b2i od) (nI m) μ') (fun m μ' => (∀ n, n < 6 → μ' 3 (6 * b + n) = if n < m then EN b μ s od n else μ 3 (6 * b + n)) ∧ LR b μ' (lgN (μ 0 b 4) (fun n => μ 3 (6 * b + n) 6) (fun n => μ 3 (6 * b + n) 5) (fun n => EN b μ s od n 5) L0 m) ∧ ∀ k i, ¬ tcs b k i → μ' k i = μ k i) ?_ ?_ _ ⟨fun n _ => by rw [if_neg (Nat.not_lt_zero n)], hL0, fun _ _ _ => rfl⟩⟩
    · intro μ1 h1
      unfold wp_X0_settle_l18
      refine ⟨fun _ => ?_, fun c => absurd le66 c⟩
      exact hq μ1 (fun n hn => by rw [h1.1 n hn, if_pos hn]) h1.2.1 h1.2.2
    · intro k m μ1 hm h1 ih
      obtain ⟨hR, hL, hF⟩ := h1
      unfold wp_X0_settle_l18
      refine ⟨fun c => absurd c (nI_ge hm (by omega)), fun _ => ⟨vi hm (by omega), ?_⟩⟩
      generalize hi : 6 * b + m = i at *
      -- what every memory here shares
      have stepB : ∀ (M : Mem) (L1 : Nat → Int32), (M 3 i = EN b μ s od m) → (∀ n, n < 6 → n ≠ m → M 3 (6 * b + n) = if n < m then EN b μ s od n else μ 3 (6 * b + n)) → LR b M L1 → (∀ k i, ¬ tcs b k i → M k i = μ k i) → (L1 = if μ 3 i 6 = 0 then lgN (μ 0 b 4) (fun n => μ 3 (6 * b + n) 6) (fun n => μ 3 (6 * b + n) 5) (fun n => EN b μ s od n 5) L0 m else kev (lgN (μ 0 b 4) (fun n => μ 3 (6 * b + n) 6) (fun n => μ 3 (6 * b + n) 5) (fun n => EN b μ s od n 5) L0 m) (μ 0 b 4) (nI m) (μ 3 i 5)) → wp_X0_settle_b102 b s q (wp_X0_settle_l18 b s q k) (b2i od) (nI m) i (μ 3 i 5) M := by
        intro M L1 hM hO hLM hFM hL1
        have e0 : M 0 b = μ 0 b := hFM _ _ (by unfold tcs; omega)
        unfold wp_X0_settle_b102 wp_X0_settle_b129
        simp only [forall_eq, hM, e0, nI_1]
        have rows : ∀ M' : Mem, (∀ j, M' 3 j = M 3 j) → ∀ n, n < 6 → M' 3 (6 * b + n) = if n < m + 1 then EN b μ s od n else μ 3 (6 * b + n) := by
          intro M' hM' n hn
          rw [hM']
          by_cases hnm : n = m
          · subst hnm
            rw [if_pos (by omega), hi, hM]
          · rw [hO n hn hnm]
            by_cases hlt : n < m
            · rw [if_pos hlt, if_pos (by omega)]
            · rw [if_neg hlt, if_neg (by omega)]
        refine ⟨fun c => ih _ ⟨rows M (fun _ => rfl), ?_, hFM⟩, fun c => ?_⟩
        · simp only [lgN, hi]
          rw [if_pos c, ← hL1]
          exact hLM
        · refine w_add hLM (fun M' hf' hL' => ih _ ⟨rows M' (fun j => hf' 3 j (by omega)), ?_, fun k' i' hk' => ?_⟩)
          · simp only [lgN, hi]
            rw [if_neg c, ← hL1]
            exact hL'
          · rw [hf' k' i' (fun z => hk' (by unfold tcs; omega)), hFM k' i' hk']
      have stepA : ∀ (M : Mem) (L1 : Nat → Int32), (M 3 i = μ 3 i) → (∀ n, n < 6 → n ≠ m → M 3 (6 * b + n) = if n < m then EN b μ s od n else μ 3 (6 * b + n)) → LR b M L1 → (∀ k i, ¬ tcs b k i → M k i = μ k i) → (L1 = if μ 3 i 6 = 0 then lgN (μ 0 b 4) (fun n => μ 3 (6 * b + n) 6) (fun n => μ 3 (6 * b + n) 5) (fun n => EN b μ s od n 5) L0 m else kev (lgN (μ 0 b 4) (fun n => μ 3 (6 * b + n) 6) (fun n => μ 3 (6 * b + n) 5) (fun n => EN b μ s od n 5) L0 m) (μ 0 b 4) (nI m) (μ 3 i 5)) → wp_X0_settle_b60 b s q (wp_X0_settle_l18 b s q k) (b2i od) (nI m) i M := by
        intro M L1 hM hO hLM hFM hL1
        have e0 : M 0 b = μ 0 b := hFM _ _ (by unfold tcs; omega)
        have e1 : ∀ a, M 1 a = μ 1 a := fun a => hFM _ _ (by unfold tcs; omega)
        have e7 : ∀ a, M 7 a = μ 7 a := fun a => hFM _ _ (by unfold tcs; omega)
        unfold wp_X0_settle_b60 wp_X0_settle_b89
        simp only [forall_eq, w_settle, hM, e1, b2i_0, mr_k M _ (show 0 ≠ 3 by decide), e0]
        generalize hr1 : cSet (μ 1 (hx i (μ 3 i 14)) 0) (μ 1 (hx i (μ 3 i 14)) 1) (μ 1 (hx i (μ 3 i 14)) 2) (μ 1 (hx i (μ 3 i 14)) 4) (μ 1 (hx i (μ 3 i 14)) 5) (μ 1 (hx i (μ 3 i 15)) 2) (μ 1 (hx i (μ 3 i 15)) 1) s (μ 3 i) = r1
        have oth : ∀ (r : Nat → Int32) n, n < 6 → n ≠ m → mr M 3 i r 3 (6 * b + n) = if n < m then EN b μ s od n else μ 3 (6 * b + n) := fun r n hn hnm => by
          rw [mr_i _ _ (by omega)]
          exact hO n hn hnm
        have frm : ∀ (r : Nat → Int32) k' i', ¬ tcs b k' i' → mr M 3 i r k' i' = μ k' i' := fun r k' i' hk' => by
          rw [mr_n _ _ (fun z => hk' (by unfold tcs; omega))]
          exact hFM k' i' hk'
        have lrm : ∀ (r : Nat → Int32), LR b (mr M 3 i r) L1 := fun r => LR_keep hLM (mr_k _ _ (by decide)) (mr_k _ _ (by decide)) (mr_k _ _ (by decide)) (mr_k _ _ (by decide))
        have cor : od = true → (μ 3 i 5 = nI 4 ∨ μ 3 i 5 = nI 5) → wp_X3_correct i (μ 0 b 3) b (mr M 3 i r1) (fun m_2 => wp_X0_settle_b102 b s q (wp_X0_settle_l18 b s q k) (b2i od) (nI m) i (μ 3 i 5) m_2) := by
          intro c1 c2
          have e14 : r1 14 = μ 3 i 14 := by rw [← hr1]; exact cSet_k (by omega)
          have e15 : r1 15 = μ 3 i 15 := by rw [← hr1]; exact cSet_k (by omega)
          have hfm := hf m hm
          rw [hi] at hfm
          refine w_correct (n := m) hm ?_ ?_
          · rw [mr_s, e14, mr_k _ _ (by decide), e1]
            exact hfm
          · intro M2 hN
            rw [mr_s, e14, e15, mr_k M _ (show 1 ≠ 3 by decide), mr_k M _ (show 1 ≠ 3 by decide), mr_k M _ (show 7 ≠ 3 by decide), mr_k M _ (show 7 ≠ 3 by decide), e1, e1, e7, e7]
            refine stepB _ L1 ?_ ?_ ?_ ?_ hL1
            · rw [mr_s]
              unfold EN
              rw [hi, if_pos ⟨c1, c2⟩, hr1]
            · intro n hn hnm
              rw [mr_i _ _ (by omega), hN 3 _ (by omega)]
              exact oth r1 n hn hnm
            · exact LR_keep (lrm r1) (by rw [mr_k _ _ (by decide), hN _ _ (by omega)]) (by rw [mr_k _ _ (by decide), hN _ _ (by omega)]) (by rw [mr_k _ _ (by decide), hN _ _ (by omega)]) (by rw [mr_k _ _ (by decide), hN _ _ (by omega)])
            · intro k' i' hk'
              rw [mr_n _ _ (fun z => hk' (by unfold tcs; omega)), hN _ _ (fun z => hk' (by unfold tcs; omega))]
              exact frm r1 k' i' hk'
        have noc : ¬ (od = true ∧ (μ 3 i 5 = nI 4 ∨ μ 3 i 5 = nI 5)) → wp_X0_settle_b102 b s q (wp_X0_settle_l18 b s q k) (b2i od) (nI m) i (μ 3 i 5) (mr M 3 i r1) := by
          intro c
          refine stepB _ L1 ?_ (oth r1) (lrm r1) (frm r1) hL1
          rw [mr_s]
          unfold EN
          rw [hi, if_neg c, hr1]
        refine ⟨fun c => noc (fun z => by rw [c] at z; exact absurd z.1 (by decide)), fun c => ⟨fun c2 => cor (eq_true_of_ne_false c) (Or.inl c2), fun c2 => ⟨fun c3 => noc (fun z => z.2.elim c2 c3), fun c3 => cor (eq_true_of_ne_false c) (Or.inr c3)⟩⟩⟩
      have hRm : μ1 3 i = μ 3 i := by
        have := hR m hm
        rw [hi, if_neg (Nat.lt_irrefl m)] at this
        exact this
      have hRo : ∀ n, n < 6 → n ≠ m → μ1 3 (6 * b + n) = if n < m then EN b μ s od n else μ 3 (6 * b + n) := fun n hn _ => hR n hn
      have e0 : μ1 0 b = μ 0 b := hF _ _ (by unfold tcs; omega)
      simp only [forall_eq, cl (show m < 100000 by omega), hi, hRm, e0]
      refine ⟨fun c => stepA μ1 _ hRm hRo hL hF (by rw [if_pos c]), fun c => ?_⟩
      refine w_add hL (fun M' hf' hL' => stepA M' _ ?_ ?_ hL' ?_ (by rw [if_neg c]))
      · rw [hf' 3 i (by omega), hRm]
      · intro n hn hnm
        rw [hf' 3 _ (by omega)]
        exact hRo n hn hnm
      · intro k' i' hk'
        rw [hf' k' i' (fun z => hk' (by unfold tcs; omega)), hF k' i' hk']
  unfold wp_X0_settle
  simp only [forall_eq]
  by_cases c : (μ 0 b 4 &&& 1) = 1
  · have : od = true := by rw [← hod]; exact decide_eq_true c
    rw [this] at main
    exact ⟨fun z => absurd c z, fun _ => main⟩
  · have : od = false := by rw [← hod]; exact decide_eq_false c
    rw [this] at main
    exact ⟨fun _ => main, fun z => absurd z c⟩
