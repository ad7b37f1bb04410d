theorem w6_setOf (t : Int32) (μ : Mem) (q : Int32 → Mem → Prop) (h : q (bitsN (fun n => decide (μ 20 0 (30 + n) = t)) 6) μ) : wp_X6_setOf t μ q := by
  refine ⟨7, loop6c (fun f m => wp_X6_setOf_l4 t q f (bitsN (fun n => decide (μ 20 0 (30 + n) = t)) m) (nI m) μ) ?_ ?_⟩
  · unfold wp_X6_setOf_l4
    exact ⟨fun _ => h, fun c => absurd le66 c⟩
  · intro k m hm ih
    unfold wp_X6_setOf_l4 wp_X6_setOf_b27
    refine ⟨fun c => absurd c (nI_ge hm (by omega)), fun _ => ?_⟩
    simp only [forall_eq, w6_is hm, nI_1, b2i_0, decide_eq_false_iff_not]
    simp only [bitsN, bit] at ih
    by_cases c : μ 20 0 (30 + m) = t
    · simpa [c] using ih
    · simpa [c] using ih
theorem w6_inSet (μ : Mem) (q : Int32 → Mem → Prop) (h : q (bitsN (fun n => awB (μ 20 0 (30 + n))) 6) μ) : wp_X6_inSet μ q := by
  refine ⟨7, loop6c (fun f m => wp_X6_inSet_l4 q f (bitsN (fun n => awB (μ 20 0 (30 + n))) m) (nI m) μ) ?_ ?_⟩
  · unfold wp_X6_inSet_l4
    exact ⟨fun _ => h, fun c => absurd le66 c⟩
  · intro k m hm ih
    unfold wp_X6_inSet_l4 wp_X6_inSet_b26
    refine ⟨fun c => absurd c (nI_ge hm (by omega)), fun _ => ?_⟩
    simp only [forall_eq, w6_isOut hm, nI_1, b2i_0]
    simp only [bitsN, bit] at ih
    by_cases c : awB (μ 20 0 (30 + m)) = true
    · simpa [c] using ih
    · simpa [c] using ih
theorem w6_isTaken {n : Nat} (hn : n < 6) (sl : Int32) (μ : Mem) (q : Int32 → Mem → Prop) (h : q (b2i (anyN (fun o => decide (¬ o = n) && decide (μ 20 0 (6 + o) = sl)) 6)) μ) : wp_X6_isTaken sl (nI n) μ q := by
  generalize hp : (fun o => decide (¬ o = n) && decide (μ 20 0 (6 + o) = sl)) = p at h
  have hp' : ∀ o, p o = (decide (¬ o = n) && decide (μ 20 0 (6 + o) = sl)) := fun o => (congrFun hp o).symm
  refine ⟨7, loop6c (fun f m => wp_X6_isTaken_l5 sl (nI n) q f (b2i (anyN p m)) (nI m) μ) ?_ ?_⟩
  · unfold wp_X6_isTaken_l5
    exact ⟨fun _ => ⟨b2i_nz _, h⟩, fun c => absurd le66 c⟩
  · intro k m hm ih
    unfold wp_X6_isTaken_l5 wp_X6_isTaken_b36 wp_X6_isTaken_b40 wp_X6_isTaken_b41
    refine ⟨fun c => absurd c (nI_ge hm (by omega)), fun _ => ?_⟩
    have v1 : vp_in (nI (6 + m)) 256 := vi (by omega) (by omega)
    simp only [forall_eq, nI_1, nI_add, v1, true_and, cl (show 6 + m < 100000 by omega), b2i_0, nI_ne (show m < 100000 by omega) (show n < 100000 by omega)]
    simp only [anyN, hp'] at ih
    cases c1 : anyN p m
    · simp only [c1, Bool.false_or] at ih
      by_cases c2 : m = n
      · simpa [c2, b2i] using ih
      · by_cases c3 : μ 20 0 (6 + m) = sl
        · simpa [c2, c3, b2i] using ih
        · simpa [c2, c3, b2i] using ih
    · simp only [c1, Bool.true_or] at ih
      simpa [b2i] using ih
theorem cnt_any (p : Nat → Bool) : ∀ m, m ≤ 6 → (nI (cntB p m) = 0) = (anyN p m = false) ∧ cntB p m ≤ m
  | 0, _ => ⟨propext ⟨fun _ => rfl, fun _ => rfl⟩, Nat.le_refl 0⟩
  | m + 1, hm => by
    obtain ⟨i1, i2⟩ := cnt_any p m (by omega)
    simp only [cntB, anyN]
    cases c : p m
    · simp only [Bool.or_false, Bool.false_eq_true, if_false]
      exact ⟨by simpa using i1, by omega⟩
    · simp only [Bool.or_true, if_true]
      refine ⟨propext ⟨fun e => ?_, fun e => absurd e (by decide)⟩, by omega⟩
      have e' : nI (cntB p m + 1) = nI 0 := e
      rw [nI_eq (by omega) (by omega)] at e'
      omega
theorem w6_spreadBut (a : Int32) (μ : Mem) (q : Int32 → Mem → Prop) (h : q (spN (fun o => decide (¬ nI o = a) && decide (μ 20 0 (30 + o) = nI 4)) (fun n => μ 20 0 (60 + n))) μ) : wp_X6_spreadBut a μ q := by
  generalize hp : (fun o => decide (¬ nI o = a) && decide (μ 20 0 (30 + o) = nI 4)) = p at h
  have hp' : ∀ o, p o = (decide (¬ nI o = a) && decide (μ 20 0 (30 + o) = nI 4)) := fun o => (congrFun hp o).symm
  refine ⟨7, loop6c (fun f m => wp_X6_spreadBut_l10 a q f (nI (cntB p m)) (lsN p (fun n => μ 20 0 (60 + n)) m) (gsN p (fun n => μ 20 0 (60 + n)) m) (nI m) μ) ?_ ?_⟩
  · unfold wp_X6_spreadBut_l10
    exact ⟨fun _ => h, fun c => absurd le66 c⟩
  · intro k m hm ih
    unfold wp_X6_spreadBut_l10 wp_X6_spreadBut_b51 wp_X6_spreadBut_b65 wp_X6_spreadBut_b85 wp_X6_spreadBut_b100 wp_X6_spreadBut_b105
    refine ⟨fun c => absurd c (nI_ge hm (by omega)), fun _ => ?_⟩
    have v1 : vp_in (nI (60 + m)) 256 := vi (by omega) (by omega)
    simp only [forall_eq, nI_1, nI_add, v1, true_and, cl (show 60 + m < 100000 by omega), w6_is hm, b2i_0, (cnt_any p m (by omega)).1]
    simp only [lsN, gsN, cntB, hp'] at ih
    by_cases c1 : nI m = a
    · simpa [c1] using ih
    · by_cases c2 : μ 20 0 (30 + m) = nI 4
      · simp only [c1, c2, not_false_eq_true, decide_true, Bool.and_self, if_true] at ih
        cases c3 : anyN p m
        · simp only [c3, Bool.false_eq_true, if_false] at ih
          simpa [c1, c2, c3] using ih
        · simp only [c3, if_true] at ih
          by_cases c4 : μ 20 0 (60 + m) < lsN p (fun n => μ 20 0 (60 + n)) m
          · have c4' : ¬ lsN p (fun n => μ 20 0 (60 + n)) m ≤ μ 20 0 (60 + m) := Int32.not_le.mpr c4
            by_cases c5 : gsN p (fun n => μ 20 0 (60 + n)) m < μ 20 0 (60 + m)
            · have c5' : ¬ μ 20 0 (60 + m) ≤ gsN p (fun n => μ 20 0 (60 + n)) m := Int32.not_le.mpr c5
              simpa [c1, c2, c3, c4, c5, c4', c5'] using ih
            · have c5' : μ 20 0 (60 + m) ≤ gsN p (fun n => μ 20 0 (60 + n)) m := Int32.not_lt.mp c5
              simpa [c1, c2, c3, c4, c5, c4', c5'] using ih
          · have c4' : lsN p (fun n => μ 20 0 (60 + n)) m ≤ μ 20 0 (60 + m) := Int32.not_lt.mp c4
            by_cases c5 : gsN p (fun n => μ 20 0 (60 + n)) m < μ 20 0 (60 + m)
            · have c5' : ¬ μ 20 0 (60 + m) ≤ gsN p (fun n => μ 20 0 (60 + n)) m := Int32.not_le.mpr c5
              simpa [c1, c2, c3, c4, c5, c4', c5'] using ih
            · have c5' : μ 20 0 (60 + m) ≤ gsN p (fun n => μ 20 0 (60 + n)) m := Int32.not_lt.mp c5
              simpa [c1, c2, c3, c4, c5, c4', c5'] using ih
      · simpa [c1, c2] using ih
/-! saving and loading -/
def svR (k m : Nat) (r s : Nat → Int32) : Nat → Int32 := fun j => if 256 * k ≤ j ∧ j < 256 * k + m then s (j - 256 * k) else r j
def ldR (k m : Nat) (r s : Nat → Int32) : Nat → Int32 := fun j => if j < m then s (256 * k + j) else r j
theorem w6_save {k : Nat} (hk : k < 3) (μ : Mem) (q : Mem → Prop) (h : q (mr μ 21 0 (svR k 256 (μ 21 0) (μ 20 0)))) : wp_X6_save (nI k) μ q := by
  refine ⟨257, loopN 256 (fun f m μ' => wp_X6_save_l2 (nI k) q f (nI m) μ') (fun m μ' => μ' = mr μ 21 0 (svR k m (μ 21 0) (μ 20 0))) ?_ ?_ 256 0 _ rfl ?_⟩
  · intro μ' e
    subst e
    unfold wp_X6_save_l2
    exact ⟨fun _ => h, fun c => absurd (nI_le (Nat.le_refl 256) (by omega)) c⟩
  · intro f m μ' hm e ih
    subst e
    unfold wp_X6_save_l2
    refine ⟨fun c => absurd c (nI_ge hm (by omega)), fun _ => ⟨vi hm (by omega), ?_⟩⟩
    have v1 : vp_in (nI (256 * k + m)) 768 := vi (by omega) (by omega)
    simp only [forall_eq, pk_mul, nI_add, v1, true_and, cl (show 256 * k + m < 100000 by omega), cl (show m < 100000 by omega), nI_1, ms_mr, mr_s, mr_mr]
    refine ih _ ?_
    rw [mr_k _ _ (by decide)]
    congr 1
    funext j
    simp only [upd, svR]
    by_cases c : j = 256 * k + m
    · subst c
      rw [if_pos rfl, if_pos (by omega)]
      congr 1; omega
    · rw [if_neg c]
      by_cases c2 : 256 * k ≤ j ∧ j < 256 * k + m
      · rw [if_pos c2, if_pos (by omega)]
      · rw [if_neg c2, if_neg (by omega)]
  · have : svR k 0 (μ 21 0) (μ 20 0) = μ 21 0 := by
      funext j
      simp only [svR]
      rw [if_neg (by omega)]
    rw [this, mr_same]
theorem w6_load {k : Nat} (hk : k < 3) (μ : Mem) (q : Mem → Prop) (h : q (mr μ 20 0 (ldR k 256 (μ 20 0) (μ 21 0)))) : wp_X6_load (nI k) μ q := by
  refine ⟨257, loopN 256 (fun f m μ' => wp_X6_load_l2 (nI k) q f (nI m) μ') (fun m μ' => μ' = mr μ 20 0 (ldR k m (μ 20 0) (μ 21 0))) ?_ ?_ 256 0 _ rfl ?_⟩
  · intro μ' e
    subst e
    unfold wp_X6_load_l2
    exact ⟨fun _ => h, fun c => absurd (nI_le (Nat.le_refl 256) (by omega)) c⟩
  · intro f m μ' hm e ih
    subst e
    unfold wp_X6_load_l2
    have v1 : vp_in (nI (256 * k + m)) 768 := vi (by omega) (by omega)
    have v2 : vp_in (nI m) 256 := vi hm (by omega)
    refine ⟨fun c => absurd c (nI_ge hm (by omega)), fun _ => ?_⟩
    simp only [forall_eq, pk_mul, nI_add, v1, v2, true_and, cl (show 256 * k + m < 100000 by omega), cl (show m < 100000 by omega), nI_1, ms_mr, mr_s, mr_mr]
    refine ih _ ?_
    rw [mr_k _ _ (by decide)]
    congr 1
    funext j
    simp only [upd, ldR]
    by_cases c : j = m
    · subst c
      rw [if_pos rfl, if_pos (by omega)]
    · rw [if_neg c]
      by_cases c2 : j < m
      · rw [if_pos c2, if_pos (by omega)]
      · rw [if_neg c2, if_neg (by omega)]
  · have : ldR k 0 (μ 20 0) (μ 21 0) = μ 20 0 := by
      funext j
      simp only [ldR]
      rw [if_neg (by omega)]
    rw [this, mr_same]
/-! counting -/
def bc1 (a0 : Int32) : Int32 := a0 - ((((a0).toUInt32 >>> ((1 : Int32).toUInt32 &&& Int32.toUInt32 31)).toInt32) &&& (1431655765))
def bc2 (y : Int32) : Int32 := (y &&& (858993459)) + ((((y).toUInt32 >>> (((nI 2)).toUInt32 &&& Int32.toUInt32 31)).toInt32) &&& (858993459))
def bc3 (y : Int32) : Int32 := (y + (((y).toUInt32 >>> (((nI 4)).toUInt32 &&& Int32.toUInt32 31)).toInt32)) &&& (252645135)
def bc4 (y : Int32) : Int32 := y + (((y).toUInt32 >>> (((nI 8)).toUInt32 &&& Int32.toUInt32 31)).toInt32)
def bc5 (y : Int32) : Int32 := y + (((y).toUInt32 >>> (((nI 16)).toUInt32 &&& Int32.toUInt32 31)).toInt32)
def bcF (a0 : Int32) : Int32 := bc5 (bc4 (bc3 (bc2 (bc1 a0)))) &&& nI 63
theorem w_bitCount (a : Int32) (μ : Mem) (q : Int32 → Mem → Prop) : wp_J6_bitCount_0f7a4 a μ q = q (bcF a) μ := by
  unfold wp_J6_bitCount_0f7a4
  simp only [forall_eq]
  rfl
def szN (x : Int32) : Nat → Int32
  | 0 => 0
  | m + 1 => szN x m + ((x >>> (nI m &&& 31)) &&& 1)
theorem w6_size (x : Int32) (μ : Mem) (q : Int32 → Mem → Prop) (h : q (szN x 6) μ) : wp_X6_size x μ q := by
  refine ⟨7, loop6c (fun f m => wp_X6_size_l4 x q f (szN x m) (nI m) μ) ?_ ?_⟩
  · unfold wp_X6_size_l4
    exact ⟨fun _ => h, fun c => absurd le66 c⟩
  · intro k m hm ih
    unfold wp_X6_size_l4
    refine ⟨fun c => absurd c (nI_ge hm (by omega)), fun _ => ?_⟩
    simp only [forall_eq, nI_1]
    exact ih
theorem bc_sz : ∀ w : Fin 64, bcF (nI w) = szN (nI w) 6 := by decide +kernel
def cwN (p : Nat → Bool) : Nat → Int32
  | 0 => 0
  | m + 1 => cwN p m + (if p m then 1 else 0)
theorem bc_cw6 : ∀ a b c d e f : Bool, bcF (bits6 a b c d e f) = 0 + (if a then 1 else 0) + (if b then 1 else 0) + (if c then 1 else 0) + (if d then 1 else 0) + (if e then 1 else 0) + (if f then 1 else 0) := by decide +kernel
theorem bc_cw (p : Nat → Bool) : bcF (bitsN p 6) = cwN p 6 := by
  rw [bits6_eq, bc_cw6]
  rfl
