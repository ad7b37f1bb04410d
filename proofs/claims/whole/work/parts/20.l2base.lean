/-! pure rows: the memory, loops, bits -/
def mr (μ : Mem) (k i : Nat) (r : Nat → Int32) : Mem := fun k' i' => if k' = k ∧ i' = i then r else μ k' i'
theorem ms_mr (μ : Mem) (k i s : Nat) (v : Int32) : ms μ k i s v = mr μ k i (upd (μ k i) s v) := rfl
theorem mr_s (μ : Mem) (k i : Nat) (r : Nat → Int32) : mr μ k i r k i = r := by simp [mr]
theorem mr_n (μ : Mem) {k i k' i' : Nat} (r : Nat → Int32) (h : ¬ (k' = k ∧ i' = i)) : mr μ k i r k' i' = μ k' i' := by simp [mr, h]
theorem mr_k (μ : Mem) {k i k' i' : Nat} (r : Nat → Int32) (h : k' ≠ k) : mr μ k i r k' i' = μ k' i' := by simp [mr, h]
theorem mr_i (μ : Mem) {k i k' i' : Nat} (r : Nat → Int32) (h : i' ≠ i) : mr μ k i r k' i' = μ k' i' := by simp [mr, h]
theorem mr_mr (μ : Mem) (k i : Nat) (r r' : Nat → Int32) : mr (mr μ k i r) k i r' = mr μ k i r' := by
  funext k' i'
  simp only [mr]
  split <;> rfl
theorem mr_same (μ : Mem) (k i : Nat) : mr μ k i (μ k i) = μ := by
  funext k' i'
  simp only [mr]
  split
  · next h => rw [h.1, h.2]
  · rfl
theorem mr_comm (μ : Mem) {k i k' i' : Nat} (r r' : Nat → Int32) (h : ¬ (k' = k ∧ i' = i)) : mr (mr μ k i r) k' i' r' = mr (mr μ k' i' r') k i r := by
  funext a b
  simp only [mr]
  by_cases h1 : a = k' ∧ b = i'
  · have h2 : ¬ (a = k ∧ b = i) := fun h2 => h ⟨h1.1.symm.trans h2.1, h1.2.symm.trans h2.2⟩
    rw [if_pos h1, if_neg h2, if_pos h1]
  · rw [if_neg h1, if_neg h1]
theorem upd_s (f : Nat → Int32) (k : Nat) (x : Int32) : upd f k x k = x := by simp [upd]
theorem upd_n (f : Nat → Int32) {k j : Nat} (x : Int32) (h : j ≠ k) : upd f k x j = f j := by simp [upd, h]
theorem upd_same (f : Nat → Int32) (k : Nat) : upd f k (f k) = f := by
  funext j
  simp only [upd]
  split
  · next h => rw [h]
  · rfl
theorem cl {n : Nat} (h : n < 100000) : (nI n).toNatClampNeg = n := nI_clamp (by omega)
theorem vi {n N : Nat} (h : n < N) (hN : N < 100000) : vp_in (nI n) N := vp_in_nI h (by omega)
theorem loopN (N : Nat) (P : Nat → Nat → Mem → Prop) (I : Nat → Mem → Prop) (h0 : ∀ μ, I N μ → P 1 N μ) (hs : ∀ k m μ, m < N → I m μ → (∀ μ', I (m + 1) μ' → P k (m + 1) μ') → P (k + 1) m μ) : ∀ d m μ, m + d = N → I m μ → P (d + 1) m μ := by
  intro d
  induction d with
  | zero =>
    intro m μ hm hi
    have : m = N := by omega
    subst this
    exact h0 μ hi
  | succ d ih =>
    intro m μ hm hi
    exact hs (d + 1) m μ (by omega) hi (fun μ' h' => ih (m + 1) μ' (by omega) h')
theorem loop6 (P : Nat → Nat → Mem → Prop) (I : Nat → Mem → Prop) (h0 : ∀ μ, I 6 μ → P 1 6 μ) (hs : ∀ k m μ, m < 6 → I m μ → (∀ μ', I (m + 1) μ' → P k (m + 1) μ') → P (k + 1) m μ) (μ : Mem) (h : I 0 μ) : P 7 0 μ := loopN 6 P I h0 hs 6 0 μ rfl h
def b2i (b : Bool) : Int32 := if b then 1 else 0
theorem b2i_t : b2i true = 1 := rfl
theorem b2i_f : b2i false = 0 := rfl
theorem b2i_0 (b : Bool) : (b2i b = 0) = (b = false) := by cases b <;> decide
theorem b2i_nz (b : Bool) : nz (b2i b) := by cases b <;> simp [nz, b2i]
def bit (n : Nat) : Int32 := 1 <<< (nI n &&& 31)
def inb (x : Int32) (n : Nat) : Bool := decide (¬ (x &&& bit n) = 0)
def bitsN (p : Nat → Bool) : Nat → Int32
  | 0 => 0
  | m + 1 => if p m then bitsN p m ||| bit m else bitsN p m
def bits6 (a b c d e f : Bool) : Int32 := bitsN (fun n => match n with | 0 => a | 1 => b | 2 => c | 3 => d | 4 => e | _ => f) 6
theorem bitsN_congr {p p' : Nat → Bool} : ∀ (m : Nat), (∀ n, n < m → p n = p' n) → bitsN p m = bitsN p' m
  | 0, _ => rfl
  | m + 1, h => by
    have h1 := bitsN_congr m (fun n hn => h n (by omega))
    simp only [bitsN, h1, h m (by omega)]
theorem bits6_eq (p : Nat → Bool) : bitsN p 6 = bits6 (p 0) (p 1) (p 2) (p 3) (p 4) (p 5) := by
  apply bitsN_congr
  intro n hn
  match n, hn with
  | 0, _ => rfl
  | 1, _ => rfl
  | 2, _ => rfl
  | 3, _ => rfl
  | 4, _ => rfl
  | 5, _ => rfl
theorem bits6_in : ∀ (a b c d e f : Bool) (n : Fin 6), inb (bits6 a b c d e f) n = (match n with | 0 => a | 1 => b | 2 => c | 3 => d | 4 => e | _ => f) := by decide +kernel
theorem inb_bits (p : Nat → Bool) {n : Nat} (h : n < 6) : inb (bitsN p 6) n = p n := by
  rw [bits6_eq]
  have := bits6_in (p 0) (p 1) (p 2) (p 3) (p 4) (p 5) ⟨n, h⟩
  rw [this]
  match n, h with
  | 0, _ => rfl
  | 1, _ => rfl
  | 2, _ => rfl
  | 3, _ => rfl
  | 4, _ => rfl
  | 5, _ => rfl
theorem bits6_lt : ∀ (a b c d e f : Bool), ∃ n : Fin 64, bits6 a b c d e f = nI n := by decide +kernel
theorem bits_lt (p : Nat → Bool) : ∃ n, n < 64 ∧ bitsN p 6 = nI n := by
  obtain ⟨n, h⟩ := bits6_lt (p 0) (p 1) (p 2) (p 3) (p 4) (p 5)
  exact ⟨n.1, n.2, by rw [bits6_eq, h]⟩
theorem bits6_0 : ∀ (a b c d e f : Bool), (bits6 a b c d e f = 0 ↔ (a || b || c || d || e || f) = false) := by decide +kernel
def anyN (p : Nat → Bool) : Nat → Bool
  | 0 => false
  | m + 1 => anyN p m || p m
theorem anyN_congr {p p' : Nat → Bool} : ∀ (m : Nat), (∀ n, n < m → p n = p' n) → anyN p m = anyN p' m
  | 0, _ => rfl
  | m + 1, h => by
    have h1 := anyN_congr m (fun n hn => h n (by omega))
    simp only [anyN, h1, h m (by omega)]
theorem bits_0 (p : Nat → Bool) : (bitsN p 6 = 0) = (anyN p 6 = false) := by
  rw [bits6_eq]
  have := bits6_0 (p 0) (p 1) (p 2) (p 3) (p 4) (p 5)
  simp only [anyN, Bool.false_or]
  exact propext this
/-! helpers of the class -/
def wth (a lo hi : Int32) : Bool := decide (¬ a < lo) && decide (¬ hi < a)
theorem w_bitOf (n : Nat) (μ : Mem) (q : Int32 → Mem → Prop) : wp_X5_bitOf (nI n) μ q = q (bit n) μ := rfl
theorem w_isWithin (a lo hi : Int32) (μ : Mem) (q : Int32 → Mem → Prop) : wp_X5_isWithin a lo hi μ q = q (b2i (wth a lo hi)) μ := by
  unfold wp_X5_isWithin wth
  by_cases h1 : a < lo <;> by_cases h2 : hi < a <;> simp [h1, h2, b2i]
theorem w_isNode (a : Int32) (μ : Mem) (q : Int32 → Mem → Prop) : wp_X5_isNode a μ q = q (b2i (wth a 0 (nI 5))) μ := by
  unfold wp_X5_isNode
  rw [w_isWithin]
  simp [b2i_nz]
/-! a bit by a shift to the right is the bit by a mask -/
theorem sm_lt (v : BitVec 32) : (v.smod 32#32).toNat < 32 := by
  have h := BitVec.toInt_smod (x := v) (y := 32#32)
  rw [show (32#32 : BitVec 32).toInt = 32 from by decide] at h
  have h0 : 0 ≤ v.toInt.fmod 32 := Int.fmod_nonneg_of_pos _ (by decide)
  have h1 : v.toInt.fmod 32 < 32 := Int.fmod_lt_of_pos _ (by decide)
  have h2 := (v.smod 32#32).isLt
  rw [BitVec.toInt_eq_toNat_cond] at h
  split at h <;> omega
theorem bv_in (b : BitVec 32) (s : Nat) (hs : s < 32) : (b.sshiftRight s &&& 1#32 = 1#32) ↔ ¬ (b &&& (1#32 <<< s) = 0#32) := by
  have e1 : (b.sshiftRight s).getLsbD 0 = b.getLsbD s := by
    rw [BitVec.getLsbD_sshiftRight]
    simp [hs]
  have e2 : ¬ BitVec.twoPow 32 s = 0#32 := by
    intro h
    have h3 : (BitVec.twoPow 32 s).getLsbD s = (0#32).getLsbD s := by rw [h]
    rw [BitVec.getLsbD_twoPow] at h3
    simp [hs] at h3
  rw [BitVec.and_one_eq_setWidth_ofBool_getLsbD, e1, ← BitVec.twoPow_eq, BitVec.and_twoPow]
  cases b.getLsbD s
  · simp
  · simp [e2]
theorem shr_any (x k : Int32) : (((x >>> k) &&& 1) = 1) ↔ ¬ ((x &&& (1 <<< k)) = 0) := by
  have h := bv_in x.toBitVec (k.toBitVec.smod 32#32).toNat (sm_lt _)
  constructor
  · intro h1 h2
    exact h.1 (congrArg Int32.toBitVec h1) (congrArg Int32.toBitVec h2)
  · intro h1
    exact Int32.toBitVec_inj.1 (h.2 (fun h2 => h1 (Int32.toBitVec_inj.1 h2)))
theorem w_isIn (x : Int32) (n : Nat) (μ : Mem) (q : Int32 → Mem → Prop) : wp_X5_isIn x (nI n) μ q = q (b2i (inb x n)) μ := by
  unfold wp_X5_isIn inb
  have e := shr_any x (nI n &&& 31)
  by_cases h : (x &&& bit n) = 0
  · have e1 : ¬ ((x >>> (nI n &&& 31)) &&& 1) = 1 := fun z => e.1 z h
    have e2 : b2i (decide (¬ (x &&& bit n) = 0)) = 0 := by simp [h, b2i]
    rw [e2]
    exact propext ⟨fun z => z.1 e1, fun z => ⟨fun _ => z, fun a => absurd a e1⟩⟩
  · have e1 : ((x >>> (nI n &&& 31)) &&& 1) = 1 := e.2 h
    have e2 : b2i (decide (¬ (x &&& bit n) = 0)) = 1 := by simp [h, b2i]
    rw [e2]
    exact propext ⟨fun z => z.2 e1, fun z => ⟨fun a => absurd e1 a, fun _ => z⟩⟩
theorem w_areAllIn (x y : Int32) (μ : Mem) (q : Int32 → Mem → Prop) : wp_X5_areAllIn x y μ q = q (b2i (decide ((x &&& (y ^^^ (-1))) = 0))) μ := by
  unfold wp_X5_areAllIn
  generalize (x &&& (y ^^^ (-1))) = z
  by_cases h : z = 0 <;> simp [h, b2i]
theorem w_in (a lo hi : Int32) (μ : Mem) (q : Int32 → Mem → Prop) : wp_X6_in a lo hi μ q = q (b2i (wth a lo hi)) μ := by
  unfold wp_X6_in wth
  by_cases h1 : a < lo <;> by_cases h2 : hi < a <;> simp [h1, h2, b2i]
theorem w6_isNode (a : Int32) (μ : Mem) (q : Int32 → Mem → Prop) : wp_X6_isNode a μ q = q (b2i (wth a 0 (nI 5))) μ := by
  unfold wp_X6_isNode
  rw [w_in]
  simp [b2i_nz]
theorem w6_isWithin (a : Int32) (μ : Mem) (q : Int32 → Mem → Prop) : wp_X6_isWithin a μ q = q (b2i (wth a (-5000) (nI 5000))) μ := by
  unfold wp_X6_isWithin
  rw [w_in]
  simp [b2i_nz]
theorem within_node {a : Int32} (h : wth a 0 (nI 5) = true) : ∃ n, n < 6 ∧ a = nI n := by
  simp only [wth, Bool.and_eq_true, decide_eq_true_eq] at h
  obtain ⟨j, hj, rfl⟩ := nI_of2 (M := nI 5) (n := 5) (by decide) h.1 (Int32.not_lt.mp h.2)
  exact ⟨j, by omega, rfl⟩
/-! numbers laid in order -/
def insF (v : Int32) : Nat → (Nat → Int32) → (Nat → Int32)
  | 0, r => upd r 0 v
  | k + 1, r => if r k ≤ v then upd r (k + 1) v else insF v k (upd r (k + 1) (r k))
theorem insF_congr (v : Int32) : ∀ (k : Nat) (r r' : Nat → Int32), (∀ j, j < k → r j = r' j) → ∀ j, j ≤ k → insF v k r j = insF v k r' j
  | 0, r, r', h, j, hj => by
    have : j = 0 := by omega
    subst this
    simp [insF, upd]
  | k + 1, r, r', h, j, hj => by
    simp only [insF, h k (by omega)]
    by_cases hc : r' k ≤ v
    · simp only [hc, if_true]
      by_cases hk : j = k + 1
      · subst hk; simp [upd]
      · simp only [upd, hk, if_false]; exact h j (by omega)
    · simp only [hc, if_false]
      by_cases hk : j = k + 1
      · subst hk
        rw [insF_top, insF_top]
        simp [upd]
      · exact insF_congr v k _ _ (fun a ha => by simp only [upd, show a ≠ k + 1 by omega, if_false]; exact h a (by omega)) j (by omega)
where
  insF_top {v : Int32} {k : Nat} {r : Nat → Int32} : insF v k r (k + 1) = r (k + 1) := top v k r (k + 1) (by omega)
  top (v : Int32) : ∀ (k : Nat) (r : Nat → Int32) (j : Nat), k < j → insF v k r j = r j
    | 0, r, j, h => by simp [insF, upd, show j ≠ 0 by omega]
    | k + 1, r, j, h => by
      simp only [insF]
      split
      · simp [upd, show j ≠ k + 1 by omega]
      · rw [top v k _ j (by omega)]
        simp [upd, show j ≠ k + 1 by omega]
theorem zz_0_1 : ((0 : Int32) = 1) = False := eq_false (by decide)
theorem zz_0_2 : ((0 : Int32) = nI 2) = False := eq_false (by decide)
theorem zz_0_3 : ((0 : Int32) = nI 3) = False := eq_false (by decide)
theorem zz_0_4 : ((0 : Int32) = nI 4) = False := eq_false (by decide)
theorem zz_0_5 : ((0 : Int32) = nI 5) = False := eq_false (by decide)
theorem zz_0_6 : ((0 : Int32) = nI 6) = False := eq_false (by decide)
theorem zz_0_7 : ((0 : Int32) = nI 7) = False := eq_false (by decide)
theorem zz_1_0 : ((1 : Int32) = 0) = False := eq_false (by decide)
theorem zz_1_2 : ((1 : Int32) = nI 2) = False := eq_false (by decide)
theorem zz_1_3 : ((1 : Int32) = nI 3) = False := eq_false (by decide)
theorem zz_1_4 : ((1 : Int32) = nI 4) = False := eq_false (by decide)
theorem zz_1_5 : ((1 : Int32) = nI 5) = False := eq_false (by decide)
theorem zz_1_6 : ((1 : Int32) = nI 6) = False := eq_false (by decide)
theorem zz_1_7 : ((1 : Int32) = nI 7) = False := eq_false (by decide)
theorem zz_2_0 : ((nI 2 : Int32) = 0) = False := eq_false (by decide)
theorem zz_2_1 : ((nI 2 : Int32) = 1) = False := eq_false (by decide)
theorem zz_2_3 : ((nI 2 : Int32) = nI 3) = False := eq_false (by decide)
theorem zz_2_4 : ((nI 2 : Int32) = nI 4) = False := eq_false (by decide)
theorem zz_2_5 : ((nI 2 : Int32) = nI 5) = False := eq_false (by decide)
theorem zz_2_6 : ((nI 2 : Int32) = nI 6) = False := eq_false (by decide)
theorem zz_2_7 : ((nI 2 : Int32) = nI 7) = False := eq_false (by decide)
theorem zz_3_0 : ((nI 3 : Int32) = 0) = False := eq_false (by decide)
theorem zz_3_1 : ((nI 3 : Int32) = 1) = False := eq_false (by decide)
theorem zz_3_2 : ((nI 3 : Int32) = nI 2) = False := eq_false (by decide)
theorem zz_3_4 : ((nI 3 : Int32) = nI 4) = False := eq_false (by decide)
theorem zz_3_5 : ((nI 3 : Int32) = nI 5) = False := eq_false (by decide)
theorem zz_3_6 : ((nI 3 : Int32) = nI 6) = False := eq_false (by decide)
theorem zz_3_7 : ((nI 3 : Int32) = nI 7) = False := eq_false (by decide)
theorem zz_4_0 : ((nI 4 : Int32) = 0) = False := eq_false (by decide)
theorem zz_4_1 : ((nI 4 : Int32) = 1) = False := eq_false (by decide)
theorem zz_4_2 : ((nI 4 : Int32) = nI 2) = False := eq_false (by decide)
theorem zz_4_3 : ((nI 4 : Int32) = nI 3) = False := eq_false (by decide)
theorem zz_4_5 : ((nI 4 : Int32) = nI 5) = False := eq_false (by decide)
theorem zz_4_6 : ((nI 4 : Int32) = nI 6) = False := eq_false (by decide)
theorem zz_4_7 : ((nI 4 : Int32) = nI 7) = False := eq_false (by decide)
theorem zz_5_0 : ((nI 5 : Int32) = 0) = False := eq_false (by decide)
theorem zz_5_1 : ((nI 5 : Int32) = 1) = False := eq_false (by decide)
theorem zz_5_2 : ((nI 5 : Int32) = nI 2) = False := eq_false (by decide)
theorem zz_5_3 : ((nI 5 : Int32) = nI 3) = False := eq_false (by decide)
theorem zz_5_4 : ((nI 5 : Int32) = nI 4) = False := eq_false (by decide)
theorem zz_5_6 : ((nI 5 : Int32) = nI 6) = False := eq_false (by decide)
theorem zz_5_7 : ((nI 5 : Int32) = nI 7) = False := eq_false (by decide)
theorem zz_6_0 : ((nI 6 : Int32) = 0) = False := eq_false (by decide)
theorem zz_6_1 : ((nI 6 : Int32) = 1) = False := eq_false (by decide)
theorem zz_6_2 : ((nI 6 : Int32) = nI 2) = False := eq_false (by decide)
theorem zz_6_3 : ((nI 6 : Int32) = nI 3) = False := eq_false (by decide)
theorem zz_6_4 : ((nI 6 : Int32) = nI 4) = False := eq_false (by decide)
theorem zz_6_5 : ((nI 6 : Int32) = nI 5) = False := eq_false (by decide)
theorem zz_6_7 : ((nI 6 : Int32) = nI 7) = False := eq_false (by decide)
theorem zz_7_0 : ((nI 7 : Int32) = 0) = False := eq_false (by decide)
theorem zz_7_1 : ((nI 7 : Int32) = 1) = False := eq_false (by decide)
theorem zz_7_2 : ((nI 7 : Int32) = nI 2) = False := eq_false (by decide)
theorem zz_7_3 : ((nI 7 : Int32) = nI 3) = False := eq_false (by decide)
theorem zz_7_4 : ((nI 7 : Int32) = nI 4) = False := eq_false (by decide)
theorem zz_7_5 : ((nI 7 : Int32) = nI 5) = False := eq_false (by decide)
theorem zz_7_6 : ((nI 7 : Int32) = nI 6) = False := eq_false (by decide)
