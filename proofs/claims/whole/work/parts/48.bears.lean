/-! what offset is borne -/
theorem and_sub (Y X m : Int32) : (Y &&& m) &&& ((X &&& m) ^^^ (-1)) = (Y &&& m) &&& (X ^^^ (-1)) := by
  apply Int32.toBitVec.inj
  simp only [Int32.toBitVec_and, Int32.toBitVec_xor]
  apply BitVec.eq_of_getLsbD_eq
  intro i hi
  simp only [BitVec.getLsbD_and, BitVec.getLsbD_xor]
  cases Y.toBitVec.getLsbD i <;> cases m.toBitVec.getLsbD i <;> cases X.toBitVec.getLsbD i <;> simp
theorem inb_but6 : ∀ (n o : Fin 6) (a b c d e f : Bool), inb (bits6 a b c d e f &&& (bit n ^^^ (-1))) o = (decide (¬ nI o = nI n) && inb (bits6 a b c d e f) o) := by decide +kernel
theorem inb_but {n o : Nat} (hn : n < 6) (ho : o < 6) (S : Nat → Int32) : inb (stS S &&& (bit n ^^^ (-1))) o = (decide (¬ nI o = nI n) && decide (S (30 + o) = nI 4)) := by
  have := inb_bits (fun n => decide (S (30 + n) = nI 4)) ho
  rw [← this]
  unfold stS
  rw [bits6_eq]
  exact inb_but6 ⟨n, hn⟩ ⟨o, ho⟩ _ _ _ _ _ _
def spS (n : Nat) (S : Nat → Int32) : Int32 := spN (fun o => decide (¬ nI o = nI n) && decide (S (30 + o) = nI 4)) (fun o => S (60 + o))
def okS (n : Nat) (Y a3 : Int32) (S : Nat → Int32) : Prop := (Y &&& (stS S ^^^ (-1))) = 0 ∧ spS n S ≤ a3
def SY (n c : Nat) (Y a3 : Int32) (T : Nat → Int32) (K : Nat) : Prop := K ≤ c ∧ (∀ j, j < K → ∀ S, CYs (j + 1) T S → okS n Y a3 S) ∧ (K < c → ∀ S, CYs (K + 1) T S → ¬ okS n Y a3 S)
theorem stay5 {n c : Nat} (hn : n < 6) (hc : c ≤ 40) {T : Nat → Int32} {Y0 a3 : Int32} {μ0 : Mem} {q : Int32 → Mem → Prop} (hq : ∀ K μ', SY n c (Y0 &&& (bit n ^^^ (-1))) a3 T K → fr5 1 μ0 μ' → BG 1 μ' → q (if K = c then 1 else 0) μ') : ∀ (d m : Nat) (μ' : Mem), m + d = c → PB 1 m T μ' → fr5 1 μ0 μ' → (∀ j, j < m → ∀ S, CYs (j + 1) T S → okS n (Y0 &&& (bit n ^^^ (-1))) a3 S) → wp_X5_staysTogether_l15 (bit n ^^^ (-1)) (nI c) a3 q (d + 1) (Y0 &&& (bit n ^^^ (-1))) (nI m) μ'
  | 0, m, μ', hm, hP, hf, hj => by
    have : m = c := by omega
    subst this
    unfold wp_X5_staysTogether_l15
    refine ⟨fun _ => ?_, fun z => absurd (nI_le (Nat.le_refl m) (by omega)) z⟩
    have := hq m μ' ⟨by omega, hj, fun z => absurd z (by omega)⟩ hf hP.2
    rwa [if_pos rfl] at this
  | d + 1, m, μ', hm, hP, hf, hj => by
    unfold wp_X5_staysTogether_l15
    refine ⟨fun z => absurd z (nI_ge (by omega) (by omega)), fun _ => w_passB hP (fun μ2 f2 p2 => w_thatAre 1 _ _ _ ?_)⟩
    obtain ⟨⟨C, c1, c2⟩, hB⟩ := p2
    rw [stS_of c2]
    intro y hy
    subst hy
    rw [w_areAllIn, b2i_0, and_sub]
    have rb : ∀ S, CYs (m + 1) T S → RB 1 μ2 S := fun S hS => EQ_RB c2 (CYs_EQ (m + 1) c1 hS)
    have all : ∀ S, CYs (m + 1) T S → stS S = stS C := fun S hS => by rw [← stS_of c2, stS_of (rb S hS)]
    have bad : ∀ μ3, fr5 1 μ0 μ3 → BG 1 μ3 → (∀ S, CYs (m + 1) T S → ¬ okS n (Y0 &&& (bit n ^^^ (-1))) a3 S) → q 0 μ3 := fun μ3 f3 b3 hb => by
      have := hq m μ3 ⟨by omega, hj, fun _ => hb⟩ f3 b3
      rwa [if_neg (by omega)] at this
    refine ⟨fun z => bad μ2 (fr5_t hf f2) hB (fun S hS hk => ?_), fun z => w_apart 1 _ _ _ ?_⟩
    · have := hk.1
      rw [all S hS] at this
      exact (of_decide_eq_false z) this
    · have ez : spN (inb (stS C &&& (bit n ^^^ (-1)))) (fun n => μ2 3 (6 * 1 + n) 11) = spS n C := spN_congr (fun o ho => inb_but hn ho C) (fun o ho => by rw [c2.1 o ho 11 (by omega) (by omega), rT_11])
      rw [ez]
      have sps : ∀ S, CYs (m + 1) T S → spS n S = spS n C := fun S hS => by
        have e1 := CYs_EQ (m + 1) hS c1
        exact spN_congr (fun o ho => by rw [e1.1 (30 + o) (by omega) (by omega)]) (fun o ho => e1.1 _ (by omega) (by omega))
      refine ⟨fun z2 => ?_, fun z2 => bad μ2 (fr5_t hf f2) hB (fun S hS hk => z2 (by rw [← sps S hS]; exact hk.2))⟩
      rw [← nI_succ]
      refine stay5 hn hc hq d (m + 1) μ2 (by omega) ⟨⟨C, c1, c2⟩, hB⟩ (fr5_t hf f2) (fun j hj2 S hS => ?_)
      by_cases e : j = m
      · subst e
        refine ⟨?_, by rw [sps S hS]; exact z2⟩
        rw [all S hS]
        simpa using z
      · exact hj j (by omega) S hS
theorem one6 {N n c K : Nat} (hn : n < 6) (hc : c ≤ 40) {T : Nat → Int32} {Y a2 a3 : Int32} (hG : GI N T) (hN : N + 300 < 100000) (hS : SY n c Y a3 T K) {μ0 : Mem} {q : Int32 → Mem → Prop} (hq : ∀ M, fr6 μ0 M → wp_X6_load (nI 2) M (fun m_1 => q (if K = c then 1 else 0) m_1)) : ∀ (d m : Nat) (μ' : Mem), m + d = c → m ≤ K → CYs m T (μ' 20 0) → fr6 μ0 μ' → wp_X6_bearsOne_l34 (nI n) a2 (nI c) a3 q (d + 1) Y 1 (nI m) μ' := by
  obtain ⟨hK, s1, s2⟩ := hS
  have b85 : ∀ (b : Int32) (μ' : Mem), b = (if K = c then 1 else 0) → fr6 μ0 μ' → wp_X6_bearsOne_b85 (nI n) a2 (nI c) a3 q b μ' := fun b μ' hb hf => by
    unfold wp_X6_bearsOne_b85
    have hz : nz b := by
      subst hb
      split
      · exact Or.inr rfl
      · exact Or.inl rfl
    have := hq μ' hf
    rw [← hb] at this
    simpa [hz] using this
  intro d
  induction d with
  | zero =>
    intro m μ' hm hmK hC hf
    have : m = c := by omega
    subst this
    unfold wp_X6_bearsOne_l34
    exact ⟨fun _ => b85 1 μ' (by rw [if_pos (by omega)]) hf, fun z => absurd (nI_le (Nat.le_refl m) (by omega)) z⟩
  | succ d ih =>
    intro m μ' hm hmK hC hf
    rw [wp_X6_bearsOne_l34]
    refine ⟨fun z => absurd z (nI_ge (by omega) (by omega)), fun _ => ⟨fun z => absurd z (by decide), fun _ => w6_cycleB hG (by omega) hC (fun M1 p1 f1 => w6_spreadBut _ _ _ ?_)⟩⟩
    have f1' := fr6_t hf f1
    have bad : ¬ okS n Y a3 (M1 20 0) → wp_X6_bearsOne_b76 (nI n) a2 (nI c) a3 q (wp_X6_bearsOne_l34 (nI n) a2 (nI c) a3 q (d + 1)) Y (nI m) M1 := fun hb => by
      have eK : m = K := by
        rcases Nat.lt_or_ge m K with z | z
        · exact absurd (s1 m z _ p1) hb
        · omega
      unfold wp_X6_bearsOne_b76 wp_X6_bearsOne_b77
      rw [wp_X6_bearsOne_l34]
      have e0 : (0 : Int32) = (if K = c then 1 else 0) := by rw [if_neg (by omega)]
      exact ⟨fun _ => b85 0 M1 e0 f1', fun _ => ⟨fun _ => b85 0 M1 e0 f1', fun z => absurd rfl z⟩⟩
    refine ⟨fun z => bad (fun hk => absurd hk.2 (Int32.not_le.mpr z)), fun z => w6_setOf _ _ _ ?_⟩
    refine ⟨fun z2 => bad (fun hk => z2 hk.1), fun z2 => ?_⟩
    unfold wp_X6_bearsOne_b77
    rw [← nI_succ]
    refine ih (m + 1) M1 (by omega) ?_ p1 f1'
    rcases Nat.lt_or_ge m K with z3 | z3
    · omega
    · have : m = K := by omega
      subst this
      exact absurd ⟨z2, Int32.not_lt.mp z⟩ (s2 (by omega) _ p1)
/-! the offsets in turn -/
def bv : Nat → Int32
  | 0 => nI 400
  | i + 1 => bv i + (-10)
theorem bv_ok : ∀ i : Fin 41, ¬ bv i < 0 := by decide +kernel
theorem bv_end : bv 41 < 0 := by decide +kernel
theorem stS_congr {S S' : Nat → Int32} (h : ∀ j, 30 ≤ j → j < 36 → S j = S' j) : stS S = stS S' := bitsN_congr 6 (fun n hn => by rw [h _ (by omega) (by omega)])
def SYi (n c : Nat) (a3 : Int32) (T : Nat → Int32) (i : Nat) (r : Int32) : Prop := ∃ K, SY n c (stS T &&& (bit n ^^^ (-1))) a3 (upd T (24 + n) (bv i)) K ∧ r = if K = c then 1 else 0
def BR (n c : Nat) (a3 : Int32) (T : Nat → Int32) (I : Nat) : Prop := I ≤ 41 ∧ (∀ i, i < I → SYi n c a3 T i 0) ∧ (I ≤ 40 → SYi n c a3 T I 1)
theorem bears5 {n c : Nat} (hn : n < 6) (hc : c ≤ 40) {a3 : Int32} {μ0 : Mem} (h0 : RB 0 μ0 (μ0 20 0)) (g0 : BG 0 μ0) {q : Int32 → Mem → Prop} (hq : ∀ I μ', BR n c a3 (μ0 20 0) I → fr5 1 μ0 μ' → BG 1 μ' → q (if I ≤ 40 then bv I else -6) μ') : ∀ (d i : Nat) (μ' : Mem), i + d = 41 → BG 1 μ' → fr5 1 μ0 μ' → (∀ j, j < i → SYi n c a3 (μ0 20 0) j 0) → wp_X5_bears_l38 (nI n) (nI c) a3 q (d + 1) (bv i) μ'
  | 0, i, μ', hi, hB, hf, hj => by
    have : i = 41 := by omega
    subst this
    unfold wp_X5_bears_l38
    refine ⟨fun _ => ?_, fun z => absurd bv_end z⟩
    have := hq 41 μ' ⟨by omega, hj, fun z => absurd z (by omega)⟩ hf hB
    rwa [if_neg (by omega)] at this
  | d + 1, i, μ', hi, hB, hf, hj => by
    unfold wp_X5_bears_l38
    refine ⟨fun z => absurd z (bv_ok ⟨i, by omega⟩), fun _ => ?_⟩
    have fo : ∀ k i, own 0 k i → μ' k i = μ0 k i := fun k i ho => hf k i (own_ne ho (by omega))
    have r0 : RB 0 μ' (μ0 20 0) := RB_frame h0 fo
    refine w_copyB (by omega) _ _ (fun m hm => (BG_frame g0 fo m hm).1) (fun m hm => (hB m hm).2) (fun M1 f1 g1 r1 => ⟨vi hn (by omega), ?_⟩)
    rw [cl (show n < 100000 by omega)]
    rintro j rfl m rfl
    rw [w_bitOf]
    have rM := RB_setF (bv i) (r1 _ r0) hn (show 4 < 14 by omega) (by omega)
    rw [if_pos (by omega)] at rM
    have gM : BG 1 (ms M1 3 (6 * 1 + n) 4 (bv i)) := BG_setF _ g1 hn (by omega) (by omega)
    have fM : fr5 1 μ0 (ms M1 3 (6 * 1 + n) 4 (bv i)) := fr5_t (fr5_t hf f1) (fun k a ho => ms_o _ _ _ (by unfold own at ho; omega))
    unfold wp_X5_staysTogether
    refine w_thatAre 1 _ _ _ ?_
    rw [stS_of rM]
    intro y hy
    subst hy
    have es : stS (upd (μ0 20 0) (6 * 4 + n) (bv i)) = stS (μ0 20 0) := stS_congr (fun j h1 h2 => upd_n _ _ (by omega))
    rw [es]
    refine ⟨c + 1, stay5 hn hc (μ0 := μ0) (T := upd (μ0 20 0) (24 + n) (bv i)) (fun K μ2 hK f2 b2 => ?_) c 0 _ (by omega) (PB_0 rM gM) fM (fun j hj => absurd hj (Nat.not_lt_zero j))⟩
    by_cases e : K = c
    · rw [if_pos e]
      refine ⟨fun z => absurd z (by decide), fun _ => ?_⟩
      have := hq i μ2 ⟨by omega, hj, fun _ => ⟨K, hK, by rw [if_pos e]⟩⟩ f2 b2
      rwa [if_pos (by omega)] at this
    · rw [if_neg e]
      refine ⟨fun _ => ?_, fun z => absurd rfl z⟩
      refine bears5 hn hc h0 g0 hq d (i + 1) μ2 (by omega) b2 f2 (fun j hj2 => ?_)
      by_cases e2 : j = i
      · subst e2; exact ⟨K, hK, by rw [if_neg e]⟩
      · exact hj j (by omega)
def fr7 (μ0 μ : Mem) : Prop := ∀ k i, ¬ scr k i → ¬ (k = 21 ∧ i = 0) → μ k i = μ0 k i
theorem bearsOne6 {N n c i : Nat} (hn : n < 6) (hc : c ≤ 40) {a3 r : Int32} {T : Nat → Int32} (hG : GI N T) (hN : N + 300 < 100000) {μ : Mem} (hT : ∀ j, j < 256 → μ 20 0 j = T j) (hS : SYi n c a3 T i r) {q : Int32 → Mem → Prop} (hq : ∀ M, fr7 μ M → (∀ j, j < 512 → M 21 0 j = μ 21 0 j) → (∀ j, j < 256 → M 20 0 j = T j) → q r M) : wp_X6_bearsOne (nI n) (bv i) (nI c) a3 μ q := by
  obtain ⟨K, hK, rfl⟩ := hS
  unfold wp_X6_bearsOne
  refine w6_setOf _ _ _ ?_
  have es : bitsN (fun n => decide (μ 20 0 (30 + n) = nI 4)) 6 = stS T := bitsN_congr 6 (fun n hn => by rw [hT _ (by omega)])
  rw [es]
  intro y hy
  subst hy
  refine w6_save (k := 2) (by omega) _ _ ?_
  generalize hM1 : mr μ 21 0 (svR 2 256 (μ 21 0) (μ 20 0)) = M1
  have h21 : M1 21 0 = svR 2 256 (μ 21 0) (μ 20 0) := by rw [← hM1, mr_s]
  have f1 : ∀ k i, ¬ (k = 21 ∧ i = 0) → M1 k i = μ k i := fun k i hk => by rw [← hM1, mr_n _ _ hk]
  have v1 : vp_in (nI (24 + n)) 256 := vi (by omega) (by omega)
  rw [nI_add]
  refine ⟨v1, ?_⟩
  rw [cl (show 24 + n < 100000 by omega)]
  rintro m rfl
  refine ⟨c + 1, one6 hn hc (GI_upd (bv i) hG (by omega)) hN hK (μ0 := M1) (fun M f3 => ?_) c 0 _ (by omega) (by omega) (fun j hj => ?_) (fun k a hk => ms_o _ _ _ (by unfold scr at hk; omega))⟩
  · have h21' : M 21 0 = svR 2 256 (μ 21 0) (μ 20 0) := by rw [f3 21 0 (by unfold scr; omega), h21]
    refine w6_load (k := 2) (by omega) _ _ (hq _ (fun k a hk hk2 => ?_) (fun j hj => ?_) (fun j hj => ?_))
    · rw [mr_n _ _ (by unfold scr at hk; omega), f3 k a hk, f1 k a hk2]
    · rw [mr_k _ _ (by decide), h21']
      simp only [svR]
      rw [if_neg (by omega)]
    · rw [mr_s, h21', ld_sv _ _ _ _ hj, hT j hj]
  · rw [ms_s, f1 20 0 (by omega)]
    simp only [upd]
    split
    · rfl
    · exact (hT j hj).symm
theorem bears6 {N n c I : Nat} (hn : n < 6) (hc : c ≤ 40) {a3 : Int32} {T : Nat → Int32} (hG : GI N T) (hN : N + 300 < 100000) (hI : BR n c a3 T I) {μ0 : Mem} {q : Int32 → Mem → Prop} (hq : ∀ M, fr7 μ0 M → (∀ j, j < 512 → M 21 0 j = μ0 21 0 j) → (∀ j, j < 256 → M 20 0 j = T j) → q (if I ≤ 40 then bv I else -6) M) : ∀ (d i : Nat) (μ' : Mem), i + d = 41 → i ≤ I → fr7 μ0 μ' → (∀ j, j < 512 → μ' 21 0 j = μ0 21 0 j) → (∀ j, j < 256 → μ' 20 0 j = T j) → wp_X6_bears_l38 (nI n) (nI c) a3 q (d + 1) (bv i) μ'
  | 0, i, μ', hi, hiI, f1, f2, f3 => by
    have : i = 41 := by omega
    subst this
    unfold wp_X6_bears_l38
    refine ⟨fun _ => ?_, fun z => absurd bv_end z⟩
    have := hq μ' f1 f2 f3
    rwa [if_neg (by have := hI.1; omega)] at this
  | d + 1, i, μ', hi, hiI, f1, f2, f3 => by
    unfold wp_X6_bears_l38
    refine ⟨fun z => absurd z (bv_ok ⟨i, by omega⟩), fun _ => ?_⟩
    by_cases e : i = I
    · subst e
      refine bearsOne6 hn hc hG hN f3 (hI.2.2 (by omega)) (fun M g1 g2 g3 => ⟨fun z => absurd z (by decide), fun _ => ?_⟩)
      have := hq M (fun k a h1 h2 => (g1 k a h1 h2).trans (f1 k a h1 h2)) (fun j hj => (g2 j hj).trans (f2 j hj)) g3
      rwa [if_pos (by omega)] at this
    · refine bearsOne6 hn hc hG hN f3 (hI.2.1 i (by omega)) (fun M g1 g2 g3 => ⟨fun _ => ?_, fun z => absurd rfl z⟩)
      exact bears6 hn hc hG hN hI hq d (i + 1) M (by omega) (by omega) (fun k a h1 h2 => (g1 k a h1 h2).trans (f1 k a h1 h2)) (fun j hj => (g2 j hj).trans (f2 j hj)) g3
theorem Inv_trial2 {N : Nat} {μ μ1 M : Mem} (h : Inv N μ) (f1 : fr5 1 μ μ1) (b1 : BG 1 μ1) (f2 : fr7 μ1 M) (h21 : ∀ j, j < 512 → M 21 0 j = μ1 21 0 j) (hT : ∀ j, j < 256 → M 20 0 j = μ 20 0 j) : Inv (N + 50) M := by
  have fo : ∀ b k i, own b k i → M k i = μ1 k i := fun b k i ho => f2 k i (by have := own_k ho; unfold scr; omega) (by have := own_k ho; omega)
  refine Inv_step h (by omega) (fun k i h1 h2 h3 h4 h5 h6 h7 h8 => by rw [f2 k i (by unfold scr; omega) h8, f1 k i h7]) (fun k hk j hj => ?_) ?_ (GI_mono (GI_congr h.2.1 hT) (by omega)) ?_ (BG_frame b1 (fo 1))
  · unfold img
    rw [h21 _ (by omega), f1 21 0 (by unfold own; omega)]
  · exact RB_congr (RB_frame h.1 (fun k i ho => by rw [fo 0 k i ho, f1 k i (own_ne ho (by omega))])) hT
  · exact BG_frame (h.2.2.1 0 (by omega)) (fun k i ho => by rw [fo 0 k i ho, f1 k i (own_ne ho (by omega))])
theorem op_bears {N : Nat} {μ : Mem} (h : Inv N μ) (hN : N + 300 < 100000) (a1 a2 a3 : Int32) : wp_X5_bears a1 a2 a3 μ (fun r μ1 => wp_X6_bears a1 a2 a3 μ1 (fun r' μ2 => r = r' ∧ Inv (N + 50) μ2)) := by
  have fin : Inv (N + 50) μ := Inv_mono h (by omega)
  unfold wp_X5_bears wp_X6_bears
  simp only [w_isNode, w6_isNode, w_isWithin, w_in, b2i_0]
  refine ⟨fun c => ?_, fun c => ⟨fun c2 => absurd c c2, fun _ => (by first | exact fin | exact ⟨rfl, fin⟩ | exact ⟨trivial, fin⟩)⟩⟩
  have c' : wth a1 0 (nI 5) = true := by simpa using c
  obtain ⟨n, hn, rfl⟩ := within_node c'
  refine ⟨fun d => ⟨fun _ => ⟨fun _ => (by first | exact fin | exact ⟨rfl, fin⟩ | exact ⟨trivial, fin⟩), fun z => absurd d z⟩, fun z => absurd z c⟩, fun d => ?_⟩
  obtain ⟨m, hm, rfl⟩ := wth1_nat (k := 40) (by omega) (show wth a2 1 (nI 40) = true by simpa using d)
  refine ⟨fun e => ?_, fun e => ⟨fun _ => ⟨fun z => absurd z d, fun _ => ⟨fun z => absurd e z, fun _ => (by first | exact fin | exact ⟨rfl, fin⟩ | exact ⟨trivial, fin⟩)⟩⟩, fun z => absurd z c⟩⟩
  refine ⟨42, bears5 hn hm (μ0 := μ) h.1 (h.2.2.1 0 (by omega)) (fun I μ1 hI f1 b1 => ?_) 41 0 μ (by omega) (h.2.2.1 1 (by omega)) (fun _ _ _ => rfl) (fun j hj => absurd hj (Nat.not_lt_zero j))⟩
  refine ⟨fun _ => ⟨fun z => absurd z d, fun _ => ⟨fun _ => ?_, fun z => absurd z e⟩⟩, fun z => absurd z c⟩
  refine ⟨42, bears6 hn hm h.2.1 hN hI (μ0 := μ1) (fun M g1 g2 g3 => ⟨rfl, Inv_trial2 h f1 b1 g1 g2 g3⟩) 41 0 μ1 (by omega) (by omega) (fun _ _ _ _ => rfl) (fun _ _ => rfl) (fun j _ => by rw [fr5_T f1])⟩
