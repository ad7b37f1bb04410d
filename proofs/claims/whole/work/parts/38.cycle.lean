theorem kev_congr {L L' : Nat → Int32} {c n v : Int32} (h : ∀ j, 135 ≤ j → j < 256 → L j = L' j) : ∀ j, 135 ≤ j → j < 256 → kev L c n v j = kev L' c n v j := by
  intro j h1 h2
  unfold kev
  rw [h 135 (by omega) (by omega)]
  split
  · by_cases c1 : 136 ≤ j ∧ j < 253
    · rw [if_pos c1, if_pos c1]
      exact h _ (by omega) (by omega)
    · rw [if_neg c1, if_neg c1, h j h1 h2]
  · rw [h j h1 h2]
theorem lgN_sz {c : Int32} {nw s en L0 : Nat → Int32} {sz : Nat} (hs : sz ≤ 40) (h0 : L0 135 = nI sz) : ∀ m, ∃ sz', sz' ≤ 40 ∧ lgN c nw s en L0 m 135 = nI sz'
  | 0 => ⟨sz, hs, h0⟩
  | m + 1 => by
    obtain ⟨sz1, h1, h2⟩ := lgN_sz (c := c) (nw := nw) (s := s) (en := en) hs h0 m
    simp only [lgN]
    have hA : ∃ sz', sz' ≤ 40 ∧ (if nw m = 0 then lgN c nw s en L0 m else kev (lgN c nw s en L0 m) c (nI m) (s m)) 135 = nI sz' := by
      split
      · exact ⟨sz1, h1, h2⟩
      · exact kev_sz h1 h2
    obtain ⟨sz2, h3, h4⟩ := hA
    split
    · exact ⟨sz2, h3, h4⟩
    · exact kev_sz h3 h4
theorem mw_o {T r L : Nat → Int32} {n o f : Nat} {c : Int32} (hn : n < 6) (ho : o < 6) (hne : o ≠ n) (hf : f < 13) : mw (pw T n r L) c o f = mw T c o f := by
  unfold mw
  by_cases h1 : f < 6
  · rw [if_pos h1, if_pos h1, pw_o hn ho hne (by omega)]
  · rw [if_neg h1, if_neg h1]
    by_cases h2 : f = 6
    · rw [if_pos h2, if_pos h2]
    · rw [if_neg h2, if_neg h2, pw_o hn ho hne (by omega)]
theorem mw_n {T r L : Nat → Int32} {n f : Nat} (hn : n < 6) (hr : ∀ f, f < 5 → r f = T (6 * f + n)) (hf : f < 13) : mw (pw T n r L) (r 6) n f = r f := by
  unfold mw
  by_cases h1 : f < 6
  · rw [if_pos h1]
    by_cases h5 : f = 5
    · subst h5; exact pw_5 hn
    · rw [pw_lo (by omega), hr f (by omega)]
  · rw [if_neg h1]
    by_cases h2 : f = 6
    · rw [if_pos h2, h2]
    · rw [if_neg h2, pw_f hn (by omega) (by omega)]
      congr 1; omega
theorem rA_5 {T : Nat → Int32} {n : Nat} (t : Int32) (ht : ¬ t = 1) (h : rA T n 5 = t) : flT T n = false ∧ T (30 + n) = t := by
  unfold rA at h
  cases hf : flT T n
  · rw [hf] at h
    simp only [Bool.false_eq_true, if_false] at h
    rw [rT_5] at h
    exact ⟨rfl, h⟩
  · rw [hf] at h
    simp only [if_true] at h
    rw [cBec_5] at h
    exact absurd h.symm ht
theorem sg_self {T : Nat → Int32} {n : Nat} (h : rA T n 5 = 1) : sgT T n = false := by
  unfold rA at h
  cases hf : flT T n
  · rw [hf] at h
    simp only [Bool.false_eq_true, if_false] at h
    rw [rT_5] at h
    simp [sgT, sgB, h, zz_1_2]
  · have hfs : fsT T n = true := by
      unfold flT at hf
      simp only [Bool.and_eq_true] at hf
      exact hf.1
    simp only [fsT, fsB, Bool.and_eq_true, decide_eq_true_eq] at hfs
    simp [sgT, sgB, hfs.2]
def I5 (T : Nat → Int32) : Prop := ∀ n, n < 6 → (T (30 + n) = nI 4 → T (54 + n) ≤ 0) ∧ (T (30 + n) = nI 5 → T (54 + n) < nI 3 ∧ T (48 + n) < nI 2)
/-- behind the ends of the first m nodes -/
def C2 (T : Nat → Int32) (M0 : Mem) (m : Nat) (M : Mem) : Prop :=
  (∀ n, n < 6 → ∀ f, f < 13 → mw (M 20 0) (M 27 0 n) n f = if n < m then endR T n f else rA T n f) ∧ (∀ j, 72 ≤ j → j < 135 → M 20 0 j = M0 20 0 j) ∧ (∀ j, 135 ≤ j → j < 256 → M 20 0 j = lgN (T 133) (fun n => b2i (flT T n)) (fun n => rA T n 5) (fun n => endR T n 5) T m j) ∧ ∀ k i, ¬ ((k = 6 ∨ k = 20 ∨ k = 23 ∨ k = 27) ∧ i = 0) → M k i = M0 k i
theorem w6_ends {T : Nat → Int32} {Mb M0 : Mem} {sz c : Nat} {q : Mem → Prop} (hs : sz ≤ 40) (hsz : T 135 = nI sz) (hc : c < 100000) (hcy : T 133 = nI c) (h5 : I5 T) (hC : C1 T Mb 6 M0) (h25 : ∀ n, n < 6 → M0 25 0 n = b2i (sgT T n)) (h26 : ∀ n, n < 6 → M0 26 0 n = b2i (flT T n)) (h27 : ∀ n, n < 6 → M0 27 0 n = b2i (flT T n)) (hq : ∀ M, C2 T M0 6 M → ∃ n : Nat, wp_X6_cycle_l95 q n 0 M) : ∃ n : Nat, wp_X6_cycle_l76 q n 0 M0 := by
  obtain ⟨c20, cH, -⟩ := hC
  have lo0 : ∀ j, j < 30 ∨ (60 ≤ j ∧ j ≠ 134) → M0 20 0 j = T j := fun j hj => by
    rw [c20, upd_n _ _ (by omega), T1_k (by omega)]
  refine ⟨7, loop6 (fun f m M => wp_X6_cycle_l76 q f (nI m) M) (fun m M => C2 T M0 m M) ?_ ?_ _ ⟨fun n hn f hf => ?_, fun _ _ _ => rfl, fun j h1 h2 => lo0 j (by omega), fun _ _ _ => rfl⟩⟩
  · intro M hI
    unfold wp_X6_cycle_l76
    exact ⟨fun _ => hq M hI, fun cc => absurd le66 cc⟩
  · intro k m M hm hI ih
    obtain ⟨i1, i2, i3, i4⟩ := hI
    unfold wp_X6_cycle_l76
    refine ⟨fun cc => absurd cc (nI_ge hm (by omega)), fun _ => ?_⟩
    simp only [nI_1]
    have hrow : AG (mw (M 20 0) (M 27 0 m) m) (rA T m) := fun f hf => by rw [i1 m hm f hf, if_neg (Nat.lt_irrefl m)]
    have r5 := hrow 5 (by omega)
    have r10 := hrow 10 (by omega)
    have r9 := hrow 9 (by omega)
    have e : ∀ k', k' ≠ 6 ∧ k' ≠ 20 ∧ k' ≠ 23 ∧ k' ≠ 27 → M k' 0 = M0 k' 0 := fun k' hk => i4 k' 0 (by omega)
    obtain ⟨a28, a29, a30, a31, a32⟩ := cH m hm
    have e28 : M 28 0 m = hdT T m := by rw [e 28 (by omega)]; exact a28
    have e29 : M 29 0 m = stT T m := by rw [e 29 (by omega)]; exact a29
    have e30 : M 30 0 m = gdT T m := by rw [e 30 (by omega)]; exact a30
    have e31 : ∀ o, o < 6 → heT T m o = true → M 31 0 (6 * m + o) = svT T m o := fun o ho hh => by rw [e 31 (by omega)]; exact a31 o ho hh
    have e32 : ∀ o, o < 6 → M 32 0 o = T (66 + o) := fun o ho => by rw [e 32 (by omega)]; exact (cH o ho).2.2.2.2
    have hi : ∀ j, 72 ≤ j → j < 134 → M 20 0 j = T j := fun j h1 h2 => by rw [i2 j h1 (by omega), lo0 j (by omega)]
    have e18 : ∀ o, o < 6 → M 20 0 (18 + o) = T (18 + o) := fun o ho => by
      have := i1 o ho 3 (by omega)
      unfold mw at this
      rw [if_pos (by omega)] at this
      rw [show 6 * 3 + o = 18 + o by omega] at this
      rw [this]
      split
      · unfold endR
        split
        · rw [cCor_k (by omega)]
          unfold setR
          rw [cSet_k (by omega), rA_k _ _ (by omega), rT_3]
        · unfold setR
          rw [cSet_k (by omega), rA_k _ _ (by omega), rT_3]
      · rw [rA_k _ _ (by omega), rT_3]
    have hd64 : ∃ w, w < 64 ∧ M 28 0 m = nI w := by rw [e28]; exact bits_lt _
    have hods : ((M 20 0 133 &&& 1) = 1) = (odT T = true) := by
      rw [hi 133 (by omega) (by omega)]
      unfold odT
      simp
    obtain ⟨sz1, hs1, hz1⟩ := lgN_sz (c := T 133) (nw := fun n => b2i (flT T n)) (s := fun n => rA T n 5) (en := fun n => endR T n 5) hs hsz m
    have hg : ∃ gs gp, ((gdT T m = -6 ∧ stT T m = 0) ∨ (gs = gsT T m ∧ gp = gpT T m)) ∧ ((M 30 0 m = -6 ∧ M 29 0 m = 0) ∨ ∃ g, g < 6 ∧ M 30 0 m = nI g ∧ gs = M 31 0 (6 * m + g) ∧ gp = M 20 0 (18 + g) + M 32 0 g) := by
      rw [e30, e29]
      rcases gN_ex (p := heT T m) (kd := T) (sl := fun o => T (6 + o)) 6 (Nat.le_refl 6) with z | ⟨o, ho, z1, z2⟩
      · exact ⟨0, 0, Or.inl z, Or.inl z⟩
      · have zg : gdT T m = nI o := z1
        refine ⟨gsT T m, gpT T m, Or.inr ⟨rfl, rfl⟩, Or.inr ⟨o, ho, zg, ?_, ?_⟩⟩
        · unfold gsT
          rw [zg, cl (by omega), e31 o ho z2]
        · unfold gpT
          rw [zg, cl (by omega), e18 o ho, e32 o ho]
    obtain ⟨gs, gp, hg1, hg2⟩ := hg
    have hE : ∃ E : Nat → Int32, E = (if (M 20 0 133 &&& 1) = 1 ∧ (mw (M 20 0) (M 27 0 m) m 5 = nI 4 ∨ mw (M 20 0) (M 27 0 m) m 5 = nI 5) then cCor (M 28 0 m) (tsF (inb (M 28 0 m)) (fun o => M 31 0 (6 * m + o))) (tsF (inb (M 28 0 m &&& M 20 0 (84 + m))) (fun o => M 31 0 (6 * m + o) - M 20 0 (96 + 6 * m + o))) (M 20 0 132) (cSet (M 28 0 m) (M 29 0 m) (M 30 0 m) gs gp (M 20 0 (78 + m)) (M 20 0 (90 + m)) (sgA T) (mw (M 20 0) (M 27 0 m) m)) else cSet (M 28 0 m) (M 29 0 m) (M 30 0 m) gs gp (M 20 0 (78 + m)) (M 20 0 (90 + m)) (sgA T) (mw (M 20 0) (M 27 0 m) m)) := ⟨_, rfl⟩
    obtain ⟨E, hE⟩ := hE
    have hAG : AG E (endR T m) := by
      have hts : tsF (inb (M 28 0 m)) (fun o => M 31 0 (6 * m + o)) = tsT T m := by
        rw [e28]
        refine tsF_congr (fun _ _ => rfl) (fun o ho hb => e31 o ho ?_)
        unfold hdT at hb
        rw [inb_bits _ ho] at hb
        exact hb
      have htm : tsF (inb (M 28 0 m &&& M 20 0 (84 + m))) (fun o => M 31 0 (6 * m + o) - M 20 0 (96 + 6 * m + o)) = tmT T m := by
        rw [e28, hi (84 + m) (by omega) (by omega)]
        refine tsF_congr (fun _ _ => rfl) (fun o ho hb => ?_)
        obtain ⟨b1, -⟩ := inb_and hb
        unfold hdT at b1
        rw [inb_bits _ ho] at b1
        show M 31 0 (6 * m + o) - M 20 0 (96 + 6 * m + o) = svT T m o - T (96 + 6 * m + o)
        rw [e31 o ho b1, hi _ (by omega) (by omega)]
      rw [hE, hts, htm, e28, e29, e30, hi 132 (by omega) (by omega), hi (78 + m) (by omega) (by omega), hi (90 + m) (by omega) (by omega)]
      simp only [hods]
      exact AG_end hrow hg1
    have hE5 : E 5 = endR T m 5 := hAG 5 (by omega)
    have hElow : ∀ f, f < 5 → E f = M 20 0 (6 * f + m) := fun f hf => by
      have hm2 : mw (M 20 0) (M 27 0 m) m f = M 20 0 (6 * f + m) := by unfold mw; rw [if_pos (by omega)]
      rw [hE]
      split
      · rw [cCor_k (by omega), cSet_k (by omega), hm2]
      · rw [cSet_k (by omega), hm2]
    refine E_end (μ := M) (r := mw (M 20 0) (M 27 0 m) m) (L := M 20 0) (gs := gs) (gp := gp) (s := sgA T) (sz := sz1) (c := c) hm (isE_id hm) hs1 (by rw [i3 135 (by omega) (by omega)]; exact hz1) hd64 hc (by rw [hi 133 (by omega) (by omega)]; exact hcy) ?_ ?_ (fun f hf => by unfold mw; rw [if_pos (by omega)]) hg2 ?_ E hE (fun M' h' => ih _ ?_)
    · intro h4
      rw [r5] at h4
      obtain ⟨z1, z2⟩ := rA_5 _ (by decide) h4
      have := (h5 m hm).1 z2
      rw [r10]
      unfold rA
      rw [z1]
      simpa [rT] using this
    · intro h4
      rw [r5] at h4
      obtain ⟨z1, z2⟩ := rA_5 _ (by decide) h4
      have := (h5 m hm).2 z2
      rw [r10, r9]
      unfold rA
      rw [z1]
      simpa [rT] using this
    · intro h1
      rw [r5] at h1
      have hsgm := sg_self h1
      unfold sgA
      congr 1
      have e25 : M 25 0 = M0 25 0 := e 25 (by omega)
      refine anyN_congr 6 (fun o ho => ?_)
      rw [e25, h25 o ho]
      simp only [b2i_0]
      by_cases ho2 : o = m
      · subst ho2
        rw [hsgm]; simp
      · cases sgT T o <;> simp [ho2]
    · obtain ⟨p1, p2, p3⟩ := h'
      refine ⟨fun n hn f hf => ?_, fun j h1 h2 => ?_, fun j h1 h2 => ?_, fun k' i' hk => ?_⟩
      · rw [p1, p2]
        by_cases hnm : n = m
        · subst hnm
          rw [upd_s, mw_n hn hElow hf, if_pos (by omega)]
          exact hAG f hf
        · rw [upd_n _ _ hnm, mw_o hm hn hnm hf, i1 n hn f hf]
          by_cases hl : n < m
          · rw [if_pos hl, if_pos (by omega)]
          · rw [if_neg hl, if_neg (by omega)]
      · rw [p1, pw_lo (by omega)]
        exact i2 j h1 h2
      · rw [p1, pw_L h1]
        have e26 : M 26 0 m = b2i (flT T m) := by rw [e 26 (by omega)]; exact h26 m hm
        rw [e26, hi 133 (by omega) (by omega)]
        simp only [lgN]
        unfold lgE
        rw [hE5, r5]
        have hA : ∀ j, 135 ≤ j → j < 256 → (if b2i (flT T m) = 0 then M 20 0 else kev (M 20 0) (T 133) (nI m) (rA T m 5)) j = (if b2i (flT T m) = 0 then lgN (T 133) (fun n => b2i (flT T n)) (fun n => rA T n 5) (fun n => endR T n 5) T m else kev (lgN (T 133) (fun n => b2i (flT T n)) (fun n => rA T n 5) (fun n => endR T n 5) T m) (T 133) (nI m) (rA T m 5)) j := by
          intro j h1 h2
          split
          · exact i3 j h1 h2
          · exact kev_congr i3 j h1 h2
        split
        · exact hA j h1 h2
        · exact kev_congr hA j h1 h2
      · rw [p3 k' i' hk]
        exact i4 k' i' hk
  · rw [if_neg (Nat.not_lt_zero n), h27 n hn, ← T1_rA hn hf, c20]
    unfold mw
    by_cases h1 : f < 6
    · rw [if_pos h1, if_pos h1, upd_n _ _ (by omega)]
    · rw [if_neg h1, if_neg h1]
      by_cases h2 : f = 6
      · rw [if_pos h2, if_pos h2]
      · rw [if_neg h2, if_neg h2, upd_n _ _ (by omega)]
