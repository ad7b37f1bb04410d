theorem odd_eq {x : Int32} {c : Nat} (hc : c < 100000) (hx : x = nI c) : ((x - x / (nI 2) * (nI 2)) = 1) = ((x &&& 1) = 1) := by
  rw [hx, pk_rem (by omega) (by omega) (by omega), pk_andN (by omega) 1 (by decide)]
theorem cSet_45 {hd st gd gs gp pgd pst s : Int32} {r : Nat → Int32} (h : r 5 = nI 4 ∨ r 5 = nI 5) : cSet hd st gd gs gp pgd pst s r = r := by
  unfold cSet
  rcases h with h | h <;> rw [h] <;> simp [zz_4_1, zz_4_2, zz_4_3, zz_5_1, zz_5_2, zz_5_3]
theorem cKeep_5 {r : Nat → Int32} (h1 : r 5 = nI 4 → r 10 ≤ 0) (h2 : r 5 = nI 5 → r 10 < nI 3 ∧ r 9 < nI 2) : cKeep r = r := by
  unfold cKeep
  rw [if_neg (fun z => z.2 (h1 z.1)), if_neg (fun z => z.2 (h2 z.1).1), if_neg (fun z => z.2 (h2 z.1).2)]
theorem E_keepOn {μ : Mem} {n sz c : Nat} {r L : Nat → Int32} {M : Mem} {q : Mem → Prop} (hn : n < 6) (h : isE μ n r L M) (hs : sz ≤ 40) (hL : L 135 = nI sz) (h64 : ∃ w, w < 64 ∧ μ 28 0 n = nI w) (hc : c < 100000) (hcy : μ 20 0 133 = nI c) (hk1 : r 5 = nI 4 → r 10 ≤ 0) (hk2 : r 5 = nI 5 → r 10 < nI 3 ∧ r 9 < nI 2)
    (hq : ∀ M', isE μ n (if (μ 20 0 133 &&& 1) = 1 then cCor (μ 28 0 n) (tsF (inb (μ 28 0 n)) (fun o => μ 31 0 (6 * n + o))) (tsF (inb (μ 28 0 n &&& μ 20 0 (84 + n))) (fun o => μ 31 0 (6 * n + o) - μ 20 0 (96 + 6 * n + o))) (μ 20 0 132) r else r) (lgE L (μ 20 0 133) n r (if (μ 20 0 133 &&& 1) = 1 then cCor (μ 28 0 n) (tsF (inb (μ 28 0 n)) (fun o => μ 31 0 (6 * n + o))) (tsF (inb (μ 28 0 n &&& μ 20 0 (84 + n))) (fun o => μ 31 0 (6 * n + o) - μ 20 0 (96 + 6 * n + o))) (μ 20 0 132) r else r)) M' → q M') : wp_X6_keepOn (nI n) M q := by
  unfold wp_X6_keepOn
  have v1 : vp_in (nI 133) 256 := vi (by omega) (by omega)
  have e133 : M 20 0 133 = μ 20 0 133 := by rw [h.1, pw_lo (by omega)]
  simp only [forall_eq, v1, true_and, cl (show 133 < 100000 by omega), e133, odd_eq hc hcy]
  refine ⟨fun c1 => ?_, fun c1 => ?_⟩
  · rw [if_neg c1] at hq
    refine E_keep19 (r0 := r) hn h hs hL rfl ?_
    rw [cKeep_5 hk1 hk2]
    exact hq
  · rw [if_pos c1] at hq
    refine E_correct hn h h64 (fun M1 h1 => ?_)
    refine E_keep19 (r0 := r) hn h1 hs hL ?_ hq
    unfold cPre
    split
    · rw [upd_n _ _ (by decide), upd_n _ _ (by decide)]
    · rw [upd_n _ _ (by decide), upd_n _ _ (by decide), upd_n _ _ (by decide), upd_n _ _ (by decide)]
theorem kev_sz {L : Nat → Int32} {c n v : Int32} {sz : Nat} (hs : sz ≤ 40) (hL : L 135 = nI sz) : ∃ sz', sz' ≤ 40 ∧ kev L c n v 135 = nI sz' := by
  unfold kev
  by_cases h : L 135 = nI 40
  · rw [if_pos h, if_neg (by omega), if_neg (by omega), if_neg (by omega), if_neg (by omega)]
    exact ⟨sz, hs, hL⟩
  · rw [if_neg h, if_neg (by omega), if_neg (by omega), if_neg (by omega), if_pos rfl, hL, nI_1]
    refine ⟨sz + 1, ?_, rfl⟩
    rcases Nat.lt_or_ge sz 40 with z | z
    · omega
    · have : sz = 40 := by omega
      rw [this] at hL
      exact absurd hL h
theorem E_end {μ : Mem} {n sz c : Nat} {r L : Nat → Int32} {M : Mem} {gs gp s : Int32} {q : Mem → Prop} (hn : n < 6) (h : isE μ n r L M) (hs : sz ≤ 40) (hL : L 135 = nI sz) (h64 : ∃ w, w < 64 ∧ μ 28 0 n = nI w) (hc : c < 100000) (hcy : μ 20 0 133 = nI c) (hk1 : r 5 = nI 4 → r 10 ≤ 0) (hk2 : r 5 = nI 5 → r 10 < nI 3 ∧ r 9 < nI 2) (hr : ∀ f, f < 5 → r f = μ 20 0 (6 * f + n))
    (hg : (μ 30 0 n = -6 ∧ μ 29 0 n = 0) ∨ ∃ g, g < 6 ∧ μ 30 0 n = nI g ∧ gs = μ 31 0 (6 * n + g) ∧ gp = μ 20 0 (18 + g) + μ 32 0 g)
    (hsg : r 5 = 1 → b2i (anyN (fun o => decide (¬ o = n) && decide (¬ μ 25 0 o = 0)) 6) = s)
    (E : Nat → Int32) (hE : E = if (μ 20 0 133 &&& 1) = 1 ∧ (r 5 = nI 4 ∨ r 5 = nI 5) then cCor (μ 28 0 n) (tsF (inb (μ 28 0 n)) (fun o => μ 31 0 (6 * n + o))) (tsF (inb (μ 28 0 n &&& μ 20 0 (84 + n))) (fun o => μ 31 0 (6 * n + o) - μ 20 0 (96 + 6 * n + o))) (μ 20 0 132) (cSet (μ 28 0 n) (μ 29 0 n) (μ 30 0 n) gs gp (μ 20 0 (78 + n)) (μ 20 0 (90 + n)) s r) else cSet (μ 28 0 n) (μ 29 0 n) (μ 30 0 n) gs gp (μ 20 0 (78 + n)) (μ 20 0 (90 + n)) s r)
    (hq : ∀ M', isE μ n E (lgE (if μ 26 0 n = 0 then L else kev L (μ 20 0 133) (nI n) (r 5)) (μ 20 0 133) n r E) M' → q M') : wp_X6_end (nI n) M q := by
  have b14 : ∀ (M1 : Mem) (L1 : Nat → Int32) (sz1 : Nat), isE μ n r L1 M1 → sz1 ≤ 40 → L1 135 = nI sz1 → (∀ M', isE μ n E (lgE L1 (μ 20 0 133) n r E) M' → q M') → wp_X6_end_b14 (nI n) q M1 := by
    intro M1 L1 sz1 h1 hs1 hL1 hq1
    unfold wp_X6_end_b14 wp_X6_end_b80
    have v1 : vp_in (nI (30 + n)) 256 := vi (by omega) (by omega)
    have e5 : M1 20 0 (30 + n) = r 5 := by rw [h1.1, pw_5 hn]
    simp only [forall_eq, nI_add, v1, true_and, cl (show 30 + n < 100000 by omega), e5]
    have keep : (r 5 = nI 4 ∨ r 5 = nI 5) → wp_X6_keepOn (nI n) M1 q := by
      intro c45
      refine E_keepOn hn h1 hs1 hL1 h64 hc hcy hk1 hk2 (fun M' h' => hq1 M' ?_)
      rw [cSet_45 c45] at hE
      have : E = if (μ 20 0 133 &&& 1) = 1 then cCor (μ 28 0 n) (tsF (inb (μ 28 0 n)) (fun o => μ 31 0 (6 * n + o))) (tsF (inb (μ 28 0 n &&& μ 20 0 (84 + n))) (fun o => μ 31 0 (6 * n + o) - μ 20 0 (96 + 6 * n + o))) (μ 20 0 132) r else r := by
        rw [hE]
        by_cases co : (μ 20 0 133 &&& 1) = 1
        · rw [if_pos ⟨co, c45⟩, if_pos co]
        · rw [if_neg (fun z => co z.1), if_neg co]
      rw [this]
      exact h'
    refine ⟨fun c1 => ?_, fun c1 => ⟨fun c2 => ?_, fun c2 => ⟨fun c3 => ?_, fun c3 => ⟨fun c4 => keep (Or.inl c4), fun c4 => ⟨fun c5 => keep (Or.inr c5), fun c5 => ?_⟩⟩⟩⟩⟩
    · refine E_listen (gs := gs) (gp := gp) hn h1 hs1 hL1 c1 (by rw [hr 0 (by omega)]; simp) (by rw [hr 2 (by omega)]) (by rw [hr 3 (by omega)]) hg (fun M' h' => hq1 M' ?_)
      rw [hsg c1] at h'
      have : E = cLis (μ 28 0 n) (μ 29 0 n) (μ 30 0 n) gs gp (μ 20 0 (78 + n)) (μ 20 0 (90 + n)) s r := by
        rw [hE, if_neg]
        · unfold cSet; rw [if_pos c1]
        · rw [c1]; rintro ⟨-, z | z⟩
          · exact absurd z (by decide)
          · exact absurd z (by decide)
      rw [this]
      exact h'
    · refine E_lead hn h1 hs1 hL1 c2 (fun M' h' => hq1 M' ?_)
      have : E = cLead (μ 29 0 n) r := by
        rw [hE, if_neg]
        · unfold cSet; rw [if_neg c1, if_pos c2]
        · rw [c2]; rintro ⟨-, z | z⟩
          · exact absurd z (by decide)
          · exact absurd z (by decide)
      rw [this]
      exact h'
    · refine E_join hn h1 hs1 hL1 c3 (fun M' h' => hq1 M' ?_)
      have : E = cJoin (μ 29 0 n) r := by
        rw [hE, if_neg]
        · unfold cSet; rw [if_neg c1, if_neg c2, if_pos c3]
        · rw [c3]; rintro ⟨-, z | z⟩
          · exact absurd z (by decide)
          · exact absurd z (by decide)
      rw [this]
      exact h'
    · have : E = r := by
        rw [hE, if_neg (fun z => z.2.elim c4 c5)]
        unfold cSet; rw [if_neg c1, if_neg c2, if_neg c3]
      refine hq1 M1 ?_
      rw [this, lgE_same rfl]
      exact h1
  unfold wp_X6_end
  have v0 : vp_in (nI n) 6 := vi hn (by omega)
  have e26 : M 26 0 = μ 26 0 := isE_k h (by omega) 0
  simp only [forall_eq, v0, true_and, cl (show n < 100000 by omega), e26]
  refine ⟨fun c1 => ?_, fun c1 => ?_⟩
  · rw [if_pos c1] at hq
    exact b14 M L sz h hs hL hq
  · rw [if_neg c1] at hq
    have e135 : M 20 0 135 = nI sz := by rw [h.1, pw_L (by omega), hL]
    refine w6_keepEvent hn hs e135 ?_
    have e133 : M 20 0 133 = μ 20 0 133 := by rw [h.1, pw_lo (by omega)]
    have e30 : M 20 0 (30 + n) = r 5 := by rw [h.1, pw_5 hn]
    rw [e133, e30]
    obtain ⟨sz1, hs1, hL1⟩ := kev_sz (c := μ 20 0 133) (n := nI n) (v := r 5) hs hL
    refine b14 _ _ sz1 ⟨?_, ?_, fun k i hk => ?_⟩ hs1 hL1 hq
    · rw [mr_s, h.1, kev_pw]
    · rw [mr_k _ _ (by decide)]; exact h.2.1
    · rw [mr_n _ _ (fun z => hk ⟨by omega, z.2⟩)]
      exact h.2.2 k i hk
theorem gN_ex {p : Nat → Bool} {kd sl : Nat → Int32} : ∀ m, m ≤ 6 → (gN p kd sl m = -6 ∧ stN p kd m = 0) ∨ ∃ o, o < m ∧ gN p kd sl m = nI o ∧ p o = true
  | 0, _ => Or.inl ⟨rfl, rfl⟩
  | m + 1, hm => by
    have ih := gN_ex (p := p) (kd := kd) (sl := sl) m (by omega)
    simp only [gN, stN]
    rcases Bool.eq_false_or_eq_true (p m) with hp | hp
    · by_cases hk : kd m = 1
      · rcases ih with ⟨e1, e2⟩ | ⟨o, ho, e1, e2⟩
        · refine Or.inr ⟨m, by omega, ?_, hp⟩
          rw [if_pos]
          rw [e1, hp]
          simp [hk]
        · by_cases hc : (p m && (decide (kd m = 1) && (decide (gN p kd sl m < 0) || decide (sl m < sl (gN p kd sl m).toNatClampNeg)))) = true
          · rw [if_pos hc]
            exact Or.inr ⟨m, by omega, rfl, hp⟩
          · rw [if_neg hc]
            exact Or.inr ⟨o, by omega, e1, e2⟩
      · simp only [hk, decide_false, Bool.and_false, Bool.false_and, Bool.false_eq_true, if_false]
        rcases ih with z | ⟨o, ho, z⟩
        · exact Or.inl z
        · exact Or.inr ⟨o, by omega, z⟩
    · simp only [hp, Bool.false_and, Bool.false_eq_true, if_false]
      rcases ih with z | ⟨o, ho, z⟩
      · exact Or.inl z
      · exact Or.inr ⟨o, by omega, z⟩
/-- a row that agrees with rA, with the hearings of T: its end agrees with endR -/
theorem AG_end {T : Nat → Int32} {n : Nat} {r : Nat → Int32} {gs gp : Int32} (h : AG r (rA T n)) (hg : (gdT T n = -6 ∧ stT T n = 0) ∨ (gs = gsT T n ∧ gp = gpT T n)) : AG (if odT T = true ∧ (r 5 = nI 4 ∨ r 5 = nI 5) then cCor (hdT T n) (tsT T n) (tmT T n) (T 132) (cSet (hdT T n) (stT T n) (gdT T n) gs gp (T (78 + n)) (T (90 + n)) (sgA T) r) else cSet (hdT T n) (stT T n) (gdT T n) gs gp (T (78 + n)) (T (90 + n)) (sgA T) r) (endR T n) := by
  have hset : AG (cSet (hdT T n) (stT T n) (gdT T n) gs gp (T (78 + n)) (T (90 + n)) (sgA T) r) (setR T n) := by
    unfold setR
    rcases hg with ⟨e1, e2⟩ | ⟨e1, e2⟩
    · rw [e1, e2]
      intro f hf
      rw [AG_cSet h f hf]
      exact congrFun cSet_gs f
    · rw [e1, e2]
      exact AG_cSet h
  unfold endR
  rw [h 5 (by omega)]
  split
  · exact AG_cCor hset
  · exact hset
