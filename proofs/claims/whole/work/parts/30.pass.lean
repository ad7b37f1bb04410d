theorem tsF_congr {p p' : Nat → Bool} {v v' : Nat → Int32} (hp : ∀ o, o < 6 → p o = p' o) (hv : ∀ o, o < 6 → p o = true → v o = v' o) : tsF p v = tsF p' v' := tsF_of (r0 := fun _ => 0) hp hv
theorem inb_and {x y : Int32} {o : Nat} (h : inb (x &&& y) o = true) : inb x o = true ∧ inb y o = true := by
  constructor
  · cases c : inb x o
    · rw [inb_and0 c] at h; exact h
    · rfl
  · cases c : inb y o
    · rw [Int32.and_comm, inb_and0 c] at h; exact h
    · rfl
theorem lgN_congr {c : Int32} {nw s en nw' s' en' : Nat → Int32} {L0 : Nat → Int32} : ∀ m, (∀ n, n < m → nw n = nw' n ∧ s n = s' n ∧ en n = en' n) → lgN c nw s en L0 m = lgN c nw' s' en' L0 m
  | 0, _ => rfl
  | m + 1, h => by
    have ih := lgN_congr (c := c) (L0 := L0) m (fun n hn => h n (by omega))
    obtain ⟨h1, h2, h3⟩ := h m (by omega)
    simp only [lgN, ih, h1, h2, h3]
theorem LR_congr {b : Nat} {μ : Mem} {T T' : Nat → Int32} (h : LR b μ T) (hT : ∀ j, 135 ≤ j → j < 256 → T' j = T j) : LR b μ T' := by
  obtain ⟨f, sz, h1, h2, h3, h4, h5, h6⟩ := h
  refine ⟨f, sz, h1, h2, h3, h4, by rw [hT 135 (by omega) (by omega)]; exact h5, fun e he => ?_⟩
  rw [hT _ (by omega) (by omega), hT (137 + 3 * e) (by omega) (by omega), hT (138 + 3 * e) (by omega) (by omega)]
  exact h6 e he
theorem nz_cBec {t : Int32} {r : Nat → Int32} : nz (cBec t r 6) := by simp [cBec, upd, nz]
theorem nz_cLis2 {st gd gs gp pgd pst : Int32} {r : Nat → Int32} (h : nz (r 6)) : nz (cLis2 st gd gs gp pgd pst r 6) := by
  unfold cLis2
  split
  · split
    · exact nz_cBec
    · split
      · exact h
      · exact nz_cBec
  · split
    · exact nz_cBec
    · exact h
theorem nz_cSet {hd st gd gs gp pgd pst s : Int32} {r : Nat → Int32} (h : nz (r 6)) : nz (cSet hd st gd gs gp pgd pst s r 6) := by
  unfold cSet
  split
  · unfold cLis; exact nz_cLis2 (by rw [upd_n _ _ (by decide)]; exact h)
  · split
    · unfold cLead
      split
      · exact nz_cBec
      · split
        · exact h
        · exact nz_cBec
    · split
      · unfold cJoin
        split
        · exact nz_cBec
        · split
          · exact h
          · exact nz_cBec
      · exact h
theorem nz_cCor {hd ts tm bd : Int32} {r : Nat → Int32} (h : nz (r 6)) : nz (cCor hd ts tm bd r 6) := by
  unfold cCor cKeep
  have hk : nz ((if hd = 0 ∨ ¬ absF ts ≤ bd then upd (upd r 10 (r 10 + 1)) 9 0 else upd (upd (upd (upd r 9 (r 9 + 1)) 10 0) 11 (r 11 + ts)) 12 (clampF (r 12 + tm))) 6) := by
    split
    · rw [upd_n _ _ (by decide), upd_n _ _ (by decide)]; exact h
    · rw [upd_n _ _ (by decide), upd_n _ _ (by decide), upd_n _ _ (by decide), upd_n _ _ (by decide)]; exact h
  generalize (if hd = 0 ∨ ¬ absF ts ≤ bd then upd (upd r 10 (r 10 + 1)) 9 0 else upd (upd (upd (upd r 9 (r 9 + 1)) 10 0) 11 (r 11 + ts)) 12 (clampF (r 12 + tm))) = r1 at hk ⊢
  split
  · exact nz_cBec
  · split
    · exact nz_cBec
    · split
      · exact nz_cBec
      · exact hk
theorem nz_endR (T : Nat → Int32) (n : Nat) : nz (endR T n 6) := by
  have hA : nz (rA T n 6) := by
    unfold rA
    split
    · exact nz_cBec
    · simp [rT, nz]
  have hS : nz (setR T n 6) := nz_cSet hA
  unfold endR
  split
  · exact nz_cCor hS
  · exact hS
theorem he_self (T : Nat → Int32) (n : Nat) : heT T n n = false := by simp [heT]
set_option maxHeartbeats 4000000 in
theorem w_pass {b : Nat} {μ : Mem} {T : Nat → Int32} {q : Mem → Prop} (hR : RB b μ T) (hq : ∀ μ', (∀ k i, ¬ own b k i → μ' k i = μ k i) → (∀ n, n < 6 → nz (μ' 3 (6 * b + n) 6) ∧ hx (6 * b + n) (μ' 3 (6 * b + n) 15) ≠ hx (6 * b + n) (μ' 3 (6 * b + n) 14)) → (∀ T', CY T T' → RB b μ' T') → q μ') : wp_X0_passCycle b μ q := by
  obtain ⟨hN, hS, hH, hg3, hg4, hg5, hL⟩ := hR
  have n5 : ∀ n, n < 6 → μ 3 (6 * b + n) 5 = T (30 + n) := fun n hn => by rw [hN n hn 5 (by omega) (by omega), rT_5]
  have n7 : ∀ n, n < 6 → μ 3 (6 * b + n) 7 = T (36 + n) := fun n hn => by rw [hN n hn 7 (by omega) (by omega), rT_7]
  have n1 : ∀ n, n < 6 → μ 3 (6 * b + n) 1 = T (6 + n) := fun n hn => by rw [hN n hn 1 (by omega) (by omega), rT_1]
  unfold wp_X0_passCycle
  refine w_isSign b μ _ ?_
  have es : b2i (anyN (fun n => sgB (μ 3 (6 * b + n) 5) (μ 3 (6 * b + n) 7)) 6) = sgA T := by
    unfold sgA
    congr 1
    exact anyN_congr 6 (fun n hn => by rw [n5 n hn, n7 n hn]; rfl)
  rw [es]
  refine w_choose (rd := rdT T) (gw := flT T) ?_ ?_ ?_
  · intro n hn
    rw [n5 n hn, n7 n hn]; rfl
  · intro n hn
    have e : anyN (fun o => decide (¬ o = n) && (rdT T o && (!fsB (μ 3 (6 * b + o) 5) (μ 3 (6 * b + o) 7) || decide (μ 3 (6 * b + o) 1 < μ 3 (6 * b + n) 1)))) 6 = anyN (wyT T n) 6 :=
      anyN_congr 6 (fun o ho => by rw [n5 o ho, n7 o ho, n1 o ho, n1 n hn]; rfl)
    rw [e, n5 n hn, n7 n hn]
    show (rdT T n && (fsT T n && anyN (wyT T n) 6)) = (fsT T n && anyN (wyT T n) 6)
    cases hf : fsT T n
    · simp
    · rw [fs_rd T n hf]; simp
  have hM1 : ∃ M1 : Mem, M1 = mr (nodesUp b 6 (FA (flT T) (fun n => rdT T n && !flT T n)) μ) 0 b (upd (μ 0 b) 5 (bitsN (fun n => rdT T n && !flT T n) 6)) := ⟨_, rfl⟩
  obtain ⟨M1, hM1⟩ := hM1
  rw [← hM1]
  have r1 : ∀ n, n < 6 → M1 3 (6 * b + n) = FA (flT T) (snT T) n (μ 3 (6 * b + n)) := fun n hn => by
    rw [hM1, mr_k _ _ (by decide), nu_at, if_pos hn]; rfl
  have o1 : ∀ k i, ¬ (k = 3 ∧ 6 * b ≤ i ∧ i < 6 * b + 6) → ¬ (k = 0 ∧ i = b) → M1 k i = μ k i := fun k i h1 h2 => by
    rw [hM1, mr_n _ _ h2, nu_o _ _ _ _ h1]
  have z1 : M1 0 b = upd (μ 0 b) 5 (bitsN (snT T) 6) := by rw [hM1, mr_s]; rfl
  have row1 : ∀ n, n < 6 → AG (M1 3 (6 * b + n)) (rA T n) ∧ M1 3 (6 * b + n) 13 = T (72 + n) + b2i (snT T n) ∧ M1 3 (6 * b + n) 14 = μ 3 (6 * b + n) 14 ∧ M1 3 (6 * b + n) 15 = μ 3 (6 * b + n) 15 := fun n hn => by
    rw [r1 n hn]
    exact FA_row (hN n hn)
  refine w_listen (fun n hn => by rw [(row1 n hn).2.2.2, (row1 n hn).2.2.1]; exact hS n hn) (fun M2 hLN hF2 => ?_)
  have h1m : ∀ a, M1 1 a = μ 1 a := fun a => o1 1 a (by omega) (by omega)
  have h7m : ∀ a, M1 7 a = μ 7 a := fun a => o1 7 a (by omega) (by omega)
  -- node n behind the listening
  have nd2 : ∀ n, n < 6 → AG (M2 3 (6 * b + n)) (rA T n) ∧ M2 3 (6 * b + n) 13 = T (72 + n) + b2i (snT T n) ∧ hx (6 * b + n) (M2 3 (6 * b + n) 14) = hx (6 * b + n) (μ 3 (6 * b + n) 15) ∧ hx (6 * b + n) (M2 3 (6 * b + n) 15) = hx (6 * b + n) (μ 3 (6 * b + n) 14) := fun n hn => by
    obtain ⟨l1, l2, l3, -⟩ := hLN n hn
    obtain ⟨a1, a2, a3, a4⟩ := row1 n hn
    refine ⟨fun f hf => by rw [l1 f (by omega)]; exact a1 f hf, by rw [l1 13 (by omega)]; exact a2, by rw [l2, a4], by rw [l3, a3]⟩
  have hr2 : ∀ n, n < 6 → M2 1 (hx (6 * b + n) (μ 3 (6 * b + n) 15)) 0 = hdT T n ∧ M2 1 (hx (6 * b + n) (μ 3 (6 * b + n) 15)) 1 = stT T n ∧ M2 1 (hx (6 * b + n) (μ 3 (6 * b + n) 15)) 2 = gdT T n ∧ ((gdT T n = -6 ∧ stT T n = 0) ∨ (M2 1 (hx (6 * b + n) (μ 3 (6 * b + n) 15)) 4 = gsT T n ∧ M2 1 (hx (6 * b + n) (μ 3 (6 * b + n) 15)) 5 = gpT T n)) ∧ (∀ o, o < 6 → inb (hdT T n) o = true → M2 7 (hx (6 * b + n) (μ 3 (6 * b + n) 15)) o = svT T n o) := fun n hn => by
    obtain ⟨-, -, -, l4, l5, -, -⟩ := hLN n hn
    rw [(row1 n hn).2.2.2] at l4 l5
    have hp : ∀ o, o < 6 → (awB (M1 3 (6 * b + n) 5) && (decide (¬ o = n) && inb (M1 0 b 5) o)) = heT T n o := fun o ho => by
      rw [(row1 n hn).1 5 (by omega), z1, upd_s, inb_bits _ ho]; rfl
    have hsv : ∀ o, o < 6 → M1 3 (6 * b + o) 11 + M1 3 (6 * b + o) 4 - M1 3 (6 * b + n) 11 = svT T n o := fun o ho => by
      rw [(row1 o ho).1 11 (by omega), (row1 o ho).1 4 (by omega), (row1 n hn).1 11 (by omega), rA_k _ _ (by omega), rA_k _ _ (by omega), rA_k _ _ (by omega), rT_11, rT_4, rT_11]; rfl
    have e4 : M2 1 (hx (6 * b + n) (μ 3 (6 * b + n) 15)) = hrN (heT T n) T (fun o => T (6 + o)) (svT T n) (fun o => T (18 + o) + T (66 + o)) (clr (M1 1 (hx (6 * b + n) (μ 3 (6 * b + n) 15)))) 6 := by
      rw [l4]
      refine hrN_congr 6 (fun o ho => ⟨hp o ho, ?_, ?_, hsv o ho, ?_⟩)
      · rw [(row1 o ho).1 0 (by omega), rA_k _ _ (by omega), rT_0]
      · rw [(row1 o ho).1 1 (by omega), rA_k _ _ (by omega), rT_1]
      · rw [(row1 o ho).1 3 (by omega), (row1 o ho).1 12 (by omega), rA_k _ _ (by omega), rA_k _ _ (by omega), rT_3, rT_12]
    have hi := hrN_is (p := heT T n) (kd := T) (sl := fun o => T (6 + o)) (sv := svT T n) (pc := fun o => T (18 + o) + T (66 + o)) (r0 := clr (M1 1 (hx (6 * b + n) (μ 3 (6 * b + n) 15)))) (by simp [clr, upd]) (by simp [clr, upd]) (by simp [clr, upd]) 6 (Nat.le_refl 6)
    rw [← e4] at hi
    obtain ⟨i0, i1, i2, i3⟩ := hi
    refine ⟨i0, i1, i2, ?_, fun o ho hb => ?_⟩
    · rcases i3 with z | ⟨o, ho, z1, z2, z3, z4⟩
      · exact Or.inl z
      · refine Or.inr ⟨?_, ?_⟩
        · rw [z3]
          unfold gsT gdT
          rw [z1, cl (by omega)]
        · rw [z4]
          unfold gpT gdT
          rw [z1, cl (by omega)]
    · rw [l5, s7N_at]
      unfold hdT at hb
      rw [inb_bits _ ho] at hb
      rw [if_pos ⟨ho, by rw [hp o ho]; exact hb⟩]
      exact hsv o ho
  have ha2 : ∀ n, n < 6 → M2 1 (hx (6 * b + n) (μ 3 (6 * b + n) 14)) = μ 1 (hx (6 * b + n) (μ 3 (6 * b + n) 14)) ∧ M2 7 (hx (6 * b + n) (μ 3 (6 * b + n) 14)) = μ 7 (hx (6 * b + n) (μ 3 (6 * b + n) 14)) := fun n hn => by
    obtain ⟨-, -, -, -, -, l6, l7⟩ := hLN n hn
    rw [(row1 n hn).2.2.1] at l6 l7
    exact ⟨by rw [l6, h1m], by rw [l7, h7m]⟩
  have z2 : M2 0 b = M1 0 b := hF2 0 b (by unfold tch; omega)
  have o2 : ∀ k i, ¬ tch b 6 k i → ¬ (k = 0 ∧ i = b) → M2 k i = μ k i := fun k i h1 h2 => by
    rw [hF2 k i h1, o1 k i (fun z => h1 (Or.inl z)) h2]
  have hL2 : LR b M2 T := LR_keep hL (o2 _ _ (by unfold tch; omega) (by omega)) (o2 _ _ (by unfold tch; omega) (by omega)) (o2 _ _ (by unfold tch; omega) (by omega)) (o2 _ _ (by unfold tch; omega) (by omega))
  refine w_settleB (L0 := T) hL2 (fun n hn => ?_) (fun M3 hE hL3 hF3 => ?_)
  · rw [(nd2 n hn).2.2.1, (hr2 n hn).1]
    unfold hdT
    rw [inb_bits _ hn]
    exact he_self T n
  have z24 : M2 0 b 4 = T 133 := by rw [z2, z1, upd_n _ _ (by decide)]; exact hg4
  have z23 : M2 0 b 3 = T 132 := by rw [z2, z1, upd_n _ _ (by decide)]; exact hg3
  have z25 : M2 0 b 5 = bitsN (snT T) 6 := by rw [z2, z1, upd_s]
  have hod : decide ((M2 0 b 4 &&& 1) = 1) = odT T := by rw [z24]; rfl
  rw [hod] at hE hL3
  have enA : ∀ n, n < 6 → AG (EN b M2 (sgA T) (odT T) n) (endR T n) ∧ EN b M2 (sgA T) (odT T) n 13 = T (72 + n) + b2i (snT T n) ∧ EN b M2 (sgA T) (odT T) n 14 = M2 3 (6 * b + n) 14 ∧ EN b M2 (sgA T) (odT T) n 15 = M2 3 (6 * b + n) 15 := fun n hn => by
    obtain ⟨a1, a2, a3, a4⟩ := nd2 n hn
    obtain ⟨b1, b2, b3, b4, b5⟩ := hr2 n hn
    obtain ⟨c1, c2⟩ := ha2 n hn
    obtain ⟨d1, d2, d3, d4⟩ := hH n hn
    refine ⟨?_, ?_, ?_, ?_⟩
    · have hset : AG (cSet (M2 1 (hx (6 * b + n) (M2 3 (6 * b + n) 14)) 0) (M2 1 (hx (6 * b + n) (M2 3 (6 * b + n) 14)) 1) (M2 1 (hx (6 * b + n) (M2 3 (6 * b + n) 14)) 2) (M2 1 (hx (6 * b + n) (M2 3 (6 * b + n) 14)) 4) (M2 1 (hx (6 * b + n) (M2 3 (6 * b + n) 14)) 5) (M2 1 (hx (6 * b + n) (M2 3 (6 * b + n) 15)) 2) (M2 1 (hx (6 * b + n) (M2 3 (6 * b + n) 15)) 1) (sgA T) (M2 3 (6 * b + n))) (setR T n) := by
        rw [a3, a4, b1, b2, b3, c1, d2, d3]
        unfold setR
        rcases b4 with ⟨e1, e2⟩ | ⟨e1, e2⟩
        · rw [e1, e2]
          intro f hf
          rw [AG_cSet a1 f hf]
          exact congrFun cSet_gs f
        · rw [e1, e2]
          exact AG_cSet a1
      unfold EN endR
      rw [a1 5 (by omega)]
      split
      · have hts : tsF (inb (M2 1 (hx (6 * b + n) (M2 3 (6 * b + n) 14)) 0)) (M2 7 (hx (6 * b + n) (M2 3 (6 * b + n) 14))) = tsT T n := by
          rw [a3, b1]
          exact tsF_congr (fun _ _ => rfl) (fun o ho hb => b5 o ho hb)
        have htm : tsF (inb (M2 1 (hx (6 * b + n) (M2 3 (6 * b + n) 14)) 0 &&& M2 1 (hx (6 * b + n) (M2 3 (6 * b + n) 15)) 0)) (fun o => M2 7 (hx (6 * b + n) (M2 3 (6 * b + n) 14)) o - M2 7 (hx (6 * b + n) (M2 3 (6 * b + n) 15)) o) = tmT T n := by
          rw [a3, a4, b1, c1, c2, d1]
          refine tsF_congr (fun _ _ => rfl) (fun o ho hb => ?_)
          obtain ⟨k1, k2⟩ := inb_and hb
          show M2 7 _ o - μ 7 _ o = _
          rw [b5 o ho k1, d4 o ho k2]
        rw [hts, htm, z23, a3, b1]
        rw [a3, b1] at hset
        exact AG_cCor hset
      · exact hset
    · unfold EN
      split
      · rw [cCor_k (by omega), cSet_k (by omega)]; exact a2
      · rw [cSet_k (by omega)]; exact a2
    · unfold EN
      split
      · rw [cCor_k (by omega), cSet_k (by omega)]
      · rw [cSet_k (by omega)]
    · unfold EN
      split
      · rw [cCor_k (by omega), cSet_k (by omega)]
      · rw [cSet_k (by omega)]
  have hlg : lgN (M2 0 b 4) (fun n => M2 3 (6 * b + n) 6) (fun n => M2 3 (6 * b + n) 5) (fun n => EN b M2 (sgA T) (odT T) n 5) T 6 = lgT T := by
    rw [z24]
    unfold lgT
    refine lgN_congr 6 (fun n hn => ⟨?_, (nd2 n hn).1 5 (by omega), (enA n hn).1 5 (by omega)⟩)
    show M2 3 (6 * b + n) 6 = _
    rw [(nd2 n hn).1 6 (by omega)]
    unfold rA
    cases hf : flT T n
    · simp [rT, b2i]
    · simp [cBec, upd, b2i]
  rw [hlg] at hL3
  refine w_moveClocks b M3 _ ?_
  simp only [forall_eq, ms_mr]
  have hM4 : ∃ M4 : Mem, M4 = nodesUp b 6 (fun _ r => FD r) M3 := ⟨_, rfl⟩
  obtain ⟨M4, hM4⟩ := hM4
  rw [← hM4]
  have r4 : ∀ n, n < 6 → M4 3 (6 * b + n) = FD (EN b M2 (sgA T) (odT T) n) := fun n hn => by
    rw [hM4, nu_at, if_pos hn, hE n hn]
  have o4 : ∀ k i, k ≠ 3 → M4 k i = M3 k i := fun k i hk => by rw [hM4, nu_k _ _ _ _ _ hk]
  have z4 : M4 0 b = M2 0 b := by rw [o4 _ _ (by decide), hF3 _ _ (by unfold tcs; omega)]
  have e14 : ∀ n, n < 6 → hx (6 * b + n) (M4 3 (6 * b + n) 14) = hx (6 * b + n) (μ 3 (6 * b + n) 15) := fun n hn => by
    rw [r4 n hn, FD_k (by decide) (by decide), (enA n hn).2.2.1, (nd2 n hn).2.2.1]
  have e15 : ∀ n, n < 6 → hx (6 * b + n) (M4 3 (6 * b + n) 15) = hx (6 * b + n) (μ 3 (6 * b + n) 14) := fun n hn => by
    rw [r4 n hn, FD_k (by decide) (by decide), (enA n hn).2.2.2, (nd2 n hn).2.2.2]
  refine hq _ (fun k i hk => ?_) (fun n hn => ⟨?_, ?_⟩) (fun T' hC => ?_)
  · unfold own at hk
    rw [mr_n _ _ (by omega), hM4, nu_o _ _ _ _ (by omega), hF3 _ _ (by unfold tcs; omega), o2 _ _ (by unfold tch; omega) (by omega)]
  · rw [mr_k _ _ (by decide), r4 n hn, FD_k (by decide) (by decide), (enA n hn).1 6 (by omega)]
    exact nz_endR T n
  · rw [mr_k _ _ (by decide), e14 n hn, e15 n hn]
    exact Ne.symm (hS n hn)
  · obtain ⟨q1, q2, q3, q4, q5, q6⟩ := hC
    have k3 : ∀ r j, mr M4 0 b r 3 j = M4 3 j := fun r j => mr_k _ _ (by decide)
    have k1 : ∀ r j, mr M4 0 b r 1 j = M2 1 j := fun r j => by rw [mr_k _ _ (by decide), o4 _ _ (by decide), hF3 _ _ (by unfold tcs; omega)]
    have k7 : ∀ r j, mr M4 0 b r 7 j = M2 7 j := fun r j => by rw [mr_k _ _ (by decide), o4 _ _ (by decide), hF3 _ _ (by unfold tcs; omega)]
    refine ⟨fun n hn f hf hf6 => ?_, fun n hn => ?_, fun n hn => ?_, ?_, ?_, ?_, ?_⟩
    · rw [k3, r4 n hn]
      rcases Nat.lt_or_ge f 13 with z | z
      · rw [AG_FD (enA n hn).1 f z, q1 n hn f z hf6]
      · have : f = 13 := by omega
        subst this
        rw [FD_k (by decide) (by decide), (enA n hn).2.1, rT_13, (q2 n hn).1]
    · rw [k3, e14 n hn, e15 n hn]
      exact Ne.symm (hS n hn)
    · rw [k3, e14 n hn, k1, k7]
      obtain ⟨b1, b2, b3, b4, b5⟩ := hr2 n hn
      obtain ⟨g1, g2, g3, g4, g5⟩ := q2 n hn
      refine ⟨by rw [b1, g3], by rw [b2, g4], by rw [b3, g2], fun o ho hb => ?_⟩
      rw [g3] at hb
      rw [b5 o ho hb, g5 o ho hb]
    · rw [mr_s, upd_n _ _ (by decide), z4, z23, q3]
    · rw [mr_s, upd_s, z4, z24, q4]
    · rw [mr_s, upd_n _ _ (by decide), z4, z25, q5]
    · refine LR_congr (T := lgT T) (LR_keep hL3 ?_ ?_ ?_ ?_) q6
      · rw [mr_k _ _ (by decide), o4 _ _ (by decide)]
      · rw [mr_k _ _ (by decide), o4 _ _ (by decide)]
      · rw [mr_k _ _ (by decide), o4 _ _ (by decide)]
      · rw [mr_k _ _ (by decide), o4 _ _ (by decide)]
