def hrN (p : Nat → Bool) (kd sl sv pc : Nat → Int32) (r0 : Nat → Int32) : Nat → (Nat → Int32)
  | 0 => r0
  | m + 1 => if p m then cNote m (sv m) (kd m) (sl m) (pc m) (hrN p kd sl sv pc r0 m) else hrN p kd sl sv pc r0 m
def s7N (p : Nat → Bool) (sv : Nat → Int32) (r7 : Nat → Int32) : Nat → (Nat → Int32)
  | 0 => r7
  | m + 1 => if p m then upd (s7N p sv r7 m) m (sv m) else s7N p sv r7 m
theorem hrN_congr {p p' : Nat → Bool} {kd sl sv pc kd' sl' sv' pc' r0 : Nat → Int32} : ∀ m, (∀ o, o < m → p o = p' o ∧ kd o = kd' o ∧ sl o = sl' o ∧ sv o = sv' o ∧ pc o = pc' o) → hrN p kd sl sv pc r0 m = hrN p' kd' sl' sv' pc' r0 m
  | 0, _ => rfl
  | m + 1, h => by
    have ih := hrN_congr (r0 := r0) m (fun o ho => h o (by omega))
    obtain ⟨h1, h2, h3, h4, h5⟩ := h m (by omega)
    simp only [hrN, ih, h1, h2, h3, h4, h5]
theorem s7N_at {p : Nat → Bool} {sv r7 : Nat → Int32} : ∀ m o, s7N p sv r7 m o = if o < m ∧ p o = true then sv o else r7 o
  | 0, o => by simp [s7N]
  | m + 1, o => by
    have ih := s7N_at (p := p) (sv := sv) (r7 := r7) m o
    simp only [s7N]
    by_cases hp : p m = true
    · simp only [hp, if_true, upd]
      by_cases ho : o = m
      · subst ho; simp [hp]
      · rw [if_neg ho, ih]
        by_cases c : o < m ∧ p o = true
        · rw [if_pos c, if_pos ⟨by omega, c.2⟩]
        · rw [if_neg c, if_neg (fun z => c ⟨by omega, z.2⟩)]
    · rw [if_neg hp, ih]
      by_cases c : o < m ∧ p o = true
      · rw [if_pos c, if_pos ⟨by omega, c.2⟩]
      · rw [if_neg c, if_neg (fun z => c ⟨by
          have : o ≠ m := fun e => hp (by rw [← e]; exact z.2)
          omega, z.2⟩)]
def stN (p : Nat → Bool) (kd : Nat → Int32) : Nat → Int32
  | 0 => 0
  | m + 1 => if (p m && decide (kd m = 1)) then stN p kd m + 1 else stN p kd m
def gN (p : Nat → Bool) (kd sl : Nat → Int32) : Nat → Int32
  | 0 => -6
  | m + 1 => if (p m && (decide (kd m = 1) && (decide (gN p kd sl m < 0) || decide (sl m < sl (gN p kd sl m).toNatClampNeg)))) then nI m else gN p kd sl m
/-- what the fold of HEARD holds -/
theorem hrN_is {p : Nat → Bool} {kd sl sv pc r0 : Nat → Int32} (h0 : r0 0 = 0) (h1 : r0 1 = 0) (h2 : r0 2 = -6) : ∀ m, m ≤ 6 → hrN p kd sl sv pc r0 m 0 = bitsN p m ∧ hrN p kd sl sv pc r0 m 1 = stN p kd m ∧ hrN p kd sl sv pc r0 m 2 = gN p kd sl m ∧ ((gN p kd sl m = -6 ∧ stN p kd m = 0) ∨ ∃ o, o < m ∧ gN p kd sl m = nI o ∧ hrN p kd sl sv pc r0 m 3 = sl o ∧ hrN p kd sl sv pc r0 m 4 = sv o ∧ hrN p kd sl sv pc r0 m 5 = pc o)
  | 0, _ => ⟨h0, h1, h2, Or.inl ⟨rfl, rfl⟩⟩
  | m + 1, hm => by
    obtain ⟨i0, i1, i2, i3⟩ := hrN_is (p := p) (kd := kd) (sl := sl) (sv := sv) (pc := pc) h0 h1 h2 m (by omega)
    simp only [hrN, bitsN, stN, gN]
    by_cases hp : p m = true
    · simp only [hp, if_true, Bool.true_and]
      by_cases hk : kd m = 1
      · simp only [cNote, hk, if_true, decide_true, Bool.true_and]
        rcases i3 with ⟨e, e2⟩ | ⟨o, ho, e, e3, e4, e5⟩
        · rw [i2, e, if_pos (Or.inl rfl)]
          have hc : (decide ((-6 : Int32) < 0) || decide (sl m < sl ((-6 : Int32).toNatClampNeg))) = true := by simp
          rw [hc]
          simp only [if_true]
          refine ⟨by simp [upd, i0], by simp [upd, i1], by simp [upd], Or.inr ⟨m, by omega, rfl, by simp [upd], by simp [upd], by simp [upd]⟩⟩
        · rw [i2, e, e3]
          have hn6 : ¬ nI o = -6 := by
            intro z
            have := nI_pos (n := o) (by omega)
            rw [z] at this
            exact this (by decide)
          have hlt : decide (nI o < 0) = false := decide_eq_false (nI_pos (by omega))
          rw [hlt, cl (show o < 100000 by omega), Bool.false_or]
          by_cases hs : sl o ≤ sl m
          · rw [if_neg (fun z => z.elim hn6 (fun z => z hs)), show decide (sl m < sl o) = false from decide_eq_false (Int32.not_lt.mpr hs)]
            simp only [Bool.false_eq_true, if_false]
            refine ⟨by simp [upd, i0], by simp [upd, i1], by simp [upd, i2, e], Or.inr ⟨o, by omega, rfl, by simp [upd, e3], by simp [upd, e4], by simp [upd, e5]⟩⟩
          · rw [if_pos (Or.inr hs), show decide (sl m < sl o) = true from decide_eq_true (Int32.not_le.mp hs)]
            simp only [if_true]
            refine ⟨by simp [upd, i0], by simp [upd, i1], by simp [upd], Or.inr ⟨m, by omega, rfl, by simp [upd], by simp [upd], by simp [upd]⟩⟩
      · simp only [cNote, hk, if_false, decide_false, Bool.false_and, Bool.false_eq_true]
        refine ⟨by simp [upd, i0], by simp [upd, i1], by simp [upd, i2], ?_⟩
        rcases i3 with z | ⟨o, ho, e, e3, e4, e5⟩
        · exact Or.inl z
        · exact Or.inr ⟨o, by omega, e, by simp [upd, e3], by simp [upd, e4], by simp [upd, e5]⟩
    · have hp' : p m = false := by simpa using hp
      simp only [hp', Bool.false_and, Bool.false_eq_true, if_false]
      refine ⟨i0, i1, i2, ?_⟩
      rcases i3 with z | ⟨o, ho, z⟩
      · exact Or.inl z
      · exact Or.inr ⟨o, by omega, z⟩
theorem hrN_f {kd sl sv pc r0 : Nat → Int32} : ∀ m, hrN (fun _ => false) kd sl sv pc r0 m = r0
  | 0 => rfl
  | m + 1 => by simp [hrN, hrN_f m]
theorem s7N_f {sv r0 : Nat → Int32} : ∀ m, s7N (fun _ => false) sv r0 m = r0
  | 0 => rfl
  | m + 1 => by simp [s7N, s7N_f m]
theorem hx_ge (i : Nat) (x : Int32) : 2 * i ≤ hx i x := by rcases hx_or i x with h | h <;> omega
theorem hx_le (i : Nat) (x : Int32) : hx i x ≤ 2 * i + 1 := by rcases hx_or i x with h | h <;> omega
theorem w_hearOthers {b n : Nat} (hn : n < 6) (μ : Mem) (q : Mem → Prop)
    (hq : q (mr (mr μ 1 (hx (6 * b + n) (μ 3 (6 * b + n) 14)) (hrN (fun o => decide (¬ o = n) && inb (μ 0 b 5) o) (fun o => μ 3 (6 * b + o) 0) (fun o => μ 3 (6 * b + o) 1) (fun o => μ 3 (6 * b + o) 11 + μ 3 (6 * b + o) 4 - μ 3 (6 * b + n) 11) (fun o => μ 3 (6 * b + o) 3 + μ 3 (6 * b + o) 12) (μ 1 (hx (6 * b + n) (μ 3 (6 * b + n) 14))) 6)) 7 (hx (6 * b + n) (μ 3 (6 * b + n) 14)) (s7N (fun o => decide (¬ o = n) && inb (μ 0 b 5) o) (fun o => μ 3 (6 * b + o) 11 + μ 3 (6 * b + o) 4 - μ 3 (6 * b + n) 11) (μ 7 (hx (6 * b + n) (μ 3 (6 * b + n) 14))) 6))) : wp_X0_hearOthers b (6 * b + n) (nI n) μ q := by
  generalize hh : hx (6 * b + n) (μ 3 (6 * b + n) 14) = h at hq
  generalize hp : (fun o => decide (¬ o = n) && inb (μ 0 b 5) o) = p at hq
  have hp' : ∀ o, p o = (decide (¬ o = n) && inb (μ 0 b 5) o) := fun o => (congrFun hp o).symm
  generalize hr : hrN p (fun o => μ 3 (6 * b + o) 0) (fun o => μ 3 (6 * b + o) 1) (fun o => μ 3 (6 * b + o) 11 + μ 3 (6 * b + o) 4 - μ 3 (6 * b + n) 11) (fun o => μ 3 (6 * b + o) 3 + μ 3 (6 * b + o) 12) (μ 1 h) = R at hq
  generalize hs : s7N p (fun o => μ 3 (6 * b + o) 11 + μ 3 (6 * b + o) 4 - μ 3 (6 * b + n) 11) (μ 7 h) = S at hq
  refine ⟨7, loop6 (fun f m μ' => wp_X0_hearOthers_l2 b (6 * b + n) (nI n) q f (nI m) μ') (fun m μ' => μ' = mr (mr μ 1 h (R m)) 7 h (S m)) ?_ ?_ _ ?_⟩
  · intro μ1 h1
    unfold wp_X0_hearOthers_l2
    refine ⟨fun _ => ?_, fun c => absurd le66 c⟩
    rw [h1]; exact hq
  · intro k m μ1 hm h1 ih
    unfold wp_X0_hearOthers_l2 wp_X0_hearOthers_b45
    refine ⟨fun c => absurd c (nI_ge hm (by omega)), fun _ => ?_⟩
    have e0 : ∀ j, μ1 0 j = μ 0 j := fun j => by rw [h1, mr_k _ _ (by decide), mr_k _ _ (by decide)]
    have e3 : ∀ j, μ1 3 j = μ 3 j := fun j => by rw [h1, mr_k _ _ (by decide), mr_k _ _ (by decide)]
    have e1 : μ1 1 h = R m := by rw [h1, mr_k _ _ (by decide), mr_s]
    have e7 : μ1 7 h = S m := by rw [h1, mr_s]
    simp only [forall_eq, cl (show m < 100000 by omega), nI_1, vi hm (show 6 < 100000 by omega), true_and, nI_ne (show m < 100000 by omega) (show n < 100000 by omega), w_isIn, b2i_0, e0, e3, hh, w_note _ _ _ hm, e1, e7]
    have pm := hp' m
    have RS : ∀ (hc : p m = false), R (m + 1) = R m ∧ S (m + 1) = S m := fun hc => by
      rw [← hr, ← hs]
      simp [hrN, s7N, hc]
    have RT : ∀ (hc : p m = true), R (m + 1) = cNote m (μ 3 (6 * b + m) 11 + μ 3 (6 * b + m) 4 - μ 3 (6 * b + n) 11) (μ 3 (6 * b + m) 0) (μ 3 (6 * b + m) 1) (μ 3 (6 * b + m) 3 + μ 3 (6 * b + m) 12) (R m) ∧ S (m + 1) = upd (S m) m (μ 3 (6 * b + m) 11 + μ 3 (6 * b + m) 4 - μ 3 (6 * b + n) 11) := fun hc => by
      rw [← hr, ← hs]
      simp [hrN, s7N, hc]
    refine ⟨fun c => ih _ ?_, fun c => ⟨fun c2 => ih _ ?_, fun c2 => ih _ ?_⟩⟩
    · obtain ⟨a1, a2⟩ := RS (by rw [pm]; simp [c])
      rw [a1, a2]; exact h1
    · obtain ⟨a1, a2⟩ := RS (by rw [pm, c2]; simp)
      rw [a1, a2]; exact h1
    · obtain ⟨a1, a2⟩ := RT (by rw [pm, eq_true_of_ne_false c2]; simp [c])
      rw [a1, a2, h1, mr_sw17, mr_mr, mr_mr]
  · have a1 : R 0 = μ 1 h := by rw [← hr]; rfl
    have a2 : S 0 = μ 7 h := by rw [← hs]; rfl
    rw [a1, a2, mr_same, mr_same]
def clr (r : Nat → Int32) : Nat → Int32 := upd (upd (upd r 0 0) 1 0) 2 (-6)
/-- node n of bus b behind the listening, μ0 the memory ahead of it -/
def LN (b : Nat) (μ0 : Mem) (n : Nat) (μ : Mem) : Prop :=
  (∀ f, f < 14 → μ 3 (6 * b + n) f = μ0 3 (6 * b + n) f) ∧ hx (6 * b + n) (μ 3 (6 * b + n) 14) = hx (6 * b + n) (μ0 3 (6 * b + n) 15) ∧ hx (6 * b + n) (μ 3 (6 * b + n) 15) = hx (6 * b + n) (μ0 3 (6 * b + n) 14) ∧
  μ 1 (hx (6 * b + n) (μ0 3 (6 * b + n) 15)) = hrN (fun o => awB (μ0 3 (6 * b + n) 5) && (decide (¬ o = n) && inb (μ0 0 b 5) o)) (fun o => μ0 3 (6 * b + o) 0) (fun o => μ0 3 (6 * b + o) 1) (fun o => μ0 3 (6 * b + o) 11 + μ0 3 (6 * b + o) 4 - μ0 3 (6 * b + n) 11) (fun o => μ0 3 (6 * b + o) 3 + μ0 3 (6 * b + o) 12) (clr (μ0 1 (hx (6 * b + n) (μ0 3 (6 * b + n) 15)))) 6 ∧
  μ 7 (hx (6 * b + n) (μ0 3 (6 * b + n) 15)) = s7N (fun o => awB (μ0 3 (6 * b + n) 5) && (decide (¬ o = n) && inb (μ0 0 b 5) o)) (fun o => μ0 3 (6 * b + o) 11 + μ0 3 (6 * b + o) 4 - μ0 3 (6 * b + n) 11) (μ0 7 (hx (6 * b + n) (μ0 3 (6 * b + n) 15))) 6 ∧
  μ 1 (hx (6 * b + n) (μ0 3 (6 * b + n) 14)) = μ0 1 (hx (6 * b + n) (μ0 3 (6 * b + n) 14)) ∧ μ 7 (hx (6 * b + n) (μ0 3 (6 * b + n) 14)) = μ0 7 (hx (6 * b + n) (μ0 3 (6 * b + n) 14))
def tch (b m k i : Nat) : Prop := (k = 3 ∧ 6 * b ≤ i ∧ i < 6 * b + m) ∨ ((k = 1 ∨ k = 7) ∧ 12 * b ≤ i ∧ i < 12 * b + 2 * m)
theorem LN_keep {b n m : Nat} {μ0 μ : Mem} (hnm : n < m) (h : LN b μ0 n μ) {r3 r1 r7 : Nat → Int32} {x : Int32} : LN b μ0 n (mr (mr (mr μ 3 (6 * b + m) r3) 1 (hx (6 * b + m) x) r1) 7 (hx (6 * b + m) x) r7) := by
  have g1 := hx_ge (6 * b + m) x
  have e3 : (mr (mr (mr μ 3 (6 * b + m) r3) 1 (hx (6 * b + m) x) r1) 7 (hx (6 * b + m) x) r7) 3 (6 * b + n) = μ 3 (6 * b + n) := by
    rw [mr_k _ _ (by decide), mr_k _ _ (by decide), mr_i _ _ (by omega)]
  have e17 : ∀ y, (mr (mr (mr μ 3 (6 * b + m) r3) 1 (hx (6 * b + m) x) r1) 7 (hx (6 * b + m) x) r7) 1 (hx (6 * b + n) y) = μ 1 (hx (6 * b + n) y) := fun y => by
    have g2 := hx_le (6 * b + n) y
    rw [mr_k _ _ (by decide), mr_i _ _ (by omega), mr_k _ _ (by decide)]
  have e77 : ∀ y, (mr (mr (mr μ 3 (6 * b + m) r3) 1 (hx (6 * b + m) x) r1) 7 (hx (6 * b + m) x) r7) 7 (hx (6 * b + n) y) = μ 7 (hx (6 * b + n) y) := fun y => by
    have g2 := hx_le (6 * b + n) y
    rw [mr_i _ _ (by omega), mr_k _ _ (by decide), mr_k _ _ (by decide)]
  unfold LN
  rw [e3, e17, e77, e17, e77]
  exact h
theorem w_listen {b : Nat} {μ : Mem} {q : Mem → Prop} (hS : ∀ n, n < 6 → hx (6 * b + n) (μ 3 (6 * b + n) 15) ≠ hx (6 * b + n) (μ 3 (6 * b + n) 14))
    (hq : ∀ μ', (∀ n, n < 6 → LN b μ n μ') → (∀ k i, ¬ tch b 6 k i → μ' k i = μ k i) → q μ') : wp_X0_listen b μ q := by
  refine ⟨7, loop6 (fun f m μ' => wp_X0_listen_l2 b q f (nI m) μ') (fun m μ' => (∀ n, n < m → LN b μ n μ') ∧ ∀ k i, ¬ tch b m k i → μ' k i = μ k i) ?_ ?_ _ ⟨fun n hn => absurd hn (Nat.not_lt_zero n), fun _ _ _ => rfl⟩⟩
  · intro μ1 h1
    unfold wp_X0_listen_l2
    refine ⟨fun _ => ?_, fun c => absurd le66 c⟩
    exact hq μ1 h1.1 h1.2
  · intro k m μ1 hm h1 ih
    obtain ⟨hL, hF⟩ := h1
    unfold wp_X0_listen_l2 wp_X0_listen_b43
    refine ⟨fun c => absurd c (nI_ge hm (by omega)), fun _ => ⟨vi hm (by omega), ?_⟩⟩
    have c3 : μ1 3 (6 * b + m) = μ 3 (6 * b + m) := hF _ _ (by unfold tch; omega)
    have c1 : ∀ x, μ1 1 (hx (6 * b + m) x) = μ 1 (hx (6 * b + m) x) := fun x => hF _ _ (by have := hx_ge (6 * b + m) x; unfold tch; omega)
    have c7 : ∀ x, μ1 7 (hx (6 * b + m) x) = μ 7 (hx (6 * b + m) x) := fun x => hF _ _ (by have := hx_ge (6 * b + m) x; unfold tch; omega)
    have c0 : μ1 0 b = μ 0 b := hF _ _ (by unfold tch; omega)
    have cf : ∀ o f, o < 6 → f < 14 → μ1 3 (6 * b + o) f = μ 3 (6 * b + o) f := fun o f ho hf => by
      rcases Nat.lt_or_ge o m with z | z
      · exact (hL o z).1 f hf
      · rw [hF 3 (6 * b + o) (by unfold tch; omega)]
    simp only [forall_eq, cl (show m < 100000 by omega), nI_1, vi hm (show 6 < 100000 by omega), true_and, w_turnHearing, w_isAwake, b2i_0]
    rw [c3, c1]
    generalize hr3 : upd (upd (μ 3 (6 * b + m)) 15 (if μ 3 (6 * b + m) 14 = 0 then 0 else 1)) 14 (if μ 3 (6 * b + m) 15 = 0 then 0 else 1) = r3
    have r3f : ∀ f, f < 14 → r3 f = μ 3 (6 * b + m) f := fun f hf => by
      rw [← hr3, upd_n _ _ (by omega), upd_n _ _ (by omega)]
    have r14 : hx (6 * b + m) (r3 14) = hx (6 * b + m) (μ 3 (6 * b + m) 15) := by rw [← hr3, upd_s, hx_nrm]
    have r15 : hx (6 * b + m) (r3 15) = hx (6 * b + m) (μ 3 (6 * b + m) 14) := by rw [← hr3, upd_n _ _ (by decide), upd_s, hx_nrm]
    generalize hh : hx (6 * b + m) (μ 3 (6 * b + m) 15) = h at r14
    have hg : 12 * b + 2 * m ≤ h ∧ h ≤ 12 * b + 2 * m + 1 := by
      have g1 := hx_ge (6 * b + m) (μ 3 (6 * b + m) 15)
      have g2 := hx_le (6 * b + m) (μ 3 (6 * b + m) 15)
      omega
    have hne := hS m hm
    rw [hh] at hne
    have done : ∀ (R1 R7 : Nat → Int32), R1 = hrN (fun o => awB (μ 3 (6 * b + m) 5) && (decide (¬ o = m) && inb (μ 0 b 5) o)) (fun o => μ 3 (6 * b + o) 0) (fun o => μ 3 (6 * b + o) 1) (fun o => μ 3 (6 * b + o) 11 + μ 3 (6 * b + o) 4 - μ 3 (6 * b + m) 11) (fun o => μ 3 (6 * b + o) 3 + μ 3 (6 * b + o) 12) (clr (μ 1 h)) 6 → R7 = s7N (fun o => awB (μ 3 (6 * b + m) 5) && (decide (¬ o = m) && inb (μ 0 b 5) o)) (fun o => μ 3 (6 * b + o) 11 + μ 3 (6 * b + o) 4 - μ 3 (6 * b + m) 11) (μ 7 h) 6 → wp_X0_listen_l2 b q k (nI (m + 1)) (mr (mr (mr μ1 3 (6 * b + m) r3) 1 h R1) 7 h R7) := by
      intro R1 R7 hR1 hR7
      refine ih _ ⟨fun n hn => ?_, fun k' i' hk => ?_⟩
      · rcases Nat.lt_or_ge n m with z | z
        · rw [← hh]
          exact LN_keep z (hL n z)
        · have : n = m := by omega
          subst this
          unfold LN
          rw [mr_k _ _ (show 3 ≠ 7 by decide), mr_k _ _ (show 3 ≠ 1 by decide), mr_s, hh, mr_k _ _ (show 1 ≠ 7 by decide), mr_s, mr_s, mr_k _ _ (show 1 ≠ 7 by decide), mr_i _ _ (Ne.symm hne), mr_k _ _ (show 1 ≠ 3 by decide), c1, mr_i _ _ (Ne.symm hne), mr_k _ _ (show 7 ≠ 1 by decide), mr_k _ _ (show 7 ≠ 3 by decide), c7]
          exact ⟨r3f, r14, r15, hR1, hR7, rfl, rfl⟩
      · unfold tch at hk
        rw [mr_n _ _ (by omega), mr_n _ _ (by omega), mr_n _ _ (by omega)]
        exact hF _ _ (by unfold tch; omega)
    have ea : awB (mr (mr μ1 3 (6 * b + m) r3) 1 h (clr (μ 1 h)) 3 (6 * b + m) 5) = awB (μ 3 (6 * b + m) 5) := by
      rw [mr_k _ _ (show 3 ≠ 1 by decide), mr_s, r3f 5 (by omega)]
    have hM : mr (mr μ1 3 (6 * b + m) r3) 1 h (upd (upd (upd (μ 1 h) 0 0) 1 0) 2 (-6)) = mr (mr μ1 3 (6 * b + m) r3) 1 h (clr (μ 1 h)) := rfl
    rw [hM, ea]
    refine ⟨fun c => ?_, fun c => ?_⟩
    · have := done (clr (μ 1 h)) (μ 7 h) (by rw [c]; simp only [Bool.false_and]; exact (hrN_f 6).symm) (by rw [c]; simp only [Bool.false_and]; exact (s7N_f 6).symm)
      have e : mr (mr (mr μ1 3 (6 * b + m) r3) 1 h (clr (μ 1 h))) 7 h (μ 7 h) = mr (mr μ1 3 (6 * b + m) r3) 1 h (clr (μ 1 h)) := by
        have : μ 7 h = (mr (mr μ1 3 (6 * b + m) r3) 1 h (clr (μ 1 h))) 7 h := by
          rw [mr_k _ _ (show 7 ≠ 1 by decide), mr_k _ _ (show 7 ≠ 3 by decide), ← hh, c7]
        rw [this]
        exact mr_same _ _ _
      rw [e] at this
      exact this
    · have c' := eq_true_of_ne_false c
      refine w_hearOthers hm _ _ ?_
      have f3 : ∀ o f, o < 6 → f < 14 → mr (mr μ1 3 (6 * b + m) r3) 1 h (clr (μ 1 h)) 3 (6 * b + o) f = μ 3 (6 * b + o) f := fun o f ho hf => by
        rw [mr_k _ _ (show 3 ≠ 1 by decide)]
        by_cases hom : o = m
        · subst hom
          rw [mr_s]; exact r3f f hf
        · rw [mr_i _ _ (by omega)]; exact cf o f ho hf
      have f0 : mr (mr μ1 3 (6 * b + m) r3) 1 h (clr (μ 1 h)) 0 b = μ 0 b := by
        rw [mr_k _ _ (show 0 ≠ 1 by decide), mr_k _ _ (show 0 ≠ 3 by decide), c0]
      have f14 : hx (6 * b + m) (mr (mr μ1 3 (6 * b + m) r3) 1 h (clr (μ 1 h)) 3 (6 * b + m) 14) = h := by
        rw [mr_k _ _ (show 3 ≠ 1 by decide), mr_s, r14]
      rw [f14, f0, mr_s, mr_mr]
      have f7 : mr (mr μ1 3 (6 * b + m) r3) 1 h (clr (μ 1 h)) 7 h = μ 7 h := by
        rw [mr_k _ _ (show 7 ≠ 1 by decide), mr_k _ _ (show 7 ≠ 3 by decide), ← hh, c7]
      rw [f7]
      refine done _ _ ?_ ?_
      · rw [c']
        refine hrN_congr 6 (fun o ho => ⟨by simp, f3 o 0 ho (by omega), f3 o 1 ho (by omega), ?_, ?_⟩)
        · rw [f3 o 11 ho (by omega), f3 o 4 ho (by omega), f3 m 11 hm (by omega)]
        · rw [f3 o 3 ho (by omega), f3 o 12 ho (by omega)]
      · rw [c']
        funext o
        rw [s7N_at, s7N_at]
        simp only [Bool.true_and]
        by_cases ho : o < 6
        · rw [f3 o 11 ho (by omega), f3 o 4 ho (by omega), f3 m 11 hm (by omega)]
        · rw [if_neg (fun z => ho z.1), if_neg (fun z => ho z.1)]
