/-! the trimmed mean of given numbers -/
def prF (v : Nat → Int32) (r0 : Nat → Int32) : Nat → (Nat → Int32)
  | 0 => r0
  | k + 1 => insF (v k) k (prF v r0 k)
theorem prF_congr (v : Nat → Int32) (r0 r0' : Nat → Int32) : ∀ k, ∀ j, j < k → prF v r0 k j = prF v r0' k j
  | 0, j, hj => absurd hj (Nat.not_lt_zero j)
  | k + 1, j, hj => insF_congr (v k) k _ _ (fun a ha => prF_congr v r0 r0' k a ha) j (by omega)
theorem insF_hi (v : Int32) : ∀ (k : Nat) (r : Nat → Int32) (j : Nat), k < j → insF v k r j = r j
  | 0, r, j, h => by simp [insF, upd, show j ≠ 0 by omega]
  | k + 1, r, j, h => by
    simp only [insF]
    split
    · simp [upd, show j ≠ k + 1 by omega]
    · rw [insF_hi v k _ j (by omega)]
      simp [upd, show j ≠ k + 1 by omega]
theorem insF_all (P : Int32 → Prop) (v : Int32) : ∀ (k : Nat) (r : Nat → Int32), (∀ j, j ≤ k → P (insF v k r j)) ↔ (P v ∧ ∀ j, j < k → P (r j))
  | 0, r => by
    refine ⟨fun h => ⟨?_, fun j hj => absurd hj (Nat.not_lt_zero j)⟩, fun h j hj => ?_⟩
    · have := h 0 (Nat.le_refl 0)
      simpa [insF, upd] using this
    · have : j = 0 := by omega
      subst this
      simpa [insF, upd] using h.1
  | k + 1, r => by
    simp only [insF]
    by_cases c : r k ≤ v
    · simp only [c, if_true]
      refine ⟨fun h => ⟨?_, fun j hj => ?_⟩, fun h j hj => ?_⟩
      · have := h (k + 1) (Nat.le_refl _)
        rwa [upd_s] at this
      · have := h j (by omega)
        rwa [upd_n _ _ (by omega)] at this
      · by_cases e : j = k + 1
        · subst e; rw [upd_s]; exact h.1
        · rw [upd_n _ _ e]; exact h.2 j (by omega)
    · simp only [c, if_false]
      have ih := insF_all P v k (upd r (k + 1) (r k))
      have top : insF v k (upd r (k + 1) (r k)) (k + 1) = r k := by rw [insF_hi v k _ (k + 1) (by omega), upd_s]
      refine ⟨fun h => ?_, fun h j hj => ?_⟩
      · obtain ⟨a1, a2⟩ := ih.mp (fun j hj => h j (by omega))
        refine ⟨a1, fun j hj => ?_⟩
        by_cases e : j = k
        · subst e
          have := h (j + 1) (Nat.le_refl _)
          rwa [top] at this
        · have := a2 j (by omega)
          rwa [upd_n _ _ (by omega)] at this
      · by_cases e : j = k + 1
        · subst e; rw [top]; exact h.2 k (by omega)
        · exact ih.mpr ⟨h.1, fun a ha => by rw [upd_n _ _ (by omega)]; exact h.2 a (by omega)⟩ j (by omega)
theorem prF_all (P : Int32 → Prop) (v r0 : Nat → Int32) : ∀ k, (∀ j, j < k → P (prF v r0 k j)) ↔ (∀ j, j < k → P (v j))
  | 0 => ⟨fun _ j hj => absurd hj (Nat.not_lt_zero j), fun _ j hj => absurd hj (Nat.not_lt_zero j)⟩
  | k + 1 => by
    have i1 := insF_all P (v k) k (prF v r0 k)
    have i2 := prF_all P v r0 k
    refine ⟨fun h j hj => ?_, fun h j hj => ?_⟩
    · obtain ⟨a1, a2⟩ := i1.mp (fun j hj => h j (by omega))
      by_cases e : j = k
      · subst e; exact a1
      · exact i2.mp a2 j (by omega)
    · exact i1.mpr ⟨h k (by omega), i2.mpr (fun a ha => h a (by omega))⟩ j (by omega)
theorem w_areW {j k : Nat} (hk : k ≤ 6) {lo hi : Int32} {μ : Mem} {q : Int32 → Mem → Prop} (hs : μ 4 j 1 = nI k) (h1 : (∀ i, i < k → wth (μ 11 j i) lo hi = true) → q 1 μ) (h0 : (¬ ∀ i, i < k → wth (μ 11 j i) lo hi = true) → q 0 μ) : wp_X4_areWithin j lo hi μ q := by
  have aux : ∀ d m, m + d = k → (∀ i, i < m → wth (μ 11 j i) lo hi = true) → wp_X4_areWithin_l2 j lo hi q (d + 1) (nI m) μ := by
    intro d
    induction d with
    | zero =>
      intro m hm ha
      have : m = k := by omega
      subst this
      unfold wp_X4_areWithin_l2
      simp only [forall_eq, hs]
      exact ⟨fun _ => h1 ha, fun z => absurd (nI_le (Nat.le_refl m) (by omega)) z⟩
    | succ d ih =>
      intro m hm ha
      unfold wp_X4_areWithin_l2
      have v : vp_in (nI m) 6 := vi (by omega) (by omega)
      simp only [forall_eq, hs, v, true_and, cl (show m < 100000 by omega), w_isWithin, b2i_0]
      refine ⟨fun z => absurd z (nI_ge (by omega) (by omega)), fun _ => ⟨fun z => absurd z (nI_ge (by omega) (by omega)), fun _ => ⟨fun c => ?_, fun c => ?_⟩⟩⟩
      · rw [← nI_succ]
        refine ih (m + 1) (by omega) (fun i hi => ?_)
        by_cases e : i = m
        · subst e; simpa using c
        · exact ha i (by omega)
      · exact h0 (fun z => by
          have := z m (by omega)
          rw [this] at c
          exact absurd c (by decide))
  exact ⟨k + 1, aux k 0 (by omega) (fun i hi => absurd hi (Nat.not_lt_zero i))⟩
def PS (v : Nat → Int32) (μ0 : Mem) (c : Nat) (μ : Mem) : Prop := μ 11 4 = prF v (μ0 11 4) c ∧ μ 4 4 1 = nI c ∧ frN 4 μ0 μ
theorem put_s {v : Nat → Int32} {μ0 μ : Mem} {c : Nat} {q : Mem → Prop} (h : PS v μ0 c μ) (hc : c < 6) (hq : ∀ μ', PS v μ0 (c + 1) μ' → q μ') : wp_X4_put 4 (v c) μ q := by
  obtain ⟨h1, h2, h3⟩ := h
  refine w_put hc h2 (hq _ ⟨?_, ?_, frN_put h3 _ _⟩)
  · rw [mr_k _ _ (by decide), mr_s, h1]; rfl
  · rw [mr_s, upd_s]
theorem put_v {v : Nat → Int32} {μ0 μ : Mem} {c : Nat} {x : Int32} {q : Mem → Prop} (hx : v c = x) (h : PS v μ0 c μ) (hc : c < 6) (hq : ∀ μ', PS v μ0 (c + 1) μ' → q μ') : wp_X4_put 4 x μ q := by
  rw [← hx]
  exact put_s h hc hq
def MS6 (v : Nat → Int32) (μ0 : Mem) (c : Nat) (μ : Mem) : Prop := μ 23 0 = prF v (μ0 23 0) c ∧ μ 6 0 4 = nI c ∧ frM μ0 μ
theorem lay_s {v : Nat → Int32} {μ0 μ : Mem} {c : Nat} {q : Mem → Prop} (h : MS6 v μ0 c μ) (hc : c < 8) (hq : ∀ μ', MS6 v μ0 (c + 1) μ' → q μ') : wp_X6_lay (v c) μ q := by
  obtain ⟨h1, h2, h3⟩ := h
  refine w6_lay hc h2 (hq _ ⟨?_, ?_, frM_put h3 _ _⟩)
  · rw [mr_k _ _ (by decide), mr_s, h1]; rfl
  · rw [mr_s, upd_s]
theorem trim5 {v : Nat → Int32} {μ0 μ : Mem} {c : Nat} {a1 a2 a3 a4 a5 : Int32} {q : Int32 → Mem → Prop} (h : PS v μ0 c μ) (h1 : 1 ≤ c) (h4 : c ≤ 4) (hq1 : (∀ j, j < c → wth (v j) (-5000) (nI 5000) = true) → q (trimF (prF v (fun _ => 0) c, c) + 100000) μ) (hq0 : (¬ ∀ j, j < c → wth (v j) (-5000) (nI 5000) = true) → q (-2) μ) : wp_X5_trim_b68 a1 a2 a3 a4 a5 q μ := by
  obtain ⟨p1, p2, p3⟩ := h
  unfold wp_X5_trim_b68
  refine w_areW (k := c) (by omega) p2 (fun ha => ⟨fun _ => w_trimmed h1 (by omega) p2 ?_, fun z => absurd z (by decide)⟩) (fun ha => ⟨fun z => absurd rfl z, fun _ => hq0 (fun hb => ha ?_)⟩)
  · rw [p1] at ha ⊢
    have := hq1 ((prF_all (fun x => wth x (-5000) (nI 5000) = true) v _ c).mp ha)
    rwa [trimF_congr (s := (prF v (μ0 11 4) c, c)) (s' := (prF v (fun _ => 0) c, c)) rfl h1 (fun j hj => prF_congr v _ _ c j hj)]
  · rw [p1]
    exact (prF_all (fun x => wth x (-5000) (nI 5000) = true) v _ c).mpr hb
theorem trim6 {v : Nat → Int32} {μ0 μ : Mem} {c : Nat} {a1 a2 a3 a4 a5 : Int32} {q : Int32 → Mem → Prop} (h : MS6 v μ0 c μ) (h1 : 1 ≤ c) (h4 : c ≤ 4) (hq1 : q (trimF (prF v (fun _ => 0) c, c) + 100000) μ) : wp_X6_trim_b99 a1 a2 a3 a4 a5 q μ := by
  obtain ⟨p1, p2, p3⟩ := h
  unfold wp_X6_trim_b99
  refine w6_trimmed h1 (by omega) p2 ?_
  rw [p1]
  rwa [trimF_congr (s := (prF v (μ0 23 0) c, c)) (s' := (prF v (fun _ => 0) c, c)) rfl h1 (fun j hj => prF_congr v _ _ c j hj)]
theorem Inv_N {N : Nat} {μ μ1 M : Mem} (h : Inv N μ) (f1 : frN 4 μ μ1) (f2 : frM μ1 M) : Inv (N + 50) M := by
  have fo : ∀ k i, own 0 k i → M k i = μ k i := fun k i ho => by rw [f2 k i (by have := own_k ho; omega), f1 k i (by unfold own at ho; omega)]
  have e20 : M 20 0 = μ 20 0 := by rw [f2 _ _ (by omega), f1 _ _ (by omega)]
  exact Inv_mem h (by omega) (fun k i z1 z2 z3 z4 => by rw [f2 k i (by unfold scr at z2; omega), f1 k i (by omega)]) (by rw [e20]; exact RB_frame h.1 fo) (by rw [e20]; exact GI_mono h.2.1 (by omega)) (BG_frame (h.2.2.1 0 (by omega)) fo)
theorem op_trim {N : Nat} {μ : Mem} (h : Inv N μ) (a1 a2 a3 a4 a5 : Int32) : wp_X5_trim a1 a2 a3 a4 a5 μ (fun r μ1 => wp_X6_trim a1 a2 a3 a4 a5 μ1 (fun r' μ2 => r = r' ∧ Inv (N + 50) μ2)) := by
  have fin : Inv (N + 50) μ := Inv_mono h (by omega)
  unfold wp_X5_trim
  rw [w_isWithin]
  refine ⟨fun c => ?_, fun c => ?_⟩
  · have c' : wth a1 1 (nI 4) = true := by simpa [b2i_0] using c
    obtain ⟨m, hm, rfl⟩ := wth1_nat (k := 4) (by omega) c'
    have m1 : 1 ≤ m := by
      rcases Nat.lt_or_ge m 1 with z | z
      · have : m = 0 := by omega
        subst this
        exact absurd c' (by decide)
      · exact z
    generalize hv : (fun j => if j = 0 then a2 else if j = 1 then a3 else if j = 2 then a4 else a5 : Nat → Int32) = v
    have v0 : v 0 = a2 := by rw [← hv]; rfl
    have v1 : v 1 = a3 := by rw [← hv]; rfl
    have v2 : v 2 = a4 := by rw [← hv]; rfl
    have v3 : v 3 = a5 := by rw [← hv]; rfl
    have ref : ∀ μ1, frN 4 μ μ1 → ∀ r, ((∀ j, j < m → wth (v j) (-5000) (nI 5000) = true) → r = trimF (prF v (fun _ => 0) m, m) + 100000) → ((¬ ∀ j, j < m → wth (v j) (-5000) (nI 5000) = true) → r = -2) → wp_X6_trim (nI m) a2 a3 a4 a5 μ1 (fun r' μ2 => r = r' ∧ Inv (N + 50) μ2) := fun μ1 f1 r hr1 hr0 => by
      have fin1 : Inv (N + 50) μ1 := Inv_N h f1 (fun _ _ _ => rfl)
      have bad : (∃ j, j < m ∧ wth (v j) (-5000) (nI 5000) = false) → r = -2 ∧ Inv (N + 50) μ1 := fun ⟨j, j1, j2⟩ => ⟨hr0 (fun z => by rw [z j j1] at j2; exact absurd j2 (by decide)), fin1⟩
      have gd : (∀ j, j < m → wth (v j) (-5000) (nI 5000) = true) → wp_X6_trim_b57 (nI m) a2 a3 a4 a5 (fun r' μ2 => r = r' ∧ Inv (N + 50) μ2) μ1 := fun ha => by
        unfold wp_X6_trim_b57
        rintro M0 rfl
        have s0 : MS6 v μ1 0 (ms μ1 6 0 4 0) := ⟨ms_o _ _ _ (by omega), by rw [ms_s, upd_s]; rfl, fun k i hk => ms_o _ _ _ (by omega)⟩
        have last : ∀ M, MS6 v μ1 m M → wp_X6_trim_b99 (nI m) a2 a3 a4 a5 (fun r' μ2 => r = r' ∧ Inv (N + 50) μ2) M := fun M hM => trim6 hM m1 hm ⟨hr1 ha, Inv_N h f1 hM.2.2⟩
        rw [← v0, ← v1]
        refine lay_s s0 (by omega) (fun M1 s1 => ⟨fun z => ?_, fun z => lay_s s1 (by omega) (fun M2 s2 => ?_)⟩)
        · have e : m = 1 := by
            rcases Nat.lt_or_ge 1 m with y | y
            · exact absurd z (nI_ge y (by omega))
            · omega
          subst e
          unfold wp_X6_trim_b77 wp_X6_trim_b88
          exact ⟨fun _ => ⟨fun _ => v0 ▸ v1 ▸ last M1 s1, fun y => absurd (nI_le (by omega) (by omega)) y⟩, fun y => absurd (nI_le (by omega) (by omega)) y⟩
        · have e : 2 ≤ m := by
            rcases Nat.lt_or_ge m 2 with y | y
            · exact absurd (nI_le (a := m) (b := 1) (by omega) (by omega)) z
            · exact y
          unfold wp_X6_trim_b77 wp_X6_trim_b88
          rw [← v2, ← v3]
          refine ⟨fun z => ?_, fun z => lay_s s2 (by omega) (fun M3 s3 => ⟨fun y => ?_, fun y => lay_s s3 (by omega) (fun M4 s4 => ?_)⟩)⟩
          · have e : m = 2 := by
              rcases Nat.lt_or_ge 2 m with y | y
              · exact absurd z (nI_ge y (by omega))
              · omega
            subst e
            refine ⟨fun _ => ?_, fun y => absurd (nI_le (by omega) (by omega)) y⟩
            have := last M2 s2
            rwa [← v0, ← v1, ← v2, ← v3] at this
          · have e : m = 3 := by
              rcases Nat.lt_or_ge 3 m with x | x
              · exact absurd y (nI_ge x (by omega))
              · rcases Nat.lt_or_ge m 3 with x2 | x2
                · exact absurd (nI_le (a := m) (b := 2) (by omega) (by omega)) z
                · omega
            subst e
            have := last M3 s3
            rwa [← v0, ← v1, ← v2, ← v3] at this
          · have e : m = 4 := by
              rcases Nat.lt_or_ge m 4 with x2 | x2
              · exact absurd (nI_le (a := m) (b := 3) (by omega) (by omega)) y
              · omega
            subst e
            have := last M4 s4
            rwa [← v0, ← v1, ← v2, ← v3] at this
      unfold wp_X6_trim wp_X6_trim_b28 wp_X6_trim_b41
      simp only [w_in, w6_isWithin, b2i_0]
      refine ⟨fun z => absurd z (by rw [c']; decide), fun _ => ⟨fun z => bad ⟨0, by omega, by rw [v0]; exact z⟩, fun w0 => ?_⟩⟩
      have w0' : wth (v 0) (-5000) (nI 5000) = true := by rw [v0]; simpa using w0
      have le : ∀ a, nI m ≤ nI a → a ≤ 4 → m ≤ a := fun a z ha => by
        rcases Nat.lt_or_ge a m with y | y
        · exact absurd z (nI_ge y (by omega))
        · exact y
      have gt : ∀ a, ¬ nI m ≤ nI a → a ≤ 4 → a < m := fun a z ha => by
        rcases Nat.lt_or_ge a m with y | y
        · exact y
        · exact absurd (nI_le y (by omega)) z
      refine ⟨fun z1 => ?_, fun z1 => ?_⟩
      · have e : m = 1 := by have := le 1 z1 (by omega); omega
        subst e
        refine ⟨fun _ => ⟨fun _ => gd (fun j hj => ?_), fun y => absurd (nI_le (by omega) (by omega)) y⟩, fun y => absurd (nI_le (by omega) (by omega)) y⟩
        have : j = 0 := by omega
        subst this; exact w0'
      · have e2 := gt 1 z1 (by omega)
        refine ⟨fun z => bad ⟨1, by omega, by rw [v1]; exact z⟩, fun w1 => ?_⟩
        have w1' : wth (v 1) (-5000) (nI 5000) = true := by rw [v1]; simpa using w1
        refine ⟨fun z2 => ?_, fun z2 => ?_⟩
        · have e : m = 2 := by have := le 2 z2 (by omega); omega
          subst e
          refine ⟨fun _ => gd (fun j hj => ?_), fun y => absurd (nI_le (by omega) (by omega)) y⟩
          rcases (show j = 0 ∨ j = 1 by omega) with rfl | rfl
          · exact w0'
          · exact w1'
        · have e3 := gt 2 z2 (by omega)
          refine ⟨fun z => bad ⟨2, by omega, by rw [v2]; exact z⟩, fun w2 => ?_⟩
          have w2' : wth (v 2) (-5000) (nI 5000) = true := by rw [v2]; simpa using w2
          refine ⟨fun z3 => ?_, fun z3 => ?_⟩
          · have e : m = 3 := by have := le 3 z3 (by omega); omega
            subst e
            refine gd (fun j hj => ?_)
            rcases (show j = 0 ∨ j = 1 ∨ j = 2 by omega) with rfl | rfl | rfl
            · exact w0'
            · exact w1'
            · exact w2'
          · have e4 := gt 3 z3 (by omega)
            refine ⟨fun w3 => gd (fun j hj => ?_), fun z => bad ⟨3, by omega, by rw [v3]; exact z⟩⟩
            have w3' : wth (v 3) (-5000) (nI 5000) = true := by rw [v3]; simpa using w3
            rcases (show j = 0 ∨ j = 1 ∨ j = 2 ∨ j = 3 by omega) with rfl | rfl | rfl | rfl
            · exact w0'
            · exact w1'
            · exact w2'
            · exact w3'
    rw [w_clear4]
    have s0 : PS v μ 0 (mr μ 4 4 (upd (μ 4 4) 1 0)) := ⟨mr_k _ _ (by decide), by rw [mr_s, upd_s]; rfl, fun k i hk => mr_n _ _ (by omega)⟩
    have last : ∀ M, PS v μ m M → wp_X5_trim_b68 (nI m) a2 a3 a4 a5 (fun r μ1 => wp_X6_trim (nI m) a2 a3 a4 a5 μ1 (fun r' μ2 => r = r' ∧ Inv (N + 50) μ2)) M := fun M hM => trim5 hM m1 hm (fun ha => ref M hM.2.2 _ (fun _ => rfl) (fun z => absurd ha z)) (fun ha => ref M hM.2.2 _ (fun z => absurd z ha) (fun _ => rfl))
    have lt : ∀ a, ¬ nI m < nI a → a ≤ 4 → a ≤ m := fun a z ha => by
      rcases Nat.lt_or_ge m a with y | y
      · exact absurd (nI_lt y (by omega)) z
      · exact y
    have ge : ∀ a, nI m < nI a → a ≤ 4 → m < a := fun a z ha => by
      rcases Nat.lt_or_ge m a with y | y
      · exact y
      · exact absurd z (nI_nlt y (by omega))
    unfold wp_X5_trim_b40 wp_X5_trim_b54
    refine put_v v0 s0 (by omega) (fun M1 s1 => ⟨fun z => ?_, fun z => put_v v1 s1 (by omega) (fun M2 s2 => ?_)⟩)
    · have e : m = 1 := by have := ge 2 z (by omega); omega
      subst e
      exact ⟨fun _ => ⟨fun _ => last M1 s1, fun y => absurd (nI_lt (by omega) (by omega)) y⟩, fun y => absurd (nI_lt (by omega) (by omega)) y⟩
    · have e2 := lt 2 z (by omega)
      refine ⟨fun z2 => ?_, fun z2 => put_v v2 s2 (by omega) (fun M3 s3 => ⟨fun z3 => ?_, fun z3 => put_v v3 s3 (by omega) (fun M4 s4 => ?_)⟩)⟩
      · have e : m = 2 := by have := ge 3 z2 (by omega); omega
        subst e
        exact ⟨fun _ => last M2 s2, fun y => absurd (nI_lt (by omega) (by omega)) y⟩
      · have e : m = 3 := by have := ge 4 z3 (by omega); have := lt 3 z2 (by omega); omega
        subst e
        exact last M3 s3
      · have e : m = 4 := by have := lt 4 z3 (by omega); omega
        subst e
        exact last M4 s4
  · have c' : wth a1 1 (nI 4) = false := by simpa [b2i_0] using c
    show wp_X6_trim a1 a2 a3 a4 a5 μ (fun r' μ2 => -2 = r' ∧ Inv (N + 50) μ2)
    unfold wp_X6_trim
    rw [w_in, c']
    exact ⟨fun _ => ⟨rfl, fin⟩, fun z => absurd rfl z⟩
