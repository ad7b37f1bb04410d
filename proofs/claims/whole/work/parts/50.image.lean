theorem kept_or {N : Nat} {μ : Mem} (h : Inv N μ) (k : Nat) (hk : k < 2) : μ 22 0 k = 0 ∨ μ 22 0 k = 1 := by
  rcases h.2.2.2.1 k hk with z | z
  · exact Or.inl z
  · exact Or.inr z.1
theorem op_image {N : Nat} {μ : Mem} (h : Inv N μ) (a1 : Int32) : wp_X5_image a1 μ (fun r μ1 => wp_X6_image a1 μ1 (fun r' μ2 => r = r' ∧ Inv (N + 50) μ2)) := by
  have fin : Inv (N + 50) μ := Inv_mono h (by omega)
  unfold wp_X5_image wp_X6_image
  rw [w_isWithin]
  simp only [w_in, b2i_0]
  refine ⟨fun c => ?_, fun c => ⟨fun c2 => absurd c c2, fun _ => (by first | exact fin | exact ⟨rfl, fin⟩ | exact ⟨trivial, fin⟩)⟩⟩
  obtain ⟨m, hm, rfl⟩ := wth_nat (k := 1) (by omega) (show wth a1 0 1 = true by simpa using c)
  refine ⟨vi (by omega) (by omega), ?_⟩
  rw [cl (show m < 100000 by omega)]
  rintro j rfl
  refine w_copyB (by omega) _ _ (fun n hn => (h.2.2.1 0 (by omega) n hn).1) (fun n hn => (h.2.2.1 (2 + m) (by omega) n hn).2) (fun M1 f1 g1 r1 => ?_)
  rintro x rfl
  rw [w_bitOf]
  rintro M2 rfl
  refine ⟨fun _ => w6_save (k := m) (by omega) _ _ ⟨Or.inr rfl, vi (by omega) (by omega), ?_⟩, fun z => absurd z c⟩
  rintro M3 rfl
  refine ⟨by first | rfl | trivial, ?_⟩
  have o5 : M1 5 0 = μ 5 0 := f1 5 0 (by unfold own; omega)
  have o20 : M1 20 0 = μ 20 0 := f1 20 0 (by unfold own; omega)
  have o21 : M1 21 0 = μ 21 0 := f1 21 0 (by unfold own; omega)
  have o22 : M1 22 0 = μ 22 0 := f1 22 0 (by unfold own; omega)
  generalize hM : ms (mr (ms M1 5 0 3 (M1 5 0 3 ||| bit m)) 21 0 (svR m 256 (ms M1 5 0 3 (M1 5 0 3 ||| bit m) 21 0) (ms M1 5 0 3 (M1 5 0 3 ||| bit m) 20 0))) 22 0 m 1 = M
  have h5 : M 5 0 3 = (μ 5 0 3 ||| bit m) := by rw [← hM, ms_o _ _ _ (by omega), mr_n _ _ (by omega), ms_s, upd_s, o5]
  have h20 : M 20 0 = μ 20 0 := by rw [← hM, ms_o _ _ _ (by omega), mr_n _ _ (by omega), ms_o _ _ _ (by omega), o20]
  have h21 : M 21 0 = svR m 256 (μ 21 0) (μ 20 0) := by rw [← hM, ms_o _ _ _ (by omega), mr_s, ms_o _ _ _ (by omega), ms_o _ _ _ (by omega), o20, o21]
  have h22 : M 22 0 = upd (μ 22 0) m 1 := by rw [← hM, ms_s, mr_n _ _ (by omega), ms_o _ _ _ (by omega), o22]
  have fM : ∀ k i, k ≠ 5 → k ≠ 21 → k ≠ 22 → M k i = M1 k i := fun k i k1 k2 k3 => by rw [← hM, ms_o _ _ _ (by omega), mr_n _ _ (by omega), ms_o _ _ _ (by omega)]
  have fo : ∀ b k i, own b k i → M k i = M1 k i := fun b k i ho => by have := own_k ho; exact fM k i (by omega) (by omega) (by omega)
  have fo2 : ∀ b k i, own b k i → b ≠ 2 + m → M k i = μ k i := fun b k i ho hb => by rw [fo b k i ho, f1 k i (own_ne ho hb)]
  refine ⟨by rw [h20]; exact RB_frame h.1 (fun k i ho => fo2 0 k i ho (by omega)), by rw [h20]; exact GI_mono h.2.1 (by omega), fun b hb => ?_, fun k hk => ?_, ?_⟩
  · by_cases e : b = 2 + m
    · subst e; exact BG_frame g1 (fo _)
    · exact BG_frame (h.2.2.1 b hb) (fun k i ho => fo2 b k i ho e)
  · by_cases e : k = m
    · subst e
      refine Or.inr ⟨by rw [h22, upd_s], ?_, ?_⟩
      · refine RB_congr (RB_frame (r1 _ h.1) (fo _)) (fun j hj => ?_)
        unfold img
        rw [h21]
        simp only [svR]
        rw [if_pos (by omega), show 256 * k + j - 256 * k = j by omega]
      · refine GI_congr (GI_mono h.2.1 (by omega)) (fun j hj => ?_)
        unfold img
        rw [h21]
        simp only [svR]
        rw [if_pos (by omega), show 256 * k + j - 256 * k = j by omega]
    · have ei : ∀ j, j < 256 → img M k j = img μ k j := fun j hj => by
        unfold img
        rw [h21]
        simp only [svR]
        rw [if_neg (by omega)]
      rw [h22, upd_n _ _ e]
      rcases h.2.2.2.1 k hk with z | ⟨z1, z2, z3⟩
      · exact Or.inl z
      · exact Or.inr ⟨z1, RB_congr (RB_frame z2 (fun k' i ho => fo2 (2 + k) k' i ho (by omega))) ei, GI_mono (GI_congr z3 ei) (by omega)⟩
  · rw [h5, h22, h.2.2.2.2]
    rcases kept_or h 0 (by omega) with x | x <;> rcases kept_or h 1 (by omega) with y | y <;> rcases (show m = 0 ∨ m = 1 by omega) with rfl | rfl <;> simp only [x, y, upd] <;> decide
theorem op_restore {N : Nat} {μ : Mem} (h : Inv N μ) (a1 : Int32) : wp_X5_restore a1 μ (fun r μ1 => wp_X6_restore a1 μ1 (fun r' μ2 => r = r' ∧ Inv (N + 50) μ2)) := by
  have fin : Inv (N + 50) μ := Inv_mono h (by omega)
  unfold wp_X5_restore wp_X6_restore
  rw [w_isWithin]
  simp only [w_in, b2i_0]
  refine ⟨fun c => ?_, fun c => ⟨fun c2 => absurd c c2, fun _ => (by first | exact fin | exact ⟨rfl, fin⟩ | exact ⟨trivial, fin⟩)⟩⟩
  obtain ⟨m, hm, rfl⟩ := wth_nat (k := 1) (by omega) (show wth a1 0 1 = true by simpa using c)
  rintro x rfl
  rw [w_isIn, b2i_0]
  have v2 : vp_in (nI m) 2 := vi (by omega) (by omega)
  have ein : (inb (μ 5 0 3) m = false) = (μ 22 0 m = 0) := by
    rw [h.2.2.2.2]
    rcases kept_or h 0 (by omega) with x | x <;> rcases kept_or h 1 (by omega) with y | y <;> rcases (show m = 0 ∨ m = 1 by omega) with rfl | rfl <;> simp only [x, y] <;> decide
  rw [ein]
  simp only [forall_eq, v2, true_and, cl (show m < 100000 by omega)]
  refine ⟨fun d => ?_, fun d => ⟨fun _ => ⟨fun z => absurd d z, fun _ => (by first | exact fin | exact ⟨rfl, fin⟩ | exact ⟨trivial, fin⟩)⟩, fun z => absurd z c⟩⟩
  rcases h.2.2.2.1 m (by omega) with z | ⟨z1, z2, z3⟩
  · exact absurd z d
  refine w_copyB (by omega) _ _ (fun n hn => (h.2.2.1 (2 + m) (by omega) n hn).1) (fun n hn => (h.2.2.1 0 (by omega) n hn).2) (fun M1 f1 g1 r1 => ?_)
  have o22 : M1 22 0 = μ 22 0 := f1 22 0 (by unfold own; omega)
  have o21 : M1 21 0 = μ 21 0 := f1 21 0 (by unfold own; omega)
  refine ⟨fun _ => ⟨fun _ => w6_load (k := m) (by omega) _ _ ?_, fun z => absurd (by rw [← o22]; exact z) d⟩, fun z => absurd z c⟩
  have e20 : ∀ j, j < 256 → ldR m 256 (M1 20 0) (M1 21 0) j = img μ m j := fun j hj => by
    simp only [ldR]
    rw [if_pos hj, o21]
    rfl
  have : Inv (N + 50) (mr M1 20 0 (ldR m 256 (M1 20 0) (M1 21 0))) := by
    refine Inv_fr h (by omega) f1 ?_ g1 ?_ (fun k i hk => mr_n _ _ (by unfold scr at hk; omega))
    · rw [mr_s]; exact RB_congr (r1 _ z2) e20
    · rw [mr_s]; exact GI_mono (GI_congr z3 e20) (by omega)
  first | exact this | exact ⟨rfl, this⟩ | exact ⟨trivial, this⟩
