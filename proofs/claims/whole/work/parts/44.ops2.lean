/-! a node begins anew -/
def bgT (T : Nat → Int32) (n : Nat) (t a : Int32) : Nat → Int32 := upd (upd (upd (upd (upd (upd (upd (upd T (30 + n) t) (36 + n) 0) (42 + n) 0) (48 + n) 0) (54 + n) 0) (60 + n) a) (66 + n) 0) (72 + n) 0
theorem GI_bg {N n : Nat} {T : Nat → Int32} (h : GI N T) (hn : n < 6) (t a : Int32) : GI N (bgT T n t a) := by
  obtain ⟨h1, ⟨c, h2, h3⟩, ⟨sz, h4, h5⟩, h6⟩ := h
  have o : ∀ j, j % 6 ≠ n ∨ 78 ≤ j → bgT T n t a j = T j := fun j hj => by
    unfold bgT
    rw [upd_n _ _ (by omega), upd_n _ _ (by omega), upd_n _ _ (by omega), upd_n _ _ (by omega), upd_n _ _ (by omega), upd_n _ _ (by omega), upd_n _ _ (by omega), upd_n _ _ (by omega)]
  refine ⟨fun m hm => ?_, ⟨c, h2, by rw [o _ (by omega)]; exact h3⟩, ⟨sz, h4, by rw [o _ (by omega)]; exact h5⟩, fun m hm => by rw [o _ (by omega)]; exact h6 m hm⟩
  by_cases c : m = n
  · subst c
    have e54 : bgT T m t a (54 + m) = 0 := by
      unfold bgT
      rw [upd_n _ _ (by omega), upd_n _ _ (by omega), upd_n _ _ (by omega), upd_s]
    have e48 : bgT T m t a (48 + m) = 0 := by
      unfold bgT
      rw [upd_n _ _ (by omega), upd_n _ _ (by omega), upd_n _ _ (by omega), upd_n _ _ (by omega), upd_s]
    rw [e54, e48]
    exact ⟨fun _ => by decide, fun _ => by decide⟩
  · rw [o _ (by omega), o _ (by omega), o _ (by omega)]
    exact h1 m hm
theorem bg_mem {b n : Nat} {μ : Mem} {T : Nat → Int32} (h : RB b μ T) (hB : BG b μ) (hn : n < 6) (t a : Int32) : RB b (mr μ 3 (6 * b + n) (upd (upd (upd (cBec t (μ 3 (6 * b + n))) 11 a) 12 0) 13 0)) (bgT T n t a) ∧ BG b (mr μ 3 (6 * b + n) (upd (upd (upd (cBec t (μ 3 (6 * b + n))) 11 a) 12 0) 13 0)) := by
  have e : mr μ 3 (6 * b + n) (upd (upd (upd (cBec t (μ 3 (6 * b + n))) 11 a) 12 0) 13 0) = ms (ms (ms (ms (ms (ms (ms (ms (ms μ 3 (6 * b + n) 5 t) 3 (6 * b + n) 6 1) 3 (6 * b + n) 7 0) 3 (6 * b + n) 8 0) 3 (6 * b + n) 9 0) 3 (6 * b + n) 10 0) 3 (6 * b + n) 11 a) 3 (6 * b + n) 12 0) 3 (6 * b + n) 13 0 := by
    simp only [ms_mr, mr_s, mr_mr, cBec]
  rw [e]
  refine ⟨?_, ?_⟩
  · exact RB_setF 0 (RB_setF 0 (RB_setF a (RB_setF 0 (RB_setF 0 (RB_setF 0 (RB_setF 0 (RB_set6 1 (RB_setF t h hn (show 5 < 14 by omega) (by omega)) hn) hn (show 7 < 14 by omega) (by omega)) hn (show 8 < 14 by omega) (by omega)) hn (show 9 < 14 by omega) (by omega)) hn (show 10 < 14 by omega) (by omega)) hn (show 11 < 14 by omega) (by omega)) hn (show 12 < 14 by omega) (by omega)) hn (show 13 < 14 by omega) (by omega)
  · exact BG_setF 0 (BG_setF 0 (BG_setF a (BG_setF 0 (BG_setF 0 (BG_setF 0 (BG_setF 0 (BG_setF 1 (BG_setF t hB hn (by omega) (by omega)) hn (by omega) (fun _ => Or.inr rfl)) hn (by omega) (by omega)) hn (by omega) (by omega)) hn (by omega) (by omega)) hn (by omega) (by omega)) hn (by omega) (by omega)) hn (by omega) (by omega)) hn (by omega) (by omega)
theorem Inv_bg {N n : Nat} {μ : Mem} (h : Inv N μ) (hn : n < 6) (t a : Int32) {M : Mem} (h20 : M 20 0 = bgT (μ 20 0) n t a) (f : ∀ k i, ¬ (k = 20 ∧ i = 0) → M k i = mr μ 3 (6 * 0 + n) (upd (upd (upd (cBec t (μ 3 (6 * 0 + n))) 11 a) 12 0) 13 0) k i) : Inv (N + 50) M := by
  obtain ⟨r1, r2⟩ := bg_mem h.1 (h.2.2.1 0 (by omega)) hn t a
  exact Inv_fr h (by omega) (fun k i ho => mr_n _ _ (by unfold own at ho; omega)) (by rw [h20]; exact r1) r2 (by rw [h20]; exact GI_mono (GI_bg h.2.1 hn t a) (by omega)) (fun k i hk => f k i (by unfold scr at hk; omega))
theorem op_off {N : Nat} {μ : Mem} (h : Inv N μ) (a1 : Int32) : wp_X5_off a1 μ (fun r μ1 => wp_X6_off a1 μ1 (fun r' μ2 => r = r' ∧ Inv (N + 50) μ2)) := by
  have fin : Inv (N + 50) μ := Inv_mono h (by omega)
  unfold wp_X5_off wp_X6_off
  rw [w_isNode]
  simp only [w6_isNode, b2i_0]
  refine ⟨fun c => ?_, fun c => ⟨fun c2 => absurd c c2, fun _ => (by first | exact fin | exact ⟨rfl, fin⟩ | exact ⟨trivial, fin⟩)⟩⟩
  have c' : wth a1 0 (nI 5) = true := by simpa using c
  obtain ⟨n, hn, rfl⟩ := within_node c'
  refine ⟨vi hn (by omega), ?_⟩
  rw [cl (show n < 100000 by omega)]
  rintro j rfl x rfl
  rw [w_beginAnew]
  have v1 : vp_in (nI (30 + n)) 256 := vi (by omega) (by omega)
  have v2 : vp_in (nI (60 + n)) 256 := vi (by omega) (by omega)
  have v3 : vp_in (nI (66 + n)) 256 := vi (by omega) (by omega)
  have v4 : vp_in (nI (72 + n)) 256 := vi (by omega) (by omega)
  refine ⟨fun _ => ?_, fun z => absurd z c⟩
  simp only [nI_add, v1, v2, v3, v4, cl (show 30 + n < 100000 by omega), cl (show 60 + n < 100000 by omega), cl (show 66 + n < 100000 by omega), cl (show 72 + n < 100000 by omega), forall_eq, true_and, w6_begin hn]
  refine ⟨?_, Inv_bg h hn 0 0 ?_ (fun k i hk => ?_)⟩
  · rw [mr_k _ _ (by decide), h.1.1 n hn 5 (by omega) (by omega), rT_5]
  · rw [ms_s, ms_s, ms_s, mr_s, mr_k _ _ (by decide)]
    rfl
  · rw [ms_o _ _ _ hk, ms_o _ _ _ hk, ms_o _ _ _ hk, mr_n _ _ hk]
theorem w6_wakeL (a1 a2 : Int32) (μ : Mem) (q : Int32 → Mem → Prop) (h : q (cwN (fun n => awB (μ 20 0 (30 + n))) 6) μ) : ∃ n : Nat, wp_X6_wake_l77 a1 a2 q n 0 0 μ := by
  refine ⟨7, loop6c (fun f m => wp_X6_wake_l77 a1 a2 q f (cwN (fun n => awB (μ 20 0 (30 + n))) m) (nI m) μ) ?_ ?_⟩
  · unfold wp_X6_wake_l77
    exact ⟨fun _ => h, fun c => absurd le66 c⟩
  · intro k m hm ih
    unfold wp_X6_wake_l77 wp_X6_wake_b99
    refine ⟨fun c => absurd c (nI_ge hm (by omega)), fun _ => ?_⟩
    simp only [forall_eq, w6_isOut hm, nI_1, b2i_0]
    simp only [cwN] at ih
    by_cases c : awB (μ 20 0 (30 + m)) = true
    · simpa [c] using ih
    · simpa [c] using ih
theorem op_wake {N : Nat} {μ : Mem} (h : Inv N μ) (a1 a2 : Int32) : wp_X5_wake a1 a2 μ (fun r μ1 => wp_X6_wake a1 a2 μ1 (fun r' μ2 => r = r' ∧ Inv (N + 50) μ2)) := by
  have fin : Inv (N + 50) μ := Inv_mono h (by omega)
  unfold wp_X5_wake wp_X6_wake
  rw [w_isNode]
  simp only [w6_isNode, b2i_0]
  refine ⟨fun c => ?_, fun c => ⟨fun c2 => absurd c c2, fun _ => (by first | exact fin | exact ⟨rfl, fin⟩ | exact ⟨trivial, fin⟩)⟩⟩
  have c' : wth a1 0 (nI 5) = true := by simpa using c
  obtain ⟨n, hn, rfl⟩ := within_node c'
  simp only [w_isWithin, w_in, b2i_0]
  refine ⟨fun d => ?_, fun d => ⟨fun _ => ⟨fun d2 => absurd d d2, fun _ => (by first | exact fin | exact ⟨rfl, fin⟩ | exact ⟨trivial, fin⟩)⟩, fun z => absurd z c⟩⟩
  refine ⟨vi hn (by omega), ?_⟩
  rw [cl (show n < 100000 by omega)]
  rintro j rfl
  rw [w_isAwake]
  have k5 : ∀ m, m < 6 → μ 3 (6 * 0 + m) 5 = μ 20 0 (30 + m) := fun m hm => by rw [h.1.1 m hm 5 (by omega) (by omega), rT_5]
  have v2 : vp_in (nI (60 + n)) 256 := vi (by omega) (by omega)
  have v3 : vp_in (nI (66 + n)) 256 := vi (by omega) (by omega)
  have v4 : vp_in (nI (72 + n)) 256 := vi (by omega) (by omega)
  simp only [nI_add, v2, v3, v4, cl (show 60 + n < 100000 by omega), cl (show 66 + n < 100000 by omega), cl (show 72 + n < 100000 by omega), forall_eq, true_and, w6_begin hn, w6_isOut hn, b2i_0, k5 n hn]
  refine ⟨fun e => ?_, fun e => ⟨fun _ => ⟨fun _ => ⟨fun z => absurd (by simpa using e) z, fun _ => (by first | exact fin | exact ⟨rfl, fin⟩ | exact ⟨trivial, fin⟩)⟩, fun z => absurd z d⟩, fun z => absurd z c⟩⟩
  rw [w_beginAnew]
  generalize hM : mr μ 3 (6 * 0 + n) (upd (upd (upd (cBec 1 (μ 3 (6 * 0 + n))) 11 a2) 12 0) 13 0) = M1
  obtain ⟨r1, r2⟩ := bg_mem h.1 (h.2.2.1 0 (by omega)) hn 1 a2
  rw [hM] at r1 r2
  refine w_awake 0 M1 _ ?_
  rw [w_bitCount, bc_cw]
  have h20 : M1 20 0 = μ 20 0 := by rw [← hM, mr_k _ _ (by decide)]
  refine ⟨fun _ => ⟨fun _ => ⟨fun _ => ?_, fun z => absurd z (by rw [h20]; simp [e])⟩, fun z => absurd z d⟩, fun z => absurd z c⟩
  generalize hM2 : ms (ms (ms (mr M1 20 0 (upd (upd (upd (upd (upd (M1 20 0) (30 + n) 1) (36 + n) 0) (42 + n) 0) (48 + n) 0) (54 + n) 0)) 20 0 (60 + n) a2) 20 0 (66 + n) 0) 20 0 (72 + n) 0 = M2
  have m20 : M2 20 0 = bgT (μ 20 0) n 1 a2 := by
    rw [← hM2, ms_s, ms_s, ms_s, mr_s, h20]
    rfl
  refine w6_wakeL _ _ _ _ ⟨?_, Inv_bg h hn 1 a2 m20 (fun k i hk => ?_)⟩
  · rw [m20]
    have : ∀ m, m ≤ 6 → cwN (fun n => awB (M1 3 (6 * 0 + n) 5)) m = cwN (fun m => awB (bgT (μ 20 0) n 1 a2 (30 + m))) m := by
      intro m
      induction m with
      | zero => intro _; rfl
      | succ m ih =>
        intro hm
        have k := r1.1 m (by omega) 5 (by omega) (by omega)
        rw [rT_5] at k
        simp only [cwN]
        simp only [ih (by omega), k]
    exact this 6 (by omega)
  · rw [← hM2, ms_o _ _ _ hk, ms_o _ _ _ hk, ms_o _ _ _ hk, mr_n _ _ hk, hM]
theorem op_spread {N : Nat} {μ : Mem} (h : Inv N μ) : wp_X5_spread μ (fun r μ1 => wp_X6_spread μ1 (fun r' μ2 => r = r' ∧ Inv (N + 50) μ2)) := by
  have fin : Inv (N + 50) μ := Inv_mono h (by omega)
  unfold wp_X5_spread wp_X6_spread
  refine w_thatAre 0 _ _ _ (w_apart 0 _ _ _ (w6_spreadBut _ _ _ ⟨?_, fin⟩))
  refine spN_congr (fun n hn => ?_) (fun n hn => ?_)
  · rw [inb_bits _ hn, h.1.1 n hn 5 (by omega) (by omega), rT_5]
    have : ¬ nI n = -6 := by
      rcases (show n = 0 ∨ n = 1 ∨ n = 2 ∨ n = 3 ∨ n = 4 ∨ n = 5 by omega) with rfl | rfl | rfl | rfl | rfl | rfl <;> decide
    simp [this]
  · rw [h.1.1 n hn 11 (by omega) (by omega), rT_11]
theorem op_seen {N : Nat} {μ : Mem} (h : Inv N μ) (a1 a2 : Int32) : wp_X5_seen a1 a2 μ (fun r μ1 => wp_X6_seen a1 a2 μ1 (fun r' μ2 => r = r' ∧ Inv (N + 50) μ2)) := by
  have fin : Inv (N + 50) μ := Inv_mono h (by omega)
  unfold wp_X5_seen wp_X6_seen
  simp only [w_isNode, w6_isNode, b2i_0]
  refine ⟨fun c => ⟨fun _ => (by first | exact fin | exact ⟨rfl, fin⟩ | exact ⟨trivial, fin⟩), fun z => absurd c z⟩, fun c => ?_⟩
  have c' : wth a1 0 (nI 5) = true := by simpa using c
  obtain ⟨n, hn, rfl⟩ := within_node c'
  refine ⟨fun d => ?_, fun d => ⟨fun z => absurd z c, fun _ => ⟨fun z => absurd d z, fun _ => (by first | exact fin | exact ⟨rfl, fin⟩ | exact ⟨trivial, fin⟩)⟩⟩⟩
  have d' : wth a2 0 (nI 5) = true := by simpa using d
  obtain ⟨o, ho, rfl⟩ := within_node d'
  refine ⟨fun e => ?_, fun e => ⟨fun z => absurd z c, fun _ => ⟨fun _ => ⟨fun z => absurd e z, fun _ => (by first | exact fin | exact ⟨rfl, fin⟩ | exact ⟨trivial, fin⟩)⟩, fun z => absurd z d⟩⟩⟩
  refine ⟨vi hn (by omega), ?_⟩
  rw [cl (show n < 100000 by omega)]
  rintro j rfl j rfl x rfl
  rw [w_isIn]
  obtain ⟨a0, -, -, a4⟩ := h.1.2.2.1 n hn
  have v1 : vp_in (nI (84 + n)) 256 := vi (by omega) (by omega)
  have v2 : vp_in (nI (96 + 6 * n + o)) 256 := vi (by omega) (by omega)
  have v3 : vp_in (nI o) 6 := vi ho (by omega)
  rw [a0]
  simp only [nI_add, pk_mul, v1, v2, v3, cl (show 84 + n < 100000 by omega), cl (show 96 + 6 * n + o < 100000 by omega), cl (show o < 100000 by omega), forall_eq, true_and, b2i_0, shr_in (h.2.1.2.2.2 n hn) ho]
  refine ⟨fun g => ⟨fun z => absurd z c, fun _ => ⟨fun _ => ⟨fun _ => ⟨fun _ => (by first | exact fin | exact ⟨rfl, fin⟩ | exact ⟨trivial, fin⟩), fun z => absurd z (by rw [g]; decide)⟩, fun z => absurd z e⟩, fun z => absurd z d⟩⟩, fun g => ⟨fun z => absurd z c, fun _ => ⟨fun _ => ⟨fun _ => ⟨fun z => absurd (by simpa using g) z, fun g2 => ⟨?_, fin⟩⟩, fun z => absurd z e⟩, fun z => absurd z d⟩⟩⟩
  rw [a4 o ho g2]
