/-- the numbers that the cells hold: kind of cell, which one, which place -/
abbrev Mem : Type := Nat → Nat → Nat → Int32
def ms (μ : Mem) (k i s : Nat) (v : Int32) : Mem := fun k' i' => if k' = k ∧ i' = i then upd (μ k i) s v else μ k' i'
/-- which Hearing of a Node a field names: two a Node -/
def hx (i : Nat) (x : Int32) : Nat := 2 * i + (if x = 0 then 0 else 1)
abbrev GG : Type := (Nat → Nat → Nat) × va_G × ClassId × ClassId × ClassId × ClassId
/-- a cell by its kind, its number and the row of its numbers -/
def Mr (g : GG) (r : Nat → Int32) (k i : Nat) : va_E := match k with
  | 0 => .inr (0, [.ref (g.1 13 i), .ref (g.1 2 i), .ref (g.1 4 i), .int (r 3), .int (r 4), .int (r 5)])
  | 1 => .inr (1, [.int (r 0), .int (r 1), .int (r 2), .int (r 3), .int (r 4), .int (r 5), .ref (g.1 7 i)])
  | 2 => .inr (2, [.ref (g.1 8 i), .ref (g.1 9 i), .ref (g.1 10 i), .int (r 3), .int (r 4)])
  | 3 => .inr (3, [.int (r 0), .int (r 1), .int (r 2), .int (r 3), .int (r 4), .int (r 5), .int (r 6), .int (r 7), .int (r 8), .int (r 9), .int (r 10), .int (r 11), .int (r 12), .int (r 13), .ref (g.1 1 (hx i (r 14))), .ref (g.1 1 (hx i (r 15)))])
  | 4 => .inr (4, [.ref (g.1 11 i), .int (r 1)])
  | 5 => .inr (5, [.ref (g.1 0 0), .ref (g.1 0 1), .ref (g.1 14 0), .int (r 3), .ref (g.1 4 4)])
  | 6 => .inr (6, [.ref (g.1 20 0), .ref (g.1 21 0), .ref (g.1 22 0), .ref (g.1 23 0), .int (r 4), .ref (g.1 24 0), .ref (g.1 25 0), .ref (g.1 26 0), .ref (g.1 27 0), .ref (g.1 28 0), .ref (g.1 29 0), .ref (g.1 30 0), .ref (g.1 31 0), .ref (g.1 32 0)])
  | 7 => .inl (g.2.2.1, 6, .inl r)
  | 8 => .inl (g.2.2.1, 40, .inl r)
  | 9 => .inl (g.2.2.1, 40, .inl r)
  | 10 => .inl (g.2.2.1, 40, .inl r)
  | 11 => .inl (g.2.2.1, 6, .inl r)
  | 13 => .inl (g.2.2.2.2.2, 6, .inr (.inr (.inr (.inr (fun j => some (g.1 3 (6 * i + j)))))))
  | 14 => .inl (g.2.2.2.2.1, 2, .inr (.inr (.inr (.inr (fun j => some (g.1 0 (2 + j)))))))
  | 20 => .inl (g.2.2.1, 256, .inl r)
  | 21 => .inl (g.2.2.1, 768, .inl r)
  | 22 => .inl (g.2.2.2.1, 2, .inl r)
  | 23 => .inl (g.2.2.1, 8, .inl r)
  | 24 => .inl (g.2.2.2.1, 6, .inl r)
  | 25 => .inl (g.2.2.2.1, 6, .inl r)
  | 26 => .inl (g.2.2.2.1, 6, .inl r)
  | 27 => .inl (g.2.2.2.1, 6, .inl r)
  | 28 => .inl (g.2.2.1, 6, .inl r)
  | 29 => .inl (g.2.2.1, 6, .inl r)
  | 30 => .inl (g.2.2.1, 6, .inl r)
  | 31 => .inl (g.2.2.1, 36, .inl r)
  | 32 => .inl (g.2.2.1, 6, .inl r)
  | _ => .inl (g.2.2.1, 0, .inl r)
def cntL : List Nat := [4, 48, 4, 24, 5, 1, 1, 48, 4, 4, 4, 5, 0, 4, 1, 0, 0, 0, 0, 0, 1, 1, 1, 1, 1, 1, 1, 1, 1, 1, 1, 1, 1]
def cnt (k : Nat) : Nat := cntL.getD k 0
def keys : List (Nat × Nat) := (List.range 33).flatMap (fun k => (List.range (cnt k)).map (fun i => (k, i)))
set_option maxRecDepth 100000 in
theorem keys_nd : keys.Nodup := by decide +kernel
theorem keys_mem {k i : Nat} (h : i < cnt k) : (k, i) ∈ keys := by
  have hk : k < 33 := by
    rcases Nat.lt_or_ge k 33 with q | q
    · exact q
    · have hz : cnt k = 0 := by
        unfold cnt
        rw [List.getD_eq_getElem?_getD, List.getElem?_eq_none (show cntL.length ≤ k from q)]
        rfl
      rw [hz] at h
      exact absurd h (Nat.not_lt_zero i)
  exact List.mem_flatMap.mpr ⟨k, List.mem_range.mpr hk, List.mem_map.mpr ⟨i, List.mem_range.mpr h, rfl⟩⟩
theorem keys_cnt {k i : Nat} (h : (k, i) ∈ keys) : i < cnt k := by
  obtain ⟨k', -, h2⟩ := List.mem_flatMap.mp h
  obtain ⟨i', h3, h4⟩ := List.mem_map.mp h2
  cases h4
  exact List.mem_range.mp h3
def wl (g : GG) (μ : Mem) : va_W := keys.map (fun q => (g.1 q.1 q.2, Mr g (μ q.1 q.2) q.1 q.2))
theorem wl_key {g : GG} {μ : Mem} {p : Nat} {k i : Nat} (h : keys[p]? = some (k, i)) : (wl g μ)[p]? = some (g.1 k i, Mr g (μ k i) k i) := by
  simp [wl, h]
theorem wl_at {k i : Nat} (h : i < cnt k) : ∃ p : Nat, keys[p]? = some (k, i) := List.getElem?_of_mem (keys_mem h)
theorem wl_inv {g : GG} {μ : Mem} {p : Nat} {q : Nat × va_E} (h : (wl g μ)[p]? = some q) : ∃ k i, i < cnt k ∧ keys[p]? = some (k, i) ∧ q = (g.1 k i, Mr g (μ k i) k i) := by
  unfold wl at h
  rw [List.getElem?_map] at h
  cases hk : keys[p]? with
  | none => rw [hk] at h; cases h
  | some x =>
    rw [hk] at h
    obtain ⟨k, i⟩ := x
    exact ⟨k, i, keys_cnt (List.mem_of_getElem? hk), rfl, (Option.some.inj h).symm⟩
theorem ms_self (μ : Mem) (k i s : Nat) (v : Int32) : ms μ k i s v k i = upd (μ k i) s v := by simp [ms]
theorem ms_ne (μ : Mem) {k i k' i' : Nat} (s : Nat) (v : Int32) (h : ¬ (k' = k ∧ i' = i)) : ms μ k i s v k' i' = μ k' i' := by simp [ms, h]
theorem wl_set {g : GG} {μ : Mem} {p k i s : Nat} {v : Int32} (hp : keys[p]? = some (k, i)) : (wl g μ).set p (g.1 k i, Mr g (upd (μ k i) s v) k i) = wl g (ms μ k i s v) := by
  apply List.ext_getElem?
  intro j
  have hl : p < (wl g μ).length := by
    have h1 := (List.getElem?_eq_some_iff.mp hp).1
    simpa [wl] using h1
  by_cases hj : j = p
  · subst hj
    rw [List.getElem?_set_self hl, wl_key hp, ms_self]
  · rw [List.getElem?_set_ne (Ne.symm hj)]
    unfold wl
    rw [List.getElem?_map, List.getElem?_map]
    cases hk : keys[j]? with
    | none => rfl
    | some x =>
      obtain ⟨k', i'⟩ := x
      have hne : ¬ (k' = k ∧ i' = i) := by
        intro hh
        obtain ⟨rfl, rfl⟩ := hh
        exact hj ((List.getElem?_inj (List.getElem?_eq_some_iff.mp hk).1 keys_nd).mp (hk.trans hp.symm))
      simp only [Option.map_some, ms_ne μ s v hne]
def WP (g : GG) (μ : Mem) (H : Heap) : Prop := va_P g.2.1 vwCl (wl g μ) H
def AA (g : GG) : Nat → Prop := fun q => ∃ k i, i < cnt k ∧ g.1 k i = q
def Inj (g : GG) : Prop := ∀ k i k' i', i < cnt k → i' < cnt k' → g.1 k i = g.1 k' i' → k = k' ∧ i = i'
theorem wl_D {g : GG} {μ : Mem} {A : Nat → Prop} (hI : Inj g) (hA : ∀ q, AA g q → A q) : va_D A (wl g μ) := by
  refine ⟨fun i j x y hi hj hxy => ?_, fun j q hj => ?_⟩
  · obtain ⟨k1, i1, c1, h1, rfl⟩ := wl_inv hi
    obtain ⟨k2, i2, c2, h2, rfl⟩ := wl_inv hj
    obtain ⟨rfl, rfl⟩ := hI _ _ _ _ c1 c2 hxy
    exact (List.getElem?_inj (List.getElem?_eq_some_iff.mp h1).1 keys_nd).mp (h1.trans h2.symm)
  · obtain ⟨k1, i1, c1, h1, rfl⟩ := wl_inv hj
    exact hA _ ⟨k1, i1, c1, rfl⟩
def tysW (g : GG) : List (ClassId × FieldType) := [(g.2.2.1, .int), (g.2.2.2.1, .boolean), (g.2.2.2.2.1, .object "SlotStart$Bus"), (g.2.2.2.2.2, .object "SlotStart$Node")]
def nestW : List Cond := [.methodLinkNest RX0 57 yX5_bitOf RX5, .methodLinkNest RX0 65 yX5_isIn RX5, .methodLinkNest RX1 42 yX5_bitOf RX5, .methodLinkNest RX1 67 yX5_isIn RX5, .methodLinkNest RX4 19 yX5_isWithin RX5]
def WK (g : GG) (U : State) : Prop := va_K g.2.1 vwCl (tysW g) U ∧ ∀ w ∈ nestW, va_Nw w U
theorem WK.warm {g : GG} {s U : State} (hW : s.WarmedH U.vm) (h : WK g s) : WK g U := by
  refine ⟨va_K.moved hW.alike h.1, fun w hw => ?_⟩
  have h2 := h.2 w hw
  simp only [nestW, List.mem_cons, List.not_mem_nil, or_false] at hw
  rcases hw with rfl | rfl | rfl | rfl | rfl <;> exact va_Nw.warmM hW h2
theorem WK.same {g : GG} {s U : State} (hv : s.vm = U.vm) (h : WK g s) : WK g U := by
  refine ⟨va_K.moved (by rw [hv]; exact Vm.Alike.refl _) h.1, fun w hw => ?_⟩
  have h2 := h.2 w hw
  simp only [nestW, List.mem_cons, List.not_mem_nil, or_false] at hw
  rcases hw with rfl | rfl | rfl | rfl | rfl <;> exact va_Nw.same rfl hv h2
def KP (g : GG) (av : List Value) (μ : Mem) : Array Value → State → Prop := va_Pc av (fun U => WP g μ U.heap ∧ WK g U)
def KQi (g : GG) (q : Int32 → Mem → Prop) : Array Value → State → Outcome → State → Prop := va_Qi q (fun μ U => WP g μ U.heap) (AA g)
def KQv (g : GG) (q : Mem → Prop) : Array Value → State → Outcome → State → Prop := va_Qv q (fun μ U => WP g μ U.heap) (AA g)
theorem KP.blind {g : GG} {av : List Value} {μ : Mem} : FrameBlind (KP g av μ) := fun a U j mk h => ⟨h.1, h.2.1, WK.same (s := U) (U := U.calling j mk a) rfl h.2.2⟩
def RC (p : Program) (s : State) (m : MethodId) (args : Array Value) (c : Code) (cc : ByteArray) (nL : Nat) (own : String) (g : GG) (A : Nat → Prop) : Prop :=
  p.tables.exec = Jvm.exec ∧ c.code = cc ∧ c.maxLocals = nL ∧ s.vm.findClass own = some m.cls ∧ (∀ w ∈ wsL_law, w.before args s = true) ∧ WK g s ∧ Inj g ∧ ∀ q, AA g q → A q
def V (p : Program) (l : Launch) (e : Env) (R : Room) (s : State) (m : MethodId) (args : Array Value) (below : List Frame) (meth : Method) (c : Code) (nL : Nat) (g : GG) (A : Nat → Prop) (cells slots : Nat) (Q : State → Prop) (μ : Mem) (pc : Nat) (lv : List (Nat × Value)) (st : List Value) : Prop :=
  ∀ (H : Heap) (locs : List Loc) (ls : Array Slot), lv_has ls nL lv → WP g μ H → va_S A s.heap H locs → W p l e R s m args below meth c H locs cells slots Q (F0 m pc ls st)
theorem wsL_good : wsL_law.all goodWord = true := by decide +kernel
theorem wsL_goodIn {c1 c2 : Cond} (h : c2 ∈ wsL_law) : GoodIn (c1 :: wsL_law) (c2 :: wsL_law) := by
  intro w hw
  have hm : w ∈ wsL_law := by
    rcases List.mem_cons.mp hw with rfl | q
    · exact h
    · exact q
  exact ⟨List.mem_cons_of_mem _ hm, good_of_word (List.all_eq_true.mp wsL_good w hm)⟩
theorem wsL_goodIn0 {c2 : Cond} (h : c2 ∈ wsL_law) : GoodIn wsL_law (c2 :: wsL_law) := by
  intro w hw
  have hm : w ∈ wsL_law := by
    rcases List.mem_cons.mp hw with rfl | q
    · exact h
    · exact q
  exact ⟨hm, good_of_word (List.all_eq_true.mp wsL_good w hm)⟩
def nz (v : Int32) : Prop := v = 0 ∨ v = 1
theorem nz_nar {v : Int32} (h : nz v) : narrow .boolean (.int v) = .int v := by
  rcases h with rfl | rfl <;> rfl
theorem nz_vnar {v : Int32} (h : nz v) : vp_nar .boolean v = v := by
  rcases h with rfl | rfl <;> rfl
theorem nz_fit {v : Int32} (h : nz v) : fits .boolean (.int v) = true := by
  rcases h with rfl | rfl <;> rfl
theorem nz_0 : nz 0 := Or.inl rfl
theorem nz_1 : nz 1 := Or.inr rfl
theorem hx_lt {i : Nat} {x : Int32} (h : i < 24) : hx i x < 48 := by unfold hx; split <;> omega
section VV
variable {p : Program} {l : Launch} {e : Env} {R : Room} {s : State} {m : MethodId} {args : Array Value} {below : List Frame} {meth : Method} {c : Code} {cells slots : Nat} {Q : State → Prop}
variable {cc : ByteArray} {nL : Nat} {own : String} {g : GG} {A : Nat → Prop} {μ : Mem} {pc : Nat} {lv : List (Nat × Value)} {st : List Value}

theorem v_iconst (X : RC p s m args c cc nL own g A) {n : Int} {v : Int32} (hv : Int32.ofInt n = v) (hd : decode cc pc = .ok (.iconst n, 1)) (k : V p l e R s m args below meth c nL g A cells slots Q μ (pc + 1) lv (.int v :: st)) : V p l e R s m args below meth c nL g A cells slots Q μ (pc) lv (st) := fun H locs ls hl hP hS => lv_iconst X.1 X.2.1 hd hv (k H locs ls hl hP hS)
theorem v_bipush (X : RC p s m args c cc nL own g A) {n : Int} {v : Int32} (hv : (Int8.ofInt n).toInt32 = v) (hd : decode cc pc = .ok (.bipush n, 2)) (k : V p l e R s m args below meth c nL g A cells slots Q μ (pc + 2) lv (.int v :: st)) : V p l e R s m args below meth c nL g A cells slots Q μ (pc) lv (st) := fun H locs ls hl hP hS => lv_bipush X.1 X.2.1 hd hv (k H locs ls hl hP hS)
theorem v_sipush (X : RC p s m args c cc nL own g A) {n : Int} {v : Int32} (hv : (Int16.ofInt n).toInt32 = v) (hd : decode cc pc = .ok (.sipush n, 3)) (k : V p l e R s m args below meth c nL g A cells slots Q μ (pc + 3) lv (.int v :: st)) : V p l e R s m args below meth c nL g A cells slots Q μ (pc) lv (st) := fun H locs ls hl hP hS => lv_sipush X.1 X.2.1 hd hv (k H locs ls hl hP hS)
theorem v_ldc (X : RC p s m args c cc nL own g A) {ix : Nat} {v : Int32} (hw : (Cond.constant own ix v) ∈ wsL_law) (hd : decode cc pc = .ok (.ldc ix, 2)) (k : V p l e R s m args below meth c nL g A cells slots Q μ (pc + 2) lv (.int v :: st)) : V p l e R s m args below meth c nL g A cells slots Q μ (pc) lv (st) := fun H locs ls hl hP hS => lv_ldc X.1 X.2.1 X.2.2.2.1 (X.2.2.2.2.1 _ hw) hd (k H locs ls hl hP hS)
theorem v_iload_n (X : RC p s m args c cc nL own g A) {k : Fin 4} {i : Nat} {x : Int32} (hi : (k : Nat) = i) (j : Nat) (hj : lv[j]? = some (i, .int x)) (hd : decode cc pc = .ok (.iload_n k, 1)) (k : V p l e R s m args below meth c nL g A cells slots Q μ (pc + 1) lv (.int x :: st)) : V p l e R s m args below meth c nL g A cells slots Q μ (pc) lv (st) := fun H locs ls hl hP hS => lv_iload_n X.1 X.2.1 hd hi (lv_at hl j hj) (k H locs ls hl hP hS)
theorem v_iload (X : RC p s m args c cc nL own g A) {i : Nat} {x : Int32} (j : Nat) (hj : lv[j]? = some (i, .int x)) (hd : decode cc pc = .ok (.iload i, 2)) (k : V p l e R s m args below meth c nL g A cells slots Q μ (pc + 2) lv (.int x :: st)) : V p l e R s m args below meth c nL g A cells slots Q μ (pc) lv (st) := fun H locs ls hl hP hS => lv_iload X.1 X.2.1 hd (lv_at hl j hj) (k H locs ls hl hP hS)
theorem v_aload_n (X : RC p s m args c cc nL own g A) {k : Fin 4} {i : Nat} {x : Nat} (hi : (k : Nat) = i) (j : Nat) (hj : lv[j]? = some (i, .ref x)) (hd : decode cc pc = .ok (.aload_n k, 1)) (k : V p l e R s m args below meth c nL g A cells slots Q μ (pc + 1) lv (.ref x :: st)) : V p l e R s m args below meth c nL g A cells slots Q μ (pc) lv (st) := fun H locs ls hl hP hS => lv_aload_n X.1 X.2.1 hd hi (lv_at hl j hj) (k H locs ls hl hP hS)
theorem v_aload (X : RC p s m args c cc nL own g A) {i : Nat} {x : Nat} (j : Nat) (hj : lv[j]? = some (i, .ref x)) (hd : decode cc pc = .ok (.aload i, 2)) (k : V p l e R s m args below meth c nL g A cells slots Q μ (pc + 2) lv (.ref x :: st)) : V p l e R s m args below meth c nL g A cells slots Q μ (pc) lv (st) := fun H locs ls hl hP hS => lv_aload X.1 X.2.1 hd (lv_at hl j hj) (k H locs ls hl hP hS)
theorem v_istore_n (X : RC p s m args c cc nL own g A) {k : Fin 4} {i : Nat} {x : Int32} {lv' : List (Nat × Value)} (hi : (k : Nat) = i) (hn : i < nL) (hl' : (i, Value.int x) :: lv.filter (fun q => !(q.1 == i) && !(q.1 + 1 == i && q.2.category == 2)) = lv') (hd : decode cc pc = .ok (.istore_n k, 1)) (k2 : V p l e R s m args below meth c nL g A cells slots Q μ (pc + 1) lv' (st)) : V p l e R s m args below meth c nL g A cells slots Q μ (pc) lv (.int x :: st) := fun H locs ls hl hP hS => lv_istore_n X.1 X.2.1 hd hi hl hn hl' (fun ls2 hl2 => k2 H locs ls2 hl2 hP hS)
theorem v_istore (X : RC p s m args c cc nL own g A) {i : Nat} {x : Int32} {lv' : List (Nat × Value)} (hn : i < nL) (hl' : (i, Value.int x) :: lv.filter (fun q => !(q.1 == i) && !(q.1 + 1 == i && q.2.category == 2)) = lv') (hd : decode cc pc = .ok (.istore i, 2)) (k2 : V p l e R s m args below meth c nL g A cells slots Q μ (pc + 2) lv' (st)) : V p l e R s m args below meth c nL g A cells slots Q μ (pc) lv (.int x :: st) := fun H locs ls hl hP hS => lv_istore X.1 X.2.1 hd hl hn hl' (fun ls2 hl2 => k2 H locs ls2 hl2 hP hS)
theorem v_astore_n (X : RC p s m args c cc nL own g A) {k : Fin 4} {i : Nat} {x : Nat} {lv' : List (Nat × Value)} (hi : (k : Nat) = i) (hn : i < nL) (hl' : (i, Value.ref x) :: lv.filter (fun q => !(q.1 == i) && !(q.1 + 1 == i && q.2.category == 2)) = lv') (hd : decode cc pc = .ok (.astore_n k, 1)) (k2 : V p l e R s m args below meth c nL g A cells slots Q μ (pc + 1) lv' (st)) : V p l e R s m args below meth c nL g A cells slots Q μ (pc) lv (.ref x :: st) := fun H locs ls hl hP hS => lv_astore_n X.1 X.2.1 hd hi hl hn hl' (fun ls2 hl2 => k2 H locs ls2 hl2 hP hS)
theorem v_astore (X : RC p s m args c cc nL own g A) {i : Nat} {x : Nat} {lv' : List (Nat × Value)} (hn : i < nL) (hl' : (i, Value.ref x) :: lv.filter (fun q => !(q.1 == i) && !(q.1 + 1 == i && q.2.category == 2)) = lv') (hd : decode cc pc = .ok (.astore i, 2)) (k2 : V p l e R s m args below meth c nL g A cells slots Q μ (pc + 2) lv' (st)) : V p l e R s m args below meth c nL g A cells slots Q μ (pc) lv (.ref x :: st) := fun H locs ls hl hP hS => lv_astore X.1 X.2.1 hd hl hn hl' (fun ls2 hl2 => k2 H locs ls2 hl2 hP hS)
theorem v_iinc (X : RC p s m args c cc nL own g A) {i j : Nat} {n : Int} {x y : Int32} {lv' : List (Nat × Value)} (hj : lv[j]? = some (i, .int x)) (hv : x + Int32.ofInt n = y) (hn : i < nL) (hl' : (i, Value.int y) :: lv.filter (fun q => !(q.1 == i) && !(q.1 + 1 == i && q.2.category == 2)) = lv') (hd : decode cc pc = .ok (.iinc i n, 3)) (k2 : V p l e R s m args below meth c nL g A cells slots Q μ (pc + 3) lv' (st)) : V p l e R s m args below meth c nL g A cells slots Q μ (pc) lv (st) := fun H locs ls hl hP hS => lv_iinc X.1 X.2.1 hd hl hj hv hn hl' (fun ls2 hl2 => k2 H locs ls2 hl2 hP hS)
theorem v_iadd (X : RC p s m args c cc nL own g A) {x y : Int32} (hd : decode cc pc = .ok (.iadd, 1)) (k : V p l e R s m args below meth c nL g A cells slots Q μ (pc + 1) lv (.int (x + y) :: st)) : V p l e R s m args below meth c nL g A cells slots Q μ (pc) lv (.int y :: .int x :: st) := fun H locs ls hl hP hS => lv_iadd X.1 X.2.1 hd (k H locs ls hl hP hS)
theorem v_isub (X : RC p s m args c cc nL own g A) {x y : Int32} (hd : decode cc pc = .ok (.isub, 1)) (k : V p l e R s m args below meth c nL g A cells slots Q μ (pc + 1) lv (.int (x - y) :: st)) : V p l e R s m args below meth c nL g A cells slots Q μ (pc) lv (.int y :: .int x :: st) := fun H locs ls hl hP hS => lv_isub X.1 X.2.1 hd (k H locs ls hl hP hS)
theorem v_imul (X : RC p s m args c cc nL own g A) {x y : Int32} (hd : decode cc pc = .ok (.imul, 1)) (k : V p l e R s m args below meth c nL g A cells slots Q μ (pc + 1) lv (.int (x * y) :: st)) : V p l e R s m args below meth c nL g A cells slots Q μ (pc) lv (.int y :: .int x :: st) := fun H locs ls hl hP hS => lv_imul X.1 X.2.1 hd (k H locs ls hl hP hS)
theorem v_iand (X : RC p s m args c cc nL own g A) {x y : Int32} (hd : decode cc pc = .ok (.iand, 1)) (k : V p l e R s m args below meth c nL g A cells slots Q μ (pc + 1) lv (.int (x &&& y) :: st)) : V p l e R s m args below meth c nL g A cells slots Q μ (pc) lv (.int y :: .int x :: st) := fun H locs ls hl hP hS => lv_iand X.1 X.2.1 hd (k H locs ls hl hP hS)
theorem v_ior (X : RC p s m args c cc nL own g A) {x y : Int32} (hd : decode cc pc = .ok (.ior, 1)) (k : V p l e R s m args below meth c nL g A cells slots Q μ (pc + 1) lv (.int (x ||| y) :: st)) : V p l e R s m args below meth c nL g A cells slots Q μ (pc) lv (.int y :: .int x :: st) := fun H locs ls hl hP hS => lv_ior X.1 X.2.1 hd (k H locs ls hl hP hS)
theorem v_ixor (X : RC p s m args c cc nL own g A) {x y : Int32} (hd : decode cc pc = .ok (.ixor, 1)) (k : V p l e R s m args below meth c nL g A cells slots Q μ (pc + 1) lv (.int (x ^^^ y) :: st)) : V p l e R s m args below meth c nL g A cells slots Q μ (pc) lv (.int y :: .int x :: st) := fun H locs ls hl hP hS => lv_ixor X.1 X.2.1 hd (k H locs ls hl hP hS)
theorem v_ishl (X : RC p s m args c cc nL own g A) {x y : Int32} (hd : decode cc pc = .ok (.ishl, 1)) (k : V p l e R s m args below meth c nL g A cells slots Q μ (pc + 1) lv (.int (x <<< (y &&& 31)) :: st)) : V p l e R s m args below meth c nL g A cells slots Q μ (pc) lv (.int y :: .int x :: st) := fun H locs ls hl hP hS => lv_ishl X.1 X.2.1 hd (k H locs ls hl hP hS)
theorem v_ishr (X : RC p s m args c cc nL own g A) {x y : Int32} (hd : decode cc pc = .ok (.ishr, 1)) (k : V p l e R s m args below meth c nL g A cells slots Q μ (pc + 1) lv (.int (x >>> (y &&& 31)) :: st)) : V p l e R s m args below meth c nL g A cells slots Q μ (pc) lv (.int y :: .int x :: st) := fun H locs ls hl hP hS => lv_ishr X.1 X.2.1 hd (k H locs ls hl hP hS)
theorem v_idiv (X : RC p s m args c cc nL own g A) {x y : Int32} (hne : ¬ y = 0) (hd : decode cc pc = .ok (.idiv, 1)) (k : V p l e R s m args below meth c nL g A cells slots Q μ (pc + 1) lv (.int (x / y) :: st)) : V p l e R s m args below meth c nL g A cells slots Q μ (pc) lv (.int y :: .int x :: st) := fun H locs ls hl hP hS => lv_idiv X.1 X.2.1 hd hne (k H locs ls hl hP hS)
theorem v_irem (X : RC p s m args c cc nL own g A) {x y : Int32} (hne : ¬ y = 0) (hd : decode cc pc = .ok (.irem, 1)) (k : V p l e R s m args below meth c nL g A cells slots Q μ (pc + 1) lv (.int (x - x / y * y) :: st)) : V p l e R s m args below meth c nL g A cells slots Q μ (pc) lv (.int y :: .int x :: st) := fun H locs ls hl hP hS => lv_irem X.1 X.2.1 hd hne (k H locs ls hl hP hS)
theorem v_ineg (X : RC p s m args c cc nL own g A) {x : Int32} (hd : decode cc pc = .ok (.ineg, 1)) (k : V p l e R s m args below meth c nL g A cells slots Q μ (pc + 1) lv (.int (-x) :: st)) : V p l e R s m args below meth c nL g A cells slots Q μ (pc) lv (.int x :: st) := fun H locs ls hl hP hS => lv_ineg X.1 X.2.1 hd (k H locs ls hl hP hS)
theorem v_dup (X : RC p s m args c cc nL own g A) {va : Value} (hva : va.category = 1) (hd : decode cc pc = .ok (.dup, 1)) (k : V p l e R s m args below meth c nL g A cells slots Q μ (pc + 1) lv (va :: va :: st)) : V p l e R s m args below meth c nL g A cells slots Q μ (pc) lv (va :: st) := fun H locs ls hl hP hS => lv_dup X.1 X.2.1 hd hva (k H locs ls hl hP hS)
theorem v_pop (X : RC p s m args c cc nL own g A) {va : Value} (hva : va.category = 1) (hd : decode cc pc = .ok (.pop, 1)) (k : V p l e R s m args below meth c nL g A cells slots Q μ (pc + 1) lv (st)) : V p l e R s m args below meth c nL g A cells slots Q μ (pc) lv (va :: st) := fun H locs ls hl hP hS => lv_pop X.1 X.2.1 hd hva (k H locs ls hl hP hS)
theorem v_dup2 (X : RC p s m args c cc nL own g A) {va vb : Value} (hva : va.category = 1) (hvb : vb.category = 1) (hd : decode cc pc = .ok (.dup2, 1)) (k : V p l e R s m args below meth c nL g A cells slots Q μ (pc + 1) lv (va :: vb :: va :: vb :: st)) : V p l e R s m args below meth c nL g A cells slots Q μ (pc) lv (va :: vb :: st) := fun H locs ls hl hP hS => lv_dup2_11 X.1 X.2.1 hd hva hvb (k H locs ls hl hP hS)
theorem v_goto (X : RC p s m args c cc nL own g A) {off : Int} {tgt : Nat} (hd : decode cc pc = .ok (.goto off, 3)) (ht : (pc : Int) + off = (tgt : Int)) (k : V p l e R s m args below meth c nL g A cells slots Q μ (tgt) lv (st)) : V p l e R s m args below meth c nL g A cells slots Q μ (pc) lv (st) := fun H locs ls hl hP hS => lv_goto X.1 X.2.1 hd ht (k H locs ls hl hP hS)
theorem v_sub {lv' : List (Nat × Value)} (ks : List Nat) (h : lv_pick lv ks = lv') (k : V p l e R s m args below meth c nL g A cells slots Q μ (pc) lv' (st)) : V p l e R s m args below meth c nL g A cells slots Q μ (pc) lv (st) := fun H locs ls hl hP hS => k H locs ls (lv_sub hl ks h) hP hS
theorem v_nm {x : Int32} {f : Int32 → Prop} (h : ∀ y : Int32, y = x → f y) (k : ∀ y : Int32, f y → V p l e R s m args below meth c nL g A cells slots Q μ (pc) lv (.int y :: st)) : V p l e R s m args below meth c nL g A cells slots Q μ (pc) lv (.int x :: st) := k x (h x rfl)
theorem v_if_eq (X : RC p s m args c cc nL own g A) {x : Int32} {off : Int} {tgt : Nat} {f1 f2 : Prop} (h : (x = 0 → f1) ∧ (¬ x = 0 → f2)) (hd : decode cc pc = .ok (.ifCond .eq off, 3)) (ht : (pc : Int) + off = (tgt : Int)) (kt : f1 → V p l e R s m args below meth c nL g A cells slots Q μ (tgt) lv (st)) (kf : f2 → V p l e R s m args below meth c nL g A cells slots Q μ (pc + 3) lv (st)) : V p l e R s m args below meth c nL g A cells slots Q μ (pc) lv (.int x :: st) := fun H locs ls hl hP hS => lv_if_eq X.1 X.2.1 hd ht (fun q => kt (h.1 q) H locs ls hl hP hS) (fun q => kf (h.2 q) H locs ls hl hP hS)
theorem v_if_ne (X : RC p s m args c cc nL own g A) {x : Int32} {off : Int} {tgt : Nat} {f1 f2 : Prop} (h : (¬ x = 0 → f1) ∧ (x = 0 → f2)) (hd : decode cc pc = .ok (.ifCond .ne off, 3)) (ht : (pc : Int) + off = (tgt : Int)) (kt : f1 → V p l e R s m args below meth c nL g A cells slots Q μ (tgt) lv (st)) (kf : f2 → V p l e R s m args below meth c nL g A cells slots Q μ (pc + 3) lv (st)) : V p l e R s m args below meth c nL g A cells slots Q μ (pc) lv (.int x :: st) := fun H locs ls hl hP hS => lv_if_ne X.1 X.2.1 hd ht (fun q => kt (h.1 q) H locs ls hl hP hS) (fun q => kf (h.2 q) H locs ls hl hP hS)
theorem v_if_lt (X : RC p s m args c cc nL own g A) {x : Int32} {off : Int} {tgt : Nat} {f1 f2 : Prop} (h : (x < 0 → f1) ∧ (¬ x < 0 → f2)) (hd : decode cc pc = .ok (.ifCond .lt off, 3)) (ht : (pc : Int) + off = (tgt : Int)) (kt : f1 → V p l e R s m args below meth c nL g A cells slots Q μ (tgt) lv (st)) (kf : f2 → V p l e R s m args below meth c nL g A cells slots Q μ (pc + 3) lv (st)) : V p l e R s m args below meth c nL g A cells slots Q μ (pc) lv (.int x :: st) := fun H locs ls hl hP hS => lv_if_lt X.1 X.2.1 hd ht (fun q => kt (h.1 q) H locs ls hl hP hS) (fun q => kf (h.2 q) H locs ls hl hP hS)
theorem v_if_ge (X : RC p s m args c cc nL own g A) {x : Int32} {off : Int} {tgt : Nat} {f1 f2 : Prop} (h : (0 ≤ x → f1) ∧ (¬ 0 ≤ x → f2)) (hd : decode cc pc = .ok (.ifCond .ge off, 3)) (ht : (pc : Int) + off = (tgt : Int)) (kt : f1 → V p l e R s m args below meth c nL g A cells slots Q μ (tgt) lv (st)) (kf : f2 → V p l e R s m args below meth c nL g A cells slots Q μ (pc + 3) lv (st)) : V p l e R s m args below meth c nL g A cells slots Q μ (pc) lv (.int x :: st) := fun H locs ls hl hP hS => lv_if_ge X.1 X.2.1 hd ht (fun q => kt (h.1 q) H locs ls hl hP hS) (fun q => kf (h.2 q) H locs ls hl hP hS)
theorem v_if_gt (X : RC p s m args c cc nL own g A) {x : Int32} {off : Int} {tgt : Nat} {f1 f2 : Prop} (h : (0 < x → f1) ∧ (¬ 0 < x → f2)) (hd : decode cc pc = .ok (.ifCond .gt off, 3)) (ht : (pc : Int) + off = (tgt : Int)) (kt : f1 → V p l e R s m args below meth c nL g A cells slots Q μ (tgt) lv (st)) (kf : f2 → V p l e R s m args below meth c nL g A cells slots Q μ (pc + 3) lv (st)) : V p l e R s m args below meth c nL g A cells slots Q μ (pc) lv (.int x :: st) := fun H locs ls hl hP hS => lv_if_gt X.1 X.2.1 hd ht (fun q => kt (h.1 q) H locs ls hl hP hS) (fun q => kf (h.2 q) H locs ls hl hP hS)
theorem v_if_le (X : RC p s m args c cc nL own g A) {x : Int32} {off : Int} {tgt : Nat} {f1 f2 : Prop} (h : (x ≤ 0 → f1) ∧ (¬ x ≤ 0 → f2)) (hd : decode cc pc = .ok (.ifCond .le off, 3)) (ht : (pc : Int) + off = (tgt : Int)) (kt : f1 → V p l e R s m args below meth c nL g A cells slots Q μ (tgt) lv (st)) (kf : f2 → V p l e R s m args below meth c nL g A cells slots Q μ (pc + 3) lv (st)) : V p l e R s m args below meth c nL g A cells slots Q μ (pc) lv (.int x :: st) := fun H locs ls hl hP hS => lv_if_le X.1 X.2.1 hd ht (fun q => kt (h.1 q) H locs ls hl hP hS) (fun q => kf (h.2 q) H locs ls hl hP hS)
theorem v_icmp_eq (X : RC p s m args c cc nL own g A) {x y : Int32} {off : Int} {tgt : Nat} {f1 f2 : Prop} (h : (x = y → f1) ∧ (¬ x = y → f2)) (hd : decode cc pc = .ok (.if_icmp .eq off, 3)) (ht : (pc : Int) + off = (tgt : Int)) (kt : f1 → V p l e R s m args below meth c nL g A cells slots Q μ (tgt) lv (st)) (kf : f2 → V p l e R s m args below meth c nL g A cells slots Q μ (pc + 3) lv (st)) : V p l e R s m args below meth c nL g A cells slots Q μ (pc) lv (.int y :: .int x :: st) := fun H locs ls hl hP hS => lv_icmp_eq X.1 X.2.1 hd ht (fun q => kt (h.1 q) H locs ls hl hP hS) (fun q => kf (h.2 q) H locs ls hl hP hS)
theorem v_icmp_ne (X : RC p s m args c cc nL own g A) {x y : Int32} {off : Int} {tgt : Nat} {f1 f2 : Prop} (h : (¬ x = y → f1) ∧ (x = y → f2)) (hd : decode cc pc = .ok (.if_icmp .ne off, 3)) (ht : (pc : Int) + off = (tgt : Int)) (kt : f1 → V p l e R s m args below meth c nL g A cells slots Q μ (tgt) lv (st)) (kf : f2 → V p l e R s m args below meth c nL g A cells slots Q μ (pc + 3) lv (st)) : V p l e R s m args below meth c nL g A cells slots Q μ (pc) lv (.int y :: .int x :: st) := fun H locs ls hl hP hS => lv_icmp_ne X.1 X.2.1 hd ht (fun q => kt (h.1 q) H locs ls hl hP hS) (fun q => kf (h.2 q) H locs ls hl hP hS)
theorem v_icmp_lt (X : RC p s m args c cc nL own g A) {x y : Int32} {off : Int} {tgt : Nat} {f1 f2 : Prop} (h : (x < y → f1) ∧ (¬ x < y → f2)) (hd : decode cc pc = .ok (.if_icmp .lt off, 3)) (ht : (pc : Int) + off = (tgt : Int)) (kt : f1 → V p l e R s m args below meth c nL g A cells slots Q μ (tgt) lv (st)) (kf : f2 → V p l e R s m args below meth c nL g A cells slots Q μ (pc + 3) lv (st)) : V p l e R s m args below meth c nL g A cells slots Q μ (pc) lv (.int y :: .int x :: st) := fun H locs ls hl hP hS => lv_icmp_lt X.1 X.2.1 hd ht (fun q => kt (h.1 q) H locs ls hl hP hS) (fun q => kf (h.2 q) H locs ls hl hP hS)
theorem v_icmp_ge (X : RC p s m args c cc nL own g A) {x y : Int32} {off : Int} {tgt : Nat} {f1 f2 : Prop} (h : (y ≤ x → f1) ∧ (¬ y ≤ x → f2)) (hd : decode cc pc = .ok (.if_icmp .ge off, 3)) (ht : (pc : Int) + off = (tgt : Int)) (kt : f1 → V p l e R s m args below meth c nL g A cells slots Q μ (tgt) lv (st)) (kf : f2 → V p l e R s m args below meth c nL g A cells slots Q μ (pc + 3) lv (st)) : V p l e R s m args below meth c nL g A cells slots Q μ (pc) lv (.int y :: .int x :: st) := fun H locs ls hl hP hS => lv_icmp_ge X.1 X.2.1 hd ht (fun q => kt (h.1 q) H locs ls hl hP hS) (fun q => kf (h.2 q) H locs ls hl hP hS)
theorem v_icmp_gt (X : RC p s m args c cc nL own g A) {x y : Int32} {off : Int} {tgt : Nat} {f1 f2 : Prop} (h : (y < x → f1) ∧ (¬ y < x → f2)) (hd : decode cc pc = .ok (.if_icmp .gt off, 3)) (ht : (pc : Int) + off = (tgt : Int)) (kt : f1 → V p l e R s m args below meth c nL g A cells slots Q μ (tgt) lv (st)) (kf : f2 → V p l e R s m args below meth c nL g A cells slots Q μ (pc + 3) lv (st)) : V p l e R s m args below meth c nL g A cells slots Q μ (pc) lv (.int y :: .int x :: st) := fun H locs ls hl hP hS => lv_icmp_gt X.1 X.2.1 hd ht (fun q => kt (h.1 q) H locs ls hl hP hS) (fun q => kf (h.2 q) H locs ls hl hP hS)
theorem v_icmp_le (X : RC p s m args c cc nL own g A) {x y : Int32} {off : Int} {tgt : Nat} {f1 f2 : Prop} (h : (x ≤ y → f1) ∧ (¬ x ≤ y → f2)) (hd : decode cc pc = .ok (.if_icmp .le off, 3)) (ht : (pc : Int) + off = (tgt : Int)) (kt : f1 → V p l e R s m args below meth c nL g A cells slots Q μ (tgt) lv (st)) (kf : f2 → V p l e R s m args below meth c nL g A cells slots Q μ (pc + 3) lv (st)) : V p l e R s m args below meth c nL g A cells slots Q μ (pc) lv (.int y :: .int x :: st) := fun H locs ls hl hP hS => lv_icmp_le X.1 X.2.1 hd ht (fun q => kt (h.1 q) H locs ls hl hP hS) (fun q => kf (h.2 q) H locs ls hl hP hS)
theorem v_tsw (X : RC p s m args c cc nL own g A) {dflt lo hi : Int} {offs : Array Int} {len : Nat} {x : Int32} (hd : decode cc pc = .ok (.tableswitch dflt lo hi offs, len)) (hin : ¬ x.toInt < lo → ¬ hi < x.toInt → ∃ (off : Int) (tgt : Nat), offs[(x.toInt - lo).toNat]? = some off ∧ (pc : Int) + off = (tgt : Int) ∧ V p l e R s m args below meth c nL g A cells slots Q μ (tgt) lv (st)) (hout : (x.toInt < lo ∨ hi < x.toInt) → ∃ tgt : Nat, (pc : Int) + dflt = (tgt : Int) ∧ V p l e R s m args below meth c nL g A cells slots Q μ (tgt) lv (st)) : V p l e R s m args below meth c nL g A cells slots Q μ (pc) lv (.int x :: st) := by
  intro H locs ls hl hP hS
  by_cases h1 : x.toInt < lo
  · obtain ⟨tgt, ht, k⟩ := hout (Or.inl h1)
    exact lv_tableOut X.1 X.2.1 hd (Or.inl h1) ht (k H locs ls hl hP hS)
  · by_cases h2 : hi < x.toInt
    · obtain ⟨tgt, ht, k⟩ := hout (Or.inr h2)
      exact lv_tableOut X.1 X.2.1 hd (Or.inr h2) ht (k H locs ls hl hP hS)
    · obtain ⟨off, tgt, ho, ht, k⟩ := hin h1 h2
      exact lv_tableIn X.1 X.2.1 hd h1 h2 ho ht (k H locs ls hl hP hS)
theorem v_getV (X : RC p s m args c cc nL own g A) {k i ci : Nat} {fs : List Value} {C : String} {T : u_T} {N index f : Nat} {ref : String} {val : Value} (hi : i < cnt k) (hM : Mr g (μ k i) k i = .inr (ci, fs)) (hc : vwCl[ci]? = some (C, T, N)) (hin : ∀ w ∈ u_ws C T N, w ∈ wsL_law) (hf : f < N) (hw : (Cond.fieldLink own index ref (T f).2.1 (T f).2.2.1) ∈ wsL_law) (hr : (T f).1 = ref) (hv : fs[f]? = some val) (hd : decode cc pc = .ok (.getfield index, 3)) (kk : V p l e R s m args below meth c nL g A cells slots Q μ (pc + 3) lv (val :: st)) : V p l e R s m args below meth c nL g A cells slots Q μ (pc) lv (.ref (g.1 k i) :: st) := by
  intro H locs ls hl hP hS
  obtain ⟨p0, hp⟩ := wl_at hi
  exact va_get (D := g.2.1) (cl := vwCl) X.1 X.2.1 X.2.2.2.2.1 hin X.2.2.2.1 X.2.2.2.2.2.1.1 hP p0 ((wl_key hp).trans (by rw [hM])) hc f hf (X.2.2.2.2.1 _ hw) (fun x h => by rw [← hr]; exact h) hv hd (kk H locs ls hl hP hS)
theorem v_putV (X : RC p s m args c cc nL own g A) {k i ci sl : Nat} {fs : List Value} {C : String} {T : u_T} {N index f : Nat} {ref : String} {val : Value} {vi : Int32} {tyf : FieldType} (hi : i < cnt k) (hM : Mr g (μ k i) k i = .inr (ci, fs)) (hM2 : Mr g (upd (μ k i) sl vi) k i = .inr (ci, fs.set f val)) (hc : vwCl[ci]? = some (C, T, N)) (hin : ∀ w ∈ u_ws C T N, w ∈ wsL_law) (ty0 : Nat → FieldType) (hty : ∀ k, k < N → parseFieldDescriptor (T k).2.2.1 = some (ty0 k)) (hnm : ∀ a, a < N → ∀ b, b < N → a ≠ b → (T a).2.1 ≠ (T b).2.1) (hf : f < N) (hw : (Cond.fieldLink own index ref (T f).2.1 (T f).2.2.1) ∈ wsL_law) (hr : (T f).1 = ref) (hfin : (T f).2.2.2 = false) (hdsc : parseFieldDescriptor (T f).2.2.1 = some tyf) (hn : narrow tyf val = val) (hfit : fits tyf val = true) (hlen : f < fs.length) (hd : decode cc pc = .ok (.putfield index, 3)) (kk : V p l e R s m args below meth c nL g A cells slots Q (ms μ k i sl vi) (pc + 3) lv (st)) : V p l e R s m args below meth c nL g A cells slots Q μ (pc) lv (val :: .ref (g.1 k i) :: st) := by
  intro H locs ls hl hP hS
  obtain ⟨p0, hp⟩ := wl_at hi
  refine va_put (D := g.2.1) (cl := vwCl) X.1 X.2.1 X.2.2.2.2.1 hin ty0 hty hnm X.2.2.2.1 X.2.2.2.2.2.1.1 hP (wl_D X.2.2.2.2.2.2.1 X.2.2.2.2.2.2.2) hS p0 ((wl_key hp).trans (by rw [hM])) hc f hf (X.2.2.2.2.1 _ hw) (fun x h => by rw [← hr]; exact h) hfin hdsc hn hfit hlen hd (fun H1 locs1 hP1 _ hS1 => ?_)
  rw [← hM2, wl_set hp] at hP1
  exact kk H1 locs1 ls hl hP1 hS1
theorem v_ialdK (X : RC p s m args c cc nL own g A) {k i n : Nat} {x : Int32} {f : Int32 → Prop} (hi : i < cnt k) (hM : Mr g (μ k i) k i = .inl (g.2.2.1, n, .inl (μ k i))) (h : vp_in x n ∧ ∀ y : Int32, y = μ k i x.toNatClampNeg → f y) (hd : decode cc pc = .ok (.iaload, 1)) (kk : ∀ y : Int32, f y → V p l e R s m args below meth c nL g A cells slots Q μ (pc + 1) lv (.int y :: st)) : V p l e R s m args below meth c nL g A cells slots Q μ (pc) lv (.int x :: .ref (g.1 k i) :: st) := by
  intro H locs ls hl hP hS
  obtain ⟨p0, hp⟩ := wl_at hi
  exact va_iald (D := g.2.1) (cl := vwCl) X.1 X.2.1 X.2.2.2.2.2.1.1 hP p0 0 ((wl_key hp).trans (by rw [hM])) rfl h.1 hd (kk _ (h.2 _ rfl) H locs ls hl hP hS)
theorem v_zaldK (X : RC p s m args c cc nL own g A) {k i n : Nat} {x : Int32} {f : Int32 → Prop} (hi : i < cnt k) (hM : Mr g (μ k i) k i = .inl (g.2.2.2.1, n, .inl (μ k i))) (h : vp_in x n ∧ ∀ y : Int32, y = μ k i x.toNatClampNeg → f y) (hd : decode cc pc = .ok (.baload, 1)) (kk : ∀ y : Int32, f y → V p l e R s m args below meth c nL g A cells slots Q μ (pc + 1) lv (.int y :: st)) : V p l e R s m args below meth c nL g A cells slots Q μ (pc) lv (.int x :: .ref (g.1 k i) :: st) := by
  intro H locs ls hl hP hS
  obtain ⟨p0, hp⟩ := wl_at hi
  exact va_zald (D := g.2.1) (cl := vwCl) X.1 X.2.1 X.2.2.2.2.2.1.1 hP p0 1 ((wl_key hp).trans (by rw [hM])) rfl h.1 hd (kk _ (h.2 _ rfl) H locs ls hl hP hS)
theorem v_iastK (X : RC p s m args c cc nL own g A) {k i n : Nat} {x y : Int32} {f : Mem → Prop} (hi : i < cnt k) (hM : ∀ r : Nat → Int32, Mr g r k i = .inl (g.2.2.1, n, .inl r)) (h : vp_in x n ∧ ∀ μ1 : Mem, μ1 = ms μ k i x.toNatClampNeg y → f μ1) (hd : decode cc pc = .ok (.iastore, 1)) (kk : ∀ μ1 : Mem, f μ1 → V p l e R s m args below meth c nL g A cells slots Q μ1 (pc + 1) lv (st)) : V p l e R s m args below meth c nL g A cells slots Q μ (pc) lv (.int y :: .int x :: .ref (g.1 k i) :: st) := by
  intro H locs ls hl hP hS
  obtain ⟨p0, hp⟩ := wl_at hi
  refine va_iast (D := g.2.1) (cl := vwCl) X.1 X.2.1 X.2.2.2.2.2.1.1 hP (wl_D X.2.2.2.2.2.2.1 X.2.2.2.2.2.2.2) hS p0 0 ((wl_key hp).trans (by rw [hM])) rfl h.1 hd (fun H1 locs1 hP1 _ hS1 => ?_)
  rw [← hM, wl_set hp] at hP1
  exact kk _ (h.2 _ rfl) H1 locs1 ls hl hP1 hS1
theorem v_zastK (X : RC p s m args c cc nL own g A) {k i n : Nat} {x y : Int32} {f : Mem → Prop} (hi : i < cnt k) (hM : ∀ r : Nat → Int32, Mr g r k i = .inl (g.2.2.2.1, n, .inl r)) (h : nz y ∧ vp_in x n ∧ ∀ μ1 : Mem, μ1 = ms μ k i x.toNatClampNeg y → f μ1) (hd : decode cc pc = .ok (.bastore, 1)) (kk : ∀ μ1 : Mem, f μ1 → V p l e R s m args below meth c nL g A cells slots Q μ1 (pc + 1) lv (st)) : V p l e R s m args below meth c nL g A cells slots Q μ (pc) lv (.int y :: .int x :: .ref (g.1 k i) :: st) := by
  intro H locs ls hl hP hS
  obtain ⟨p0, hp⟩ := wl_at hi
  refine va_zast (D := g.2.1) (cl := vwCl) X.1 X.2.1 X.2.2.2.2.2.1.1 hP (wl_D X.2.2.2.2.2.2.1 X.2.2.2.2.2.2.2) hS p0 1 ((wl_key hp).trans (by rw [hM])) rfl h.2.1 hd (fun H1 locs1 hP1 _ hS1 => ?_)
  rw [nz_vnar h.1, ← hM, wl_set hp] at hP1
  exact kk _ (h.2.2 _ rfl) H1 locs1 ls hl hP1 hS1
theorem v_nodes (X : RC p s m args c cc nL own g A) {i : Nat} {x : Int32} {f : Nat → Prop} (hi : i < 4) (h : vp_in x 6 ∧ ∀ j : Nat, j = 6 * i + x.toNatClampNeg → f j) (hd : decode cc pc = .ok (.aaload, 1)) (kk : ∀ j : Nat, j < 24 → f j → V p l e R s m args below meth c nL g A cells slots Q μ (pc + 1) lv (.ref (g.1 3 j) :: st)) : V p l e R s m args below meth c nL g A cells slots Q μ (pc) lv (.int x :: .ref (g.1 13 i) :: st) := by
  intro H locs ls hl hP hS
  obtain ⟨p0, hp⟩ := wl_at (k := 13) (i := i) hi
  have hlt : x.toNatClampNeg < 6 := Nat.not_le.mp fun q => h.1 (Or.inr q)
  exact va_aldq (D := g.2.1) (cl := vwCl) X.1 X.2.1 X.2.2.2.2.2.1.1 hP p0 3 (wl_key hp) rfl h.1 hd (kk (6 * i + x.toNatClampNeg) (by omega) (h.2 _ rfl) H locs ls hl hP hS)
theorem v_images (X : RC p s m args c cc nL own g A) {x : Int32} {f : Nat → Prop} (h : vp_in x 2 ∧ ∀ j : Nat, j = 2 + x.toNatClampNeg → f j) (hd : decode cc pc = .ok (.aaload, 1)) (kk : ∀ j : Nat, j < 4 → f j → V p l e R s m args below meth c nL g A cells slots Q μ (pc + 1) lv (.ref (g.1 0 j) :: st)) : V p l e R s m args below meth c nL g A cells slots Q μ (pc) lv (.int x :: .ref (g.1 14 0) :: st) := by
  intro H locs ls hl hP hS
  obtain ⟨p0, hp⟩ := wl_at (k := 14) (i := 0) (show 0 < 1 by omega)
  have hlt : x.toNatClampNeg < 2 := Nat.not_le.mp fun q => h.1 (Or.inr q)
  exact va_aldq (D := g.2.1) (cl := vwCl) X.1 X.2.1 X.2.2.2.2.2.1.1 hP p0 2 (wl_key hp) rfl h.1 hd (kk (2 + x.toNatClampNeg) (by omega) (h.2 _ rfl) H locs ls hl hP hS)
theorem v_alen (X : RC p s m args c cc nL own g A) {k i t0 : Nat} {cA : ClassId} {a : vp_A} {ty : FieldType} {y : Int32} (hi : i < cnt k) (hM : Mr g (μ k i) k i = .inl (cA, a)) (ht : (tysW g)[t0]? = some (cA, ty)) (hv : nI a.1 = y) (hd : decode cc pc = .ok (.arraylength, 1)) (kk : V p l e R s m args below meth c nL g A cells slots Q μ (pc + 1) lv (.int y :: st)) : V p l e R s m args below meth c nL g A cells slots Q μ (pc) lv (.ref (g.1 k i) :: st) := by
  intro H locs ls hl hP hS
  obtain ⟨p0, hp⟩ := wl_at hi
  exact va_alen (D := g.2.1) (cl := vwCl) X.1 X.2.1 X.2.2.2.2.2.1.1 hP p0 t0 ((wl_key hp).trans (by rw [hM])) ht hv hd (kk H locs ls hl hP hS)
theorem v_mmax (X : RC p s m args c cc nL own g A) {index : Nat} {x y : Int32} {f : Int32 → Prop} (hw : (Cond.methodLink own index Lib.Math.max.name) ∈ wsL_law) (hst : (Cond.static Lib.Math.max.name) ∈ wsL_law) (hin : (Cond.initialized "java/lang/Math") ∈ wsL_law) (hco : (Cond.code Lib.Math.max.name Lib.Math.max.code 2 (some .int)) ∈ wsL_law) (hfr : 1 ≤ R.frames) (hlo : (st.map fun v => v.category).sum + 13 ≤ R.locals) (hcs : cells ≤ R.cells) (hss : slots ≤ R.slots) (h : ∀ z : Int32, z = (if x < y then y else x) → f z) (hd : decode cc pc = .ok (.invokestatic index, 3)) (kk : ∀ z : Int32, f z → V p l e R s m args below meth c nL g A cells slots Q μ (pc + 3) lv (.int z :: st)) : V p l e R s m args below meth c nL g A cells slots Q μ (pc) lv (.int y :: .int x :: st) := fun H locs ls hl hP hS => va_mmax X.1 X.2.1 (X.2.2.1.trans hl.1.symm) X.2.2.2.1 (X.2.2.2.2.1 _ hw) (X.2.2.2.2.1 _ hst) (X.2.2.2.2.1 _ hin) (X.2.2.2.2.1 _ hco) hfr hlo hcs hss hd (kk _ (h _ rfl) H locs ls hl hP hS)
theorem v_mmin (X : RC p s m args c cc nL own g A) {index : Nat} {x y : Int32} {f : Int32 → Prop} (hw : (Cond.methodLink own index Lib.Math.min.name) ∈ wsL_law) (hst : (Cond.static Lib.Math.min.name) ∈ wsL_law) (hin : (Cond.initialized "java/lang/Math") ∈ wsL_law) (hco : (Cond.code Lib.Math.min.name Lib.Math.min.code 2 (some .int)) ∈ wsL_law) (hfr : 1 ≤ R.frames) (hlo : (st.map fun v => v.category).sum + 13 ≤ R.locals) (hcs : cells ≤ R.cells) (hss : slots ≤ R.slots) (h : ∀ z : Int32, z = (if y < x then y else x) → f z) (hd : decode cc pc = .ok (.invokestatic index, 3)) (kk : ∀ z : Int32, f z → V p l e R s m args below meth c nL g A cells slots Q μ (pc + 3) lv (.int z :: st)) : V p l e R s m args below meth c nL g A cells slots Q μ (pc) lv (.int y :: .int x :: st) := fun H locs ls hl hP hS => va_mmin X.1 X.2.1 (X.2.2.1.trans hl.1.symm) X.2.2.2.1 (X.2.2.2.2.1 _ hw) (X.2.2.2.2.1 _ hst) (X.2.2.2.2.1 _ hin) (X.2.2.2.2.1 _ hco) hfr hlo hcs hss hd (kk _ (h _ rfl) H locs ls hl hP hS)
theorem v_mabs (X : RC p s m args c cc nL own g A) {index : Nat} {x : Int32} {f : Int32 → Prop} (hw : (Cond.methodLink own index Lib.Math.abs.name) ∈ wsL_law) (hst : (Cond.static Lib.Math.abs.name) ∈ wsL_law) (hin : (Cond.initialized "java/lang/Math") ∈ wsL_law) (hco : (Cond.code Lib.Math.abs.name Lib.Math.abs.code 1 (some .int)) ∈ wsL_law) (hfr : 1 ≤ R.frames) (hlo : (st.map fun v => v.category).sum + 13 ≤ R.locals) (hcs : cells ≤ R.cells) (hss : slots ≤ R.slots) (h : ∀ z : Int32, z = (if 0 ≤ x then x else 0 - x) → f z) (hd : decode cc pc = .ok (.invokestatic index, 3)) (kk : ∀ z : Int32, f z → V p l e R s m args below meth c nL g A cells slots Q μ (pc + 3) lv (.int z :: st)) : V p l e R s m args below meth c nL g A cells slots Q μ (pc) lv (.int x :: st) := fun H locs ls hl hP hS => va_mabs X.1 X.2.1 (X.2.2.1.trans hl.1.symm) X.2.2.2.1 (X.2.2.2.2.1 _ hw) (X.2.2.2.2.1 _ hst) (X.2.2.2.2.1 _ hin) (X.2.2.2.2.1 _ hco) hfr hlo hcs hss hd (kk _ (h _ rfl) H locs ls hl hP hS)
theorem v_callVi (X : RC p s m args c cc nL own g A) {index n maxL : Nat} {y : MethodName} {bytes : ByteArray} {ret : Option FieldType} {rm : Room} {As st1 : List Value} {q : Int32 → Mem → Prop} {k i ci : Nat} {fs : List Value} {C : String} {T : u_T} {N : Nat} (hMet : Met l y (Cond.code y bytes maxL ret :: wsL_law) rm (KP g (.ref (g.1 k i) :: As) μ) (KQi g q) 0 0 (AA g)) (hco : (Cond.code y bytes maxL ret) ∈ wsL_law) (hw : (Cond.methodLink own index y) ∈ wsL_law) (hins : (Cond.instanceMethod y) ∈ wsL_law) (hsel : (Cond.selects C y y) ∈ wsL_law) (hini : (Cond.initialized y.cls) ∈ wsL_law) (hrc : rm.cells = 0 ∧ rm.slots = 0) (hdc : y.cls ≠ "java/lang/invoke/MethodHandle" ∧ y.cls ≠ "java/lang/invoke/VarHandle" ∧ (parseMethodDescriptor y.desc).map (fun d => d.parameters.length) = some n) (hR : rm.frames + 1 ≤ R.frames ∧ 8 + (maxL + 11) + rm.locals ≤ R.locals) (hcs : cells ≤ R.cells ∧ slots ≤ R.slots) (hi : i < cnt k) (hM : Mr g (μ k i) k i = .inr (ci, fs)) (hc : vwCl[ci]? = some (C, T, N)) (hn : As.length = n) (hst1 : st1 = As.reverse ++ .ref (g.1 k i) :: st) (hro : (st.map fun v => v.category).sum ≤ 8) (hd : decode cc pc = .ok (.invokevirtual index, 3)) (kk : ∀ (z : Int32) (μ1 : Mem), q z μ1 → V p l e R s m args below meth c nL g A cells slots Q μ1 (pc + 3) lv (.int z :: st)) : V p l e R s m args below meth c nL g A cells slots Q μ (pc) lv (st1) := by
  subst hst1
  intro H locs ls hl hP hS
  have hts := X.2.2.2.2.1
  obtain ⟨p0, hp⟩ := wl_at hi
  exact va_calli (va_runV (As := As) (rest := st) ⟨X.1, X.2.1, X.2.2.1, X.2.2.2.1, hts⟩ hMet ⟨callB_of n hts (wsL_goodIn0 hco) rfl hrc.1 hrc.2 (hts _ hini) (hts _ hw) hdc hR, hts _ hins, hts _ hsel⟩ ⟨KP.blind, va_recv (q := (C, T, N)) X.2.2.2.2.2.1.1 hP hc ((wl_key hp).trans (by rw [hM])), fun U hU hW => ⟨rfl, by rw [hU]; exact hP, WK.warm hW X.2.2.2.2.2.1⟩⟩ rfl hn hl.1 rfl (lv_room hro) hd ⟨hcs.1, hcs.2⟩) hS (fun q _ h => X.2.2.2.2.2.2.2 q h) (fun q h => X.2.2.2.2.2.2.2 q h) (fun z u t H1 locs1 ht hvm hw2 hB hz1 hk1 hS1 => kk z u hw2 H1 locs1 ls hl (by rw [← ht]; exact hB) hS1)
theorem v_callVv (X : RC p s m args c cc nL own g A) {index n maxL : Nat} {y : MethodName} {bytes : ByteArray} {ret : Option FieldType} {rm : Room} {As st1 : List Value} {q : Mem → Prop} {k i ci : Nat} {fs : List Value} {C : String} {T : u_T} {N : Nat} (hMet : Met l y (Cond.code y bytes maxL ret :: wsL_law) rm (KP g (.ref (g.1 k i) :: As) μ) (KQv g q) 0 0 (AA g)) (hco : (Cond.code y bytes maxL ret) ∈ wsL_law) (hw : (Cond.methodLink own index y) ∈ wsL_law) (hins : (Cond.instanceMethod y) ∈ wsL_law) (hsel : (Cond.selects C y y) ∈ wsL_law) (hini : (Cond.initialized y.cls) ∈ wsL_law) (hrc : rm.cells = 0 ∧ rm.slots = 0) (hdc : y.cls ≠ "java/lang/invoke/MethodHandle" ∧ y.cls ≠ "java/lang/invoke/VarHandle" ∧ (parseMethodDescriptor y.desc).map (fun d => d.parameters.length) = some n) (hR : rm.frames + 1 ≤ R.frames ∧ 8 + (maxL + 11) + rm.locals ≤ R.locals) (hcs : cells ≤ R.cells ∧ slots ≤ R.slots) (hi : i < cnt k) (hM : Mr g (μ k i) k i = .inr (ci, fs)) (hc : vwCl[ci]? = some (C, T, N)) (hn : As.length = n) (hst1 : st1 = As.reverse ++ .ref (g.1 k i) :: st) (hro : (st.map fun v => v.category).sum ≤ 8) (hd : decode cc pc = .ok (.invokevirtual index, 3)) (kk : ∀ μ1 : Mem, q μ1 → V p l e R s m args below meth c nL g A cells slots Q μ1 (pc + 3) lv (st)) : V p l e R s m args below meth c nL g A cells slots Q μ (pc) lv (st1) := by
  subst hst1
  intro H locs ls hl hP hS
  have hts := X.2.2.2.2.1
  obtain ⟨p0, hp⟩ := wl_at hi
  exact va_callv (va_runV (As := As) (rest := st) ⟨X.1, X.2.1, X.2.2.1, X.2.2.2.1, hts⟩ hMet ⟨callB_of n hts (wsL_goodIn0 hco) rfl hrc.1 hrc.2 (hts _ hini) (hts _ hw) hdc hR, hts _ hins, hts _ hsel⟩ ⟨KP.blind, va_recv (q := (C, T, N)) X.2.2.2.2.2.1.1 hP hc ((wl_key hp).trans (by rw [hM])), fun U hU hW => ⟨rfl, by rw [hU]; exact hP, WK.warm hW X.2.2.2.2.2.1⟩⟩ rfl hn hl.1 rfl (lv_room hro) hd ⟨hcs.1, hcs.2⟩) hS (fun q _ h => X.2.2.2.2.2.2.2 q h) (fun q h => X.2.2.2.2.2.2.2 q h) (fun u t H1 locs1 ht hvm hw2 hB hz1 hk1 hS1 => kk u hw2 H1 locs1 ls hl (by rw [← ht]; exact hB) hS1)
theorem v_callSi (X : RC p s m args c cc nL own g A) {index n maxL : Nat} {y : MethodName} {bytes : ByteArray} {ret : Option FieldType} {rm : Room} {As st1 : List Value} {q : Int32 → Mem → Prop} (hMet : Met l y (Cond.code y bytes maxL ret :: wsL_law) rm (KP g As μ) (KQi g q) 0 0 (AA g)) (hco : (Cond.code y bytes maxL ret) ∈ wsL_law) (hw : (Cond.methodLink own index y) ∈ wsL_law) (hst : (Cond.static y) ∈ wsL_law) (hini : (Cond.initialized y.cls) ∈ wsL_law) (hrc : rm.cells = 0 ∧ rm.slots = 0) (hdc : y.cls ≠ "java/lang/invoke/MethodHandle" ∧ y.cls ≠ "java/lang/invoke/VarHandle" ∧ (parseMethodDescriptor y.desc).map (fun d => d.parameters.length) = some n) (hR : rm.frames + 1 ≤ R.frames ∧ 8 + (maxL + 11) + rm.locals ≤ R.locals) (hcs : cells ≤ R.cells ∧ slots ≤ R.slots) (hn : As.length = n) (hst1 : st1 = As.reverse ++ st) (hro : (st.map fun v => v.category).sum ≤ 8) (hd : decode cc pc = .ok (.invokestatic index, 3)) (kk : ∀ (z : Int32) (μ1 : Mem), q z μ1 → V p l e R s m args below meth c nL g A cells slots Q μ1 (pc + 3) lv (.int z :: st)) : V p l e R s m args below meth c nL g A cells slots Q μ (pc) lv (st1) := by
  subst hst1
  intro H locs ls hl hP hS
  have hts := X.2.2.2.2.1
  exact va_calli (va_runS (As := As) (rest := st) ⟨X.1, X.2.1, X.2.2.1, X.2.2.2.1, hts⟩ hMet ⟨callB_of n hts (wsL_goodIn0 hco) rfl hrc.1 hrc.2 (hts _ hini) (hts _ hw) hdc hR, hts _ hst⟩ ⟨KP.blind, fun U hU hW => ⟨rfl, by rw [hU]; exact hP, WK.warm hW X.2.2.2.2.2.1⟩⟩ rfl hn hl.1 rfl (lv_room hro) hd ⟨hcs.1, hcs.2⟩) hS (fun q _ h => X.2.2.2.2.2.2.2 q h) (fun q h => X.2.2.2.2.2.2.2 q h) (fun z u t H1 locs1 ht hvm hw2 hB hz1 hk1 hS1 => kk z u hw2 H1 locs1 ls hl (by rw [← ht]; exact hB) hS1)
theorem v_callSv (X : RC p s m args c cc nL own g A) {index n maxL : Nat} {y : MethodName} {bytes : ByteArray} {ret : Option FieldType} {rm : Room} {As st1 : List Value} {q : Mem → Prop} (hMet : Met l y (Cond.code y bytes maxL ret :: wsL_law) rm (KP g As μ) (KQv g q) 0 0 (AA g)) (hco : (Cond.code y bytes maxL ret) ∈ wsL_law) (hw : (Cond.methodLink own index y) ∈ wsL_law) (hst : (Cond.static y) ∈ wsL_law) (hini : (Cond.initialized y.cls) ∈ wsL_law) (hrc : rm.cells = 0 ∧ rm.slots = 0) (hdc : y.cls ≠ "java/lang/invoke/MethodHandle" ∧ y.cls ≠ "java/lang/invoke/VarHandle" ∧ (parseMethodDescriptor y.desc).map (fun d => d.parameters.length) = some n) (hR : rm.frames + 1 ≤ R.frames ∧ 8 + (maxL + 11) + rm.locals ≤ R.locals) (hcs : cells ≤ R.cells ∧ slots ≤ R.slots) (hn : As.length = n) (hst1 : st1 = As.reverse ++ st) (hro : (st.map fun v => v.category).sum ≤ 8) (hd : decode cc pc = .ok (.invokestatic index, 3)) (kk : ∀ μ1 : Mem, q μ1 → V p l e R s m args below meth c nL g A cells slots Q μ1 (pc + 3) lv (st)) : V p l e R s m args below meth c nL g A cells slots Q μ (pc) lv (st1) := by
  subst hst1
  intro H locs ls hl hP hS
  have hts := X.2.2.2.2.1
  exact va_callv (va_runS (As := As) (rest := st) ⟨X.1, X.2.1, X.2.2.1, X.2.2.2.1, hts⟩ hMet ⟨callB_of n hts (wsL_goodIn0 hco) rfl hrc.1 hrc.2 (hts _ hini) (hts _ hw) hdc hR, hts _ hst⟩ ⟨KP.blind, fun U hU hW => ⟨rfl, by rw [hU]; exact hP, WK.warm hW X.2.2.2.2.2.1⟩⟩ rfl hn hl.1 rfl (lv_room hro) hd ⟨hcs.1, hcs.2⟩) hS (fun q _ h => X.2.2.2.2.2.2.2 q h) (fun q h => X.2.2.2.2.2.2.2 q h) (fun u t H1 locs1 ht hvm hw2 hB hz1 hk1 hS1 => kk u hw2 H1 locs1 ls hl (by rw [← ht]; exact hB) hS1)
theorem v_callNi (X : RC p s m args c cc nL own g A) {index n maxL : Nat} {y : MethodName} {bytes : ByteArray} {ret : Option FieldType} {rm : Room} {As st1 : List Value} {q : Int32 → Mem → Prop} (hMet : Met l y (Cond.code y bytes maxL ret :: wsL_law) rm (KP g As μ) (KQi g q) 0 0 (AA g)) (hco : (Cond.code y bytes maxL ret) ∈ wsL_law) (hw : (Cond.methodLinkNest own index y RX5) ∈ nestW) (hst : (Cond.static y) ∈ wsL_law) (hini : (Cond.initialized y.cls) ∈ wsL_law) (hrc : rm.cells = 0 ∧ rm.slots = 0) (hdc : y.cls ≠ "java/lang/invoke/MethodHandle" ∧ y.cls ≠ "java/lang/invoke/VarHandle" ∧ (parseMethodDescriptor y.desc).map (fun d => d.parameters.length) = some n) (hR : rm.frames + 1 ≤ R.frames ∧ 8 + (maxL + 11) + rm.locals ≤ R.locals) (hcs : cells ≤ R.cells ∧ slots ≤ R.slots) (hn : As.length = n) (hst1 : st1 = As.reverse ++ st) (hro : (st.map fun v => v.category).sum ≤ 8) (hd : decode cc pc = .ok (.invokestatic index, 3)) (kk : ∀ (z : Int32) (μ1 : Mem), q z μ1 → V p l e R s m args below meth c nL g A cells slots Q μ1 (pc + 3) lv (.int z :: st)) : V p l e R s m args below meth c nL g A cells slots Q μ (pc) lv (st1) := by
  subst hst1
  intro H locs ls hl hP hS
  have hts := X.2.2.2.2.1
  exact va_calli (va_runSN (As := As) (rest := st) ⟨X.1, X.2.1, X.2.2.1, X.2.2.2.1, hts⟩ hMet ⟨va_cnB n hts (wsL_goodIn0 hco) rfl hrc.1 hrc.2 (X.2.2.2.2.2.1.2 _ hw) (hts _ hini) hdc hR, hts _ hst, trivial⟩ ⟨KP.blind, fun U hU hW => ⟨rfl, by rw [hU]; exact hP, WK.warm hW X.2.2.2.2.2.1⟩⟩ rfl hn hl.1 rfl (lv_room hro) hd ⟨hcs.1, hcs.2⟩) hS (fun q _ h => X.2.2.2.2.2.2.2 q h) (fun q h => X.2.2.2.2.2.2.2 q h) (fun z u t H1 locs1 ht hvm hw2 hB hz1 hk1 hS1 => kk z u hw2 H1 locs1 ls hl (by rw [← ht]; exact hB) hS1)
theorem v_callNv (X : RC p s m args c cc nL own g A) {index n maxL : Nat} {y : MethodName} {bytes : ByteArray} {ret : Option FieldType} {rm : Room} {As st1 : List Value} {q : Mem → Prop} (hMet : Met l y (Cond.code y bytes maxL ret :: wsL_law) rm (KP g As μ) (KQv g q) 0 0 (AA g)) (hco : (Cond.code y bytes maxL ret) ∈ wsL_law) (hw : (Cond.methodLinkNest own index y RX5) ∈ nestW) (hst : (Cond.static y) ∈ wsL_law) (hini : (Cond.initialized y.cls) ∈ wsL_law) (hrc : rm.cells = 0 ∧ rm.slots = 0) (hdc : y.cls ≠ "java/lang/invoke/MethodHandle" ∧ y.cls ≠ "java/lang/invoke/VarHandle" ∧ (parseMethodDescriptor y.desc).map (fun d => d.parameters.length) = some n) (hR : rm.frames + 1 ≤ R.frames ∧ 8 + (maxL + 11) + rm.locals ≤ R.locals) (hcs : cells ≤ R.cells ∧ slots ≤ R.slots) (hn : As.length = n) (hst1 : st1 = As.reverse ++ st) (hro : (st.map fun v => v.category).sum ≤ 8) (hd : decode cc pc = .ok (.invokestatic index, 3)) (kk : ∀ μ1 : Mem, q μ1 → V p l e R s m args below meth c nL g A cells slots Q μ1 (pc + 3) lv (st)) : V p l e R s m args below meth c nL g A cells slots Q μ (pc) lv (st1) := by
  subst hst1
  intro H locs ls hl hP hS
  have hts := X.2.2.2.2.1
  exact va_callv (va_runSN (As := As) (rest := st) ⟨X.1, X.2.1, X.2.2.1, X.2.2.2.1, hts⟩ hMet ⟨va_cnB n hts (wsL_goodIn0 hco) rfl hrc.1 hrc.2 (X.2.2.2.2.2.1.2 _ hw) (hts _ hini) hdc hR, hts _ hst, trivial⟩ ⟨KP.blind, fun U hU hW => ⟨rfl, by rw [hU]; exact hP, WK.warm hW X.2.2.2.2.2.1⟩⟩ rfl hn hl.1 rfl (lv_room hro) hd ⟨hcs.1, hcs.2⟩) hS (fun q _ h => X.2.2.2.2.2.2.2 q h) (fun q h => X.2.2.2.2.2.2.2 q h) (fun u t H1 locs1 ht hvm hw2 hB hz1 hk1 hS1 => kk u hw2 H1 locs1 ls hl (by rw [← ht]; exact hB) hS1)
end VV
section VR
variable {p : Program} {l : Launch} {e : Env} {R : Room} {s : State} {m : MethodId} {args : Array Value} {below : List Frame} {meth : Method} {c : Code} {cells slots : Nat}
variable {cc : ByteArray} {nL : Nat} {own : String} {g : GG} {μ : Mem} {pc : Nat} {lv : List (Nat × Value)}
theorem v_iret (X : RC p s m args c cc nL own g (AA g)) (hr : meth.sig.returnType = some .int) (hlocks : meth.locks = false) {q : Int32 → Mem → Prop} {x : Int32} (h : q x μ) (hd : decode cc pc = .ok (.ireturn, 1)) : V p l e R s m args below meth c nL g (AA g) cells slots (MQ below (KQi g q) args s cells slots (AA g)) μ pc lv [.int x] := fun H locs ls hl hP hS => W.iret X.1 X.2.1 hr (fun t ht hW => ⟨⟨x, μ, rfl, h, by subst ht; exact hP⟩, hS.F ht⟩) hS.2.2 hd hlocks
theorem v_zret (X : RC p s m args c cc nL own g (AA g)) (hr : meth.sig.returnType = some .boolean) (hlocks : meth.locks = false) {q : Int32 → Mem → Prop} {x : Int32} (h : nz x ∧ q x μ) (hd : decode cc pc = .ok (.ireturn, 1)) : V p l e R s m args below meth c nL g (AA g) cells slots (MQ below (KQi g q) args s cells slots (AA g)) μ pc lv [.int x] := fun H locs ls hl hP hS => W.zret (ty := .boolean) X.1 X.2.1 hr (nz_nar h.1) (fun t ht hW => ⟨⟨x, μ, rfl, h.2, by subst ht; exact hP⟩, hS.F ht⟩) hS.2.2 hd hlocks
theorem v_vret (X : RC p s m args c cc nL own g (AA g)) (hr : meth.sig.returnType = none) (hlocks : meth.locks = false) {q : Mem → Prop} (h : q μ) (hd : decode cc pc = .ok (.return_, 1)) : V p l e R s m args below meth c nL g (AA g) cells slots (MQ below (KQv g q) args s cells slots (AA g)) μ pc lv [] := fun H locs ls hl hP hS => W.vret X.1 X.2.1 hr (fun t ht hW => ⟨⟨μ, rfl, h, by subst ht; exact hP⟩, hS.F ht⟩) hS.2.2 hd hlocks
end VR
/-- a contract out of a walk -/
theorem met_V {l : Launch} {y : MethodName} {own : String} {rm : Room} {g : GG} {av : List Value} {μ : Mem} {Qc : Array Value → State → Outcome → State → Prop} {cc : ByteArray} {maxL : Nat} {ret : Option FieldType} {lv : List (Nat × Value)} (hI : Inj g) (hy : plainName y.cls = true) (hyc : y.cls = own) (hle : (lg_sl av).length ≤ maxL) (hlv : lv_args 0 av = lv)
    (body : ∀ (p : Program) (e : Env) (s : State) (m : MethodId) (args : Array Value) (below : List Frame) (meth : Method) (c : Code), RC p s m args c cc maxL own g (AA g) → meth.sig.returnType = ret → meth.locks = false → V p l e rm s m args below meth c maxL g (AA g) 0 0 (MQ below Qc args s 0 0 (AA g)) μ 0 lv []) : Met l y (Cond.code y cc maxL ret :: wsL_law) rm (KP g av μ) Qc 0 0 (AA g) := by
  refine Met.ofW (cc := cc) (maxL := maxL) (ret := ret) hy rfl ?_
  intro p e s m args below meth c s₁ B hml hv
  obtain ⟨rfl, hP, hK⟩ := hv
  have hts := atoms_spec (ws := Cond.code y cc maxL ret :: wsL_law) B.pre
  have hown : s.vm.findClass own = some m.cls := by rw [← hyc]; exact findClass_of_methodNamed B.named
  have hl := lv_entry av (n := maxL) hle
  rw [lg_entry_eq]
  rw [hlv] at hl
  exact body p e s m _ below meth c ⟨B.exec, B.bytes, hml, hown, fun w hw => hts w (List.mem_cons_of_mem _ hw), hK, hI, fun _ h => h⟩ B.returns B.notSynchronized s.heap [] _ hl hP va_S.rf
