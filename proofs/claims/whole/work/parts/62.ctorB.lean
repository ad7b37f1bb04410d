theorem W_kd {p : Program} {l : Launch} {e : Env} {R : Room} {s : State} {m : MethodId} {args : Array Value} {below : List Frame} {meth : Method} {c : Code} {H : Heap} {locs : List Loc} {cells slots : Nat} {Q : State → Prop} {ls : Array Slot} {rest : List Value} {a kd : Int32} (hx : p.tables.exec = Jvm.exec) (hb : c.code = cX3_init) (hk : (nI 3 ≤ a → kd = nI 2) ∧ (¬ nI 3 ≤ a → kd = 1)) (kk : W p l e R s m args below meth c H locs cells slots Q (F0 m 97 ls (.int kd :: rest))) : W p l e R s m args below meth c H locs cells slots Q (F0 m 89 ls (.int (nI 3) :: .int a :: rest)) := by
  refine lv_icmp_ge (tgt := 96) hx hb dX3_init_89 rfl (fun q => ?_) (fun q => ?_)
  · refine lv_iconst hx hb dX3_init_96 (show _ = (nI 2 : Int32) by decide +kernel) ?_
    have ek := hk.1 q
    subst ek
    exact kk
  · refine lv_iconst hx hb dX3_init_92 (show _ = (1 : Int32) by decide +kernel) ?_
    refine lv_goto (tgt := 97) hx hb dX3_init_93 rfl ?_
    have ek := hk.2 q
    subst ek
    exact kk
def WX3 (cI cZ cB cN : ClassId) (a kd : Int32) (f : Nat → Nat) : va_W := [((f 0), .inr (3, [.int kd, .int (a + 1), .int (nI 3), .int 0, .int 0, .int 0, .int 0, .int 0, .int 0, .int 0, .int 0, .int 0, .int 0, .int 0, .ref (f 1), .ref (f 3)])), ((f 1), .inr (1, [.int 0, .int 0, .int (-6), .int 0, .int 0, .int 0, .ref (f 2)])), ((f 2), .inl (cI, 6, .inl (fun _ => 0))), ((f 3), .inr (1, [.int 0, .int 0, .int (-6), .int 0, .int 0, .int 0, .ref (f 4)])), ((f 4), .inl (cI, 6, .inl (fun _ => 0)))]
set_option maxHeartbeats 8000000 in
set_option maxRecDepth 100000 in
theorem c_X3_init (l : Launch) (D : va_G) (cI cZ cB cN : ClassId) (h0 sz : Nat) (a kd : Int32) (hk : (nI 3 ≤ a → kd = nI 2) ∧ (¬ nI 3 ≤ a → kd = 1)) : Met l yX3_init (Cond.code yX3_init cX3_init 2 none :: wsL_law) ({ frames := 2, cells := 4, slots := 26, locals := 32 } : Room) (CP D cI cZ cB cN [.ref h0, .int a] sz [(h0, .inr (3, [.int 0, .int 0, .int 0, .int 0, .int 0, .int 0, .int 0, .int 0, .int 0, .int 0, .int 0, .int 0, .int 0, .int 0, .null, .null]))]) (CQ D h0 sz [(h0, .inr (3, [.int 0, .int 0, .int 0, .int 0, .int 0, .int 0, .int 0, .int 0, .int 0, .int 0, .int 0, .int 0, .int 0, .int 0, .null, .null]))] (WX3 cI cZ cB cN a kd )) 4 26 (va_A [(h0, .inr (3, [.int 0, .int 0, .int 0, .int 0, .int 0, .int 0, .int 0, .int 0, .int 0, .int 0, .int 0, .int 0, .int 0, .int 0, .null, .null]))] sz) := by
  refine Met.ofW (cc := cX3_init) (maxL := 2) (ret := none) (by decide) rfl ?_
  intro p e s m args below meth c s₁ B hml hv
  obtain ⟨rfl, hsz, hP, hCK⟩ := hv
  have hx := B.exec
  have hb := B.bytes
  have hr := B.returns
  have hts0 := atoms_spec (ws := Cond.code yX3_init cX3_init 2 none :: wsL_law) B.pre
  have hts : ∀ w ∈ wsL_law, w.before _ s = true := fun w hw => hts0 w (List.mem_cons_of_mem _ hw)
  have hown : s.vm.findClass RX3 = some m.cls := findClass_of_methodNamed B.named
  have hlocks := B.notSynchronized
  have hin : meth.name = "<init>" := (name_of_methodNamed B.named B.method).1
  have hK := hCK.1
  subst hsz
  have hD := D_one h0 s.heap.size (.inr (3, [.int 0, .int 0, .int 0, .int 0, .int 0, .int 0, .int 0, .int 0, .int 0, .int 0, .int 0, .int 0, .int 0, .int 0, .null, .null]))
  unfold CQ
  generalize hAe : va_A [(h0, .inr (3, [.int 0, .int 0, .int 0, .int 0, .int 0, .int 0, .int 0, .int 0, .int 0, .int 0, .int 0, .int 0, .int 0, .int 0, .null, .null]))] s.heap.size = A at hD ⊢
  have hA : ∀ q : Nat, s.heap.size ≤ q → A q := fun q h => by rw [← hAe]; exact Or.inr h
  have hS : va_S A s.heap s.heap [] := va_S.rf
  have hl := lv_entry ([.ref h0, .int a]) (n := 2) (Nat.le_of_ble_eq_true rfl)
  rw [lg_entry_eq]
  generalize (lg_sl ([.ref h0, .int a]) ++ List.replicate (2 - (lg_sl ([.ref h0, .int a])).length) Slot.unset).toArray = ls at hl ⊢
  have hl : lv_has ls 2 [(0, .ref h0), (1, .int a)] := hl
  have hP : va_P D vwCl [(h0, .inr (3, [.int 0, .int 0, .int 0, .int 0, .int 0, .int 0, .int 0, .int 0, .int 0, .int 0, .int 0, .int 0, .int 0, .int 0, .null, .null]))] s.heap := hP
  refine lv_aload_n hx hb dX3_init_0 rfl (lv_at hl 0 rfl) ?_
  refine W.objInit hx hb hown (hts _ wd_57) (hts _ wd_10) (hts _ wd_11) rfl (by rw [hml]; exact hl.1) rfl dX3_init_1 (Nat.le_of_ble_eq_true rfl) (Nat.le_of_ble_eq_true rfl) ?_
  refine W.eq (g2 := F0 m 4 ls []) rfl ?_
  refine lv_aload_n hx hb dX3_init_4 rfl (lv_at hl 0 rfl) ?_
  refine lv_iconst hx hb dX3_init_5 (show _ = ((nI 3) : Int32) by decide +kernel) ?_
  refine va_put (D := D) (ci := 3) (C := RX3) (T := TX3) (N := 16) (v := .int (nI 3)) hx hb hts inlX3 tyX3 tyX3_ok nmX3 hown hK hP hD hS 0 rfl rfl 2 (by decide) (hts _ wd_58) (fun _ h9 => h9) rfl (tyX3_ok 2 (by decide)) rfl rfl (Nat.le_of_ble_eq_true rfl) dX3_init_6 (fun H locs hP hD hS => ?_)
  have hP : va_P D vwCl ([(h0, .inr (3, [.int 0, .int 0, .int (nI 3), .int 0, .int 0, .int 0, .int 0, .int 0, .int 0, .int 0, .int 0, .int 0, .int 0, .int 0, .null, .null]))]) H := hP
  have hD : va_D A ([(h0, .inr (3, [.int 0, .int 0, .int (nI 3), .int 0, .int 0, .int 0, .int 0, .int 0, .int 0, .int 0, .int 0, .int 0, .int 0, .int 0, .null, .null]))]) := hD
  refine lv_aload_n hx hb dX3_init_9 rfl (lv_at hl 0 rfl) ?_
  refine lv_iconst hx hb dX3_init_10 (show _ = (0 : Int32) by decide +kernel) ?_
  refine va_put (D := D) (ci := 3) (C := RX3) (T := TX3) (N := 16) (v := .int 0) hx hb hts inlX3 tyX3 tyX3_ok nmX3 hown hK hP hD hS 0 rfl rfl 3 (by decide) (hts _ wd_59) (fun _ h9 => h9) rfl (tyX3_ok 3 (by decide)) rfl rfl (Nat.le_of_ble_eq_true rfl) dX3_init_11 (fun H locs hP hD hS => ?_)
  have hP : va_P D vwCl ([(h0, .inr (3, [.int 0, .int 0, .int (nI 3), .int 0, .int 0, .int 0, .int 0, .int 0, .int 0, .int 0, .int 0, .int 0, .int 0, .int 0, .null, .null]))]) H := hP
  have hD : va_D A ([(h0, .inr (3, [.int 0, .int 0, .int (nI 3), .int 0, .int 0, .int 0, .int 0, .int 0, .int 0, .int 0, .int 0, .int 0, .int 0, .int 0, .null, .null]))]) := hD
  refine lv_aload_n hx hb dX3_init_14 rfl (lv_at hl 0 rfl) ?_
  refine lv_iconst hx hb dX3_init_15 (show _ = (0 : Int32) by decide +kernel) ?_
  refine va_put (D := D) (ci := 3) (C := RX3) (T := TX3) (N := 16) (v := .int 0) hx hb hts inlX3 tyX3 tyX3_ok nmX3 hown hK hP hD hS 0 rfl rfl 4 (by decide) (hts _ wd_60) (fun _ h9 => h9) rfl (tyX3_ok 4 (by decide)) rfl rfl (Nat.le_of_ble_eq_true rfl) dX3_init_16 (fun H locs hP hD hS => ?_)
  have hP : va_P D vwCl ([(h0, .inr (3, [.int 0, .int 0, .int (nI 3), .int 0, .int 0, .int 0, .int 0, .int 0, .int 0, .int 0, .int 0, .int 0, .int 0, .int 0, .null, .null]))]) H := hP
  have hD : va_D A ([(h0, .inr (3, [.int 0, .int 0, .int (nI 3), .int 0, .int 0, .int 0, .int 0, .int 0, .int 0, .int 0, .int 0, .int 0, .int 0, .int 0, .null, .null]))]) := hD
  refine lv_aload_n hx hb dX3_init_19 rfl (lv_at hl 0 rfl) ?_
  refine lv_iconst hx hb dX3_init_20 (show _ = (0 : Int32) by decide +kernel) ?_
  refine va_put (D := D) (ci := 3) (C := RX3) (T := TX3) (N := 16) (v := .int 0) hx hb hts inlX3 tyX3 tyX3_ok nmX3 hown hK hP hD hS 0 rfl rfl 5 (by decide) (hts _ wd_61) (fun _ h9 => h9) rfl (tyX3_ok 5 (by decide)) rfl rfl (Nat.le_of_ble_eq_true rfl) dX3_init_21 (fun H locs hP hD hS => ?_)
  have hP : va_P D vwCl ([(h0, .inr (3, [.int 0, .int 0, .int (nI 3), .int 0, .int 0, .int 0, .int 0, .int 0, .int 0, .int 0, .int 0, .int 0, .int 0, .int 0, .null, .null]))]) H := hP
  have hD : va_D A ([(h0, .inr (3, [.int 0, .int 0, .int (nI 3), .int 0, .int 0, .int 0, .int 0, .int 0, .int 0, .int 0, .int 0, .int 0, .int 0, .int 0, .null, .null]))]) := hD
  refine lv_aload_n hx hb dX3_init_24 rfl (lv_at hl 0 rfl) ?_
  refine lv_iconst hx hb dX3_init_25 (show _ = (0 : Int32) by decide +kernel) ?_
  refine va_put (D := D) (ci := 3) (C := RX3) (T := TX3) (N := 16) (v := .int 0) hx hb hts inlX3 tyX3 tyX3_ok nmX3 hown hK hP hD hS 0 rfl rfl 6 (by decide) (hts _ wd_62) (fun _ h9 => h9) rfl (tyX3_ok 6 (by decide)) rfl rfl (Nat.le_of_ble_eq_true rfl) dX3_init_26 (fun H locs hP hD hS => ?_)
  have hP : va_P D vwCl ([(h0, .inr (3, [.int 0, .int 0, .int (nI 3), .int 0, .int 0, .int 0, .int 0, .int 0, .int 0, .int 0, .int 0, .int 0, .int 0, .int 0, .null, .null]))]) H := hP
  have hD : va_D A ([(h0, .inr (3, [.int 0, .int 0, .int (nI 3), .int 0, .int 0, .int 0, .int 0, .int 0, .int 0, .int 0, .int 0, .int 0, .int 0, .int 0, .null, .null]))]) := hD
  refine lv_aload_n hx hb dX3_init_29 rfl (lv_at hl 0 rfl) ?_
  refine lv_iconst hx hb dX3_init_30 (show _ = (0 : Int32) by decide +kernel) ?_
  refine va_put (D := D) (ci := 3) (C := RX3) (T := TX3) (N := 16) (v := .int 0) hx hb hts inlX3 tyX3 tyX3_ok nmX3 hown hK hP hD hS 0 rfl rfl 7 (by decide) (hts _ wd_63) (fun _ h9 => h9) rfl (tyX3_ok 7 (by decide)) rfl rfl (Nat.le_of_ble_eq_true rfl) dX3_init_31 (fun H locs hP hD hS => ?_)
  have hP : va_P D vwCl ([(h0, .inr (3, [.int 0, .int 0, .int (nI 3), .int 0, .int 0, .int 0, .int 0, .int 0, .int 0, .int 0, .int 0, .int 0, .int 0, .int 0, .null, .null]))]) H := hP
  have hD : va_D A ([(h0, .inr (3, [.int 0, .int 0, .int (nI 3), .int 0, .int 0, .int 0, .int 0, .int 0, .int 0, .int 0, .int 0, .int 0, .int 0, .int 0, .null, .null]))]) := hD
  refine lv_aload_n hx hb dX3_init_34 rfl (lv_at hl 0 rfl) ?_
  refine lv_iconst hx hb dX3_init_35 (show _ = (0 : Int32) by decide +kernel) ?_
  refine va_put (D := D) (ci := 3) (C := RX3) (T := TX3) (N := 16) (v := .int 0) hx hb hts inlX3 tyX3 tyX3_ok nmX3 hown hK hP hD hS 0 rfl rfl 8 (by decide) (hts _ wd_64) (fun _ h9 => h9) rfl (tyX3_ok 8 (by decide)) rfl rfl (Nat.le_of_ble_eq_true rfl) dX3_init_36 (fun H locs hP hD hS => ?_)
  have hP : va_P D vwCl ([(h0, .inr (3, [.int 0, .int 0, .int (nI 3), .int 0, .int 0, .int 0, .int 0, .int 0, .int 0, .int 0, .int 0, .int 0, .int 0, .int 0, .null, .null]))]) H := hP
  have hD : va_D A ([(h0, .inr (3, [.int 0, .int 0, .int (nI 3), .int 0, .int 0, .int 0, .int 0, .int 0, .int 0, .int 0, .int 0, .int 0, .int 0, .int 0, .null, .null]))]) := hD
  refine lv_aload_n hx hb dX3_init_39 rfl (lv_at hl 0 rfl) ?_
  refine lv_iconst hx hb dX3_init_40 (show _ = (0 : Int32) by decide +kernel) ?_
  refine va_put (D := D) (ci := 3) (C := RX3) (T := TX3) (N := 16) (v := .int 0) hx hb hts inlX3 tyX3 tyX3_ok nmX3 hown hK hP hD hS 0 rfl rfl 9 (by decide) (hts _ wd_65) (fun _ h9 => h9) rfl (tyX3_ok 9 (by decide)) rfl rfl (Nat.le_of_ble_eq_true rfl) dX3_init_41 (fun H locs hP hD hS => ?_)
  have hP : va_P D vwCl ([(h0, .inr (3, [.int 0, .int 0, .int (nI 3), .int 0, .int 0, .int 0, .int 0, .int 0, .int 0, .int 0, .int 0, .int 0, .int 0, .int 0, .null, .null]))]) H := hP
  have hD : va_D A ([(h0, .inr (3, [.int 0, .int 0, .int (nI 3), .int 0, .int 0, .int 0, .int 0, .int 0, .int 0, .int 0, .int 0, .int 0, .int 0, .int 0, .null, .null]))]) := hD
  refine lv_aload_n hx hb dX3_init_44 rfl (lv_at hl 0 rfl) ?_
  refine lv_iconst hx hb dX3_init_45 (show _ = (0 : Int32) by decide +kernel) ?_
  refine va_put (D := D) (ci := 3) (C := RX3) (T := TX3) (N := 16) (v := .int 0) hx hb hts inlX3 tyX3 tyX3_ok nmX3 hown hK hP hD hS 0 rfl rfl 10 (by decide) (hts _ wd_66) (fun _ h9 => h9) rfl (tyX3_ok 10 (by decide)) rfl rfl (Nat.le_of_ble_eq_true rfl) dX3_init_46 (fun H locs hP hD hS => ?_)
  have hP : va_P D vwCl ([(h0, .inr (3, [.int 0, .int 0, .int (nI 3), .int 0, .int 0, .int 0, .int 0, .int 0, .int 0, .int 0, .int 0, .int 0, .int 0, .int 0, .null, .null]))]) H := hP
  have hD : va_D A ([(h0, .inr (3, [.int 0, .int 0, .int (nI 3), .int 0, .int 0, .int 0, .int 0, .int 0, .int 0, .int 0, .int 0, .int 0, .int 0, .int 0, .null, .null]))]) := hD
  refine lv_aload_n hx hb dX3_init_49 rfl (lv_at hl 0 rfl) ?_
  refine lv_iconst hx hb dX3_init_50 (show _ = (0 : Int32) by decide +kernel) ?_
  refine va_put (D := D) (ci := 3) (C := RX3) (T := TX3) (N := 16) (v := .int 0) hx hb hts inlX3 tyX3 tyX3_ok nmX3 hown hK hP hD hS 0 rfl rfl 11 (by decide) (hts _ wd_67) (fun _ h9 => h9) rfl (tyX3_ok 11 (by decide)) rfl rfl (Nat.le_of_ble_eq_true rfl) dX3_init_51 (fun H locs hP hD hS => ?_)
  have hP : va_P D vwCl ([(h0, .inr (3, [.int 0, .int 0, .int (nI 3), .int 0, .int 0, .int 0, .int 0, .int 0, .int 0, .int 0, .int 0, .int 0, .int 0, .int 0, .null, .null]))]) H := hP
  have hD : va_D A ([(h0, .inr (3, [.int 0, .int 0, .int (nI 3), .int 0, .int 0, .int 0, .int 0, .int 0, .int 0, .int 0, .int 0, .int 0, .int 0, .int 0, .null, .null]))]) := hD
  refine lv_aload_n hx hb dX3_init_54 rfl (lv_at hl 0 rfl) ?_
  refine lv_iconst hx hb dX3_init_55 (show _ = (0 : Int32) by decide +kernel) ?_
  refine va_put (D := D) (ci := 3) (C := RX3) (T := TX3) (N := 16) (v := .int 0) hx hb hts inlX3 tyX3 tyX3_ok nmX3 hown hK hP hD hS 0 rfl rfl 12 (by decide) (hts _ wd_68) (fun _ h9 => h9) rfl (tyX3_ok 12 (by decide)) rfl rfl (Nat.le_of_ble_eq_true rfl) dX3_init_56 (fun H locs hP hD hS => ?_)
  have hP : va_P D vwCl ([(h0, .inr (3, [.int 0, .int 0, .int (nI 3), .int 0, .int 0, .int 0, .int 0, .int 0, .int 0, .int 0, .int 0, .int 0, .int 0, .int 0, .null, .null]))]) H := hP
  have hD : va_D A ([(h0, .inr (3, [.int 0, .int 0, .int (nI 3), .int 0, .int 0, .int 0, .int 0, .int 0, .int 0, .int 0, .int 0, .int 0, .int 0, .int 0, .null, .null]))]) := hD
  refine lv_aload_n hx hb dX3_init_59 rfl (lv_at hl 0 rfl) ?_
  refine lv_iconst hx hb dX3_init_60 (show _ = (0 : Int32) by decide +kernel) ?_
  refine va_put (D := D) (ci := 3) (C := RX3) (T := TX3) (N := 16) (v := .int 0) hx hb hts inlX3 tyX3 tyX3_ok nmX3 hown hK hP hD hS 0 rfl rfl 13 (by decide) (hts _ wd_69) (fun _ h9 => h9) rfl (tyX3_ok 13 (by decide)) rfl rfl (Nat.le_of_ble_eq_true rfl) dX3_init_61 (fun H locs hP hD hS => ?_)
  have hP : va_P D vwCl ([(h0, .inr (3, [.int 0, .int 0, .int (nI 3), .int 0, .int 0, .int 0, .int 0, .int 0, .int 0, .int 0, .int 0, .int 0, .int 0, .int 0, .null, .null]))]) H := hP
  have hD : va_D A ([(h0, .inr (3, [.int 0, .int 0, .int (nI 3), .int 0, .int 0, .int 0, .int 0, .int 0, .int 0, .int 0, .int 0, .int 0, .int 0, .int 0, .null, .null]))]) := hD
  refine lv_aload_n hx hb dX3_init_64 rfl (lv_at hl 0 rfl) ?_
  refine va_new (ci := 1) (fs := [.int 0, .int 0, .int 0, .int 0, .int 0, .int 0, .null]) (C := RX1) (T := TX1) (N := 7) hx hb hts inlX1 tyX1 tyX1_ok hown (hts _ wd_70) (hts _ wd_71) (hts _ wd_72) hK hP hD hS hA rfl dfX1 (Nat.le_of_ble_eq_true rfl) (Nat.le_of_ble_eq_true rfl) dX3_init_65 (fun q1 H hP hD hS => ?_)
  have hP : va_P D vwCl ([(h0, .inr (3, [.int 0, .int 0, .int (nI 3), .int 0, .int 0, .int 0, .int 0, .int 0, .int 0, .int 0, .int 0, .int 0, .int 0, .int 0, .null, .null])), (q1, .inr (1, [.int 0, .int 0, .int 0, .int 0, .int 0, .int 0, .null]))]) H := hP
  have hD : va_D A ([(h0, .inr (3, [.int 0, .int 0, .int (nI 3), .int 0, .int 0, .int 0, .int 0, .int 0, .int 0, .int 0, .int 0, .int 0, .int 0, .int 0, .null, .null])), (q1, .inr (1, [.int 0, .int 0, .int 0, .int 0, .int 0, .int 0, .null]))]) := hD
  refine W.widen (k := 1) (n := 7) (Nat.le_of_ble_eq_true rfl) (Nat.le_of_ble_eq_true rfl) ?_
  refine lv_dup hx hb dX3_init_68 rfl ?_
  have hPc := hP.sub (ws' := [(q1, .inr (1, [.int 0, .int 0, .int 0, .int 0, .int 0, .int 0, .null]))]) [1] rfl
  have hFc := va_free (wc := [(q1, .inr (1, [.int 0, .int 0, .int 0, .int 0, .int 0, .int 0, .null]))]) hD hS hA [1] rfl
  refine va_callv (va_runIN (As := []) (rest := [.ref q1, .ref h0]) ⟨hx, hb, hml, hown, hts⟩ (c_X1_init l D cI cZ cB cN q1 H.size) ⟨va_cnB 0 hts (wsL_goodIn0 wd_78) rfl rfl rfl hCK.2.2.2.2.2.1 (hts _ wd_72) hdc_X1_init ⟨(Nat.le_of_ble_eq_true rfl), (Nat.le_of_ble_eq_true rfl)⟩, rfl, hts _ wd_77⟩ ⟨CP.blind, fun U hU hW => ⟨rfl, by rw [hU], by rw [hU]; exact hPc, CK.warm hW hCK⟩⟩ rfl rfl hl.1 rfl (lv_room (Nat.le_of_ble_eq_true rfl)) dX3_init_69 ⟨(Nat.le_of_ble_eq_true rfl), (Nat.le_of_ble_eq_true rfl)⟩) hS (fun q _ h => hFc q h) hFc (fun u t H1 locs ht hvm hw hB hz1 hk1 hS => ?_)
  obtain ⟨f1, e1, hP1, hD1⟩ := hB
  rw [ht] at hP1
  subst e1
  obtain ⟨hP, hD⟩ := va_join (wr := [(h0, .inr (3, [.int 0, .int 0, .int (nI 3), .int 0, .int 0, .int 0, .int 0, .int 0, .int 0, .int 0, .int 0, .int 0, .int 0, .int 0, .null, .null]))]) (w1 := WX1 cI cZ cB cN f1) hP hD [1] [0] rfl rfl (by decide) (by decide) hk1 hFc hP1 hD1
  clear hFc hPc hk1 hz1 hP1 hD1 ht hvm
  generalize H1 = H at hP hS ⊢
  have hP : va_P D vwCl ([(h0, .inr (3, [.int 0, .int 0, .int (nI 3), .int 0, .int 0, .int 0, .int 0, .int 0, .int 0, .int 0, .int 0, .int 0, .int 0, .int 0, .null, .null])), ((f1 0), .inr (1, [.int 0, .int 0, .int (-6), .int 0, .int 0, .int 0, .ref (f1 1)])), ((f1 1), .inl (cI, 6, .inl (fun _ => 0)))]) H := hP
  have hD : va_D A ([(h0, .inr (3, [.int 0, .int 0, .int (nI 3), .int 0, .int 0, .int 0, .int 0, .int 0, .int 0, .int 0, .int 0, .int 0, .int 0, .int 0, .null, .null])), ((f1 0), .inr (1, [.int 0, .int 0, .int (-6), .int 0, .int 0, .int 0, .ref (f1 1)])), ((f1 1), .inl (cI, 6, .inl (fun _ => 0)))]) := hD
  refine W.widen (k := 2) (n := 13) (Nat.le_of_ble_eq_true rfl) (Nat.le_of_ble_eq_true rfl) ?_
  refine va_put (D := D) (ci := 3) (C := RX3) (T := TX3) (N := 16) (v := .ref (f1 0)) hx hb hts inlX3 tyX3 tyX3_ok nmX3 hown hK hP hD hS 0 rfl rfl 14 (by decide) (hts _ wd_73) (fun _ h9 => h9) rfl (tyX3_ok 14 (by decide)) rfl rfl (Nat.le_of_ble_eq_true rfl) dX3_init_72 (fun H locs hP hD hS => ?_)
  have hP : va_P D vwCl ([(h0, .inr (3, [.int 0, .int 0, .int (nI 3), .int 0, .int 0, .int 0, .int 0, .int 0, .int 0, .int 0, .int 0, .int 0, .int 0, .int 0, .ref (f1 0), .null])), ((f1 0), .inr (1, [.int 0, .int 0, .int (-6), .int 0, .int 0, .int 0, .ref (f1 1)])), ((f1 1), .inl (cI, 6, .inl (fun _ => 0)))]) H := hP
  have hD : va_D A ([(h0, .inr (3, [.int 0, .int 0, .int (nI 3), .int 0, .int 0, .int 0, .int 0, .int 0, .int 0, .int 0, .int 0, .int 0, .int 0, .int 0, .ref (f1 0), .null])), ((f1 0), .inr (1, [.int 0, .int 0, .int (-6), .int 0, .int 0, .int 0, .ref (f1 1)])), ((f1 1), .inl (cI, 6, .inl (fun _ => 0)))]) := hD
  refine lv_aload_n hx hb dX3_init_75 rfl (lv_at hl 0 rfl) ?_
  refine va_new (ci := 1) (fs := [.int 0, .int 0, .int 0, .int 0, .int 0, .int 0, .null]) (C := RX1) (T := TX1) (N := 7) hx hb hts inlX1 tyX1 tyX1_ok hown (hts _ wd_70) (hts _ wd_71) (hts _ wd_72) hK hP hD hS hA rfl dfX1 (Nat.le_of_ble_eq_true rfl) (Nat.le_of_ble_eq_true rfl) dX3_init_76 (fun q2 H hP hD hS => ?_)
  have hP : va_P D vwCl ([(h0, .inr (3, [.int 0, .int 0, .int (nI 3), .int 0, .int 0, .int 0, .int 0, .int 0, .int 0, .int 0, .int 0, .int 0, .int 0, .int 0, .ref (f1 0), .null])), ((f1 0), .inr (1, [.int 0, .int 0, .int (-6), .int 0, .int 0, .int 0, .ref (f1 1)])), ((f1 1), .inl (cI, 6, .inl (fun _ => 0))), (q2, .inr (1, [.int 0, .int 0, .int 0, .int 0, .int 0, .int 0, .null]))]) H := hP
  have hD : va_D A ([(h0, .inr (3, [.int 0, .int 0, .int (nI 3), .int 0, .int 0, .int 0, .int 0, .int 0, .int 0, .int 0, .int 0, .int 0, .int 0, .int 0, .ref (f1 0), .null])), ((f1 0), .inr (1, [.int 0, .int 0, .int (-6), .int 0, .int 0, .int 0, .ref (f1 1)])), ((f1 1), .inl (cI, 6, .inl (fun _ => 0))), (q2, .inr (1, [.int 0, .int 0, .int 0, .int 0, .int 0, .int 0, .null]))]) := hD
  refine W.widen (k := 3) (n := 20) (Nat.le_of_ble_eq_true rfl) (Nat.le_of_ble_eq_true rfl) ?_
  refine lv_dup hx hb dX3_init_79 rfl ?_
  have hPc := hP.sub (ws' := [(q2, .inr (1, [.int 0, .int 0, .int 0, .int 0, .int 0, .int 0, .null]))]) [3] rfl
  have hFc := va_free (wc := [(q2, .inr (1, [.int 0, .int 0, .int 0, .int 0, .int 0, .int 0, .null]))]) hD hS hA [3] rfl
  refine va_callv (va_runIN (As := []) (rest := [.ref q2, .ref h0]) ⟨hx, hb, hml, hown, hts⟩ (c_X1_init l D cI cZ cB cN q2 H.size) ⟨va_cnB 0 hts (wsL_goodIn0 wd_78) rfl rfl rfl hCK.2.2.2.2.2.1 (hts _ wd_72) hdc_X1_init ⟨(Nat.le_of_ble_eq_true rfl), (Nat.le_of_ble_eq_true rfl)⟩, rfl, hts _ wd_77⟩ ⟨CP.blind, fun U hU hW => ⟨rfl, by rw [hU], by rw [hU]; exact hPc, CK.warm hW hCK⟩⟩ rfl rfl hl.1 rfl (lv_room (Nat.le_of_ble_eq_true rfl)) dX3_init_80 ⟨(Nat.le_of_ble_eq_true rfl), (Nat.le_of_ble_eq_true rfl)⟩) hS (fun q _ h => hFc q h) hFc (fun u t H1 locs ht hvm hw hB hz1 hk1 hS => ?_)
  obtain ⟨f2, e1, hP1, hD1⟩ := hB
  rw [ht] at hP1
  subst e1
  obtain ⟨hP, hD⟩ := va_join (wr := [(h0, .inr (3, [.int 0, .int 0, .int (nI 3), .int 0, .int 0, .int 0, .int 0, .int 0, .int 0, .int 0, .int 0, .int 0, .int 0, .int 0, .ref (f1 0), .null])), ((f1 0), .inr (1, [.int 0, .int 0, .int (-6), .int 0, .int 0, .int 0, .ref (f1 1)])), ((f1 1), .inl (cI, 6, .inl (fun _ => 0)))]) (w1 := WX1 cI cZ cB cN f2) hP hD [3] [0, 1, 2] rfl rfl (by decide) (by decide) hk1 hFc hP1 hD1
  clear hFc hPc hk1 hz1 hP1 hD1 ht hvm
  generalize H1 = H at hP hS ⊢
  have hP : va_P D vwCl ([(h0, .inr (3, [.int 0, .int 0, .int (nI 3), .int 0, .int 0, .int 0, .int 0, .int 0, .int 0, .int 0, .int 0, .int 0, .int 0, .int 0, .ref (f1 0), .null])), ((f1 0), .inr (1, [.int 0, .int 0, .int (-6), .int 0, .int 0, .int 0, .ref (f1 1)])), ((f1 1), .inl (cI, 6, .inl (fun _ => 0))), ((f2 0), .inr (1, [.int 0, .int 0, .int (-6), .int 0, .int 0, .int 0, .ref (f2 1)])), ((f2 1), .inl (cI, 6, .inl (fun _ => 0)))]) H := hP
  have hD : va_D A ([(h0, .inr (3, [.int 0, .int 0, .int (nI 3), .int 0, .int 0, .int 0, .int 0, .int 0, .int 0, .int 0, .int 0, .int 0, .int 0, .int 0, .ref (f1 0), .null])), ((f1 0), .inr (1, [.int 0, .int 0, .int (-6), .int 0, .int 0, .int 0, .ref (f1 1)])), ((f1 1), .inl (cI, 6, .inl (fun _ => 0))), ((f2 0), .inr (1, [.int 0, .int 0, .int (-6), .int 0, .int 0, .int 0, .ref (f2 1)])), ((f2 1), .inl (cI, 6, .inl (fun _ => 0)))]) := hD
  refine W.widen (k := 4) (n := 26) (Nat.le_of_ble_eq_true rfl) (Nat.le_of_ble_eq_true rfl) ?_
  refine va_put (D := D) (ci := 3) (C := RX3) (T := TX3) (N := 16) (v := .ref (f2 0)) hx hb hts inlX3 tyX3 tyX3_ok nmX3 hown hK hP hD hS 0 rfl rfl 15 (by decide) (hts _ wd_74) (fun _ h9 => h9) rfl (tyX3_ok 15 (by decide)) rfl rfl (Nat.le_of_ble_eq_true rfl) dX3_init_83 (fun H locs hP hD hS => ?_)
  have hP : va_P D vwCl ([(h0, .inr (3, [.int 0, .int 0, .int (nI 3), .int 0, .int 0, .int 0, .int 0, .int 0, .int 0, .int 0, .int 0, .int 0, .int 0, .int 0, .ref (f1 0), .ref (f2 0)])), ((f1 0), .inr (1, [.int 0, .int 0, .int (-6), .int 0, .int 0, .int 0, .ref (f1 1)])), ((f1 1), .inl (cI, 6, .inl (fun _ => 0))), ((f2 0), .inr (1, [.int 0, .int 0, .int (-6), .int 0, .int 0, .int 0, .ref (f2 1)])), ((f2 1), .inl (cI, 6, .inl (fun _ => 0)))]) H := hP
  have hD : va_D A ([(h0, .inr (3, [.int 0, .int 0, .int (nI 3), .int 0, .int 0, .int 0, .int 0, .int 0, .int 0, .int 0, .int 0, .int 0, .int 0, .int 0, .ref (f1 0), .ref (f2 0)])), ((f1 0), .inr (1, [.int 0, .int 0, .int (-6), .int 0, .int 0, .int 0, .ref (f1 1)])), ((f1 1), .inl (cI, 6, .inl (fun _ => 0))), ((f2 0), .inr (1, [.int 0, .int 0, .int (-6), .int 0, .int 0, .int 0, .ref (f2 1)])), ((f2 1), .inl (cI, 6, .inl (fun _ => 0)))]) := hD
  refine lv_aload_n hx hb dX3_init_86 rfl (lv_at hl 0 rfl) ?_
  refine lv_iload_n hx hb dX3_init_87 rfl (lv_at hl 1 rfl) ?_
  refine lv_iconst hx hb dX3_init_88 (show _ = ((nI 3) : Int32) by decide +kernel) ?_
  refine W_kd hx hb hk ?_
  refine va_put (D := D) (ci := 3) (C := RX3) (T := TX3) (N := 16) (v := .int kd) hx hb hts inlX3 tyX3 tyX3_ok nmX3 hown hK hP hD hS 0 rfl rfl 0 (by decide) (hts _ wd_75) (fun _ h9 => h9) rfl (tyX3_ok 0 (by decide)) rfl rfl (Nat.le_of_ble_eq_true rfl) dX3_init_97 (fun H locs hP hD hS => ?_)
  have hP : va_P D vwCl ([(h0, .inr (3, [.int kd, .int 0, .int (nI 3), .int 0, .int 0, .int 0, .int 0, .int 0, .int 0, .int 0, .int 0, .int 0, .int 0, .int 0, .ref (f1 0), .ref (f2 0)])), ((f1 0), .inr (1, [.int 0, .int 0, .int (-6), .int 0, .int 0, .int 0, .ref (f1 1)])), ((f1 1), .inl (cI, 6, .inl (fun _ => 0))), ((f2 0), .inr (1, [.int 0, .int 0, .int (-6), .int 0, .int 0, .int 0, .ref (f2 1)])), ((f2 1), .inl (cI, 6, .inl (fun _ => 0)))]) H := hP
  have hD : va_D A ([(h0, .inr (3, [.int kd, .int 0, .int (nI 3), .int 0, .int 0, .int 0, .int 0, .int 0, .int 0, .int 0, .int 0, .int 0, .int 0, .int 0, .ref (f1 0), .ref (f2 0)])), ((f1 0), .inr (1, [.int 0, .int 0, .int (-6), .int 0, .int 0, .int 0, .ref (f1 1)])), ((f1 1), .inl (cI, 6, .inl (fun _ => 0))), ((f2 0), .inr (1, [.int 0, .int 0, .int (-6), .int 0, .int 0, .int 0, .ref (f2 1)])), ((f2 1), .inl (cI, 6, .inl (fun _ => 0)))]) := hD
  refine lv_aload_n hx hb dX3_init_100 rfl (lv_at hl 0 rfl) ?_
  refine lv_iload_n hx hb dX3_init_101 rfl (lv_at hl 1 rfl) ?_
  refine lv_iconst hx hb dX3_init_102 (show _ = (1 : Int32) by decide +kernel) ?_
  refine lv_iadd hx hb dX3_init_103 ?_
  refine va_put (D := D) (ci := 3) (C := RX3) (T := TX3) (N := 16) (v := .int (a + 1)) hx hb hts inlX3 tyX3 tyX3_ok nmX3 hown hK hP hD hS 0 rfl rfl 1 (by decide) (hts _ wd_76) (fun _ h9 => h9) rfl (tyX3_ok 1 (by decide)) rfl rfl (Nat.le_of_ble_eq_true rfl) dX3_init_104 (fun H locs hP hD hS => ?_)
  have hP : va_P D vwCl ([(h0, .inr (3, [.int kd, .int (a + 1), .int (nI 3), .int 0, .int 0, .int 0, .int 0, .int 0, .int 0, .int 0, .int 0, .int 0, .int 0, .int 0, .ref (f1 0), .ref (f2 0)])), ((f1 0), .inr (1, [.int 0, .int 0, .int (-6), .int 0, .int 0, .int 0, .ref (f1 1)])), ((f1 1), .inl (cI, 6, .inl (fun _ => 0))), ((f2 0), .inr (1, [.int 0, .int 0, .int (-6), .int 0, .int 0, .int 0, .ref (f2 1)])), ((f2 1), .inl (cI, 6, .inl (fun _ => 0)))]) H := hP
  have hD : va_D A ([(h0, .inr (3, [.int kd, .int (a + 1), .int (nI 3), .int 0, .int 0, .int 0, .int 0, .int 0, .int 0, .int 0, .int 0, .int 0, .int 0, .int 0, .ref (f1 0), .ref (f2 0)])), ((f1 0), .inr (1, [.int 0, .int 0, .int (-6), .int 0, .int 0, .int 0, .ref (f1 1)])), ((f1 1), .inl (cI, 6, .inl (fun _ => 0))), ((f2 0), .inr (1, [.int 0, .int 0, .int (-6), .int 0, .int 0, .int 0, .ref (f2 1)])), ((f2 1), .inl (cI, 6, .inl (fun _ => 0)))]) := hD
  refine W.vret hx hb hr (fun t ht hW => ⟨⟨(), rfl, trivial, (fun j => [h0, (f1 0), (f1 1), (f2 0), (f2 1)].getD j 0), rfl, ?_, ?_⟩, hS.F ht⟩) hS.2.2 dX3_init_107
  · rw [ht]; exact hP
  · exact hD
