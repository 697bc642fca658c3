def F_X4_sees (fu : Nat) (f_length : Int32) (f_spot : Int32) (f_text : Nat → Int32) (p0 : Int32) (p1 : Int32) : Option (Int32) := if f_length ≤ f_spot then some (0 : Int32) else (zrd f_text 60 f_spot).bind fun v2 => (F_X4_in fu v2 p0 p1).bind fun v3 => if v3 = (0 : Int32) then some (0 : Int32) else some (1 : Int32)
set_option maxHeartbeats 4000000 in
set_option maxRecDepth 100000 in
theorem c_X4_sees (l : Launch) (D : va_G) (cI cC cO cJ : ClassId) (fu : Nat) (a_this a_s a_then a_past a_text a_met a_table a_ways a_waysOf a_into a_orders : Nat) (f_thrown : Int32) (f_saved : Int32) (f_length : Int32) (f_counted : Int32) (f_due : Int32) (f_meets : Int32) (f_isTold : Int32) (f_rests : Int32) (f_leastRest : Int32) (f_mostRest : Int32) (f_isWheel : Int32) (f_ended : Int32) (f_spot : Int32) (f_ordered : Int32) (f_cureAmount : Int32) (f_cureRelay : Int32) (f_cureWhich : Int32) (f_hash : Int64) (f_text : Nat → Int32) (p0 : Int32) (p1 : Int32) (R : Int32) (h : F_X4_sees fu f_length f_spot f_text p0 p1 = some R) : Met l yX4_sees wsX4_sees ({ frames := 1, cells := 0, slots := 0, locals := 22 } : Room) (zPr D (ztys cI cC cO cJ) [(a_this, .inr (4, [.int f_thrown, .ref a_s, .ref a_then, .ref a_past, .int f_saved, .ref a_text, .int f_length, .int f_counted, .int f_due, .ref a_met, .ref a_table, .ref a_ways, .ref a_waysOf, .ref a_into, .int f_meets, .int f_isTold, .int f_rests, .int f_leastRest, .int f_mostRest, .int f_isWheel, .int f_ended, .int f_spot, .ref a_orders, .int f_ordered, .int f_cureAmount, .int f_cureRelay, .int f_cureWhich, .long f_hash])), (a_text, .inl (cC, 60, .inl f_text))] [.ref a_this, .int p0, .int p1]) (zQi R) 0 0 (fun _ => False) := by
  refine Met.ofW (cc := cX4_sees) (maxL := 3) (ret := (some .boolean)) (by decide) rfl ?_
  intro p e s m args below meth c s₁ B hml hv
  obtain ⟨rfl, hP, hK⟩ := hv
  have hx := B.exec
  have hb := B.bytes
  have hr := B.returns
  have hts := atoms_spec (ws := wsX4_sees) B.pre
  have hown : s.vm.findClass RX4 = some m.cls := findClass_of_methodNamed B.named
  have hlocks := B.notSynchronized
  have hinX4 : ∀ w ∈ wsX40, w ∈ wsX4_sees := fun _ h => (List.mem_cons_of_mem _ (List.mem_append_right _ h))
  have hP : va_P D vwCl [(a_this, .inr (4, [.int f_thrown, .ref a_s, .ref a_then, .ref a_past, .int f_saved, .ref a_text, .int f_length, .int f_counted, .int f_due, .ref a_met, .ref a_table, .ref a_ways, .ref a_waysOf, .ref a_into, .int f_meets, .int f_isTold, .int f_rests, .int f_leastRest, .int f_mostRest, .int f_isWheel, .int f_ended, .int f_spot, .ref a_orders, .int f_ordered, .int f_cureAmount, .int f_cureRelay, .int f_cureWhich, .long f_hash])), (a_text, .inl (cC, 60, .inl f_text))] s.heap := hP
  have hK : va_K D vwCl (ztys cI cC cO cJ) s := hK
  have hl := lv_entry ([.ref a_this, .int p0, .int p1]) (n := 3) (Nat.le_of_ble_eq_true rfl)
  rw [lg_entry_eq]
  generalize (lg_sl ([.ref a_this, .int p0, .int p1]) ++ List.replicate (3 - (lg_sl ([.ref a_this, .int p0, .int p1])).length) Slot.unset).toArray = ls at hl ⊢
  have hl : lv_has ls 3 [(0, .ref a_this), (1, .int p0), (2, .int p1)] := hl
  unfold F_X4_sees at h
  refine lv_aload_n hx hb dX4_sees_0 rfl (lv_at hl 0 rfl) ?_
  refine va_get (D := D) (ci := 4) (v := .int f_spot) (C := RX4) (T := TX4) (N := 28) hx hb hts hinX4 hown hK hP 0 rfl rfl 21 (by decide) (hts (Cond.fieldLink RX4 179 "LadderRelaysModel" "spot" "I") (List.mem_of_getElem? (i := 1) rfl)) (fun _ h9 => h9) rfl dX4_sees_1 ?_
  refine lv_aload_n hx hb dX4_sees_4 rfl (lv_at hl 0 rfl) ?_
  refine va_get (D := D) (ci := 4) (v := .int f_length) (C := RX4) (T := TX4) (N := 28) hx hb hts hinX4 hown hK hP 0 rfl rfl 6 (by decide) (hts (Cond.fieldLink RX4 176 "LadderRelaysModel" "length" "I") (List.mem_of_getElem? (i := 2) rfl)) (fun _ h9 => h9) rfl dX4_sees_5 ?_
  refine lv_icmp_ge (tgt := 32) hx hb dX4_sees_8 (by decide) (fun c1 => ?_) (fun c1 => ?_)
  · have h := zif_t c1 h
    refine lv_iconst (v := (0 : Int32)) hx hb dX4_sees_32 (by decide) ?_
    have hR := Option.some.inj h
    subst hR
    exact W.zret (v := (0 : Int32)) (ty := .boolean) hx hb hr rfl (fun t ht hW => ⟨_, rfl, rfl, ht⟩) (fun q hq => absurd hq List.not_mem_nil) dX4_sees_33
  · have h := zif_f c1 h
    refine lv_aload_n hx hb dX4_sees_11 rfl (lv_at hl 0 rfl) ?_
    refine va_get (D := D) (ci := 4) (v := .ref a_text) (C := RX4) (T := TX4) (N := 28) hx hb hts hinX4 hown hK hP 0 rfl rfl 5 (by decide) (hts (Cond.fieldLink RX4 19 "LadderRelaysModel" "text" "[C") (List.mem_of_getElem? (i := 3) rfl)) (fun _ h9 => h9) rfl dX4_sees_12 ?_
    refine lv_aload_n hx hb dX4_sees_15 rfl (lv_at hl 0 rfl) ?_
    refine va_get (D := D) (ci := 4) (v := .int f_spot) (C := RX4) (T := TX4) (N := 28) hx hb hts hinX4 hown hK hP 0 rfl rfl 21 (by decide) (hts (Cond.fieldLink RX4 179 "LadderRelaysModel" "spot" "I") (List.mem_of_getElem? (i := 1) rfl)) (fun _ h9 => h9) rfl dX4_sees_16 ?_
    obtain ⟨v2, hv2, h⟩ := zbnd h
    refine zr_cald hx hb hK hP 1 1 rfl rfl hv2 dX4_sees_19 ?_
    refine lv_iload_n hx hb dX4_sees_20 rfl (lv_at hl 1 rfl) ?_
    refine lv_iload_n hx hb dX4_sees_21 rfl (lv_at hl 2 rfl) ?_
    obtain ⟨v3, hv3, h⟩ := zbnd h
    refine zc_i (W.runS (As := [.int v2, .int p0, .int p1]) (rest := []) ⟨hx, hb, hml, hown, hts⟩ (c_X4_in l D cI cC cO cJ fu v2 p0 p1 v3 hv3) (va_cwS 3 hts gX4_sees_X4_in rfl rfl rfl (by decide +kernel) ⟨Nat.le_of_ble_eq_true rfl, Nat.le_of_ble_eq_true rfl⟩) (zPr_S hK zP_nil) rfl rfl hl.1 rfl (lv_room (Nat.le_of_ble_eq_true rfl)) dX4_sees_22 ⟨Nat.zero_le _, Nat.zero_le _⟩) ?_
    refine lv_if_eq (tgt := 32) hx hb dX4_sees_25 (by decide) (fun c4 => ?_) (fun c4 => ?_)
    · have h := zif_t c4 h
      refine lv_iconst (v := (0 : Int32)) hx hb dX4_sees_32 (by decide) ?_
      have hR := Option.some.inj h
      subst hR
      exact W.zret (v := (0 : Int32)) (ty := .boolean) hx hb hr rfl (fun t ht hW => ⟨_, rfl, rfl, ht⟩) (fun q hq => absurd hq List.not_mem_nil) dX4_sees_33
    · have h := zif_f c4 h
      refine lv_iconst (v := (1 : Int32)) hx hb dX4_sees_28 (by decide) ?_
      refine lv_goto (tgt := 33) hx hb dX4_sees_29 (by decide) ?_
      have hR := Option.some.inj h
      subst hR
      exact W.zret (v := (1 : Int32)) (ty := .boolean) hx hb hr rfl (fun t ht hW => ⟨_, rfl, rfl, ht⟩) (fun q hq => absurd hq List.not_mem_nil) dX4_sees_33
def F_X4_takes_J21 (f_spot : Int32) (v1 : Int32) (v2 : Int32) : Option (Int32 × Int32) := (zbo v1).bind fun v3 => some (v3, (f_spot + v2))
def F_X4_takes (fu : Nat) (f_length : Int32) (f_spot : Int32) (f_text : Nat → Int32) (p0 : Int32) : Option (Int32 × Int32) := (F_X4_sees fu f_length f_spot f_text p0 p0).bind fun v1 => if v1 = (0 : Int32) then F_X4_takes_J21 f_spot v1 (0 : Int32) else F_X4_takes_J21 f_spot v1 (1 : Int32)
set_option maxHeartbeats 4000000 in
set_option maxRecDepth 100000 in
theorem c_X4_takes (l : Launch) (D : va_G) (cI cC cO cJ : ClassId) (fu : Nat) (a_this a_s a_then a_past a_text a_met a_table a_ways a_waysOf a_into a_orders : Nat) (sz : Nat) (f_thrown : Int32) (f_saved : Int32) (f_length : Int32) (f_counted : Int32) (f_due : Int32) (f_meets : Int32) (f_isTold : Int32) (f_rests : Int32) (f_leastRest : Int32) (f_mostRest : Int32) (f_isWheel : Int32) (f_ended : Int32) (f_spot : Int32) (f_ordered : Int32) (f_cureAmount : Int32) (f_cureRelay : Int32) (f_cureWhich : Int32) (f_hash : Int64) (f_text : Nat → Int32) (p0 : Int32) (R : Int32 × Int32) (h : F_X4_takes fu f_length f_spot f_text p0 = some R) : Met l yX4_takes wsX4_takes ({ frames := 2, cells := 0, slots := 0, locals := 44 } : Room) (zPw D (ztys cI cC cO cJ) [(a_this, .inr (4, [.int f_thrown, .ref a_s, .ref a_then, .ref a_past, .int f_saved, .ref a_text, .int f_length, .int f_counted, .int f_due, .ref a_met, .ref a_table, .ref a_ways, .ref a_waysOf, .ref a_into, .int f_meets, .int f_isTold, .int f_rests, .int f_leastRest, .int f_mostRest, .int f_isWheel, .int f_ended, .int f_spot, .ref a_orders, .int f_ordered, .int f_cureAmount, .int f_cureRelay, .int f_cureWhich, .long f_hash])), (a_text, .inl (cC, 60, .inl f_text))] sz [.ref a_this, .int p0]) (zWi D R.1 [(a_this, .inr (4, [.int f_thrown, .ref a_s, .ref a_then, .ref a_past, .int f_saved, .ref a_text, .int f_length, .int f_counted, .int f_due, .ref a_met, .ref a_table, .ref a_ways, .ref a_waysOf, .ref a_into, .int f_meets, .int f_isTold, .int f_rests, .int f_leastRest, .int f_mostRest, .int f_isWheel, .int f_ended, .int R.2, .ref a_orders, .int f_ordered, .int f_cureAmount, .int f_cureRelay, .int f_cureWhich, .long f_hash])), (a_text, .inl (cC, 60, .inl f_text))] (va_A [(a_this, .inr (4, [.int f_thrown, .ref a_s, .ref a_then, .ref a_past, .int f_saved, .ref a_text, .int f_length, .int f_counted, .int f_due, .ref a_met, .ref a_table, .ref a_ways, .ref a_waysOf, .ref a_into, .int f_meets, .int f_isTold, .int f_rests, .int f_leastRest, .int f_mostRest, .int f_isWheel, .int f_ended, .int f_spot, .ref a_orders, .int f_ordered, .int f_cureAmount, .int f_cureRelay, .int f_cureWhich, .long f_hash])), (a_text, .inl (cC, 60, .inl f_text))] sz)) 0 0 (va_A [(a_this, .inr (4, [.int f_thrown, .ref a_s, .ref a_then, .ref a_past, .int f_saved, .ref a_text, .int f_length, .int f_counted, .int f_due, .ref a_met, .ref a_table, .ref a_ways, .ref a_waysOf, .ref a_into, .int f_meets, .int f_isTold, .int f_rests, .int f_leastRest, .int f_mostRest, .int f_isWheel, .int f_ended, .int f_spot, .ref a_orders, .int f_ordered, .int f_cureAmount, .int f_cureRelay, .int f_cureWhich, .long f_hash])), (a_text, .inl (cC, 60, .inl f_text))] sz) := by
  refine Met.ofW (cc := cX4_takes) (maxL := 3) (ret := (some .boolean)) (by decide) rfl ?_
  intro p e s m args below meth c s₁ B hml hv
  obtain ⟨rfl, hsz, hP, hK, hD0⟩ := hv
  have hx := B.exec
  have hb := B.bytes
  have hr := B.returns
  have hts := atoms_spec (ws := wsX4_takes) B.pre
  have hown : s.vm.findClass RX4 = some m.cls := findClass_of_methodNamed B.named
  have hlocks := B.notSynchronized
  have hinX4 : ∀ w ∈ wsX40, w ∈ wsX4_takes := fun _ h => (List.mem_cons_of_mem _ (List.mem_append_right _ h))
  subst hsz
  have hD := hD0.self (sz := s.heap.size)
  generalize hAe : va_A [(a_this, .inr (4, [.int f_thrown, .ref a_s, .ref a_then, .ref a_past, .int f_saved, .ref a_text, .int f_length, .int f_counted, .int f_due, .ref a_met, .ref a_table, .ref a_ways, .ref a_waysOf, .ref a_into, .int f_meets, .int f_isTold, .int f_rests, .int f_leastRest, .int f_mostRest, .int f_isWheel, .int f_ended, .int f_spot, .ref a_orders, .int f_ordered, .int f_cureAmount, .int f_cureRelay, .int f_cureWhich, .long f_hash])), (a_text, .inl (cC, 60, .inl f_text))] s.heap.size = A at hD ⊢
  have hA : ∀ q : Nat, s.heap.size ≤ q → A q := fun q h => by rw [← hAe]; exact Or.inr h
  have hS : va_S A s.heap s.heap [] := va_S.rf
  have hP : va_P D vwCl [(a_this, .inr (4, [.int f_thrown, .ref a_s, .ref a_then, .ref a_past, .int f_saved, .ref a_text, .int f_length, .int f_counted, .int f_due, .ref a_met, .ref a_table, .ref a_ways, .ref a_waysOf, .ref a_into, .int f_meets, .int f_isTold, .int f_rests, .int f_leastRest, .int f_mostRest, .int f_isWheel, .int f_ended, .int f_spot, .ref a_orders, .int f_ordered, .int f_cureAmount, .int f_cureRelay, .int f_cureWhich, .long f_hash])), (a_text, .inl (cC, 60, .inl f_text))] s.heap := hP
  have hK : va_K D vwCl (ztys cI cC cO cJ) s := hK
  have hl := lv_entry ([.ref a_this, .int p0]) (n := 3) (Nat.le_of_ble_eq_true rfl)
  rw [lg_entry_eq]
  generalize (lg_sl ([.ref a_this, .int p0]) ++ List.replicate (3 - (lg_sl ([.ref a_this, .int p0])).length) Slot.unset).toArray = ls at hl ⊢
  have hl : lv_has ls 3 [(0, .ref a_this), (1, .int p0)] := hl
  unfold F_X4_takes at h
  refine lv_aload_n hx hb dX4_takes_0 rfl (lv_at hl 0 rfl) ?_
  refine lv_iload_n hx hb dX4_takes_1 rfl (lv_at hl 1 rfl) ?_
  refine lv_iload_n hx hb dX4_takes_2 rfl (lv_at hl 1 rfl) ?_
  obtain ⟨v1, hv1, h⟩ := zbnd h
  refine zc_i (W.runV (C := RX4) (As := [.int p0, .int p0]) (rest := []) ⟨hx, hb, hml, hown, hts⟩ (c_X4_sees l D cI cC cO cJ fu a_this a_s a_then a_past a_text a_met a_table a_ways a_waysOf a_into a_orders f_thrown f_saved f_length f_counted f_due f_meets f_isTold f_rests f_leastRest f_mostRest f_isWheel f_ended f_spot f_ordered f_cureAmount f_cureRelay f_cureWhich f_hash f_text p0 p0 v1 hv1) (cwV 2 hts gX4_takes_X4_sees rfl rfl rfl (by decide +kernel) ⟨Nat.le_of_ble_eq_true rfl, Nat.le_of_ble_eq_true rfl⟩) ⟨zPr_blind, (va_recv hK hP (q0 := 0) (ci := 4) rfl rfl), zPr_pre hK hP⟩ rfl rfl hl.1 rfl (lv_room (Nat.le_of_ble_eq_true rfl)) dX4_takes_3 ⟨Nat.zero_le _, Nat.zero_le _⟩) ?_
  refine lv_istore_n (lv' := [(2, .int v1), (0, .ref a_this), (1, .int p0)]) hx hb dX4_takes_6 rfl hl (by decide) rfl (fun ls hl => ?_)
  refine lv_aload_n hx hb dX4_takes_7 rfl (lv_at hl 1 rfl) ?_
  refine lv_dup hx hb dX4_takes_8 rfl ?_
  refine va_get (D := D) (ci := 4) (v := .int f_spot) (C := RX4) (T := TX4) (N := 28) hx hb hts hinX4 hown hK hP 0 rfl rfl 21 (by decide) (hts (Cond.fieldLink RX4 179 "LadderRelaysModel" "spot" "I") (List.mem_of_getElem? (i := 1) rfl)) (fun _ h9 => h9) rfl dX4_takes_9 ?_
  refine lv_iload_n hx hb dX4_takes_12 rfl (lv_at hl 0 rfl) ?_
  have J21 : ∀ (v2 : Int32), F_X4_takes_J21 f_spot v1 v2 = some R → ∀ (H : Heap) (locs : List Loc), va_P D vwCl [(a_this, .inr (4, [.int f_thrown, .ref a_s, .ref a_then, .ref a_past, .int f_saved, .ref a_text, .int f_length, .int f_counted, .int f_due, .ref a_met, .ref a_table, .ref a_ways, .ref a_waysOf, .ref a_into, .int f_meets, .int f_isTold, .int f_rests, .int f_leastRest, .int f_mostRest, .int f_isWheel, .int f_ended, .int f_spot, .ref a_orders, .int f_ordered, .int f_cureAmount, .int f_cureRelay, .int f_cureWhich, .long f_hash])), (a_text, .inl (cC, 60, .inl f_text))] H → va_D A [(a_this, .inr (4, [.int f_thrown, .ref a_s, .ref a_then, .ref a_past, .int f_saved, .ref a_text, .int f_length, .int f_counted, .int f_due, .ref a_met, .ref a_table, .ref a_ways, .ref a_waysOf, .ref a_into, .int f_meets, .int f_isTold, .int f_rests, .int f_leastRest, .int f_mostRest, .int f_isWheel, .int f_ended, .int f_spot, .ref a_orders, .int f_ordered, .int f_cureAmount, .int f_cureRelay, .int f_cureWhich, .long f_hash])), (a_text, .inl (cC, 60, .inl f_text))] → va_S A s.heap H locs → ∀ ls : Array Slot, lv_has ls 3 [(0, .ref a_this), (1, .int p0), (2, .int v1)] → W p l e ({ frames := 2, cells := 0, slots := 0, locals := 44 } : Room) s m (([.ref a_this, .int p0] : List Value).toArray) below meth c H locs 0 0 (MQ below (zWi D R.1 [(a_this, .inr (4, [.int f_thrown, .ref a_s, .ref a_then, .ref a_past, .int f_saved, .ref a_text, .int f_length, .int f_counted, .int f_due, .ref a_met, .ref a_table, .ref a_ways, .ref a_waysOf, .ref a_into, .int f_meets, .int f_isTold, .int f_rests, .int f_leastRest, .int f_mostRest, .int f_isWheel, .int f_ended, .int R.2, .ref a_orders, .int f_ordered, .int f_cureAmount, .int f_cureRelay, .int f_cureWhich, .long f_hash])), (a_text, .inl (cC, 60, .inl f_text))] A) (([.ref a_this, .int p0] : List Value).toArray) s 0 0 A) (F0 m 21 ls [.int v2, .int f_spot, .ref a_this]) := by
    intro v2 h H locs hP hD hS ls hl
    unfold F_X4_takes_J21 at h
    refine lv_iadd hx hb dX4_takes_21 ?_
    refine va_put (D := D) (ci := 4) (v := .int (f_spot + v2)) (ty := .int) (C := RX4) (T := TX4) (N := 28) hx hb hts hinX4 tyX4 tyX4_ok nmX4 hown hK hP hD hS 0 rfl rfl 21 (by decide) (hts (Cond.fieldLink RX4 179 "LadderRelaysModel" "spot" "I") (List.mem_of_getElem? (i := 1) rfl)) (fun _ h9 => h9) rfl (by decide +kernel) rfl rfl (Nat.le_of_ble_eq_true rfl) dX4_takes_22 (fun H locs hP hD hS => ?_)
    have hP : va_P D vwCl [(a_this, .inr (4, [.int f_thrown, .ref a_s, .ref a_then, .ref a_past, .int f_saved, .ref a_text, .int f_length, .int f_counted, .int f_due, .ref a_met, .ref a_table, .ref a_ways, .ref a_waysOf, .ref a_into, .int f_meets, .int f_isTold, .int f_rests, .int f_leastRest, .int f_mostRest, .int f_isWheel, .int f_ended, .int (f_spot + v2), .ref a_orders, .int f_ordered, .int f_cureAmount, .int f_cureRelay, .int f_cureWhich, .long f_hash])), (a_text, .inl (cC, 60, .inl f_text))] H := hP
    have hD : va_D A [(a_this, .inr (4, [.int f_thrown, .ref a_s, .ref a_then, .ref a_past, .int f_saved, .ref a_text, .int f_length, .int f_counted, .int f_due, .ref a_met, .ref a_table, .ref a_ways, .ref a_waysOf, .ref a_into, .int f_meets, .int f_isTold, .int f_rests, .int f_leastRest, .int f_mostRest, .int f_isWheel, .int f_ended, .int (f_spot + v2), .ref a_orders, .int f_ordered, .int f_cureAmount, .int f_cureRelay, .int f_cureWhich, .long f_hash])), (a_text, .inl (cC, 60, .inl f_text))] := hD
    refine lv_iload_n hx hb dX4_takes_25 rfl (lv_at hl 2 rfl) ?_
    obtain ⟨v3, hbv3, h⟩ := zbnd h
    obtain ⟨hbv3, hev3⟩ := zbo_some hbv3
    rw [hev3]
    have hR := Option.some.inj h
    subst hR
    exact W.zret (v := v3) (ty := .boolean) hx hb hr (by rcases hbv3 with q | q <;> rw [q] <;> rfl) (fun t ht hW => ⟨⟨_, (), rfl, rfl, zhp ht hP⟩, hS.F ht⟩) hS.2.2 dX4_takes_26
  refine lv_if_eq (tgt := 20) hx hb dX4_takes_13 (by decide) (fun c4 => ?_) (fun c4 => ?_)
  · have h := zif_t c4 h
    refine lv_iconst (v := (0 : Int32)) hx hb dX4_takes_20 (by decide) ?_
    exact J21 (0 : Int32) h _ _ hP hD hS ls (lv_sub hl [1, 2, 0] rfl)
  · have h := zif_f c4 h
    refine lv_iconst (v := (1 : Int32)) hx hb dX4_takes_16 (by decide) ?_
    refine lv_goto (tgt := 21) hx hb dX4_takes_17 (by decide) ?_
    exact J21 (1 : Int32) h _ _ hP hD hS ls (lv_sub hl [1, 2, 0] rfl)
def F_X4_readsDigit (fu : Nat) (f_length : Int32) (f_spot : Int32) (f_ordered : Int32) (f_text : Nat → Int32) (f_orders : Nat → Int32) (p0 : Int32) (p1 : Int32) : Option (Int32 × Int32 × (Nat → Int32)) := (F_X4_sees fu f_length f_spot f_text (48 : Int32) p1).bind fun v1 => if v1 = (0 : Int32) then some ((0 : Int32), f_spot, f_orders) else (zrd f_text 60 f_spot).bind fun v3 => (zwr f_orders 176 (((11 : Int32) * f_ordered) + p0) (v3 - (48 : Int32))).bind fun v4 => some ((1 : Int32), (f_spot + (1 : Int32)), v4)
set_option maxHeartbeats 4000000 in
set_option maxRecDepth 100000 in
theorem c_X4_readsDigit (l : Launch) (D : va_G) (cI cC cO cJ : ClassId) (fu : Nat) (a_this a_s a_then a_past a_text a_met a_table a_ways a_waysOf a_into a_orders : Nat) (sz : Nat) (f_thrown : Int32) (f_saved : Int32) (f_length : Int32) (f_counted : Int32) (f_due : Int32) (f_meets : Int32) (f_isTold : Int32) (f_rests : Int32) (f_leastRest : Int32) (f_mostRest : Int32) (f_isWheel : Int32) (f_ended : Int32) (f_spot : Int32) (f_ordered : Int32) (f_cureAmount : Int32) (f_cureRelay : Int32) (f_cureWhich : Int32) (f_hash : Int64) (f_text : Nat → Int32) (f_orders : Nat → Int32) (p0 : Int32) (p1 : Int32) (R : Int32 × Int32 × (Nat → Int32)) (h : F_X4_readsDigit fu f_length f_spot f_ordered f_text f_orders p0 p1 = some R) : Met l yX4_readsDigit wsX4_readsDigit ({ frames := 2, cells := 0, slots := 0, locals := 44 } : Room) (zPw D (ztys cI cC cO cJ) [(a_this, .inr (4, [.int f_thrown, .ref a_s, .ref a_then, .ref a_past, .int f_saved, .ref a_text, .int f_length, .int f_counted, .int f_due, .ref a_met, .ref a_table, .ref a_ways, .ref a_waysOf, .ref a_into, .int f_meets, .int f_isTold, .int f_rests, .int f_leastRest, .int f_mostRest, .int f_isWheel, .int f_ended, .int f_spot, .ref a_orders, .int f_ordered, .int f_cureAmount, .int f_cureRelay, .int f_cureWhich, .long f_hash])), (a_text, .inl (cC, 60, .inl f_text)), (a_orders, .inl (cI, 176, .inl f_orders))] sz [.ref a_this, .int p0, .int p1]) (zWi D R.1 [(a_this, .inr (4, [.int f_thrown, .ref a_s, .ref a_then, .ref a_past, .int f_saved, .ref a_text, .int f_length, .int f_counted, .int f_due, .ref a_met, .ref a_table, .ref a_ways, .ref a_waysOf, .ref a_into, .int f_meets, .int f_isTold, .int f_rests, .int f_leastRest, .int f_mostRest, .int f_isWheel, .int f_ended, .int R.2.1, .ref a_orders, .int f_ordered, .int f_cureAmount, .int f_cureRelay, .int f_cureWhich, .long f_hash])), (a_text, .inl (cC, 60, .inl f_text)), (a_orders, .inl (cI, 176, .inl R.2.2))] (va_A [(a_this, .inr (4, [.int f_thrown, .ref a_s, .ref a_then, .ref a_past, .int f_saved, .ref a_text, .int f_length, .int f_counted, .int f_due, .ref a_met, .ref a_table, .ref a_ways, .ref a_waysOf, .ref a_into, .int f_meets, .int f_isTold, .int f_rests, .int f_leastRest, .int f_mostRest, .int f_isWheel, .int f_ended, .int f_spot, .ref a_orders, .int f_ordered, .int f_cureAmount, .int f_cureRelay, .int f_cureWhich, .long f_hash])), (a_text, .inl (cC, 60, .inl f_text)), (a_orders, .inl (cI, 176, .inl f_orders))] sz)) 0 0 (va_A [(a_this, .inr (4, [.int f_thrown, .ref a_s, .ref a_then, .ref a_past, .int f_saved, .ref a_text, .int f_length, .int f_counted, .int f_due, .ref a_met, .ref a_table, .ref a_ways, .ref a_waysOf, .ref a_into, .int f_meets, .int f_isTold, .int f_rests, .int f_leastRest, .int f_mostRest, .int f_isWheel, .int f_ended, .int f_spot, .ref a_orders, .int f_ordered, .int f_cureAmount, .int f_cureRelay, .int f_cureWhich, .long f_hash])), (a_text, .inl (cC, 60, .inl f_text)), (a_orders, .inl (cI, 176, .inl f_orders))] sz) := by
  refine Met.ofW (cc := cX4_readsDigit) (maxL := 3) (ret := (some .boolean)) (by decide) rfl ?_
  intro p e s m args below meth c s₁ B hml hv
  obtain ⟨rfl, hsz, hP, hK, hD0⟩ := hv
  have hx := B.exec
  have hb := B.bytes
  have hr := B.returns
  have hts := atoms_spec (ws := wsX4_readsDigit) B.pre
  have hown : s.vm.findClass RX4 = some m.cls := findClass_of_methodNamed B.named
  have hlocks := B.notSynchronized
  have hinX4 : ∀ w ∈ wsX40, w ∈ wsX4_readsDigit := fun _ h => (List.mem_cons_of_mem _ (List.mem_append_right _ h))
  subst hsz
  have hD := hD0.self (sz := s.heap.size)
  generalize hAe : va_A [(a_this, .inr (4, [.int f_thrown, .ref a_s, .ref a_then, .ref a_past, .int f_saved, .ref a_text, .int f_length, .int f_counted, .int f_due, .ref a_met, .ref a_table, .ref a_ways, .ref a_waysOf, .ref a_into, .int f_meets, .int f_isTold, .int f_rests, .int f_leastRest, .int f_mostRest, .int f_isWheel, .int f_ended, .int f_spot, .ref a_orders, .int f_ordered, .int f_cureAmount, .int f_cureRelay, .int f_cureWhich, .long f_hash])), (a_text, .inl (cC, 60, .inl f_text)), (a_orders, .inl (cI, 176, .inl f_orders))] s.heap.size = A at hD ⊢
  have hA : ∀ q : Nat, s.heap.size ≤ q → A q := fun q h => by rw [← hAe]; exact Or.inr h
  have hS : va_S A s.heap s.heap [] := va_S.rf
  have hP : va_P D vwCl [(a_this, .inr (4, [.int f_thrown, .ref a_s, .ref a_then, .ref a_past, .int f_saved, .ref a_text, .int f_length, .int f_counted, .int f_due, .ref a_met, .ref a_table, .ref a_ways, .ref a_waysOf, .ref a_into, .int f_meets, .int f_isTold, .int f_rests, .int f_leastRest, .int f_mostRest, .int f_isWheel, .int f_ended, .int f_spot, .ref a_orders, .int f_ordered, .int f_cureAmount, .int f_cureRelay, .int f_cureWhich, .long f_hash])), (a_text, .inl (cC, 60, .inl f_text)), (a_orders, .inl (cI, 176, .inl f_orders))] s.heap := hP
  have hK : va_K D vwCl (ztys cI cC cO cJ) s := hK
  have hl := lv_entry ([.ref a_this, .int p0, .int p1]) (n := 3) (Nat.le_of_ble_eq_true rfl)
  rw [lg_entry_eq]
  generalize (lg_sl ([.ref a_this, .int p0, .int p1]) ++ List.replicate (3 - (lg_sl ([.ref a_this, .int p0, .int p1])).length) Slot.unset).toArray = ls at hl ⊢
  have hl : lv_has ls 3 [(0, .ref a_this), (1, .int p0), (2, .int p1)] := hl
  unfold F_X4_readsDigit at h
  refine lv_aload_n hx hb dX4_readsDigit_0 rfl (lv_at hl 0 rfl) ?_
  refine lv_bipush (v := (48 : Int32)) hx hb dX4_readsDigit_1 (by decide) ?_
  refine lv_iload_n hx hb dX4_readsDigit_3 rfl (lv_at hl 2 rfl) ?_
  obtain ⟨v1, hv1, h⟩ := zbnd h
  have hPc := hP.sub (ws' := [(a_this, .inr (4, [.int f_thrown, .ref a_s, .ref a_then, .ref a_past, .int f_saved, .ref a_text, .int f_length, .int f_counted, .int f_due, .ref a_met, .ref a_table, .ref a_ways, .ref a_waysOf, .ref a_into, .int f_meets, .int f_isTold, .int f_rests, .int f_leastRest, .int f_mostRest, .int f_isWheel, .int f_ended, .int f_spot, .ref a_orders, .int f_ordered, .int f_cureAmount, .int f_cureRelay, .int f_cureWhich, .long f_hash])), (a_text, .inl (cC, 60, .inl f_text))]) [0, 1] rfl
  refine zc_i (W.runV (C := RX4) (As := [.int (48 : Int32), .int p1]) (rest := []) ⟨hx, hb, hml, hown, hts⟩ (c_X4_sees l D cI cC cO cJ fu a_this a_s a_then a_past a_text a_met a_table a_ways a_waysOf a_into a_orders f_thrown f_saved f_length f_counted f_due f_meets f_isTold f_rests f_leastRest f_mostRest f_isWheel f_ended f_spot f_ordered f_cureAmount f_cureRelay f_cureWhich f_hash f_text (48 : Int32) p1 v1 hv1) (cwV 2 hts gX4_readsDigit_X4_sees rfl rfl rfl (by decide +kernel) ⟨Nat.le_of_ble_eq_true rfl, Nat.le_of_ble_eq_true rfl⟩) ⟨zPr_blind, (va_recv hK hP (q0 := 0) (ci := 4) rfl rfl), zPr_pre hK hPc⟩ rfl rfl hl.1 rfl (lv_room (Nat.le_of_ble_eq_true rfl)) dX4_readsDigit_4 ⟨Nat.zero_le _, Nat.zero_le _⟩) ?_
  refine lv_if_ne (tgt := 12) hx hb dX4_readsDigit_7 (by decide) (fun c2 => ?_) (fun c2 => ?_)
  · have h := zif_f c2 h
    refine lv_aload_n hx hb dX4_readsDigit_12 rfl (lv_at hl 0 rfl) ?_
    refine va_get (D := D) (ci := 4) (v := .ref a_orders) (C := RX4) (T := TX4) (N := 28) hx hb hts hinX4 hown hK hP 0 rfl rfl 22 (by decide) (hts (Cond.fieldLink RX4 38 "LadderRelaysModel" "orders" "[I") (List.mem_of_getElem? (i := 1) rfl)) (fun _ h9 => h9) rfl dX4_readsDigit_13 ?_
    refine lv_bipush (v := (11 : Int32)) hx hb dX4_readsDigit_16 (by decide) ?_
    refine lv_aload_n hx hb dX4_readsDigit_18 rfl (lv_at hl 0 rfl) ?_
    refine va_get (D := D) (ci := 4) (v := .int f_ordered) (C := RX4) (T := TX4) (N := 28) hx hb hts hinX4 hown hK hP 0 rfl rfl 23 (by decide) (hts (Cond.fieldLink RX4 186 "LadderRelaysModel" "ordered" "I") (List.mem_of_getElem? (i := 2) rfl)) (fun _ h9 => h9) rfl dX4_readsDigit_19 ?_
    refine lv_imul hx hb dX4_readsDigit_22 ?_
    refine lv_iload_n hx hb dX4_readsDigit_23 rfl (lv_at hl 1 rfl) ?_
    refine lv_iadd hx hb dX4_readsDigit_24 ?_
    refine lv_aload_n hx hb dX4_readsDigit_25 rfl (lv_at hl 0 rfl) ?_
    refine va_get (D := D) (ci := 4) (v := .ref a_text) (C := RX4) (T := TX4) (N := 28) hx hb hts hinX4 hown hK hP 0 rfl rfl 5 (by decide) (hts (Cond.fieldLink RX4 19 "LadderRelaysModel" "text" "[C") (List.mem_of_getElem? (i := 3) rfl)) (fun _ h9 => h9) rfl dX4_readsDigit_26 ?_
    refine lv_aload_n hx hb dX4_readsDigit_29 rfl (lv_at hl 0 rfl) ?_
    refine va_get (D := D) (ci := 4) (v := .int f_spot) (C := RX4) (T := TX4) (N := 28) hx hb hts hinX4 hown hK hP 0 rfl rfl 21 (by decide) (hts (Cond.fieldLink RX4 179 "LadderRelaysModel" "spot" "I") (List.mem_of_getElem? (i := 4) rfl)) (fun _ h9 => h9) rfl dX4_readsDigit_30 ?_
    obtain ⟨v3, hv3, h⟩ := zbnd h
    refine zr_cald hx hb hK hP 1 1 rfl rfl hv3 dX4_readsDigit_33 ?_
    refine lv_bipush (v := (48 : Int32)) hx hb dX4_readsDigit_34 (by decide) ?_
    refine lv_isub hx hb dX4_readsDigit_36 ?_
    obtain ⟨v4, hv4, h⟩ := zbnd h
    refine zr_iast hx hb hK hP hD hS 2 0 rfl rfl hv4 dX4_readsDigit_37 (fun H locs hP hD hS => ?_)
    have hP : va_P D vwCl [(a_this, .inr (4, [.int f_thrown, .ref a_s, .ref a_then, .ref a_past, .int f_saved, .ref a_text, .int f_length, .int f_counted, .int f_due, .ref a_met, .ref a_table, .ref a_ways, .ref a_waysOf, .ref a_into, .int f_meets, .int f_isTold, .int f_rests, .int f_leastRest, .int f_mostRest, .int f_isWheel, .int f_ended, .int f_spot, .ref a_orders, .int f_ordered, .int f_cureAmount, .int f_cureRelay, .int f_cureWhich, .long f_hash])), (a_text, .inl (cC, 60, .inl f_text)), (a_orders, .inl (cI, 176, .inl v4))] H := hP
    have hD : va_D A [(a_this, .inr (4, [.int f_thrown, .ref a_s, .ref a_then, .ref a_past, .int f_saved, .ref a_text, .int f_length, .int f_counted, .int f_due, .ref a_met, .ref a_table, .ref a_ways, .ref a_waysOf, .ref a_into, .int f_meets, .int f_isTold, .int f_rests, .int f_leastRest, .int f_mostRest, .int f_isWheel, .int f_ended, .int f_spot, .ref a_orders, .int f_ordered, .int f_cureAmount, .int f_cureRelay, .int f_cureWhich, .long f_hash])), (a_text, .inl (cC, 60, .inl f_text)), (a_orders, .inl (cI, 176, .inl v4))] := hD
    refine lv_aload_n hx hb dX4_readsDigit_38 rfl (lv_at hl 0 rfl) ?_
    refine lv_dup hx hb dX4_readsDigit_39 rfl ?_
    refine va_get (D := D) (ci := 4) (v := .int f_spot) (C := RX4) (T := TX4) (N := 28) hx hb hts hinX4 hown hK hP 0 rfl rfl 21 (by decide) (hts (Cond.fieldLink RX4 179 "LadderRelaysModel" "spot" "I") (List.mem_of_getElem? (i := 4) rfl)) (fun _ h9 => h9) rfl dX4_readsDigit_40 ?_
    refine lv_iconst (v := (1 : Int32)) hx hb dX4_readsDigit_43 (by decide) ?_
    refine lv_iadd hx hb dX4_readsDigit_44 ?_
    refine va_put (D := D) (ci := 4) (v := .int (f_spot + (1 : Int32))) (ty := .int) (C := RX4) (T := TX4) (N := 28) hx hb hts hinX4 tyX4 tyX4_ok nmX4 hown hK hP hD hS 0 rfl rfl 21 (by decide) (hts (Cond.fieldLink RX4 179 "LadderRelaysModel" "spot" "I") (List.mem_of_getElem? (i := 4) rfl)) (fun _ h9 => h9) rfl (by decide +kernel) rfl rfl (Nat.le_of_ble_eq_true rfl) dX4_readsDigit_45 (fun H locs hP hD hS => ?_)
    have hP : va_P D vwCl [(a_this, .inr (4, [.int f_thrown, .ref a_s, .ref a_then, .ref a_past, .int f_saved, .ref a_text, .int f_length, .int f_counted, .int f_due, .ref a_met, .ref a_table, .ref a_ways, .ref a_waysOf, .ref a_into, .int f_meets, .int f_isTold, .int f_rests, .int f_leastRest, .int f_mostRest, .int f_isWheel, .int f_ended, .int (f_spot + (1 : Int32)), .ref a_orders, .int f_ordered, .int f_cureAmount, .int f_cureRelay, .int f_cureWhich, .long f_hash])), (a_text, .inl (cC, 60, .inl f_text)), (a_orders, .inl (cI, 176, .inl v4))] H := hP
    have hD : va_D A [(a_this, .inr (4, [.int f_thrown, .ref a_s, .ref a_then, .ref a_past, .int f_saved, .ref a_text, .int f_length, .int f_counted, .int f_due, .ref a_met, .ref a_table, .ref a_ways, .ref a_waysOf, .ref a_into, .int f_meets, .int f_isTold, .int f_rests, .int f_leastRest, .int f_mostRest, .int f_isWheel, .int f_ended, .int (f_spot + (1 : Int32)), .ref a_orders, .int f_ordered, .int f_cureAmount, .int f_cureRelay, .int f_cureWhich, .long f_hash])), (a_text, .inl (cC, 60, .inl f_text)), (a_orders, .inl (cI, 176, .inl v4))] := hD
    refine lv_iconst (v := (1 : Int32)) hx hb dX4_readsDigit_48 (by decide) ?_
    have hR := Option.some.inj h
    subst hR
    exact W.zret (v := (1 : Int32)) (ty := .boolean) hx hb hr rfl (fun t ht hW => ⟨⟨_, (), rfl, rfl, zhp ht hP⟩, hS.F ht⟩) hS.2.2 dX4_readsDigit_49
  · have h := zif_t c2 h
    refine lv_iconst (v := (0 : Int32)) hx hb dX4_readsDigit_10 (by decide) ?_
    have hR := Option.some.inj h
    subst hR
    exact W.zret (v := (0 : Int32)) (ty := .boolean) hx hb hr rfl (fun t ht hW => ⟨⟨_, (), rfl, rfl, zhp ht hP⟩, hS.F ht⟩) hS.2.2 dX4_readsDigit_11
def F_X4_readsBranch_E230  (v4 : Int32) (v5 : Int32) (v6 : Nat → Int32) : Option (Int32 × Int32 × (Nat → Int32)) := some ((1 : Int32), v5, v6)
def F_X4_readsBranch_L32 (fu : Nat) (f_length : Int32) (f_text : Nat → Int32) (v1 : Int32) (k32 : Int32 → Int32 → (Nat → Int32) → Option (Int32 × Int32 × (Nat → Int32))) (rec32 : Int32 → Int32 → (Nat → Int32) → Option (Int32 × Int32 × (Nat → Int32))) (v7 : Int32) (v8 : Int32) (v9 : Nat → Int32) : Option (Int32 × Int32 × (Nat → Int32)) := if v7 = (0 : Int32) then k32 v7 v8 v9 else (zrd v9 176 v1).bind fun v11 => (zrd v9 176 (v1 + (1 : Int32))).bind fun v12 => if (v11 ||| v12) = (1023 : Int32) then (F_X4_sees fu f_length v8 f_text (97 : Int32) (100 : Int32)).bind fun v14 => if v14 = (0 : Int32) then (F_X4_sees fu f_length v8 f_text (48 : Int32) (53 : Int32)).bind fun v16 => if v16 = (0 : Int32) then if (-1 : Int32) = (-1 : Int32) then some ((0 : Int32), v8, v9) else (zrd v9 176 v1).bind fun v19 => (zrd v9 176 (v1 + (1 : Int32))).bind fun v20 => if (((v19 ||| v20) >>> ((-1 : Int32) &&& (31 : Int32))) &&& (1 : Int32)) = (1 : Int32) then some ((0 : Int32), v8, v9) else (zrd v9 176 (v1 + (0 : Int32))).bind fun v22 => (zwr v9 176 (v1 + (0 : Int32)) (v22 ||| ((1 : Int32) <<< ((-1 : Int32) &&& (31 : Int32))))).bind fun v23 => (F_X4_sees fu f_length (v8 + (1 : Int32)) f_text (33 : Int32) (33 : Int32)).bind fun v24 => if v24 = (0 : Int32) then (F_X4_sees fu f_length (v8 + (1 : Int32)) f_text (97 : Int32) (100 : Int32)).bind fun v26 => if v26 = (0 : Int32) then (F_X4_sees fu f_length (v8 + (1 : Int32)) f_text (48 : Int32) (57 : Int32)).bind fun v28 => if v28 = (0 : Int32) then rec32 (0 : Int32) (v8 + (1 : Int32)) v23 else rec32 (1 : Int32) (v8 + (1 : Int32)) v23 else rec32 (1 : Int32) (v8 + (1 : Int32)) v23 else rec32 (1 : Int32) (v8 + (1 : Int32)) v23 else (zrd f_text 60 v8).bind fun v30 => if (((4 : Int32) + v30) - (48 : Int32)) = (-1 : Int32) then some ((0 : Int32), v8, v9) else (zrd v9 176 v1).bind fun v32 => (zrd v9 176 (v1 + (1 : Int32))).bind fun v33 => if (((v32 ||| v33) >>> ((((4 : Int32) + v30) - (48 : Int32)) &&& (31 : Int32))) &&& (1 : Int32)) = (1 : Int32) then some ((0 : Int32), v8, v9) else (zrd v9 176 (v1 + (0 : Int32))).bind fun v35 => (zwr v9 176 (v1 + (0 : Int32)) (v35 ||| ((1 : Int32) <<< ((((4 : Int32) + v30) - (48 : Int32)) &&& (31 : Int32))))).bind fun v36 => (F_X4_sees fu f_length (v8 + (1 : Int32)) f_text (33 : Int32) (33 : Int32)).bind fun v37 => if v37 = (0 : Int32) then (F_X4_sees fu f_length (v8 + (1 : Int32)) f_text (97 : Int32) (100 : Int32)).bind fun v39 => if v39 = (0 : Int32) then (F_X4_sees fu f_length (v8 + (1 : Int32)) f_text (48 : Int32) (57 : Int32)).bind fun v41 => if v41 = (0 : Int32) then rec32 (0 : Int32) (v8 + (1 : Int32)) v36 else rec32 (1 : Int32) (v8 + (1 : Int32)) v36 else rec32 (1 : Int32) (v8 + (1 : Int32)) v36 else rec32 (1 : Int32) (v8 + (1 : Int32)) v36 else (zrd f_text 60 v8).bind fun v43 => if (v43 - (97 : Int32)) = (-1 : Int32) then some ((0 : Int32), v8, v9) else (zrd v9 176 v1).bind fun v45 => (zrd v9 176 (v1 + (1 : Int32))).bind fun v46 => if (((v45 ||| v46) >>> ((v43 - (97 : Int32)) &&& (31 : Int32))) &&& (1 : Int32)) = (1 : Int32) then some ((0 : Int32), v8, v9) else (zrd v9 176 (v1 + (0 : Int32))).bind fun v48 => (zwr v9 176 (v1 + (0 : Int32)) (v48 ||| ((1 : Int32) <<< ((v43 - (97 : Int32)) &&& (31 : Int32))))).bind fun v49 => (F_X4_sees fu f_length (v8 + (1 : Int32)) f_text (33 : Int32) (33 : Int32)).bind fun v50 => if v50 = (0 : Int32) then (F_X4_sees fu f_length (v8 + (1 : Int32)) f_text (97 : Int32) (100 : Int32)).bind fun v52 => if v52 = (0 : Int32) then (F_X4_sees fu f_length (v8 + (1 : Int32)) f_text (48 : Int32) (57 : Int32)).bind fun v54 => if v54 = (0 : Int32) then rec32 (0 : Int32) (v8 + (1 : Int32)) v49 else rec32 (1 : Int32) (v8 + (1 : Int32)) v49 else rec32 (1 : Int32) (v8 + (1 : Int32)) v49 else rec32 (1 : Int32) (v8 + (1 : Int32)) v49 else (F_X4_takes fu f_length v8 f_text (33 : Int32)).bind fun v56 => if v56.1 = (0 : Int32) then (F_X4_sees fu f_length v56.2 f_text (97 : Int32) (100 : Int32)).bind fun v58 => if v58 = (0 : Int32) then (F_X4_sees fu f_length v56.2 f_text (48 : Int32) (53 : Int32)).bind fun v60 => if v60 = (0 : Int32) then if (-1 : Int32) = (-1 : Int32) then some ((0 : Int32), v56.2, v9) else (zrd v9 176 v1).bind fun v63 => (zrd v9 176 (v1 + (1 : Int32))).bind fun v64 => if (((v63 ||| v64) >>> ((-1 : Int32) &&& (31 : Int32))) &&& (1 : Int32)) = (1 : Int32) then some ((0 : Int32), v56.2, v9) else (zrd v9 176 (v1 + (0 : Int32))).bind fun v66 => (zwr v9 176 (v1 + (0 : Int32)) (v66 ||| ((1 : Int32) <<< ((-1 : Int32) &&& (31 : Int32))))).bind fun v67 => (F_X4_sees fu f_length (v56.2 + (1 : Int32)) f_text (33 : Int32) (33 : Int32)).bind fun v68 => if v68 = (0 : Int32) then (F_X4_sees fu f_length (v56.2 + (1 : Int32)) f_text (97 : Int32) (100 : Int32)).bind fun v70 => if v70 = (0 : Int32) then (F_X4_sees fu f_length (v56.2 + (1 : Int32)) f_text (48 : Int32) (57 : Int32)).bind fun v72 => if v72 = (0 : Int32) then rec32 (0 : Int32) (v56.2 + (1 : Int32)) v67 else rec32 (1 : Int32) (v56.2 + (1 : Int32)) v67 else rec32 (1 : Int32) (v56.2 + (1 : Int32)) v67 else rec32 (1 : Int32) (v56.2 + (1 : Int32)) v67 else (zrd f_text 60 v56.2).bind fun v74 => if (((4 : Int32) + v74) - (48 : Int32)) = (-1 : Int32) then some ((0 : Int32), v56.2, v9) else (zrd v9 176 v1).bind fun v76 => (zrd v9 176 (v1 + (1 : Int32))).bind fun v77 => if (((v76 ||| v77) >>> ((((4 : Int32) + v74) - (48 : Int32)) &&& (31 : Int32))) &&& (1 : Int32)) = (1 : Int32) then some ((0 : Int32), v56.2, v9) else (zrd v9 176 (v1 + (0 : Int32))).bind fun v79 => (zwr v9 176 (v1 + (0 : Int32)) (v79 ||| ((1 : Int32) <<< ((((4 : Int32) + v74) - (48 : Int32)) &&& (31 : Int32))))).bind fun v80 => (F_X4_sees fu f_length (v56.2 + (1 : Int32)) f_text (33 : Int32) (33 : Int32)).bind fun v81 => if v81 = (0 : Int32) then (F_X4_sees fu f_length (v56.2 + (1 : Int32)) f_text (97 : Int32) (100 : Int32)).bind fun v83 => if v83 = (0 : Int32) then (F_X4_sees fu f_length (v56.2 + (1 : Int32)) f_text (48 : Int32) (57 : Int32)).bind fun v85 => if v85 = (0 : Int32) then rec32 (0 : Int32) (v56.2 + (1 : Int32)) v80 else rec32 (1 : Int32) (v56.2 + (1 : Int32)) v80 else rec32 (1 : Int32) (v56.2 + (1 : Int32)) v80 else rec32 (1 : Int32) (v56.2 + (1 : Int32)) v80 else (zrd f_text 60 v56.2).bind fun v87 => if (v87 - (97 : Int32)) = (-1 : Int32) then some ((0 : Int32), v56.2, v9) else (zrd v9 176 v1).bind fun v89 => (zrd v9 176 (v1 + (1 : Int32))).bind fun v90 => if (((v89 ||| v90) >>> ((v87 - (97 : Int32)) &&& (31 : Int32))) &&& (1 : Int32)) = (1 : Int32) then some ((0 : Int32), v56.2, v9) else (zrd v9 176 (v1 + (0 : Int32))).bind fun v92 => (zwr v9 176 (v1 + (0 : Int32)) (v92 ||| ((1 : Int32) <<< ((v87 - (97 : Int32)) &&& (31 : Int32))))).bind fun v93 => (F_X4_sees fu f_length (v56.2 + (1 : Int32)) f_text (33 : Int32) (33 : Int32)).bind fun v94 => if v94 = (0 : Int32) then (F_X4_sees fu f_length (v56.2 + (1 : Int32)) f_text (97 : Int32) (100 : Int32)).bind fun v96 => if v96 = (0 : Int32) then (F_X4_sees fu f_length (v56.2 + (1 : Int32)) f_text (48 : Int32) (57 : Int32)).bind fun v98 => if v98 = (0 : Int32) then rec32 (0 : Int32) (v56.2 + (1 : Int32)) v93 else rec32 (1 : Int32) (v56.2 + (1 : Int32)) v93 else rec32 (1 : Int32) (v56.2 + (1 : Int32)) v93 else rec32 (1 : Int32) (v56.2 + (1 : Int32)) v93 else (F_X4_sees fu f_length v56.2 f_text (97 : Int32) (100 : Int32)).bind fun v100 => if v100 = (0 : Int32) then (F_X4_sees fu f_length v56.2 f_text (48 : Int32) (53 : Int32)).bind fun v102 => if v102 = (0 : Int32) then if (-1 : Int32) = (-1 : Int32) then some ((0 : Int32), v56.2, v9) else (zrd v9 176 v1).bind fun v105 => (zrd v9 176 (v1 + (1 : Int32))).bind fun v106 => if (((v105 ||| v106) >>> ((-1 : Int32) &&& (31 : Int32))) &&& (1 : Int32)) = (1 : Int32) then some ((0 : Int32), v56.2, v9) else (zrd v9 176 (v1 + (1 : Int32))).bind fun v108 => (zwr v9 176 (v1 + (1 : Int32)) (v108 ||| ((1 : Int32) <<< ((-1 : Int32) &&& (31 : Int32))))).bind fun v109 => (F_X4_sees fu f_length (v56.2 + (1 : Int32)) f_text (33 : Int32) (33 : Int32)).bind fun v110 => if v110 = (0 : Int32) then (F_X4_sees fu f_length (v56.2 + (1 : Int32)) f_text (97 : Int32) (100 : Int32)).bind fun v112 => if v112 = (0 : Int32) then (F_X4_sees fu f_length (v56.2 + (1 : Int32)) f_text (48 : Int32) (57 : Int32)).bind fun v114 => if v114 = (0 : Int32) then rec32 (0 : Int32) (v56.2 + (1 : Int32)) v109 else rec32 (1 : Int32) (v56.2 + (1 : Int32)) v109 else rec32 (1 : Int32) (v56.2 + (1 : Int32)) v109 else rec32 (1 : Int32) (v56.2 + (1 : Int32)) v109 else (zrd f_text 60 v56.2).bind fun v116 => if (((4 : Int32) + v116) - (48 : Int32)) = (-1 : Int32) then some ((0 : Int32), v56.2, v9) else (zrd v9 176 v1).bind fun v118 => (zrd v9 176 (v1 + (1 : Int32))).bind fun v119 => if (((v118 ||| v119) >>> ((((4 : Int32) + v116) - (48 : Int32)) &&& (31 : Int32))) &&& (1 : Int32)) = (1 : Int32) then some ((0 : Int32), v56.2, v9) else (zrd v9 176 (v1 + (1 : Int32))).bind fun v121 => (zwr v9 176 (v1 + (1 : Int32)) (v121 ||| ((1 : Int32) <<< ((((4 : Int32) + v116) - (48 : Int32)) &&& (31 : Int32))))).bind fun v122 => (F_X4_sees fu f_length (v56.2 + (1 : Int32)) f_text (33 : Int32) (33 : Int32)).bind fun v123 => if v123 = (0 : Int32) then (F_X4_sees fu f_length (v56.2 + (1 : Int32)) f_text (97 : Int32) (100 : Int32)).bind fun v125 => if v125 = (0 : Int32) then (F_X4_sees fu f_length (v56.2 + (1 : Int32)) f_text (48 : Int32) (57 : Int32)).bind fun v127 => if v127 = (0 : Int32) then rec32 (0 : Int32) (v56.2 + (1 : Int32)) v122 else rec32 (1 : Int32) (v56.2 + (1 : Int32)) v122 else rec32 (1 : Int32) (v56.2 + (1 : Int32)) v122 else rec32 (1 : Int32) (v56.2 + (1 : Int32)) v122 else (zrd f_text 60 v56.2).bind fun v129 => if (v129 - (97 : Int32)) = (-1 : Int32) then some ((0 : Int32), v56.2, v9) else (zrd v9 176 v1).bind fun v131 => (zrd v9 176 (v1 + (1 : Int32))).bind fun v132 => if (((v131 ||| v132) >>> ((v129 - (97 : Int32)) &&& (31 : Int32))) &&& (1 : Int32)) = (1 : Int32) then some ((0 : Int32), v56.2, v9) else (zrd v9 176 (v1 + (1 : Int32))).bind fun v134 => (zwr v9 176 (v1 + (1 : Int32)) (v134 ||| ((1 : Int32) <<< ((v129 - (97 : Int32)) &&& (31 : Int32))))).bind fun v135 => (F_X4_sees fu f_length (v56.2 + (1 : Int32)) f_text (33 : Int32) (33 : Int32)).bind fun v136 => if v136 = (0 : Int32) then (F_X4_sees fu f_length (v56.2 + (1 : Int32)) f_text (97 : Int32) (100 : Int32)).bind fun v138 => if v138 = (0 : Int32) then (F_X4_sees fu f_length (v56.2 + (1 : Int32)) f_text (48 : Int32) (57 : Int32)).bind fun v140 => if v140 = (0 : Int32) then rec32 (0 : Int32) (v56.2 + (1 : Int32)) v135 else rec32 (1 : Int32) (v56.2 + (1 : Int32)) v135 else rec32 (1 : Int32) (v56.2 + (1 : Int32)) v135 else rec32 (1 : Int32) (v56.2 + (1 : Int32)) v135
def F_X4_readsBranch (fu : Nat) (f_length : Int32) (f_spot : Int32) (f_ordered : Int32) (f_text : Nat → Int32) (f_orders : Nat → Int32) (p0 : Int32) : Option (Int32 × Int32 × (Nat → Int32)) := (some ((((11 : Int32) * f_ordered) + (3 : Int32)) + ((2 : Int32) * p0))).bind fun v1 => (zwr f_orders 176 v1 (0 : Int32)).bind fun v2 => (zwr v2 176 (v1 + (1 : Int32)) (0 : Int32)).bind fun v3 => zlp3 (F_X4_readsBranch_L32 fu f_length f_text v1 (F_X4_readsBranch_E230)) fu (1 : Int32) f_spot v3
set_option maxHeartbeats 4000000 in
set_option maxRecDepth 100000 in
theorem c_X4_readsBranch (l : Launch) (D : va_G) (cI cC cO cJ : ClassId) (fu : Nat) (a_this a_s a_then a_past a_text a_met a_table a_ways a_waysOf a_into a_orders : Nat) (sz : Nat) (f_thrown : Int32) (f_saved : Int32) (f_length : Int32) (f_counted : Int32) (f_due : Int32) (f_meets : Int32) (f_isTold : Int32) (f_rests : Int32) (f_leastRest : Int32) (f_mostRest : Int32) (f_isWheel : Int32) (f_ended : Int32) (f_spot : Int32) (f_ordered : Int32) (f_cureAmount : Int32) (f_cureRelay : Int32) (f_cureWhich : Int32) (f_hash : Int64) (f_text : Nat → Int32) (f_orders : Nat → Int32) (p0 : Int32) (R : Int32 × Int32 × (Nat → Int32)) (h : F_X4_readsBranch fu f_length f_spot f_ordered f_text f_orders p0 = some R) : Met l yX4_readsBranch wsX4_readsBranch ({ frames := 3, cells := 0, slots := 0, locals := 66 } : Room) (zPw D (ztys cI cC cO cJ) [(a_this, .inr (4, [.int f_thrown, .ref a_s, .ref a_then, .ref a_past, .int f_saved, .ref a_text, .int f_length, .int f_counted, .int f_due, .ref a_met, .ref a_table, .ref a_ways, .ref a_waysOf, .ref a_into, .int f_meets, .int f_isTold, .int f_rests, .int f_leastRest, .int f_mostRest, .int f_isWheel, .int f_ended, .int f_spot, .ref a_orders, .int f_ordered, .int f_cureAmount, .int f_cureRelay, .int f_cureWhich, .long f_hash])), (a_text, .inl (cC, 60, .inl f_text)), (a_orders, .inl (cI, 176, .inl f_orders))] sz [.ref a_this, .int p0]) (zWi D R.1 [(a_this, .inr (4, [.int f_thrown, .ref a_s, .ref a_then, .ref a_past, .int f_saved, .ref a_text, .int f_length, .int f_counted, .int f_due, .ref a_met, .ref a_table, .ref a_ways, .ref a_waysOf, .ref a_into, .int f_meets, .int f_isTold, .int f_rests, .int f_leastRest, .int f_mostRest, .int f_isWheel, .int f_ended, .int R.2.1, .ref a_orders, .int f_ordered, .int f_cureAmount, .int f_cureRelay, .int f_cureWhich, .long f_hash])), (a_text, .inl (cC, 60, .inl f_text)), (a_orders, .inl (cI, 176, .inl R.2.2))] (va_A [(a_this, .inr (4, [.int f_thrown, .ref a_s, .ref a_then, .ref a_past, .int f_saved, .ref a_text, .int f_length, .int f_counted, .int f_due, .ref a_met, .ref a_table, .ref a_ways, .ref a_waysOf, .ref a_into, .int f_meets, .int f_isTold, .int f_rests, .int f_leastRest, .int f_mostRest, .int f_isWheel, .int f_ended, .int f_spot, .ref a_orders, .int f_ordered, .int f_cureAmount, .int f_cureRelay, .int f_cureWhich, .long f_hash])), (a_text, .inl (cC, 60, .inl f_text)), (a_orders, .inl (cI, 176, .inl f_orders))] sz)) 0 0 (va_A [(a_this, .inr (4, [.int f_thrown, .ref a_s, .ref a_then, .ref a_past, .int f_saved, .ref a_text, .int f_length, .int f_counted, .int f_due, .ref a_met, .ref a_table, .ref a_ways, .ref a_waysOf, .ref a_into, .int f_meets, .int f_isTold, .int f_rests, .int f_leastRest, .int f_mostRest, .int f_isWheel, .int f_ended, .int f_spot, .ref a_orders, .int f_ordered, .int f_cureAmount, .int f_cureRelay, .int f_cureWhich, .long f_hash])), (a_text, .inl (cC, 60, .inl f_text)), (a_orders, .inl (cI, 176, .inl f_orders))] sz) := by
  refine Met.ofW (cc := cX4_readsBranch) (maxL := 6) (ret := (some .boolean)) (by decide) rfl ?_
  intro p e s m args below meth c s₁ B hml hv
  obtain ⟨rfl, hsz, hP, hK, hD0⟩ := hv
  have hx := B.exec
  have hb := B.bytes
  have hr := B.returns
  have hts := atoms_spec (ws := wsX4_readsBranch) B.pre
  have hown : s.vm.findClass RX4 = some m.cls := findClass_of_methodNamed B.named
  have hlocks := B.notSynchronized
  have hinX4 : ∀ w ∈ wsX40, w ∈ wsX4_readsBranch := fun _ h => (List.mem_cons_of_mem _ (List.mem_append_right _ h))
  subst hsz
  have hD := hD0.self (sz := s.heap.size)
  generalize hAe : va_A [(a_this, .inr (4, [.int f_thrown, .ref a_s, .ref a_then, .ref a_past, .int f_saved, .ref a_text, .int f_length, .int f_counted, .int f_due, .ref a_met, .ref a_table, .ref a_ways, .ref a_waysOf, .ref a_into, .int f_meets, .int f_isTold, .int f_rests, .int f_leastRest, .int f_mostRest, .int f_isWheel, .int f_ended, .int f_spot, .ref a_orders, .int f_ordered, .int f_cureAmount, .int f_cureRelay, .int f_cureWhich, .long f_hash])), (a_text, .inl (cC, 60, .inl f_text)), (a_orders, .inl (cI, 176, .inl f_orders))] s.heap.size = A at hD ⊢
  have hA : ∀ q : Nat, s.heap.size ≤ q → A q := fun q h => by rw [← hAe]; exact Or.inr h
  have hS : va_S A s.heap s.heap [] := va_S.rf
  have hP : va_P D vwCl [(a_this, .inr (4, [.int f_thrown, .ref a_s, .ref a_then, .ref a_past, .int f_saved, .ref a_text, .int f_length, .int f_counted, .int f_due, .ref a_met, .ref a_table, .ref a_ways, .ref a_waysOf, .ref a_into, .int f_meets, .int f_isTold, .int f_rests, .int f_leastRest, .int f_mostRest, .int f_isWheel, .int f_ended, .int f_spot, .ref a_orders, .int f_ordered, .int f_cureAmount, .int f_cureRelay, .int f_cureWhich, .long f_hash])), (a_text, .inl (cC, 60, .inl f_text)), (a_orders, .inl (cI, 176, .inl f_orders))] s.heap := hP
  have hK : va_K D vwCl (ztys cI cC cO cJ) s := hK
  have hl := lv_entry ([.ref a_this, .int p0]) (n := 6) (Nat.le_of_ble_eq_true rfl)
  rw [lg_entry_eq]
  generalize (lg_sl ([.ref a_this, .int p0]) ++ List.replicate (6 - (lg_sl ([.ref a_this, .int p0])).length) Slot.unset).toArray = ls at hl ⊢
  have hl : lv_has ls 6 [(0, .ref a_this), (1, .int p0)] := hl
  unfold F_X4_readsBranch at h
  refine lv_bipush (v := (11 : Int32)) hx hb dX4_readsBranch_0 (by decide) ?_
  refine lv_aload_n hx hb dX4_readsBranch_2 rfl (lv_at hl 0 rfl) ?_
  refine va_get (D := D) (ci := 4) (v := .int f_ordered) (C := RX4) (T := TX4) (N := 28) hx hb hts hinX4 hown hK hP 0 rfl rfl 23 (by decide) (hts (Cond.fieldLink RX4 186 "LadderRelaysModel" "ordered" "I") (List.mem_of_getElem? (i := 1) rfl)) (fun _ h9 => h9) rfl dX4_readsBranch_3 ?_
  refine lv_imul hx hb dX4_readsBranch_6 ?_
  refine lv_iconst (v := (3 : Int32)) hx hb dX4_readsBranch_7 (by decide) ?_
  refine lv_iadd hx hb dX4_readsBranch_8 ?_
  refine lv_iconst (v := (2 : Int32)) hx hb dX4_readsBranch_9 (by decide) ?_
  refine lv_iload_n hx hb dX4_readsBranch_10 rfl (lv_at hl 1 rfl) ?_
  refine lv_imul hx hb dX4_readsBranch_11 ?_
  refine lv_iadd hx hb dX4_readsBranch_12 ?_
  obtain ⟨v1, hv1, h⟩ := zbnd h
  rw [Option.some.inj hv1]
  refine lv_istore_n (lv' := [(2, .int v1), (0, .ref a_this), (1, .int p0)]) hx hb dX4_readsBranch_13 rfl hl (by decide) rfl (fun ls hl => ?_)
  refine lv_aload_n hx hb dX4_readsBranch_14 rfl (lv_at hl 1 rfl) ?_
  refine va_get (D := D) (ci := 4) (v := .ref a_orders) (C := RX4) (T := TX4) (N := 28) hx hb hts hinX4 hown hK hP 0 rfl rfl 22 (by decide) (hts (Cond.fieldLink RX4 38 "LadderRelaysModel" "orders" "[I") (List.mem_of_getElem? (i := 2) rfl)) (fun _ h9 => h9) rfl dX4_readsBranch_15 ?_
  refine lv_iload_n hx hb dX4_readsBranch_18 rfl (lv_at hl 0 rfl) ?_
  refine lv_iconst (v := (0 : Int32)) hx hb dX4_readsBranch_19 (by decide) ?_
  obtain ⟨v2, hv2, h⟩ := zbnd h
  refine zr_iast hx hb hK hP hD hS 2 0 rfl rfl hv2 dX4_readsBranch_20 (fun H locs hP hD hS => ?_)
  have hP : va_P D vwCl [(a_this, .inr (4, [.int f_thrown, .ref a_s, .ref a_then, .ref a_past, .int f_saved, .ref a_text, .int f_length, .int f_counted, .int f_due, .ref a_met, .ref a_table, .ref a_ways, .ref a_waysOf, .ref a_into, .int f_meets, .int f_isTold, .int f_rests, .int f_leastRest, .int f_mostRest, .int f_isWheel, .int f_ended, .int f_spot, .ref a_orders, .int f_ordered, .int f_cureAmount, .int f_cureRelay, .int f_cureWhich, .long f_hash])), (a_text, .inl (cC, 60, .inl f_text)), (a_orders, .inl (cI, 176, .inl v2))] H := hP
  have hD : va_D A [(a_this, .inr (4, [.int f_thrown, .ref a_s, .ref a_then, .ref a_past, .int f_saved, .ref a_text, .int f_length, .int f_counted, .int f_due, .ref a_met, .ref a_table, .ref a_ways, .ref a_waysOf, .ref a_into, .int f_meets, .int f_isTold, .int f_rests, .int f_leastRest, .int f_mostRest, .int f_isWheel, .int f_ended, .int f_spot, .ref a_orders, .int f_ordered, .int f_cureAmount, .int f_cureRelay, .int f_cureWhich, .long f_hash])), (a_text, .inl (cC, 60, .inl f_text)), (a_orders, .inl (cI, 176, .inl v2))] := hD
  refine lv_aload_n hx hb dX4_readsBranch_21 rfl (lv_at hl 1 rfl) ?_
  refine va_get (D := D) (ci := 4) (v := .ref a_orders) (C := RX4) (T := TX4) (N := 28) hx hb hts hinX4 hown hK hP 0 rfl rfl 22 (by decide) (hts (Cond.fieldLink RX4 38 "LadderRelaysModel" "orders" "[I") (List.mem_of_getElem? (i := 2) rfl)) (fun _ h9 => h9) rfl dX4_readsBranch_22 ?_
  refine lv_iload_n hx hb dX4_readsBranch_25 rfl (lv_at hl 0 rfl) ?_
  refine lv_iconst (v := (1 : Int32)) hx hb dX4_readsBranch_26 (by decide) ?_
  refine lv_iadd hx hb dX4_readsBranch_27 ?_
  refine lv_iconst (v := (0 : Int32)) hx hb dX4_readsBranch_28 (by decide) ?_
  obtain ⟨v3, hv3, h⟩ := zbnd h
  refine zr_iast hx hb hK hP hD hS 2 0 rfl rfl hv3 dX4_readsBranch_29 (fun H locs hP hD hS => ?_)
  have hP : va_P D vwCl [(a_this, .inr (4, [.int f_thrown, .ref a_s, .ref a_then, .ref a_past, .int f_saved, .ref a_text, .int f_length, .int f_counted, .int f_due, .ref a_met, .ref a_table, .ref a_ways, .ref a_waysOf, .ref a_into, .int f_meets, .int f_isTold, .int f_rests, .int f_leastRest, .int f_mostRest, .int f_isWheel, .int f_ended, .int f_spot, .ref a_orders, .int f_ordered, .int f_cureAmount, .int f_cureRelay, .int f_cureWhich, .long f_hash])), (a_text, .inl (cC, 60, .inl f_text)), (a_orders, .inl (cI, 176, .inl v3))] H := hP
  have hD : va_D A [(a_this, .inr (4, [.int f_thrown, .ref a_s, .ref a_then, .ref a_past, .int f_saved, .ref a_text, .int f_length, .int f_counted, .int f_due, .ref a_met, .ref a_table, .ref a_ways, .ref a_waysOf, .ref a_into, .int f_meets, .int f_isTold, .int f_rests, .int f_leastRest, .int f_mostRest, .int f_isWheel, .int f_ended, .int f_spot, .ref a_orders, .int f_ordered, .int f_cureAmount, .int f_cureRelay, .int f_cureWhich, .long f_hash])), (a_text, .inl (cC, 60, .inl f_text)), (a_orders, .inl (cI, 176, .inl v3))] := hD
  refine lv_iconst (v := (1 : Int32)) hx hb dX4_readsBranch_30 (by decide) ?_
  refine lv_istore_n (lv' := [(3, .int (1 : Int32)), (2, .int v1), (0, .ref a_this), (1, .int p0)]) hx hb dX4_readsBranch_31 rfl hl (by decide) rfl (fun ls hl => ?_)
  have E230 : ∀ (v4 : Int32) (v5 : Int32) (v6 : Nat → Int32), F_X4_readsBranch_E230 v4 v5 v6 = some R → ∀ (H : Heap) (locs : List Loc), va_P D vwCl [(a_this, .inr (4, [.int f_thrown, .ref a_s, .ref a_then, .ref a_past, .int f_saved, .ref a_text, .int f_length, .int f_counted, .int f_due, .ref a_met, .ref a_table, .ref a_ways, .ref a_waysOf, .ref a_into, .int f_meets, .int f_isTold, .int f_rests, .int f_leastRest, .int f_mostRest, .int f_isWheel, .int f_ended, .int v5, .ref a_orders, .int f_ordered, .int f_cureAmount, .int f_cureRelay, .int f_cureWhich, .long f_hash])), (a_text, .inl (cC, 60, .inl f_text)), (a_orders, .inl (cI, 176, .inl v6))] H → va_D A [(a_this, .inr (4, [.int f_thrown, .ref a_s, .ref a_then, .ref a_past, .int f_saved, .ref a_text, .int f_length, .int f_counted, .int f_due, .ref a_met, .ref a_table, .ref a_ways, .ref a_waysOf, .ref a_into, .int f_meets, .int f_isTold, .int f_rests, .int f_leastRest, .int f_mostRest, .int f_isWheel, .int f_ended, .int v5, .ref a_orders, .int f_ordered, .int f_cureAmount, .int f_cureRelay, .int f_cureWhich, .long f_hash])), (a_text, .inl (cC, 60, .inl f_text)), (a_orders, .inl (cI, 176, .inl v6))] → va_S A s.heap H locs → ∀ ls : Array Slot, lv_has ls 6 [(0, .ref a_this), (1, .int p0), (2, .int v1), (3, .int v4)] → W p l e ({ frames := 3, cells := 0, slots := 0, locals := 66 } : Room) s m (([.ref a_this, .int p0] : List Value).toArray) below meth c H locs 0 0 (MQ below (zWi D R.1 [(a_this, .inr (4, [.int f_thrown, .ref a_s, .ref a_then, .ref a_past, .int f_saved, .ref a_text, .int f_length, .int f_counted, .int f_due, .ref a_met, .ref a_table, .ref a_ways, .ref a_waysOf, .ref a_into, .int f_meets, .int f_isTold, .int f_rests, .int f_leastRest, .int f_mostRest, .int f_isWheel, .int f_ended, .int R.2.1, .ref a_orders, .int f_ordered, .int f_cureAmount, .int f_cureRelay, .int f_cureWhich, .long f_hash])), (a_text, .inl (cC, 60, .inl f_text)), (a_orders, .inl (cI, 176, .inl R.2.2))] A) (([.ref a_this, .int p0] : List Value).toArray) s 0 0 A) (F0 m 230 ls []) := by
    intro v4 v5 v6 h H locs hP hD hS ls hl
    unfold F_X4_readsBranch_E230 at h
    refine lv_iconst (v := (1 : Int32)) hx hb dX4_readsBranch_230 (by decide) ?_
    have hR := Option.some.inj h
    subst hR
    exact W.zret (v := (1 : Int32)) (ty := .boolean) hx hb hr rfl (fun t ht hW => ⟨⟨_, (), rfl, rfl, zhp ht hP⟩, hS.F ht⟩) hS.2.2 dX4_readsBranch_231
  refine zlp_i3 (R := R) (P := fun (v7 : Int32) (v8 : Int32) (v9 : Nat → Int32) => ∀ (H : Heap) (locs : List Loc), va_P D vwCl [(a_this, .inr (4, [.int f_thrown, .ref a_s, .ref a_then, .ref a_past, .int f_saved, .ref a_text, .int f_length, .int f_counted, .int f_due, .ref a_met, .ref a_table, .ref a_ways, .ref a_waysOf, .ref a_into, .int f_meets, .int f_isTold, .int f_rests, .int f_leastRest, .int f_mostRest, .int f_isWheel, .int f_ended, .int v8, .ref a_orders, .int f_ordered, .int f_cureAmount, .int f_cureRelay, .int f_cureWhich, .long f_hash])), (a_text, .inl (cC, 60, .inl f_text)), (a_orders, .inl (cI, 176, .inl v9))] H → va_D A [(a_this, .inr (4, [.int f_thrown, .ref a_s, .ref a_then, .ref a_past, .int f_saved, .ref a_text, .int f_length, .int f_counted, .int f_due, .ref a_met, .ref a_table, .ref a_ways, .ref a_waysOf, .ref a_into, .int f_meets, .int f_isTold, .int f_rests, .int f_leastRest, .int f_mostRest, .int f_isWheel, .int f_ended, .int v8, .ref a_orders, .int f_ordered, .int f_cureAmount, .int f_cureRelay, .int f_cureWhich, .long f_hash])), (a_text, .inl (cC, 60, .inl f_text)), (a_orders, .inl (cI, 176, .inl v9))] → va_S A s.heap H locs → ∀ ls : Array Slot, lv_has ls 6 [(0, .ref a_this), (1, .int p0), (2, .int v1), (3, .int v7)] → W p l e ({ frames := 3, cells := 0, slots := 0, locals := 66 } : Room) s m (([.ref a_this, .int p0] : List Value).toArray) below meth c H locs 0 0 (MQ below (zWi D R.1 [(a_this, .inr (4, [.int f_thrown, .ref a_s, .ref a_then, .ref a_past, .int f_saved, .ref a_text, .int f_length, .int f_counted, .int f_due, .ref a_met, .ref a_table, .ref a_ways, .ref a_waysOf, .ref a_into, .int f_meets, .int f_isTold, .int f_rests, .int f_leastRest, .int f_mostRest, .int f_isWheel, .int f_ended, .int R.2.1, .ref a_orders, .int f_ordered, .int f_cureAmount, .int f_cureRelay, .int f_cureWhich, .long f_hash])), (a_text, .inl (cC, 60, .inl f_text)), (a_orders, .inl (cI, 176, .inl R.2.2))] A) (([.ref a_this, .int p0] : List Value).toArray) s 0 0 A) (F0 m 32 ls [])) (fun rec32 ih32 v7 v8 v9 h => ?_) fu (1 : Int32) f_spot v3 h _ _ hP hD hS ls (lv_sub hl [2, 3, 1, 0] rfl)
  intro H locs hP hD hS ls hl
  unfold F_X4_readsBranch_L32 at h
  refine lv_iload_n hx hb dX4_readsBranch_32 rfl (lv_at hl 3 rfl) ?_
  refine lv_if_eq (tgt := 230) hx hb dX4_readsBranch_33 (by decide) (fun c10 => ?_) (fun c10 => ?_)
  · have h := zif_t c10 h
    exact E230 v7 v8 v9 h _ _ hP hD hS ls (lv_sub hl [0, 1, 2, 3] rfl)
  · have h := zif_f c10 h
    refine lv_aload_n hx hb dX4_readsBranch_36 rfl (lv_at hl 0 rfl) ?_
    refine va_get (D := D) (ci := 4) (v := .ref a_orders) (C := RX4) (T := TX4) (N := 28) hx hb hts hinX4 hown hK hP 0 rfl rfl 22 (by decide) (hts (Cond.fieldLink RX4 38 "LadderRelaysModel" "orders" "[I") (List.mem_of_getElem? (i := 2) rfl)) (fun _ h9 => h9) rfl dX4_readsBranch_37 ?_
    refine lv_iload_n hx hb dX4_readsBranch_40 rfl (lv_at hl 2 rfl) ?_
    obtain ⟨v11, hv11, h⟩ := zbnd h
    refine zr_iald hx hb hK hP 2 0 rfl rfl hv11 dX4_readsBranch_41 ?_
    refine lv_aload_n hx hb dX4_readsBranch_42 rfl (lv_at hl 0 rfl) ?_
    refine va_get (D := D) (ci := 4) (v := .ref a_orders) (C := RX4) (T := TX4) (N := 28) hx hb hts hinX4 hown hK hP 0 rfl rfl 22 (by decide) (hts (Cond.fieldLink RX4 38 "LadderRelaysModel" "orders" "[I") (List.mem_of_getElem? (i := 2) rfl)) (fun _ h9 => h9) rfl dX4_readsBranch_43 ?_
    refine lv_iload_n hx hb dX4_readsBranch_46 rfl (lv_at hl 2 rfl) ?_
    refine lv_iconst (v := (1 : Int32)) hx hb dX4_readsBranch_47 (by decide) ?_
    refine lv_iadd hx hb dX4_readsBranch_48 ?_
    obtain ⟨v12, hv12, h⟩ := zbnd h
    refine zr_iald hx hb hK hP 2 0 rfl rfl hv12 dX4_readsBranch_49 ?_
    refine lv_ior hx hb dX4_readsBranch_50 ?_
    refine lv_sipush (v := (1023 : Int32)) hx hb dX4_readsBranch_51 (by decide) ?_
    refine lv_icmp_eq (tgt := 70) hx hb dX4_readsBranch_54 (by decide) (fun c13 => ?_) (fun c13 => ?_)
    · have h := zif_t c13 h
      refine lv_iconst (v := (0 : Int32)) hx hb dX4_readsBranch_70 (by decide) ?_
      refine lv_istore (lv' := [(4, .int (0 : Int32)), (0, .ref a_this), (1, .int p0), (2, .int v1), (3, .int v7)]) hx hb dX4_readsBranch_71 hl (by decide) rfl (fun ls hl => ?_)
      refine lv_aload_n hx hb dX4_readsBranch_73 rfl (lv_at hl 1 rfl) ?_
      refine lv_bipush (v := (97 : Int32)) hx hb dX4_readsBranch_74 (by decide) ?_
      refine lv_bipush (v := (100 : Int32)) hx hb dX4_readsBranch_76 (by decide) ?_
      obtain ⟨v14, hv14, h⟩ := zbnd h
      have hPc := hP.sub (ws' := [(a_this, .inr (4, [.int f_thrown, .ref a_s, .ref a_then, .ref a_past, .int f_saved, .ref a_text, .int f_length, .int f_counted, .int f_due, .ref a_met, .ref a_table, .ref a_ways, .ref a_waysOf, .ref a_into, .int f_meets, .int f_isTold, .int f_rests, .int f_leastRest, .int f_mostRest, .int f_isWheel, .int f_ended, .int v8, .ref a_orders, .int f_ordered, .int f_cureAmount, .int f_cureRelay, .int f_cureWhich, .long f_hash])), (a_text, .inl (cC, 60, .inl f_text))]) [0, 1] rfl
      refine zc_i (W.runV (C := RX4) (As := [.int (97 : Int32), .int (100 : Int32)]) (rest := []) ⟨hx, hb, hml, hown, hts⟩ (c_X4_sees l D cI cC cO cJ fu a_this a_s a_then a_past a_text a_met a_table a_ways a_waysOf a_into a_orders f_thrown f_saved f_length f_counted f_due f_meets f_isTold f_rests f_leastRest f_mostRest f_isWheel f_ended v8 f_ordered f_cureAmount f_cureRelay f_cureWhich f_hash f_text (97 : Int32) (100 : Int32) v14 hv14) (cwV 2 hts gX4_readsBranch_X4_sees rfl rfl rfl (by decide +kernel) ⟨Nat.le_of_ble_eq_true rfl, Nat.le_of_ble_eq_true rfl⟩) ⟨zPr_blind, (va_recv hK hP (q0 := 0) (ci := 4) rfl rfl), zPr_pre hK hPc⟩ rfl rfl hl.1 rfl (lv_room (Nat.le_of_ble_eq_true rfl)) dX4_readsBranch_78 ⟨Nat.zero_le _, Nat.zero_le _⟩) ?_
      refine lv_if_eq (tgt := 99) hx hb dX4_readsBranch_81 (by decide) (fun c15 => ?_) (fun c15 => ?_)
      · have h := zif_t c15 h
        refine lv_aload_n hx hb dX4_readsBranch_99 rfl (lv_at hl 1 rfl) ?_
        refine lv_bipush (v := (48 : Int32)) hx hb dX4_readsBranch_100 (by decide) ?_
        refine lv_bipush (v := (53 : Int32)) hx hb dX4_readsBranch_102 (by decide) ?_
        obtain ⟨v16, hv16, h⟩ := zbnd h
        have hPc := hP.sub (ws' := [(a_this, .inr (4, [.int f_thrown, .ref a_s, .ref a_then, .ref a_past, .int f_saved, .ref a_text, .int f_length, .int f_counted, .int f_due, .ref a_met, .ref a_table, .ref a_ways, .ref a_waysOf, .ref a_into, .int f_meets, .int f_isTold, .int f_rests, .int f_leastRest, .int f_mostRest, .int f_isWheel, .int f_ended, .int v8, .ref a_orders, .int f_ordered, .int f_cureAmount, .int f_cureRelay, .int f_cureWhich, .long f_hash])), (a_text, .inl (cC, 60, .inl f_text))]) [0, 1] rfl
        refine zc_i (W.runV (C := RX4) (As := [.int (48 : Int32), .int (53 : Int32)]) (rest := []) ⟨hx, hb, hml, hown, hts⟩ (c_X4_sees l D cI cC cO cJ fu a_this a_s a_then a_past a_text a_met a_table a_ways a_waysOf a_into a_orders f_thrown f_saved f_length f_counted f_due f_meets f_isTold f_rests f_leastRest f_mostRest f_isWheel f_ended v8 f_ordered f_cureAmount f_cureRelay f_cureWhich f_hash f_text (48 : Int32) (53 : Int32) v16 hv16) (cwV 2 hts gX4_readsBranch_X4_sees rfl rfl rfl (by decide +kernel) ⟨Nat.le_of_ble_eq_true rfl, Nat.le_of_ble_eq_true rfl⟩) ⟨zPr_blind, (va_recv hK hP (q0 := 0) (ci := 4) rfl rfl), zPr_pre hK hPc⟩ rfl rfl hl.1 rfl (lv_room (Nat.le_of_ble_eq_true rfl)) dX4_readsBranch_104 ⟨Nat.zero_le _, Nat.zero_le _⟩) ?_
        refine lv_if_eq (tgt := 127) hx hb dX4_readsBranch_107 (by decide) (fun c17 => ?_) (fun c17 => ?_)
        · have h := zif_t c17 h
          refine lv_iconst (v := (-1 : Int32)) hx hb dX4_readsBranch_127 (by decide) ?_
          refine lv_istore (lv' := [(5, .int (-1 : Int32)), (4, .int (0 : Int32)), (0, .ref a_this), (1, .int p0), (2, .int v1), (3, .int v7)]) hx hb dX4_readsBranch_128 hl (by decide) rfl (fun ls hl => ?_)
          refine lv_iload hx hb dX4_readsBranch_130 (lv_at hl 0 rfl) ?_
          refine lv_iconst (v := (-1 : Int32)) hx hb dX4_readsBranch_132 (by decide) ?_
          refine lv_icmp_eq (tgt := 160) hx hb dX4_readsBranch_133 (by decide) (fun c18 => ?_) (fun c18 => ?_)
          · have h := zif_t c18 h
            refine lv_iconst (v := (0 : Int32)) hx hb dX4_readsBranch_160 (by decide) ?_
            have hR := Option.some.inj h
            subst hR
            exact W.zret (v := (0 : Int32)) (ty := .boolean) hx hb hr rfl (fun t ht hW => ⟨⟨_, (), rfl, rfl, zhp ht hP⟩, hS.F ht⟩) hS.2.2 dX4_readsBranch_161
          · have h := zif_f c18 h
            refine lv_aload_n hx hb dX4_readsBranch_136 rfl (lv_at hl 2 rfl) ?_
            refine va_get (D := D) (ci := 4) (v := .ref a_orders) (C := RX4) (T := TX4) (N := 28) hx hb hts hinX4 hown hK hP 0 rfl rfl 22 (by decide) (hts (Cond.fieldLink RX4 38 "LadderRelaysModel" "orders" "[I") (List.mem_of_getElem? (i := 2) rfl)) (fun _ h9 => h9) rfl dX4_readsBranch_137 ?_
            refine lv_iload_n hx hb dX4_readsBranch_140 rfl (lv_at hl 4 rfl) ?_
            obtain ⟨v19, hv19, h⟩ := zbnd h
            refine zr_iald hx hb hK hP 2 0 rfl rfl hv19 dX4_readsBranch_141 ?_
            refine lv_aload_n hx hb dX4_readsBranch_142 rfl (lv_at hl 2 rfl) ?_
            refine va_get (D := D) (ci := 4) (v := .ref a_orders) (C := RX4) (T := TX4) (N := 28) hx hb hts hinX4 hown hK hP 0 rfl rfl 22 (by decide) (hts (Cond.fieldLink RX4 38 "LadderRelaysModel" "orders" "[I") (List.mem_of_getElem? (i := 2) rfl)) (fun _ h9 => h9) rfl dX4_readsBranch_143 ?_
            refine lv_iload_n hx hb dX4_readsBranch_146 rfl (lv_at hl 4 rfl) ?_
            refine lv_iconst (v := (1 : Int32)) hx hb dX4_readsBranch_147 (by decide) ?_
            refine lv_iadd hx hb dX4_readsBranch_148 ?_
            obtain ⟨v20, hv20, h⟩ := zbnd h
            refine zr_iald hx hb hK hP 2 0 rfl rfl hv20 dX4_readsBranch_149 ?_
            refine lv_ior hx hb dX4_readsBranch_150 ?_
            refine lv_iload hx hb dX4_readsBranch_151 (lv_at hl 0 rfl) ?_
            refine lv_ishr hx hb dX4_readsBranch_153 ?_
            refine lv_iconst (v := (1 : Int32)) hx hb dX4_readsBranch_154 (by decide) ?_
            refine lv_iand hx hb dX4_readsBranch_155 ?_
            refine lv_iconst (v := (1 : Int32)) hx hb dX4_readsBranch_156 (by decide) ?_
            refine lv_icmp_ne (tgt := 162) hx hb dX4_readsBranch_157 (by decide) (fun c21 => ?_) (fun c21 => ?_)
            · have h := zif_f c21 h
              refine lv_aload_n hx hb dX4_readsBranch_162 rfl (lv_at hl 2 rfl) ?_
              refine va_get (D := D) (ci := 4) (v := .ref a_orders) (C := RX4) (T := TX4) (N := 28) hx hb hts hinX4 hown hK hP 0 rfl rfl 22 (by decide) (hts (Cond.fieldLink RX4 38 "LadderRelaysModel" "orders" "[I") (List.mem_of_getElem? (i := 2) rfl)) (fun _ h9 => h9) rfl dX4_readsBranch_163 ?_
              refine lv_iload_n hx hb dX4_readsBranch_166 rfl (lv_at hl 4 rfl) ?_
              refine lv_iload hx hb dX4_readsBranch_167 (lv_at hl 1 rfl) ?_
              refine lv_iadd hx hb dX4_readsBranch_169 ?_
              refine lv_dup2_11 hx hb dX4_readsBranch_170 rfl rfl ?_
              obtain ⟨v22, hv22, h⟩ := zbnd h
              refine zr_iald hx hb hK hP 2 0 rfl rfl hv22 dX4_readsBranch_171 ?_
              refine lv_iconst (v := (1 : Int32)) hx hb dX4_readsBranch_172 (by decide) ?_
              refine lv_iload hx hb dX4_readsBranch_173 (lv_at hl 0 rfl) ?_
              refine lv_ishl hx hb dX4_readsBranch_175 ?_
              refine lv_ior hx hb dX4_readsBranch_176 ?_
              obtain ⟨v23, hv23, h⟩ := zbnd h
              refine zr_iast hx hb hK hP hD hS 2 0 rfl rfl hv23 dX4_readsBranch_177 (fun H locs hP hD hS => ?_)
              have hP : va_P D vwCl [(a_this, .inr (4, [.int f_thrown, .ref a_s, .ref a_then, .ref a_past, .int f_saved, .ref a_text, .int f_length, .int f_counted, .int f_due, .ref a_met, .ref a_table, .ref a_ways, .ref a_waysOf, .ref a_into, .int f_meets, .int f_isTold, .int f_rests, .int f_leastRest, .int f_mostRest, .int f_isWheel, .int f_ended, .int v8, .ref a_orders, .int f_ordered, .int f_cureAmount, .int f_cureRelay, .int f_cureWhich, .long f_hash])), (a_text, .inl (cC, 60, .inl f_text)), (a_orders, .inl (cI, 176, .inl v23))] H := hP
              have hD : va_D A [(a_this, .inr (4, [.int f_thrown, .ref a_s, .ref a_then, .ref a_past, .int f_saved, .ref a_text, .int f_length, .int f_counted, .int f_due, .ref a_met, .ref a_table, .ref a_ways, .ref a_waysOf, .ref a_into, .int f_meets, .int f_isTold, .int f_rests, .int f_leastRest, .int f_mostRest, .int f_isWheel, .int f_ended, .int v8, .ref a_orders, .int f_ordered, .int f_cureAmount, .int f_cureRelay, .int f_cureWhich, .long f_hash])), (a_text, .inl (cC, 60, .inl f_text)), (a_orders, .inl (cI, 176, .inl v23))] := hD
              refine lv_aload_n hx hb dX4_readsBranch_178 rfl (lv_at hl 2 rfl) ?_
              refine lv_dup hx hb dX4_readsBranch_179 rfl ?_
              refine va_get (D := D) (ci := 4) (v := .int v8) (C := RX4) (T := TX4) (N := 28) hx hb hts hinX4 hown hK hP 0 rfl rfl 21 (by decide) (hts (Cond.fieldLink RX4 179 "LadderRelaysModel" "spot" "I") (List.mem_of_getElem? (i := 4) rfl)) (fun _ h9 => h9) rfl dX4_readsBranch_180 ?_
              refine lv_iconst (v := (1 : Int32)) hx hb dX4_readsBranch_183 (by decide) ?_
              refine lv_iadd hx hb dX4_readsBranch_184 ?_
              refine va_put (D := D) (ci := 4) (v := .int (v8 + (1 : Int32))) (ty := .int) (C := RX4) (T := TX4) (N := 28) hx hb hts hinX4 tyX4 tyX4_ok nmX4 hown hK hP hD hS 0 rfl rfl 21 (by decide) (hts (Cond.fieldLink RX4 179 "LadderRelaysModel" "spot" "I") (List.mem_of_getElem? (i := 4) rfl)) (fun _ h9 => h9) rfl (by decide +kernel) rfl rfl (Nat.le_of_ble_eq_true rfl) dX4_readsBranch_185 (fun H locs hP hD hS => ?_)
              have hP : va_P D vwCl [(a_this, .inr (4, [.int f_thrown, .ref a_s, .ref a_then, .ref a_past, .int f_saved, .ref a_text, .int f_length, .int f_counted, .int f_due, .ref a_met, .ref a_table, .ref a_ways, .ref a_waysOf, .ref a_into, .int f_meets, .int f_isTold, .int f_rests, .int f_leastRest, .int f_mostRest, .int f_isWheel, .int f_ended, .int (v8 + (1 : Int32)), .ref a_orders, .int f_ordered, .int f_cureAmount, .int f_cureRelay, .int f_cureWhich, .long f_hash])), (a_text, .inl (cC, 60, .inl f_text)), (a_orders, .inl (cI, 176, .inl v23))] H := hP
              have hD : va_D A [(a_this, .inr (4, [.int f_thrown, .ref a_s, .ref a_then, .ref a_past, .int f_saved, .ref a_text, .int f_length, .int f_counted, .int f_due, .ref a_met, .ref a_table, .ref a_ways, .ref a_waysOf, .ref a_into, .int f_meets, .int f_isTold, .int f_rests, .int f_leastRest, .int f_mostRest, .int f_isWheel, .int f_ended, .int (v8 + (1 : Int32)), .ref a_orders, .int f_ordered, .int f_cureAmount, .int f_cureRelay, .int f_cureWhich, .long f_hash])), (a_text, .inl (cC, 60, .inl f_text)), (a_orders, .inl (cI, 176, .inl v23))] := hD
              refine lv_aload_n hx hb dX4_readsBranch_188 rfl (lv_at hl 2 rfl) ?_
              refine lv_bipush (v := (33 : Int32)) hx hb dX4_readsBranch_189 (by decide) ?_
              refine lv_bipush (v := (33 : Int32)) hx hb dX4_readsBranch_191 (by decide) ?_
              obtain ⟨v24, hv24, h⟩ := zbnd h
              have hPc := hP.sub (ws' := [(a_this, .inr (4, [.int f_thrown, .ref a_s, .ref a_then, .ref a_past, .int f_saved, .ref a_text, .int f_length, .int f_counted, .int f_due, .ref a_met, .ref a_table, .ref a_ways, .ref a_waysOf, .ref a_into, .int f_meets, .int f_isTold, .int f_rests, .int f_leastRest, .int f_mostRest, .int f_isWheel, .int f_ended, .int (v8 + (1 : Int32)), .ref a_orders, .int f_ordered, .int f_cureAmount, .int f_cureRelay, .int f_cureWhich, .long f_hash])), (a_text, .inl (cC, 60, .inl f_text))]) [0, 1] rfl
              refine zc_i (W.runV (C := RX4) (As := [.int (33 : Int32), .int (33 : Int32)]) (rest := []) ⟨hx, hb, hml, hown, hts⟩ (c_X4_sees l D cI cC cO cJ fu a_this a_s a_then a_past a_text a_met a_table a_ways a_waysOf a_into a_orders f_thrown f_saved f_length f_counted f_due f_meets f_isTold f_rests f_leastRest f_mostRest f_isWheel f_ended (v8 + (1 : Int32)) f_ordered f_cureAmount f_cureRelay f_cureWhich f_hash f_text (33 : Int32) (33 : Int32) v24 hv24) (cwV 2 hts gX4_readsBranch_X4_sees rfl rfl rfl (by decide +kernel) ⟨Nat.le_of_ble_eq_true rfl, Nat.le_of_ble_eq_true rfl⟩) ⟨zPr_blind, (va_recv hK hP (q0 := 0) (ci := 4) rfl rfl), zPr_pre hK hPc⟩ rfl rfl hl.1 rfl (lv_room (Nat.le_of_ble_eq_true rfl)) dX4_readsBranch_193 ⟨Nat.zero_le _, Nat.zero_le _⟩) ?_
              refine lv_if_ne (tgt := 221) hx hb dX4_readsBranch_196 (by decide) (fun c25 => ?_) (fun c25 => ?_)
              · have h := zif_f c25 h
                refine lv_iconst (v := (1 : Int32)) hx hb dX4_readsBranch_221 (by decide) ?_
                refine lv_goto (tgt := 226) hx hb dX4_readsBranch_222 (by decide) ?_
                refine lv_istore_n (lv' := [(3, .int (1 : Int32)), (5, .int (-1 : Int32)), (4, .int (0 : Int32)), (0, .ref a_this), (1, .int p0), (2, .int v1)]) hx hb dX4_readsBranch_226 rfl hl (by decide) rfl (fun ls hl => ?_)
                refine lv_goto (tgt := 32) hx hb dX4_readsBranch_227 (by decide) ?_
                exact ih32 (1 : Int32) (v8 + (1 : Int32)) v23 h _ _ hP hD hS ls (lv_sub hl [3, 4, 5, 0] rfl)
              · have h := zif_t c25 h
                refine lv_aload_n hx hb dX4_readsBranch_199 rfl (lv_at hl 2 rfl) ?_
                refine lv_bipush (v := (97 : Int32)) hx hb dX4_readsBranch_200 (by decide) ?_
                refine lv_bipush (v := (100 : Int32)) hx hb dX4_readsBranch_202 (by decide) ?_
                obtain ⟨v26, hv26, h⟩ := zbnd h
                have hPc := hP.sub (ws' := [(a_this, .inr (4, [.int f_thrown, .ref a_s, .ref a_then, .ref a_past, .int f_saved, .ref a_text, .int f_length, .int f_counted, .int f_due, .ref a_met, .ref a_table, .ref a_ways, .ref a_waysOf, .ref a_into, .int f_meets, .int f_isTold, .int f_rests, .int f_leastRest, .int f_mostRest, .int f_isWheel, .int f_ended, .int (v8 + (1 : Int32)), .ref a_orders, .int f_ordered, .int f_cureAmount, .int f_cureRelay, .int f_cureWhich, .long f_hash])), (a_text, .inl (cC, 60, .inl f_text))]) [0, 1] rfl
                refine zc_i (W.runV (C := RX4) (As := [.int (97 : Int32), .int (100 : Int32)]) (rest := []) ⟨hx, hb, hml, hown, hts⟩ (c_X4_sees l D cI cC cO cJ fu a_this a_s a_then a_past a_text a_met a_table a_ways a_waysOf a_into a_orders f_thrown f_saved f_length f_counted f_due f_meets f_isTold f_rests f_leastRest f_mostRest f_isWheel f_ended (v8 + (1 : Int32)) f_ordered f_cureAmount f_cureRelay f_cureWhich f_hash f_text (97 : Int32) (100 : Int32) v26 hv26) (cwV 2 hts gX4_readsBranch_X4_sees rfl rfl rfl (by decide +kernel) ⟨Nat.le_of_ble_eq_true rfl, Nat.le_of_ble_eq_true rfl⟩) ⟨zPr_blind, (va_recv hK hP (q0 := 0) (ci := 4) rfl rfl), zPr_pre hK hPc⟩ rfl rfl hl.1 rfl (lv_room (Nat.le_of_ble_eq_true rfl)) dX4_readsBranch_204 ⟨Nat.zero_le _, Nat.zero_le _⟩) ?_
                refine lv_if_ne (tgt := 221) hx hb dX4_readsBranch_207 (by decide) (fun c27 => ?_) (fun c27 => ?_)
                · have h := zif_f c27 h
                  refine lv_iconst (v := (1 : Int32)) hx hb dX4_readsBranch_221 (by decide) ?_
                  refine lv_goto (tgt := 226) hx hb dX4_readsBranch_222 (by decide) ?_
                  refine lv_istore_n (lv' := [(3, .int (1 : Int32)), (5, .int (-1 : Int32)), (4, .int (0 : Int32)), (0, .ref a_this), (1, .int p0), (2, .int v1)]) hx hb dX4_readsBranch_226 rfl hl (by decide) rfl (fun ls hl => ?_)
                  refine lv_goto (tgt := 32) hx hb dX4_readsBranch_227 (by decide) ?_
                  exact ih32 (1 : Int32) (v8 + (1 : Int32)) v23 h _ _ hP hD hS ls (lv_sub hl [3, 4, 5, 0] rfl)
                · have h := zif_t c27 h
                  refine lv_aload_n hx hb dX4_readsBranch_210 rfl (lv_at hl 2 rfl) ?_
                  refine lv_bipush (v := (48 : Int32)) hx hb dX4_readsBranch_211 (by decide) ?_
                  refine lv_bipush (v := (57 : Int32)) hx hb dX4_readsBranch_213 (by decide) ?_
                  obtain ⟨v28, hv28, h⟩ := zbnd h
                  have hPc := hP.sub (ws' := [(a_this, .inr (4, [.int f_thrown, .ref a_s, .ref a_then, .ref a_past, .int f_saved, .ref a_text, .int f_length, .int f_counted, .int f_due, .ref a_met, .ref a_table, .ref a_ways, .ref a_waysOf, .ref a_into, .int f_meets, .int f_isTold, .int f_rests, .int f_leastRest, .int f_mostRest, .int f_isWheel, .int f_ended, .int (v8 + (1 : Int32)), .ref a_orders, .int f_ordered, .int f_cureAmount, .int f_cureRelay, .int f_cureWhich, .long f_hash])), (a_text, .inl (cC, 60, .inl f_text))]) [0, 1] rfl
                  refine zc_i (W.runV (C := RX4) (As := [.int (48 : Int32), .int (57 : Int32)]) (rest := []) ⟨hx, hb, hml, hown, hts⟩ (c_X4_sees l D cI cC cO cJ fu a_this a_s a_then a_past a_text a_met a_table a_ways a_waysOf a_into a_orders f_thrown f_saved f_length f_counted f_due f_meets f_isTold f_rests f_leastRest f_mostRest f_isWheel f_ended (v8 + (1 : Int32)) f_ordered f_cureAmount f_cureRelay f_cureWhich f_hash f_text (48 : Int32) (57 : Int32) v28 hv28) (cwV 2 hts gX4_readsBranch_X4_sees rfl rfl rfl (by decide +kernel) ⟨Nat.le_of_ble_eq_true rfl, Nat.le_of_ble_eq_true rfl⟩) ⟨zPr_blind, (va_recv hK hP (q0 := 0) (ci := 4) rfl rfl), zPr_pre hK hPc⟩ rfl rfl hl.1 rfl (lv_room (Nat.le_of_ble_eq_true rfl)) dX4_readsBranch_215 ⟨Nat.zero_le _, Nat.zero_le _⟩) ?_
                  refine lv_if_eq (tgt := 225) hx hb dX4_readsBranch_218 (by decide) (fun c29 => ?_) (fun c29 => ?_)
                  · have h := zif_t c29 h
                    refine lv_iconst (v := (0 : Int32)) hx hb dX4_readsBranch_225 (by decide) ?_
                    refine lv_istore_n (lv' := [(3, .int (0 : Int32)), (5, .int (-1 : Int32)), (4, .int (0 : Int32)), (0, .ref a_this), (1, .int p0), (2, .int v1)]) hx hb dX4_readsBranch_226 rfl hl (by decide) rfl (fun ls hl => ?_)
                    refine lv_goto (tgt := 32) hx hb dX4_readsBranch_227 (by decide) ?_
                    exact ih32 (0 : Int32) (v8 + (1 : Int32)) v23 h _ _ hP hD hS ls (lv_sub hl [3, 4, 5, 0] rfl)
                  · have h := zif_f c29 h
                    refine lv_iconst (v := (1 : Int32)) hx hb dX4_readsBranch_221 (by decide) ?_
                    refine lv_goto (tgt := 226) hx hb dX4_readsBranch_222 (by decide) ?_
                    refine lv_istore_n (lv' := [(3, .int (1 : Int32)), (5, .int (-1 : Int32)), (4, .int (0 : Int32)), (0, .ref a_this), (1, .int p0), (2, .int v1)]) hx hb dX4_readsBranch_226 rfl hl (by decide) rfl (fun ls hl => ?_)
                    refine lv_goto (tgt := 32) hx hb dX4_readsBranch_227 (by decide) ?_
                    exact ih32 (1 : Int32) (v8 + (1 : Int32)) v23 h _ _ hP hD hS ls (lv_sub hl [3, 4, 5, 0] rfl)
            · have h := zif_t c21 h
              refine lv_iconst (v := (0 : Int32)) hx hb dX4_readsBranch_160 (by decide) ?_
              have hR := Option.some.inj h
              subst hR
              exact W.zret (v := (0 : Int32)) (ty := .boolean) hx hb hr rfl (fun t ht hW => ⟨⟨_, (), rfl, rfl, zhp ht hP⟩, hS.F ht⟩) hS.2.2 dX4_readsBranch_161
        · have h := zif_f c17 h
          refine lv_iconst (v := (4 : Int32)) hx hb dX4_readsBranch_110 (by decide) ?_
          refine lv_aload_n hx hb dX4_readsBranch_111 rfl (lv_at hl 1 rfl) ?_
          refine va_get (D := D) (ci := 4) (v := .ref a_text) (C := RX4) (T := TX4) (N := 28) hx hb hts hinX4 hown hK hP 0 rfl rfl 5 (by decide) (hts (Cond.fieldLink RX4 19 "LadderRelaysModel" "text" "[C") (List.mem_of_getElem? (i := 3) rfl)) (fun _ h9 => h9) rfl dX4_readsBranch_112 ?_
          refine lv_aload_n hx hb dX4_readsBranch_115 rfl (lv_at hl 1 rfl) ?_
          refine va_get (D := D) (ci := 4) (v := .int v8) (C := RX4) (T := TX4) (N := 28) hx hb hts hinX4 hown hK hP 0 rfl rfl 21 (by decide) (hts (Cond.fieldLink RX4 179 "LadderRelaysModel" "spot" "I") (List.mem_of_getElem? (i := 4) rfl)) (fun _ h9 => h9) rfl dX4_readsBranch_116 ?_
          obtain ⟨v30, hv30, h⟩ := zbnd h
          refine zr_cald hx hb hK hP 1 1 rfl rfl hv30 dX4_readsBranch_119 ?_
          refine lv_iadd hx hb dX4_readsBranch_120 ?_
          refine lv_bipush (v := (48 : Int32)) hx hb dX4_readsBranch_121 (by decide) ?_
          refine lv_isub hx hb dX4_readsBranch_123 ?_
          refine lv_goto (tgt := 128) hx hb dX4_readsBranch_124 (by decide) ?_
          refine lv_istore (lv' := [(5, .int (((4 : Int32) + v30) - (48 : Int32))), (4, .int (0 : Int32)), (0, .ref a_this), (1, .int p0), (2, .int v1), (3, .int v7)]) hx hb dX4_readsBranch_128 hl (by decide) rfl (fun ls hl => ?_)
          refine lv_iload hx hb dX4_readsBranch_130 (lv_at hl 0 rfl) ?_
          refine lv_iconst (v := (-1 : Int32)) hx hb dX4_readsBranch_132 (by decide) ?_
          refine lv_icmp_eq (tgt := 160) hx hb dX4_readsBranch_133 (by decide) (fun c31 => ?_) (fun c31 => ?_)
          · have h := zif_t c31 h
            refine lv_iconst (v := (0 : Int32)) hx hb dX4_readsBranch_160 (by decide) ?_
            have hR := Option.some.inj h
            subst hR
            exact W.zret (v := (0 : Int32)) (ty := .boolean) hx hb hr rfl (fun t ht hW => ⟨⟨_, (), rfl, rfl, zhp ht hP⟩, hS.F ht⟩) hS.2.2 dX4_readsBranch_161
          · have h := zif_f c31 h
            refine lv_aload_n hx hb dX4_readsBranch_136 rfl (lv_at hl 2 rfl) ?_
            refine va_get (D := D) (ci := 4) (v := .ref a_orders) (C := RX4) (T := TX4) (N := 28) hx hb hts hinX4 hown hK hP 0 rfl rfl 22 (by decide) (hts (Cond.fieldLink RX4 38 "LadderRelaysModel" "orders" "[I") (List.mem_of_getElem? (i := 2) rfl)) (fun _ h9 => h9) rfl dX4_readsBranch_137 ?_
            refine lv_iload_n hx hb dX4_readsBranch_140 rfl (lv_at hl 4 rfl) ?_
            obtain ⟨v32, hv32, h⟩ := zbnd h
            refine zr_iald hx hb hK hP 2 0 rfl rfl hv32 dX4_readsBranch_141 ?_
            refine lv_aload_n hx hb dX4_readsBranch_142 rfl (lv_at hl 2 rfl) ?_
            refine va_get (D := D) (ci := 4) (v := .ref a_orders) (C := RX4) (T := TX4) (N := 28) hx hb hts hinX4 hown hK hP 0 rfl rfl 22 (by decide) (hts (Cond.fieldLink RX4 38 "LadderRelaysModel" "orders" "[I") (List.mem_of_getElem? (i := 2) rfl)) (fun _ h9 => h9) rfl dX4_readsBranch_143 ?_
            refine lv_iload_n hx hb dX4_readsBranch_146 rfl (lv_at hl 4 rfl) ?_
            refine lv_iconst (v := (1 : Int32)) hx hb dX4_readsBranch_147 (by decide) ?_
            refine lv_iadd hx hb dX4_readsBranch_148 ?_
            obtain ⟨v33, hv33, h⟩ := zbnd h
            refine zr_iald hx hb hK hP 2 0 rfl rfl hv33 dX4_readsBranch_149 ?_
            refine lv_ior hx hb dX4_readsBranch_150 ?_
            refine lv_iload hx hb dX4_readsBranch_151 (lv_at hl 0 rfl) ?_
            refine lv_ishr hx hb dX4_readsBranch_153 ?_
            refine lv_iconst (v := (1 : Int32)) hx hb dX4_readsBranch_154 (by decide) ?_
            refine lv_iand hx hb dX4_readsBranch_155 ?_
            refine lv_iconst (v := (1 : Int32)) hx hb dX4_readsBranch_156 (by decide) ?_
            refine lv_icmp_ne (tgt := 162) hx hb dX4_readsBranch_157 (by decide) (fun c34 => ?_) (fun c34 => ?_)
            · have h := zif_f c34 h
              refine lv_aload_n hx hb dX4_readsBranch_162 rfl (lv_at hl 2 rfl) ?_
              refine va_get (D := D) (ci := 4) (v := .ref a_orders) (C := RX4) (T := TX4) (N := 28) hx hb hts hinX4 hown hK hP 0 rfl rfl 22 (by decide) (hts (Cond.fieldLink RX4 38 "LadderRelaysModel" "orders" "[I") (List.mem_of_getElem? (i := 2) rfl)) (fun _ h9 => h9) rfl dX4_readsBranch_163 ?_
              refine lv_iload_n hx hb dX4_readsBranch_166 rfl (lv_at hl 4 rfl) ?_
              refine lv_iload hx hb dX4_readsBranch_167 (lv_at hl 1 rfl) ?_
              refine lv_iadd hx hb dX4_readsBranch_169 ?_
              refine lv_dup2_11 hx hb dX4_readsBranch_170 rfl rfl ?_
              obtain ⟨v35, hv35, h⟩ := zbnd h
              refine zr_iald hx hb hK hP 2 0 rfl rfl hv35 dX4_readsBranch_171 ?_
              refine lv_iconst (v := (1 : Int32)) hx hb dX4_readsBranch_172 (by decide) ?_
              refine lv_iload hx hb dX4_readsBranch_173 (lv_at hl 0 rfl) ?_
              refine lv_ishl hx hb dX4_readsBranch_175 ?_
              refine lv_ior hx hb dX4_readsBranch_176 ?_
              obtain ⟨v36, hv36, h⟩ := zbnd h
              refine zr_iast hx hb hK hP hD hS 2 0 rfl rfl hv36 dX4_readsBranch_177 (fun H locs hP hD hS => ?_)
              have hP : va_P D vwCl [(a_this, .inr (4, [.int f_thrown, .ref a_s, .ref a_then, .ref a_past, .int f_saved, .ref a_text, .int f_length, .int f_counted, .int f_due, .ref a_met, .ref a_table, .ref a_ways, .ref a_waysOf, .ref a_into, .int f_meets, .int f_isTold, .int f_rests, .int f_leastRest, .int f_mostRest, .int f_isWheel, .int f_ended, .int v8, .ref a_orders, .int f_ordered, .int f_cureAmount, .int f_cureRelay, .int f_cureWhich, .long f_hash])), (a_text, .inl (cC, 60, .inl f_text)), (a_orders, .inl (cI, 176, .inl v36))] H := hP
              have hD : va_D A [(a_this, .inr (4, [.int f_thrown, .ref a_s, .ref a_then, .ref a_past, .int f_saved, .ref a_text, .int f_length, .int f_counted, .int f_due, .ref a_met, .ref a_table, .ref a_ways, .ref a_waysOf, .ref a_into, .int f_meets, .int f_isTold, .int f_rests, .int f_leastRest, .int f_mostRest, .int f_isWheel, .int f_ended, .int v8, .ref a_orders, .int f_ordered, .int f_cureAmount, .int f_cureRelay, .int f_cureWhich, .long f_hash])), (a_text, .inl (cC, 60, .inl f_text)), (a_orders, .inl (cI, 176, .inl v36))] := hD
              refine lv_aload_n hx hb dX4_readsBranch_178 rfl (lv_at hl 2 rfl) ?_
              refine lv_dup hx hb dX4_readsBranch_179 rfl ?_
              refine va_get (D := D) (ci := 4) (v := .int v8) (C := RX4) (T := TX4) (N := 28) hx hb hts hinX4 hown hK hP 0 rfl rfl 21 (by decide) (hts (Cond.fieldLink RX4 179 "LadderRelaysModel" "spot" "I") (List.mem_of_getElem? (i := 4) rfl)) (fun _ h9 => h9) rfl dX4_readsBranch_180 ?_
              refine lv_iconst (v := (1 : Int32)) hx hb dX4_readsBranch_183 (by decide) ?_
              refine lv_iadd hx hb dX4_readsBranch_184 ?_
              refine va_put (D := D) (ci := 4) (v := .int (v8 + (1 : Int32))) (ty := .int) (C := RX4) (T := TX4) (N := 28) hx hb hts hinX4 tyX4 tyX4_ok nmX4 hown hK hP hD hS 0 rfl rfl 21 (by decide) (hts (Cond.fieldLink RX4 179 "LadderRelaysModel" "spot" "I") (List.mem_of_getElem? (i := 4) rfl)) (fun _ h9 => h9) rfl (by decide +kernel) rfl rfl (Nat.le_of_ble_eq_true rfl) dX4_readsBranch_185 (fun H locs hP hD hS => ?_)
              have hP : va_P D vwCl [(a_this, .inr (4, [.int f_thrown, .ref a_s, .ref a_then, .ref a_past, .int f_saved, .ref a_text, .int f_length, .int f_counted, .int f_due, .ref a_met, .ref a_table, .ref a_ways, .ref a_waysOf, .ref a_into, .int f_meets, .int f_isTold, .int f_rests, .int f_leastRest, .int f_mostRest, .int f_isWheel, .int f_ended, .int (v8 + (1 : Int32)), .ref a_orders, .int f_ordered, .int f_cureAmount, .int f_cureRelay, .int f_cureWhich, .long f_hash])), (a_text, .inl (cC, 60, .inl f_text)), (a_orders, .inl (cI, 176, .inl v36))] H := hP
              have hD : va_D A [(a_this, .inr (4, [.int f_thrown, .ref a_s, .ref a_then, .ref a_past, .int f_saved, .ref a_text, .int f_length, .int f_counted, .int f_due, .ref a_met, .ref a_table, .ref a_ways, .ref a_waysOf, .ref a_into, .int f_meets, .int f_isTold, .int f_rests, .int f_leastRest, .int f_mostRest, .int f_isWheel, .int f_ended, .int (v8 + (1 : Int32)), .ref a_orders, .int f_ordered, .int f_cureAmount, .int f_cureRelay, .int f_cureWhich, .long f_hash])), (a_text, .inl (cC, 60, .inl f_text)), (a_orders, .inl (cI, 176, .inl v36))] := hD
              refine lv_aload_n hx hb dX4_readsBranch_188 rfl (lv_at hl 2 rfl) ?_
              refine lv_bipush (v := (33 : Int32)) hx hb dX4_readsBranch_189 (by decide) ?_
              refine lv_bipush (v := (33 : Int32)) hx hb dX4_readsBranch_191 (by decide) ?_
              obtain ⟨v37, hv37, h⟩ := zbnd h
              have hPc := hP.sub (ws' := [(a_this, .inr (4, [.int f_thrown, .ref a_s, .ref a_then, .ref a_past, .int f_saved, .ref a_text, .int f_length, .int f_counted, .int f_due, .ref a_met, .ref a_table, .ref a_ways, .ref a_waysOf, .ref a_into, .int f_meets, .int f_isTold, .int f_rests, .int f_leastRest, .int f_mostRest, .int f_isWheel, .int f_ended, .int (v8 + (1 : Int32)), .ref a_orders, .int f_ordered, .int f_cureAmount, .int f_cureRelay, .int f_cureWhich, .long f_hash])), (a_text, .inl (cC, 60, .inl f_text))]) [0, 1] rfl
              refine zc_i (W.runV (C := RX4) (As := [.int (33 : Int32), .int (33 : Int32)]) (rest := []) ⟨hx, hb, hml, hown, hts⟩ (c_X4_sees l D cI cC cO cJ fu a_this a_s a_then a_past a_text a_met a_table a_ways a_waysOf a_into a_orders f_thrown f_saved f_length f_counted f_due f_meets f_isTold f_rests f_leastRest f_mostRest f_isWheel f_ended (v8 + (1 : Int32)) f_ordered f_cureAmount f_cureRelay f_cureWhich f_hash f_text (33 : Int32) (33 : Int32) v37 hv37) (cwV 2 hts gX4_readsBranch_X4_sees rfl rfl rfl (by decide +kernel) ⟨Nat.le_of_ble_eq_true rfl, Nat.le_of_ble_eq_true rfl⟩) ⟨zPr_blind, (va_recv hK hP (q0 := 0) (ci := 4) rfl rfl), zPr_pre hK hPc⟩ rfl rfl hl.1 rfl (lv_room (Nat.le_of_ble_eq_true rfl)) dX4_readsBranch_193 ⟨Nat.zero_le _, Nat.zero_le _⟩) ?_
              refine lv_if_ne (tgt := 221) hx hb dX4_readsBranch_196 (by decide) (fun c38 => ?_) (fun c38 => ?_)
              · have h := zif_f c38 h
                refine lv_iconst (v := (1 : Int32)) hx hb dX4_readsBranch_221 (by decide) ?_
                refine lv_goto (tgt := 226) hx hb dX4_readsBranch_222 (by decide) ?_
                refine lv_istore_n (lv' := [(3, .int (1 : Int32)), (5, .int (((4 : Int32) + v30) - (48 : Int32))), (4, .int (0 : Int32)), (0, .ref a_this), (1, .int p0), (2, .int v1)]) hx hb dX4_readsBranch_226 rfl hl (by decide) rfl (fun ls hl => ?_)
                refine lv_goto (tgt := 32) hx hb dX4_readsBranch_227 (by decide) ?_
                exact ih32 (1 : Int32) (v8 + (1 : Int32)) v36 h _ _ hP hD hS ls (lv_sub hl [3, 4, 5, 0] rfl)
              · have h := zif_t c38 h
                refine lv_aload_n hx hb dX4_readsBranch_199 rfl (lv_at hl 2 rfl) ?_
                refine lv_bipush (v := (97 : Int32)) hx hb dX4_readsBranch_200 (by decide) ?_
                refine lv_bipush (v := (100 : Int32)) hx hb dX4_readsBranch_202 (by decide) ?_
                obtain ⟨v39, hv39, h⟩ := zbnd h
                have hPc := hP.sub (ws' := [(a_this, .inr (4, [.int f_thrown, .ref a_s, .ref a_then, .ref a_past, .int f_saved, .ref a_text, .int f_length, .int f_counted, .int f_due, .ref a_met, .ref a_table, .ref a_ways, .ref a_waysOf, .ref a_into, .int f_meets, .int f_isTold, .int f_rests, .int f_leastRest, .int f_mostRest, .int f_isWheel, .int f_ended, .int (v8 + (1 : Int32)), .ref a_orders, .int f_ordered, .int f_cureAmount, .int f_cureRelay, .int f_cureWhich, .long f_hash])), (a_text, .inl (cC, 60, .inl f_text))]) [0, 1] rfl
                refine zc_i (W.runV (C := RX4) (As := [.int (97 : Int32), .int (100 : Int32)]) (rest := []) ⟨hx, hb, hml, hown, hts⟩ (c_X4_sees l D cI cC cO cJ fu a_this a_s a_then a_past a_text a_met a_table a_ways a_waysOf a_into a_orders f_thrown f_saved f_length f_counted f_due f_meets f_isTold f_rests f_leastRest f_mostRest f_isWheel f_ended (v8 + (1 : Int32)) f_ordered f_cureAmount f_cureRelay f_cureWhich f_hash f_text (97 : Int32) (100 : Int32) v39 hv39) (cwV 2 hts gX4_readsBranch_X4_sees rfl rfl rfl (by decide +kernel) ⟨Nat.le_of_ble_eq_true rfl, Nat.le_of_ble_eq_true rfl⟩) ⟨zPr_blind, (va_recv hK hP (q0 := 0) (ci := 4) rfl rfl), zPr_pre hK hPc⟩ rfl rfl hl.1 rfl (lv_room (Nat.le_of_ble_eq_true rfl)) dX4_readsBranch_204 ⟨Nat.zero_le _, Nat.zero_le _⟩) ?_
                refine lv_if_ne (tgt := 221) hx hb dX4_readsBranch_207 (by decide) (fun c40 => ?_) (fun c40 => ?_)
                · have h := zif_f c40 h
                  refine lv_iconst (v := (1 : Int32)) hx hb dX4_readsBranch_221 (by decide) ?_
                  refine lv_goto (tgt := 226) hx hb dX4_readsBranch_222 (by decide) ?_
                  refine lv_istore_n (lv' := [(3, .int (1 : Int32)), (5, .int (((4 : Int32) + v30) - (48 : Int32))), (4, .int (0 : Int32)), (0, .ref a_this), (1, .int p0), (2, .int v1)]) hx hb dX4_readsBranch_226 rfl hl (by decide) rfl (fun ls hl => ?_)
                  refine lv_goto (tgt := 32) hx hb dX4_readsBranch_227 (by decide) ?_
                  exact ih32 (1 : Int32) (v8 + (1 : Int32)) v36 h _ _ hP hD hS ls (lv_sub hl [3, 4, 5, 0] rfl)
                · have h := zif_t c40 h
                  refine lv_aload_n hx hb dX4_readsBranch_210 rfl (lv_at hl 2 rfl) ?_
                  refine lv_bipush (v := (48 : Int32)) hx hb dX4_readsBranch_211 (by decide) ?_
                  refine lv_bipush (v := (57 : Int32)) hx hb dX4_readsBranch_213 (by decide) ?_
                  obtain ⟨v41, hv41, h⟩ := zbnd h
                  have hPc := hP.sub (ws' := [(a_this, .inr (4, [.int f_thrown, .ref a_s, .ref a_then, .ref a_past, .int f_saved, .ref a_text, .int f_length, .int f_counted, .int f_due, .ref a_met, .ref a_table, .ref a_ways, .ref a_waysOf, .ref a_into, .int f_meets, .int f_isTold, .int f_rests, .int f_leastRest, .int f_mostRest, .int f_isWheel, .int f_ended, .int (v8 + (1 : Int32)), .ref a_orders, .int f_ordered, .int f_cureAmount, .int f_cureRelay, .int f_cureWhich, .long f_hash])), (a_text, .inl (cC, 60, .inl f_text))]) [0, 1] rfl
                  refine zc_i (W.runV (C := RX4) (As := [.int (48 : Int32), .int (57 : Int32)]) (rest := []) ⟨hx, hb, hml, hown, hts⟩ (c_X4_sees l D cI cC cO cJ fu a_this a_s a_then a_past a_text a_met a_table a_ways a_waysOf a_into a_orders f_thrown f_saved f_length f_counted f_due f_meets f_isTold f_rests f_leastRest f_mostRest f_isWheel f_ended (v8 + (1 : Int32)) f_ordered f_cureAmount f_cureRelay f_cureWhich f_hash f_text (48 : Int32) (57 : Int32) v41 hv41) (cwV 2 hts gX4_readsBranch_X4_sees rfl rfl rfl (by decide +kernel) ⟨Nat.le_of_ble_eq_true rfl, Nat.le_of_ble_eq_true rfl⟩) ⟨zPr_blind, (va_recv hK hP (q0 := 0) (ci := 4) rfl rfl), zPr_pre hK hPc⟩ rfl rfl hl.1 rfl (lv_room (Nat.le_of_ble_eq_true rfl)) dX4_readsBranch_215 ⟨Nat.zero_le _, Nat.zero_le _⟩) ?_
                  refine lv_if_eq (tgt := 225) hx hb dX4_readsBranch_218 (by decide) (fun c42 => ?_) (fun c42 => ?_)
                  · have h := zif_t c42 h
                    refine lv_iconst (v := (0 : Int32)) hx hb dX4_readsBranch_225 (by decide) ?_
                    refine lv_istore_n (lv' := [(3, .int (0 : Int32)), (5, .int (((4 : Int32) + v30) - (48 : Int32))), (4, .int (0 : Int32)), (0, .ref a_this), (1, .int p0), (2, .int v1)]) hx hb dX4_readsBranch_226 rfl hl (by decide) rfl (fun ls hl => ?_)
                    refine lv_goto (tgt := 32) hx hb dX4_readsBranch_227 (by decide) ?_
                    exact ih32 (0 : Int32) (v8 + (1 : Int32)) v36 h _ _ hP hD hS ls (lv_sub hl [3, 4, 5, 0] rfl)
                  · have h := zif_f c42 h
                    refine lv_iconst (v := (1 : Int32)) hx hb dX4_readsBranch_221 (by decide) ?_
                    refine lv_goto (tgt := 226) hx hb dX4_readsBranch_222 (by decide) ?_
                    refine lv_istore_n (lv' := [(3, .int (1 : Int32)), (5, .int (((4 : Int32) + v30) - (48 : Int32))), (4, .int (0 : Int32)), (0, .ref a_this), (1, .int p0), (2, .int v1)]) hx hb dX4_readsBranch_226 rfl hl (by decide) rfl (fun ls hl => ?_)
                    refine lv_goto (tgt := 32) hx hb dX4_readsBranch_227 (by decide) ?_
                    exact ih32 (1 : Int32) (v8 + (1 : Int32)) v36 h _ _ hP hD hS ls (lv_sub hl [3, 4, 5, 0] rfl)
            · have h := zif_t c34 h
              refine lv_iconst (v := (0 : Int32)) hx hb dX4_readsBranch_160 (by decide) ?_
              have hR := Option.some.inj h
              subst hR
              exact W.zret (v := (0 : Int32)) (ty := .boolean) hx hb hr rfl (fun t ht hW => ⟨⟨_, (), rfl, rfl, zhp ht hP⟩, hS.F ht⟩) hS.2.2 dX4_readsBranch_161
      · have h := zif_f c15 h
        refine lv_aload_n hx hb dX4_readsBranch_84 rfl (lv_at hl 1 rfl) ?_
        refine va_get (D := D) (ci := 4) (v := .ref a_text) (C := RX4) (T := TX4) (N := 28) hx hb hts hinX4 hown hK hP 0 rfl rfl 5 (by decide) (hts (Cond.fieldLink RX4 19 "LadderRelaysModel" "text" "[C") (List.mem_of_getElem? (i := 3) rfl)) (fun _ h9 => h9) rfl dX4_readsBranch_85 ?_
        refine lv_aload_n hx hb dX4_readsBranch_88 rfl (lv_at hl 1 rfl) ?_
        refine va_get (D := D) (ci := 4) (v := .int v8) (C := RX4) (T := TX4) (N := 28) hx hb hts hinX4 hown hK hP 0 rfl rfl 21 (by decide) (hts (Cond.fieldLink RX4 179 "LadderRelaysModel" "spot" "I") (List.mem_of_getElem? (i := 4) rfl)) (fun _ h9 => h9) rfl dX4_readsBranch_89 ?_
        obtain ⟨v43, hv43, h⟩ := zbnd h
        refine zr_cald hx hb hK hP 1 1 rfl rfl hv43 dX4_readsBranch_92 ?_
        refine lv_bipush (v := (97 : Int32)) hx hb dX4_readsBranch_93 (by decide) ?_
        refine lv_isub hx hb dX4_readsBranch_95 ?_
        refine lv_goto (tgt := 128) hx hb dX4_readsBranch_96 (by decide) ?_
        refine lv_istore (lv' := [(5, .int (v43 - (97 : Int32))), (4, .int (0 : Int32)), (0, .ref a_this), (1, .int p0), (2, .int v1), (3, .int v7)]) hx hb dX4_readsBranch_128 hl (by decide) rfl (fun ls hl => ?_)
        refine lv_iload hx hb dX4_readsBranch_130 (lv_at hl 0 rfl) ?_
        refine lv_iconst (v := (-1 : Int32)) hx hb dX4_readsBranch_132 (by decide) ?_
        refine lv_icmp_eq (tgt := 160) hx hb dX4_readsBranch_133 (by decide) (fun c44 => ?_) (fun c44 => ?_)
        · have h := zif_t c44 h
          refine lv_iconst (v := (0 : Int32)) hx hb dX4_readsBranch_160 (by decide) ?_
          have hR := Option.some.inj h
          subst hR
          exact W.zret (v := (0 : Int32)) (ty := .boolean) hx hb hr rfl (fun t ht hW => ⟨⟨_, (), rfl, rfl, zhp ht hP⟩, hS.F ht⟩) hS.2.2 dX4_readsBranch_161
        · have h := zif_f c44 h
          refine lv_aload_n hx hb dX4_readsBranch_136 rfl (lv_at hl 2 rfl) ?_
          refine va_get (D := D) (ci := 4) (v := .ref a_orders) (C := RX4) (T := TX4) (N := 28) hx hb hts hinX4 hown hK hP 0 rfl rfl 22 (by decide) (hts (Cond.fieldLink RX4 38 "LadderRelaysModel" "orders" "[I") (List.mem_of_getElem? (i := 2) rfl)) (fun _ h9 => h9) rfl dX4_readsBranch_137 ?_
          refine lv_iload_n hx hb dX4_readsBranch_140 rfl (lv_at hl 4 rfl) ?_
          obtain ⟨v45, hv45, h⟩ := zbnd h
          refine zr_iald hx hb hK hP 2 0 rfl rfl hv45 dX4_readsBranch_141 ?_
          refine lv_aload_n hx hb dX4_readsBranch_142 rfl (lv_at hl 2 rfl) ?_
          refine va_get (D := D) (ci := 4) (v := .ref a_orders) (C := RX4) (T := TX4) (N := 28) hx hb hts hinX4 hown hK hP 0 rfl rfl 22 (by decide) (hts (Cond.fieldLink RX4 38 "LadderRelaysModel" "orders" "[I") (List.mem_of_getElem? (i := 2) rfl)) (fun _ h9 => h9) rfl dX4_readsBranch_143 ?_
          refine lv_iload_n hx hb dX4_readsBranch_146 rfl (lv_at hl 4 rfl) ?_
          refine lv_iconst (v := (1 : Int32)) hx hb dX4_readsBranch_147 (by decide) ?_
          refine lv_iadd hx hb dX4_readsBranch_148 ?_
          obtain ⟨v46, hv46, h⟩ := zbnd h
          refine zr_iald hx hb hK hP 2 0 rfl rfl hv46 dX4_readsBranch_149 ?_
          refine lv_ior hx hb dX4_readsBranch_150 ?_
          refine lv_iload hx hb dX4_readsBranch_151 (lv_at hl 0 rfl) ?_
          refine lv_ishr hx hb dX4_readsBranch_153 ?_
          refine lv_iconst (v := (1 : Int32)) hx hb dX4_readsBranch_154 (by decide) ?_
          refine lv_iand hx hb dX4_readsBranch_155 ?_
          refine lv_iconst (v := (1 : Int32)) hx hb dX4_readsBranch_156 (by decide) ?_
          refine lv_icmp_ne (tgt := 162) hx hb dX4_readsBranch_157 (by decide) (fun c47 => ?_) (fun c47 => ?_)
          · have h := zif_f c47 h
            refine lv_aload_n hx hb dX4_readsBranch_162 rfl (lv_at hl 2 rfl) ?_
            refine va_get (D := D) (ci := 4) (v := .ref a_orders) (C := RX4) (T := TX4) (N := 28) hx hb hts hinX4 hown hK hP 0 rfl rfl 22 (by decide) (hts (Cond.fieldLink RX4 38 "LadderRelaysModel" "orders" "[I") (List.mem_of_getElem? (i := 2) rfl)) (fun _ h9 => h9) rfl dX4_readsBranch_163 ?_
            refine lv_iload_n hx hb dX4_readsBranch_166 rfl (lv_at hl 4 rfl) ?_
            refine lv_iload hx hb dX4_readsBranch_167 (lv_at hl 1 rfl) ?_
            refine lv_iadd hx hb dX4_readsBranch_169 ?_
            refine lv_dup2_11 hx hb dX4_readsBranch_170 rfl rfl ?_
            obtain ⟨v48, hv48, h⟩ := zbnd h
            refine zr_iald hx hb hK hP 2 0 rfl rfl hv48 dX4_readsBranch_171 ?_
            refine lv_iconst (v := (1 : Int32)) hx hb dX4_readsBranch_172 (by decide) ?_
            refine lv_iload hx hb dX4_readsBranch_173 (lv_at hl 0 rfl) ?_
            refine lv_ishl hx hb dX4_readsBranch_175 ?_
            refine lv_ior hx hb dX4_readsBranch_176 ?_
            obtain ⟨v49, hv49, h⟩ := zbnd h
            refine zr_iast hx hb hK hP hD hS 2 0 rfl rfl hv49 dX4_readsBranch_177 (fun H locs hP hD hS => ?_)
            have hP : va_P D vwCl [(a_this, .inr (4, [.int f_thrown, .ref a_s, .ref a_then, .ref a_past, .int f_saved, .ref a_text, .int f_length, .int f_counted, .int f_due, .ref a_met, .ref a_table, .ref a_ways, .ref a_waysOf, .ref a_into, .int f_meets, .int f_isTold, .int f_rests, .int f_leastRest, .int f_mostRest, .int f_isWheel, .int f_ended, .int v8, .ref a_orders, .int f_ordered, .int f_cureAmount, .int f_cureRelay, .int f_cureWhich, .long f_hash])), (a_text, .inl (cC, 60, .inl f_text)), (a_orders, .inl (cI, 176, .inl v49))] H := hP
            have hD : va_D A [(a_this, .inr (4, [.int f_thrown, .ref a_s, .ref a_then, .ref a_past, .int f_saved, .ref a_text, .int f_length, .int f_counted, .int f_due, .ref a_met, .ref a_table, .ref a_ways, .ref a_waysOf, .ref a_into, .int f_meets, .int f_isTold, .int f_rests, .int f_leastRest, .int f_mostRest, .int f_isWheel, .int f_ended, .int v8, .ref a_orders, .int f_ordered, .int f_cureAmount, .int f_cureRelay, .int f_cureWhich, .long f_hash])), (a_text, .inl (cC, 60, .inl f_text)), (a_orders, .inl (cI, 176, .inl v49))] := hD
            refine lv_aload_n hx hb dX4_readsBranch_178 rfl (lv_at hl 2 rfl) ?_
            refine lv_dup hx hb dX4_readsBranch_179 rfl ?_
            refine va_get (D := D) (ci := 4) (v := .int v8) (C := RX4) (T := TX4) (N := 28) hx hb hts hinX4 hown hK hP 0 rfl rfl 21 (by decide) (hts (Cond.fieldLink RX4 179 "LadderRelaysModel" "spot" "I") (List.mem_of_getElem? (i := 4) rfl)) (fun _ h9 => h9) rfl dX4_readsBranch_180 ?_
            refine lv_iconst (v := (1 : Int32)) hx hb dX4_readsBranch_183 (by decide) ?_
            refine lv_iadd hx hb dX4_readsBranch_184 ?_
            refine va_put (D := D) (ci := 4) (v := .int (v8 + (1 : Int32))) (ty := .int) (C := RX4) (T := TX4) (N := 28) hx hb hts hinX4 tyX4 tyX4_ok nmX4 hown hK hP hD hS 0 rfl rfl 21 (by decide) (hts (Cond.fieldLink RX4 179 "LadderRelaysModel" "spot" "I") (List.mem_of_getElem? (i := 4) rfl)) (fun _ h9 => h9) rfl (by decide +kernel) rfl rfl (Nat.le_of_ble_eq_true rfl) dX4_readsBranch_185 (fun H locs hP hD hS => ?_)
            have hP : va_P D vwCl [(a_this, .inr (4, [.int f_thrown, .ref a_s, .ref a_then, .ref a_past, .int f_saved, .ref a_text, .int f_length, .int f_counted, .int f_due, .ref a_met, .ref a_table, .ref a_ways, .ref a_waysOf, .ref a_into, .int f_meets, .int f_isTold, .int f_rests, .int f_leastRest, .int f_mostRest, .int f_isWheel, .int f_ended, .int (v8 + (1 : Int32)), .ref a_orders, .int f_ordered, .int f_cureAmount, .int f_cureRelay, .int f_cureWhich, .long f_hash])), (a_text, .inl (cC, 60, .inl f_text)), (a_orders, .inl (cI, 176, .inl v49))] H := hP
            have hD : va_D A [(a_this, .inr (4, [.int f_thrown, .ref a_s, .ref a_then, .ref a_past, .int f_saved, .ref a_text, .int f_length, .int f_counted, .int f_due, .ref a_met, .ref a_table, .ref a_ways, .ref a_waysOf, .ref a_into, .int f_meets, .int f_isTold, .int f_rests, .int f_leastRest, .int f_mostRest, .int f_isWheel, .int f_ended, .int (v8 + (1 : Int32)), .ref a_orders, .int f_ordered, .int f_cureAmount, .int f_cureRelay, .int f_cureWhich, .long f_hash])), (a_text, .inl (cC, 60, .inl f_text)), (a_orders, .inl (cI, 176, .inl v49))] := hD
            refine lv_aload_n hx hb dX4_readsBranch_188 rfl (lv_at hl 2 rfl) ?_
            refine lv_bipush (v := (33 : Int32)) hx hb dX4_readsBranch_189 (by decide) ?_
            refine lv_bipush (v := (33 : Int32)) hx hb dX4_readsBranch_191 (by decide) ?_
            obtain ⟨v50, hv50, h⟩ := zbnd h
            have hPc := hP.sub (ws' := [(a_this, .inr (4, [.int f_thrown, .ref a_s, .ref a_then, .ref a_past, .int f_saved, .ref a_text, .int f_length, .int f_counted, .int f_due, .ref a_met, .ref a_table, .ref a_ways, .ref a_waysOf, .ref a_into, .int f_meets, .int f_isTold, .int f_rests, .int f_leastRest, .int f_mostRest, .int f_isWheel, .int f_ended, .int (v8 + (1 : Int32)), .ref a_orders, .int f_ordered, .int f_cureAmount, .int f_cureRelay, .int f_cureWhich, .long f_hash])), (a_text, .inl (cC, 60, .inl f_text))]) [0, 1] rfl
            refine zc_i (W.runV (C := RX4) (As := [.int (33 : Int32), .int (33 : Int32)]) (rest := []) ⟨hx, hb, hml, hown, hts⟩ (c_X4_sees l D cI cC cO cJ fu a_this a_s a_then a_past a_text a_met a_table a_ways a_waysOf a_into a_orders f_thrown f_saved f_length f_counted f_due f_meets f_isTold f_rests f_leastRest f_mostRest f_isWheel f_ended (v8 + (1 : Int32)) f_ordered f_cureAmount f_cureRelay f_cureWhich f_hash f_text (33 : Int32) (33 : Int32) v50 hv50) (cwV 2 hts gX4_readsBranch_X4_sees rfl rfl rfl (by decide +kernel) ⟨Nat.le_of_ble_eq_true rfl, Nat.le_of_ble_eq_true rfl⟩) ⟨zPr_blind, (va_recv hK hP (q0 := 0) (ci := 4) rfl rfl), zPr_pre hK hPc⟩ rfl rfl hl.1 rfl (lv_room (Nat.le_of_ble_eq_true rfl)) dX4_readsBranch_193 ⟨Nat.zero_le _, Nat.zero_le _⟩) ?_
            refine lv_if_ne (tgt := 221) hx hb dX4_readsBranch_196 (by decide) (fun c51 => ?_) (fun c51 => ?_)
            · have h := zif_f c51 h
              refine lv_iconst (v := (1 : Int32)) hx hb dX4_readsBranch_221 (by decide) ?_
              refine lv_goto (tgt := 226) hx hb dX4_readsBranch_222 (by decide) ?_
              refine lv_istore_n (lv' := [(3, .int (1 : Int32)), (5, .int (v43 - (97 : Int32))), (4, .int (0 : Int32)), (0, .ref a_this), (1, .int p0), (2, .int v1)]) hx hb dX4_readsBranch_226 rfl hl (by decide) rfl (fun ls hl => ?_)
              refine lv_goto (tgt := 32) hx hb dX4_readsBranch_227 (by decide) ?_
              exact ih32 (1 : Int32) (v8 + (1 : Int32)) v49 h _ _ hP hD hS ls (lv_sub hl [3, 4, 5, 0] rfl)
            · have h := zif_t c51 h
              refine lv_aload_n hx hb dX4_readsBranch_199 rfl (lv_at hl 2 rfl) ?_
              refine lv_bipush (v := (97 : Int32)) hx hb dX4_readsBranch_200 (by decide) ?_
              refine lv_bipush (v := (100 : Int32)) hx hb dX4_readsBranch_202 (by decide) ?_
              obtain ⟨v52, hv52, h⟩ := zbnd h
              have hPc := hP.sub (ws' := [(a_this, .inr (4, [.int f_thrown, .ref a_s, .ref a_then, .ref a_past, .int f_saved, .ref a_text, .int f_length, .int f_counted, .int f_due, .ref a_met, .ref a_table, .ref a_ways, .ref a_waysOf, .ref a_into, .int f_meets, .int f_isTold, .int f_rests, .int f_leastRest, .int f_mostRest, .int f_isWheel, .int f_ended, .int (v8 + (1 : Int32)), .ref a_orders, .int f_ordered, .int f_cureAmount, .int f_cureRelay, .int f_cureWhich, .long f_hash])), (a_text, .inl (cC, 60, .inl f_text))]) [0, 1] rfl
              refine zc_i (W.runV (C := RX4) (As := [.int (97 : Int32), .int (100 : Int32)]) (rest := []) ⟨hx, hb, hml, hown, hts⟩ (c_X4_sees l D cI cC cO cJ fu a_this a_s a_then a_past a_text a_met a_table a_ways a_waysOf a_into a_orders f_thrown f_saved f_length f_counted f_due f_meets f_isTold f_rests f_leastRest f_mostRest f_isWheel f_ended (v8 + (1 : Int32)) f_ordered f_cureAmount f_cureRelay f_cureWhich f_hash f_text (97 : Int32) (100 : Int32) v52 hv52) (cwV 2 hts gX4_readsBranch_X4_sees rfl rfl rfl (by decide +kernel) ⟨Nat.le_of_ble_eq_true rfl, Nat.le_of_ble_eq_true rfl⟩) ⟨zPr_blind, (va_recv hK hP (q0 := 0) (ci := 4) rfl rfl), zPr_pre hK hPc⟩ rfl rfl hl.1 rfl (lv_room (Nat.le_of_ble_eq_true rfl)) dX4_readsBranch_204 ⟨Nat.zero_le _, Nat.zero_le _⟩) ?_
              refine lv_if_ne (tgt := 221) hx hb dX4_readsBranch_207 (by decide) (fun c53 => ?_) (fun c53 => ?_)
              · have h := zif_f c53 h
                refine lv_iconst (v := (1 : Int32)) hx hb dX4_readsBranch_221 (by decide) ?_
                refine lv_goto (tgt := 226) hx hb dX4_readsBranch_222 (by decide) ?_
                refine lv_istore_n (lv' := [(3, .int (1 : Int32)), (5, .int (v43 - (97 : Int32))), (4, .int (0 : Int32)), (0, .ref a_this), (1, .int p0), (2, .int v1)]) hx hb dX4_readsBranch_226 rfl hl (by decide) rfl (fun ls hl => ?_)
                refine lv_goto (tgt := 32) hx hb dX4_readsBranch_227 (by decide) ?_
                exact ih32 (1 : Int32) (v8 + (1 : Int32)) v49 h _ _ hP hD hS ls (lv_sub hl [3, 4, 5, 0] rfl)
              · have h := zif_t c53 h
                refine lv_aload_n hx hb dX4_readsBranch_210 rfl (lv_at hl 2 rfl) ?_
                refine lv_bipush (v := (48 : Int32)) hx hb dX4_readsBranch_211 (by decide) ?_
                refine lv_bipush (v := (57 : Int32)) hx hb dX4_readsBranch_213 (by decide) ?_
                obtain ⟨v54, hv54, h⟩ := zbnd h
                have hPc := hP.sub (ws' := [(a_this, .inr (4, [.int f_thrown, .ref a_s, .ref a_then, .ref a_past, .int f_saved, .ref a_text, .int f_length, .int f_counted, .int f_due, .ref a_met, .ref a_table, .ref a_ways, .ref a_waysOf, .ref a_into, .int f_meets, .int f_isTold, .int f_rests, .int f_leastRest, .int f_mostRest, .int f_isWheel, .int f_ended, .int (v8 + (1 : Int32)), .ref a_orders, .int f_ordered, .int f_cureAmount, .int f_cureRelay, .int f_cureWhich, .long f_hash])), (a_text, .inl (cC, 60, .inl f_text))]) [0, 1] rfl
                refine zc_i (W.runV (C := RX4) (As := [.int (48 : Int32), .int (57 : Int32)]) (rest := []) ⟨hx, hb, hml, hown, hts⟩ (c_X4_sees l D cI cC cO cJ fu a_this a_s a_then a_past a_text a_met a_table a_ways a_waysOf a_into a_orders f_thrown f_saved f_length f_counted f_due f_meets f_isTold f_rests f_leastRest f_mostRest f_isWheel f_ended (v8 + (1 : Int32)) f_ordered f_cureAmount f_cureRelay f_cureWhich f_hash f_text (48 : Int32) (57 : Int32) v54 hv54) (cwV 2 hts gX4_readsBranch_X4_sees rfl rfl rfl (by decide +kernel) ⟨Nat.le_of_ble_eq_true rfl, Nat.le_of_ble_eq_true rfl⟩) ⟨zPr_blind, (va_recv hK hP (q0 := 0) (ci := 4) rfl rfl), zPr_pre hK hPc⟩ rfl rfl hl.1 rfl (lv_room (Nat.le_of_ble_eq_true rfl)) dX4_readsBranch_215 ⟨Nat.zero_le _, Nat.zero_le _⟩) ?_
                refine lv_if_eq (tgt := 225) hx hb dX4_readsBranch_218 (by decide) (fun c55 => ?_) (fun c55 => ?_)
                · have h := zif_t c55 h
                  refine lv_iconst (v := (0 : Int32)) hx hb dX4_readsBranch_225 (by decide) ?_
                  refine lv_istore_n (lv' := [(3, .int (0 : Int32)), (5, .int (v43 - (97 : Int32))), (4, .int (0 : Int32)), (0, .ref a_this), (1, .int p0), (2, .int v1)]) hx hb dX4_readsBranch_226 rfl hl (by decide) rfl (fun ls hl => ?_)
                  refine lv_goto (tgt := 32) hx hb dX4_readsBranch_227 (by decide) ?_
                  exact ih32 (0 : Int32) (v8 + (1 : Int32)) v49 h _ _ hP hD hS ls (lv_sub hl [3, 4, 5, 0] rfl)
                · have h := zif_f c55 h
                  refine lv_iconst (v := (1 : Int32)) hx hb dX4_readsBranch_221 (by decide) ?_
                  refine lv_goto (tgt := 226) hx hb dX4_readsBranch_222 (by decide) ?_
                  refine lv_istore_n (lv' := [(3, .int (1 : Int32)), (5, .int (v43 - (97 : Int32))), (4, .int (0 : Int32)), (0, .ref a_this), (1, .int p0), (2, .int v1)]) hx hb dX4_readsBranch_226 rfl hl (by decide) rfl (fun ls hl => ?_)
                  refine lv_goto (tgt := 32) hx hb dX4_readsBranch_227 (by decide) ?_
                  exact ih32 (1 : Int32) (v8 + (1 : Int32)) v49 h _ _ hP hD hS ls (lv_sub hl [3, 4, 5, 0] rfl)
          · have h := zif_t c47 h
            refine lv_iconst (v := (0 : Int32)) hx hb dX4_readsBranch_160 (by decide) ?_
            have hR := Option.some.inj h
            subst hR
            exact W.zret (v := (0 : Int32)) (ty := .boolean) hx hb hr rfl (fun t ht hW => ⟨⟨_, (), rfl, rfl, zhp ht hP⟩, hS.F ht⟩) hS.2.2 dX4_readsBranch_161
    · have h := zif_f c13 h
      refine lv_aload_n hx hb dX4_readsBranch_57 rfl (lv_at hl 0 rfl) ?_
      refine lv_bipush (v := (33 : Int32)) hx hb dX4_readsBranch_58 (by decide) ?_
      obtain ⟨v56, hv56, h⟩ := zbnd h
      have hPc := hP.sub (ws' := [(a_this, .inr (4, [.int f_thrown, .ref a_s, .ref a_then, .ref a_past, .int f_saved, .ref a_text, .int f_length, .int f_counted, .int f_due, .ref a_met, .ref a_table, .ref a_ways, .ref a_waysOf, .ref a_into, .int f_meets, .int f_isTold, .int f_rests, .int f_leastRest, .int f_mostRest, .int f_isWheel, .int f_ended, .int v8, .ref a_orders, .int f_ordered, .int f_cureAmount, .int f_cureRelay, .int f_cureWhich, .long f_hash])), (a_text, .inl (cC, 60, .inl f_text))]) [0, 1] rfl
      have hDc := hD.sub (ws' := [(a_this, .inr (4, [.int f_thrown, .ref a_s, .ref a_then, .ref a_past, .int f_saved, .ref a_text, .int f_length, .int f_counted, .int f_due, .ref a_met, .ref a_table, .ref a_ways, .ref a_waysOf, .ref a_into, .int f_meets, .int f_isTold, .int f_rests, .int f_leastRest, .int f_mostRest, .int f_isWheel, .int f_ended, .int v8, .ref a_orders, .int f_ordered, .int f_cureAmount, .int f_cureRelay, .int f_cureWhich, .long f_hash])), (a_text, .inl (cC, 60, .inl f_text))]) [0, 1] (by decide) rfl
      have hFc := va_free (wc := [(a_this, .inr (4, [.int f_thrown, .ref a_s, .ref a_then, .ref a_past, .int f_saved, .ref a_text, .int f_length, .int f_counted, .int f_due, .ref a_met, .ref a_table, .ref a_ways, .ref a_waysOf, .ref a_into, .int f_meets, .int f_isTold, .int f_rests, .int f_leastRest, .int f_mostRest, .int f_isWheel, .int f_ended, .int v8, .ref a_orders, .int f_ordered, .int f_cureAmount, .int f_cureRelay, .int f_cureWhich, .long f_hash])), (a_text, .inl (cC, 60, .inl f_text))]) hD hS hA [0, 1] rfl
      refine zc_wi (va_runV (C := RX4) (As := [.int (33 : Int32)]) (rest := []) ⟨hx, hb, hml, hown, hts⟩ (c_X4_takes l D cI cC cO cJ fu a_this a_s a_then a_past a_text a_met a_table a_ways a_waysOf a_into a_orders _ f_thrown f_saved f_length f_counted f_due f_meets f_isTold f_rests f_leastRest f_mostRest f_isWheel f_ended v8 f_ordered f_cureAmount f_cureRelay f_cureWhich f_hash f_text (33 : Int32) v56 hv56) (cwV 1 hts gX4_readsBranch_X4_takes rfl rfl rfl (by decide +kernel) ⟨Nat.le_of_ble_eq_true rfl, Nat.le_of_ble_eq_true rfl⟩) ⟨zPw_blind, (va_recv hK hP (q0 := 0) (ci := 4) rfl rfl), zPw_pre hK hPc hDc⟩ rfl rfl hl.1 rfl (lv_room (Nat.le_of_ble_eq_true rfl)) dX4_readsBranch_60 ⟨Nat.zero_le _, Nat.zero_le _⟩) hS hFc (fun H locs hk1 hP1 hS => ?_)
      obtain ⟨hP, hD⟩ := zjn (ws' := [(a_this, .inr (4, [.int f_thrown, .ref a_s, .ref a_then, .ref a_past, .int f_saved, .ref a_text, .int f_length, .int f_counted, .int f_due, .ref a_met, .ref a_table, .ref a_ways, .ref a_waysOf, .ref a_into, .int f_meets, .int f_isTold, .int f_rests, .int f_leastRest, .int f_mostRest, .int f_isWheel, .int f_ended, .int v56.2, .ref a_orders, .int f_ordered, .int f_cureAmount, .int f_cureRelay, .int f_cureWhich, .long f_hash])), (a_text, .inl (cC, 60, .inl f_text)), (a_orders, .inl (cI, 176, .inl v9))]) hP hD [0, 1] [.inr 0, .inr 1, .inl 2] rfl rfl rfl hk1 hP1
      refine lv_if_eq (tgt := 70) hx hb dX4_readsBranch_63 (by decide) (fun c57 => ?_) (fun c57 => ?_)
      · have h := zif_t c57 h
        refine lv_iconst (v := (0 : Int32)) hx hb dX4_readsBranch_70 (by decide) ?_
        refine lv_istore (lv' := [(4, .int (0 : Int32)), (0, .ref a_this), (1, .int p0), (2, .int v1), (3, .int v7)]) hx hb dX4_readsBranch_71 hl (by decide) rfl (fun ls hl => ?_)
        refine lv_aload_n hx hb dX4_readsBranch_73 rfl (lv_at hl 1 rfl) ?_
        refine lv_bipush (v := (97 : Int32)) hx hb dX4_readsBranch_74 (by decide) ?_
        refine lv_bipush (v := (100 : Int32)) hx hb dX4_readsBranch_76 (by decide) ?_
        obtain ⟨v58, hv58, h⟩ := zbnd h
        have hPc := hP.sub (ws' := [(a_this, .inr (4, [.int f_thrown, .ref a_s, .ref a_then, .ref a_past, .int f_saved, .ref a_text, .int f_length, .int f_counted, .int f_due, .ref a_met, .ref a_table, .ref a_ways, .ref a_waysOf, .ref a_into, .int f_meets, .int f_isTold, .int f_rests, .int f_leastRest, .int f_mostRest, .int f_isWheel, .int f_ended, .int v56.2, .ref a_orders, .int f_ordered, .int f_cureAmount, .int f_cureRelay, .int f_cureWhich, .long f_hash])), (a_text, .inl (cC, 60, .inl f_text))]) [0, 1] rfl
        refine zc_i (W.runV (C := RX4) (As := [.int (97 : Int32), .int (100 : Int32)]) (rest := []) ⟨hx, hb, hml, hown, hts⟩ (c_X4_sees l D cI cC cO cJ fu a_this a_s a_then a_past a_text a_met a_table a_ways a_waysOf a_into a_orders f_thrown f_saved f_length f_counted f_due f_meets f_isTold f_rests f_leastRest f_mostRest f_isWheel f_ended v56.2 f_ordered f_cureAmount f_cureRelay f_cureWhich f_hash f_text (97 : Int32) (100 : Int32) v58 hv58) (cwV 2 hts gX4_readsBranch_X4_sees rfl rfl rfl (by decide +kernel) ⟨Nat.le_of_ble_eq_true rfl, Nat.le_of_ble_eq_true rfl⟩) ⟨zPr_blind, (va_recv hK hP (q0 := 0) (ci := 4) rfl rfl), zPr_pre hK hPc⟩ rfl rfl hl.1 rfl (lv_room (Nat.le_of_ble_eq_true rfl)) dX4_readsBranch_78 ⟨Nat.zero_le _, Nat.zero_le _⟩) ?_
        refine lv_if_eq (tgt := 99) hx hb dX4_readsBranch_81 (by decide) (fun c59 => ?_) (fun c59 => ?_)
        · have h := zif_t c59 h
          refine lv_aload_n hx hb dX4_readsBranch_99 rfl (lv_at hl 1 rfl) ?_
          refine lv_bipush (v := (48 : Int32)) hx hb dX4_readsBranch_100 (by decide) ?_
          refine lv_bipush (v := (53 : Int32)) hx hb dX4_readsBranch_102 (by decide) ?_
          obtain ⟨v60, hv60, h⟩ := zbnd h
          have hPc := hP.sub (ws' := [(a_this, .inr (4, [.int f_thrown, .ref a_s, .ref a_then, .ref a_past, .int f_saved, .ref a_text, .int f_length, .int f_counted, .int f_due, .ref a_met, .ref a_table, .ref a_ways, .ref a_waysOf, .ref a_into, .int f_meets, .int f_isTold, .int f_rests, .int f_leastRest, .int f_mostRest, .int f_isWheel, .int f_ended, .int v56.2, .ref a_orders, .int f_ordered, .int f_cureAmount, .int f_cureRelay, .int f_cureWhich, .long f_hash])), (a_text, .inl (cC, 60, .inl f_text))]) [0, 1] rfl
          refine zc_i (W.runV (C := RX4) (As := [.int (48 : Int32), .int (53 : Int32)]) (rest := []) ⟨hx, hb, hml, hown, hts⟩ (c_X4_sees l D cI cC cO cJ fu a_this a_s a_then a_past a_text a_met a_table a_ways a_waysOf a_into a_orders f_thrown f_saved f_length f_counted f_due f_meets f_isTold f_rests f_leastRest f_mostRest f_isWheel f_ended v56.2 f_ordered f_cureAmount f_cureRelay f_cureWhich f_hash f_text (48 : Int32) (53 : Int32) v60 hv60) (cwV 2 hts gX4_readsBranch_X4_sees rfl rfl rfl (by decide +kernel) ⟨Nat.le_of_ble_eq_true rfl, Nat.le_of_ble_eq_true rfl⟩) ⟨zPr_blind, (va_recv hK hP (q0 := 0) (ci := 4) rfl rfl), zPr_pre hK hPc⟩ rfl rfl hl.1 rfl (lv_room (Nat.le_of_ble_eq_true rfl)) dX4_readsBranch_104 ⟨Nat.zero_le _, Nat.zero_le _⟩) ?_
          refine lv_if_eq (tgt := 127) hx hb dX4_readsBranch_107 (by decide) (fun c61 => ?_) (fun c61 => ?_)
          · have h := zif_t c61 h
            refine lv_iconst (v := (-1 : Int32)) hx hb dX4_readsBranch_127 (by decide) ?_
            refine lv_istore (lv' := [(5, .int (-1 : Int32)), (4, .int (0 : Int32)), (0, .ref a_this), (1, .int p0), (2, .int v1), (3, .int v7)]) hx hb dX4_readsBranch_128 hl (by decide) rfl (fun ls hl => ?_)
            refine lv_iload hx hb dX4_readsBranch_130 (lv_at hl 0 rfl) ?_
            refine lv_iconst (v := (-1 : Int32)) hx hb dX4_readsBranch_132 (by decide) ?_
            refine lv_icmp_eq (tgt := 160) hx hb dX4_readsBranch_133 (by decide) (fun c62 => ?_) (fun c62 => ?_)
            · have h := zif_t c62 h
              refine lv_iconst (v := (0 : Int32)) hx hb dX4_readsBranch_160 (by decide) ?_
              have hR := Option.some.inj h
              subst hR
              exact W.zret (v := (0 : Int32)) (ty := .boolean) hx hb hr rfl (fun t ht hW => ⟨⟨_, (), rfl, rfl, zhp ht hP⟩, hS.F ht⟩) hS.2.2 dX4_readsBranch_161
            · have h := zif_f c62 h
              refine lv_aload_n hx hb dX4_readsBranch_136 rfl (lv_at hl 2 rfl) ?_
              refine va_get (D := D) (ci := 4) (v := .ref a_orders) (C := RX4) (T := TX4) (N := 28) hx hb hts hinX4 hown hK hP 0 rfl rfl 22 (by decide) (hts (Cond.fieldLink RX4 38 "LadderRelaysModel" "orders" "[I") (List.mem_of_getElem? (i := 2) rfl)) (fun _ h9 => h9) rfl dX4_readsBranch_137 ?_
              refine lv_iload_n hx hb dX4_readsBranch_140 rfl (lv_at hl 4 rfl) ?_
              obtain ⟨v63, hv63, h⟩ := zbnd h
              refine zr_iald hx hb hK hP 2 0 rfl rfl hv63 dX4_readsBranch_141 ?_
              refine lv_aload_n hx hb dX4_readsBranch_142 rfl (lv_at hl 2 rfl) ?_
              refine va_get (D := D) (ci := 4) (v := .ref a_orders) (C := RX4) (T := TX4) (N := 28) hx hb hts hinX4 hown hK hP 0 rfl rfl 22 (by decide) (hts (Cond.fieldLink RX4 38 "LadderRelaysModel" "orders" "[I") (List.mem_of_getElem? (i := 2) rfl)) (fun _ h9 => h9) rfl dX4_readsBranch_143 ?_
              refine lv_iload_n hx hb dX4_readsBranch_146 rfl (lv_at hl 4 rfl) ?_
              refine lv_iconst (v := (1 : Int32)) hx hb dX4_readsBranch_147 (by decide) ?_
              refine lv_iadd hx hb dX4_readsBranch_148 ?_
              obtain ⟨v64, hv64, h⟩ := zbnd h
              refine zr_iald hx hb hK hP 2 0 rfl rfl hv64 dX4_readsBranch_149 ?_
              refine lv_ior hx hb dX4_readsBranch_150 ?_
              refine lv_iload hx hb dX4_readsBranch_151 (lv_at hl 0 rfl) ?_
              refine lv_ishr hx hb dX4_readsBranch_153 ?_
              refine lv_iconst (v := (1 : Int32)) hx hb dX4_readsBranch_154 (by decide) ?_
              refine lv_iand hx hb dX4_readsBranch_155 ?_
              refine lv_iconst (v := (1 : Int32)) hx hb dX4_readsBranch_156 (by decide) ?_
              refine lv_icmp_ne (tgt := 162) hx hb dX4_readsBranch_157 (by decide) (fun c65 => ?_) (fun c65 => ?_)
              · have h := zif_f c65 h
                refine lv_aload_n hx hb dX4_readsBranch_162 rfl (lv_at hl 2 rfl) ?_
                refine va_get (D := D) (ci := 4) (v := .ref a_orders) (C := RX4) (T := TX4) (N := 28) hx hb hts hinX4 hown hK hP 0 rfl rfl 22 (by decide) (hts (Cond.fieldLink RX4 38 "LadderRelaysModel" "orders" "[I") (List.mem_of_getElem? (i := 2) rfl)) (fun _ h9 => h9) rfl dX4_readsBranch_163 ?_
                refine lv_iload_n hx hb dX4_readsBranch_166 rfl (lv_at hl 4 rfl) ?_
                refine lv_iload hx hb dX4_readsBranch_167 (lv_at hl 1 rfl) ?_
                refine lv_iadd hx hb dX4_readsBranch_169 ?_
                refine lv_dup2_11 hx hb dX4_readsBranch_170 rfl rfl ?_
                obtain ⟨v66, hv66, h⟩ := zbnd h
                refine zr_iald hx hb hK hP 2 0 rfl rfl hv66 dX4_readsBranch_171 ?_
                refine lv_iconst (v := (1 : Int32)) hx hb dX4_readsBranch_172 (by decide) ?_
                refine lv_iload hx hb dX4_readsBranch_173 (lv_at hl 0 rfl) ?_
                refine lv_ishl hx hb dX4_readsBranch_175 ?_
                refine lv_ior hx hb dX4_readsBranch_176 ?_
                obtain ⟨v67, hv67, h⟩ := zbnd h
                refine zr_iast hx hb hK hP hD hS 2 0 rfl rfl hv67 dX4_readsBranch_177 (fun H locs hP hD hS => ?_)
                have hP : va_P D vwCl [(a_this, .inr (4, [.int f_thrown, .ref a_s, .ref a_then, .ref a_past, .int f_saved, .ref a_text, .int f_length, .int f_counted, .int f_due, .ref a_met, .ref a_table, .ref a_ways, .ref a_waysOf, .ref a_into, .int f_meets, .int f_isTold, .int f_rests, .int f_leastRest, .int f_mostRest, .int f_isWheel, .int f_ended, .int v56.2, .ref a_orders, .int f_ordered, .int f_cureAmount, .int f_cureRelay, .int f_cureWhich, .long f_hash])), (a_text, .inl (cC, 60, .inl f_text)), (a_orders, .inl (cI, 176, .inl v67))] H := hP
                have hD : va_D A [(a_this, .inr (4, [.int f_thrown, .ref a_s, .ref a_then, .ref a_past, .int f_saved, .ref a_text, .int f_length, .int f_counted, .int f_due, .ref a_met, .ref a_table, .ref a_ways, .ref a_waysOf, .ref a_into, .int f_meets, .int f_isTold, .int f_rests, .int f_leastRest, .int f_mostRest, .int f_isWheel, .int f_ended, .int v56.2, .ref a_orders, .int f_ordered, .int f_cureAmount, .int f_cureRelay, .int f_cureWhich, .long f_hash])), (a_text, .inl (cC, 60, .inl f_text)), (a_orders, .inl (cI, 176, .inl v67))] := hD
                refine lv_aload_n hx hb dX4_readsBranch_178 rfl (lv_at hl 2 rfl) ?_
                refine lv_dup hx hb dX4_readsBranch_179 rfl ?_
                refine va_get (D := D) (ci := 4) (v := .int v56.2) (C := RX4) (T := TX4) (N := 28) hx hb hts hinX4 hown hK hP 0 rfl rfl 21 (by decide) (hts (Cond.fieldLink RX4 179 "LadderRelaysModel" "spot" "I") (List.mem_of_getElem? (i := 4) rfl)) (fun _ h9 => h9) rfl dX4_readsBranch_180 ?_
                refine lv_iconst (v := (1 : Int32)) hx hb dX4_readsBranch_183 (by decide) ?_
                refine lv_iadd hx hb dX4_readsBranch_184 ?_
                refine va_put (D := D) (ci := 4) (v := .int (v56.2 + (1 : Int32))) (ty := .int) (C := RX4) (T := TX4) (N := 28) hx hb hts hinX4 tyX4 tyX4_ok nmX4 hown hK hP hD hS 0 rfl rfl 21 (by decide) (hts (Cond.fieldLink RX4 179 "LadderRelaysModel" "spot" "I") (List.mem_of_getElem? (i := 4) rfl)) (fun _ h9 => h9) rfl (by decide +kernel) rfl rfl (Nat.le_of_ble_eq_true rfl) dX4_readsBranch_185 (fun H locs hP hD hS => ?_)
                have hP : va_P D vwCl [(a_this, .inr (4, [.int f_thrown, .ref a_s, .ref a_then, .ref a_past, .int f_saved, .ref a_text, .int f_length, .int f_counted, .int f_due, .ref a_met, .ref a_table, .ref a_ways, .ref a_waysOf, .ref a_into, .int f_meets, .int f_isTold, .int f_rests, .int f_leastRest, .int f_mostRest, .int f_isWheel, .int f_ended, .int (v56.2 + (1 : Int32)), .ref a_orders, .int f_ordered, .int f_cureAmount, .int f_cureRelay, .int f_cureWhich, .long f_hash])), (a_text, .inl (cC, 60, .inl f_text)), (a_orders, .inl (cI, 176, .inl v67))] H := hP
                have hD : va_D A [(a_this, .inr (4, [.int f_thrown, .ref a_s, .ref a_then, .ref a_past, .int f_saved, .ref a_text, .int f_length, .int f_counted, .int f_due, .ref a_met, .ref a_table, .ref a_ways, .ref a_waysOf, .ref a_into, .int f_meets, .int f_isTold, .int f_rests, .int f_leastRest, .int f_mostRest, .int f_isWheel, .int f_ended, .int (v56.2 + (1 : Int32)), .ref a_orders, .int f_ordered, .int f_cureAmount, .int f_cureRelay, .int f_cureWhich, .long f_hash])), (a_text, .inl (cC, 60, .inl f_text)), (a_orders, .inl (cI, 176, .inl v67))] := hD
                refine lv_aload_n hx hb dX4_readsBranch_188 rfl (lv_at hl 2 rfl) ?_
                refine lv_bipush (v := (33 : Int32)) hx hb dX4_readsBranch_189 (by decide) ?_
                refine lv_bipush (v := (33 : Int32)) hx hb dX4_readsBranch_191 (by decide) ?_
                obtain ⟨v68, hv68, h⟩ := zbnd h
                have hPc := hP.sub (ws' := [(a_this, .inr (4, [.int f_thrown, .ref a_s, .ref a_then, .ref a_past, .int f_saved, .ref a_text, .int f_length, .int f_counted, .int f_due, .ref a_met, .ref a_table, .ref a_ways, .ref a_waysOf, .ref a_into, .int f_meets, .int f_isTold, .int f_rests, .int f_leastRest, .int f_mostRest, .int f_isWheel, .int f_ended, .int (v56.2 + (1 : Int32)), .ref a_orders, .int f_ordered, .int f_cureAmount, .int f_cureRelay, .int f_cureWhich, .long f_hash])), (a_text, .inl (cC, 60, .inl f_text))]) [0, 1] rfl
                refine zc_i (W.runV (C := RX4) (As := [.int (33 : Int32), .int (33 : Int32)]) (rest := []) ⟨hx, hb, hml, hown, hts⟩ (c_X4_sees l D cI cC cO cJ fu a_this a_s a_then a_past a_text a_met a_table a_ways a_waysOf a_into a_orders f_thrown f_saved f_length f_counted f_due f_meets f_isTold f_rests f_leastRest f_mostRest f_isWheel f_ended (v56.2 + (1 : Int32)) f_ordered f_cureAmount f_cureRelay f_cureWhich f_hash f_text (33 : Int32) (33 : Int32) v68 hv68) (cwV 2 hts gX4_readsBranch_X4_sees rfl rfl rfl (by decide +kernel) ⟨Nat.le_of_ble_eq_true rfl, Nat.le_of_ble_eq_true rfl⟩) ⟨zPr_blind, (va_recv hK hP (q0 := 0) (ci := 4) rfl rfl), zPr_pre hK hPc⟩ rfl rfl hl.1 rfl (lv_room (Nat.le_of_ble_eq_true rfl)) dX4_readsBranch_193 ⟨Nat.zero_le _, Nat.zero_le _⟩) ?_
                refine lv_if_ne (tgt := 221) hx hb dX4_readsBranch_196 (by decide) (fun c69 => ?_) (fun c69 => ?_)
                · have h := zif_f c69 h
                  refine lv_iconst (v := (1 : Int32)) hx hb dX4_readsBranch_221 (by decide) ?_
                  refine lv_goto (tgt := 226) hx hb dX4_readsBranch_222 (by decide) ?_
                  refine lv_istore_n (lv' := [(3, .int (1 : Int32)), (5, .int (-1 : Int32)), (4, .int (0 : Int32)), (0, .ref a_this), (1, .int p0), (2, .int v1)]) hx hb dX4_readsBranch_226 rfl hl (by decide) rfl (fun ls hl => ?_)
                  refine lv_goto (tgt := 32) hx hb dX4_readsBranch_227 (by decide) ?_
                  exact ih32 (1 : Int32) (v56.2 + (1 : Int32)) v67 h _ _ hP hD hS ls (lv_sub hl [3, 4, 5, 0] rfl)
                · have h := zif_t c69 h
                  refine lv_aload_n hx hb dX4_readsBranch_199 rfl (lv_at hl 2 rfl) ?_
                  refine lv_bipush (v := (97 : Int32)) hx hb dX4_readsBranch_200 (by decide) ?_
                  refine lv_bipush (v := (100 : Int32)) hx hb dX4_readsBranch_202 (by decide) ?_
                  obtain ⟨v70, hv70, h⟩ := zbnd h
                  have hPc := hP.sub (ws' := [(a_this, .inr (4, [.int f_thrown, .ref a_s, .ref a_then, .ref a_past, .int f_saved, .ref a_text, .int f_length, .int f_counted, .int f_due, .ref a_met, .ref a_table, .ref a_ways, .ref a_waysOf, .ref a_into, .int f_meets, .int f_isTold, .int f_rests, .int f_leastRest, .int f_mostRest, .int f_isWheel, .int f_ended, .int (v56.2 + (1 : Int32)), .ref a_orders, .int f_ordered, .int f_cureAmount, .int f_cureRelay, .int f_cureWhich, .long f_hash])), (a_text, .inl (cC, 60, .inl f_text))]) [0, 1] rfl
                  refine zc_i (W.runV (C := RX4) (As := [.int (97 : Int32), .int (100 : Int32)]) (rest := []) ⟨hx, hb, hml, hown, hts⟩ (c_X4_sees l D cI cC cO cJ fu a_this a_s a_then a_past a_text a_met a_table a_ways a_waysOf a_into a_orders f_thrown f_saved f_length f_counted f_due f_meets f_isTold f_rests f_leastRest f_mostRest f_isWheel f_ended (v56.2 + (1 : Int32)) f_ordered f_cureAmount f_cureRelay f_cureWhich f_hash f_text (97 : Int32) (100 : Int32) v70 hv70) (cwV 2 hts gX4_readsBranch_X4_sees rfl rfl rfl (by decide +kernel) ⟨Nat.le_of_ble_eq_true rfl, Nat.le_of_ble_eq_true rfl⟩) ⟨zPr_blind, (va_recv hK hP (q0 := 0) (ci := 4) rfl rfl), zPr_pre hK hPc⟩ rfl rfl hl.1 rfl (lv_room (Nat.le_of_ble_eq_true rfl)) dX4_readsBranch_204 ⟨Nat.zero_le _, Nat.zero_le _⟩) ?_
                  refine lv_if_ne (tgt := 221) hx hb dX4_readsBranch_207 (by decide) (fun c71 => ?_) (fun c71 => ?_)
                  · have h := zif_f c71 h
                    refine lv_iconst (v := (1 : Int32)) hx hb dX4_readsBranch_221 (by decide) ?_
                    refine lv_goto (tgt := 226) hx hb dX4_readsBranch_222 (by decide) ?_
                    refine lv_istore_n (lv' := [(3, .int (1 : Int32)), (5, .int (-1 : Int32)), (4, .int (0 : Int32)), (0, .ref a_this), (1, .int p0), (2, .int v1)]) hx hb dX4_readsBranch_226 rfl hl (by decide) rfl (fun ls hl => ?_)
                    refine lv_goto (tgt := 32) hx hb dX4_readsBranch_227 (by decide) ?_
                    exact ih32 (1 : Int32) (v56.2 + (1 : Int32)) v67 h _ _ hP hD hS ls (lv_sub hl [3, 4, 5, 0] rfl)
                  · have h := zif_t c71 h
                    refine lv_aload_n hx hb dX4_readsBranch_210 rfl (lv_at hl 2 rfl) ?_
                    refine lv_bipush (v := (48 : Int32)) hx hb dX4_readsBranch_211 (by decide) ?_
                    refine lv_bipush (v := (57 : Int32)) hx hb dX4_readsBranch_213 (by decide) ?_
                    obtain ⟨v72, hv72, h⟩ := zbnd h
                    have hPc := hP.sub (ws' := [(a_this, .inr (4, [.int f_thrown, .ref a_s, .ref a_then, .ref a_past, .int f_saved, .ref a_text, .int f_length, .int f_counted, .int f_due, .ref a_met, .ref a_table, .ref a_ways, .ref a_waysOf, .ref a_into, .int f_meets, .int f_isTold, .int f_rests, .int f_leastRest, .int f_mostRest, .int f_isWheel, .int f_ended, .int (v56.2 + (1 : Int32)), .ref a_orders, .int f_ordered, .int f_cureAmount, .int f_cureRelay, .int f_cureWhich, .long f_hash])), (a_text, .inl (cC, 60, .inl f_text))]) [0, 1] rfl
                    refine zc_i (W.runV (C := RX4) (As := [.int (48 : Int32), .int (57 : Int32)]) (rest := []) ⟨hx, hb, hml, hown, hts⟩ (c_X4_sees l D cI cC cO cJ fu a_this a_s a_then a_past a_text a_met a_table a_ways a_waysOf a_into a_orders f_thrown f_saved f_length f_counted f_due f_meets f_isTold f_rests f_leastRest f_mostRest f_isWheel f_ended (v56.2 + (1 : Int32)) f_ordered f_cureAmount f_cureRelay f_cureWhich f_hash f_text (48 : Int32) (57 : Int32) v72 hv72) (cwV 2 hts gX4_readsBranch_X4_sees rfl rfl rfl (by decide +kernel) ⟨Nat.le_of_ble_eq_true rfl, Nat.le_of_ble_eq_true rfl⟩) ⟨zPr_blind, (va_recv hK hP (q0 := 0) (ci := 4) rfl rfl), zPr_pre hK hPc⟩ rfl rfl hl.1 rfl (lv_room (Nat.le_of_ble_eq_true rfl)) dX4_readsBranch_215 ⟨Nat.zero_le _, Nat.zero_le _⟩) ?_
                    refine lv_if_eq (tgt := 225) hx hb dX4_readsBranch_218 (by decide) (fun c73 => ?_) (fun c73 => ?_)
                    · have h := zif_t c73 h
                      refine lv_iconst (v := (0 : Int32)) hx hb dX4_readsBranch_225 (by decide) ?_
                      refine lv_istore_n (lv' := [(3, .int (0 : Int32)), (5, .int (-1 : Int32)), (4, .int (0 : Int32)), (0, .ref a_this), (1, .int p0), (2, .int v1)]) hx hb dX4_readsBranch_226 rfl hl (by decide) rfl (fun ls hl => ?_)
                      refine lv_goto (tgt := 32) hx hb dX4_readsBranch_227 (by decide) ?_
                      exact ih32 (0 : Int32) (v56.2 + (1 : Int32)) v67 h _ _ hP hD hS ls (lv_sub hl [3, 4, 5, 0] rfl)
                    · have h := zif_f c73 h
                      refine lv_iconst (v := (1 : Int32)) hx hb dX4_readsBranch_221 (by decide) ?_
                      refine lv_goto (tgt := 226) hx hb dX4_readsBranch_222 (by decide) ?_
                      refine lv_istore_n (lv' := [(3, .int (1 : Int32)), (5, .int (-1 : Int32)), (4, .int (0 : Int32)), (0, .ref a_this), (1, .int p0), (2, .int v1)]) hx hb dX4_readsBranch_226 rfl hl (by decide) rfl (fun ls hl => ?_)
                      refine lv_goto (tgt := 32) hx hb dX4_readsBranch_227 (by decide) ?_
                      exact ih32 (1 : Int32) (v56.2 + (1 : Int32)) v67 h _ _ hP hD hS ls (lv_sub hl [3, 4, 5, 0] rfl)
              · have h := zif_t c65 h
                refine lv_iconst (v := (0 : Int32)) hx hb dX4_readsBranch_160 (by decide) ?_
                have hR := Option.some.inj h
                subst hR
                exact W.zret (v := (0 : Int32)) (ty := .boolean) hx hb hr rfl (fun t ht hW => ⟨⟨_, (), rfl, rfl, zhp ht hP⟩, hS.F ht⟩) hS.2.2 dX4_readsBranch_161
          · have h := zif_f c61 h
            refine lv_iconst (v := (4 : Int32)) hx hb dX4_readsBranch_110 (by decide) ?_
            refine lv_aload_n hx hb dX4_readsBranch_111 rfl (lv_at hl 1 rfl) ?_
            refine va_get (D := D) (ci := 4) (v := .ref a_text) (C := RX4) (T := TX4) (N := 28) hx hb hts hinX4 hown hK hP 0 rfl rfl 5 (by decide) (hts (Cond.fieldLink RX4 19 "LadderRelaysModel" "text" "[C") (List.mem_of_getElem? (i := 3) rfl)) (fun _ h9 => h9) rfl dX4_readsBranch_112 ?_
            refine lv_aload_n hx hb dX4_readsBranch_115 rfl (lv_at hl 1 rfl) ?_
            refine va_get (D := D) (ci := 4) (v := .int v56.2) (C := RX4) (T := TX4) (N := 28) hx hb hts hinX4 hown hK hP 0 rfl rfl 21 (by decide) (hts (Cond.fieldLink RX4 179 "LadderRelaysModel" "spot" "I") (List.mem_of_getElem? (i := 4) rfl)) (fun _ h9 => h9) rfl dX4_readsBranch_116 ?_
            obtain ⟨v74, hv74, h⟩ := zbnd h
            refine zr_cald hx hb hK hP 1 1 rfl rfl hv74 dX4_readsBranch_119 ?_
            refine lv_iadd hx hb dX4_readsBranch_120 ?_
            refine lv_bipush (v := (48 : Int32)) hx hb dX4_readsBranch_121 (by decide) ?_
            refine lv_isub hx hb dX4_readsBranch_123 ?_
            refine lv_goto (tgt := 128) hx hb dX4_readsBranch_124 (by decide) ?_
            refine lv_istore (lv' := [(5, .int (((4 : Int32) + v74) - (48 : Int32))), (4, .int (0 : Int32)), (0, .ref a_this), (1, .int p0), (2, .int v1), (3, .int v7)]) hx hb dX4_readsBranch_128 hl (by decide) rfl (fun ls hl => ?_)
            refine lv_iload hx hb dX4_readsBranch_130 (lv_at hl 0 rfl) ?_
            refine lv_iconst (v := (-1 : Int32)) hx hb dX4_readsBranch_132 (by decide) ?_
            refine lv_icmp_eq (tgt := 160) hx hb dX4_readsBranch_133 (by decide) (fun c75 => ?_) (fun c75 => ?_)
            · have h := zif_t c75 h
              refine lv_iconst (v := (0 : Int32)) hx hb dX4_readsBranch_160 (by decide) ?_
              have hR := Option.some.inj h
              subst hR
              exact W.zret (v := (0 : Int32)) (ty := .boolean) hx hb hr rfl (fun t ht hW => ⟨⟨_, (), rfl, rfl, zhp ht hP⟩, hS.F ht⟩) hS.2.2 dX4_readsBranch_161
            · have h := zif_f c75 h
              refine lv_aload_n hx hb dX4_readsBranch_136 rfl (lv_at hl 2 rfl) ?_
              refine va_get (D := D) (ci := 4) (v := .ref a_orders) (C := RX4) (T := TX4) (N := 28) hx hb hts hinX4 hown hK hP 0 rfl rfl 22 (by decide) (hts (Cond.fieldLink RX4 38 "LadderRelaysModel" "orders" "[I") (List.mem_of_getElem? (i := 2) rfl)) (fun _ h9 => h9) rfl dX4_readsBranch_137 ?_
              refine lv_iload_n hx hb dX4_readsBranch_140 rfl (lv_at hl 4 rfl) ?_
              obtain ⟨v76, hv76, h⟩ := zbnd h
              refine zr_iald hx hb hK hP 2 0 rfl rfl hv76 dX4_readsBranch_141 ?_
              refine lv_aload_n hx hb dX4_readsBranch_142 rfl (lv_at hl 2 rfl) ?_
              refine va_get (D := D) (ci := 4) (v := .ref a_orders) (C := RX4) (T := TX4) (N := 28) hx hb hts hinX4 hown hK hP 0 rfl rfl 22 (by decide) (hts (Cond.fieldLink RX4 38 "LadderRelaysModel" "orders" "[I") (List.mem_of_getElem? (i := 2) rfl)) (fun _ h9 => h9) rfl dX4_readsBranch_143 ?_
              refine lv_iload_n hx hb dX4_readsBranch_146 rfl (lv_at hl 4 rfl) ?_
              refine lv_iconst (v := (1 : Int32)) hx hb dX4_readsBranch_147 (by decide) ?_
              refine lv_iadd hx hb dX4_readsBranch_148 ?_
              obtain ⟨v77, hv77, h⟩ := zbnd h
              refine zr_iald hx hb hK hP 2 0 rfl rfl hv77 dX4_readsBranch_149 ?_
              refine lv_ior hx hb dX4_readsBranch_150 ?_
              refine lv_iload hx hb dX4_readsBranch_151 (lv_at hl 0 rfl) ?_
              refine lv_ishr hx hb dX4_readsBranch_153 ?_
              refine lv_iconst (v := (1 : Int32)) hx hb dX4_readsBranch_154 (by decide) ?_
              refine lv_iand hx hb dX4_readsBranch_155 ?_
              refine lv_iconst (v := (1 : Int32)) hx hb dX4_readsBranch_156 (by decide) ?_
              refine lv_icmp_ne (tgt := 162) hx hb dX4_readsBranch_157 (by decide) (fun c78 => ?_) (fun c78 => ?_)
              · have h := zif_f c78 h
                refine lv_aload_n hx hb dX4_readsBranch_162 rfl (lv_at hl 2 rfl) ?_
                refine va_get (D := D) (ci := 4) (v := .ref a_orders) (C := RX4) (T := TX4) (N := 28) hx hb hts hinX4 hown hK hP 0 rfl rfl 22 (by decide) (hts (Cond.fieldLink RX4 38 "LadderRelaysModel" "orders" "[I") (List.mem_of_getElem? (i := 2) rfl)) (fun _ h9 => h9) rfl dX4_readsBranch_163 ?_
                refine lv_iload_n hx hb dX4_readsBranch_166 rfl (lv_at hl 4 rfl) ?_
                refine lv_iload hx hb dX4_readsBranch_167 (lv_at hl 1 rfl) ?_
                refine lv_iadd hx hb dX4_readsBranch_169 ?_
                refine lv_dup2_11 hx hb dX4_readsBranch_170 rfl rfl ?_
                obtain ⟨v79, hv79, h⟩ := zbnd h
                refine zr_iald hx hb hK hP 2 0 rfl rfl hv79 dX4_readsBranch_171 ?_
                refine lv_iconst (v := (1 : Int32)) hx hb dX4_readsBranch_172 (by decide) ?_
                refine lv_iload hx hb dX4_readsBranch_173 (lv_at hl 0 rfl) ?_
                refine lv_ishl hx hb dX4_readsBranch_175 ?_
                refine lv_ior hx hb dX4_readsBranch_176 ?_
                obtain ⟨v80, hv80, h⟩ := zbnd h
                refine zr_iast hx hb hK hP hD hS 2 0 rfl rfl hv80 dX4_readsBranch_177 (fun H locs hP hD hS => ?_)
                have hP : va_P D vwCl [(a_this, .inr (4, [.int f_thrown, .ref a_s, .ref a_then, .ref a_past, .int f_saved, .ref a_text, .int f_length, .int f_counted, .int f_due, .ref a_met, .ref a_table, .ref a_ways, .ref a_waysOf, .ref a_into, .int f_meets, .int f_isTold, .int f_rests, .int f_leastRest, .int f_mostRest, .int f_isWheel, .int f_ended, .int v56.2, .ref a_orders, .int f_ordered, .int f_cureAmount, .int f_cureRelay, .int f_cureWhich, .long f_hash])), (a_text, .inl (cC, 60, .inl f_text)), (a_orders, .inl (cI, 176, .inl v80))] H := hP
                have hD : va_D A [(a_this, .inr (4, [.int f_thrown, .ref a_s, .ref a_then, .ref a_past, .int f_saved, .ref a_text, .int f_length, .int f_counted, .int f_due, .ref a_met, .ref a_table, .ref a_ways, .ref a_waysOf, .ref a_into, .int f_meets, .int f_isTold, .int f_rests, .int f_leastRest, .int f_mostRest, .int f_isWheel, .int f_ended, .int v56.2, .ref a_orders, .int f_ordered, .int f_cureAmount, .int f_cureRelay, .int f_cureWhich, .long f_hash])), (a_text, .inl (cC, 60, .inl f_text)), (a_orders, .inl (cI, 176, .inl v80))] := hD
                refine lv_aload_n hx hb dX4_readsBranch_178 rfl (lv_at hl 2 rfl) ?_
                refine lv_dup hx hb dX4_readsBranch_179 rfl ?_
                refine va_get (D := D) (ci := 4) (v := .int v56.2) (C := RX4) (T := TX4) (N := 28) hx hb hts hinX4 hown hK hP 0 rfl rfl 21 (by decide) (hts (Cond.fieldLink RX4 179 "LadderRelaysModel" "spot" "I") (List.mem_of_getElem? (i := 4) rfl)) (fun _ h9 => h9) rfl dX4_readsBranch_180 ?_
                refine lv_iconst (v := (1 : Int32)) hx hb dX4_readsBranch_183 (by decide) ?_
                refine lv_iadd hx hb dX4_readsBranch_184 ?_
                refine va_put (D := D) (ci := 4) (v := .int (v56.2 + (1 : Int32))) (ty := .int) (C := RX4) (T := TX4) (N := 28) hx hb hts hinX4 tyX4 tyX4_ok nmX4 hown hK hP hD hS 0 rfl rfl 21 (by decide) (hts (Cond.fieldLink RX4 179 "LadderRelaysModel" "spot" "I") (List.mem_of_getElem? (i := 4) rfl)) (fun _ h9 => h9) rfl (by decide +kernel) rfl rfl (Nat.le_of_ble_eq_true rfl) dX4_readsBranch_185 (fun H locs hP hD hS => ?_)
                have hP : va_P D vwCl [(a_this, .inr (4, [.int f_thrown, .ref a_s, .ref a_then, .ref a_past, .int f_saved, .ref a_text, .int f_length, .int f_counted, .int f_due, .ref a_met, .ref a_table, .ref a_ways, .ref a_waysOf, .ref a_into, .int f_meets, .int f_isTold, .int f_rests, .int f_leastRest, .int f_mostRest, .int f_isWheel, .int f_ended, .int (v56.2 + (1 : Int32)), .ref a_orders, .int f_ordered, .int f_cureAmount, .int f_cureRelay, .int f_cureWhich, .long f_hash])), (a_text, .inl (cC, 60, .inl f_text)), (a_orders, .inl (cI, 176, .inl v80))] H := hP
                have hD : va_D A [(a_this, .inr (4, [.int f_thrown, .ref a_s, .ref a_then, .ref a_past, .int f_saved, .ref a_text, .int f_length, .int f_counted, .int f_due, .ref a_met, .ref a_table, .ref a_ways, .ref a_waysOf, .ref a_into, .int f_meets, .int f_isTold, .int f_rests, .int f_leastRest, .int f_mostRest, .int f_isWheel, .int f_ended, .int (v56.2 + (1 : Int32)), .ref a_orders, .int f_ordered, .int f_cureAmount, .int f_cureRelay, .int f_cureWhich, .long f_hash])), (a_text, .inl (cC, 60, .inl f_text)), (a_orders, .inl (cI, 176, .inl v80))] := hD
                refine lv_aload_n hx hb dX4_readsBranch_188 rfl (lv_at hl 2 rfl) ?_
                refine lv_bipush (v := (33 : Int32)) hx hb dX4_readsBranch_189 (by decide) ?_
                refine lv_bipush (v := (33 : Int32)) hx hb dX4_readsBranch_191 (by decide) ?_
                obtain ⟨v81, hv81, h⟩ := zbnd h
                have hPc := hP.sub (ws' := [(a_this, .inr (4, [.int f_thrown, .ref a_s, .ref a_then, .ref a_past, .int f_saved, .ref a_text, .int f_length, .int f_counted, .int f_due, .ref a_met, .ref a_table, .ref a_ways, .ref a_waysOf, .ref a_into, .int f_meets, .int f_isTold, .int f_rests, .int f_leastRest, .int f_mostRest, .int f_isWheel, .int f_ended, .int (v56.2 + (1 : Int32)), .ref a_orders, .int f_ordered, .int f_cureAmount, .int f_cureRelay, .int f_cureWhich, .long f_hash])), (a_text, .inl (cC, 60, .inl f_text))]) [0, 1] rfl
                refine zc_i (W.runV (C := RX4) (As := [.int (33 : Int32), .int (33 : Int32)]) (rest := []) ⟨hx, hb, hml, hown, hts⟩ (c_X4_sees l D cI cC cO cJ fu a_this a_s a_then a_past a_text a_met a_table a_ways a_waysOf a_into a_orders f_thrown f_saved f_length f_counted f_due f_meets f_isTold f_rests f_leastRest f_mostRest f_isWheel f_ended (v56.2 + (1 : Int32)) f_ordered f_cureAmount f_cureRelay f_cureWhich f_hash f_text (33 : Int32) (33 : Int32) v81 hv81) (cwV 2 hts gX4_readsBranch_X4_sees rfl rfl rfl (by decide +kernel) ⟨Nat.le_of_ble_eq_true rfl, Nat.le_of_ble_eq_true rfl⟩) ⟨zPr_blind, (va_recv hK hP (q0 := 0) (ci := 4) rfl rfl), zPr_pre hK hPc⟩ rfl rfl hl.1 rfl (lv_room (Nat.le_of_ble_eq_true rfl)) dX4_readsBranch_193 ⟨Nat.zero_le _, Nat.zero_le _⟩) ?_
                refine lv_if_ne (tgt := 221) hx hb dX4_readsBranch_196 (by decide) (fun c82 => ?_) (fun c82 => ?_)
                · have h := zif_f c82 h
                  refine lv_iconst (v := (1 : Int32)) hx hb dX4_readsBranch_221 (by decide) ?_
                  refine lv_goto (tgt := 226) hx hb dX4_readsBranch_222 (by decide) ?_
                  refine lv_istore_n (lv' := [(3, .int (1 : Int32)), (5, .int (((4 : Int32) + v74) - (48 : Int32))), (4, .int (0 : Int32)), (0, .ref a_this), (1, .int p0), (2, .int v1)]) hx hb dX4_readsBranch_226 rfl hl (by decide) rfl (fun ls hl => ?_)
                  refine lv_goto (tgt := 32) hx hb dX4_readsBranch_227 (by decide) ?_
                  exact ih32 (1 : Int32) (v56.2 + (1 : Int32)) v80 h _ _ hP hD hS ls (lv_sub hl [3, 4, 5, 0] rfl)
                · have h := zif_t c82 h
                  refine lv_aload_n hx hb dX4_readsBranch_199 rfl (lv_at hl 2 rfl) ?_
                  refine lv_bipush (v := (97 : Int32)) hx hb dX4_readsBranch_200 (by decide) ?_
                  refine lv_bipush (v := (100 : Int32)) hx hb dX4_readsBranch_202 (by decide) ?_
                  obtain ⟨v83, hv83, h⟩ := zbnd h
                  have hPc := hP.sub (ws' := [(a_this, .inr (4, [.int f_thrown, .ref a_s, .ref a_then, .ref a_past, .int f_saved, .ref a_text, .int f_length, .int f_counted, .int f_due, .ref a_met, .ref a_table, .ref a_ways, .ref a_waysOf, .ref a_into, .int f_meets, .int f_isTold, .int f_rests, .int f_leastRest, .int f_mostRest, .int f_isWheel, .int f_ended, .int (v56.2 + (1 : Int32)), .ref a_orders, .int f_ordered, .int f_cureAmount, .int f_cureRelay, .int f_cureWhich, .long f_hash])), (a_text, .inl (cC, 60, .inl f_text))]) [0, 1] rfl
                  refine zc_i (W.runV (C := RX4) (As := [.int (97 : Int32), .int (100 : Int32)]) (rest := []) ⟨hx, hb, hml, hown, hts⟩ (c_X4_sees l D cI cC cO cJ fu a_this a_s a_then a_past a_text a_met a_table a_ways a_waysOf a_into a_orders f_thrown f_saved f_length f_counted f_due f_meets f_isTold f_rests f_leastRest f_mostRest f_isWheel f_ended (v56.2 + (1 : Int32)) f_ordered f_cureAmount f_cureRelay f_cureWhich f_hash f_text (97 : Int32) (100 : Int32) v83 hv83) (cwV 2 hts gX4_readsBranch_X4_sees rfl rfl rfl (by decide +kernel) ⟨Nat.le_of_ble_eq_true rfl, Nat.le_of_ble_eq_true rfl⟩) ⟨zPr_blind, (va_recv hK hP (q0 := 0) (ci := 4) rfl rfl), zPr_pre hK hPc⟩ rfl rfl hl.1 rfl (lv_room (Nat.le_of_ble_eq_true rfl)) dX4_readsBranch_204 ⟨Nat.zero_le _, Nat.zero_le _⟩) ?_
                  refine lv_if_ne (tgt := 221) hx hb dX4_readsBranch_207 (by decide) (fun c84 => ?_) (fun c84 => ?_)
                  · have h := zif_f c84 h
                    refine lv_iconst (v := (1 : Int32)) hx hb dX4_readsBranch_221 (by decide) ?_
                    refine lv_goto (tgt := 226) hx hb dX4_readsBranch_222 (by decide) ?_
                    refine lv_istore_n (lv' := [(3, .int (1 : Int32)), (5, .int (((4 : Int32) + v74) - (48 : Int32))), (4, .int (0 : Int32)), (0, .ref a_this), (1, .int p0), (2, .int v1)]) hx hb dX4_readsBranch_226 rfl hl (by decide) rfl (fun ls hl => ?_)
                    refine lv_goto (tgt := 32) hx hb dX4_readsBranch_227 (by decide) ?_
                    exact ih32 (1 : Int32) (v56.2 + (1 : Int32)) v80 h _ _ hP hD hS ls (lv_sub hl [3, 4, 5, 0] rfl)
                  · have h := zif_t c84 h
                    refine lv_aload_n hx hb dX4_readsBranch_210 rfl (lv_at hl 2 rfl) ?_
                    refine lv_bipush (v := (48 : Int32)) hx hb dX4_readsBranch_211 (by decide) ?_
                    refine lv_bipush (v := (57 : Int32)) hx hb dX4_readsBranch_213 (by decide) ?_
                    obtain ⟨v85, hv85, h⟩ := zbnd h
                    have hPc := hP.sub (ws' := [(a_this, .inr (4, [.int f_thrown, .ref a_s, .ref a_then, .ref a_past, .int f_saved, .ref a_text, .int f_length, .int f_counted, .int f_due, .ref a_met, .ref a_table, .ref a_ways, .ref a_waysOf, .ref a_into, .int f_meets, .int f_isTold, .int f_rests, .int f_leastRest, .int f_mostRest, .int f_isWheel, .int f_ended, .int (v56.2 + (1 : Int32)), .ref a_orders, .int f_ordered, .int f_cureAmount, .int f_cureRelay, .int f_cureWhich, .long f_hash])), (a_text, .inl (cC, 60, .inl f_text))]) [0, 1] rfl
                    refine zc_i (W.runV (C := RX4) (As := [.int (48 : Int32), .int (57 : Int32)]) (rest := []) ⟨hx, hb, hml, hown, hts⟩ (c_X4_sees l D cI cC cO cJ fu a_this a_s a_then a_past a_text a_met a_table a_ways a_waysOf a_into a_orders f_thrown f_saved f_length f_counted f_due f_meets f_isTold f_rests f_leastRest f_mostRest f_isWheel f_ended (v56.2 + (1 : Int32)) f_ordered f_cureAmount f_cureRelay f_cureWhich f_hash f_text (48 : Int32) (57 : Int32) v85 hv85) (cwV 2 hts gX4_readsBranch_X4_sees rfl rfl rfl (by decide +kernel) ⟨Nat.le_of_ble_eq_true rfl, Nat.le_of_ble_eq_true rfl⟩) ⟨zPr_blind, (va_recv hK hP (q0 := 0) (ci := 4) rfl rfl), zPr_pre hK hPc⟩ rfl rfl hl.1 rfl (lv_room (Nat.le_of_ble_eq_true rfl)) dX4_readsBranch_215 ⟨Nat.zero_le _, Nat.zero_le _⟩) ?_
                    refine lv_if_eq (tgt := 225) hx hb dX4_readsBranch_218 (by decide) (fun c86 => ?_) (fun c86 => ?_)
                    · have h := zif_t c86 h
                      refine lv_iconst (v := (0 : Int32)) hx hb dX4_readsBranch_225 (by decide) ?_
                      refine lv_istore_n (lv' := [(3, .int (0 : Int32)), (5, .int (((4 : Int32) + v74) - (48 : Int32))), (4, .int (0 : Int32)), (0, .ref a_this), (1, .int p0), (2, .int v1)]) hx hb dX4_readsBranch_226 rfl hl (by decide) rfl (fun ls hl => ?_)
                      refine lv_goto (tgt := 32) hx hb dX4_readsBranch_227 (by decide) ?_
                      exact ih32 (0 : Int32) (v56.2 + (1 : Int32)) v80 h _ _ hP hD hS ls (lv_sub hl [3, 4, 5, 0] rfl)
                    · have h := zif_f c86 h
                      refine lv_iconst (v := (1 : Int32)) hx hb dX4_readsBranch_221 (by decide) ?_
                      refine lv_goto (tgt := 226) hx hb dX4_readsBranch_222 (by decide) ?_
                      refine lv_istore_n (lv' := [(3, .int (1 : Int32)), (5, .int (((4 : Int32) + v74) - (48 : Int32))), (4, .int (0 : Int32)), (0, .ref a_this), (1, .int p0), (2, .int v1)]) hx hb dX4_readsBranch_226 rfl hl (by decide) rfl (fun ls hl => ?_)
                      refine lv_goto (tgt := 32) hx hb dX4_readsBranch_227 (by decide) ?_
                      exact ih32 (1 : Int32) (v56.2 + (1 : Int32)) v80 h _ _ hP hD hS ls (lv_sub hl [3, 4, 5, 0] rfl)
              · have h := zif_t c78 h
                refine lv_iconst (v := (0 : Int32)) hx hb dX4_readsBranch_160 (by decide) ?_
                have hR := Option.some.inj h
                subst hR
                exact W.zret (v := (0 : Int32)) (ty := .boolean) hx hb hr rfl (fun t ht hW => ⟨⟨_, (), rfl, rfl, zhp ht hP⟩, hS.F ht⟩) hS.2.2 dX4_readsBranch_161
        · have h := zif_f c59 h
          refine lv_aload_n hx hb dX4_readsBranch_84 rfl (lv_at hl 1 rfl) ?_
          refine va_get (D := D) (ci := 4) (v := .ref a_text) (C := RX4) (T := TX4) (N := 28) hx hb hts hinX4 hown hK hP 0 rfl rfl 5 (by decide) (hts (Cond.fieldLink RX4 19 "LadderRelaysModel" "text" "[C") (List.mem_of_getElem? (i := 3) rfl)) (fun _ h9 => h9) rfl dX4_readsBranch_85 ?_
          refine lv_aload_n hx hb dX4_readsBranch_88 rfl (lv_at hl 1 rfl) ?_
          refine va_get (D := D) (ci := 4) (v := .int v56.2) (C := RX4) (T := TX4) (N := 28) hx hb hts hinX4 hown hK hP 0 rfl rfl 21 (by decide) (hts (Cond.fieldLink RX4 179 "LadderRelaysModel" "spot" "I") (List.mem_of_getElem? (i := 4) rfl)) (fun _ h9 => h9) rfl dX4_readsBranch_89 ?_
          obtain ⟨v87, hv87, h⟩ := zbnd h
          refine zr_cald hx hb hK hP 1 1 rfl rfl hv87 dX4_readsBranch_92 ?_
          refine lv_bipush (v := (97 : Int32)) hx hb dX4_readsBranch_93 (by decide) ?_
          refine lv_isub hx hb dX4_readsBranch_95 ?_
          refine lv_goto (tgt := 128) hx hb dX4_readsBranch_96 (by decide) ?_
          refine lv_istore (lv' := [(5, .int (v87 - (97 : Int32))), (4, .int (0 : Int32)), (0, .ref a_this), (1, .int p0), (2, .int v1), (3, .int v7)]) hx hb dX4_readsBranch_128 hl (by decide) rfl (fun ls hl => ?_)
          refine lv_iload hx hb dX4_readsBranch_130 (lv_at hl 0 rfl) ?_
          refine lv_iconst (v := (-1 : Int32)) hx hb dX4_readsBranch_132 (by decide) ?_
          refine lv_icmp_eq (tgt := 160) hx hb dX4_readsBranch_133 (by decide) (fun c88 => ?_) (fun c88 => ?_)
          · have h := zif_t c88 h
            refine lv_iconst (v := (0 : Int32)) hx hb dX4_readsBranch_160 (by decide) ?_
            have hR := Option.some.inj h
            subst hR
            exact W.zret (v := (0 : Int32)) (ty := .boolean) hx hb hr rfl (fun t ht hW => ⟨⟨_, (), rfl, rfl, zhp ht hP⟩, hS.F ht⟩) hS.2.2 dX4_readsBranch_161
          · have h := zif_f c88 h
            refine lv_aload_n hx hb dX4_readsBranch_136 rfl (lv_at hl 2 rfl) ?_
            refine va_get (D := D) (ci := 4) (v := .ref a_orders) (C := RX4) (T := TX4) (N := 28) hx hb hts hinX4 hown hK hP 0 rfl rfl 22 (by decide) (hts (Cond.fieldLink RX4 38 "LadderRelaysModel" "orders" "[I") (List.mem_of_getElem? (i := 2) rfl)) (fun _ h9 => h9) rfl dX4_readsBranch_137 ?_
            refine lv_iload_n hx hb dX4_readsBranch_140 rfl (lv_at hl 4 rfl) ?_
            obtain ⟨v89, hv89, h⟩ := zbnd h
            refine zr_iald hx hb hK hP 2 0 rfl rfl hv89 dX4_readsBranch_141 ?_
            refine lv_aload_n hx hb dX4_readsBranch_142 rfl (lv_at hl 2 rfl) ?_
            refine va_get (D := D) (ci := 4) (v := .ref a_orders) (C := RX4) (T := TX4) (N := 28) hx hb hts hinX4 hown hK hP 0 rfl rfl 22 (by decide) (hts (Cond.fieldLink RX4 38 "LadderRelaysModel" "orders" "[I") (List.mem_of_getElem? (i := 2) rfl)) (fun _ h9 => h9) rfl dX4_readsBranch_143 ?_
            refine lv_iload_n hx hb dX4_readsBranch_146 rfl (lv_at hl 4 rfl) ?_
            refine lv_iconst (v := (1 : Int32)) hx hb dX4_readsBranch_147 (by decide) ?_
            refine lv_iadd hx hb dX4_readsBranch_148 ?_
            obtain ⟨v90, hv90, h⟩ := zbnd h
            refine zr_iald hx hb hK hP 2 0 rfl rfl hv90 dX4_readsBranch_149 ?_
            refine lv_ior hx hb dX4_readsBranch_150 ?_
            refine lv_iload hx hb dX4_readsBranch_151 (lv_at hl 0 rfl) ?_
            refine lv_ishr hx hb dX4_readsBranch_153 ?_
            refine lv_iconst (v := (1 : Int32)) hx hb dX4_readsBranch_154 (by decide) ?_
            refine lv_iand hx hb dX4_readsBranch_155 ?_
            refine lv_iconst (v := (1 : Int32)) hx hb dX4_readsBranch_156 (by decide) ?_
            refine lv_icmp_ne (tgt := 162) hx hb dX4_readsBranch_157 (by decide) (fun c91 => ?_) (fun c91 => ?_)
            · have h := zif_f c91 h
              refine lv_aload_n hx hb dX4_readsBranch_162 rfl (lv_at hl 2 rfl) ?_
              refine va_get (D := D) (ci := 4) (v := .ref a_orders) (C := RX4) (T := TX4) (N := 28) hx hb hts hinX4 hown hK hP 0 rfl rfl 22 (by decide) (hts (Cond.fieldLink RX4 38 "LadderRelaysModel" "orders" "[I") (List.mem_of_getElem? (i := 2) rfl)) (fun _ h9 => h9) rfl dX4_readsBranch_163 ?_
              refine lv_iload_n hx hb dX4_readsBranch_166 rfl (lv_at hl 4 rfl) ?_
              refine lv_iload hx hb dX4_readsBranch_167 (lv_at hl 1 rfl) ?_
              refine lv_iadd hx hb dX4_readsBranch_169 ?_
              refine lv_dup2_11 hx hb dX4_readsBranch_170 rfl rfl ?_
              obtain ⟨v92, hv92, h⟩ := zbnd h
              refine zr_iald hx hb hK hP 2 0 rfl rfl hv92 dX4_readsBranch_171 ?_
              refine lv_iconst (v := (1 : Int32)) hx hb dX4_readsBranch_172 (by decide) ?_
              refine lv_iload hx hb dX4_readsBranch_173 (lv_at hl 0 rfl) ?_
              refine lv_ishl hx hb dX4_readsBranch_175 ?_
              refine lv_ior hx hb dX4_readsBranch_176 ?_
              obtain ⟨v93, hv93, h⟩ := zbnd h
              refine zr_iast hx hb hK hP hD hS 2 0 rfl rfl hv93 dX4_readsBranch_177 (fun H locs hP hD hS => ?_)
              have hP : va_P D vwCl [(a_this, .inr (4, [.int f_thrown, .ref a_s, .ref a_then, .ref a_past, .int f_saved, .ref a_text, .int f_length, .int f_counted, .int f_due, .ref a_met, .ref a_table, .ref a_ways, .ref a_waysOf, .ref a_into, .int f_meets, .int f_isTold, .int f_rests, .int f_leastRest, .int f_mostRest, .int f_isWheel, .int f_ended, .int v56.2, .ref a_orders, .int f_ordered, .int f_cureAmount, .int f_cureRelay, .int f_cureWhich, .long f_hash])), (a_text, .inl (cC, 60, .inl f_text)), (a_orders, .inl (cI, 176, .inl v93))] H := hP
              have hD : va_D A [(a_this, .inr (4, [.int f_thrown, .ref a_s, .ref a_then, .ref a_past, .int f_saved, .ref a_text, .int f_length, .int f_counted, .int f_due, .ref a_met, .ref a_table, .ref a_ways, .ref a_waysOf, .ref a_into, .int f_meets, .int f_isTold, .int f_rests, .int f_leastRest, .int f_mostRest, .int f_isWheel, .int f_ended, .int v56.2, .ref a_orders, .int f_ordered, .int f_cureAmount, .int f_cureRelay, .int f_cureWhich, .long f_hash])), (a_text, .inl (cC, 60, .inl f_text)), (a_orders, .inl (cI, 176, .inl v93))] := hD
              refine lv_aload_n hx hb dX4_readsBranch_178 rfl (lv_at hl 2 rfl) ?_
              refine lv_dup hx hb dX4_readsBranch_179 rfl ?_
              refine va_get (D := D) (ci := 4) (v := .int v56.2) (C := RX4) (T := TX4) (N := 28) hx hb hts hinX4 hown hK hP 0 rfl rfl 21 (by decide) (hts (Cond.fieldLink RX4 179 "LadderRelaysModel" "spot" "I") (List.mem_of_getElem? (i := 4) rfl)) (fun _ h9 => h9) rfl dX4_readsBranch_180 ?_
              refine lv_iconst (v := (1 : Int32)) hx hb dX4_readsBranch_183 (by decide) ?_
              refine lv_iadd hx hb dX4_readsBranch_184 ?_
              refine va_put (D := D) (ci := 4) (v := .int (v56.2 + (1 : Int32))) (ty := .int) (C := RX4) (T := TX4) (N := 28) hx hb hts hinX4 tyX4 tyX4_ok nmX4 hown hK hP hD hS 0 rfl rfl 21 (by decide) (hts (Cond.fieldLink RX4 179 "LadderRelaysModel" "spot" "I") (List.mem_of_getElem? (i := 4) rfl)) (fun _ h9 => h9) rfl (by decide +kernel) rfl rfl (Nat.le_of_ble_eq_true rfl) dX4_readsBranch_185 (fun H locs hP hD hS => ?_)
              have hP : va_P D vwCl [(a_this, .inr (4, [.int f_thrown, .ref a_s, .ref a_then, .ref a_past, .int f_saved, .ref a_text, .int f_length, .int f_counted, .int f_due, .ref a_met, .ref a_table, .ref a_ways, .ref a_waysOf, .ref a_into, .int f_meets, .int f_isTold, .int f_rests, .int f_leastRest, .int f_mostRest, .int f_isWheel, .int f_ended, .int (v56.2 + (1 : Int32)), .ref a_orders, .int f_ordered, .int f_cureAmount, .int f_cureRelay, .int f_cureWhich, .long f_hash])), (a_text, .inl (cC, 60, .inl f_text)), (a_orders, .inl (cI, 176, .inl v93))] H := hP
              have hD : va_D A [(a_this, .inr (4, [.int f_thrown, .ref a_s, .ref a_then, .ref a_past, .int f_saved, .ref a_text, .int f_length, .int f_counted, .int f_due, .ref a_met, .ref a_table, .ref a_ways, .ref a_waysOf, .ref a_into, .int f_meets, .int f_isTold, .int f_rests, .int f_leastRest, .int f_mostRest, .int f_isWheel, .int f_ended, .int (v56.2 + (1 : Int32)), .ref a_orders, .int f_ordered, .int f_cureAmount, .int f_cureRelay, .int f_cureWhich, .long f_hash])), (a_text, .inl (cC, 60, .inl f_text)), (a_orders, .inl (cI, 176, .inl v93))] := hD
              refine lv_aload_n hx hb dX4_readsBranch_188 rfl (lv_at hl 2 rfl) ?_
              refine lv_bipush (v := (33 : Int32)) hx hb dX4_readsBranch_189 (by decide) ?_
              refine lv_bipush (v := (33 : Int32)) hx hb dX4_readsBranch_191 (by decide) ?_
              obtain ⟨v94, hv94, h⟩ := zbnd h
              have hPc := hP.sub (ws' := [(a_this, .inr (4, [.int f_thrown, .ref a_s, .ref a_then, .ref a_past, .int f_saved, .ref a_text, .int f_length, .int f_counted, .int f_due, .ref a_met, .ref a_table, .ref a_ways, .ref a_waysOf, .ref a_into, .int f_meets, .int f_isTold, .int f_rests, .int f_leastRest, .int f_mostRest, .int f_isWheel, .int f_ended, .int (v56.2 + (1 : Int32)), .ref a_orders, .int f_ordered, .int f_cureAmount, .int f_cureRelay, .int f_cureWhich, .long f_hash])), (a_text, .inl (cC, 60, .inl f_text))]) [0, 1] rfl
              refine zc_i (W.runV (C := RX4) (As := [.int (33 : Int32), .int (33 : Int32)]) (rest := []) ⟨hx, hb, hml, hown, hts⟩ (c_X4_sees l D cI cC cO cJ fu a_this a_s a_then a_past a_text a_met a_table a_ways a_waysOf a_into a_orders f_thrown f_saved f_length f_counted f_due f_meets f_isTold f_rests f_leastRest f_mostRest f_isWheel f_ended (v56.2 + (1 : Int32)) f_ordered f_cureAmount f_cureRelay f_cureWhich f_hash f_text (33 : Int32) (33 : Int32) v94 hv94) (cwV 2 hts gX4_readsBranch_X4_sees rfl rfl rfl (by decide +kernel) ⟨Nat.le_of_ble_eq_true rfl, Nat.le_of_ble_eq_true rfl⟩) ⟨zPr_blind, (va_recv hK hP (q0 := 0) (ci := 4) rfl rfl), zPr_pre hK hPc⟩ rfl rfl hl.1 rfl (lv_room (Nat.le_of_ble_eq_true rfl)) dX4_readsBranch_193 ⟨Nat.zero_le _, Nat.zero_le _⟩) ?_
              refine lv_if_ne (tgt := 221) hx hb dX4_readsBranch_196 (by decide) (fun c95 => ?_) (fun c95 => ?_)
              · have h := zif_f c95 h
                refine lv_iconst (v := (1 : Int32)) hx hb dX4_readsBranch_221 (by decide) ?_
                refine lv_goto (tgt := 226) hx hb dX4_readsBranch_222 (by decide) ?_
                refine lv_istore_n (lv' := [(3, .int (1 : Int32)), (5, .int (v87 - (97 : Int32))), (4, .int (0 : Int32)), (0, .ref a_this), (1, .int p0), (2, .int v1)]) hx hb dX4_readsBranch_226 rfl hl (by decide) rfl (fun ls hl => ?_)
                refine lv_goto (tgt := 32) hx hb dX4_readsBranch_227 (by decide) ?_
                exact ih32 (1 : Int32) (v56.2 + (1 : Int32)) v93 h _ _ hP hD hS ls (lv_sub hl [3, 4, 5, 0] rfl)
              · have h := zif_t c95 h
                refine lv_aload_n hx hb dX4_readsBranch_199 rfl (lv_at hl 2 rfl) ?_
                refine lv_bipush (v := (97 : Int32)) hx hb dX4_readsBranch_200 (by decide) ?_
                refine lv_bipush (v := (100 : Int32)) hx hb dX4_readsBranch_202 (by decide) ?_
                obtain ⟨v96, hv96, h⟩ := zbnd h
                have hPc := hP.sub (ws' := [(a_this, .inr (4, [.int f_thrown, .ref a_s, .ref a_then, .ref a_past, .int f_saved, .ref a_text, .int f_length, .int f_counted, .int f_due, .ref a_met, .ref a_table, .ref a_ways, .ref a_waysOf, .ref a_into, .int f_meets, .int f_isTold, .int f_rests, .int f_leastRest, .int f_mostRest, .int f_isWheel, .int f_ended, .int (v56.2 + (1 : Int32)), .ref a_orders, .int f_ordered, .int f_cureAmount, .int f_cureRelay, .int f_cureWhich, .long f_hash])), (a_text, .inl (cC, 60, .inl f_text))]) [0, 1] rfl
                refine zc_i (W.runV (C := RX4) (As := [.int (97 : Int32), .int (100 : Int32)]) (rest := []) ⟨hx, hb, hml, hown, hts⟩ (c_X4_sees l D cI cC cO cJ fu a_this a_s a_then a_past a_text a_met a_table a_ways a_waysOf a_into a_orders f_thrown f_saved f_length f_counted f_due f_meets f_isTold f_rests f_leastRest f_mostRest f_isWheel f_ended (v56.2 + (1 : Int32)) f_ordered f_cureAmount f_cureRelay f_cureWhich f_hash f_text (97 : Int32) (100 : Int32) v96 hv96) (cwV 2 hts gX4_readsBranch_X4_sees rfl rfl rfl (by decide +kernel) ⟨Nat.le_of_ble_eq_true rfl, Nat.le_of_ble_eq_true rfl⟩) ⟨zPr_blind, (va_recv hK hP (q0 := 0) (ci := 4) rfl rfl), zPr_pre hK hPc⟩ rfl rfl hl.1 rfl (lv_room (Nat.le_of_ble_eq_true rfl)) dX4_readsBranch_204 ⟨Nat.zero_le _, Nat.zero_le _⟩) ?_
                refine lv_if_ne (tgt := 221) hx hb dX4_readsBranch_207 (by decide) (fun c97 => ?_) (fun c97 => ?_)
                · have h := zif_f c97 h
                  refine lv_iconst (v := (1 : Int32)) hx hb dX4_readsBranch_221 (by decide) ?_
                  refine lv_goto (tgt := 226) hx hb dX4_readsBranch_222 (by decide) ?_
                  refine lv_istore_n (lv' := [(3, .int (1 : Int32)), (5, .int (v87 - (97 : Int32))), (4, .int (0 : Int32)), (0, .ref a_this), (1, .int p0), (2, .int v1)]) hx hb dX4_readsBranch_226 rfl hl (by decide) rfl (fun ls hl => ?_)
                  refine lv_goto (tgt := 32) hx hb dX4_readsBranch_227 (by decide) ?_
                  exact ih32 (1 : Int32) (v56.2 + (1 : Int32)) v93 h _ _ hP hD hS ls (lv_sub hl [3, 4, 5, 0] rfl)
                · have h := zif_t c97 h
                  refine lv_aload_n hx hb dX4_readsBranch_210 rfl (lv_at hl 2 rfl) ?_
                  refine lv_bipush (v := (48 : Int32)) hx hb dX4_readsBranch_211 (by decide) ?_
                  refine lv_bipush (v := (57 : Int32)) hx hb dX4_readsBranch_213 (by decide) ?_
                  obtain ⟨v98, hv98, h⟩ := zbnd h
                  have hPc := hP.sub (ws' := [(a_this, .inr (4, [.int f_thrown, .ref a_s, .ref a_then, .ref a_past, .int f_saved, .ref a_text, .int f_length, .int f_counted, .int f_due, .ref a_met, .ref a_table, .ref a_ways, .ref a_waysOf, .ref a_into, .int f_meets, .int f_isTold, .int f_rests, .int f_leastRest, .int f_mostRest, .int f_isWheel, .int f_ended, .int (v56.2 + (1 : Int32)), .ref a_orders, .int f_ordered, .int f_cureAmount, .int f_cureRelay, .int f_cureWhich, .long f_hash])), (a_text, .inl (cC, 60, .inl f_text))]) [0, 1] rfl
                  refine zc_i (W.runV (C := RX4) (As := [.int (48 : Int32), .int (57 : Int32)]) (rest := []) ⟨hx, hb, hml, hown, hts⟩ (c_X4_sees l D cI cC cO cJ fu a_this a_s a_then a_past a_text a_met a_table a_ways a_waysOf a_into a_orders f_thrown f_saved f_length f_counted f_due f_meets f_isTold f_rests f_leastRest f_mostRest f_isWheel f_ended (v56.2 + (1 : Int32)) f_ordered f_cureAmount f_cureRelay f_cureWhich f_hash f_text (48 : Int32) (57 : Int32) v98 hv98) (cwV 2 hts gX4_readsBranch_X4_sees rfl rfl rfl (by decide +kernel) ⟨Nat.le_of_ble_eq_true rfl, Nat.le_of_ble_eq_true rfl⟩) ⟨zPr_blind, (va_recv hK hP (q0 := 0) (ci := 4) rfl rfl), zPr_pre hK hPc⟩ rfl rfl hl.1 rfl (lv_room (Nat.le_of_ble_eq_true rfl)) dX4_readsBranch_215 ⟨Nat.zero_le _, Nat.zero_le _⟩) ?_
                  refine lv_if_eq (tgt := 225) hx hb dX4_readsBranch_218 (by decide) (fun c99 => ?_) (fun c99 => ?_)
                  · have h := zif_t c99 h
                    refine lv_iconst (v := (0 : Int32)) hx hb dX4_readsBranch_225 (by decide) ?_
                    refine lv_istore_n (lv' := [(3, .int (0 : Int32)), (5, .int (v87 - (97 : Int32))), (4, .int (0 : Int32)), (0, .ref a_this), (1, .int p0), (2, .int v1)]) hx hb dX4_readsBranch_226 rfl hl (by decide) rfl (fun ls hl => ?_)
                    refine lv_goto (tgt := 32) hx hb dX4_readsBranch_227 (by decide) ?_
                    exact ih32 (0 : Int32) (v56.2 + (1 : Int32)) v93 h _ _ hP hD hS ls (lv_sub hl [3, 4, 5, 0] rfl)
                  · have h := zif_f c99 h
                    refine lv_iconst (v := (1 : Int32)) hx hb dX4_readsBranch_221 (by decide) ?_
                    refine lv_goto (tgt := 226) hx hb dX4_readsBranch_222 (by decide) ?_
                    refine lv_istore_n (lv' := [(3, .int (1 : Int32)), (5, .int (v87 - (97 : Int32))), (4, .int (0 : Int32)), (0, .ref a_this), (1, .int p0), (2, .int v1)]) hx hb dX4_readsBranch_226 rfl hl (by decide) rfl (fun ls hl => ?_)
                    refine lv_goto (tgt := 32) hx hb dX4_readsBranch_227 (by decide) ?_
                    exact ih32 (1 : Int32) (v56.2 + (1 : Int32)) v93 h _ _ hP hD hS ls (lv_sub hl [3, 4, 5, 0] rfl)
            · have h := zif_t c91 h
              refine lv_iconst (v := (0 : Int32)) hx hb dX4_readsBranch_160 (by decide) ?_
              have hR := Option.some.inj h
              subst hR
              exact W.zret (v := (0 : Int32)) (ty := .boolean) hx hb hr rfl (fun t ht hW => ⟨⟨_, (), rfl, rfl, zhp ht hP⟩, hS.F ht⟩) hS.2.2 dX4_readsBranch_161
      · have h := zif_f c57 h
        refine lv_iconst (v := (1 : Int32)) hx hb dX4_readsBranch_66 (by decide) ?_
        refine lv_goto (tgt := 71) hx hb dX4_readsBranch_67 (by decide) ?_
        refine lv_istore (lv' := [(4, .int (1 : Int32)), (0, .ref a_this), (1, .int p0), (2, .int v1), (3, .int v7)]) hx hb dX4_readsBranch_71 hl (by decide) rfl (fun ls hl => ?_)
        refine lv_aload_n hx hb dX4_readsBranch_73 rfl (lv_at hl 1 rfl) ?_
        refine lv_bipush (v := (97 : Int32)) hx hb dX4_readsBranch_74 (by decide) ?_
        refine lv_bipush (v := (100 : Int32)) hx hb dX4_readsBranch_76 (by decide) ?_
        obtain ⟨v100, hv100, h⟩ := zbnd h
        have hPc := hP.sub (ws' := [(a_this, .inr (4, [.int f_thrown, .ref a_s, .ref a_then, .ref a_past, .int f_saved, .ref a_text, .int f_length, .int f_counted, .int f_due, .ref a_met, .ref a_table, .ref a_ways, .ref a_waysOf, .ref a_into, .int f_meets, .int f_isTold, .int f_rests, .int f_leastRest, .int f_mostRest, .int f_isWheel, .int f_ended, .int v56.2, .ref a_orders, .int f_ordered, .int f_cureAmount, .int f_cureRelay, .int f_cureWhich, .long f_hash])), (a_text, .inl (cC, 60, .inl f_text))]) [0, 1] rfl
        refine zc_i (W.runV (C := RX4) (As := [.int (97 : Int32), .int (100 : Int32)]) (rest := []) ⟨hx, hb, hml, hown, hts⟩ (c_X4_sees l D cI cC cO cJ fu a_this a_s a_then a_past a_text a_met a_table a_ways a_waysOf a_into a_orders f_thrown f_saved f_length f_counted f_due f_meets f_isTold f_rests f_leastRest f_mostRest f_isWheel f_ended v56.2 f_ordered f_cureAmount f_cureRelay f_cureWhich f_hash f_text (97 : Int32) (100 : Int32) v100 hv100) (cwV 2 hts gX4_readsBranch_X4_sees rfl rfl rfl (by decide +kernel) ⟨Nat.le_of_ble_eq_true rfl, Nat.le_of_ble_eq_true rfl⟩) ⟨zPr_blind, (va_recv hK hP (q0 := 0) (ci := 4) rfl rfl), zPr_pre hK hPc⟩ rfl rfl hl.1 rfl (lv_room (Nat.le_of_ble_eq_true rfl)) dX4_readsBranch_78 ⟨Nat.zero_le _, Nat.zero_le _⟩) ?_
        refine lv_if_eq (tgt := 99) hx hb dX4_readsBranch_81 (by decide) (fun c101 => ?_) (fun c101 => ?_)
        · have h := zif_t c101 h
          refine lv_aload_n hx hb dX4_readsBranch_99 rfl (lv_at hl 1 rfl) ?_
          refine lv_bipush (v := (48 : Int32)) hx hb dX4_readsBranch_100 (by decide) ?_
          refine lv_bipush (v := (53 : Int32)) hx hb dX4_readsBranch_102 (by decide) ?_
          obtain ⟨v102, hv102, h⟩ := zbnd h
          have hPc := hP.sub (ws' := [(a_this, .inr (4, [.int f_thrown, .ref a_s, .ref a_then, .ref a_past, .int f_saved, .ref a_text, .int f_length, .int f_counted, .int f_due, .ref a_met, .ref a_table, .ref a_ways, .ref a_waysOf, .ref a_into, .int f_meets, .int f_isTold, .int f_rests, .int f_leastRest, .int f_mostRest, .int f_isWheel, .int f_ended, .int v56.2, .ref a_orders, .int f_ordered, .int f_cureAmount, .int f_cureRelay, .int f_cureWhich, .long f_hash])), (a_text, .inl (cC, 60, .inl f_text))]) [0, 1] rfl
          refine zc_i (W.runV (C := RX4) (As := [.int (48 : Int32), .int (53 : Int32)]) (rest := []) ⟨hx, hb, hml, hown, hts⟩ (c_X4_sees l D cI cC cO cJ fu a_this a_s a_then a_past a_text a_met a_table a_ways a_waysOf a_into a_orders f_thrown f_saved f_length f_counted f_due f_meets f_isTold f_rests f_leastRest f_mostRest f_isWheel f_ended v56.2 f_ordered f_cureAmount f_cureRelay f_cureWhich f_hash f_text (48 : Int32) (53 : Int32) v102 hv102) (cwV 2 hts gX4_readsBranch_X4_sees rfl rfl rfl (by decide +kernel) ⟨Nat.le_of_ble_eq_true rfl, Nat.le_of_ble_eq_true rfl⟩) ⟨zPr_blind, (va_recv hK hP (q0 := 0) (ci := 4) rfl rfl), zPr_pre hK hPc⟩ rfl rfl hl.1 rfl (lv_room (Nat.le_of_ble_eq_true rfl)) dX4_readsBranch_104 ⟨Nat.zero_le _, Nat.zero_le _⟩) ?_
          refine lv_if_eq (tgt := 127) hx hb dX4_readsBranch_107 (by decide) (fun c103 => ?_) (fun c103 => ?_)
          · have h := zif_t c103 h
            refine lv_iconst (v := (-1 : Int32)) hx hb dX4_readsBranch_127 (by decide) ?_
            refine lv_istore (lv' := [(5, .int (-1 : Int32)), (4, .int (1 : Int32)), (0, .ref a_this), (1, .int p0), (2, .int v1), (3, .int v7)]) hx hb dX4_readsBranch_128 hl (by decide) rfl (fun ls hl => ?_)
            refine lv_iload hx hb dX4_readsBranch_130 (lv_at hl 0 rfl) ?_
            refine lv_iconst (v := (-1 : Int32)) hx hb dX4_readsBranch_132 (by decide) ?_
            refine lv_icmp_eq (tgt := 160) hx hb dX4_readsBranch_133 (by decide) (fun c104 => ?_) (fun c104 => ?_)
            · have h := zif_t c104 h
              refine lv_iconst (v := (0 : Int32)) hx hb dX4_readsBranch_160 (by decide) ?_
              have hR := Option.some.inj h
              subst hR
              exact W.zret (v := (0 : Int32)) (ty := .boolean) hx hb hr rfl (fun t ht hW => ⟨⟨_, (), rfl, rfl, zhp ht hP⟩, hS.F ht⟩) hS.2.2 dX4_readsBranch_161
            · have h := zif_f c104 h
              refine lv_aload_n hx hb dX4_readsBranch_136 rfl (lv_at hl 2 rfl) ?_
              refine va_get (D := D) (ci := 4) (v := .ref a_orders) (C := RX4) (T := TX4) (N := 28) hx hb hts hinX4 hown hK hP 0 rfl rfl 22 (by decide) (hts (Cond.fieldLink RX4 38 "LadderRelaysModel" "orders" "[I") (List.mem_of_getElem? (i := 2) rfl)) (fun _ h9 => h9) rfl dX4_readsBranch_137 ?_
              refine lv_iload_n hx hb dX4_readsBranch_140 rfl (lv_at hl 4 rfl) ?_
              obtain ⟨v105, hv105, h⟩ := zbnd h
              refine zr_iald hx hb hK hP 2 0 rfl rfl hv105 dX4_readsBranch_141 ?_
              refine lv_aload_n hx hb dX4_readsBranch_142 rfl (lv_at hl 2 rfl) ?_
              refine va_get (D := D) (ci := 4) (v := .ref a_orders) (C := RX4) (T := TX4) (N := 28) hx hb hts hinX4 hown hK hP 0 rfl rfl 22 (by decide) (hts (Cond.fieldLink RX4 38 "LadderRelaysModel" "orders" "[I") (List.mem_of_getElem? (i := 2) rfl)) (fun _ h9 => h9) rfl dX4_readsBranch_143 ?_
              refine lv_iload_n hx hb dX4_readsBranch_146 rfl (lv_at hl 4 rfl) ?_
              refine lv_iconst (v := (1 : Int32)) hx hb dX4_readsBranch_147 (by decide) ?_
              refine lv_iadd hx hb dX4_readsBranch_148 ?_
              obtain ⟨v106, hv106, h⟩ := zbnd h
              refine zr_iald hx hb hK hP 2 0 rfl rfl hv106 dX4_readsBranch_149 ?_
              refine lv_ior hx hb dX4_readsBranch_150 ?_
              refine lv_iload hx hb dX4_readsBranch_151 (lv_at hl 0 rfl) ?_
              refine lv_ishr hx hb dX4_readsBranch_153 ?_
              refine lv_iconst (v := (1 : Int32)) hx hb dX4_readsBranch_154 (by decide) ?_
              refine lv_iand hx hb dX4_readsBranch_155 ?_
              refine lv_iconst (v := (1 : Int32)) hx hb dX4_readsBranch_156 (by decide) ?_
              refine lv_icmp_ne (tgt := 162) hx hb dX4_readsBranch_157 (by decide) (fun c107 => ?_) (fun c107 => ?_)
              · have h := zif_f c107 h
                refine lv_aload_n hx hb dX4_readsBranch_162 rfl (lv_at hl 2 rfl) ?_
                refine va_get (D := D) (ci := 4) (v := .ref a_orders) (C := RX4) (T := TX4) (N := 28) hx hb hts hinX4 hown hK hP 0 rfl rfl 22 (by decide) (hts (Cond.fieldLink RX4 38 "LadderRelaysModel" "orders" "[I") (List.mem_of_getElem? (i := 2) rfl)) (fun _ h9 => h9) rfl dX4_readsBranch_163 ?_
                refine lv_iload_n hx hb dX4_readsBranch_166 rfl (lv_at hl 4 rfl) ?_
                refine lv_iload hx hb dX4_readsBranch_167 (lv_at hl 1 rfl) ?_
                refine lv_iadd hx hb dX4_readsBranch_169 ?_
                refine lv_dup2_11 hx hb dX4_readsBranch_170 rfl rfl ?_
                obtain ⟨v108, hv108, h⟩ := zbnd h
                refine zr_iald hx hb hK hP 2 0 rfl rfl hv108 dX4_readsBranch_171 ?_
                refine lv_iconst (v := (1 : Int32)) hx hb dX4_readsBranch_172 (by decide) ?_
                refine lv_iload hx hb dX4_readsBranch_173 (lv_at hl 0 rfl) ?_
                refine lv_ishl hx hb dX4_readsBranch_175 ?_
                refine lv_ior hx hb dX4_readsBranch_176 ?_
                obtain ⟨v109, hv109, h⟩ := zbnd h
                refine zr_iast hx hb hK hP hD hS 2 0 rfl rfl hv109 dX4_readsBranch_177 (fun H locs hP hD hS => ?_)
                have hP : va_P D vwCl [(a_this, .inr (4, [.int f_thrown, .ref a_s, .ref a_then, .ref a_past, .int f_saved, .ref a_text, .int f_length, .int f_counted, .int f_due, .ref a_met, .ref a_table, .ref a_ways, .ref a_waysOf, .ref a_into, .int f_meets, .int f_isTold, .int f_rests, .int f_leastRest, .int f_mostRest, .int f_isWheel, .int f_ended, .int v56.2, .ref a_orders, .int f_ordered, .int f_cureAmount, .int f_cureRelay, .int f_cureWhich, .long f_hash])), (a_text, .inl (cC, 60, .inl f_text)), (a_orders, .inl (cI, 176, .inl v109))] H := hP
                have hD : va_D A [(a_this, .inr (4, [.int f_thrown, .ref a_s, .ref a_then, .ref a_past, .int f_saved, .ref a_text, .int f_length, .int f_counted, .int f_due, .ref a_met, .ref a_table, .ref a_ways, .ref a_waysOf, .ref a_into, .int f_meets, .int f_isTold, .int f_rests, .int f_leastRest, .int f_mostRest, .int f_isWheel, .int f_ended, .int v56.2, .ref a_orders, .int f_ordered, .int f_cureAmount, .int f_cureRelay, .int f_cureWhich, .long f_hash])), (a_text, .inl (cC, 60, .inl f_text)), (a_orders, .inl (cI, 176, .inl v109))] := hD
                refine lv_aload_n hx hb dX4_readsBranch_178 rfl (lv_at hl 2 rfl) ?_
                refine lv_dup hx hb dX4_readsBranch_179 rfl ?_
                refine va_get (D := D) (ci := 4) (v := .int v56.2) (C := RX4) (T := TX4) (N := 28) hx hb hts hinX4 hown hK hP 0 rfl rfl 21 (by decide) (hts (Cond.fieldLink RX4 179 "LadderRelaysModel" "spot" "I") (List.mem_of_getElem? (i := 4) rfl)) (fun _ h9 => h9) rfl dX4_readsBranch_180 ?_
                refine lv_iconst (v := (1 : Int32)) hx hb dX4_readsBranch_183 (by decide) ?_
                refine lv_iadd hx hb dX4_readsBranch_184 ?_
                refine va_put (D := D) (ci := 4) (v := .int (v56.2 + (1 : Int32))) (ty := .int) (C := RX4) (T := TX4) (N := 28) hx hb hts hinX4 tyX4 tyX4_ok nmX4 hown hK hP hD hS 0 rfl rfl 21 (by decide) (hts (Cond.fieldLink RX4 179 "LadderRelaysModel" "spot" "I") (List.mem_of_getElem? (i := 4) rfl)) (fun _ h9 => h9) rfl (by decide +kernel) rfl rfl (Nat.le_of_ble_eq_true rfl) dX4_readsBranch_185 (fun H locs hP hD hS => ?_)
                have hP : va_P D vwCl [(a_this, .inr (4, [.int f_thrown, .ref a_s, .ref a_then, .ref a_past, .int f_saved, .ref a_text, .int f_length, .int f_counted, .int f_due, .ref a_met, .ref a_table, .ref a_ways, .ref a_waysOf, .ref a_into, .int f_meets, .int f_isTold, .int f_rests, .int f_leastRest, .int f_mostRest, .int f_isWheel, .int f_ended, .int (v56.2 + (1 : Int32)), .ref a_orders, .int f_ordered, .int f_cureAmount, .int f_cureRelay, .int f_cureWhich, .long f_hash])), (a_text, .inl (cC, 60, .inl f_text)), (a_orders, .inl (cI, 176, .inl v109))] H := hP
                have hD : va_D A [(a_this, .inr (4, [.int f_thrown, .ref a_s, .ref a_then, .ref a_past, .int f_saved, .ref a_text, .int f_length, .int f_counted, .int f_due, .ref a_met, .ref a_table, .ref a_ways, .ref a_waysOf, .ref a_into, .int f_meets, .int f_isTold, .int f_rests, .int f_leastRest, .int f_mostRest, .int f_isWheel, .int f_ended, .int (v56.2 + (1 : Int32)), .ref a_orders, .int f_ordered, .int f_cureAmount, .int f_cureRelay, .int f_cureWhich, .long f_hash])), (a_text, .inl (cC, 60, .inl f_text)), (a_orders, .inl (cI, 176, .inl v109))] := hD
                refine lv_aload_n hx hb dX4_readsBranch_188 rfl (lv_at hl 2 rfl) ?_
                refine lv_bipush (v := (33 : Int32)) hx hb dX4_readsBranch_189 (by decide) ?_
                refine lv_bipush (v := (33 : Int32)) hx hb dX4_readsBranch_191 (by decide) ?_
                obtain ⟨v110, hv110, h⟩ := zbnd h
                have hPc := hP.sub (ws' := [(a_this, .inr (4, [.int f_thrown, .ref a_s, .ref a_then, .ref a_past, .int f_saved, .ref a_text, .int f_length, .int f_counted, .int f_due, .ref a_met, .ref a_table, .ref a_ways, .ref a_waysOf, .ref a_into, .int f_meets, .int f_isTold, .int f_rests, .int f_leastRest, .int f_mostRest, .int f_isWheel, .int f_ended, .int (v56.2 + (1 : Int32)), .ref a_orders, .int f_ordered, .int f_cureAmount, .int f_cureRelay, .int f_cureWhich, .long f_hash])), (a_text, .inl (cC, 60, .inl f_text))]) [0, 1] rfl
                refine zc_i (W.runV (C := RX4) (As := [.int (33 : Int32), .int (33 : Int32)]) (rest := []) ⟨hx, hb, hml, hown, hts⟩ (c_X4_sees l D cI cC cO cJ fu a_this a_s a_then a_past a_text a_met a_table a_ways a_waysOf a_into a_orders f_thrown f_saved f_length f_counted f_due f_meets f_isTold f_rests f_leastRest f_mostRest f_isWheel f_ended (v56.2 + (1 : Int32)) f_ordered f_cureAmount f_cureRelay f_cureWhich f_hash f_text (33 : Int32) (33 : Int32) v110 hv110) (cwV 2 hts gX4_readsBranch_X4_sees rfl rfl rfl (by decide +kernel) ⟨Nat.le_of_ble_eq_true rfl, Nat.le_of_ble_eq_true rfl⟩) ⟨zPr_blind, (va_recv hK hP (q0 := 0) (ci := 4) rfl rfl), zPr_pre hK hPc⟩ rfl rfl hl.1 rfl (lv_room (Nat.le_of_ble_eq_true rfl)) dX4_readsBranch_193 ⟨Nat.zero_le _, Nat.zero_le _⟩) ?_
                refine lv_if_ne (tgt := 221) hx hb dX4_readsBranch_196 (by decide) (fun c111 => ?_) (fun c111 => ?_)
                · have h := zif_f c111 h
                  refine lv_iconst (v := (1 : Int32)) hx hb dX4_readsBranch_221 (by decide) ?_
                  refine lv_goto (tgt := 226) hx hb dX4_readsBranch_222 (by decide) ?_
                  refine lv_istore_n (lv' := [(3, .int (1 : Int32)), (5, .int (-1 : Int32)), (4, .int (1 : Int32)), (0, .ref a_this), (1, .int p0), (2, .int v1)]) hx hb dX4_readsBranch_226 rfl hl (by decide) rfl (fun ls hl => ?_)
                  refine lv_goto (tgt := 32) hx hb dX4_readsBranch_227 (by decide) ?_
                  exact ih32 (1 : Int32) (v56.2 + (1 : Int32)) v109 h _ _ hP hD hS ls (lv_sub hl [3, 4, 5, 0] rfl)
                · have h := zif_t c111 h
                  refine lv_aload_n hx hb dX4_readsBranch_199 rfl (lv_at hl 2 rfl) ?_
                  refine lv_bipush (v := (97 : Int32)) hx hb dX4_readsBranch_200 (by decide) ?_
                  refine lv_bipush (v := (100 : Int32)) hx hb dX4_readsBranch_202 (by decide) ?_
                  obtain ⟨v112, hv112, h⟩ := zbnd h
                  have hPc := hP.sub (ws' := [(a_this, .inr (4, [.int f_thrown, .ref a_s, .ref a_then, .ref a_past, .int f_saved, .ref a_text, .int f_length, .int f_counted, .int f_due, .ref a_met, .ref a_table, .ref a_ways, .ref a_waysOf, .ref a_into, .int f_meets, .int f_isTold, .int f_rests, .int f_leastRest, .int f_mostRest, .int f_isWheel, .int f_ended, .int (v56.2 + (1 : Int32)), .ref a_orders, .int f_ordered, .int f_cureAmount, .int f_cureRelay, .int f_cureWhich, .long f_hash])), (a_text, .inl (cC, 60, .inl f_text))]) [0, 1] rfl
                  refine zc_i (W.runV (C := RX4) (As := [.int (97 : Int32), .int (100 : Int32)]) (rest := []) ⟨hx, hb, hml, hown, hts⟩ (c_X4_sees l D cI cC cO cJ fu a_this a_s a_then a_past a_text a_met a_table a_ways a_waysOf a_into a_orders f_thrown f_saved f_length f_counted f_due f_meets f_isTold f_rests f_leastRest f_mostRest f_isWheel f_ended (v56.2 + (1 : Int32)) f_ordered f_cureAmount f_cureRelay f_cureWhich f_hash f_text (97 : Int32) (100 : Int32) v112 hv112) (cwV 2 hts gX4_readsBranch_X4_sees rfl rfl rfl (by decide +kernel) ⟨Nat.le_of_ble_eq_true rfl, Nat.le_of_ble_eq_true rfl⟩) ⟨zPr_blind, (va_recv hK hP (q0 := 0) (ci := 4) rfl rfl), zPr_pre hK hPc⟩ rfl rfl hl.1 rfl (lv_room (Nat.le_of_ble_eq_true rfl)) dX4_readsBranch_204 ⟨Nat.zero_le _, Nat.zero_le _⟩) ?_
                  refine lv_if_ne (tgt := 221) hx hb dX4_readsBranch_207 (by decide) (fun c113 => ?_) (fun c113 => ?_)
                  · have h := zif_f c113 h
                    refine lv_iconst (v := (1 : Int32)) hx hb dX4_readsBranch_221 (by decide) ?_
                    refine lv_goto (tgt := 226) hx hb dX4_readsBranch_222 (by decide) ?_
                    refine lv_istore_n (lv' := [(3, .int (1 : Int32)), (5, .int (-1 : Int32)), (4, .int (1 : Int32)), (0, .ref a_this), (1, .int p0), (2, .int v1)]) hx hb dX4_readsBranch_226 rfl hl (by decide) rfl (fun ls hl => ?_)
                    refine lv_goto (tgt := 32) hx hb dX4_readsBranch_227 (by decide) ?_
                    exact ih32 (1 : Int32) (v56.2 + (1 : Int32)) v109 h _ _ hP hD hS ls (lv_sub hl [3, 4, 5, 0] rfl)
                  · have h := zif_t c113 h
                    refine lv_aload_n hx hb dX4_readsBranch_210 rfl (lv_at hl 2 rfl) ?_
                    refine lv_bipush (v := (48 : Int32)) hx hb dX4_readsBranch_211 (by decide) ?_
                    refine lv_bipush (v := (57 : Int32)) hx hb dX4_readsBranch_213 (by decide) ?_
                    obtain ⟨v114, hv114, h⟩ := zbnd h
                    have hPc := hP.sub (ws' := [(a_this, .inr (4, [.int f_thrown, .ref a_s, .ref a_then, .ref a_past, .int f_saved, .ref a_text, .int f_length, .int f_counted, .int f_due, .ref a_met, .ref a_table, .ref a_ways, .ref a_waysOf, .ref a_into, .int f_meets, .int f_isTold, .int f_rests, .int f_leastRest, .int f_mostRest, .int f_isWheel, .int f_ended, .int (v56.2 + (1 : Int32)), .ref a_orders, .int f_ordered, .int f_cureAmount, .int f_cureRelay, .int f_cureWhich, .long f_hash])), (a_text, .inl (cC, 60, .inl f_text))]) [0, 1] rfl
                    refine zc_i (W.runV (C := RX4) (As := [.int (48 : Int32), .int (57 : Int32)]) (rest := []) ⟨hx, hb, hml, hown, hts⟩ (c_X4_sees l D cI cC cO cJ fu a_this a_s a_then a_past a_text a_met a_table a_ways a_waysOf a_into a_orders f_thrown f_saved f_length f_counted f_due f_meets f_isTold f_rests f_leastRest f_mostRest f_isWheel f_ended (v56.2 + (1 : Int32)) f_ordered f_cureAmount f_cureRelay f_cureWhich f_hash f_text (48 : Int32) (57 : Int32) v114 hv114) (cwV 2 hts gX4_readsBranch_X4_sees rfl rfl rfl (by decide +kernel) ⟨Nat.le_of_ble_eq_true rfl, Nat.le_of_ble_eq_true rfl⟩) ⟨zPr_blind, (va_recv hK hP (q0 := 0) (ci := 4) rfl rfl), zPr_pre hK hPc⟩ rfl rfl hl.1 rfl (lv_room (Nat.le_of_ble_eq_true rfl)) dX4_readsBranch_215 ⟨Nat.zero_le _, Nat.zero_le _⟩) ?_
                    refine lv_if_eq (tgt := 225) hx hb dX4_readsBranch_218 (by decide) (fun c115 => ?_) (fun c115 => ?_)
                    · have h := zif_t c115 h
                      refine lv_iconst (v := (0 : Int32)) hx hb dX4_readsBranch_225 (by decide) ?_
                      refine lv_istore_n (lv' := [(3, .int (0 : Int32)), (5, .int (-1 : Int32)), (4, .int (1 : Int32)), (0, .ref a_this), (1, .int p0), (2, .int v1)]) hx hb dX4_readsBranch_226 rfl hl (by decide) rfl (fun ls hl => ?_)
                      refine lv_goto (tgt := 32) hx hb dX4_readsBranch_227 (by decide) ?_
                      exact ih32 (0 : Int32) (v56.2 + (1 : Int32)) v109 h _ _ hP hD hS ls (lv_sub hl [3, 4, 5, 0] rfl)
                    · have h := zif_f c115 h
                      refine lv_iconst (v := (1 : Int32)) hx hb dX4_readsBranch_221 (by decide) ?_
                      refine lv_goto (tgt := 226) hx hb dX4_readsBranch_222 (by decide) ?_
                      refine lv_istore_n (lv' := [(3, .int (1 : Int32)), (5, .int (-1 : Int32)), (4, .int (1 : Int32)), (0, .ref a_this), (1, .int p0), (2, .int v1)]) hx hb dX4_readsBranch_226 rfl hl (by decide) rfl (fun ls hl => ?_)
                      refine lv_goto (tgt := 32) hx hb dX4_readsBranch_227 (by decide) ?_
                      exact ih32 (1 : Int32) (v56.2 + (1 : Int32)) v109 h _ _ hP hD hS ls (lv_sub hl [3, 4, 5, 0] rfl)
              · have h := zif_t c107 h
                refine lv_iconst (v := (0 : Int32)) hx hb dX4_readsBranch_160 (by decide) ?_
                have hR := Option.some.inj h
                subst hR
                exact W.zret (v := (0 : Int32)) (ty := .boolean) hx hb hr rfl (fun t ht hW => ⟨⟨_, (), rfl, rfl, zhp ht hP⟩, hS.F ht⟩) hS.2.2 dX4_readsBranch_161
          · have h := zif_f c103 h
            refine lv_iconst (v := (4 : Int32)) hx hb dX4_readsBranch_110 (by decide) ?_
            refine lv_aload_n hx hb dX4_readsBranch_111 rfl (lv_at hl 1 rfl) ?_
            refine va_get (D := D) (ci := 4) (v := .ref a_text) (C := RX4) (T := TX4) (N := 28) hx hb hts hinX4 hown hK hP 0 rfl rfl 5 (by decide) (hts (Cond.fieldLink RX4 19 "LadderRelaysModel" "text" "[C") (List.mem_of_getElem? (i := 3) rfl)) (fun _ h9 => h9) rfl dX4_readsBranch_112 ?_
            refine lv_aload_n hx hb dX4_readsBranch_115 rfl (lv_at hl 1 rfl) ?_
            refine va_get (D := D) (ci := 4) (v := .int v56.2) (C := RX4) (T := TX4) (N := 28) hx hb hts hinX4 hown hK hP 0 rfl rfl 21 (by decide) (hts (Cond.fieldLink RX4 179 "LadderRelaysModel" "spot" "I") (List.mem_of_getElem? (i := 4) rfl)) (fun _ h9 => h9) rfl dX4_readsBranch_116 ?_
            obtain ⟨v116, hv116, h⟩ := zbnd h
            refine zr_cald hx hb hK hP 1 1 rfl rfl hv116 dX4_readsBranch_119 ?_
            refine lv_iadd hx hb dX4_readsBranch_120 ?_
            refine lv_bipush (v := (48 : Int32)) hx hb dX4_readsBranch_121 (by decide) ?_
            refine lv_isub hx hb dX4_readsBranch_123 ?_
            refine lv_goto (tgt := 128) hx hb dX4_readsBranch_124 (by decide) ?_
            refine lv_istore (lv' := [(5, .int (((4 : Int32) + v116) - (48 : Int32))), (4, .int (1 : Int32)), (0, .ref a_this), (1, .int p0), (2, .int v1), (3, .int v7)]) hx hb dX4_readsBranch_128 hl (by decide) rfl (fun ls hl => ?_)
            refine lv_iload hx hb dX4_readsBranch_130 (lv_at hl 0 rfl) ?_
            refine lv_iconst (v := (-1 : Int32)) hx hb dX4_readsBranch_132 (by decide) ?_
            refine lv_icmp_eq (tgt := 160) hx hb dX4_readsBranch_133 (by decide) (fun c117 => ?_) (fun c117 => ?_)
            · have h := zif_t c117 h
              refine lv_iconst (v := (0 : Int32)) hx hb dX4_readsBranch_160 (by decide) ?_
              have hR := Option.some.inj h
              subst hR
              exact W.zret (v := (0 : Int32)) (ty := .boolean) hx hb hr rfl (fun t ht hW => ⟨⟨_, (), rfl, rfl, zhp ht hP⟩, hS.F ht⟩) hS.2.2 dX4_readsBranch_161
            · have h := zif_f c117 h
              refine lv_aload_n hx hb dX4_readsBranch_136 rfl (lv_at hl 2 rfl) ?_
              refine va_get (D := D) (ci := 4) (v := .ref a_orders) (C := RX4) (T := TX4) (N := 28) hx hb hts hinX4 hown hK hP 0 rfl rfl 22 (by decide) (hts (Cond.fieldLink RX4 38 "LadderRelaysModel" "orders" "[I") (List.mem_of_getElem? (i := 2) rfl)) (fun _ h9 => h9) rfl dX4_readsBranch_137 ?_
              refine lv_iload_n hx hb dX4_readsBranch_140 rfl (lv_at hl 4 rfl) ?_
              obtain ⟨v118, hv118, h⟩ := zbnd h
              refine zr_iald hx hb hK hP 2 0 rfl rfl hv118 dX4_readsBranch_141 ?_
              refine lv_aload_n hx hb dX4_readsBranch_142 rfl (lv_at hl 2 rfl) ?_
              refine va_get (D := D) (ci := 4) (v := .ref a_orders) (C := RX4) (T := TX4) (N := 28) hx hb hts hinX4 hown hK hP 0 rfl rfl 22 (by decide) (hts (Cond.fieldLink RX4 38 "LadderRelaysModel" "orders" "[I") (List.mem_of_getElem? (i := 2) rfl)) (fun _ h9 => h9) rfl dX4_readsBranch_143 ?_
              refine lv_iload_n hx hb dX4_readsBranch_146 rfl (lv_at hl 4 rfl) ?_
              refine lv_iconst (v := (1 : Int32)) hx hb dX4_readsBranch_147 (by decide) ?_
              refine lv_iadd hx hb dX4_readsBranch_148 ?_
              obtain ⟨v119, hv119, h⟩ := zbnd h
              refine zr_iald hx hb hK hP 2 0 rfl rfl hv119 dX4_readsBranch_149 ?_
              refine lv_ior hx hb dX4_readsBranch_150 ?_
              refine lv_iload hx hb dX4_readsBranch_151 (lv_at hl 0 rfl) ?_
              refine lv_ishr hx hb dX4_readsBranch_153 ?_
              refine lv_iconst (v := (1 : Int32)) hx hb dX4_readsBranch_154 (by decide) ?_
              refine lv_iand hx hb dX4_readsBranch_155 ?_
              refine lv_iconst (v := (1 : Int32)) hx hb dX4_readsBranch_156 (by decide) ?_
              refine lv_icmp_ne (tgt := 162) hx hb dX4_readsBranch_157 (by decide) (fun c120 => ?_) (fun c120 => ?_)
              · have h := zif_f c120 h
                refine lv_aload_n hx hb dX4_readsBranch_162 rfl (lv_at hl 2 rfl) ?_
                refine va_get (D := D) (ci := 4) (v := .ref a_orders) (C := RX4) (T := TX4) (N := 28) hx hb hts hinX4 hown hK hP 0 rfl rfl 22 (by decide) (hts (Cond.fieldLink RX4 38 "LadderRelaysModel" "orders" "[I") (List.mem_of_getElem? (i := 2) rfl)) (fun _ h9 => h9) rfl dX4_readsBranch_163 ?_
                refine lv_iload_n hx hb dX4_readsBranch_166 rfl (lv_at hl 4 rfl) ?_
                refine lv_iload hx hb dX4_readsBranch_167 (lv_at hl 1 rfl) ?_
                refine lv_iadd hx hb dX4_readsBranch_169 ?_
                refine lv_dup2_11 hx hb dX4_readsBranch_170 rfl rfl ?_
                obtain ⟨v121, hv121, h⟩ := zbnd h
                refine zr_iald hx hb hK hP 2 0 rfl rfl hv121 dX4_readsBranch_171 ?_
                refine lv_iconst (v := (1 : Int32)) hx hb dX4_readsBranch_172 (by decide) ?_
                refine lv_iload hx hb dX4_readsBranch_173 (lv_at hl 0 rfl) ?_
                refine lv_ishl hx hb dX4_readsBranch_175 ?_
                refine lv_ior hx hb dX4_readsBranch_176 ?_
                obtain ⟨v122, hv122, h⟩ := zbnd h
                refine zr_iast hx hb hK hP hD hS 2 0 rfl rfl hv122 dX4_readsBranch_177 (fun H locs hP hD hS => ?_)
                have hP : va_P D vwCl [(a_this, .inr (4, [.int f_thrown, .ref a_s, .ref a_then, .ref a_past, .int f_saved, .ref a_text, .int f_length, .int f_counted, .int f_due, .ref a_met, .ref a_table, .ref a_ways, .ref a_waysOf, .ref a_into, .int f_meets, .int f_isTold, .int f_rests, .int f_leastRest, .int f_mostRest, .int f_isWheel, .int f_ended, .int v56.2, .ref a_orders, .int f_ordered, .int f_cureAmount, .int f_cureRelay, .int f_cureWhich, .long f_hash])), (a_text, .inl (cC, 60, .inl f_text)), (a_orders, .inl (cI, 176, .inl v122))] H := hP
                have hD : va_D A [(a_this, .inr (4, [.int f_thrown, .ref a_s, .ref a_then, .ref a_past, .int f_saved, .ref a_text, .int f_length, .int f_counted, .int f_due, .ref a_met, .ref a_table, .ref a_ways, .ref a_waysOf, .ref a_into, .int f_meets, .int f_isTold, .int f_rests, .int f_leastRest, .int f_mostRest, .int f_isWheel, .int f_ended, .int v56.2, .ref a_orders, .int f_ordered, .int f_cureAmount, .int f_cureRelay, .int f_cureWhich, .long f_hash])), (a_text, .inl (cC, 60, .inl f_text)), (a_orders, .inl (cI, 176, .inl v122))] := hD
                refine lv_aload_n hx hb dX4_readsBranch_178 rfl (lv_at hl 2 rfl) ?_
                refine lv_dup hx hb dX4_readsBranch_179 rfl ?_
                refine va_get (D := D) (ci := 4) (v := .int v56.2) (C := RX4) (T := TX4) (N := 28) hx hb hts hinX4 hown hK hP 0 rfl rfl 21 (by decide) (hts (Cond.fieldLink RX4 179 "LadderRelaysModel" "spot" "I") (List.mem_of_getElem? (i := 4) rfl)) (fun _ h9 => h9) rfl dX4_readsBranch_180 ?_
                refine lv_iconst (v := (1 : Int32)) hx hb dX4_readsBranch_183 (by decide) ?_
                refine lv_iadd hx hb dX4_readsBranch_184 ?_
                refine va_put (D := D) (ci := 4) (v := .int (v56.2 + (1 : Int32))) (ty := .int) (C := RX4) (T := TX4) (N := 28) hx hb hts hinX4 tyX4 tyX4_ok nmX4 hown hK hP hD hS 0 rfl rfl 21 (by decide) (hts (Cond.fieldLink RX4 179 "LadderRelaysModel" "spot" "I") (List.mem_of_getElem? (i := 4) rfl)) (fun _ h9 => h9) rfl (by decide +kernel) rfl rfl (Nat.le_of_ble_eq_true rfl) dX4_readsBranch_185 (fun H locs hP hD hS => ?_)
                have hP : va_P D vwCl [(a_this, .inr (4, [.int f_thrown, .ref a_s, .ref a_then, .ref a_past, .int f_saved, .ref a_text, .int f_length, .int f_counted, .int f_due, .ref a_met, .ref a_table, .ref a_ways, .ref a_waysOf, .ref a_into, .int f_meets, .int f_isTold, .int f_rests, .int f_leastRest, .int f_mostRest, .int f_isWheel, .int f_ended, .int (v56.2 + (1 : Int32)), .ref a_orders, .int f_ordered, .int f_cureAmount, .int f_cureRelay, .int f_cureWhich, .long f_hash])), (a_text, .inl (cC, 60, .inl f_text)), (a_orders, .inl (cI, 176, .inl v122))] H := hP
                have hD : va_D A [(a_this, .inr (4, [.int f_thrown, .ref a_s, .ref a_then, .ref a_past, .int f_saved, .ref a_text, .int f_length, .int f_counted, .int f_due, .ref a_met, .ref a_table, .ref a_ways, .ref a_waysOf, .ref a_into, .int f_meets, .int f_isTold, .int f_rests, .int f_leastRest, .int f_mostRest, .int f_isWheel, .int f_ended, .int (v56.2 + (1 : Int32)), .ref a_orders, .int f_ordered, .int f_cureAmount, .int f_cureRelay, .int f_cureWhich, .long f_hash])), (a_text, .inl (cC, 60, .inl f_text)), (a_orders, .inl (cI, 176, .inl v122))] := hD
                refine lv_aload_n hx hb dX4_readsBranch_188 rfl (lv_at hl 2 rfl) ?_
                refine lv_bipush (v := (33 : Int32)) hx hb dX4_readsBranch_189 (by decide) ?_
                refine lv_bipush (v := (33 : Int32)) hx hb dX4_readsBranch_191 (by decide) ?_
                obtain ⟨v123, hv123, h⟩ := zbnd h
                have hPc := hP.sub (ws' := [(a_this, .inr (4, [.int f_thrown, .ref a_s, .ref a_then, .ref a_past, .int f_saved, .ref a_text, .int f_length, .int f_counted, .int f_due, .ref a_met, .ref a_table, .ref a_ways, .ref a_waysOf, .ref a_into, .int f_meets, .int f_isTold, .int f_rests, .int f_leastRest, .int f_mostRest, .int f_isWheel, .int f_ended, .int (v56.2 + (1 : Int32)), .ref a_orders, .int f_ordered, .int f_cureAmount, .int f_cureRelay, .int f_cureWhich, .long f_hash])), (a_text, .inl (cC, 60, .inl f_text))]) [0, 1] rfl
                refine zc_i (W.runV (C := RX4) (As := [.int (33 : Int32), .int (33 : Int32)]) (rest := []) ⟨hx, hb, hml, hown, hts⟩ (c_X4_sees l D cI cC cO cJ fu a_this a_s a_then a_past a_text a_met a_table a_ways a_waysOf a_into a_orders f_thrown f_saved f_length f_counted f_due f_meets f_isTold f_rests f_leastRest f_mostRest f_isWheel f_ended (v56.2 + (1 : Int32)) f_ordered f_cureAmount f_cureRelay f_cureWhich f_hash f_text (33 : Int32) (33 : Int32) v123 hv123) (cwV 2 hts gX4_readsBranch_X4_sees rfl rfl rfl (by decide +kernel) ⟨Nat.le_of_ble_eq_true rfl, Nat.le_of_ble_eq_true rfl⟩) ⟨zPr_blind, (va_recv hK hP (q0 := 0) (ci := 4) rfl rfl), zPr_pre hK hPc⟩ rfl rfl hl.1 rfl (lv_room (Nat.le_of_ble_eq_true rfl)) dX4_readsBranch_193 ⟨Nat.zero_le _, Nat.zero_le _⟩) ?_
                refine lv_if_ne (tgt := 221) hx hb dX4_readsBranch_196 (by decide) (fun c124 => ?_) (fun c124 => ?_)
                · have h := zif_f c124 h
                  refine lv_iconst (v := (1 : Int32)) hx hb dX4_readsBranch_221 (by decide) ?_
                  refine lv_goto (tgt := 226) hx hb dX4_readsBranch_222 (by decide) ?_
                  refine lv_istore_n (lv' := [(3, .int (1 : Int32)), (5, .int (((4 : Int32) + v116) - (48 : Int32))), (4, .int (1 : Int32)), (0, .ref a_this), (1, .int p0), (2, .int v1)]) hx hb dX4_readsBranch_226 rfl hl (by decide) rfl (fun ls hl => ?_)
                  refine lv_goto (tgt := 32) hx hb dX4_readsBranch_227 (by decide) ?_
                  exact ih32 (1 : Int32) (v56.2 + (1 : Int32)) v122 h _ _ hP hD hS ls (lv_sub hl [3, 4, 5, 0] rfl)
                · have h := zif_t c124 h
                  refine lv_aload_n hx hb dX4_readsBranch_199 rfl (lv_at hl 2 rfl) ?_
                  refine lv_bipush (v := (97 : Int32)) hx hb dX4_readsBranch_200 (by decide) ?_
                  refine lv_bipush (v := (100 : Int32)) hx hb dX4_readsBranch_202 (by decide) ?_
                  obtain ⟨v125, hv125, h⟩ := zbnd h
                  have hPc := hP.sub (ws' := [(a_this, .inr (4, [.int f_thrown, .ref a_s, .ref a_then, .ref a_past, .int f_saved, .ref a_text, .int f_length, .int f_counted, .int f_due, .ref a_met, .ref a_table, .ref a_ways, .ref a_waysOf, .ref a_into, .int f_meets, .int f_isTold, .int f_rests, .int f_leastRest, .int f_mostRest, .int f_isWheel, .int f_ended, .int (v56.2 + (1 : Int32)), .ref a_orders, .int f_ordered, .int f_cureAmount, .int f_cureRelay, .int f_cureWhich, .long f_hash])), (a_text, .inl (cC, 60, .inl f_text))]) [0, 1] rfl
                  refine zc_i (W.runV (C := RX4) (As := [.int (97 : Int32), .int (100 : Int32)]) (rest := []) ⟨hx, hb, hml, hown, hts⟩ (c_X4_sees l D cI cC cO cJ fu a_this a_s a_then a_past a_text a_met a_table a_ways a_waysOf a_into a_orders f_thrown f_saved f_length f_counted f_due f_meets f_isTold f_rests f_leastRest f_mostRest f_isWheel f_ended (v56.2 + (1 : Int32)) f_ordered f_cureAmount f_cureRelay f_cureWhich f_hash f_text (97 : Int32) (100 : Int32) v125 hv125) (cwV 2 hts gX4_readsBranch_X4_sees rfl rfl rfl (by decide +kernel) ⟨Nat.le_of_ble_eq_true rfl, Nat.le_of_ble_eq_true rfl⟩) ⟨zPr_blind, (va_recv hK hP (q0 := 0) (ci := 4) rfl rfl), zPr_pre hK hPc⟩ rfl rfl hl.1 rfl (lv_room (Nat.le_of_ble_eq_true rfl)) dX4_readsBranch_204 ⟨Nat.zero_le _, Nat.zero_le _⟩) ?_
                  refine lv_if_ne (tgt := 221) hx hb dX4_readsBranch_207 (by decide) (fun c126 => ?_) (fun c126 => ?_)
                  · have h := zif_f c126 h
                    refine lv_iconst (v := (1 : Int32)) hx hb dX4_readsBranch_221 (by decide) ?_
                    refine lv_goto (tgt := 226) hx hb dX4_readsBranch_222 (by decide) ?_
                    refine lv_istore_n (lv' := [(3, .int (1 : Int32)), (5, .int (((4 : Int32) + v116) - (48 : Int32))), (4, .int (1 : Int32)), (0, .ref a_this), (1, .int p0), (2, .int v1)]) hx hb dX4_readsBranch_226 rfl hl (by decide) rfl (fun ls hl => ?_)
                    refine lv_goto (tgt := 32) hx hb dX4_readsBranch_227 (by decide) ?_
                    exact ih32 (1 : Int32) (v56.2 + (1 : Int32)) v122 h _ _ hP hD hS ls (lv_sub hl [3, 4, 5, 0] rfl)
                  · have h := zif_t c126 h
                    refine lv_aload_n hx hb dX4_readsBranch_210 rfl (lv_at hl 2 rfl) ?_
                    refine lv_bipush (v := (48 : Int32)) hx hb dX4_readsBranch_211 (by decide) ?_
                    refine lv_bipush (v := (57 : Int32)) hx hb dX4_readsBranch_213 (by decide) ?_
                    obtain ⟨v127, hv127, h⟩ := zbnd h
                    have hPc := hP.sub (ws' := [(a_this, .inr (4, [.int f_thrown, .ref a_s, .ref a_then, .ref a_past, .int f_saved, .ref a_text, .int f_length, .int f_counted, .int f_due, .ref a_met, .ref a_table, .ref a_ways, .ref a_waysOf, .ref a_into, .int f_meets, .int f_isTold, .int f_rests, .int f_leastRest, .int f_mostRest, .int f_isWheel, .int f_ended, .int (v56.2 + (1 : Int32)), .ref a_orders, .int f_ordered, .int f_cureAmount, .int f_cureRelay, .int f_cureWhich, .long f_hash])), (a_text, .inl (cC, 60, .inl f_text))]) [0, 1] rfl
                    refine zc_i (W.runV (C := RX4) (As := [.int (48 : Int32), .int (57 : Int32)]) (rest := []) ⟨hx, hb, hml, hown, hts⟩ (c_X4_sees l D cI cC cO cJ fu a_this a_s a_then a_past a_text a_met a_table a_ways a_waysOf a_into a_orders f_thrown f_saved f_length f_counted f_due f_meets f_isTold f_rests f_leastRest f_mostRest f_isWheel f_ended (v56.2 + (1 : Int32)) f_ordered f_cureAmount f_cureRelay f_cureWhich f_hash f_text (48 : Int32) (57 : Int32) v127 hv127) (cwV 2 hts gX4_readsBranch_X4_sees rfl rfl rfl (by decide +kernel) ⟨Nat.le_of_ble_eq_true rfl, Nat.le_of_ble_eq_true rfl⟩) ⟨zPr_blind, (va_recv hK hP (q0 := 0) (ci := 4) rfl rfl), zPr_pre hK hPc⟩ rfl rfl hl.1 rfl (lv_room (Nat.le_of_ble_eq_true rfl)) dX4_readsBranch_215 ⟨Nat.zero_le _, Nat.zero_le _⟩) ?_
                    refine lv_if_eq (tgt := 225) hx hb dX4_readsBranch_218 (by decide) (fun c128 => ?_) (fun c128 => ?_)
                    · have h := zif_t c128 h
                      refine lv_iconst (v := (0 : Int32)) hx hb dX4_readsBranch_225 (by decide) ?_
                      refine lv_istore_n (lv' := [(3, .int (0 : Int32)), (5, .int (((4 : Int32) + v116) - (48 : Int32))), (4, .int (1 : Int32)), (0, .ref a_this), (1, .int p0), (2, .int v1)]) hx hb dX4_readsBranch_226 rfl hl (by decide) rfl (fun ls hl => ?_)
                      refine lv_goto (tgt := 32) hx hb dX4_readsBranch_227 (by decide) ?_
                      exact ih32 (0 : Int32) (v56.2 + (1 : Int32)) v122 h _ _ hP hD hS ls (lv_sub hl [3, 4, 5, 0] rfl)
                    · have h := zif_f c128 h
                      refine lv_iconst (v := (1 : Int32)) hx hb dX4_readsBranch_221 (by decide) ?_
                      refine lv_goto (tgt := 226) hx hb dX4_readsBranch_222 (by decide) ?_
                      refine lv_istore_n (lv' := [(3, .int (1 : Int32)), (5, .int (((4 : Int32) + v116) - (48 : Int32))), (4, .int (1 : Int32)), (0, .ref a_this), (1, .int p0), (2, .int v1)]) hx hb dX4_readsBranch_226 rfl hl (by decide) rfl (fun ls hl => ?_)
                      refine lv_goto (tgt := 32) hx hb dX4_readsBranch_227 (by decide) ?_
                      exact ih32 (1 : Int32) (v56.2 + (1 : Int32)) v122 h _ _ hP hD hS ls (lv_sub hl [3, 4, 5, 0] rfl)
              · have h := zif_t c120 h
                refine lv_iconst (v := (0 : Int32)) hx hb dX4_readsBranch_160 (by decide) ?_
                have hR := Option.some.inj h
                subst hR
                exact W.zret (v := (0 : Int32)) (ty := .boolean) hx hb hr rfl (fun t ht hW => ⟨⟨_, (), rfl, rfl, zhp ht hP⟩, hS.F ht⟩) hS.2.2 dX4_readsBranch_161
        · have h := zif_f c101 h
          refine lv_aload_n hx hb dX4_readsBranch_84 rfl (lv_at hl 1 rfl) ?_
          refine va_get (D := D) (ci := 4) (v := .ref a_text) (C := RX4) (T := TX4) (N := 28) hx hb hts hinX4 hown hK hP 0 rfl rfl 5 (by decide) (hts (Cond.fieldLink RX4 19 "LadderRelaysModel" "text" "[C") (List.mem_of_getElem? (i := 3) rfl)) (fun _ h9 => h9) rfl dX4_readsBranch_85 ?_
          refine lv_aload_n hx hb dX4_readsBranch_88 rfl (lv_at hl 1 rfl) ?_
          refine va_get (D := D) (ci := 4) (v := .int v56.2) (C := RX4) (T := TX4) (N := 28) hx hb hts hinX4 hown hK hP 0 rfl rfl 21 (by decide) (hts (Cond.fieldLink RX4 179 "LadderRelaysModel" "spot" "I") (List.mem_of_getElem? (i := 4) rfl)) (fun _ h9 => h9) rfl dX4_readsBranch_89 ?_
          obtain ⟨v129, hv129, h⟩ := zbnd h
          refine zr_cald hx hb hK hP 1 1 rfl rfl hv129 dX4_readsBranch_92 ?_
          refine lv_bipush (v := (97 : Int32)) hx hb dX4_readsBranch_93 (by decide) ?_
          refine lv_isub hx hb dX4_readsBranch_95 ?_
          refine lv_goto (tgt := 128) hx hb dX4_readsBranch_96 (by decide) ?_
          refine lv_istore (lv' := [(5, .int (v129 - (97 : Int32))), (4, .int (1 : Int32)), (0, .ref a_this), (1, .int p0), (2, .int v1), (3, .int v7)]) hx hb dX4_readsBranch_128 hl (by decide) rfl (fun ls hl => ?_)
          refine lv_iload hx hb dX4_readsBranch_130 (lv_at hl 0 rfl) ?_
          refine lv_iconst (v := (-1 : Int32)) hx hb dX4_readsBranch_132 (by decide) ?_
          refine lv_icmp_eq (tgt := 160) hx hb dX4_readsBranch_133 (by decide) (fun c130 => ?_) (fun c130 => ?_)
          · have h := zif_t c130 h
            refine lv_iconst (v := (0 : Int32)) hx hb dX4_readsBranch_160 (by decide) ?_
            have hR := Option.some.inj h
            subst hR
            exact W.zret (v := (0 : Int32)) (ty := .boolean) hx hb hr rfl (fun t ht hW => ⟨⟨_, (), rfl, rfl, zhp ht hP⟩, hS.F ht⟩) hS.2.2 dX4_readsBranch_161
          · have h := zif_f c130 h
            refine lv_aload_n hx hb dX4_readsBranch_136 rfl (lv_at hl 2 rfl) ?_
            refine va_get (D := D) (ci := 4) (v := .ref a_orders) (C := RX4) (T := TX4) (N := 28) hx hb hts hinX4 hown hK hP 0 rfl rfl 22 (by decide) (hts (Cond.fieldLink RX4 38 "LadderRelaysModel" "orders" "[I") (List.mem_of_getElem? (i := 2) rfl)) (fun _ h9 => h9) rfl dX4_readsBranch_137 ?_
            refine lv_iload_n hx hb dX4_readsBranch_140 rfl (lv_at hl 4 rfl) ?_
            obtain ⟨v131, hv131, h⟩ := zbnd h
            refine zr_iald hx hb hK hP 2 0 rfl rfl hv131 dX4_readsBranch_141 ?_
            refine lv_aload_n hx hb dX4_readsBranch_142 rfl (lv_at hl 2 rfl) ?_
            refine va_get (D := D) (ci := 4) (v := .ref a_orders) (C := RX4) (T := TX4) (N := 28) hx hb hts hinX4 hown hK hP 0 rfl rfl 22 (by decide) (hts (Cond.fieldLink RX4 38 "LadderRelaysModel" "orders" "[I") (List.mem_of_getElem? (i := 2) rfl)) (fun _ h9 => h9) rfl dX4_readsBranch_143 ?_
            refine lv_iload_n hx hb dX4_readsBranch_146 rfl (lv_at hl 4 rfl) ?_
            refine lv_iconst (v := (1 : Int32)) hx hb dX4_readsBranch_147 (by decide) ?_
            refine lv_iadd hx hb dX4_readsBranch_148 ?_
            obtain ⟨v132, hv132, h⟩ := zbnd h
            refine zr_iald hx hb hK hP 2 0 rfl rfl hv132 dX4_readsBranch_149 ?_
            refine lv_ior hx hb dX4_readsBranch_150 ?_
            refine lv_iload hx hb dX4_readsBranch_151 (lv_at hl 0 rfl) ?_
            refine lv_ishr hx hb dX4_readsBranch_153 ?_
            refine lv_iconst (v := (1 : Int32)) hx hb dX4_readsBranch_154 (by decide) ?_
            refine lv_iand hx hb dX4_readsBranch_155 ?_
            refine lv_iconst (v := (1 : Int32)) hx hb dX4_readsBranch_156 (by decide) ?_
            refine lv_icmp_ne (tgt := 162) hx hb dX4_readsBranch_157 (by decide) (fun c133 => ?_) (fun c133 => ?_)
            · have h := zif_f c133 h
              refine lv_aload_n hx hb dX4_readsBranch_162 rfl (lv_at hl 2 rfl) ?_
              refine va_get (D := D) (ci := 4) (v := .ref a_orders) (C := RX4) (T := TX4) (N := 28) hx hb hts hinX4 hown hK hP 0 rfl rfl 22 (by decide) (hts (Cond.fieldLink RX4 38 "LadderRelaysModel" "orders" "[I") (List.mem_of_getElem? (i := 2) rfl)) (fun _ h9 => h9) rfl dX4_readsBranch_163 ?_
              refine lv_iload_n hx hb dX4_readsBranch_166 rfl (lv_at hl 4 rfl) ?_
              refine lv_iload hx hb dX4_readsBranch_167 (lv_at hl 1 rfl) ?_
              refine lv_iadd hx hb dX4_readsBranch_169 ?_
              refine lv_dup2_11 hx hb dX4_readsBranch_170 rfl rfl ?_
              obtain ⟨v134, hv134, h⟩ := zbnd h
              refine zr_iald hx hb hK hP 2 0 rfl rfl hv134 dX4_readsBranch_171 ?_
              refine lv_iconst (v := (1 : Int32)) hx hb dX4_readsBranch_172 (by decide) ?_
              refine lv_iload hx hb dX4_readsBranch_173 (lv_at hl 0 rfl) ?_
              refine lv_ishl hx hb dX4_readsBranch_175 ?_
              refine lv_ior hx hb dX4_readsBranch_176 ?_
              obtain ⟨v135, hv135, h⟩ := zbnd h
              refine zr_iast hx hb hK hP hD hS 2 0 rfl rfl hv135 dX4_readsBranch_177 (fun H locs hP hD hS => ?_)
              have hP : va_P D vwCl [(a_this, .inr (4, [.int f_thrown, .ref a_s, .ref a_then, .ref a_past, .int f_saved, .ref a_text, .int f_length, .int f_counted, .int f_due, .ref a_met, .ref a_table, .ref a_ways, .ref a_waysOf, .ref a_into, .int f_meets, .int f_isTold, .int f_rests, .int f_leastRest, .int f_mostRest, .int f_isWheel, .int f_ended, .int v56.2, .ref a_orders, .int f_ordered, .int f_cureAmount, .int f_cureRelay, .int f_cureWhich, .long f_hash])), (a_text, .inl (cC, 60, .inl f_text)), (a_orders, .inl (cI, 176, .inl v135))] H := hP
              have hD : va_D A [(a_this, .inr (4, [.int f_thrown, .ref a_s, .ref a_then, .ref a_past, .int f_saved, .ref a_text, .int f_length, .int f_counted, .int f_due, .ref a_met, .ref a_table, .ref a_ways, .ref a_waysOf, .ref a_into, .int f_meets, .int f_isTold, .int f_rests, .int f_leastRest, .int f_mostRest, .int f_isWheel, .int f_ended, .int v56.2, .ref a_orders, .int f_ordered, .int f_cureAmount, .int f_cureRelay, .int f_cureWhich, .long f_hash])), (a_text, .inl (cC, 60, .inl f_text)), (a_orders, .inl (cI, 176, .inl v135))] := hD
              refine lv_aload_n hx hb dX4_readsBranch_178 rfl (lv_at hl 2 rfl) ?_
              refine lv_dup hx hb dX4_readsBranch_179 rfl ?_
              refine va_get (D := D) (ci := 4) (v := .int v56.2) (C := RX4) (T := TX4) (N := 28) hx hb hts hinX4 hown hK hP 0 rfl rfl 21 (by decide) (hts (Cond.fieldLink RX4 179 "LadderRelaysModel" "spot" "I") (List.mem_of_getElem? (i := 4) rfl)) (fun _ h9 => h9) rfl dX4_readsBranch_180 ?_
              refine lv_iconst (v := (1 : Int32)) hx hb dX4_readsBranch_183 (by decide) ?_
              refine lv_iadd hx hb dX4_readsBranch_184 ?_
              refine va_put (D := D) (ci := 4) (v := .int (v56.2 + (1 : Int32))) (ty := .int) (C := RX4) (T := TX4) (N := 28) hx hb hts hinX4 tyX4 tyX4_ok nmX4 hown hK hP hD hS 0 rfl rfl 21 (by decide) (hts (Cond.fieldLink RX4 179 "LadderRelaysModel" "spot" "I") (List.mem_of_getElem? (i := 4) rfl)) (fun _ h9 => h9) rfl (by decide +kernel) rfl rfl (Nat.le_of_ble_eq_true rfl) dX4_readsBranch_185 (fun H locs hP hD hS => ?_)
              have hP : va_P D vwCl [(a_this, .inr (4, [.int f_thrown, .ref a_s, .ref a_then, .ref a_past, .int f_saved, .ref a_text, .int f_length, .int f_counted, .int f_due, .ref a_met, .ref a_table, .ref a_ways, .ref a_waysOf, .ref a_into, .int f_meets, .int f_isTold, .int f_rests, .int f_leastRest, .int f_mostRest, .int f_isWheel, .int f_ended, .int (v56.2 + (1 : Int32)), .ref a_orders, .int f_ordered, .int f_cureAmount, .int f_cureRelay, .int f_cureWhich, .long f_hash])), (a_text, .inl (cC, 60, .inl f_text)), (a_orders, .inl (cI, 176, .inl v135))] H := hP
              have hD : va_D A [(a_this, .inr (4, [.int f_thrown, .ref a_s, .ref a_then, .ref a_past, .int f_saved, .ref a_text, .int f_length, .int f_counted, .int f_due, .ref a_met, .ref a_table, .ref a_ways, .ref a_waysOf, .ref a_into, .int f_meets, .int f_isTold, .int f_rests, .int f_leastRest, .int f_mostRest, .int f_isWheel, .int f_ended, .int (v56.2 + (1 : Int32)), .ref a_orders, .int f_ordered, .int f_cureAmount, .int f_cureRelay, .int f_cureWhich, .long f_hash])), (a_text, .inl (cC, 60, .inl f_text)), (a_orders, .inl (cI, 176, .inl v135))] := hD
              refine lv_aload_n hx hb dX4_readsBranch_188 rfl (lv_at hl 2 rfl) ?_
              refine lv_bipush (v := (33 : Int32)) hx hb dX4_readsBranch_189 (by decide) ?_
              refine lv_bipush (v := (33 : Int32)) hx hb dX4_readsBranch_191 (by decide) ?_
              obtain ⟨v136, hv136, h⟩ := zbnd h
              have hPc := hP.sub (ws' := [(a_this, .inr (4, [.int f_thrown, .ref a_s, .ref a_then, .ref a_past, .int f_saved, .ref a_text, .int f_length, .int f_counted, .int f_due, .ref a_met, .ref a_table, .ref a_ways, .ref a_waysOf, .ref a_into, .int f_meets, .int f_isTold, .int f_rests, .int f_leastRest, .int f_mostRest, .int f_isWheel, .int f_ended, .int (v56.2 + (1 : Int32)), .ref a_orders, .int f_ordered, .int f_cureAmount, .int f_cureRelay, .int f_cureWhich, .long f_hash])), (a_text, .inl (cC, 60, .inl f_text))]) [0, 1] rfl
              refine zc_i (W.runV (C := RX4) (As := [.int (33 : Int32), .int (33 : Int32)]) (rest := []) ⟨hx, hb, hml, hown, hts⟩ (c_X4_sees l D cI cC cO cJ fu a_this a_s a_then a_past a_text a_met a_table a_ways a_waysOf a_into a_orders f_thrown f_saved f_length f_counted f_due f_meets f_isTold f_rests f_leastRest f_mostRest f_isWheel f_ended (v56.2 + (1 : Int32)) f_ordered f_cureAmount f_cureRelay f_cureWhich f_hash f_text (33 : Int32) (33 : Int32) v136 hv136) (cwV 2 hts gX4_readsBranch_X4_sees rfl rfl rfl (by decide +kernel) ⟨Nat.le_of_ble_eq_true rfl, Nat.le_of_ble_eq_true rfl⟩) ⟨zPr_blind, (va_recv hK hP (q0 := 0) (ci := 4) rfl rfl), zPr_pre hK hPc⟩ rfl rfl hl.1 rfl (lv_room (Nat.le_of_ble_eq_true rfl)) dX4_readsBranch_193 ⟨Nat.zero_le _, Nat.zero_le _⟩) ?_
              refine lv_if_ne (tgt := 221) hx hb dX4_readsBranch_196 (by decide) (fun c137 => ?_) (fun c137 => ?_)
              · have h := zif_f c137 h
                refine lv_iconst (v := (1 : Int32)) hx hb dX4_readsBranch_221 (by decide) ?_
                refine lv_goto (tgt := 226) hx hb dX4_readsBranch_222 (by decide) ?_
                refine lv_istore_n (lv' := [(3, .int (1 : Int32)), (5, .int (v129 - (97 : Int32))), (4, .int (1 : Int32)), (0, .ref a_this), (1, .int p0), (2, .int v1)]) hx hb dX4_readsBranch_226 rfl hl (by decide) rfl (fun ls hl => ?_)
                refine lv_goto (tgt := 32) hx hb dX4_readsBranch_227 (by decide) ?_
                exact ih32 (1 : Int32) (v56.2 + (1 : Int32)) v135 h _ _ hP hD hS ls (lv_sub hl [3, 4, 5, 0] rfl)
              · have h := zif_t c137 h
                refine lv_aload_n hx hb dX4_readsBranch_199 rfl (lv_at hl 2 rfl) ?_
                refine lv_bipush (v := (97 : Int32)) hx hb dX4_readsBranch_200 (by decide) ?_
                refine lv_bipush (v := (100 : Int32)) hx hb dX4_readsBranch_202 (by decide) ?_
                obtain ⟨v138, hv138, h⟩ := zbnd h
                have hPc := hP.sub (ws' := [(a_this, .inr (4, [.int f_thrown, .ref a_s, .ref a_then, .ref a_past, .int f_saved, .ref a_text, .int f_length, .int f_counted, .int f_due, .ref a_met, .ref a_table, .ref a_ways, .ref a_waysOf, .ref a_into, .int f_meets, .int f_isTold, .int f_rests, .int f_leastRest, .int f_mostRest, .int f_isWheel, .int f_ended, .int (v56.2 + (1 : Int32)), .ref a_orders, .int f_ordered, .int f_cureAmount, .int f_cureRelay, .int f_cureWhich, .long f_hash])), (a_text, .inl (cC, 60, .inl f_text))]) [0, 1] rfl
                refine zc_i (W.runV (C := RX4) (As := [.int (97 : Int32), .int (100 : Int32)]) (rest := []) ⟨hx, hb, hml, hown, hts⟩ (c_X4_sees l D cI cC cO cJ fu a_this a_s a_then a_past a_text a_met a_table a_ways a_waysOf a_into a_orders f_thrown f_saved f_length f_counted f_due f_meets f_isTold f_rests f_leastRest f_mostRest f_isWheel f_ended (v56.2 + (1 : Int32)) f_ordered f_cureAmount f_cureRelay f_cureWhich f_hash f_text (97 : Int32) (100 : Int32) v138 hv138) (cwV 2 hts gX4_readsBranch_X4_sees rfl rfl rfl (by decide +kernel) ⟨Nat.le_of_ble_eq_true rfl, Nat.le_of_ble_eq_true rfl⟩) ⟨zPr_blind, (va_recv hK hP (q0 := 0) (ci := 4) rfl rfl), zPr_pre hK hPc⟩ rfl rfl hl.1 rfl (lv_room (Nat.le_of_ble_eq_true rfl)) dX4_readsBranch_204 ⟨Nat.zero_le _, Nat.zero_le _⟩) ?_
                refine lv_if_ne (tgt := 221) hx hb dX4_readsBranch_207 (by decide) (fun c139 => ?_) (fun c139 => ?_)
                · have h := zif_f c139 h
                  refine lv_iconst (v := (1 : Int32)) hx hb dX4_readsBranch_221 (by decide) ?_
                  refine lv_goto (tgt := 226) hx hb dX4_readsBranch_222 (by decide) ?_
                  refine lv_istore_n (lv' := [(3, .int (1 : Int32)), (5, .int (v129 - (97 : Int32))), (4, .int (1 : Int32)), (0, .ref a_this), (1, .int p0), (2, .int v1)]) hx hb dX4_readsBranch_226 rfl hl (by decide) rfl (fun ls hl => ?_)
                  refine lv_goto (tgt := 32) hx hb dX4_readsBranch_227 (by decide) ?_
                  exact ih32 (1 : Int32) (v56.2 + (1 : Int32)) v135 h _ _ hP hD hS ls (lv_sub hl [3, 4, 5, 0] rfl)
                · have h := zif_t c139 h
                  refine lv_aload_n hx hb dX4_readsBranch_210 rfl (lv_at hl 2 rfl) ?_
                  refine lv_bipush (v := (48 : Int32)) hx hb dX4_readsBranch_211 (by decide) ?_
                  refine lv_bipush (v := (57 : Int32)) hx hb dX4_readsBranch_213 (by decide) ?_
                  obtain ⟨v140, hv140, h⟩ := zbnd h
                  have hPc := hP.sub (ws' := [(a_this, .inr (4, [.int f_thrown, .ref a_s, .ref a_then, .ref a_past, .int f_saved, .ref a_text, .int f_length, .int f_counted, .int f_due, .ref a_met, .ref a_table, .ref a_ways, .ref a_waysOf, .ref a_into, .int f_meets, .int f_isTold, .int f_rests, .int f_leastRest, .int f_mostRest, .int f_isWheel, .int f_ended, .int (v56.2 + (1 : Int32)), .ref a_orders, .int f_ordered, .int f_cureAmount, .int f_cureRelay, .int f_cureWhich, .long f_hash])), (a_text, .inl (cC, 60, .inl f_text))]) [0, 1] rfl
                  refine zc_i (W.runV (C := RX4) (As := [.int (48 : Int32), .int (57 : Int32)]) (rest := []) ⟨hx, hb, hml, hown, hts⟩ (c_X4_sees l D cI cC cO cJ fu a_this a_s a_then a_past a_text a_met a_table a_ways a_waysOf a_into a_orders f_thrown f_saved f_length f_counted f_due f_meets f_isTold f_rests f_leastRest f_mostRest f_isWheel f_ended (v56.2 + (1 : Int32)) f_ordered f_cureAmount f_cureRelay f_cureWhich f_hash f_text (48 : Int32) (57 : Int32) v140 hv140) (cwV 2 hts gX4_readsBranch_X4_sees rfl rfl rfl (by decide +kernel) ⟨Nat.le_of_ble_eq_true rfl, Nat.le_of_ble_eq_true rfl⟩) ⟨zPr_blind, (va_recv hK hP (q0 := 0) (ci := 4) rfl rfl), zPr_pre hK hPc⟩ rfl rfl hl.1 rfl (lv_room (Nat.le_of_ble_eq_true rfl)) dX4_readsBranch_215 ⟨Nat.zero_le _, Nat.zero_le _⟩) ?_
                  refine lv_if_eq (tgt := 225) hx hb dX4_readsBranch_218 (by decide) (fun c141 => ?_) (fun c141 => ?_)
                  · have h := zif_t c141 h
                    refine lv_iconst (v := (0 : Int32)) hx hb dX4_readsBranch_225 (by decide) ?_
                    refine lv_istore_n (lv' := [(3, .int (0 : Int32)), (5, .int (v129 - (97 : Int32))), (4, .int (1 : Int32)), (0, .ref a_this), (1, .int p0), (2, .int v1)]) hx hb dX4_readsBranch_226 rfl hl (by decide) rfl (fun ls hl => ?_)
                    refine lv_goto (tgt := 32) hx hb dX4_readsBranch_227 (by decide) ?_
                    exact ih32 (0 : Int32) (v56.2 + (1 : Int32)) v135 h _ _ hP hD hS ls (lv_sub hl [3, 4, 5, 0] rfl)
                  · have h := zif_f c141 h
                    refine lv_iconst (v := (1 : Int32)) hx hb dX4_readsBranch_221 (by decide) ?_
                    refine lv_goto (tgt := 226) hx hb dX4_readsBranch_222 (by decide) ?_
                    refine lv_istore_n (lv' := [(3, .int (1 : Int32)), (5, .int (v129 - (97 : Int32))), (4, .int (1 : Int32)), (0, .ref a_this), (1, .int p0), (2, .int v1)]) hx hb dX4_readsBranch_226 rfl hl (by decide) rfl (fun ls hl => ?_)
                    refine lv_goto (tgt := 32) hx hb dX4_readsBranch_227 (by decide) ?_
                    exact ih32 (1 : Int32) (v56.2 + (1 : Int32)) v135 h _ _ hP hD hS ls (lv_sub hl [3, 4, 5, 0] rfl)
            · have h := zif_t c133 h
              refine lv_iconst (v := (0 : Int32)) hx hb dX4_readsBranch_160 (by decide) ?_
              have hR := Option.some.inj h
              subst hR
              exact W.zret (v := (0 : Int32)) (ty := .boolean) hx hb hr rfl (fun t ht hW => ⟨⟨_, (), rfl, rfl, zhp ht hP⟩, hS.F ht⟩) hS.2.2 dX4_readsBranch_161
def F_X4_readsRung_E79 (f_ordered : Int32) (v6 : Int32) (v7 : Int32) (v8 : Int32) (v9 : Nat → Int32) : Option (Int32 × Int32 × (Nat → Int32)) := (zwr v9 176 (((11 : Int32) * f_ordered) + (2 : Int32)) v6).bind fun v10 => some ((1 : Int32), v8, v10)
def F_X4_readsRung_L39 (fu : Nat) (f_length : Int32) (f_ordered : Int32) (f_text : Nat → Int32) (k39 : Int32 → Int32 → Int32 → (Nat → Int32) → Option (Int32 × Int32 × (Nat → Int32))) (rec39 : Int32 → Int32 → Int32 → (Nat → Int32) → Option (Int32 × Int32 × (Nat → Int32))) (v11 : Int32) (v12 : Int32) (v13 : Int32) (v14 : Nat → Int32) : Option (Int32 × Int32 × (Nat → Int32)) := if v12 = (0 : Int32) then k39 v11 v12 v13 v14 else (F_X4_readsBranch fu f_length v13 f_ordered f_text v14 v11).bind fun v16 => if v16.1 = (0 : Int32) then some ((0 : Int32), v16.2.1, v16.2.2) else if (4 : Int32) ≤ (v11 + (1 : Int32)) then rec39 (v11 + (1 : Int32)) (0 : Int32) v16.2.1 v16.2.2 else (F_X4_takes fu f_length v16.2.1 f_text (43 : Int32)).bind fun v19 => if v19.1 = (0 : Int32) then rec39 (v11 + (1 : Int32)) (0 : Int32) v19.2 v16.2.2 else rec39 (v11 + (1 : Int32)) (1 : Int32) v19.2 v16.2.2
def F_X4_readsRung (fu : Nat) (f_length : Int32) (f_spot : Int32) (f_ordered : Int32) (f_text : Nat → Int32) (f_orders : Nat → Int32) : Option (Int32 × Int32 × (Nat → Int32)) := (zwr f_orders 176 ((11 : Int32) * f_ordered) (61 : Int32)).bind fun v1 => (F_X4_readsDigit fu f_length f_spot f_ordered f_text v1 (1 : Int32) (53 : Int32)).bind fun v2 => if v2.1 = (0 : Int32) then some ((0 : Int32), v2.2.1, v2.2.2) else (F_X4_takes fu f_length v2.2.1 f_text (61 : Int32)).bind fun v4 => if v4.1 = (0 : Int32) then some ((0 : Int32), v4.2, v2.2.2) else zlp4 (F_X4_readsRung_L39 fu f_length f_ordered f_text (F_X4_readsRung_E79 f_ordered)) fu (0 : Int32) (1 : Int32) v4.2 v2.2.2
set_option maxHeartbeats 4000000 in
set_option maxRecDepth 100000 in
theorem c_X4_readsRung (l : Launch) (D : va_G) (cI cC cO cJ : ClassId) (fu : Nat) (a_this a_s a_then a_past a_text a_met a_table a_ways a_waysOf a_into a_orders : Nat) (sz : Nat) (f_thrown : Int32) (f_saved : Int32) (f_length : Int32) (f_counted : Int32) (f_due : Int32) (f_meets : Int32) (f_isTold : Int32) (f_rests : Int32) (f_leastRest : Int32) (f_mostRest : Int32) (f_isWheel : Int32) (f_ended : Int32) (f_spot : Int32) (f_ordered : Int32) (f_cureAmount : Int32) (f_cureRelay : Int32) (f_cureWhich : Int32) (f_hash : Int64) (f_text : Nat → Int32) (f_orders : Nat → Int32) (R : Int32 × Int32 × (Nat → Int32)) (h : F_X4_readsRung fu f_length f_spot f_ordered f_text f_orders = some R) : Met l yX4_readsRung wsX4_readsRung ({ frames := 4, cells := 0, slots := 0, locals := 91 } : Room) (zPw D (ztys cI cC cO cJ) [(a_this, .inr (4, [.int f_thrown, .ref a_s, .ref a_then, .ref a_past, .int f_saved, .ref a_text, .int f_length, .int f_counted, .int f_due, .ref a_met, .ref a_table, .ref a_ways, .ref a_waysOf, .ref a_into, .int f_meets, .int f_isTold, .int f_rests, .int f_leastRest, .int f_mostRest, .int f_isWheel, .int f_ended, .int f_spot, .ref a_orders, .int f_ordered, .int f_cureAmount, .int f_cureRelay, .int f_cureWhich, .long f_hash])), (a_text, .inl (cC, 60, .inl f_text)), (a_orders, .inl (cI, 176, .inl f_orders))] sz [.ref a_this]) (zWi D R.1 [(a_this, .inr (4, [.int f_thrown, .ref a_s, .ref a_then, .ref a_past, .int f_saved, .ref a_text, .int f_length, .int f_counted, .int f_due, .ref a_met, .ref a_table, .ref a_ways, .ref a_waysOf, .ref a_into, .int f_meets, .int f_isTold, .int f_rests, .int f_leastRest, .int f_mostRest, .int f_isWheel, .int f_ended, .int R.2.1, .ref a_orders, .int f_ordered, .int f_cureAmount, .int f_cureRelay, .int f_cureWhich, .long f_hash])), (a_text, .inl (cC, 60, .inl f_text)), (a_orders, .inl (cI, 176, .inl R.2.2))] (va_A [(a_this, .inr (4, [.int f_thrown, .ref a_s, .ref a_then, .ref a_past, .int f_saved, .ref a_text, .int f_length, .int f_counted, .int f_due, .ref a_met, .ref a_table, .ref a_ways, .ref a_waysOf, .ref a_into, .int f_meets, .int f_isTold, .int f_rests, .int f_leastRest, .int f_mostRest, .int f_isWheel, .int f_ended, .int f_spot, .ref a_orders, .int f_ordered, .int f_cureAmount, .int f_cureRelay, .int f_cureWhich, .long f_hash])), (a_text, .inl (cC, 60, .inl f_text)), (a_orders, .inl (cI, 176, .inl f_orders))] sz)) 0 0 (va_A [(a_this, .inr (4, [.int f_thrown, .ref a_s, .ref a_then, .ref a_past, .int f_saved, .ref a_text, .int f_length, .int f_counted, .int f_due, .ref a_met, .ref a_table, .ref a_ways, .ref a_waysOf, .ref a_into, .int f_meets, .int f_isTold, .int f_rests, .int f_leastRest, .int f_mostRest, .int f_isWheel, .int f_ended, .int f_spot, .ref a_orders, .int f_ordered, .int f_cureAmount, .int f_cureRelay, .int f_cureWhich, .long f_hash])), (a_text, .inl (cC, 60, .inl f_text)), (a_orders, .inl (cI, 176, .inl f_orders))] sz) := by
  refine Met.ofW (cc := cX4_readsRung) (maxL := 3) (ret := (some .boolean)) (by decide) rfl ?_
  intro p e s m args below meth c s₁ B hml hv
  obtain ⟨rfl, hsz, hP, hK, hD0⟩ := hv
  have hx := B.exec
  have hb := B.bytes
  have hr := B.returns
  have hts := atoms_spec (ws := wsX4_readsRung) B.pre
  have hown : s.vm.findClass RX4 = some m.cls := findClass_of_methodNamed B.named
  have hlocks := B.notSynchronized
  have hinX4 : ∀ w ∈ wsX40, w ∈ wsX4_readsRung := fun _ h => (List.mem_cons_of_mem _ (List.mem_append_right _ h))
  subst hsz
  have hD := hD0.self (sz := s.heap.size)
  generalize hAe : va_A [(a_this, .inr (4, [.int f_thrown, .ref a_s, .ref a_then, .ref a_past, .int f_saved, .ref a_text, .int f_length, .int f_counted, .int f_due, .ref a_met, .ref a_table, .ref a_ways, .ref a_waysOf, .ref a_into, .int f_meets, .int f_isTold, .int f_rests, .int f_leastRest, .int f_mostRest, .int f_isWheel, .int f_ended, .int f_spot, .ref a_orders, .int f_ordered, .int f_cureAmount, .int f_cureRelay, .int f_cureWhich, .long f_hash])), (a_text, .inl (cC, 60, .inl f_text)), (a_orders, .inl (cI, 176, .inl f_orders))] s.heap.size = A at hD ⊢
  have hA : ∀ q : Nat, s.heap.size ≤ q → A q := fun q h => by rw [← hAe]; exact Or.inr h
  have hS : va_S A s.heap s.heap [] := va_S.rf
  have hP : va_P D vwCl [(a_this, .inr (4, [.int f_thrown, .ref a_s, .ref a_then, .ref a_past, .int f_saved, .ref a_text, .int f_length, .int f_counted, .int f_due, .ref a_met, .ref a_table, .ref a_ways, .ref a_waysOf, .ref a_into, .int f_meets, .int f_isTold, .int f_rests, .int f_leastRest, .int f_mostRest, .int f_isWheel, .int f_ended, .int f_spot, .ref a_orders, .int f_ordered, .int f_cureAmount, .int f_cureRelay, .int f_cureWhich, .long f_hash])), (a_text, .inl (cC, 60, .inl f_text)), (a_orders, .inl (cI, 176, .inl f_orders))] s.heap := hP
  have hK : va_K D vwCl (ztys cI cC cO cJ) s := hK
  have hl := lv_entry ([.ref a_this]) (n := 3) (Nat.le_of_ble_eq_true rfl)
  rw [lg_entry_eq]
  generalize (lg_sl ([.ref a_this]) ++ List.replicate (3 - (lg_sl ([.ref a_this])).length) Slot.unset).toArray = ls at hl ⊢
  have hl : lv_has ls 3 [(0, .ref a_this)] := hl
  unfold F_X4_readsRung at h
  refine lv_aload_n hx hb dX4_readsRung_0 rfl (lv_at hl 0 rfl) ?_
  refine va_get (D := D) (ci := 4) (v := .ref a_orders) (C := RX4) (T := TX4) (N := 28) hx hb hts hinX4 hown hK hP 0 rfl rfl 22 (by decide) (hts (Cond.fieldLink RX4 38 "LadderRelaysModel" "orders" "[I") (List.mem_of_getElem? (i := 1) rfl)) (fun _ h9 => h9) rfl dX4_readsRung_1 ?_
  refine lv_bipush (v := (11 : Int32)) hx hb dX4_readsRung_4 (by decide) ?_
  refine lv_aload_n hx hb dX4_readsRung_6 rfl (lv_at hl 0 rfl) ?_
  refine va_get (D := D) (ci := 4) (v := .int f_ordered) (C := RX4) (T := TX4) (N := 28) hx hb hts hinX4 hown hK hP 0 rfl rfl 23 (by decide) (hts (Cond.fieldLink RX4 186 "LadderRelaysModel" "ordered" "I") (List.mem_of_getElem? (i := 2) rfl)) (fun _ h9 => h9) rfl dX4_readsRung_7 ?_
  refine lv_imul hx hb dX4_readsRung_10 ?_
  refine lv_bipush (v := (61 : Int32)) hx hb dX4_readsRung_11 (by decide) ?_
  obtain ⟨v1, hv1, h⟩ := zbnd h
  refine zr_iast hx hb hK hP hD hS 2 0 rfl rfl hv1 dX4_readsRung_13 (fun H locs hP hD hS => ?_)
  have hP : va_P D vwCl [(a_this, .inr (4, [.int f_thrown, .ref a_s, .ref a_then, .ref a_past, .int f_saved, .ref a_text, .int f_length, .int f_counted, .int f_due, .ref a_met, .ref a_table, .ref a_ways, .ref a_waysOf, .ref a_into, .int f_meets, .int f_isTold, .int f_rests, .int f_leastRest, .int f_mostRest, .int f_isWheel, .int f_ended, .int f_spot, .ref a_orders, .int f_ordered, .int f_cureAmount, .int f_cureRelay, .int f_cureWhich, .long f_hash])), (a_text, .inl (cC, 60, .inl f_text)), (a_orders, .inl (cI, 176, .inl v1))] H := hP
  have hD : va_D A [(a_this, .inr (4, [.int f_thrown, .ref a_s, .ref a_then, .ref a_past, .int f_saved, .ref a_text, .int f_length, .int f_counted, .int f_due, .ref a_met, .ref a_table, .ref a_ways, .ref a_waysOf, .ref a_into, .int f_meets, .int f_isTold, .int f_rests, .int f_leastRest, .int f_mostRest, .int f_isWheel, .int f_ended, .int f_spot, .ref a_orders, .int f_ordered, .int f_cureAmount, .int f_cureRelay, .int f_cureWhich, .long f_hash])), (a_text, .inl (cC, 60, .inl f_text)), (a_orders, .inl (cI, 176, .inl v1))] := hD
  refine lv_aload_n hx hb dX4_readsRung_14 rfl (lv_at hl 0 rfl) ?_
  refine lv_iconst (v := (1 : Int32)) hx hb dX4_readsRung_15 (by decide) ?_
  refine lv_bipush (v := (53 : Int32)) hx hb dX4_readsRung_16 (by decide) ?_
  obtain ⟨v2, hv2, h⟩ := zbnd h
  have hFc := va_free (wc := [(a_this, .inr (4, [.int f_thrown, .ref a_s, .ref a_then, .ref a_past, .int f_saved, .ref a_text, .int f_length, .int f_counted, .int f_due, .ref a_met, .ref a_table, .ref a_ways, .ref a_waysOf, .ref a_into, .int f_meets, .int f_isTold, .int f_rests, .int f_leastRest, .int f_mostRest, .int f_isWheel, .int f_ended, .int f_spot, .ref a_orders, .int f_ordered, .int f_cureAmount, .int f_cureRelay, .int f_cureWhich, .long f_hash])), (a_text, .inl (cC, 60, .inl f_text)), (a_orders, .inl (cI, 176, .inl v1))]) hD hS hA [0, 1, 2] rfl
  refine zc_wi (va_runV (C := RX4) (As := [.int (1 : Int32), .int (53 : Int32)]) (rest := []) ⟨hx, hb, hml, hown, hts⟩ (c_X4_readsDigit l D cI cC cO cJ fu a_this a_s a_then a_past a_text a_met a_table a_ways a_waysOf a_into a_orders _ f_thrown f_saved f_length f_counted f_due f_meets f_isTold f_rests f_leastRest f_mostRest f_isWheel f_ended f_spot f_ordered f_cureAmount f_cureRelay f_cureWhich f_hash f_text v1 (1 : Int32) (53 : Int32) v2 hv2) (cwV 2 hts gX4_readsRung_X4_readsDigit rfl rfl rfl (by decide +kernel) ⟨Nat.le_of_ble_eq_true rfl, Nat.le_of_ble_eq_true rfl⟩) ⟨zPw_blind, (va_recv hK hP (q0 := 0) (ci := 4) rfl rfl), zPw_pre hK hP hD⟩ rfl rfl hl.1 rfl (lv_room (Nat.le_of_ble_eq_true rfl)) dX4_readsRung_18 ⟨Nat.zero_le _, Nat.zero_le _⟩) hS hFc (fun H locs hk1 hP1 hS => ?_)
  obtain ⟨hP, hD⟩ := zjn (ws' := [(a_this, .inr (4, [.int f_thrown, .ref a_s, .ref a_then, .ref a_past, .int f_saved, .ref a_text, .int f_length, .int f_counted, .int f_due, .ref a_met, .ref a_table, .ref a_ways, .ref a_waysOf, .ref a_into, .int f_meets, .int f_isTold, .int f_rests, .int f_leastRest, .int f_mostRest, .int f_isWheel, .int f_ended, .int v2.2.1, .ref a_orders, .int f_ordered, .int f_cureAmount, .int f_cureRelay, .int f_cureWhich, .long f_hash])), (a_text, .inl (cC, 60, .inl f_text)), (a_orders, .inl (cI, 176, .inl v2.2.2))]) hP hD [0, 1, 2] [.inr 0, .inr 1, .inr 2] rfl rfl rfl hk1 hP1
  refine lv_if_eq (tgt := 33) hx hb dX4_readsRung_21 (by decide) (fun c3 => ?_) (fun c3 => ?_)
  · have h := zif_t c3 h
    refine lv_iconst (v := (0 : Int32)) hx hb dX4_readsRung_33 (by decide) ?_
    have hR := Option.some.inj h
    subst hR
    exact W.zret (v := (0 : Int32)) (ty := .boolean) hx hb hr rfl (fun t ht hW => ⟨⟨_, (), rfl, rfl, zhp ht hP⟩, hS.F ht⟩) hS.2.2 dX4_readsRung_34
  · have h := zif_f c3 h
    refine lv_aload_n hx hb dX4_readsRung_24 rfl (lv_at hl 0 rfl) ?_
    refine lv_bipush (v := (61 : Int32)) hx hb dX4_readsRung_25 (by decide) ?_
    obtain ⟨v4, hv4, h⟩ := zbnd h
    have hPc := hP.sub (ws' := [(a_this, .inr (4, [.int f_thrown, .ref a_s, .ref a_then, .ref a_past, .int f_saved, .ref a_text, .int f_length, .int f_counted, .int f_due, .ref a_met, .ref a_table, .ref a_ways, .ref a_waysOf, .ref a_into, .int f_meets, .int f_isTold, .int f_rests, .int f_leastRest, .int f_mostRest, .int f_isWheel, .int f_ended, .int v2.2.1, .ref a_orders, .int f_ordered, .int f_cureAmount, .int f_cureRelay, .int f_cureWhich, .long f_hash])), (a_text, .inl (cC, 60, .inl f_text))]) [0, 1] rfl
    have hDc := hD.sub (ws' := [(a_this, .inr (4, [.int f_thrown, .ref a_s, .ref a_then, .ref a_past, .int f_saved, .ref a_text, .int f_length, .int f_counted, .int f_due, .ref a_met, .ref a_table, .ref a_ways, .ref a_waysOf, .ref a_into, .int f_meets, .int f_isTold, .int f_rests, .int f_leastRest, .int f_mostRest, .int f_isWheel, .int f_ended, .int v2.2.1, .ref a_orders, .int f_ordered, .int f_cureAmount, .int f_cureRelay, .int f_cureWhich, .long f_hash])), (a_text, .inl (cC, 60, .inl f_text))]) [0, 1] (by decide) rfl
    have hFc := va_free (wc := [(a_this, .inr (4, [.int f_thrown, .ref a_s, .ref a_then, .ref a_past, .int f_saved, .ref a_text, .int f_length, .int f_counted, .int f_due, .ref a_met, .ref a_table, .ref a_ways, .ref a_waysOf, .ref a_into, .int f_meets, .int f_isTold, .int f_rests, .int f_leastRest, .int f_mostRest, .int f_isWheel, .int f_ended, .int v2.2.1, .ref a_orders, .int f_ordered, .int f_cureAmount, .int f_cureRelay, .int f_cureWhich, .long f_hash])), (a_text, .inl (cC, 60, .inl f_text))]) hD hS hA [0, 1] rfl
    refine zc_wi (va_runV (C := RX4) (As := [.int (61 : Int32)]) (rest := []) ⟨hx, hb, hml, hown, hts⟩ (c_X4_takes l D cI cC cO cJ fu a_this a_s a_then a_past a_text a_met a_table a_ways a_waysOf a_into a_orders _ f_thrown f_saved f_length f_counted f_due f_meets f_isTold f_rests f_leastRest f_mostRest f_isWheel f_ended v2.2.1 f_ordered f_cureAmount f_cureRelay f_cureWhich f_hash f_text (61 : Int32) v4 hv4) (cwV 1 hts gX4_readsRung_X4_takes rfl rfl rfl (by decide +kernel) ⟨Nat.le_of_ble_eq_true rfl, Nat.le_of_ble_eq_true rfl⟩) ⟨zPw_blind, (va_recv hK hP (q0 := 0) (ci := 4) rfl rfl), zPw_pre hK hPc hDc⟩ rfl rfl hl.1 rfl (lv_room (Nat.le_of_ble_eq_true rfl)) dX4_readsRung_27 ⟨Nat.zero_le _, Nat.zero_le _⟩) hS hFc (fun H locs hk1 hP1 hS => ?_)
    obtain ⟨hP, hD⟩ := zjn (ws' := [(a_this, .inr (4, [.int f_thrown, .ref a_s, .ref a_then, .ref a_past, .int f_saved, .ref a_text, .int f_length, .int f_counted, .int f_due, .ref a_met, .ref a_table, .ref a_ways, .ref a_waysOf, .ref a_into, .int f_meets, .int f_isTold, .int f_rests, .int f_leastRest, .int f_mostRest, .int f_isWheel, .int f_ended, .int v4.2, .ref a_orders, .int f_ordered, .int f_cureAmount, .int f_cureRelay, .int f_cureWhich, .long f_hash])), (a_text, .inl (cC, 60, .inl f_text)), (a_orders, .inl (cI, 176, .inl v2.2.2))]) hP hD [0, 1] [.inr 0, .inr 1, .inl 2] rfl rfl rfl hk1 hP1
    refine lv_if_ne (tgt := 35) hx hb dX4_readsRung_30 (by decide) (fun c5 => ?_) (fun c5 => ?_)
    · have h := zif_f c5 h
      refine lv_iconst (v := (0 : Int32)) hx hb dX4_readsRung_35 (by decide) ?_
      refine lv_istore_n (lv' := [(1, .int (0 : Int32)), (0, .ref a_this)]) hx hb dX4_readsRung_36 rfl hl (by decide) rfl (fun ls hl => ?_)
      refine lv_iconst (v := (1 : Int32)) hx hb dX4_readsRung_37 (by decide) ?_
      refine lv_istore_n (lv' := [(2, .int (1 : Int32)), (1, .int (0 : Int32)), (0, .ref a_this)]) hx hb dX4_readsRung_38 rfl hl (by decide) rfl (fun ls hl => ?_)
      have E79 : ∀ (v6 : Int32) (v7 : Int32) (v8 : Int32) (v9 : Nat → Int32), F_X4_readsRung_E79 f_ordered v6 v7 v8 v9 = some R → ∀ (H : Heap) (locs : List Loc), va_P D vwCl [(a_this, .inr (4, [.int f_thrown, .ref a_s, .ref a_then, .ref a_past, .int f_saved, .ref a_text, .int f_length, .int f_counted, .int f_due, .ref a_met, .ref a_table, .ref a_ways, .ref a_waysOf, .ref a_into, .int f_meets, .int f_isTold, .int f_rests, .int f_leastRest, .int f_mostRest, .int f_isWheel, .int f_ended, .int v8, .ref a_orders, .int f_ordered, .int f_cureAmount, .int f_cureRelay, .int f_cureWhich, .long f_hash])), (a_text, .inl (cC, 60, .inl f_text)), (a_orders, .inl (cI, 176, .inl v9))] H → va_D A [(a_this, .inr (4, [.int f_thrown, .ref a_s, .ref a_then, .ref a_past, .int f_saved, .ref a_text, .int f_length, .int f_counted, .int f_due, .ref a_met, .ref a_table, .ref a_ways, .ref a_waysOf, .ref a_into, .int f_meets, .int f_isTold, .int f_rests, .int f_leastRest, .int f_mostRest, .int f_isWheel, .int f_ended, .int v8, .ref a_orders, .int f_ordered, .int f_cureAmount, .int f_cureRelay, .int f_cureWhich, .long f_hash])), (a_text, .inl (cC, 60, .inl f_text)), (a_orders, .inl (cI, 176, .inl v9))] → va_S A s.heap H locs → ∀ ls : Array Slot, lv_has ls 3 [(0, .ref a_this), (1, .int v6), (2, .int v7)] → W p l e ({ frames := 4, cells := 0, slots := 0, locals := 91 } : Room) s m (([.ref a_this] : List Value).toArray) below meth c H locs 0 0 (MQ below (zWi D R.1 [(a_this, .inr (4, [.int f_thrown, .ref a_s, .ref a_then, .ref a_past, .int f_saved, .ref a_text, .int f_length, .int f_counted, .int f_due, .ref a_met, .ref a_table, .ref a_ways, .ref a_waysOf, .ref a_into, .int f_meets, .int f_isTold, .int f_rests, .int f_leastRest, .int f_mostRest, .int f_isWheel, .int f_ended, .int R.2.1, .ref a_orders, .int f_ordered, .int f_cureAmount, .int f_cureRelay, .int f_cureWhich, .long f_hash])), (a_text, .inl (cC, 60, .inl f_text)), (a_orders, .inl (cI, 176, .inl R.2.2))] A) (([.ref a_this] : List Value).toArray) s 0 0 A) (F0 m 79 ls []) := by
        intro v6 v7 v8 v9 h H locs hP hD hS ls hl
        unfold F_X4_readsRung_E79 at h
        refine lv_aload_n hx hb dX4_readsRung_79 rfl (lv_at hl 0 rfl) ?_
        refine va_get (D := D) (ci := 4) (v := .ref a_orders) (C := RX4) (T := TX4) (N := 28) hx hb hts hinX4 hown hK hP 0 rfl rfl 22 (by decide) (hts (Cond.fieldLink RX4 38 "LadderRelaysModel" "orders" "[I") (List.mem_of_getElem? (i := 1) rfl)) (fun _ h9 => h9) rfl dX4_readsRung_80 ?_
        refine lv_bipush (v := (11 : Int32)) hx hb dX4_readsRung_83 (by decide) ?_
        refine lv_aload_n hx hb dX4_readsRung_85 rfl (lv_at hl 0 rfl) ?_
        refine va_get (D := D) (ci := 4) (v := .int f_ordered) (C := RX4) (T := TX4) (N := 28) hx hb hts hinX4 hown hK hP 0 rfl rfl 23 (by decide) (hts (Cond.fieldLink RX4 186 "LadderRelaysModel" "ordered" "I") (List.mem_of_getElem? (i := 2) rfl)) (fun _ h9 => h9) rfl dX4_readsRung_86 ?_
        refine lv_imul hx hb dX4_readsRung_89 ?_
        refine lv_iconst (v := (2 : Int32)) hx hb dX4_readsRung_90 (by decide) ?_
        refine lv_iadd hx hb dX4_readsRung_91 ?_
        refine lv_iload_n hx hb dX4_readsRung_92 rfl (lv_at hl 1 rfl) ?_
        obtain ⟨v10, hv10, h⟩ := zbnd h
        refine zr_iast hx hb hK hP hD hS 2 0 rfl rfl hv10 dX4_readsRung_93 (fun H locs hP hD hS => ?_)
        have hP : va_P D vwCl [(a_this, .inr (4, [.int f_thrown, .ref a_s, .ref a_then, .ref a_past, .int f_saved, .ref a_text, .int f_length, .int f_counted, .int f_due, .ref a_met, .ref a_table, .ref a_ways, .ref a_waysOf, .ref a_into, .int f_meets, .int f_isTold, .int f_rests, .int f_leastRest, .int f_mostRest, .int f_isWheel, .int f_ended, .int v8, .ref a_orders, .int f_ordered, .int f_cureAmount, .int f_cureRelay, .int f_cureWhich, .long f_hash])), (a_text, .inl (cC, 60, .inl f_text)), (a_orders, .inl (cI, 176, .inl v10))] H := hP
        have hD : va_D A [(a_this, .inr (4, [.int f_thrown, .ref a_s, .ref a_then, .ref a_past, .int f_saved, .ref a_text, .int f_length, .int f_counted, .int f_due, .ref a_met, .ref a_table, .ref a_ways, .ref a_waysOf, .ref a_into, .int f_meets, .int f_isTold, .int f_rests, .int f_leastRest, .int f_mostRest, .int f_isWheel, .int f_ended, .int v8, .ref a_orders, .int f_ordered, .int f_cureAmount, .int f_cureRelay, .int f_cureWhich, .long f_hash])), (a_text, .inl (cC, 60, .inl f_text)), (a_orders, .inl (cI, 176, .inl v10))] := hD
        refine lv_iconst (v := (1 : Int32)) hx hb dX4_readsRung_94 (by decide) ?_
        have hR := Option.some.inj h
        subst hR
        exact W.zret (v := (1 : Int32)) (ty := .boolean) hx hb hr rfl (fun t ht hW => ⟨⟨_, (), rfl, rfl, zhp ht hP⟩, hS.F ht⟩) hS.2.2 dX4_readsRung_95
      refine zlp_i4 (R := R) (P := fun (v11 : Int32) (v12 : Int32) (v13 : Int32) (v14 : Nat → Int32) => ∀ (H : Heap) (locs : List Loc), va_P D vwCl [(a_this, .inr (4, [.int f_thrown, .ref a_s, .ref a_then, .ref a_past, .int f_saved, .ref a_text, .int f_length, .int f_counted, .int f_due, .ref a_met, .ref a_table, .ref a_ways, .ref a_waysOf, .ref a_into, .int f_meets, .int f_isTold, .int f_rests, .int f_leastRest, .int f_mostRest, .int f_isWheel, .int f_ended, .int v13, .ref a_orders, .int f_ordered, .int f_cureAmount, .int f_cureRelay, .int f_cureWhich, .long f_hash])), (a_text, .inl (cC, 60, .inl f_text)), (a_orders, .inl (cI, 176, .inl v14))] H → va_D A [(a_this, .inr (4, [.int f_thrown, .ref a_s, .ref a_then, .ref a_past, .int f_saved, .ref a_text, .int f_length, .int f_counted, .int f_due, .ref a_met, .ref a_table, .ref a_ways, .ref a_waysOf, .ref a_into, .int f_meets, .int f_isTold, .int f_rests, .int f_leastRest, .int f_mostRest, .int f_isWheel, .int f_ended, .int v13, .ref a_orders, .int f_ordered, .int f_cureAmount, .int f_cureRelay, .int f_cureWhich, .long f_hash])), (a_text, .inl (cC, 60, .inl f_text)), (a_orders, .inl (cI, 176, .inl v14))] → va_S A s.heap H locs → ∀ ls : Array Slot, lv_has ls 3 [(0, .ref a_this), (1, .int v11), (2, .int v12)] → W p l e ({ frames := 4, cells := 0, slots := 0, locals := 91 } : Room) s m (([.ref a_this] : List Value).toArray) below meth c H locs 0 0 (MQ below (zWi D R.1 [(a_this, .inr (4, [.int f_thrown, .ref a_s, .ref a_then, .ref a_past, .int f_saved, .ref a_text, .int f_length, .int f_counted, .int f_due, .ref a_met, .ref a_table, .ref a_ways, .ref a_waysOf, .ref a_into, .int f_meets, .int f_isTold, .int f_rests, .int f_leastRest, .int f_mostRest, .int f_isWheel, .int f_ended, .int R.2.1, .ref a_orders, .int f_ordered, .int f_cureAmount, .int f_cureRelay, .int f_cureWhich, .long f_hash])), (a_text, .inl (cC, 60, .inl f_text)), (a_orders, .inl (cI, 176, .inl R.2.2))] A) (([.ref a_this] : List Value).toArray) s 0 0 A) (F0 m 39 ls [])) (fun rec39 ih39 v11 v12 v13 v14 h => ?_) fu (0 : Int32) (1 : Int32) v4.2 v2.2.2 h _ _ hP hD hS ls (lv_sub hl [2, 1, 0] rfl)
      intro H locs hP hD hS ls hl
      unfold F_X4_readsRung_L39 at h
      refine lv_iload_n hx hb dX4_readsRung_39 rfl (lv_at hl 2 rfl) ?_
      refine lv_if_eq (tgt := 79) hx hb dX4_readsRung_40 (by decide) (fun c15 => ?_) (fun c15 => ?_)
      · have h := zif_t c15 h
        exact E79 v11 v12 v13 v14 h _ _ hP hD hS ls (lv_sub hl [0, 1, 2] rfl)
      · have h := zif_f c15 h
        refine lv_aload_n hx hb dX4_readsRung_43 rfl (lv_at hl 0 rfl) ?_
        refine lv_iload_n hx hb dX4_readsRung_44 rfl (lv_at hl 1 rfl) ?_
        obtain ⟨v16, hv16, h⟩ := zbnd h
        have hFc := va_free (wc := [(a_this, .inr (4, [.int f_thrown, .ref a_s, .ref a_then, .ref a_past, .int f_saved, .ref a_text, .int f_length, .int f_counted, .int f_due, .ref a_met, .ref a_table, .ref a_ways, .ref a_waysOf, .ref a_into, .int f_meets, .int f_isTold, .int f_rests, .int f_leastRest, .int f_mostRest, .int f_isWheel, .int f_ended, .int v13, .ref a_orders, .int f_ordered, .int f_cureAmount, .int f_cureRelay, .int f_cureWhich, .long f_hash])), (a_text, .inl (cC, 60, .inl f_text)), (a_orders, .inl (cI, 176, .inl v14))]) hD hS hA [0, 1, 2] rfl
        refine zc_wi (va_runV (C := RX4) (As := [.int v11]) (rest := []) ⟨hx, hb, hml, hown, hts⟩ (c_X4_readsBranch l D cI cC cO cJ fu a_this a_s a_then a_past a_text a_met a_table a_ways a_waysOf a_into a_orders _ f_thrown f_saved f_length f_counted f_due f_meets f_isTold f_rests f_leastRest f_mostRest f_isWheel f_ended v13 f_ordered f_cureAmount f_cureRelay f_cureWhich f_hash f_text v14 v11 v16 hv16) (cwV 1 hts gX4_readsRung_X4_readsBranch rfl rfl rfl (by decide +kernel) ⟨Nat.le_of_ble_eq_true rfl, Nat.le_of_ble_eq_true rfl⟩) ⟨zPw_blind, (va_recv hK hP (q0 := 0) (ci := 4) rfl rfl), zPw_pre hK hP hD⟩ rfl rfl hl.1 rfl (lv_room (Nat.le_of_ble_eq_true rfl)) dX4_readsRung_45 ⟨Nat.zero_le _, Nat.zero_le _⟩) hS hFc (fun H locs hk1 hP1 hS => ?_)
        obtain ⟨hP, hD⟩ := zjn (ws' := [(a_this, .inr (4, [.int f_thrown, .ref a_s, .ref a_then, .ref a_past, .int f_saved, .ref a_text, .int f_length, .int f_counted, .int f_due, .ref a_met, .ref a_table, .ref a_ways, .ref a_waysOf, .ref a_into, .int f_meets, .int f_isTold, .int f_rests, .int f_leastRest, .int f_mostRest, .int f_isWheel, .int f_ended, .int v16.2.1, .ref a_orders, .int f_ordered, .int f_cureAmount, .int f_cureRelay, .int f_cureWhich, .long f_hash])), (a_text, .inl (cC, 60, .inl f_text)), (a_orders, .inl (cI, 176, .inl v16.2.2))]) hP hD [0, 1, 2] [.inr 0, .inr 1, .inr 2] rfl rfl rfl hk1 hP1
        refine lv_if_ne (tgt := 53) hx hb dX4_readsRung_48 (by decide) (fun c17 => ?_) (fun c17 => ?_)
        · have h := zif_f c17 h
          refine lv_iinc (v := (v11 + (1 : Int32))) (lv' := [(1, .int (v11 + (1 : Int32))), (0, .ref a_this), (2, .int v12)]) hx hb dX4_readsRung_53 hl (k := 1) rfl rfl (by decide) rfl (fun ls hl => ?_)
          refine lv_iload_n hx hb dX4_readsRung_56 rfl (lv_at hl 0 rfl) ?_
          refine lv_iconst (v := (4 : Int32)) hx hb dX4_readsRung_57 (by decide) ?_
          refine lv_icmp_ge (tgt := 74) hx hb dX4_readsRung_58 (by decide) (fun c18 => ?_) (fun c18 => ?_)
          · have h := zif_t c18 h
            refine lv_iconst (v := (0 : Int32)) hx hb dX4_readsRung_74 (by decide) ?_
            refine lv_istore_n (lv' := [(2, .int (0 : Int32)), (1, .int (v11 + (1 : Int32))), (0, .ref a_this)]) hx hb dX4_readsRung_75 rfl hl (by decide) rfl (fun ls hl => ?_)
            refine lv_goto (tgt := 39) hx hb dX4_readsRung_76 (by decide) ?_
            exact ih39 (v11 + (1 : Int32)) (0 : Int32) v16.2.1 v16.2.2 h _ _ hP hD hS ls (lv_sub hl [2, 1, 0] rfl)
          · have h := zif_f c18 h
            refine lv_aload_n hx hb dX4_readsRung_61 rfl (lv_at hl 1 rfl) ?_
            refine lv_bipush (v := (43 : Int32)) hx hb dX4_readsRung_62 (by decide) ?_
            obtain ⟨v19, hv19, h⟩ := zbnd h
            have hPc := hP.sub (ws' := [(a_this, .inr (4, [.int f_thrown, .ref a_s, .ref a_then, .ref a_past, .int f_saved, .ref a_text, .int f_length, .int f_counted, .int f_due, .ref a_met, .ref a_table, .ref a_ways, .ref a_waysOf, .ref a_into, .int f_meets, .int f_isTold, .int f_rests, .int f_leastRest, .int f_mostRest, .int f_isWheel, .int f_ended, .int v16.2.1, .ref a_orders, .int f_ordered, .int f_cureAmount, .int f_cureRelay, .int f_cureWhich, .long f_hash])), (a_text, .inl (cC, 60, .inl f_text))]) [0, 1] rfl
            have hDc := hD.sub (ws' := [(a_this, .inr (4, [.int f_thrown, .ref a_s, .ref a_then, .ref a_past, .int f_saved, .ref a_text, .int f_length, .int f_counted, .int f_due, .ref a_met, .ref a_table, .ref a_ways, .ref a_waysOf, .ref a_into, .int f_meets, .int f_isTold, .int f_rests, .int f_leastRest, .int f_mostRest, .int f_isWheel, .int f_ended, .int v16.2.1, .ref a_orders, .int f_ordered, .int f_cureAmount, .int f_cureRelay, .int f_cureWhich, .long f_hash])), (a_text, .inl (cC, 60, .inl f_text))]) [0, 1] (by decide) rfl
            have hFc := va_free (wc := [(a_this, .inr (4, [.int f_thrown, .ref a_s, .ref a_then, .ref a_past, .int f_saved, .ref a_text, .int f_length, .int f_counted, .int f_due, .ref a_met, .ref a_table, .ref a_ways, .ref a_waysOf, .ref a_into, .int f_meets, .int f_isTold, .int f_rests, .int f_leastRest, .int f_mostRest, .int f_isWheel, .int f_ended, .int v16.2.1, .ref a_orders, .int f_ordered, .int f_cureAmount, .int f_cureRelay, .int f_cureWhich, .long f_hash])), (a_text, .inl (cC, 60, .inl f_text))]) hD hS hA [0, 1] rfl
            refine zc_wi (va_runV (C := RX4) (As := [.int (43 : Int32)]) (rest := []) ⟨hx, hb, hml, hown, hts⟩ (c_X4_takes l D cI cC cO cJ fu a_this a_s a_then a_past a_text a_met a_table a_ways a_waysOf a_into a_orders _ f_thrown f_saved f_length f_counted f_due f_meets f_isTold f_rests f_leastRest f_mostRest f_isWheel f_ended v16.2.1 f_ordered f_cureAmount f_cureRelay f_cureWhich f_hash f_text (43 : Int32) v19 hv19) (cwV 1 hts gX4_readsRung_X4_takes rfl rfl rfl (by decide +kernel) ⟨Nat.le_of_ble_eq_true rfl, Nat.le_of_ble_eq_true rfl⟩) ⟨zPw_blind, (va_recv hK hP (q0 := 0) (ci := 4) rfl rfl), zPw_pre hK hPc hDc⟩ rfl rfl hl.1 rfl (lv_room (Nat.le_of_ble_eq_true rfl)) dX4_readsRung_64 ⟨Nat.zero_le _, Nat.zero_le _⟩) hS hFc (fun H locs hk1 hP1 hS => ?_)
            obtain ⟨hP, hD⟩ := zjn (ws' := [(a_this, .inr (4, [.int f_thrown, .ref a_s, .ref a_then, .ref a_past, .int f_saved, .ref a_text, .int f_length, .int f_counted, .int f_due, .ref a_met, .ref a_table, .ref a_ways, .ref a_waysOf, .ref a_into, .int f_meets, .int f_isTold, .int f_rests, .int f_leastRest, .int f_mostRest, .int f_isWheel, .int f_ended, .int v19.2, .ref a_orders, .int f_ordered, .int f_cureAmount, .int f_cureRelay, .int f_cureWhich, .long f_hash])), (a_text, .inl (cC, 60, .inl f_text)), (a_orders, .inl (cI, 176, .inl v16.2.2))]) hP hD [0, 1] [.inr 0, .inr 1, .inl 2] rfl rfl rfl hk1 hP1
            refine lv_if_eq (tgt := 74) hx hb dX4_readsRung_67 (by decide) (fun c20 => ?_) (fun c20 => ?_)
            · have h := zif_t c20 h
              refine lv_iconst (v := (0 : Int32)) hx hb dX4_readsRung_74 (by decide) ?_
              refine lv_istore_n (lv' := [(2, .int (0 : Int32)), (1, .int (v11 + (1 : Int32))), (0, .ref a_this)]) hx hb dX4_readsRung_75 rfl hl (by decide) rfl (fun ls hl => ?_)
              refine lv_goto (tgt := 39) hx hb dX4_readsRung_76 (by decide) ?_
              exact ih39 (v11 + (1 : Int32)) (0 : Int32) v19.2 v16.2.2 h _ _ hP hD hS ls (lv_sub hl [2, 1, 0] rfl)
            · have h := zif_f c20 h
              refine lv_iconst (v := (1 : Int32)) hx hb dX4_readsRung_70 (by decide) ?_
              refine lv_goto (tgt := 75) hx hb dX4_readsRung_71 (by decide) ?_
              refine lv_istore_n (lv' := [(2, .int (1 : Int32)), (1, .int (v11 + (1 : Int32))), (0, .ref a_this)]) hx hb dX4_readsRung_75 rfl hl (by decide) rfl (fun ls hl => ?_)
              refine lv_goto (tgt := 39) hx hb dX4_readsRung_76 (by decide) ?_
              exact ih39 (v11 + (1 : Int32)) (1 : Int32) v19.2 v16.2.2 h _ _ hP hD hS ls (lv_sub hl [2, 1, 0] rfl)
        · have h := zif_t c17 h
          refine lv_iconst (v := (0 : Int32)) hx hb dX4_readsRung_51 (by decide) ?_
          have hR := Option.some.inj h
          subst hR
          exact W.zret (v := (0 : Int32)) (ty := .boolean) hx hb hr rfl (fun t ht hW => ⟨⟨_, (), rfl, rfl, zhp ht hP⟩, hS.F ht⟩) hS.2.2 dX4_readsRung_52
    · have h := zif_t c5 h
      refine lv_iconst (v := (0 : Int32)) hx hb dX4_readsRung_33 (by decide) ?_
      have hR := Option.some.inj h
      subst hR
      exact W.zret (v := (0 : Int32)) (ty := .boolean) hx hb hr rfl (fun t ht hW => ⟨⟨_, (), rfl, rfl, zhp ht hP⟩, hS.F ht⟩) hS.2.2 dX4_readsRung_34
def F_X4_readsOrder_J47 (fu : Nat) (f_length : Int32) (f_ordered : Int32) (f_orders : Nat → Int32) (f_text : Nat → Int32) (v2 : Int32) (v3 : Int32) : Option (Int32 × Int32 × (Nat → Int32)) := (zwr f_orders 176 ((11 : Int32) * f_ordered) v3).bind fun v4 => (F_X4_readsDigit fu f_length v2 f_ordered f_text v4 (1 : Int32) (53 : Int32)).bind fun v5 => if v5.1 = (0 : Int32) then some ((0 : Int32), v5.2.1, v5.2.2) else (F_X4_takes fu f_length v5.2.1 f_text (58 : Int32)).bind fun v7 => if v7.1 = (0 : Int32) then some ((0 : Int32), v7.2, v5.2.2) else (F_X4_readsDigit fu f_length v7.2 f_ordered f_text v5.2.2 (2 : Int32) (57 : Int32)).bind fun v9 => if v9.1 = (0 : Int32) then some ((0 : Int32), v9.2.1, v9.2.2) else some ((1 : Int32), v9.2.1, v9.2.2)
def F_X4_readsOrder_J25 (fu : Nat) (f_length : Int32) (f_ordered : Int32) (f_orders : Nat → Int32) (f_text : Nat → Int32) (v1 : Int32 × Int32) (v2 : Int32) : Option (Int32 × Int32 × (Nat → Int32)) := if v1.1 = (0 : Int32) then F_X4_readsOrder_J47 fu f_length f_ordered f_orders f_text v2 (118 : Int32) else F_X4_readsOrder_J47 fu f_length f_ordered f_orders f_text v2 (117 : Int32)
def F_X4_readsOrder (fu : Nat) (f_length : Int32) (f_spot : Int32) (f_ordered : Int32) (f_text : Nat → Int32) (f_orders : Nat → Int32) : Option (Int32 × Int32 × (Nat → Int32)) := (F_X4_takes fu f_length f_spot f_text (117 : Int32)).bind fun v1 => if v1.1 = (0 : Int32) then (F_X4_takes fu f_length v1.2 f_text (118 : Int32)).bind fun v13 => if v13.1 = (0 : Int32) then (F_X4_readsRung fu f_length v13.2 f_ordered f_text f_orders).bind fun v15 => (zbo v15.1).bind fun v16 => some (v16, v15.2.1, v15.2.2) else F_X4_readsOrder_J25 fu f_length f_ordered f_orders f_text v1 v13.2 else F_X4_readsOrder_J25 fu f_length f_ordered f_orders f_text v1 v1.2
set_option maxHeartbeats 4000000 in
set_option maxRecDepth 100000 in
theorem c_X4_readsOrder (l : Launch) (D : va_G) (cI cC cO cJ : ClassId) (fu : Nat) (a_this a_s a_then a_past a_text a_met a_table a_ways a_waysOf a_into a_orders : Nat) (sz : Nat) (f_thrown : Int32) (f_saved : Int32) (f_length : Int32) (f_counted : Int32) (f_due : Int32) (f_meets : Int32) (f_isTold : Int32) (f_rests : Int32) (f_leastRest : Int32) (f_mostRest : Int32) (f_isWheel : Int32) (f_ended : Int32) (f_spot : Int32) (f_ordered : Int32) (f_cureAmount : Int32) (f_cureRelay : Int32) (f_cureWhich : Int32) (f_hash : Int64) (f_text : Nat → Int32) (f_orders : Nat → Int32) (R : Int32 × Int32 × (Nat → Int32)) (h : F_X4_readsOrder fu f_length f_spot f_ordered f_text f_orders = some R) : Met l yX4_readsOrder wsX4_readsOrder ({ frames := 5, cells := 0, slots := 0, locals := 113 } : Room) (zPw D (ztys cI cC cO cJ) [(a_this, .inr (4, [.int f_thrown, .ref a_s, .ref a_then, .ref a_past, .int f_saved, .ref a_text, .int f_length, .int f_counted, .int f_due, .ref a_met, .ref a_table, .ref a_ways, .ref a_waysOf, .ref a_into, .int f_meets, .int f_isTold, .int f_rests, .int f_leastRest, .int f_mostRest, .int f_isWheel, .int f_ended, .int f_spot, .ref a_orders, .int f_ordered, .int f_cureAmount, .int f_cureRelay, .int f_cureWhich, .long f_hash])), (a_text, .inl (cC, 60, .inl f_text)), (a_orders, .inl (cI, 176, .inl f_orders))] sz [.ref a_this]) (zWi D R.1 [(a_this, .inr (4, [.int f_thrown, .ref a_s, .ref a_then, .ref a_past, .int f_saved, .ref a_text, .int f_length, .int f_counted, .int f_due, .ref a_met, .ref a_table, .ref a_ways, .ref a_waysOf, .ref a_into, .int f_meets, .int f_isTold, .int f_rests, .int f_leastRest, .int f_mostRest, .int f_isWheel, .int f_ended, .int R.2.1, .ref a_orders, .int f_ordered, .int f_cureAmount, .int f_cureRelay, .int f_cureWhich, .long f_hash])), (a_text, .inl (cC, 60, .inl f_text)), (a_orders, .inl (cI, 176, .inl R.2.2))] (va_A [(a_this, .inr (4, [.int f_thrown, .ref a_s, .ref a_then, .ref a_past, .int f_saved, .ref a_text, .int f_length, .int f_counted, .int f_due, .ref a_met, .ref a_table, .ref a_ways, .ref a_waysOf, .ref a_into, .int f_meets, .int f_isTold, .int f_rests, .int f_leastRest, .int f_mostRest, .int f_isWheel, .int f_ended, .int f_spot, .ref a_orders, .int f_ordered, .int f_cureAmount, .int f_cureRelay, .int f_cureWhich, .long f_hash])), (a_text, .inl (cC, 60, .inl f_text)), (a_orders, .inl (cI, 176, .inl f_orders))] sz)) 0 0 (va_A [(a_this, .inr (4, [.int f_thrown, .ref a_s, .ref a_then, .ref a_past, .int f_saved, .ref a_text, .int f_length, .int f_counted, .int f_due, .ref a_met, .ref a_table, .ref a_ways, .ref a_waysOf, .ref a_into, .int f_meets, .int f_isTold, .int f_rests, .int f_leastRest, .int f_mostRest, .int f_isWheel, .int f_ended, .int f_spot, .ref a_orders, .int f_ordered, .int f_cureAmount, .int f_cureRelay, .int f_cureWhich, .long f_hash])), (a_text, .inl (cC, 60, .inl f_text)), (a_orders, .inl (cI, 176, .inl f_orders))] sz) := by
  refine Met.ofW (cc := cX4_readsOrder) (maxL := 2) (ret := (some .boolean)) (by decide) rfl ?_
  intro p e s m args below meth c s₁ B hml hv
  obtain ⟨rfl, hsz, hP, hK, hD0⟩ := hv
  have hx := B.exec
  have hb := B.bytes
  have hr := B.returns
  have hts := atoms_spec (ws := wsX4_readsOrder) B.pre
  have hown : s.vm.findClass RX4 = some m.cls := findClass_of_methodNamed B.named
  have hlocks := B.notSynchronized
  have hinX4 : ∀ w ∈ wsX40, w ∈ wsX4_readsOrder := fun _ h => (List.mem_cons_of_mem _ (List.mem_append_right _ h))
  subst hsz
  have hD := hD0.self (sz := s.heap.size)
  generalize hAe : va_A [(a_this, .inr (4, [.int f_thrown, .ref a_s, .ref a_then, .ref a_past, .int f_saved, .ref a_text, .int f_length, .int f_counted, .int f_due, .ref a_met, .ref a_table, .ref a_ways, .ref a_waysOf, .ref a_into, .int f_meets, .int f_isTold, .int f_rests, .int f_leastRest, .int f_mostRest, .int f_isWheel, .int f_ended, .int f_spot, .ref a_orders, .int f_ordered, .int f_cureAmount, .int f_cureRelay, .int f_cureWhich, .long f_hash])), (a_text, .inl (cC, 60, .inl f_text)), (a_orders, .inl (cI, 176, .inl f_orders))] s.heap.size = A at hD ⊢
  have hA : ∀ q : Nat, s.heap.size ≤ q → A q := fun q h => by rw [← hAe]; exact Or.inr h
  have hS : va_S A s.heap s.heap [] := va_S.rf
  have hP : va_P D vwCl [(a_this, .inr (4, [.int f_thrown, .ref a_s, .ref a_then, .ref a_past, .int f_saved, .ref a_text, .int f_length, .int f_counted, .int f_due, .ref a_met, .ref a_table, .ref a_ways, .ref a_waysOf, .ref a_into, .int f_meets, .int f_isTold, .int f_rests, .int f_leastRest, .int f_mostRest, .int f_isWheel, .int f_ended, .int f_spot, .ref a_orders, .int f_ordered, .int f_cureAmount, .int f_cureRelay, .int f_cureWhich, .long f_hash])), (a_text, .inl (cC, 60, .inl f_text)), (a_orders, .inl (cI, 176, .inl f_orders))] s.heap := hP
  have hK : va_K D vwCl (ztys cI cC cO cJ) s := hK
  have hl := lv_entry ([.ref a_this]) (n := 2) (Nat.le_of_ble_eq_true rfl)
  rw [lg_entry_eq]
  generalize (lg_sl ([.ref a_this]) ++ List.replicate (2 - (lg_sl ([.ref a_this])).length) Slot.unset).toArray = ls at hl ⊢
  have hl : lv_has ls 2 [(0, .ref a_this)] := hl
  unfold F_X4_readsOrder at h
  refine lv_aload_n hx hb dX4_readsOrder_0 rfl (lv_at hl 0 rfl) ?_
  refine lv_bipush (v := (117 : Int32)) hx hb dX4_readsOrder_1 (by decide) ?_
  obtain ⟨v1, hv1, h⟩ := zbnd h
  have hPc := hP.sub (ws' := [(a_this, .inr (4, [.int f_thrown, .ref a_s, .ref a_then, .ref a_past, .int f_saved, .ref a_text, .int f_length, .int f_counted, .int f_due, .ref a_met, .ref a_table, .ref a_ways, .ref a_waysOf, .ref a_into, .int f_meets, .int f_isTold, .int f_rests, .int f_leastRest, .int f_mostRest, .int f_isWheel, .int f_ended, .int f_spot, .ref a_orders, .int f_ordered, .int f_cureAmount, .int f_cureRelay, .int f_cureWhich, .long f_hash])), (a_text, .inl (cC, 60, .inl f_text))]) [0, 1] rfl
  have hDc := hD.sub (ws' := [(a_this, .inr (4, [.int f_thrown, .ref a_s, .ref a_then, .ref a_past, .int f_saved, .ref a_text, .int f_length, .int f_counted, .int f_due, .ref a_met, .ref a_table, .ref a_ways, .ref a_waysOf, .ref a_into, .int f_meets, .int f_isTold, .int f_rests, .int f_leastRest, .int f_mostRest, .int f_isWheel, .int f_ended, .int f_spot, .ref a_orders, .int f_ordered, .int f_cureAmount, .int f_cureRelay, .int f_cureWhich, .long f_hash])), (a_text, .inl (cC, 60, .inl f_text))]) [0, 1] (by decide) rfl
  have hFc := va_free (wc := [(a_this, .inr (4, [.int f_thrown, .ref a_s, .ref a_then, .ref a_past, .int f_saved, .ref a_text, .int f_length, .int f_counted, .int f_due, .ref a_met, .ref a_table, .ref a_ways, .ref a_waysOf, .ref a_into, .int f_meets, .int f_isTold, .int f_rests, .int f_leastRest, .int f_mostRest, .int f_isWheel, .int f_ended, .int f_spot, .ref a_orders, .int f_ordered, .int f_cureAmount, .int f_cureRelay, .int f_cureWhich, .long f_hash])), (a_text, .inl (cC, 60, .inl f_text))]) hD hS hA [0, 1] rfl
  refine zc_wi (va_runV (C := RX4) (As := [.int (117 : Int32)]) (rest := []) ⟨hx, hb, hml, hown, hts⟩ (c_X4_takes l D cI cC cO cJ fu a_this a_s a_then a_past a_text a_met a_table a_ways a_waysOf a_into a_orders _ f_thrown f_saved f_length f_counted f_due f_meets f_isTold f_rests f_leastRest f_mostRest f_isWheel f_ended f_spot f_ordered f_cureAmount f_cureRelay f_cureWhich f_hash f_text (117 : Int32) v1 hv1) (cwV 1 hts gX4_readsOrder_X4_takes rfl rfl rfl (by decide +kernel) ⟨Nat.le_of_ble_eq_true rfl, Nat.le_of_ble_eq_true rfl⟩) ⟨zPw_blind, (va_recv hK hP (q0 := 0) (ci := 4) rfl rfl), zPw_pre hK hPc hDc⟩ rfl rfl hl.1 rfl (lv_room (Nat.le_of_ble_eq_true rfl)) dX4_readsOrder_3 ⟨Nat.zero_le _, Nat.zero_le _⟩) hS hFc (fun H locs hk1 hP1 hS => ?_)
  obtain ⟨hP, hD⟩ := zjn (ws' := [(a_this, .inr (4, [.int f_thrown, .ref a_s, .ref a_then, .ref a_past, .int f_saved, .ref a_text, .int f_length, .int f_counted, .int f_due, .ref a_met, .ref a_table, .ref a_ways, .ref a_waysOf, .ref a_into, .int f_meets, .int f_isTold, .int f_rests, .int f_leastRest, .int f_mostRest, .int f_isWheel, .int f_ended, .int v1.2, .ref a_orders, .int f_ordered, .int f_cureAmount, .int f_cureRelay, .int f_cureWhich, .long f_hash])), (a_text, .inl (cC, 60, .inl f_text)), (a_orders, .inl (cI, 176, .inl f_orders))]) hP hD [0, 1] [.inr 0, .inr 1, .inl 2] rfl rfl rfl hk1 hP1
  refine lv_istore_n (lv' := [(1, .int v1.1), (0, .ref a_this)]) hx hb dX4_readsOrder_6 rfl hl (by decide) rfl (fun ls hl => ?_)
  refine lv_iload_n hx hb dX4_readsOrder_7 rfl (lv_at hl 0 rfl) ?_
  have J25 : ∀ (v2 : Int32), F_X4_readsOrder_J25 fu f_length f_ordered f_orders f_text v1 v2 = some R → ∀ (H : Heap) (locs : List Loc), va_P D vwCl [(a_this, .inr (4, [.int f_thrown, .ref a_s, .ref a_then, .ref a_past, .int f_saved, .ref a_text, .int f_length, .int f_counted, .int f_due, .ref a_met, .ref a_table, .ref a_ways, .ref a_waysOf, .ref a_into, .int f_meets, .int f_isTold, .int f_rests, .int f_leastRest, .int f_mostRest, .int f_isWheel, .int f_ended, .int v2, .ref a_orders, .int f_ordered, .int f_cureAmount, .int f_cureRelay, .int f_cureWhich, .long f_hash])), (a_text, .inl (cC, 60, .inl f_text)), (a_orders, .inl (cI, 176, .inl f_orders))] H → va_D A [(a_this, .inr (4, [.int f_thrown, .ref a_s, .ref a_then, .ref a_past, .int f_saved, .ref a_text, .int f_length, .int f_counted, .int f_due, .ref a_met, .ref a_table, .ref a_ways, .ref a_waysOf, .ref a_into, .int f_meets, .int f_isTold, .int f_rests, .int f_leastRest, .int f_mostRest, .int f_isWheel, .int f_ended, .int v2, .ref a_orders, .int f_ordered, .int f_cureAmount, .int f_cureRelay, .int f_cureWhich, .long f_hash])), (a_text, .inl (cC, 60, .inl f_text)), (a_orders, .inl (cI, 176, .inl f_orders))] → va_S A s.heap H locs → ∀ ls : Array Slot, lv_has ls 2 [(0, .ref a_this), (1, .int v1.1)] → W p l e ({ frames := 5, cells := 0, slots := 0, locals := 113 } : Room) s m (([.ref a_this] : List Value).toArray) below meth c H locs 0 0 (MQ below (zWi D R.1 [(a_this, .inr (4, [.int f_thrown, .ref a_s, .ref a_then, .ref a_past, .int f_saved, .ref a_text, .int f_length, .int f_counted, .int f_due, .ref a_met, .ref a_table, .ref a_ways, .ref a_waysOf, .ref a_into, .int f_meets, .int f_isTold, .int f_rests, .int f_leastRest, .int f_mostRest, .int f_isWheel, .int f_ended, .int R.2.1, .ref a_orders, .int f_ordered, .int f_cureAmount, .int f_cureRelay, .int f_cureWhich, .long f_hash])), (a_text, .inl (cC, 60, .inl f_text)), (a_orders, .inl (cI, 176, .inl R.2.2))] A) (([.ref a_this] : List Value).toArray) s 0 0 A) (F0 m 25 ls []) := by
    intro v2 h H locs hP hD hS ls hl
    unfold F_X4_readsOrder_J25 at h
    refine lv_aload_n hx hb dX4_readsOrder_25 rfl (lv_at hl 0 rfl) ?_
    refine va_get (D := D) (ci := 4) (v := .ref a_orders) (C := RX4) (T := TX4) (N := 28) hx hb hts hinX4 hown hK hP 0 rfl rfl 22 (by decide) (hts (Cond.fieldLink RX4 38 "LadderRelaysModel" "orders" "[I") (List.mem_of_getElem? (i := 1) rfl)) (fun _ h9 => h9) rfl dX4_readsOrder_26 ?_
    refine lv_bipush (v := (11 : Int32)) hx hb dX4_readsOrder_29 (by decide) ?_
    refine lv_aload_n hx hb dX4_readsOrder_31 rfl (lv_at hl 0 rfl) ?_
    refine va_get (D := D) (ci := 4) (v := .int f_ordered) (C := RX4) (T := TX4) (N := 28) hx hb hts hinX4 hown hK hP 0 rfl rfl 23 (by decide) (hts (Cond.fieldLink RX4 186 "LadderRelaysModel" "ordered" "I") (List.mem_of_getElem? (i := 2) rfl)) (fun _ h9 => h9) rfl dX4_readsOrder_32 ?_
    refine lv_imul hx hb dX4_readsOrder_35 ?_
    refine lv_iload_n hx hb dX4_readsOrder_36 rfl (lv_at hl 1 rfl) ?_
    have J47 : ∀ (v3 : Int32), F_X4_readsOrder_J47 fu f_length f_ordered f_orders f_text v2 v3 = some R → ∀ (H : Heap) (locs : List Loc), va_P D vwCl [(a_this, .inr (4, [.int f_thrown, .ref a_s, .ref a_then, .ref a_past, .int f_saved, .ref a_text, .int f_length, .int f_counted, .int f_due, .ref a_met, .ref a_table, .ref a_ways, .ref a_waysOf, .ref a_into, .int f_meets, .int f_isTold, .int f_rests, .int f_leastRest, .int f_mostRest, .int f_isWheel, .int f_ended, .int v2, .ref a_orders, .int f_ordered, .int f_cureAmount, .int f_cureRelay, .int f_cureWhich, .long f_hash])), (a_text, .inl (cC, 60, .inl f_text)), (a_orders, .inl (cI, 176, .inl f_orders))] H → va_D A [(a_this, .inr (4, [.int f_thrown, .ref a_s, .ref a_then, .ref a_past, .int f_saved, .ref a_text, .int f_length, .int f_counted, .int f_due, .ref a_met, .ref a_table, .ref a_ways, .ref a_waysOf, .ref a_into, .int f_meets, .int f_isTold, .int f_rests, .int f_leastRest, .int f_mostRest, .int f_isWheel, .int f_ended, .int v2, .ref a_orders, .int f_ordered, .int f_cureAmount, .int f_cureRelay, .int f_cureWhich, .long f_hash])), (a_text, .inl (cC, 60, .inl f_text)), (a_orders, .inl (cI, 176, .inl f_orders))] → va_S A s.heap H locs → ∀ ls : Array Slot, lv_has ls 2 [(0, .ref a_this), (1, .int v1.1)] → W p l e ({ frames := 5, cells := 0, slots := 0, locals := 113 } : Room) s m (([.ref a_this] : List Value).toArray) below meth c H locs 0 0 (MQ below (zWi D R.1 [(a_this, .inr (4, [.int f_thrown, .ref a_s, .ref a_then, .ref a_past, .int f_saved, .ref a_text, .int f_length, .int f_counted, .int f_due, .ref a_met, .ref a_table, .ref a_ways, .ref a_waysOf, .ref a_into, .int f_meets, .int f_isTold, .int f_rests, .int f_leastRest, .int f_mostRest, .int f_isWheel, .int f_ended, .int R.2.1, .ref a_orders, .int f_ordered, .int f_cureAmount, .int f_cureRelay, .int f_cureWhich, .long f_hash])), (a_text, .inl (cC, 60, .inl f_text)), (a_orders, .inl (cI, 176, .inl R.2.2))] A) (([.ref a_this] : List Value).toArray) s 0 0 A) (F0 m 47 ls [.int v3, .int ((11 : Int32) * f_ordered), .ref a_orders]) := by
      intro v3 h H locs hP hD hS ls hl
      unfold F_X4_readsOrder_J47 at h
      obtain ⟨v4, hv4, h⟩ := zbnd h
      refine zr_iast hx hb hK hP hD hS 2 0 rfl rfl hv4 dX4_readsOrder_47 (fun H locs hP hD hS => ?_)
      have hP : va_P D vwCl [(a_this, .inr (4, [.int f_thrown, .ref a_s, .ref a_then, .ref a_past, .int f_saved, .ref a_text, .int f_length, .int f_counted, .int f_due, .ref a_met, .ref a_table, .ref a_ways, .ref a_waysOf, .ref a_into, .int f_meets, .int f_isTold, .int f_rests, .int f_leastRest, .int f_mostRest, .int f_isWheel, .int f_ended, .int v2, .ref a_orders, .int f_ordered, .int f_cureAmount, .int f_cureRelay, .int f_cureWhich, .long f_hash])), (a_text, .inl (cC, 60, .inl f_text)), (a_orders, .inl (cI, 176, .inl v4))] H := hP
      have hD : va_D A [(a_this, .inr (4, [.int f_thrown, .ref a_s, .ref a_then, .ref a_past, .int f_saved, .ref a_text, .int f_length, .int f_counted, .int f_due, .ref a_met, .ref a_table, .ref a_ways, .ref a_waysOf, .ref a_into, .int f_meets, .int f_isTold, .int f_rests, .int f_leastRest, .int f_mostRest, .int f_isWheel, .int f_ended, .int v2, .ref a_orders, .int f_ordered, .int f_cureAmount, .int f_cureRelay, .int f_cureWhich, .long f_hash])), (a_text, .inl (cC, 60, .inl f_text)), (a_orders, .inl (cI, 176, .inl v4))] := hD
      refine lv_aload_n hx hb dX4_readsOrder_48 rfl (lv_at hl 0 rfl) ?_
      refine lv_iconst (v := (1 : Int32)) hx hb dX4_readsOrder_49 (by decide) ?_
      refine lv_bipush (v := (53 : Int32)) hx hb dX4_readsOrder_50 (by decide) ?_
      obtain ⟨v5, hv5, h⟩ := zbnd h
      have hFc := va_free (wc := [(a_this, .inr (4, [.int f_thrown, .ref a_s, .ref a_then, .ref a_past, .int f_saved, .ref a_text, .int f_length, .int f_counted, .int f_due, .ref a_met, .ref a_table, .ref a_ways, .ref a_waysOf, .ref a_into, .int f_meets, .int f_isTold, .int f_rests, .int f_leastRest, .int f_mostRest, .int f_isWheel, .int f_ended, .int v2, .ref a_orders, .int f_ordered, .int f_cureAmount, .int f_cureRelay, .int f_cureWhich, .long f_hash])), (a_text, .inl (cC, 60, .inl f_text)), (a_orders, .inl (cI, 176, .inl v4))]) hD hS hA [0, 1, 2] rfl
      refine zc_wi (va_runV (C := RX4) (As := [.int (1 : Int32), .int (53 : Int32)]) (rest := []) ⟨hx, hb, hml, hown, hts⟩ (c_X4_readsDigit l D cI cC cO cJ fu a_this a_s a_then a_past a_text a_met a_table a_ways a_waysOf a_into a_orders _ f_thrown f_saved f_length f_counted f_due f_meets f_isTold f_rests f_leastRest f_mostRest f_isWheel f_ended v2 f_ordered f_cureAmount f_cureRelay f_cureWhich f_hash f_text v4 (1 : Int32) (53 : Int32) v5 hv5) (cwV 2 hts gX4_readsOrder_X4_readsDigit rfl rfl rfl (by decide +kernel) ⟨Nat.le_of_ble_eq_true rfl, Nat.le_of_ble_eq_true rfl⟩) ⟨zPw_blind, (va_recv hK hP (q0 := 0) (ci := 4) rfl rfl), zPw_pre hK hP hD⟩ rfl rfl hl.1 rfl (lv_room (Nat.le_of_ble_eq_true rfl)) dX4_readsOrder_52 ⟨Nat.zero_le _, Nat.zero_le _⟩) hS hFc (fun H locs hk1 hP1 hS => ?_)
      obtain ⟨hP, hD⟩ := zjn (ws' := [(a_this, .inr (4, [.int f_thrown, .ref a_s, .ref a_then, .ref a_past, .int f_saved, .ref a_text, .int f_length, .int f_counted, .int f_due, .ref a_met, .ref a_table, .ref a_ways, .ref a_waysOf, .ref a_into, .int f_meets, .int f_isTold, .int f_rests, .int f_leastRest, .int f_mostRest, .int f_isWheel, .int f_ended, .int v5.2.1, .ref a_orders, .int f_ordered, .int f_cureAmount, .int f_cureRelay, .int f_cureWhich, .long f_hash])), (a_text, .inl (cC, 60, .inl f_text)), (a_orders, .inl (cI, 176, .inl v5.2.2))]) hP hD [0, 1, 2] [.inr 0, .inr 1, .inr 2] rfl rfl rfl hk1 hP1
      refine lv_if_eq (tgt := 81) hx hb dX4_readsOrder_55 (by decide) (fun c6 => ?_) (fun c6 => ?_)
      · have h := zif_t c6 h
        refine lv_iconst (v := (0 : Int32)) hx hb dX4_readsOrder_81 (by decide) ?_
        have hR := Option.some.inj h
        subst hR
        exact W.zret (v := (0 : Int32)) (ty := .boolean) hx hb hr rfl (fun t ht hW => ⟨⟨_, (), rfl, rfl, zhp ht hP⟩, hS.F ht⟩) hS.2.2 dX4_readsOrder_82
      · have h := zif_f c6 h
        refine lv_aload_n hx hb dX4_readsOrder_58 rfl (lv_at hl 0 rfl) ?_
        refine lv_bipush (v := (58 : Int32)) hx hb dX4_readsOrder_59 (by decide) ?_
        obtain ⟨v7, hv7, h⟩ := zbnd h
        have hPc := hP.sub (ws' := [(a_this, .inr (4, [.int f_thrown, .ref a_s, .ref a_then, .ref a_past, .int f_saved, .ref a_text, .int f_length, .int f_counted, .int f_due, .ref a_met, .ref a_table, .ref a_ways, .ref a_waysOf, .ref a_into, .int f_meets, .int f_isTold, .int f_rests, .int f_leastRest, .int f_mostRest, .int f_isWheel, .int f_ended, .int v5.2.1, .ref a_orders, .int f_ordered, .int f_cureAmount, .int f_cureRelay, .int f_cureWhich, .long f_hash])), (a_text, .inl (cC, 60, .inl f_text))]) [0, 1] rfl
        have hDc := hD.sub (ws' := [(a_this, .inr (4, [.int f_thrown, .ref a_s, .ref a_then, .ref a_past, .int f_saved, .ref a_text, .int f_length, .int f_counted, .int f_due, .ref a_met, .ref a_table, .ref a_ways, .ref a_waysOf, .ref a_into, .int f_meets, .int f_isTold, .int f_rests, .int f_leastRest, .int f_mostRest, .int f_isWheel, .int f_ended, .int v5.2.1, .ref a_orders, .int f_ordered, .int f_cureAmount, .int f_cureRelay, .int f_cureWhich, .long f_hash])), (a_text, .inl (cC, 60, .inl f_text))]) [0, 1] (by decide) rfl
        have hFc := va_free (wc := [(a_this, .inr (4, [.int f_thrown, .ref a_s, .ref a_then, .ref a_past, .int f_saved, .ref a_text, .int f_length, .int f_counted, .int f_due, .ref a_met, .ref a_table, .ref a_ways, .ref a_waysOf, .ref a_into, .int f_meets, .int f_isTold, .int f_rests, .int f_leastRest, .int f_mostRest, .int f_isWheel, .int f_ended, .int v5.2.1, .ref a_orders, .int f_ordered, .int f_cureAmount, .int f_cureRelay, .int f_cureWhich, .long f_hash])), (a_text, .inl (cC, 60, .inl f_text))]) hD hS hA [0, 1] rfl
        refine zc_wi (va_runV (C := RX4) (As := [.int (58 : Int32)]) (rest := []) ⟨hx, hb, hml, hown, hts⟩ (c_X4_takes l D cI cC cO cJ fu a_this a_s a_then a_past a_text a_met a_table a_ways a_waysOf a_into a_orders _ f_thrown f_saved f_length f_counted f_due f_meets f_isTold f_rests f_leastRest f_mostRest f_isWheel f_ended v5.2.1 f_ordered f_cureAmount f_cureRelay f_cureWhich f_hash f_text (58 : Int32) v7 hv7) (cwV 1 hts gX4_readsOrder_X4_takes rfl rfl rfl (by decide +kernel) ⟨Nat.le_of_ble_eq_true rfl, Nat.le_of_ble_eq_true rfl⟩) ⟨zPw_blind, (va_recv hK hP (q0 := 0) (ci := 4) rfl rfl), zPw_pre hK hPc hDc⟩ rfl rfl hl.1 rfl (lv_room (Nat.le_of_ble_eq_true rfl)) dX4_readsOrder_61 ⟨Nat.zero_le _, Nat.zero_le _⟩) hS hFc (fun H locs hk1 hP1 hS => ?_)
        obtain ⟨hP, hD⟩ := zjn (ws' := [(a_this, .inr (4, [.int f_thrown, .ref a_s, .ref a_then, .ref a_past, .int f_saved, .ref a_text, .int f_length, .int f_counted, .int f_due, .ref a_met, .ref a_table, .ref a_ways, .ref a_waysOf, .ref a_into, .int f_meets, .int f_isTold, .int f_rests, .int f_leastRest, .int f_mostRest, .int f_isWheel, .int f_ended, .int v7.2, .ref a_orders, .int f_ordered, .int f_cureAmount, .int f_cureRelay, .int f_cureWhich, .long f_hash])), (a_text, .inl (cC, 60, .inl f_text)), (a_orders, .inl (cI, 176, .inl v5.2.2))]) hP hD [0, 1] [.inr 0, .inr 1, .inl 2] rfl rfl rfl hk1 hP1
        refine lv_if_eq (tgt := 81) hx hb dX4_readsOrder_64 (by decide) (fun c8 => ?_) (fun c8 => ?_)
        · have h := zif_t c8 h
          refine lv_iconst (v := (0 : Int32)) hx hb dX4_readsOrder_81 (by decide) ?_
          have hR := Option.some.inj h
          subst hR
          exact W.zret (v := (0 : Int32)) (ty := .boolean) hx hb hr rfl (fun t ht hW => ⟨⟨_, (), rfl, rfl, zhp ht hP⟩, hS.F ht⟩) hS.2.2 dX4_readsOrder_82
        · have h := zif_f c8 h
          refine lv_aload_n hx hb dX4_readsOrder_67 rfl (lv_at hl 0 rfl) ?_
          refine lv_iconst (v := (2 : Int32)) hx hb dX4_readsOrder_68 (by decide) ?_
          refine lv_bipush (v := (57 : Int32)) hx hb dX4_readsOrder_69 (by decide) ?_
          obtain ⟨v9, hv9, h⟩ := zbnd h
          have hFc := va_free (wc := [(a_this, .inr (4, [.int f_thrown, .ref a_s, .ref a_then, .ref a_past, .int f_saved, .ref a_text, .int f_length, .int f_counted, .int f_due, .ref a_met, .ref a_table, .ref a_ways, .ref a_waysOf, .ref a_into, .int f_meets, .int f_isTold, .int f_rests, .int f_leastRest, .int f_mostRest, .int f_isWheel, .int f_ended, .int v7.2, .ref a_orders, .int f_ordered, .int f_cureAmount, .int f_cureRelay, .int f_cureWhich, .long f_hash])), (a_text, .inl (cC, 60, .inl f_text)), (a_orders, .inl (cI, 176, .inl v5.2.2))]) hD hS hA [0, 1, 2] rfl
          refine zc_wi (va_runV (C := RX4) (As := [.int (2 : Int32), .int (57 : Int32)]) (rest := []) ⟨hx, hb, hml, hown, hts⟩ (c_X4_readsDigit l D cI cC cO cJ fu a_this a_s a_then a_past a_text a_met a_table a_ways a_waysOf a_into a_orders _ f_thrown f_saved f_length f_counted f_due f_meets f_isTold f_rests f_leastRest f_mostRest f_isWheel f_ended v7.2 f_ordered f_cureAmount f_cureRelay f_cureWhich f_hash f_text v5.2.2 (2 : Int32) (57 : Int32) v9 hv9) (cwV 2 hts gX4_readsOrder_X4_readsDigit rfl rfl rfl (by decide +kernel) ⟨Nat.le_of_ble_eq_true rfl, Nat.le_of_ble_eq_true rfl⟩) ⟨zPw_blind, (va_recv hK hP (q0 := 0) (ci := 4) rfl rfl), zPw_pre hK hP hD⟩ rfl rfl hl.1 rfl (lv_room (Nat.le_of_ble_eq_true rfl)) dX4_readsOrder_71 ⟨Nat.zero_le _, Nat.zero_le _⟩) hS hFc (fun H locs hk1 hP1 hS => ?_)
          obtain ⟨hP, hD⟩ := zjn (ws' := [(a_this, .inr (4, [.int f_thrown, .ref a_s, .ref a_then, .ref a_past, .int f_saved, .ref a_text, .int f_length, .int f_counted, .int f_due, .ref a_met, .ref a_table, .ref a_ways, .ref a_waysOf, .ref a_into, .int f_meets, .int f_isTold, .int f_rests, .int f_leastRest, .int f_mostRest, .int f_isWheel, .int f_ended, .int v9.2.1, .ref a_orders, .int f_ordered, .int f_cureAmount, .int f_cureRelay, .int f_cureWhich, .long f_hash])), (a_text, .inl (cC, 60, .inl f_text)), (a_orders, .inl (cI, 176, .inl v9.2.2))]) hP hD [0, 1, 2] [.inr 0, .inr 1, .inr 2] rfl rfl rfl hk1 hP1
          refine lv_if_eq (tgt := 81) hx hb dX4_readsOrder_74 (by decide) (fun c10 => ?_) (fun c10 => ?_)
          · have h := zif_t c10 h
            refine lv_iconst (v := (0 : Int32)) hx hb dX4_readsOrder_81 (by decide) ?_
            have hR := Option.some.inj h
            subst hR
            exact W.zret (v := (0 : Int32)) (ty := .boolean) hx hb hr rfl (fun t ht hW => ⟨⟨_, (), rfl, rfl, zhp ht hP⟩, hS.F ht⟩) hS.2.2 dX4_readsOrder_82
          · have h := zif_f c10 h
            refine lv_iconst (v := (1 : Int32)) hx hb dX4_readsOrder_77 (by decide) ?_
            refine lv_goto (tgt := 82) hx hb dX4_readsOrder_78 (by decide) ?_
            have hR := Option.some.inj h
            subst hR
            exact W.zret (v := (1 : Int32)) (ty := .boolean) hx hb hr rfl (fun t ht hW => ⟨⟨_, (), rfl, rfl, zhp ht hP⟩, hS.F ht⟩) hS.2.2 dX4_readsOrder_82
    refine lv_if_eq (tgt := 45) hx hb dX4_readsOrder_37 (by decide) (fun c11 => ?_) (fun c11 => ?_)
    · have h := zif_t c11 h
      refine lv_bipush (v := (118 : Int32)) hx hb dX4_readsOrder_45 (by decide) ?_
      exact J47 (118 : Int32) h _ _ hP hD hS ls (lv_sub hl [0, 1] rfl)
    · have h := zif_f c11 h
      refine lv_bipush (v := (117 : Int32)) hx hb dX4_readsOrder_40 (by decide) ?_
      refine lv_goto (tgt := 47) hx hb dX4_readsOrder_42 (by decide) ?_
      exact J47 (117 : Int32) h _ _ hP hD hS ls (lv_sub hl [0, 1] rfl)
  refine lv_if_ne (tgt := 25) hx hb dX4_readsOrder_8 (by decide) (fun c12 => ?_) (fun c12 => ?_)
  · have h := zif_f c12 h
    exact J25 v1.2 h _ _ hP hD hS ls (lv_sub hl [1, 0] rfl)
  · have h := zif_t c12 h
    refine lv_aload_n hx hb dX4_readsOrder_11 rfl (lv_at hl 1 rfl) ?_
    refine lv_bipush (v := (118 : Int32)) hx hb dX4_readsOrder_12 (by decide) ?_
    obtain ⟨v13, hv13, h⟩ := zbnd h
    have hPc := hP.sub (ws' := [(a_this, .inr (4, [.int f_thrown, .ref a_s, .ref a_then, .ref a_past, .int f_saved, .ref a_text, .int f_length, .int f_counted, .int f_due, .ref a_met, .ref a_table, .ref a_ways, .ref a_waysOf, .ref a_into, .int f_meets, .int f_isTold, .int f_rests, .int f_leastRest, .int f_mostRest, .int f_isWheel, .int f_ended, .int v1.2, .ref a_orders, .int f_ordered, .int f_cureAmount, .int f_cureRelay, .int f_cureWhich, .long f_hash])), (a_text, .inl (cC, 60, .inl f_text))]) [0, 1] rfl
    have hDc := hD.sub (ws' := [(a_this, .inr (4, [.int f_thrown, .ref a_s, .ref a_then, .ref a_past, .int f_saved, .ref a_text, .int f_length, .int f_counted, .int f_due, .ref a_met, .ref a_table, .ref a_ways, .ref a_waysOf, .ref a_into, .int f_meets, .int f_isTold, .int f_rests, .int f_leastRest, .int f_mostRest, .int f_isWheel, .int f_ended, .int v1.2, .ref a_orders, .int f_ordered, .int f_cureAmount, .int f_cureRelay, .int f_cureWhich, .long f_hash])), (a_text, .inl (cC, 60, .inl f_text))]) [0, 1] (by decide) rfl
    have hFc := va_free (wc := [(a_this, .inr (4, [.int f_thrown, .ref a_s, .ref a_then, .ref a_past, .int f_saved, .ref a_text, .int f_length, .int f_counted, .int f_due, .ref a_met, .ref a_table, .ref a_ways, .ref a_waysOf, .ref a_into, .int f_meets, .int f_isTold, .int f_rests, .int f_leastRest, .int f_mostRest, .int f_isWheel, .int f_ended, .int v1.2, .ref a_orders, .int f_ordered, .int f_cureAmount, .int f_cureRelay, .int f_cureWhich, .long f_hash])), (a_text, .inl (cC, 60, .inl f_text))]) hD hS hA [0, 1] rfl
    refine zc_wi (va_runV (C := RX4) (As := [.int (118 : Int32)]) (rest := []) ⟨hx, hb, hml, hown, hts⟩ (c_X4_takes l D cI cC cO cJ fu a_this a_s a_then a_past a_text a_met a_table a_ways a_waysOf a_into a_orders _ f_thrown f_saved f_length f_counted f_due f_meets f_isTold f_rests f_leastRest f_mostRest f_isWheel f_ended v1.2 f_ordered f_cureAmount f_cureRelay f_cureWhich f_hash f_text (118 : Int32) v13 hv13) (cwV 1 hts gX4_readsOrder_X4_takes rfl rfl rfl (by decide +kernel) ⟨Nat.le_of_ble_eq_true rfl, Nat.le_of_ble_eq_true rfl⟩) ⟨zPw_blind, (va_recv hK hP (q0 := 0) (ci := 4) rfl rfl), zPw_pre hK hPc hDc⟩ rfl rfl hl.1 rfl (lv_room (Nat.le_of_ble_eq_true rfl)) dX4_readsOrder_14 ⟨Nat.zero_le _, Nat.zero_le _⟩) hS hFc (fun H locs hk1 hP1 hS => ?_)
    obtain ⟨hP, hD⟩ := zjn (ws' := [(a_this, .inr (4, [.int f_thrown, .ref a_s, .ref a_then, .ref a_past, .int f_saved, .ref a_text, .int f_length, .int f_counted, .int f_due, .ref a_met, .ref a_table, .ref a_ways, .ref a_waysOf, .ref a_into, .int f_meets, .int f_isTold, .int f_rests, .int f_leastRest, .int f_mostRest, .int f_isWheel, .int f_ended, .int v13.2, .ref a_orders, .int f_ordered, .int f_cureAmount, .int f_cureRelay, .int f_cureWhich, .long f_hash])), (a_text, .inl (cC, 60, .inl f_text)), (a_orders, .inl (cI, 176, .inl f_orders))]) hP hD [0, 1] [.inr 0, .inr 1, .inl 2] rfl rfl rfl hk1 hP1
    refine lv_if_ne (tgt := 25) hx hb dX4_readsOrder_17 (by decide) (fun c14 => ?_) (fun c14 => ?_)
    · have h := zif_f c14 h
      exact J25 v13.2 h _ _ hP hD hS ls (lv_sub hl [1, 0] rfl)
    · have h := zif_t c14 h
      refine lv_aload_n hx hb dX4_readsOrder_20 rfl (lv_at hl 1 rfl) ?_
      obtain ⟨v15, hv15, h⟩ := zbnd h
      have hFc := va_free (wc := [(a_this, .inr (4, [.int f_thrown, .ref a_s, .ref a_then, .ref a_past, .int f_saved, .ref a_text, .int f_length, .int f_counted, .int f_due, .ref a_met, .ref a_table, .ref a_ways, .ref a_waysOf, .ref a_into, .int f_meets, .int f_isTold, .int f_rests, .int f_leastRest, .int f_mostRest, .int f_isWheel, .int f_ended, .int v13.2, .ref a_orders, .int f_ordered, .int f_cureAmount, .int f_cureRelay, .int f_cureWhich, .long f_hash])), (a_text, .inl (cC, 60, .inl f_text)), (a_orders, .inl (cI, 176, .inl f_orders))]) hD hS hA [0, 1, 2] rfl
      refine zc_wi (va_runV (C := RX4) (As := []) (rest := []) ⟨hx, hb, hml, hown, hts⟩ (c_X4_readsRung l D cI cC cO cJ fu a_this a_s a_then a_past a_text a_met a_table a_ways a_waysOf a_into a_orders _ f_thrown f_saved f_length f_counted f_due f_meets f_isTold f_rests f_leastRest f_mostRest f_isWheel f_ended v13.2 f_ordered f_cureAmount f_cureRelay f_cureWhich f_hash f_text f_orders v15 hv15) (cwV 0 hts gX4_readsOrder_X4_readsRung rfl rfl rfl (by decide +kernel) ⟨Nat.le_of_ble_eq_true rfl, Nat.le_of_ble_eq_true rfl⟩) ⟨zPw_blind, (va_recv hK hP (q0 := 0) (ci := 4) rfl rfl), zPw_pre hK hP hD⟩ rfl rfl hl.1 rfl (lv_room (Nat.le_of_ble_eq_true rfl)) dX4_readsOrder_21 ⟨Nat.zero_le _, Nat.zero_le _⟩) hS hFc (fun H locs hk1 hP1 hS => ?_)
      obtain ⟨hP, hD⟩ := zjn (ws' := [(a_this, .inr (4, [.int f_thrown, .ref a_s, .ref a_then, .ref a_past, .int f_saved, .ref a_text, .int f_length, .int f_counted, .int f_due, .ref a_met, .ref a_table, .ref a_ways, .ref a_waysOf, .ref a_into, .int f_meets, .int f_isTold, .int f_rests, .int f_leastRest, .int f_mostRest, .int f_isWheel, .int f_ended, .int v15.2.1, .ref a_orders, .int f_ordered, .int f_cureAmount, .int f_cureRelay, .int f_cureWhich, .long f_hash])), (a_text, .inl (cC, 60, .inl f_text)), (a_orders, .inl (cI, 176, .inl v15.2.2))]) hP hD [0, 1, 2] [.inr 0, .inr 1, .inr 2] rfl rfl rfl hk1 hP1
      obtain ⟨v16, hbv16, h⟩ := zbnd h
      obtain ⟨hbv16, hev16⟩ := zbo_some hbv16
      rw [hev16]
      have hR := Option.some.inj h
      subst hR
      exact W.zret (v := v16) (ty := .boolean) hx hb hr (by rcases hbv16 with q | q <;> rw [q] <;> rfl) (fun t ht hW => ⟨⟨_, (), rfl, rfl, zhp ht hP⟩, hS.F ht⟩) hS.2.2 dX4_readsOrder_24
def F_X4_isText_E45 (f_length : Int32) (v1 : Int32) (v2 : Int32) (v3 : Int32) (v4 : Nat → Int32) : Option (Int32 × Int32 × Int32 × (Nat → Int32)) := if v2 = f_length then some ((1 : Int32), v2, v3, v4) else some ((0 : Int32), v2, v3, v4)
def F_X4_isText_L12 (fu : Nat) (f_length : Int32) (f_text : Nat → Int32) (k12 : Int32 → Int32 → Int32 → (Nat → Int32) → Option (Int32 × Int32 × Int32 × (Nat → Int32))) (rec12 : Int32 → Int32 → Int32 → (Nat → Int32) → Option (Int32 × Int32 × Int32 × (Nat → Int32))) (v6 : Int32) (v7 : Int32) (v8 : Int32) (v9 : Nat → Int32) : Option (Int32 × Int32 × Int32 × (Nat → Int32)) := if v6 = (0 : Int32) then k12 v6 v7 v8 v9 else (F_X4_readsOrder fu f_length v7 v8 f_text v9).bind fun v11 => if v11.1 = (0 : Int32) then some ((0 : Int32), v11.2.1, v8, v11.2.2) else (F_X4_takes fu f_length v11.2.1 f_text (59 : Int32)).bind fun v13 => rec12 v13.1 v13.2 (v8 + (1 : Int32)) v11.2.2
def F_X4_isText (fu : Nat) (f_length : Int32) (f_spot : Int32) (f_ordered : Int32) (f_text : Nat → Int32) (f_orders : Nat → Int32) : Option (Int32 × Int32 × Int32 × (Nat → Int32)) := zlp4 (F_X4_isText_L12 fu f_length f_text (F_X4_isText_E45 f_length)) fu (1 : Int32) (0 : Int32) (0 : Int32) f_orders
set_option maxHeartbeats 4000000 in
set_option maxRecDepth 100000 in
theorem c_X4_isText (l : Launch) (D : va_G) (cI cC cO cJ : ClassId) (fu : Nat) (a_this a_s a_then a_past a_text a_met a_table a_ways a_waysOf a_into a_orders : Nat) (sz : Nat) (f_thrown : Int32) (f_saved : Int32) (f_length : Int32) (f_counted : Int32) (f_due : Int32) (f_meets : Int32) (f_isTold : Int32) (f_rests : Int32) (f_leastRest : Int32) (f_mostRest : Int32) (f_isWheel : Int32) (f_ended : Int32) (f_spot : Int32) (f_ordered : Int32) (f_cureAmount : Int32) (f_cureRelay : Int32) (f_cureWhich : Int32) (f_hash : Int64) (f_text : Nat → Int32) (f_orders : Nat → Int32) (R : Int32 × Int32 × Int32 × (Nat → Int32)) (h : F_X4_isText fu f_length f_spot f_ordered f_text f_orders = some R) : Met l yX4_isText wsX4_isText ({ frames := 6, cells := 0, slots := 0, locals := 134 } : Room) (zPw D (ztys cI cC cO cJ) [(a_this, .inr (4, [.int f_thrown, .ref a_s, .ref a_then, .ref a_past, .int f_saved, .ref a_text, .int f_length, .int f_counted, .int f_due, .ref a_met, .ref a_table, .ref a_ways, .ref a_waysOf, .ref a_into, .int f_meets, .int f_isTold, .int f_rests, .int f_leastRest, .int f_mostRest, .int f_isWheel, .int f_ended, .int f_spot, .ref a_orders, .int f_ordered, .int f_cureAmount, .int f_cureRelay, .int f_cureWhich, .long f_hash])), (a_text, .inl (cC, 60, .inl f_text)), (a_orders, .inl (cI, 176, .inl f_orders))] sz [.ref a_this]) (zWi D R.1 [(a_this, .inr (4, [.int f_thrown, .ref a_s, .ref a_then, .ref a_past, .int f_saved, .ref a_text, .int f_length, .int f_counted, .int f_due, .ref a_met, .ref a_table, .ref a_ways, .ref a_waysOf, .ref a_into, .int f_meets, .int f_isTold, .int f_rests, .int f_leastRest, .int f_mostRest, .int f_isWheel, .int f_ended, .int R.2.1, .ref a_orders, .int R.2.2.1, .int f_cureAmount, .int f_cureRelay, .int f_cureWhich, .long f_hash])), (a_text, .inl (cC, 60, .inl f_text)), (a_orders, .inl (cI, 176, .inl R.2.2.2))] (va_A [(a_this, .inr (4, [.int f_thrown, .ref a_s, .ref a_then, .ref a_past, .int f_saved, .ref a_text, .int f_length, .int f_counted, .int f_due, .ref a_met, .ref a_table, .ref a_ways, .ref a_waysOf, .ref a_into, .int f_meets, .int f_isTold, .int f_rests, .int f_leastRest, .int f_mostRest, .int f_isWheel, .int f_ended, .int f_spot, .ref a_orders, .int f_ordered, .int f_cureAmount, .int f_cureRelay, .int f_cureWhich, .long f_hash])), (a_text, .inl (cC, 60, .inl f_text)), (a_orders, .inl (cI, 176, .inl f_orders))] sz)) 0 0 (va_A [(a_this, .inr (4, [.int f_thrown, .ref a_s, .ref a_then, .ref a_past, .int f_saved, .ref a_text, .int f_length, .int f_counted, .int f_due, .ref a_met, .ref a_table, .ref a_ways, .ref a_waysOf, .ref a_into, .int f_meets, .int f_isTold, .int f_rests, .int f_leastRest, .int f_mostRest, .int f_isWheel, .int f_ended, .int f_spot, .ref a_orders, .int f_ordered, .int f_cureAmount, .int f_cureRelay, .int f_cureWhich, .long f_hash])), (a_text, .inl (cC, 60, .inl f_text)), (a_orders, .inl (cI, 176, .inl f_orders))] sz) := by
  refine Met.ofW (cc := cX4_isText) (maxL := 2) (ret := (some .boolean)) (by decide) rfl ?_
  intro p e s m args below meth c s₁ B hml hv
  obtain ⟨rfl, hsz, hP, hK, hD0⟩ := hv
  have hx := B.exec
  have hb := B.bytes
  have hr := B.returns
  have hts := atoms_spec (ws := wsX4_isText) B.pre
  have hown : s.vm.findClass RX4 = some m.cls := findClass_of_methodNamed B.named
  have hlocks := B.notSynchronized
  have hinX4 : ∀ w ∈ wsX40, w ∈ wsX4_isText := fun _ h => (List.mem_cons_of_mem _ (List.mem_append_right _ h))
  subst hsz
  have hD := hD0.self (sz := s.heap.size)
  generalize hAe : va_A [(a_this, .inr (4, [.int f_thrown, .ref a_s, .ref a_then, .ref a_past, .int f_saved, .ref a_text, .int f_length, .int f_counted, .int f_due, .ref a_met, .ref a_table, .ref a_ways, .ref a_waysOf, .ref a_into, .int f_meets, .int f_isTold, .int f_rests, .int f_leastRest, .int f_mostRest, .int f_isWheel, .int f_ended, .int f_spot, .ref a_orders, .int f_ordered, .int f_cureAmount, .int f_cureRelay, .int f_cureWhich, .long f_hash])), (a_text, .inl (cC, 60, .inl f_text)), (a_orders, .inl (cI, 176, .inl f_orders))] s.heap.size = A at hD ⊢
  have hA : ∀ q : Nat, s.heap.size ≤ q → A q := fun q h => by rw [← hAe]; exact Or.inr h
  have hS : va_S A s.heap s.heap [] := va_S.rf
  have hP : va_P D vwCl [(a_this, .inr (4, [.int f_thrown, .ref a_s, .ref a_then, .ref a_past, .int f_saved, .ref a_text, .int f_length, .int f_counted, .int f_due, .ref a_met, .ref a_table, .ref a_ways, .ref a_waysOf, .ref a_into, .int f_meets, .int f_isTold, .int f_rests, .int f_leastRest, .int f_mostRest, .int f_isWheel, .int f_ended, .int f_spot, .ref a_orders, .int f_ordered, .int f_cureAmount, .int f_cureRelay, .int f_cureWhich, .long f_hash])), (a_text, .inl (cC, 60, .inl f_text)), (a_orders, .inl (cI, 176, .inl f_orders))] s.heap := hP
  have hK : va_K D vwCl (ztys cI cC cO cJ) s := hK
  have hl := lv_entry ([.ref a_this]) (n := 2) (Nat.le_of_ble_eq_true rfl)
  rw [lg_entry_eq]
  generalize (lg_sl ([.ref a_this]) ++ List.replicate (2 - (lg_sl ([.ref a_this])).length) Slot.unset).toArray = ls at hl ⊢
  have hl : lv_has ls 2 [(0, .ref a_this)] := hl
  unfold F_X4_isText at h
  refine lv_aload_n hx hb dX4_isText_0 rfl (lv_at hl 0 rfl) ?_
  refine lv_iconst (v := (0 : Int32)) hx hb dX4_isText_1 (by decide) ?_
  refine va_put (D := D) (ci := 4) (v := .int (0 : Int32)) (ty := .int) (C := RX4) (T := TX4) (N := 28) hx hb hts hinX4 tyX4 tyX4_ok nmX4 hown hK hP hD hS 0 rfl rfl 21 (by decide) (hts (Cond.fieldLink RX4 179 "LadderRelaysModel" "spot" "I") (List.mem_of_getElem? (i := 1) rfl)) (fun _ h9 => h9) rfl (by decide +kernel) rfl rfl (Nat.le_of_ble_eq_true rfl) dX4_isText_2 (fun H locs hP hD hS => ?_)
  have hP : va_P D vwCl [(a_this, .inr (4, [.int f_thrown, .ref a_s, .ref a_then, .ref a_past, .int f_saved, .ref a_text, .int f_length, .int f_counted, .int f_due, .ref a_met, .ref a_table, .ref a_ways, .ref a_waysOf, .ref a_into, .int f_meets, .int f_isTold, .int f_rests, .int f_leastRest, .int f_mostRest, .int f_isWheel, .int f_ended, .int (0 : Int32), .ref a_orders, .int f_ordered, .int f_cureAmount, .int f_cureRelay, .int f_cureWhich, .long f_hash])), (a_text, .inl (cC, 60, .inl f_text)), (a_orders, .inl (cI, 176, .inl f_orders))] H := hP
  have hD : va_D A [(a_this, .inr (4, [.int f_thrown, .ref a_s, .ref a_then, .ref a_past, .int f_saved, .ref a_text, .int f_length, .int f_counted, .int f_due, .ref a_met, .ref a_table, .ref a_ways, .ref a_waysOf, .ref a_into, .int f_meets, .int f_isTold, .int f_rests, .int f_leastRest, .int f_mostRest, .int f_isWheel, .int f_ended, .int (0 : Int32), .ref a_orders, .int f_ordered, .int f_cureAmount, .int f_cureRelay, .int f_cureWhich, .long f_hash])), (a_text, .inl (cC, 60, .inl f_text)), (a_orders, .inl (cI, 176, .inl f_orders))] := hD
  refine lv_aload_n hx hb dX4_isText_5 rfl (lv_at hl 0 rfl) ?_
  refine lv_iconst (v := (0 : Int32)) hx hb dX4_isText_6 (by decide) ?_
  refine va_put (D := D) (ci := 4) (v := .int (0 : Int32)) (ty := .int) (C := RX4) (T := TX4) (N := 28) hx hb hts hinX4 tyX4 tyX4_ok nmX4 hown hK hP hD hS 0 rfl rfl 23 (by decide) (hts (Cond.fieldLink RX4 186 "LadderRelaysModel" "ordered" "I") (List.mem_of_getElem? (i := 2) rfl)) (fun _ h9 => h9) rfl (by decide +kernel) rfl rfl (Nat.le_of_ble_eq_true rfl) dX4_isText_7 (fun H locs hP hD hS => ?_)
  have hP : va_P D vwCl [(a_this, .inr (4, [.int f_thrown, .ref a_s, .ref a_then, .ref a_past, .int f_saved, .ref a_text, .int f_length, .int f_counted, .int f_due, .ref a_met, .ref a_table, .ref a_ways, .ref a_waysOf, .ref a_into, .int f_meets, .int f_isTold, .int f_rests, .int f_leastRest, .int f_mostRest, .int f_isWheel, .int f_ended, .int (0 : Int32), .ref a_orders, .int (0 : Int32), .int f_cureAmount, .int f_cureRelay, .int f_cureWhich, .long f_hash])), (a_text, .inl (cC, 60, .inl f_text)), (a_orders, .inl (cI, 176, .inl f_orders))] H := hP
  have hD : va_D A [(a_this, .inr (4, [.int f_thrown, .ref a_s, .ref a_then, .ref a_past, .int f_saved, .ref a_text, .int f_length, .int f_counted, .int f_due, .ref a_met, .ref a_table, .ref a_ways, .ref a_waysOf, .ref a_into, .int f_meets, .int f_isTold, .int f_rests, .int f_leastRest, .int f_mostRest, .int f_isWheel, .int f_ended, .int (0 : Int32), .ref a_orders, .int (0 : Int32), .int f_cureAmount, .int f_cureRelay, .int f_cureWhich, .long f_hash])), (a_text, .inl (cC, 60, .inl f_text)), (a_orders, .inl (cI, 176, .inl f_orders))] := hD
  refine lv_iconst (v := (1 : Int32)) hx hb dX4_isText_10 (by decide) ?_
  refine lv_istore_n (lv' := [(1, .int (1 : Int32)), (0, .ref a_this)]) hx hb dX4_isText_11 rfl hl (by decide) rfl (fun ls hl => ?_)
  have E45 : ∀ (v1 : Int32) (v2 : Int32) (v3 : Int32) (v4 : Nat → Int32), F_X4_isText_E45 f_length v1 v2 v3 v4 = some R → ∀ (H : Heap) (locs : List Loc), va_P D vwCl [(a_this, .inr (4, [.int f_thrown, .ref a_s, .ref a_then, .ref a_past, .int f_saved, .ref a_text, .int f_length, .int f_counted, .int f_due, .ref a_met, .ref a_table, .ref a_ways, .ref a_waysOf, .ref a_into, .int f_meets, .int f_isTold, .int f_rests, .int f_leastRest, .int f_mostRest, .int f_isWheel, .int f_ended, .int v2, .ref a_orders, .int v3, .int f_cureAmount, .int f_cureRelay, .int f_cureWhich, .long f_hash])), (a_text, .inl (cC, 60, .inl f_text)), (a_orders, .inl (cI, 176, .inl v4))] H → va_D A [(a_this, .inr (4, [.int f_thrown, .ref a_s, .ref a_then, .ref a_past, .int f_saved, .ref a_text, .int f_length, .int f_counted, .int f_due, .ref a_met, .ref a_table, .ref a_ways, .ref a_waysOf, .ref a_into, .int f_meets, .int f_isTold, .int f_rests, .int f_leastRest, .int f_mostRest, .int f_isWheel, .int f_ended, .int v2, .ref a_orders, .int v3, .int f_cureAmount, .int f_cureRelay, .int f_cureWhich, .long f_hash])), (a_text, .inl (cC, 60, .inl f_text)), (a_orders, .inl (cI, 176, .inl v4))] → va_S A s.heap H locs → ∀ ls : Array Slot, lv_has ls 2 [(0, .ref a_this), (1, .int v1)] → W p l e ({ frames := 6, cells := 0, slots := 0, locals := 134 } : Room) s m (([.ref a_this] : List Value).toArray) below meth c H locs 0 0 (MQ below (zWi D R.1 [(a_this, .inr (4, [.int f_thrown, .ref a_s, .ref a_then, .ref a_past, .int f_saved, .ref a_text, .int f_length, .int f_counted, .int f_due, .ref a_met, .ref a_table, .ref a_ways, .ref a_waysOf, .ref a_into, .int f_meets, .int f_isTold, .int f_rests, .int f_leastRest, .int f_mostRest, .int f_isWheel, .int f_ended, .int R.2.1, .ref a_orders, .int R.2.2.1, .int f_cureAmount, .int f_cureRelay, .int f_cureWhich, .long f_hash])), (a_text, .inl (cC, 60, .inl f_text)), (a_orders, .inl (cI, 176, .inl R.2.2.2))] A) (([.ref a_this] : List Value).toArray) s 0 0 A) (F0 m 45 ls []) := by
    intro v1 v2 v3 v4 h H locs hP hD hS ls hl
    unfold F_X4_isText_E45 at h
    refine lv_aload_n hx hb dX4_isText_45 rfl (lv_at hl 0 rfl) ?_
    refine va_get (D := D) (ci := 4) (v := .int v2) (C := RX4) (T := TX4) (N := 28) hx hb hts hinX4 hown hK hP 0 rfl rfl 21 (by decide) (hts (Cond.fieldLink RX4 179 "LadderRelaysModel" "spot" "I") (List.mem_of_getElem? (i := 1) rfl)) (fun _ h9 => h9) rfl dX4_isText_46 ?_
    refine lv_aload_n hx hb dX4_isText_49 rfl (lv_at hl 0 rfl) ?_
    refine va_get (D := D) (ci := 4) (v := .int f_length) (C := RX4) (T := TX4) (N := 28) hx hb hts hinX4 hown hK hP 0 rfl rfl 6 (by decide) (hts (Cond.fieldLink RX4 176 "LadderRelaysModel" "length" "I") (List.mem_of_getElem? (i := 3) rfl)) (fun _ h9 => h9) rfl dX4_isText_50 ?_
    refine lv_icmp_ne (tgt := 60) hx hb dX4_isText_53 (by decide) (fun c5 => ?_) (fun c5 => ?_)
    · have h := zif_f c5 h
      refine lv_iconst (v := (0 : Int32)) hx hb dX4_isText_60 (by decide) ?_
      have hR := Option.some.inj h
      subst hR
      exact W.zret (v := (0 : Int32)) (ty := .boolean) hx hb hr rfl (fun t ht hW => ⟨⟨_, (), rfl, rfl, zhp ht hP⟩, hS.F ht⟩) hS.2.2 dX4_isText_61
    · have h := zif_t c5 h
      refine lv_iconst (v := (1 : Int32)) hx hb dX4_isText_56 (by decide) ?_
      refine lv_goto (tgt := 61) hx hb dX4_isText_57 (by decide) ?_
      have hR := Option.some.inj h
      subst hR
      exact W.zret (v := (1 : Int32)) (ty := .boolean) hx hb hr rfl (fun t ht hW => ⟨⟨_, (), rfl, rfl, zhp ht hP⟩, hS.F ht⟩) hS.2.2 dX4_isText_61
  refine zlp_i4 (R := R) (P := fun (v6 : Int32) (v7 : Int32) (v8 : Int32) (v9 : Nat → Int32) => ∀ (H : Heap) (locs : List Loc), va_P D vwCl [(a_this, .inr (4, [.int f_thrown, .ref a_s, .ref a_then, .ref a_past, .int f_saved, .ref a_text, .int f_length, .int f_counted, .int f_due, .ref a_met, .ref a_table, .ref a_ways, .ref a_waysOf, .ref a_into, .int f_meets, .int f_isTold, .int f_rests, .int f_leastRest, .int f_mostRest, .int f_isWheel, .int f_ended, .int v7, .ref a_orders, .int v8, .int f_cureAmount, .int f_cureRelay, .int f_cureWhich, .long f_hash])), (a_text, .inl (cC, 60, .inl f_text)), (a_orders, .inl (cI, 176, .inl v9))] H → va_D A [(a_this, .inr (4, [.int f_thrown, .ref a_s, .ref a_then, .ref a_past, .int f_saved, .ref a_text, .int f_length, .int f_counted, .int f_due, .ref a_met, .ref a_table, .ref a_ways, .ref a_waysOf, .ref a_into, .int f_meets, .int f_isTold, .int f_rests, .int f_leastRest, .int f_mostRest, .int f_isWheel, .int f_ended, .int v7, .ref a_orders, .int v8, .int f_cureAmount, .int f_cureRelay, .int f_cureWhich, .long f_hash])), (a_text, .inl (cC, 60, .inl f_text)), (a_orders, .inl (cI, 176, .inl v9))] → va_S A s.heap H locs → ∀ ls : Array Slot, lv_has ls 2 [(0, .ref a_this), (1, .int v6)] → W p l e ({ frames := 6, cells := 0, slots := 0, locals := 134 } : Room) s m (([.ref a_this] : List Value).toArray) below meth c H locs 0 0 (MQ below (zWi D R.1 [(a_this, .inr (4, [.int f_thrown, .ref a_s, .ref a_then, .ref a_past, .int f_saved, .ref a_text, .int f_length, .int f_counted, .int f_due, .ref a_met, .ref a_table, .ref a_ways, .ref a_waysOf, .ref a_into, .int f_meets, .int f_isTold, .int f_rests, .int f_leastRest, .int f_mostRest, .int f_isWheel, .int f_ended, .int R.2.1, .ref a_orders, .int R.2.2.1, .int f_cureAmount, .int f_cureRelay, .int f_cureWhich, .long f_hash])), (a_text, .inl (cC, 60, .inl f_text)), (a_orders, .inl (cI, 176, .inl R.2.2.2))] A) (([.ref a_this] : List Value).toArray) s 0 0 A) (F0 m 12 ls [])) (fun rec12 ih12 v6 v7 v8 v9 h => ?_) fu (1 : Int32) (0 : Int32) (0 : Int32) f_orders h _ _ hP hD hS ls (lv_sub hl [1, 0] rfl)
  intro H locs hP hD hS ls hl
  unfold F_X4_isText_L12 at h
  refine lv_iload_n hx hb dX4_isText_12 rfl (lv_at hl 1 rfl) ?_
  refine lv_if_eq (tgt := 45) hx hb dX4_isText_13 (by decide) (fun c10 => ?_) (fun c10 => ?_)
  · have h := zif_t c10 h
    exact E45 v6 v7 v8 v9 h _ _ hP hD hS ls (lv_sub hl [0, 1] rfl)
  · have h := zif_f c10 h
    refine lv_aload_n hx hb dX4_isText_16 rfl (lv_at hl 0 rfl) ?_
    obtain ⟨v11, hv11, h⟩ := zbnd h
    have hFc := va_free (wc := [(a_this, .inr (4, [.int f_thrown, .ref a_s, .ref a_then, .ref a_past, .int f_saved, .ref a_text, .int f_length, .int f_counted, .int f_due, .ref a_met, .ref a_table, .ref a_ways, .ref a_waysOf, .ref a_into, .int f_meets, .int f_isTold, .int f_rests, .int f_leastRest, .int f_mostRest, .int f_isWheel, .int f_ended, .int v7, .ref a_orders, .int v8, .int f_cureAmount, .int f_cureRelay, .int f_cureWhich, .long f_hash])), (a_text, .inl (cC, 60, .inl f_text)), (a_orders, .inl (cI, 176, .inl v9))]) hD hS hA [0, 1, 2] rfl
    refine zc_wi (va_runV (C := RX4) (As := []) (rest := []) ⟨hx, hb, hml, hown, hts⟩ (c_X4_readsOrder l D cI cC cO cJ fu a_this a_s a_then a_past a_text a_met a_table a_ways a_waysOf a_into a_orders _ f_thrown f_saved f_length f_counted f_due f_meets f_isTold f_rests f_leastRest f_mostRest f_isWheel f_ended v7 v8 f_cureAmount f_cureRelay f_cureWhich f_hash f_text v9 v11 hv11) (cwV 0 hts gX4_isText_X4_readsOrder rfl rfl rfl (by decide +kernel) ⟨Nat.le_of_ble_eq_true rfl, Nat.le_of_ble_eq_true rfl⟩) ⟨zPw_blind, (va_recv hK hP (q0 := 0) (ci := 4) rfl rfl), zPw_pre hK hP hD⟩ rfl rfl hl.1 rfl (lv_room (Nat.le_of_ble_eq_true rfl)) dX4_isText_17 ⟨Nat.zero_le _, Nat.zero_le _⟩) hS hFc (fun H locs hk1 hP1 hS => ?_)
    obtain ⟨hP, hD⟩ := zjn (ws' := [(a_this, .inr (4, [.int f_thrown, .ref a_s, .ref a_then, .ref a_past, .int f_saved, .ref a_text, .int f_length, .int f_counted, .int f_due, .ref a_met, .ref a_table, .ref a_ways, .ref a_waysOf, .ref a_into, .int f_meets, .int f_isTold, .int f_rests, .int f_leastRest, .int f_mostRest, .int f_isWheel, .int f_ended, .int v11.2.1, .ref a_orders, .int v8, .int f_cureAmount, .int f_cureRelay, .int f_cureWhich, .long f_hash])), (a_text, .inl (cC, 60, .inl f_text)), (a_orders, .inl (cI, 176, .inl v11.2.2))]) hP hD [0, 1, 2] [.inr 0, .inr 1, .inr 2] rfl rfl rfl hk1 hP1
    refine lv_if_ne (tgt := 25) hx hb dX4_isText_20 (by decide) (fun c12 => ?_) (fun c12 => ?_)
    · have h := zif_f c12 h
      refine lv_aload_n hx hb dX4_isText_25 rfl (lv_at hl 0 rfl) ?_
      refine lv_dup hx hb dX4_isText_26 rfl ?_
      refine va_get (D := D) (ci := 4) (v := .int v8) (C := RX4) (T := TX4) (N := 28) hx hb hts hinX4 hown hK hP 0 rfl rfl 23 (by decide) (hts (Cond.fieldLink RX4 186 "LadderRelaysModel" "ordered" "I") (List.mem_of_getElem? (i := 2) rfl)) (fun _ h9 => h9) rfl dX4_isText_27 ?_
      refine lv_iconst (v := (1 : Int32)) hx hb dX4_isText_30 (by decide) ?_
      refine lv_iadd hx hb dX4_isText_31 ?_
      refine va_put (D := D) (ci := 4) (v := .int (v8 + (1 : Int32))) (ty := .int) (C := RX4) (T := TX4) (N := 28) hx hb hts hinX4 tyX4 tyX4_ok nmX4 hown hK hP hD hS 0 rfl rfl 23 (by decide) (hts (Cond.fieldLink RX4 186 "LadderRelaysModel" "ordered" "I") (List.mem_of_getElem? (i := 2) rfl)) (fun _ h9 => h9) rfl (by decide +kernel) rfl rfl (Nat.le_of_ble_eq_true rfl) dX4_isText_32 (fun H locs hP hD hS => ?_)
      have hP : va_P D vwCl [(a_this, .inr (4, [.int f_thrown, .ref a_s, .ref a_then, .ref a_past, .int f_saved, .ref a_text, .int f_length, .int f_counted, .int f_due, .ref a_met, .ref a_table, .ref a_ways, .ref a_waysOf, .ref a_into, .int f_meets, .int f_isTold, .int f_rests, .int f_leastRest, .int f_mostRest, .int f_isWheel, .int f_ended, .int v11.2.1, .ref a_orders, .int (v8 + (1 : Int32)), .int f_cureAmount, .int f_cureRelay, .int f_cureWhich, .long f_hash])), (a_text, .inl (cC, 60, .inl f_text)), (a_orders, .inl (cI, 176, .inl v11.2.2))] H := hP
      have hD : va_D A [(a_this, .inr (4, [.int f_thrown, .ref a_s, .ref a_then, .ref a_past, .int f_saved, .ref a_text, .int f_length, .int f_counted, .int f_due, .ref a_met, .ref a_table, .ref a_ways, .ref a_waysOf, .ref a_into, .int f_meets, .int f_isTold, .int f_rests, .int f_leastRest, .int f_mostRest, .int f_isWheel, .int f_ended, .int v11.2.1, .ref a_orders, .int (v8 + (1 : Int32)), .int f_cureAmount, .int f_cureRelay, .int f_cureWhich, .long f_hash])), (a_text, .inl (cC, 60, .inl f_text)), (a_orders, .inl (cI, 176, .inl v11.2.2))] := hD
      refine lv_aload_n hx hb dX4_isText_35 rfl (lv_at hl 0 rfl) ?_
      refine lv_bipush (v := (59 : Int32)) hx hb dX4_isText_36 (by decide) ?_
      obtain ⟨v13, hv13, h⟩ := zbnd h
      have hPc := hP.sub (ws' := [(a_this, .inr (4, [.int f_thrown, .ref a_s, .ref a_then, .ref a_past, .int f_saved, .ref a_text, .int f_length, .int f_counted, .int f_due, .ref a_met, .ref a_table, .ref a_ways, .ref a_waysOf, .ref a_into, .int f_meets, .int f_isTold, .int f_rests, .int f_leastRest, .int f_mostRest, .int f_isWheel, .int f_ended, .int v11.2.1, .ref a_orders, .int (v8 + (1 : Int32)), .int f_cureAmount, .int f_cureRelay, .int f_cureWhich, .long f_hash])), (a_text, .inl (cC, 60, .inl f_text))]) [0, 1] rfl
      have hDc := hD.sub (ws' := [(a_this, .inr (4, [.int f_thrown, .ref a_s, .ref a_then, .ref a_past, .int f_saved, .ref a_text, .int f_length, .int f_counted, .int f_due, .ref a_met, .ref a_table, .ref a_ways, .ref a_waysOf, .ref a_into, .int f_meets, .int f_isTold, .int f_rests, .int f_leastRest, .int f_mostRest, .int f_isWheel, .int f_ended, .int v11.2.1, .ref a_orders, .int (v8 + (1 : Int32)), .int f_cureAmount, .int f_cureRelay, .int f_cureWhich, .long f_hash])), (a_text, .inl (cC, 60, .inl f_text))]) [0, 1] (by decide) rfl
      have hFc := va_free (wc := [(a_this, .inr (4, [.int f_thrown, .ref a_s, .ref a_then, .ref a_past, .int f_saved, .ref a_text, .int f_length, .int f_counted, .int f_due, .ref a_met, .ref a_table, .ref a_ways, .ref a_waysOf, .ref a_into, .int f_meets, .int f_isTold, .int f_rests, .int f_leastRest, .int f_mostRest, .int f_isWheel, .int f_ended, .int v11.2.1, .ref a_orders, .int (v8 + (1 : Int32)), .int f_cureAmount, .int f_cureRelay, .int f_cureWhich, .long f_hash])), (a_text, .inl (cC, 60, .inl f_text))]) hD hS hA [0, 1] rfl
      refine zc_wi (va_runV (C := RX4) (As := [.int (59 : Int32)]) (rest := []) ⟨hx, hb, hml, hown, hts⟩ (c_X4_takes l D cI cC cO cJ fu a_this a_s a_then a_past a_text a_met a_table a_ways a_waysOf a_into a_orders _ f_thrown f_saved f_length f_counted f_due f_meets f_isTold f_rests f_leastRest f_mostRest f_isWheel f_ended v11.2.1 (v8 + (1 : Int32)) f_cureAmount f_cureRelay f_cureWhich f_hash f_text (59 : Int32) v13 hv13) (cwV 1 hts gX4_isText_X4_takes rfl rfl rfl (by decide +kernel) ⟨Nat.le_of_ble_eq_true rfl, Nat.le_of_ble_eq_true rfl⟩) ⟨zPw_blind, (va_recv hK hP (q0 := 0) (ci := 4) rfl rfl), zPw_pre hK hPc hDc⟩ rfl rfl hl.1 rfl (lv_room (Nat.le_of_ble_eq_true rfl)) dX4_isText_38 ⟨Nat.zero_le _, Nat.zero_le _⟩) hS hFc (fun H locs hk1 hP1 hS => ?_)
      obtain ⟨hP, hD⟩ := zjn (ws' := [(a_this, .inr (4, [.int f_thrown, .ref a_s, .ref a_then, .ref a_past, .int f_saved, .ref a_text, .int f_length, .int f_counted, .int f_due, .ref a_met, .ref a_table, .ref a_ways, .ref a_waysOf, .ref a_into, .int f_meets, .int f_isTold, .int f_rests, .int f_leastRest, .int f_mostRest, .int f_isWheel, .int f_ended, .int v13.2, .ref a_orders, .int (v8 + (1 : Int32)), .int f_cureAmount, .int f_cureRelay, .int f_cureWhich, .long f_hash])), (a_text, .inl (cC, 60, .inl f_text)), (a_orders, .inl (cI, 176, .inl v11.2.2))]) hP hD [0, 1] [.inr 0, .inr 1, .inl 2] rfl rfl rfl hk1 hP1
      refine lv_istore_n (lv' := [(1, .int v13.1), (0, .ref a_this)]) hx hb dX4_isText_41 rfl hl (by decide) rfl (fun ls hl => ?_)
      refine lv_goto (tgt := 12) hx hb dX4_isText_42 (by decide) ?_
      exact ih12 v13.1 v13.2 (v8 + (1 : Int32)) v11.2.2 h _ _ hP hD hS ls (lv_sub hl [1, 0] rfl)
    · have h := zif_t c12 h
      refine lv_iconst (v := (0 : Int32)) hx hb dX4_isText_23 (by decide) ?_
      have hR := Option.some.inj h
      subst hR
      exact W.zret (v := (0 : Int32)) (ty := .boolean) hx hb hr rfl (fun t ht hW => ⟨⟨_, (), rfl, rfl, zhp ht hP⟩, hS.F ht⟩) hS.2.2 dX4_isText_24
def F_X4_firstError (fu : Nat) (f_thrown : Int32) (f_length : Int32) (f_spot : Int32) (f_ordered : Int32) (f_text : Nat → Int32) (f_orders : Nat → Int32) : Option (Int32 × Int32 × Int32 × Int32 × (Nat → Int32)) := (F_X4_isText fu f_length f_spot f_ordered f_text f_orders).bind fun v1 => if v1.1 = (0 : Int32) then some (v1.2.1, (0 : Int32), v1.2.1, v1.2.2.1, v1.2.2.2) else some (f_length, (0 : Int32), v1.2.1, v1.2.2.1, v1.2.2.2)
set_option maxHeartbeats 4000000 in
set_option maxRecDepth 100000 in
theorem c_X4_firstError (l : Launch) (D : va_G) (cI cC cO cJ : ClassId) (fu : Nat) (a_this a_s a_then a_past a_text a_met a_table a_ways a_waysOf a_into a_orders : Nat) (sz : Nat) (f_thrown : Int32) (f_saved : Int32) (f_length : Int32) (f_counted : Int32) (f_due : Int32) (f_meets : Int32) (f_isTold : Int32) (f_rests : Int32) (f_leastRest : Int32) (f_mostRest : Int32) (f_isWheel : Int32) (f_ended : Int32) (f_spot : Int32) (f_ordered : Int32) (f_cureAmount : Int32) (f_cureRelay : Int32) (f_cureWhich : Int32) (f_hash : Int64) (f_text : Nat → Int32) (f_orders : Nat → Int32) (R : Int32 × Int32 × Int32 × Int32 × (Nat → Int32)) (h : F_X4_firstError fu f_thrown f_length f_spot f_ordered f_text f_orders = some R) : Met l yX4_firstError wsX4_firstError ({ frames := 7, cells := 0, slots := 0, locals := 155 } : Room) (zPw D (ztys cI cC cO cJ) [(a_this, .inr (4, [.int f_thrown, .ref a_s, .ref a_then, .ref a_past, .int f_saved, .ref a_text, .int f_length, .int f_counted, .int f_due, .ref a_met, .ref a_table, .ref a_ways, .ref a_waysOf, .ref a_into, .int f_meets, .int f_isTold, .int f_rests, .int f_leastRest, .int f_mostRest, .int f_isWheel, .int f_ended, .int f_spot, .ref a_orders, .int f_ordered, .int f_cureAmount, .int f_cureRelay, .int f_cureWhich, .long f_hash])), (a_text, .inl (cC, 60, .inl f_text)), (a_orders, .inl (cI, 176, .inl f_orders))] sz [.ref a_this]) (zWi D R.1 [(a_this, .inr (4, [.int R.2.1, .ref a_s, .ref a_then, .ref a_past, .int f_saved, .ref a_text, .int f_length, .int f_counted, .int f_due, .ref a_met, .ref a_table, .ref a_ways, .ref a_waysOf, .ref a_into, .int f_meets, .int f_isTold, .int f_rests, .int f_leastRest, .int f_mostRest, .int f_isWheel, .int f_ended, .int R.2.2.1, .ref a_orders, .int R.2.2.2.1, .int f_cureAmount, .int f_cureRelay, .int f_cureWhich, .long f_hash])), (a_text, .inl (cC, 60, .inl f_text)), (a_orders, .inl (cI, 176, .inl R.2.2.2.2))] (va_A [(a_this, .inr (4, [.int f_thrown, .ref a_s, .ref a_then, .ref a_past, .int f_saved, .ref a_text, .int f_length, .int f_counted, .int f_due, .ref a_met, .ref a_table, .ref a_ways, .ref a_waysOf, .ref a_into, .int f_meets, .int f_isTold, .int f_rests, .int f_leastRest, .int f_mostRest, .int f_isWheel, .int f_ended, .int f_spot, .ref a_orders, .int f_ordered, .int f_cureAmount, .int f_cureRelay, .int f_cureWhich, .long f_hash])), (a_text, .inl (cC, 60, .inl f_text)), (a_orders, .inl (cI, 176, .inl f_orders))] sz)) 0 0 (va_A [(a_this, .inr (4, [.int f_thrown, .ref a_s, .ref a_then, .ref a_past, .int f_saved, .ref a_text, .int f_length, .int f_counted, .int f_due, .ref a_met, .ref a_table, .ref a_ways, .ref a_waysOf, .ref a_into, .int f_meets, .int f_isTold, .int f_rests, .int f_leastRest, .int f_mostRest, .int f_isWheel, .int f_ended, .int f_spot, .ref a_orders, .int f_ordered, .int f_cureAmount, .int f_cureRelay, .int f_cureWhich, .long f_hash])), (a_text, .inl (cC, 60, .inl f_text)), (a_orders, .inl (cI, 176, .inl f_orders))] sz) := by
  refine Met.ofW (cc := cX4_firstError) (maxL := 2) (ret := (some .int)) (by decide) rfl ?_
  intro p e s m args below meth c s₁ B hml hv
  obtain ⟨rfl, hsz, hP, hK, hD0⟩ := hv
  have hx := B.exec
  have hb := B.bytes
  have hr := B.returns
  have hts := atoms_spec (ws := wsX4_firstError) B.pre
  have hown : s.vm.findClass RX4 = some m.cls := findClass_of_methodNamed B.named
  have hlocks := B.notSynchronized
  have hinX4 : ∀ w ∈ wsX40, w ∈ wsX4_firstError := fun _ h => (List.mem_cons_of_mem _ (List.mem_append_right _ h))
  subst hsz
  have hD := hD0.self (sz := s.heap.size)
  generalize hAe : va_A [(a_this, .inr (4, [.int f_thrown, .ref a_s, .ref a_then, .ref a_past, .int f_saved, .ref a_text, .int f_length, .int f_counted, .int f_due, .ref a_met, .ref a_table, .ref a_ways, .ref a_waysOf, .ref a_into, .int f_meets, .int f_isTold, .int f_rests, .int f_leastRest, .int f_mostRest, .int f_isWheel, .int f_ended, .int f_spot, .ref a_orders, .int f_ordered, .int f_cureAmount, .int f_cureRelay, .int f_cureWhich, .long f_hash])), (a_text, .inl (cC, 60, .inl f_text)), (a_orders, .inl (cI, 176, .inl f_orders))] s.heap.size = A at hD ⊢
  have hA : ∀ q : Nat, s.heap.size ≤ q → A q := fun q h => by rw [← hAe]; exact Or.inr h
  have hS : va_S A s.heap s.heap [] := va_S.rf
  have hP : va_P D vwCl [(a_this, .inr (4, [.int f_thrown, .ref a_s, .ref a_then, .ref a_past, .int f_saved, .ref a_text, .int f_length, .int f_counted, .int f_due, .ref a_met, .ref a_table, .ref a_ways, .ref a_waysOf, .ref a_into, .int f_meets, .int f_isTold, .int f_rests, .int f_leastRest, .int f_mostRest, .int f_isWheel, .int f_ended, .int f_spot, .ref a_orders, .int f_ordered, .int f_cureAmount, .int f_cureRelay, .int f_cureWhich, .long f_hash])), (a_text, .inl (cC, 60, .inl f_text)), (a_orders, .inl (cI, 176, .inl f_orders))] s.heap := hP
  have hK : va_K D vwCl (ztys cI cC cO cJ) s := hK
  have hl := lv_entry ([.ref a_this]) (n := 2) (Nat.le_of_ble_eq_true rfl)
  rw [lg_entry_eq]
  generalize (lg_sl ([.ref a_this]) ++ List.replicate (2 - (lg_sl ([.ref a_this])).length) Slot.unset).toArray = ls at hl ⊢
  have hl : lv_has ls 2 [(0, .ref a_this)] := hl
  unfold F_X4_firstError at h
  refine lv_aload_n hx hb dX4_firstError_0 rfl (lv_at hl 0 rfl) ?_
  refine lv_iconst (v := (0 : Int32)) hx hb dX4_firstError_1 (by decide) ?_
  refine va_put (D := D) (ci := 4) (v := .int (0 : Int32)) (ty := .int) (C := RX4) (T := TX4) (N := 28) hx hb hts hinX4 tyX4 tyX4_ok nmX4 hown hK hP hD hS 0 rfl rfl 0 (by decide) (hts (Cond.fieldLink RX4 41 "LadderRelaysModel" "thrown" "I") (List.mem_of_getElem? (i := 1) rfl)) (fun _ h9 => h9) rfl (by decide +kernel) rfl rfl (Nat.le_of_ble_eq_true rfl) dX4_firstError_2 (fun H locs hP hD hS => ?_)
  have hP : va_P D vwCl [(a_this, .inr (4, [.int (0 : Int32), .ref a_s, .ref a_then, .ref a_past, .int f_saved, .ref a_text, .int f_length, .int f_counted, .int f_due, .ref a_met, .ref a_table, .ref a_ways, .ref a_waysOf, .ref a_into, .int f_meets, .int f_isTold, .int f_rests, .int f_leastRest, .int f_mostRest, .int f_isWheel, .int f_ended, .int f_spot, .ref a_orders, .int f_ordered, .int f_cureAmount, .int f_cureRelay, .int f_cureWhich, .long f_hash])), (a_text, .inl (cC, 60, .inl f_text)), (a_orders, .inl (cI, 176, .inl f_orders))] H := hP
  have hD : va_D A [(a_this, .inr (4, [.int (0 : Int32), .ref a_s, .ref a_then, .ref a_past, .int f_saved, .ref a_text, .int f_length, .int f_counted, .int f_due, .ref a_met, .ref a_table, .ref a_ways, .ref a_waysOf, .ref a_into, .int f_meets, .int f_isTold, .int f_rests, .int f_leastRest, .int f_mostRest, .int f_isWheel, .int f_ended, .int f_spot, .ref a_orders, .int f_ordered, .int f_cureAmount, .int f_cureRelay, .int f_cureWhich, .long f_hash])), (a_text, .inl (cC, 60, .inl f_text)), (a_orders, .inl (cI, 176, .inl f_orders))] := hD
  refine lv_aload_n hx hb dX4_firstError_5 rfl (lv_at hl 0 rfl) ?_
  obtain ⟨v1, hv1, h⟩ := zbnd h
  have hFc := va_free (wc := [(a_this, .inr (4, [.int (0 : Int32), .ref a_s, .ref a_then, .ref a_past, .int f_saved, .ref a_text, .int f_length, .int f_counted, .int f_due, .ref a_met, .ref a_table, .ref a_ways, .ref a_waysOf, .ref a_into, .int f_meets, .int f_isTold, .int f_rests, .int f_leastRest, .int f_mostRest, .int f_isWheel, .int f_ended, .int f_spot, .ref a_orders, .int f_ordered, .int f_cureAmount, .int f_cureRelay, .int f_cureWhich, .long f_hash])), (a_text, .inl (cC, 60, .inl f_text)), (a_orders, .inl (cI, 176, .inl f_orders))]) hD hS hA [0, 1, 2] rfl
  refine zc_wi (va_runV (C := RX4) (As := []) (rest := []) ⟨hx, hb, hml, hown, hts⟩ (c_X4_isText l D cI cC cO cJ fu a_this a_s a_then a_past a_text a_met a_table a_ways a_waysOf a_into a_orders _ (0 : Int32) f_saved f_length f_counted f_due f_meets f_isTold f_rests f_leastRest f_mostRest f_isWheel f_ended f_spot f_ordered f_cureAmount f_cureRelay f_cureWhich f_hash f_text f_orders v1 hv1) (cwV 0 hts gX4_firstError_X4_isText rfl rfl rfl (by decide +kernel) ⟨Nat.le_of_ble_eq_true rfl, Nat.le_of_ble_eq_true rfl⟩) ⟨zPw_blind, (va_recv hK hP (q0 := 0) (ci := 4) rfl rfl), zPw_pre hK hP hD⟩ rfl rfl hl.1 rfl (lv_room (Nat.le_of_ble_eq_true rfl)) dX4_firstError_6 ⟨Nat.zero_le _, Nat.zero_le _⟩) hS hFc (fun H locs hk1 hP1 hS => ?_)
  obtain ⟨hP, hD⟩ := zjn (ws' := [(a_this, .inr (4, [.int (0 : Int32), .ref a_s, .ref a_then, .ref a_past, .int f_saved, .ref a_text, .int f_length, .int f_counted, .int f_due, .ref a_met, .ref a_table, .ref a_ways, .ref a_waysOf, .ref a_into, .int f_meets, .int f_isTold, .int f_rests, .int f_leastRest, .int f_mostRest, .int f_isWheel, .int f_ended, .int v1.2.1, .ref a_orders, .int v1.2.2.1, .int f_cureAmount, .int f_cureRelay, .int f_cureWhich, .long f_hash])), (a_text, .inl (cC, 60, .inl f_text)), (a_orders, .inl (cI, 176, .inl v1.2.2.2))]) hP hD [0, 1, 2] [.inr 0, .inr 1, .inr 2] rfl rfl rfl hk1 hP1
  refine lv_istore_n (lv' := [(1, .int v1.1), (0, .ref a_this)]) hx hb dX4_firstError_9 rfl hl (by decide) rfl (fun ls hl => ?_)
  refine lv_iload_n hx hb dX4_firstError_10 rfl (lv_at hl 0 rfl) ?_
  refine lv_if_eq (tgt := 21) hx hb dX4_firstError_11 (by decide) (fun c2 => ?_) (fun c2 => ?_)
  · have h := zif_t c2 h
    refine lv_aload_n hx hb dX4_firstError_21 rfl (lv_at hl 1 rfl) ?_
    refine va_get (D := D) (ci := 4) (v := .int v1.2.1) (C := RX4) (T := TX4) (N := 28) hx hb hts hinX4 hown hK hP 0 rfl rfl 21 (by decide) (hts (Cond.fieldLink RX4 179 "LadderRelaysModel" "spot" "I") (List.mem_of_getElem? (i := 3) rfl)) (fun _ h9 => h9) rfl dX4_firstError_22 ?_
    have hR := Option.some.inj h
    subst hR
    exact W.iret (v := v1.2.1) hx hb hr (fun t ht hW => ⟨⟨_, (), rfl, rfl, zhp ht hP⟩, hS.F ht⟩) hS.2.2 dX4_firstError_25
  · have h := zif_f c2 h
    refine lv_aload_n hx hb dX4_firstError_14 rfl (lv_at hl 1 rfl) ?_
    refine va_get (D := D) (ci := 4) (v := .int f_length) (C := RX4) (T := TX4) (N := 28) hx hb hts hinX4 hown hK hP 0 rfl rfl 6 (by decide) (hts (Cond.fieldLink RX4 176 "LadderRelaysModel" "length" "I") (List.mem_of_getElem? (i := 2) rfl)) (fun _ h9 => h9) rfl dX4_firstError_15 ?_
    refine lv_goto (tgt := 25) hx hb dX4_firstError_18 (by decide) ?_
    have hR := Option.some.inj h
    subst hR
    exact W.iret (v := f_length) hx hb hr (fun t ht hW => ⟨⟨_, (), rfl, rfl, zhp ht hP⟩, hS.F ht⟩) hS.2.2 dX4_firstError_25
def F_X4_canDo_E73  (v3 : Int32) (v4 : Int32) : Option (Int32) := (zbo v3).bind fun v5 => some v5
def F_X4_canDo_L15 (fu : Nat) (f_orders : Nat → Int32) (f_s : Nat → Int32) (p0 : Int32) (k15 : Int32 → Int32 → Option (Int32)) (rec15 : Int32 → Int32 → Option (Int32)) (v6 : Int32) (v7 : Int32) : Option (Int32) := (zrd f_orders 176 (p0 + (2 : Int32))).bind fun v8 => if ((2 : Int32) * v8) ≤ v7 then k15 v6 v7 else (zrd f_orders 176 p0).bind fun v10 => if v10 = (61 : Int32) then if v6 = (0 : Int32) then rec15 (0 : Int32) (v7 + (1 : Int32)) else (zrd f_orders 176 ((p0 + (3 : Int32)) + v7)).bind fun v13 => (F_X4_areContacts fu f_s v13).bind fun v14 => if v14 = (0 : Int32) then rec15 (0 : Int32) (v7 + (1 : Int32)) else rec15 (1 : Int32) (v7 + (1 : Int32)) else k15 v6 v7
def F_X4_canDo (fu : Nat) (f_s : Nat → Int32) (f_orders : Nat → Int32) (p0 : Int32) : Option (Int32) := (zrd f_orders 176 (p0 + (1 : Int32))).bind fun v1 => (F_X4_isRelay fu f_s v1).bind fun v2 => zlp2 (F_X4_canDo_L15 fu f_orders f_s p0 (F_X4_canDo_E73)) fu v2 (0 : Int32)
set_option maxHeartbeats 4000000 in
set_option maxRecDepth 100000 in
theorem c_X4_canDo (l : Launch) (D : va_G) (cI cC cO cJ : ClassId) (fu : Nat) (a_this a_s a_then a_past a_text a_met a_table a_ways a_waysOf a_into a_orders : Nat) (f_thrown : Int32) (f_saved : Int32) (f_length : Int32) (f_counted : Int32) (f_due : Int32) (f_meets : Int32) (f_isTold : Int32) (f_rests : Int32) (f_leastRest : Int32) (f_mostRest : Int32) (f_isWheel : Int32) (f_ended : Int32) (f_spot : Int32) (f_ordered : Int32) (f_cureAmount : Int32) (f_cureRelay : Int32) (f_cureWhich : Int32) (f_hash : Int64) (f_s : Nat → Int32) (f_orders : Nat → Int32) (p0 : Int32) (R : Int32) (h : F_X4_canDo fu f_s f_orders p0 = some R) : Met l yX4_canDo wsX4_canDo ({ frames := 2, cells := 0, slots := 0, locals := 43 } : Room) (zPr D (ztys cI cC cO cJ) [(a_this, .inr (4, [.int f_thrown, .ref a_s, .ref a_then, .ref a_past, .int f_saved, .ref a_text, .int f_length, .int f_counted, .int f_due, .ref a_met, .ref a_table, .ref a_ways, .ref a_waysOf, .ref a_into, .int f_meets, .int f_isTold, .int f_rests, .int f_leastRest, .int f_mostRest, .int f_isWheel, .int f_ended, .int f_spot, .ref a_orders, .int f_ordered, .int f_cureAmount, .int f_cureRelay, .int f_cureWhich, .long f_hash])), (a_s, .inl (cI, 88, .inl f_s)), (a_orders, .inl (cI, 176, .inl f_orders))] [.ref a_this, .int p0]) (zQi R) 0 0 (fun _ => False) := by
  refine Met.ofW (cc := cX4_canDo) (maxL := 4) (ret := (some .boolean)) (by decide) rfl ?_
  intro p e s m args below meth c s₁ B hml hv
  obtain ⟨rfl, hP, hK⟩ := hv
  have hx := B.exec
  have hb := B.bytes
  have hr := B.returns
  have hts := atoms_spec (ws := wsX4_canDo) B.pre
  have hown : s.vm.findClass RX4 = some m.cls := findClass_of_methodNamed B.named
  have hlocks := B.notSynchronized
  have hinX4 : ∀ w ∈ wsX40, w ∈ wsX4_canDo := fun _ h => (List.mem_cons_of_mem _ (List.mem_append_right _ h))
  have hP : va_P D vwCl [(a_this, .inr (4, [.int f_thrown, .ref a_s, .ref a_then, .ref a_past, .int f_saved, .ref a_text, .int f_length, .int f_counted, .int f_due, .ref a_met, .ref a_table, .ref a_ways, .ref a_waysOf, .ref a_into, .int f_meets, .int f_isTold, .int f_rests, .int f_leastRest, .int f_mostRest, .int f_isWheel, .int f_ended, .int f_spot, .ref a_orders, .int f_ordered, .int f_cureAmount, .int f_cureRelay, .int f_cureWhich, .long f_hash])), (a_s, .inl (cI, 88, .inl f_s)), (a_orders, .inl (cI, 176, .inl f_orders))] s.heap := hP
  have hK : va_K D vwCl (ztys cI cC cO cJ) s := hK
  have hl := lv_entry ([.ref a_this, .int p0]) (n := 4) (Nat.le_of_ble_eq_true rfl)
  rw [lg_entry_eq]
  generalize (lg_sl ([.ref a_this, .int p0]) ++ List.replicate (4 - (lg_sl ([.ref a_this, .int p0])).length) Slot.unset).toArray = ls at hl ⊢
  have hl : lv_has ls 4 [(0, .ref a_this), (1, .int p0)] := hl
  unfold F_X4_canDo at h
  refine lv_aload_n hx hb dX4_canDo_0 rfl (lv_at hl 0 rfl) ?_
  refine lv_aload_n hx hb dX4_canDo_1 rfl (lv_at hl 0 rfl) ?_
  refine va_get (D := D) (ci := 4) (v := .ref a_orders) (C := RX4) (T := TX4) (N := 28) hx hb hts hinX4 hown hK hP 0 rfl rfl 22 (by decide) (hts (Cond.fieldLink RX4 38 "LadderRelaysModel" "orders" "[I") (List.mem_of_getElem? (i := 1) rfl)) (fun _ h9 => h9) rfl dX4_canDo_2 ?_
  refine lv_iload_n hx hb dX4_canDo_5 rfl (lv_at hl 1 rfl) ?_
  refine lv_iconst (v := (1 : Int32)) hx hb dX4_canDo_6 (by decide) ?_
  refine lv_iadd hx hb dX4_canDo_7 ?_
  obtain ⟨v1, hv1, h⟩ := zbnd h
  refine zr_iald hx hb hK hP 2 0 rfl rfl hv1 dX4_canDo_8 ?_
  obtain ⟨v2, hv2, h⟩ := zbnd h
  have hPc := hP.sub (ws' := [(a_this, .inr (4, [.int f_thrown, .ref a_s, .ref a_then, .ref a_past, .int f_saved, .ref a_text, .int f_length, .int f_counted, .int f_due, .ref a_met, .ref a_table, .ref a_ways, .ref a_waysOf, .ref a_into, .int f_meets, .int f_isTold, .int f_rests, .int f_leastRest, .int f_mostRest, .int f_isWheel, .int f_ended, .int f_spot, .ref a_orders, .int f_ordered, .int f_cureAmount, .int f_cureRelay, .int f_cureWhich, .long f_hash])), (a_s, .inl (cI, 88, .inl f_s))]) [0, 1] rfl
  refine zc_i (W.runV (C := RX4) (As := [.int v1]) (rest := []) ⟨hx, hb, hml, hown, hts⟩ (c_X4_isRelay l D cI cC cO cJ fu a_this a_s a_then a_past a_text a_met a_table a_ways a_waysOf a_into a_orders f_thrown f_saved f_length f_counted f_due f_meets f_isTold f_rests f_leastRest f_mostRest f_isWheel f_ended f_spot f_ordered f_cureAmount f_cureRelay f_cureWhich f_hash f_s v1 v2 hv2) (cwV 1 hts gX4_canDo_X4_isRelay rfl rfl rfl (by decide +kernel) ⟨Nat.le_of_ble_eq_true rfl, Nat.le_of_ble_eq_true rfl⟩) ⟨zPr_blind, (va_recv hK hP (q0 := 0) (ci := 4) rfl rfl), zPr_pre hK hPc⟩ rfl rfl hl.1 rfl (lv_room (Nat.le_of_ble_eq_true rfl)) dX4_canDo_9 ⟨Nat.zero_le _, Nat.zero_le _⟩) ?_
  refine lv_istore_n (lv' := [(2, .int v2), (0, .ref a_this), (1, .int p0)]) hx hb dX4_canDo_12 rfl hl (by decide) rfl (fun ls hl => ?_)
  refine lv_iconst (v := (0 : Int32)) hx hb dX4_canDo_13 (by decide) ?_
  refine lv_istore_n (lv' := [(3, .int (0 : Int32)), (2, .int v2), (0, .ref a_this), (1, .int p0)]) hx hb dX4_canDo_14 rfl hl (by decide) rfl (fun ls hl => ?_)
  have E73 : ∀ (v3 : Int32) (v4 : Int32), F_X4_canDo_E73 v3 v4 = some R → ∀ ls : Array Slot, lv_has ls 4 [(0, .ref a_this), (1, .int p0), (2, .int v3), (3, .int v4)] → W p l e ({ frames := 2, cells := 0, slots := 0, locals := 43 } : Room) s m (([.ref a_this, .int p0] : List Value).toArray) below meth c s.heap [] 0 0 (MQ below (zQi R) (([.ref a_this, .int p0] : List Value).toArray) s 0 0 (fun _ => False)) (F0 m 73 ls []) := by
    intro v3 v4 h ls hl
    unfold F_X4_canDo_E73 at h
    refine lv_iload_n hx hb dX4_canDo_73 rfl (lv_at hl 2 rfl) ?_
    obtain ⟨v5, hbv5, h⟩ := zbnd h
    obtain ⟨hbv5, hev5⟩ := zbo_some hbv5
    rw [hev5]
    have hR := Option.some.inj h
    subst hR
    exact W.zret (v := v5) (ty := .boolean) hx hb hr (by rcases hbv5 with q | q <;> rw [q] <;> rfl) (fun t ht hW => ⟨_, rfl, rfl, ht⟩) (fun q hq => absurd hq List.not_mem_nil) dX4_canDo_74
  refine zlp_i2 (R := R) (P := fun (v6 : Int32) (v7 : Int32) => ∀ ls : Array Slot, lv_has ls 4 [(0, .ref a_this), (1, .int p0), (2, .int v6), (3, .int v7)] → W p l e ({ frames := 2, cells := 0, slots := 0, locals := 43 } : Room) s m (([.ref a_this, .int p0] : List Value).toArray) below meth c s.heap [] 0 0 (MQ below (zQi R) (([.ref a_this, .int p0] : List Value).toArray) s 0 0 (fun _ => False)) (F0 m 15 ls [])) (fun rec15 ih15 v6 v7 h => ?_) fu v2 (0 : Int32) h ls (lv_sub hl [2, 3, 1, 0] rfl)
  intro ls hl
  unfold F_X4_canDo_L15 at h
  refine lv_iload_n hx hb dX4_canDo_15 rfl (lv_at hl 3 rfl) ?_
  refine lv_iconst (v := (2 : Int32)) hx hb dX4_canDo_16 (by decide) ?_
  refine lv_aload_n hx hb dX4_canDo_17 rfl (lv_at hl 0 rfl) ?_
  refine va_get (D := D) (ci := 4) (v := .ref a_orders) (C := RX4) (T := TX4) (N := 28) hx hb hts hinX4 hown hK hP 0 rfl rfl 22 (by decide) (hts (Cond.fieldLink RX4 38 "LadderRelaysModel" "orders" "[I") (List.mem_of_getElem? (i := 1) rfl)) (fun _ h9 => h9) rfl dX4_canDo_18 ?_
  refine lv_iload_n hx hb dX4_canDo_21 rfl (lv_at hl 1 rfl) ?_
  refine lv_iconst (v := (2 : Int32)) hx hb dX4_canDo_22 (by decide) ?_
  refine lv_iadd hx hb dX4_canDo_23 ?_
  obtain ⟨v8, hv8, h⟩ := zbnd h
  refine zr_iald hx hb hK hP 2 0 rfl rfl hv8 dX4_canDo_24 ?_
  refine lv_imul hx hb dX4_canDo_25 ?_
  refine lv_icmp_ge (tgt := 73) hx hb dX4_canDo_26 (by decide) (fun c9 => ?_) (fun c9 => ?_)
  · have h := zif_t c9 h
    exact E73 v6 v7 h ls (lv_sub hl [0, 1, 2, 3] rfl)
  · have h := zif_f c9 h
    refine lv_aload_n hx hb dX4_canDo_29 rfl (lv_at hl 0 rfl) ?_
    refine va_get (D := D) (ci := 4) (v := .ref a_orders) (C := RX4) (T := TX4) (N := 28) hx hb hts hinX4 hown hK hP 0 rfl rfl 22 (by decide) (hts (Cond.fieldLink RX4 38 "LadderRelaysModel" "orders" "[I") (List.mem_of_getElem? (i := 1) rfl)) (fun _ h9 => h9) rfl dX4_canDo_30 ?_
    refine lv_iload_n hx hb dX4_canDo_33 rfl (lv_at hl 1 rfl) ?_
    obtain ⟨v10, hv10, h⟩ := zbnd h
    refine zr_iald hx hb hK hP 2 0 rfl rfl hv10 dX4_canDo_34 ?_
    refine lv_bipush (v := (61 : Int32)) hx hb dX4_canDo_35 (by decide) ?_
    refine lv_icmp_ne (tgt := 73) hx hb dX4_canDo_37 (by decide) (fun c11 => ?_) (fun c11 => ?_)
    · have h := zif_f c11 h
      exact E73 v6 v7 h ls (lv_sub hl [0, 1, 2, 3] rfl)
    · have h := zif_t c11 h
      refine lv_iload_n hx hb dX4_canDo_40 rfl (lv_at hl 2 rfl) ?_
      refine lv_if_eq (tgt := 65) hx hb dX4_canDo_41 (by decide) (fun c12 => ?_) (fun c12 => ?_)
      · have h := zif_t c12 h
        refine lv_iconst (v := (0 : Int32)) hx hb dX4_canDo_65 (by decide) ?_
        refine lv_istore_n (lv' := [(2, .int (0 : Int32)), (0, .ref a_this), (1, .int p0), (3, .int v7)]) hx hb dX4_canDo_66 rfl hl (by decide) rfl (fun ls hl => ?_)
        refine lv_iinc (v := (v7 + (1 : Int32))) (lv' := [(3, .int (v7 + (1 : Int32))), (2, .int (0 : Int32)), (0, .ref a_this), (1, .int p0)]) hx hb dX4_canDo_67 hl (k := 3) rfl rfl (by decide) rfl (fun ls hl => ?_)
        refine lv_goto (tgt := 15) hx hb dX4_canDo_70 (by decide) ?_
        exact ih15 (0 : Int32) (v7 + (1 : Int32)) h ls (lv_sub hl [2, 3, 1, 0] rfl)
      · have h := zif_f c12 h
        refine lv_aload_n hx hb dX4_canDo_44 rfl (lv_at hl 0 rfl) ?_
        refine lv_aload_n hx hb dX4_canDo_45 rfl (lv_at hl 0 rfl) ?_
        refine va_get (D := D) (ci := 4) (v := .ref a_orders) (C := RX4) (T := TX4) (N := 28) hx hb hts hinX4 hown hK hP 0 rfl rfl 22 (by decide) (hts (Cond.fieldLink RX4 38 "LadderRelaysModel" "orders" "[I") (List.mem_of_getElem? (i := 1) rfl)) (fun _ h9 => h9) rfl dX4_canDo_46 ?_
        refine lv_iload_n hx hb dX4_canDo_49 rfl (lv_at hl 1 rfl) ?_
        refine lv_iconst (v := (3 : Int32)) hx hb dX4_canDo_50 (by decide) ?_
        refine lv_iadd hx hb dX4_canDo_51 ?_
        refine lv_iload_n hx hb dX4_canDo_52 rfl (lv_at hl 3 rfl) ?_
        refine lv_iadd hx hb dX4_canDo_53 ?_
        obtain ⟨v13, hv13, h⟩ := zbnd h
        refine zr_iald hx hb hK hP 2 0 rfl rfl hv13 dX4_canDo_54 ?_
        obtain ⟨v14, hv14, h⟩ := zbnd h
        have hPc := hP.sub (ws' := [(a_this, .inr (4, [.int f_thrown, .ref a_s, .ref a_then, .ref a_past, .int f_saved, .ref a_text, .int f_length, .int f_counted, .int f_due, .ref a_met, .ref a_table, .ref a_ways, .ref a_waysOf, .ref a_into, .int f_meets, .int f_isTold, .int f_rests, .int f_leastRest, .int f_mostRest, .int f_isWheel, .int f_ended, .int f_spot, .ref a_orders, .int f_ordered, .int f_cureAmount, .int f_cureRelay, .int f_cureWhich, .long f_hash])), (a_s, .inl (cI, 88, .inl f_s))]) [0, 1] rfl
        refine zc_i (W.runV (C := RX4) (As := [.int v13]) (rest := []) ⟨hx, hb, hml, hown, hts⟩ (c_X4_areContacts l D cI cC cO cJ fu a_this a_s a_then a_past a_text a_met a_table a_ways a_waysOf a_into a_orders f_thrown f_saved f_length f_counted f_due f_meets f_isTold f_rests f_leastRest f_mostRest f_isWheel f_ended f_spot f_ordered f_cureAmount f_cureRelay f_cureWhich f_hash f_s v13 v14 hv14) (cwV 1 hts gX4_canDo_X4_areContacts rfl rfl rfl (by decide +kernel) ⟨Nat.le_of_ble_eq_true rfl, Nat.le_of_ble_eq_true rfl⟩) ⟨zPr_blind, (va_recv hK hP (q0 := 0) (ci := 4) rfl rfl), zPr_pre hK hPc⟩ rfl rfl hl.1 rfl (lv_room (Nat.le_of_ble_eq_true rfl)) dX4_canDo_55 ⟨Nat.zero_le _, Nat.zero_le _⟩) ?_
        refine lv_if_eq (tgt := 65) hx hb dX4_canDo_58 (by decide) (fun c15 => ?_) (fun c15 => ?_)
        · have h := zif_t c15 h
          refine lv_iconst (v := (0 : Int32)) hx hb dX4_canDo_65 (by decide) ?_
          refine lv_istore_n (lv' := [(2, .int (0 : Int32)), (0, .ref a_this), (1, .int p0), (3, .int v7)]) hx hb dX4_canDo_66 rfl hl (by decide) rfl (fun ls hl => ?_)
          refine lv_iinc (v := (v7 + (1 : Int32))) (lv' := [(3, .int (v7 + (1 : Int32))), (2, .int (0 : Int32)), (0, .ref a_this), (1, .int p0)]) hx hb dX4_canDo_67 hl (k := 3) rfl rfl (by decide) rfl (fun ls hl => ?_)
          refine lv_goto (tgt := 15) hx hb dX4_canDo_70 (by decide) ?_
          exact ih15 (0 : Int32) (v7 + (1 : Int32)) h ls (lv_sub hl [2, 3, 1, 0] rfl)
        · have h := zif_f c15 h
          refine lv_iconst (v := (1 : Int32)) hx hb dX4_canDo_61 (by decide) ?_
          refine lv_goto (tgt := 66) hx hb dX4_canDo_62 (by decide) ?_
          refine lv_istore_n (lv' := [(2, .int (1 : Int32)), (0, .ref a_this), (1, .int p0), (3, .int v7)]) hx hb dX4_canDo_66 rfl hl (by decide) rfl (fun ls hl => ?_)
          refine lv_iinc (v := (v7 + (1 : Int32))) (lv' := [(3, .int (v7 + (1 : Int32))), (2, .int (1 : Int32)), (0, .ref a_this), (1, .int p0)]) hx hb dX4_canDo_67 hl (k := 3) rfl rfl (by decide) rfl (fun ls hl => ?_)
          refine lv_goto (tgt := 15) hx hb dX4_canDo_70 (by decide) ?_
          exact ih15 (1 : Int32) (v7 + (1 : Int32)) h ls (lv_sub hl [2, 3, 1, 0] rfl)
def F_X4_does_E113  (v5 : Int32) (v6 : Int32) (v7 : Nat → Int32) : Option ((Nat → Int32)) := some v7
def F_X4_does_L62 (fu : Nat) (f_orders : Nat → Int32) (p0 : Int32) (v1 : Int32) (k62 : Int32 → Int32 → (Nat → Int32) → Option ((Nat → Int32))) (rec62 : Int32 → Int32 → (Nat → Int32) → Option ((Nat → Int32))) (v8 : Int32) (v9 : Int32) (v10 : Nat → Int32) : Option ((Nat → Int32)) := (zrd f_orders 176 (p0 + (2 : Int32))).bind fun v11 => if v11 ≤ v9 then k62 v8 v9 v10 else (zrd f_orders 176 ((p0 + (3 : Int32)) + ((2 : Int32) * v9))).bind fun v13 => (zrd f_orders 176 ((p0 + (4 : Int32)) + ((2 : Int32) * v9))).bind fun v14 => (F_X4_lays fu v10 v1 v13 v14).bind fun v15 => rec62 v15.1 (v9 + (1 : Int32)) v15.2
def F_X4_does_J41 (fu : Nat) (f_orders : Nat → Int32) (f_s : Nat → Int32) (p0 : Int32) (v1 : Int32) (v17 : Int32) : Option ((Nat → Int32)) := (zrd f_orders 176 (p0 + (2 : Int32))).bind fun v18 => (F_X4_puts fu f_s 88 v1 v17 v18).bind fun v19 => some v19
def F_X4_does (fu : Nat) (f_s : Nat → Int32) (f_orders : Nat → Int32) (p0 : Int32) : Option ((Nat → Int32)) := (zrd f_orders 176 (p0 + (1 : Int32))).bind fun v1 => (zrd f_orders 176 p0).bind fun v2 => if v2 = (61 : Int32) then (F_X4_strips fu f_s v1).bind fun v4 => zlp3 (F_X4_does_L62 fu f_orders p0 v1 (F_X4_does_E113)) fu v4.1 (0 : Int32) v4.2 else (zrd f_orders 176 p0).bind fun v16 => if v16 = (117 : Int32) then F_X4_does_J41 fu f_orders f_s p0 v1 (2 : Int32) else F_X4_does_J41 fu f_orders f_s p0 v1 (3 : Int32)
set_option maxHeartbeats 4000000 in
set_option maxRecDepth 100000 in
theorem c_X4_does (l : Launch) (D : va_G) (cI cC cO cJ : ClassId) (fu : Nat) (a_this a_s a_then a_past a_text a_met a_table a_ways a_waysOf a_into a_orders : Nat) (sz : Nat) (f_thrown : Int32) (f_saved : Int32) (f_length : Int32) (f_counted : Int32) (f_due : Int32) (f_meets : Int32) (f_isTold : Int32) (f_rests : Int32) (f_leastRest : Int32) (f_mostRest : Int32) (f_isWheel : Int32) (f_ended : Int32) (f_spot : Int32) (f_ordered : Int32) (f_cureAmount : Int32) (f_cureRelay : Int32) (f_cureWhich : Int32) (f_hash : Int64) (f_s : Nat → Int32) (f_orders : Nat → Int32) (p0 : Int32) (R : (Nat → Int32)) (h : F_X4_does fu f_s f_orders p0 = some R) : Met l yX4_does wsX4_does ({ frames := 2, cells := 0, slots := 0, locals := 47 } : Room) (zPw D (ztys cI cC cO cJ) [(a_this, .inr (4, [.int f_thrown, .ref a_s, .ref a_then, .ref a_past, .int f_saved, .ref a_text, .int f_length, .int f_counted, .int f_due, .ref a_met, .ref a_table, .ref a_ways, .ref a_waysOf, .ref a_into, .int f_meets, .int f_isTold, .int f_rests, .int f_leastRest, .int f_mostRest, .int f_isWheel, .int f_ended, .int f_spot, .ref a_orders, .int f_ordered, .int f_cureAmount, .int f_cureRelay, .int f_cureWhich, .long f_hash])), (a_s, .inl (cI, 88, .inl f_s)), (a_orders, .inl (cI, 176, .inl f_orders))] sz [.ref a_this, .int p0]) (zWv D [(a_this, .inr (4, [.int f_thrown, .ref a_s, .ref a_then, .ref a_past, .int f_saved, .ref a_text, .int f_length, .int f_counted, .int f_due, .ref a_met, .ref a_table, .ref a_ways, .ref a_waysOf, .ref a_into, .int f_meets, .int f_isTold, .int f_rests, .int f_leastRest, .int f_mostRest, .int f_isWheel, .int f_ended, .int f_spot, .ref a_orders, .int f_ordered, .int f_cureAmount, .int f_cureRelay, .int f_cureWhich, .long f_hash])), (a_s, .inl (cI, 88, .inl R)), (a_orders, .inl (cI, 176, .inl f_orders))] (va_A [(a_this, .inr (4, [.int f_thrown, .ref a_s, .ref a_then, .ref a_past, .int f_saved, .ref a_text, .int f_length, .int f_counted, .int f_due, .ref a_met, .ref a_table, .ref a_ways, .ref a_waysOf, .ref a_into, .int f_meets, .int f_isTold, .int f_rests, .int f_leastRest, .int f_mostRest, .int f_isWheel, .int f_ended, .int f_spot, .ref a_orders, .int f_ordered, .int f_cureAmount, .int f_cureRelay, .int f_cureWhich, .long f_hash])), (a_s, .inl (cI, 88, .inl f_s)), (a_orders, .inl (cI, 176, .inl f_orders))] sz)) 0 0 (va_A [(a_this, .inr (4, [.int f_thrown, .ref a_s, .ref a_then, .ref a_past, .int f_saved, .ref a_text, .int f_length, .int f_counted, .int f_due, .ref a_met, .ref a_table, .ref a_ways, .ref a_waysOf, .ref a_into, .int f_meets, .int f_isTold, .int f_rests, .int f_leastRest, .int f_mostRest, .int f_isWheel, .int f_ended, .int f_spot, .ref a_orders, .int f_ordered, .int f_cureAmount, .int f_cureRelay, .int f_cureWhich, .long f_hash])), (a_s, .inl (cI, 88, .inl f_s)), (a_orders, .inl (cI, 176, .inl f_orders))] sz) := by
  refine Met.ofW (cc := cX4_does) (maxL := 5) (ret := none) (by decide) rfl ?_
  intro p e s m args below meth c s₁ B hml hv
  obtain ⟨rfl, hsz, hP, hK, hD0⟩ := hv
  have hx := B.exec
  have hb := B.bytes
  have hr := B.returns
  have hts := atoms_spec (ws := wsX4_does) B.pre
  have hown : s.vm.findClass RX4 = some m.cls := findClass_of_methodNamed B.named
  have hlocks := B.notSynchronized
  have hinX4 : ∀ w ∈ wsX40, w ∈ wsX4_does := fun _ h => (List.mem_cons_of_mem _ (List.mem_append_right _ h))
  subst hsz
  have hD := hD0.self (sz := s.heap.size)
  generalize hAe : va_A [(a_this, .inr (4, [.int f_thrown, .ref a_s, .ref a_then, .ref a_past, .int f_saved, .ref a_text, .int f_length, .int f_counted, .int f_due, .ref a_met, .ref a_table, .ref a_ways, .ref a_waysOf, .ref a_into, .int f_meets, .int f_isTold, .int f_rests, .int f_leastRest, .int f_mostRest, .int f_isWheel, .int f_ended, .int f_spot, .ref a_orders, .int f_ordered, .int f_cureAmount, .int f_cureRelay, .int f_cureWhich, .long f_hash])), (a_s, .inl (cI, 88, .inl f_s)), (a_orders, .inl (cI, 176, .inl f_orders))] s.heap.size = A at hD ⊢
  have hA : ∀ q : Nat, s.heap.size ≤ q → A q := fun q h => by rw [← hAe]; exact Or.inr h
  have hS : va_S A s.heap s.heap [] := va_S.rf
  have hP : va_P D vwCl [(a_this, .inr (4, [.int f_thrown, .ref a_s, .ref a_then, .ref a_past, .int f_saved, .ref a_text, .int f_length, .int f_counted, .int f_due, .ref a_met, .ref a_table, .ref a_ways, .ref a_waysOf, .ref a_into, .int f_meets, .int f_isTold, .int f_rests, .int f_leastRest, .int f_mostRest, .int f_isWheel, .int f_ended, .int f_spot, .ref a_orders, .int f_ordered, .int f_cureAmount, .int f_cureRelay, .int f_cureWhich, .long f_hash])), (a_s, .inl (cI, 88, .inl f_s)), (a_orders, .inl (cI, 176, .inl f_orders))] s.heap := hP
  have hK : va_K D vwCl (ztys cI cC cO cJ) s := hK
  have hl := lv_entry ([.ref a_this, .int p0]) (n := 5) (Nat.le_of_ble_eq_true rfl)
  rw [lg_entry_eq]
  generalize (lg_sl ([.ref a_this, .int p0]) ++ List.replicate (5 - (lg_sl ([.ref a_this, .int p0])).length) Slot.unset).toArray = ls at hl ⊢
  have hl : lv_has ls 5 [(0, .ref a_this), (1, .int p0)] := hl
  unfold F_X4_does at h
  refine lv_aload_n hx hb dX4_does_0 rfl (lv_at hl 0 rfl) ?_
  refine va_get (D := D) (ci := 4) (v := .ref a_orders) (C := RX4) (T := TX4) (N := 28) hx hb hts hinX4 hown hK hP 0 rfl rfl 22 (by decide) (hts (Cond.fieldLink RX4 38 "LadderRelaysModel" "orders" "[I") (List.mem_of_getElem? (i := 1) rfl)) (fun _ h9 => h9) rfl dX4_does_1 ?_
  refine lv_iload_n hx hb dX4_does_4 rfl (lv_at hl 1 rfl) ?_
  refine lv_iconst (v := (1 : Int32)) hx hb dX4_does_5 (by decide) ?_
  refine lv_iadd hx hb dX4_does_6 ?_
  obtain ⟨v1, hv1, h⟩ := zbnd h
  refine zr_iald hx hb hK hP 2 0 rfl rfl hv1 dX4_does_7 ?_
  refine lv_istore_n (lv' := [(2, .int v1), (0, .ref a_this), (1, .int p0)]) hx hb dX4_does_8 rfl hl (by decide) rfl (fun ls hl => ?_)
  refine lv_aload_n hx hb dX4_does_9 rfl (lv_at hl 1 rfl) ?_
  refine va_get (D := D) (ci := 4) (v := .ref a_orders) (C := RX4) (T := TX4) (N := 28) hx hb hts hinX4 hown hK hP 0 rfl rfl 22 (by decide) (hts (Cond.fieldLink RX4 38 "LadderRelaysModel" "orders" "[I") (List.mem_of_getElem? (i := 1) rfl)) (fun _ h9 => h9) rfl dX4_does_10 ?_
  refine lv_iload_n hx hb dX4_does_13 rfl (lv_at hl 2 rfl) ?_
  obtain ⟨v2, hv2, h⟩ := zbnd h
  refine zr_iald hx hb hK hP 2 0 rfl rfl hv2 dX4_does_14 ?_
  refine lv_bipush (v := (61 : Int32)) hx hb dX4_does_15 (by decide) ?_
  refine lv_icmp_eq (tgt := 53) hx hb dX4_does_17 (by decide) (fun c3 => ?_) (fun c3 => ?_)
  · have h := zif_t c3 h
    refine lv_aload_n hx hb dX4_does_53 rfl (lv_at hl 1 rfl) ?_
    refine lv_iload_n hx hb dX4_does_54 rfl (lv_at hl 0 rfl) ?_
    obtain ⟨v4, hv4, h⟩ := zbnd h
    have hPc := hP.sub (ws' := [(a_this, .inr (4, [.int f_thrown, .ref a_s, .ref a_then, .ref a_past, .int f_saved, .ref a_text, .int f_length, .int f_counted, .int f_due, .ref a_met, .ref a_table, .ref a_ways, .ref a_waysOf, .ref a_into, .int f_meets, .int f_isTold, .int f_rests, .int f_leastRest, .int f_mostRest, .int f_isWheel, .int f_ended, .int f_spot, .ref a_orders, .int f_ordered, .int f_cureAmount, .int f_cureRelay, .int f_cureWhich, .long f_hash])), (a_s, .inl (cI, 88, .inl f_s))]) [0, 1] rfl
    have hDc := hD.sub (ws' := [(a_this, .inr (4, [.int f_thrown, .ref a_s, .ref a_then, .ref a_past, .int f_saved, .ref a_text, .int f_length, .int f_counted, .int f_due, .ref a_met, .ref a_table, .ref a_ways, .ref a_waysOf, .ref a_into, .int f_meets, .int f_isTold, .int f_rests, .int f_leastRest, .int f_mostRest, .int f_isWheel, .int f_ended, .int f_spot, .ref a_orders, .int f_ordered, .int f_cureAmount, .int f_cureRelay, .int f_cureWhich, .long f_hash])), (a_s, .inl (cI, 88, .inl f_s))]) [0, 1] (by decide) rfl
    have hFc := va_free (wc := [(a_this, .inr (4, [.int f_thrown, .ref a_s, .ref a_then, .ref a_past, .int f_saved, .ref a_text, .int f_length, .int f_counted, .int f_due, .ref a_met, .ref a_table, .ref a_ways, .ref a_waysOf, .ref a_into, .int f_meets, .int f_isTold, .int f_rests, .int f_leastRest, .int f_mostRest, .int f_isWheel, .int f_ended, .int f_spot, .ref a_orders, .int f_ordered, .int f_cureAmount, .int f_cureRelay, .int f_cureWhich, .long f_hash])), (a_s, .inl (cI, 88, .inl f_s))]) hD hS hA [0, 1] rfl
    refine zc_wi (va_runV (C := RX4) (As := [.int v1]) (rest := []) ⟨hx, hb, hml, hown, hts⟩ (c_X4_strips l D cI cC cO cJ fu a_this a_s a_then a_past a_text a_met a_table a_ways a_waysOf a_into a_orders _ f_thrown f_saved f_length f_counted f_due f_meets f_isTold f_rests f_leastRest f_mostRest f_isWheel f_ended f_spot f_ordered f_cureAmount f_cureRelay f_cureWhich f_hash f_s v1 v4 hv4) (cwV 1 hts gX4_does_X4_strips rfl rfl rfl (by decide +kernel) ⟨Nat.le_of_ble_eq_true rfl, Nat.le_of_ble_eq_true rfl⟩) ⟨zPw_blind, (va_recv hK hP (q0 := 0) (ci := 4) rfl rfl), zPw_pre hK hPc hDc⟩ rfl rfl hl.1 rfl (lv_room (Nat.le_of_ble_eq_true rfl)) dX4_does_55 ⟨Nat.zero_le _, Nat.zero_le _⟩) hS hFc (fun H locs hk1 hP1 hS => ?_)
    obtain ⟨hP, hD⟩ := zjn (ws' := [(a_this, .inr (4, [.int f_thrown, .ref a_s, .ref a_then, .ref a_past, .int f_saved, .ref a_text, .int f_length, .int f_counted, .int f_due, .ref a_met, .ref a_table, .ref a_ways, .ref a_waysOf, .ref a_into, .int f_meets, .int f_isTold, .int f_rests, .int f_leastRest, .int f_mostRest, .int f_isWheel, .int f_ended, .int f_spot, .ref a_orders, .int f_ordered, .int f_cureAmount, .int f_cureRelay, .int f_cureWhich, .long f_hash])), (a_s, .inl (cI, 88, .inl v4.2)), (a_orders, .inl (cI, 176, .inl f_orders))]) hP hD [0, 1] [.inr 0, .inr 1, .inl 2] rfl rfl rfl hk1 hP1
    refine lv_istore_n (lv' := [(3, .int v4.1), (2, .int v1), (0, .ref a_this), (1, .int p0)]) hx hb dX4_does_58 rfl hl (by decide) rfl (fun ls hl => ?_)
    refine lv_iconst (v := (0 : Int32)) hx hb dX4_does_59 (by decide) ?_
    refine lv_istore (lv' := [(4, .int (0 : Int32)), (3, .int v4.1), (2, .int v1), (0, .ref a_this), (1, .int p0)]) hx hb dX4_does_60 hl (by decide) rfl (fun ls hl => ?_)
    have E113 : ∀ (v5 : Int32) (v6 : Int32) (v7 : Nat → Int32), F_X4_does_E113 v5 v6 v7 = some R → ∀ (H : Heap) (locs : List Loc), va_P D vwCl [(a_this, .inr (4, [.int f_thrown, .ref a_s, .ref a_then, .ref a_past, .int f_saved, .ref a_text, .int f_length, .int f_counted, .int f_due, .ref a_met, .ref a_table, .ref a_ways, .ref a_waysOf, .ref a_into, .int f_meets, .int f_isTold, .int f_rests, .int f_leastRest, .int f_mostRest, .int f_isWheel, .int f_ended, .int f_spot, .ref a_orders, .int f_ordered, .int f_cureAmount, .int f_cureRelay, .int f_cureWhich, .long f_hash])), (a_s, .inl (cI, 88, .inl v7)), (a_orders, .inl (cI, 176, .inl f_orders))] H → va_D A [(a_this, .inr (4, [.int f_thrown, .ref a_s, .ref a_then, .ref a_past, .int f_saved, .ref a_text, .int f_length, .int f_counted, .int f_due, .ref a_met, .ref a_table, .ref a_ways, .ref a_waysOf, .ref a_into, .int f_meets, .int f_isTold, .int f_rests, .int f_leastRest, .int f_mostRest, .int f_isWheel, .int f_ended, .int f_spot, .ref a_orders, .int f_ordered, .int f_cureAmount, .int f_cureRelay, .int f_cureWhich, .long f_hash])), (a_s, .inl (cI, 88, .inl v7)), (a_orders, .inl (cI, 176, .inl f_orders))] → va_S A s.heap H locs → ∀ ls : Array Slot, lv_has ls 5 [(0, .ref a_this), (1, .int p0), (2, .int v1), (3, .int v5), (4, .int v6)] → W p l e ({ frames := 2, cells := 0, slots := 0, locals := 47 } : Room) s m (([.ref a_this, .int p0] : List Value).toArray) below meth c H locs 0 0 (MQ below (zWv D [(a_this, .inr (4, [.int f_thrown, .ref a_s, .ref a_then, .ref a_past, .int f_saved, .ref a_text, .int f_length, .int f_counted, .int f_due, .ref a_met, .ref a_table, .ref a_ways, .ref a_waysOf, .ref a_into, .int f_meets, .int f_isTold, .int f_rests, .int f_leastRest, .int f_mostRest, .int f_isWheel, .int f_ended, .int f_spot, .ref a_orders, .int f_ordered, .int f_cureAmount, .int f_cureRelay, .int f_cureWhich, .long f_hash])), (a_s, .inl (cI, 88, .inl R)), (a_orders, .inl (cI, 176, .inl f_orders))] A) (([.ref a_this, .int p0] : List Value).toArray) s 0 0 A) (F0 m 113 ls []) := by
      intro v5 v6 v7 h H locs hP hD hS ls hl
      unfold F_X4_does_E113 at h
      have hR := Option.some.inj h
      subst hR
      exact W.vret hx hb hr (fun t ht hW => ⟨⟨(), rfl, trivial, zhp ht hP⟩, hS.F ht⟩) hS.2.2 dX4_does_113
    refine zlp_i3 (R := R) (P := fun (v8 : Int32) (v9 : Int32) (v10 : Nat → Int32) => ∀ (H : Heap) (locs : List Loc), va_P D vwCl [(a_this, .inr (4, [.int f_thrown, .ref a_s, .ref a_then, .ref a_past, .int f_saved, .ref a_text, .int f_length, .int f_counted, .int f_due, .ref a_met, .ref a_table, .ref a_ways, .ref a_waysOf, .ref a_into, .int f_meets, .int f_isTold, .int f_rests, .int f_leastRest, .int f_mostRest, .int f_isWheel, .int f_ended, .int f_spot, .ref a_orders, .int f_ordered, .int f_cureAmount, .int f_cureRelay, .int f_cureWhich, .long f_hash])), (a_s, .inl (cI, 88, .inl v10)), (a_orders, .inl (cI, 176, .inl f_orders))] H → va_D A [(a_this, .inr (4, [.int f_thrown, .ref a_s, .ref a_then, .ref a_past, .int f_saved, .ref a_text, .int f_length, .int f_counted, .int f_due, .ref a_met, .ref a_table, .ref a_ways, .ref a_waysOf, .ref a_into, .int f_meets, .int f_isTold, .int f_rests, .int f_leastRest, .int f_mostRest, .int f_isWheel, .int f_ended, .int f_spot, .ref a_orders, .int f_ordered, .int f_cureAmount, .int f_cureRelay, .int f_cureWhich, .long f_hash])), (a_s, .inl (cI, 88, .inl v10)), (a_orders, .inl (cI, 176, .inl f_orders))] → va_S A s.heap H locs → ∀ ls : Array Slot, lv_has ls 5 [(0, .ref a_this), (1, .int p0), (2, .int v1), (3, .int v8), (4, .int v9)] → W p l e ({ frames := 2, cells := 0, slots := 0, locals := 47 } : Room) s m (([.ref a_this, .int p0] : List Value).toArray) below meth c H locs 0 0 (MQ below (zWv D [(a_this, .inr (4, [.int f_thrown, .ref a_s, .ref a_then, .ref a_past, .int f_saved, .ref a_text, .int f_length, .int f_counted, .int f_due, .ref a_met, .ref a_table, .ref a_ways, .ref a_waysOf, .ref a_into, .int f_meets, .int f_isTold, .int f_rests, .int f_leastRest, .int f_mostRest, .int f_isWheel, .int f_ended, .int f_spot, .ref a_orders, .int f_ordered, .int f_cureAmount, .int f_cureRelay, .int f_cureWhich, .long f_hash])), (a_s, .inl (cI, 88, .inl R)), (a_orders, .inl (cI, 176, .inl f_orders))] A) (([.ref a_this, .int p0] : List Value).toArray) s 0 0 A) (F0 m 62 ls [])) (fun rec62 ih62 v8 v9 v10 h => ?_) fu v4.1 (0 : Int32) v4.2 h _ _ hP hD hS ls (lv_sub hl [3, 4, 2, 1, 0] rfl)
    intro H locs hP hD hS ls hl
    unfold F_X4_does_L62 at h
    refine lv_iload hx hb dX4_does_62 (lv_at hl 4 rfl) ?_
    refine lv_aload_n hx hb dX4_does_64 rfl (lv_at hl 0 rfl) ?_
    refine va_get (D := D) (ci := 4) (v := .ref a_orders) (C := RX4) (T := TX4) (N := 28) hx hb hts hinX4 hown hK hP 0 rfl rfl 22 (by decide) (hts (Cond.fieldLink RX4 38 "LadderRelaysModel" "orders" "[I") (List.mem_of_getElem? (i := 1) rfl)) (fun _ h9 => h9) rfl dX4_does_65 ?_
    refine lv_iload_n hx hb dX4_does_68 rfl (lv_at hl 1 rfl) ?_
    refine lv_iconst (v := (2 : Int32)) hx hb dX4_does_69 (by decide) ?_
    refine lv_iadd hx hb dX4_does_70 ?_
    obtain ⟨v11, hv11, h⟩ := zbnd h
    refine zr_iald hx hb hK hP 2 0 rfl rfl hv11 dX4_does_71 ?_
    refine lv_icmp_ge (tgt := 113) hx hb dX4_does_72 (by decide) (fun c12 => ?_) (fun c12 => ?_)
    · have h := zif_t c12 h
      exact E113 v8 v9 v10 h _ _ hP hD hS ls (lv_sub hl [0, 1, 2, 3, 4] rfl)
    · have h := zif_f c12 h
      refine lv_aload_n hx hb dX4_does_75 rfl (lv_at hl 0 rfl) ?_
      refine lv_iload_n hx hb dX4_does_76 rfl (lv_at hl 2 rfl) ?_
      refine lv_aload_n hx hb dX4_does_77 rfl (lv_at hl 0 rfl) ?_
      refine va_get (D := D) (ci := 4) (v := .ref a_orders) (C := RX4) (T := TX4) (N := 28) hx hb hts hinX4 hown hK hP 0 rfl rfl 22 (by decide) (hts (Cond.fieldLink RX4 38 "LadderRelaysModel" "orders" "[I") (List.mem_of_getElem? (i := 1) rfl)) (fun _ h9 => h9) rfl dX4_does_78 ?_
      refine lv_iload_n hx hb dX4_does_81 rfl (lv_at hl 1 rfl) ?_
      refine lv_iconst (v := (3 : Int32)) hx hb dX4_does_82 (by decide) ?_
      refine lv_iadd hx hb dX4_does_83 ?_
      refine lv_iconst (v := (2 : Int32)) hx hb dX4_does_84 (by decide) ?_
      refine lv_iload hx hb dX4_does_85 (lv_at hl 4 rfl) ?_
      refine lv_imul hx hb dX4_does_87 ?_
      refine lv_iadd hx hb dX4_does_88 ?_
      obtain ⟨v13, hv13, h⟩ := zbnd h
      refine zr_iald hx hb hK hP 2 0 rfl rfl hv13 dX4_does_89 ?_
      refine lv_aload_n hx hb dX4_does_90 rfl (lv_at hl 0 rfl) ?_
      refine va_get (D := D) (ci := 4) (v := .ref a_orders) (C := RX4) (T := TX4) (N := 28) hx hb hts hinX4 hown hK hP 0 rfl rfl 22 (by decide) (hts (Cond.fieldLink RX4 38 "LadderRelaysModel" "orders" "[I") (List.mem_of_getElem? (i := 1) rfl)) (fun _ h9 => h9) rfl dX4_does_91 ?_
      refine lv_iload_n hx hb dX4_does_94 rfl (lv_at hl 1 rfl) ?_
      refine lv_iconst (v := (4 : Int32)) hx hb dX4_does_95 (by decide) ?_
      refine lv_iadd hx hb dX4_does_96 ?_
      refine lv_iconst (v := (2 : Int32)) hx hb dX4_does_97 (by decide) ?_
      refine lv_iload hx hb dX4_does_98 (lv_at hl 4 rfl) ?_
      refine lv_imul hx hb dX4_does_100 ?_
      refine lv_iadd hx hb dX4_does_101 ?_
      obtain ⟨v14, hv14, h⟩ := zbnd h
      refine zr_iald hx hb hK hP 2 0 rfl rfl hv14 dX4_does_102 ?_
      obtain ⟨v15, hv15, h⟩ := zbnd h
      have hPc := hP.sub (ws' := [(a_this, .inr (4, [.int f_thrown, .ref a_s, .ref a_then, .ref a_past, .int f_saved, .ref a_text, .int f_length, .int f_counted, .int f_due, .ref a_met, .ref a_table, .ref a_ways, .ref a_waysOf, .ref a_into, .int f_meets, .int f_isTold, .int f_rests, .int f_leastRest, .int f_mostRest, .int f_isWheel, .int f_ended, .int f_spot, .ref a_orders, .int f_ordered, .int f_cureAmount, .int f_cureRelay, .int f_cureWhich, .long f_hash])), (a_s, .inl (cI, 88, .inl v10))]) [0, 1] rfl
      have hDc := hD.sub (ws' := [(a_this, .inr (4, [.int f_thrown, .ref a_s, .ref a_then, .ref a_past, .int f_saved, .ref a_text, .int f_length, .int f_counted, .int f_due, .ref a_met, .ref a_table, .ref a_ways, .ref a_waysOf, .ref a_into, .int f_meets, .int f_isTold, .int f_rests, .int f_leastRest, .int f_mostRest, .int f_isWheel, .int f_ended, .int f_spot, .ref a_orders, .int f_ordered, .int f_cureAmount, .int f_cureRelay, .int f_cureWhich, .long f_hash])), (a_s, .inl (cI, 88, .inl v10))]) [0, 1] (by decide) rfl
      have hFc := va_free (wc := [(a_this, .inr (4, [.int f_thrown, .ref a_s, .ref a_then, .ref a_past, .int f_saved, .ref a_text, .int f_length, .int f_counted, .int f_due, .ref a_met, .ref a_table, .ref a_ways, .ref a_waysOf, .ref a_into, .int f_meets, .int f_isTold, .int f_rests, .int f_leastRest, .int f_mostRest, .int f_isWheel, .int f_ended, .int f_spot, .ref a_orders, .int f_ordered, .int f_cureAmount, .int f_cureRelay, .int f_cureWhich, .long f_hash])), (a_s, .inl (cI, 88, .inl v10))]) hD hS hA [0, 1] rfl
      refine zc_wi (va_runV (C := RX4) (As := [.int v1, .int v13, .int v14]) (rest := []) ⟨hx, hb, hml, hown, hts⟩ (c_X4_lays l D cI cC cO cJ fu a_this a_s a_then a_past a_text a_met a_table a_ways a_waysOf a_into a_orders _ f_thrown f_saved f_length f_counted f_due f_meets f_isTold f_rests f_leastRest f_mostRest f_isWheel f_ended f_spot f_ordered f_cureAmount f_cureRelay f_cureWhich f_hash v10 v1 v13 v14 v15 hv15) (cwV 3 hts gX4_does_X4_lays rfl rfl rfl (by decide +kernel) ⟨Nat.le_of_ble_eq_true rfl, Nat.le_of_ble_eq_true rfl⟩) ⟨zPw_blind, (va_recv hK hP (q0 := 0) (ci := 4) rfl rfl), zPw_pre hK hPc hDc⟩ rfl rfl hl.1 rfl (lv_room (Nat.le_of_ble_eq_true rfl)) dX4_does_103 ⟨Nat.zero_le _, Nat.zero_le _⟩) hS hFc (fun H locs hk1 hP1 hS => ?_)
      obtain ⟨hP, hD⟩ := zjn (ws' := [(a_this, .inr (4, [.int f_thrown, .ref a_s, .ref a_then, .ref a_past, .int f_saved, .ref a_text, .int f_length, .int f_counted, .int f_due, .ref a_met, .ref a_table, .ref a_ways, .ref a_waysOf, .ref a_into, .int f_meets, .int f_isTold, .int f_rests, .int f_leastRest, .int f_mostRest, .int f_isWheel, .int f_ended, .int f_spot, .ref a_orders, .int f_ordered, .int f_cureAmount, .int f_cureRelay, .int f_cureWhich, .long f_hash])), (a_s, .inl (cI, 88, .inl v15.2)), (a_orders, .inl (cI, 176, .inl f_orders))]) hP hD [0, 1] [.inr 0, .inr 1, .inl 2] rfl rfl rfl hk1 hP1
      refine lv_istore_n (lv' := [(3, .int v15.1), (0, .ref a_this), (1, .int p0), (2, .int v1), (4, .int v9)]) hx hb dX4_does_106 rfl hl (by decide) rfl (fun ls hl => ?_)
      refine lv_iinc (v := (v9 + (1 : Int32))) (lv' := [(4, .int (v9 + (1 : Int32))), (3, .int v15.1), (0, .ref a_this), (1, .int p0), (2, .int v1)]) hx hb dX4_does_107 hl (k := 4) rfl rfl (by decide) rfl (fun ls hl => ?_)
      refine lv_goto (tgt := 62) hx hb dX4_does_110 (by decide) ?_
      exact ih62 v15.1 (v9 + (1 : Int32)) v15.2 h _ _ hP hD hS ls (lv_sub hl [2, 3, 4, 1, 0] rfl)
  · have h := zif_f c3 h
    refine lv_aload_n hx hb dX4_does_20 rfl (lv_at hl 1 rfl) ?_
    refine va_get (D := D) (ci := 4) (v := .ref a_s) (C := RX4) (T := TX4) (N := 28) hx hb hts hinX4 hown hK hP 0 rfl rfl 1 (by decide) (hts (Cond.fieldLink RX4 7 "LadderRelaysModel" "s" "[I") (List.mem_of_getElem? (i := 2) rfl)) (fun _ h9 => h9) rfl dX4_does_21 ?_
    refine lv_iload_n hx hb dX4_does_24 rfl (lv_at hl 0 rfl) ?_
    refine lv_aload_n hx hb dX4_does_25 rfl (lv_at hl 1 rfl) ?_
    refine va_get (D := D) (ci := 4) (v := .ref a_orders) (C := RX4) (T := TX4) (N := 28) hx hb hts hinX4 hown hK hP 0 rfl rfl 22 (by decide) (hts (Cond.fieldLink RX4 38 "LadderRelaysModel" "orders" "[I") (List.mem_of_getElem? (i := 1) rfl)) (fun _ h9 => h9) rfl dX4_does_26 ?_
    refine lv_iload_n hx hb dX4_does_29 rfl (lv_at hl 2 rfl) ?_
    obtain ⟨v16, hv16, h⟩ := zbnd h
    refine zr_iald hx hb hK hP 2 0 rfl rfl hv16 dX4_does_30 ?_
    refine lv_bipush (v := (117 : Int32)) hx hb dX4_does_31 (by decide) ?_
    have J41 : ∀ (v17 : Int32), F_X4_does_J41 fu f_orders f_s p0 v1 v17 = some R → ∀ (H : Heap) (locs : List Loc), va_P D vwCl [(a_this, .inr (4, [.int f_thrown, .ref a_s, .ref a_then, .ref a_past, .int f_saved, .ref a_text, .int f_length, .int f_counted, .int f_due, .ref a_met, .ref a_table, .ref a_ways, .ref a_waysOf, .ref a_into, .int f_meets, .int f_isTold, .int f_rests, .int f_leastRest, .int f_mostRest, .int f_isWheel, .int f_ended, .int f_spot, .ref a_orders, .int f_ordered, .int f_cureAmount, .int f_cureRelay, .int f_cureWhich, .long f_hash])), (a_s, .inl (cI, 88, .inl f_s)), (a_orders, .inl (cI, 176, .inl f_orders))] H → va_D A [(a_this, .inr (4, [.int f_thrown, .ref a_s, .ref a_then, .ref a_past, .int f_saved, .ref a_text, .int f_length, .int f_counted, .int f_due, .ref a_met, .ref a_table, .ref a_ways, .ref a_waysOf, .ref a_into, .int f_meets, .int f_isTold, .int f_rests, .int f_leastRest, .int f_mostRest, .int f_isWheel, .int f_ended, .int f_spot, .ref a_orders, .int f_ordered, .int f_cureAmount, .int f_cureRelay, .int f_cureWhich, .long f_hash])), (a_s, .inl (cI, 88, .inl f_s)), (a_orders, .inl (cI, 176, .inl f_orders))] → va_S A s.heap H locs → ∀ ls : Array Slot, lv_has ls 5 [(0, .ref a_this), (1, .int p0), (2, .int v1)] → W p l e ({ frames := 2, cells := 0, slots := 0, locals := 47 } : Room) s m (([.ref a_this, .int p0] : List Value).toArray) below meth c H locs 0 0 (MQ below (zWv D [(a_this, .inr (4, [.int f_thrown, .ref a_s, .ref a_then, .ref a_past, .int f_saved, .ref a_text, .int f_length, .int f_counted, .int f_due, .ref a_met, .ref a_table, .ref a_ways, .ref a_waysOf, .ref a_into, .int f_meets, .int f_isTold, .int f_rests, .int f_leastRest, .int f_mostRest, .int f_isWheel, .int f_ended, .int f_spot, .ref a_orders, .int f_ordered, .int f_cureAmount, .int f_cureRelay, .int f_cureWhich, .long f_hash])), (a_s, .inl (cI, 88, .inl R)), (a_orders, .inl (cI, 176, .inl f_orders))] A) (([.ref a_this, .int p0] : List Value).toArray) s 0 0 A) (F0 m 41 ls [.int v17, .int v1, .ref a_s]) := by
      intro v17 h H locs hP hD hS ls hl
      unfold F_X4_does_J41 at h
      refine lv_aload_n hx hb dX4_does_41 rfl (lv_at hl 0 rfl) ?_
      refine va_get (D := D) (ci := 4) (v := .ref a_orders) (C := RX4) (T := TX4) (N := 28) hx hb hts hinX4 hown hK hP 0 rfl rfl 22 (by decide) (hts (Cond.fieldLink RX4 38 "LadderRelaysModel" "orders" "[I") (List.mem_of_getElem? (i := 1) rfl)) (fun _ h9 => h9) rfl dX4_does_42 ?_
      refine lv_iload_n hx hb dX4_does_45 rfl (lv_at hl 1 rfl) ?_
      refine lv_iconst (v := (2 : Int32)) hx hb dX4_does_46 (by decide) ?_
      refine lv_iadd hx hb dX4_does_47 ?_
      obtain ⟨v18, hv18, h⟩ := zbnd h
      refine zr_iald hx hb hK hP 2 0 rfl rfl hv18 dX4_does_48 ?_
      obtain ⟨v19, hv19, h⟩ := zbnd h
      have hPc := hP.sub (ws' := [(a_s, .inl (cI, 88, .inl f_s))]) [1] rfl
      have hDc := hD.sub (ws' := [(a_s, .inl (cI, 88, .inl f_s))]) [1] (by decide) rfl
      have hFc := va_free (wc := [(a_s, .inl (cI, 88, .inl f_s))]) hD hS hA [1] rfl
      refine zc_wv (va_runS (As := [.ref a_s, .int v1, .int v17, .int v18]) (rest := []) ⟨hx, hb, hml, hown, hts⟩ (c_X4_puts l D cI cC cO cJ fu a_s _ f_s 88 v1 v17 v18 v19 hv19) (va_cwS 4 hts gX4_does_X4_puts rfl rfl rfl (by decide +kernel) ⟨Nat.le_of_ble_eq_true rfl, Nat.le_of_ble_eq_true rfl⟩) (zPw_S hK hPc hDc) rfl rfl hl.1 rfl (lv_room (Nat.le_of_ble_eq_true rfl)) dX4_does_49 ⟨Nat.zero_le _, Nat.zero_le _⟩) hS hFc (fun H locs hk1 hP1 hS => ?_)
      obtain ⟨hP, hD⟩ := zjn (ws' := [(a_this, .inr (4, [.int f_thrown, .ref a_s, .ref a_then, .ref a_past, .int f_saved, .ref a_text, .int f_length, .int f_counted, .int f_due, .ref a_met, .ref a_table, .ref a_ways, .ref a_waysOf, .ref a_into, .int f_meets, .int f_isTold, .int f_rests, .int f_leastRest, .int f_mostRest, .int f_isWheel, .int f_ended, .int f_spot, .ref a_orders, .int f_ordered, .int f_cureAmount, .int f_cureRelay, .int f_cureWhich, .long f_hash])), (a_s, .inl (cI, 88, .inl v19)), (a_orders, .inl (cI, 176, .inl f_orders))]) hP hD [1] [.inl 0, .inr 0, .inl 2] rfl rfl rfl hk1 hP1
      have hR := Option.some.inj h
      subst hR
      exact W.vret hx hb hr (fun t ht hW => ⟨⟨(), rfl, trivial, zhp ht hP⟩, hS.F ht⟩) hS.2.2 dX4_does_52
    refine lv_icmp_ne (tgt := 40) hx hb dX4_does_33 (by decide) (fun c20 => ?_) (fun c20 => ?_)
    · have h := zif_f c20 h
      refine lv_iconst (v := (3 : Int32)) hx hb dX4_does_40 (by decide) ?_
      exact J41 (3 : Int32) h _ _ hP hD hS ls (lv_sub hl [1, 2, 0] rfl)
    · have h := zif_t c20 h
      refine lv_iconst (v := (2 : Int32)) hx hb dX4_does_36 (by decide) ?_
      refine lv_goto (tgt := 41) hx hb dX4_does_37 (by decide) ?_
      exact J41 (2 : Int32) h _ _ hP hD hS ls (lv_sub hl [1, 2, 0] rfl)
def F_X4_draw_E65 (v1 : Int32 × Int32 × Int32 × (Nat → Int32)) (v3 : Int32 × Int32) (v5 : Int32 × (Nat → Int32)) (v6 : Int32) (v7 : Nat → Int32) : Option (Int32 × Int32 × Int32 × Int32 × Int32 × Int32 × (Nat → Int32) × (Nat → Int32) × (Nat → Int32)) := some (v6, v3.2, v5.1, (0 : Int32), v1.2.1, v1.2.2.1, v7, v5.2, v1.2.2.2)
def F_X4_draw_L32 (fu : Nat) (v1 : Int32 × Int32 × Int32 × (Nat → Int32)) (k32 : Int32 → (Nat → Int32) → Option (Int32 × Int32 × Int32 × Int32 × Int32 × Int32 × (Nat → Int32) × (Nat → Int32) × (Nat → Int32))) (rec32 : Int32 → (Nat → Int32) → Option (Int32 × Int32 × Int32 × Int32 × Int32 × Int32 × (Nat → Int32) × (Nat → Int32) × (Nat → Int32))) (v8 : Int32) (v9 : Nat → Int32) : Option (Int32 × Int32 × Int32 × Int32 × Int32 × Int32 × (Nat → Int32) × (Nat → Int32) × (Nat → Int32)) := if v1.2.2.1 ≤ v8 then k32 v8 v9 else (F_X4_canDo fu v9 v1.2.2.2 ((11 : Int32) * v8)).bind fun v11 => if v11 = (0 : Int32) then k32 v8 v9 else (F_X4_does fu v9 v1.2.2.2 ((11 : Int32) * v8)).bind fun v13 => rec32 (v8 + (1 : Int32)) v13
def F_X4_draw_J13 (fu : Nat) (f_length : Int32) (f_past : Nat → Int32) (f_s : Nat → Int32) (f_saved : Int32) (f_thrown : Int32) (v1 : Int32 × Int32 × Int32 × (Nat → Int32)) (v2 : Int32) : Option (Int32 × Int32 × Int32 × Int32 × Int32 × Int32 × (Nat → Int32) × (Nat → Int32) × (Nat → Int32)) := (F_X4_refuses fu f_thrown v2).bind fun v3 => if v3.1 = (0 : Int32) then (F_X4_saves fu f_saved f_s f_past).bind fun v5 => zlp2 (F_X4_draw_L32 fu v1 (F_X4_draw_E65 v1 v3 v5)) fu (0 : Int32) f_s else some ((0 : Int32), v3.2, f_saved, f_length, v1.2.1, v1.2.2.1, f_s, f_past, v1.2.2.2)
def F_X4_draw (fu : Nat) (f_thrown : Int32) (f_saved : Int32) (f_length : Int32) (f_spot : Int32) (f_ordered : Int32) (f_s : Nat → Int32) (f_past : Nat → Int32) (f_text : Nat → Int32) (f_orders : Nat → Int32) : Option (Int32 × Int32 × Int32 × Int32 × Int32 × Int32 × (Nat → Int32) × (Nat → Int32) × (Nat → Int32)) := (F_X4_isText fu f_length f_spot f_ordered f_text f_orders).bind fun v1 => if v1.1 = (0 : Int32) then F_X4_draw_J13 fu f_length f_past f_s f_saved f_thrown v1 (1 : Int32) else F_X4_draw_J13 fu f_length f_past f_s f_saved f_thrown v1 (0 : Int32)
set_option maxHeartbeats 4000000 in
set_option maxRecDepth 100000 in
theorem c_X4_draw (l : Launch) (D : va_G) (cI cC cO cJ : ClassId) (fu : Nat) (a_this a_s a_then a_past a_text a_met a_table a_ways a_waysOf a_into a_orders : Nat) (sz : Nat) (f_thrown : Int32) (f_saved : Int32) (f_length : Int32) (f_counted : Int32) (f_due : Int32) (f_meets : Int32) (f_isTold : Int32) (f_rests : Int32) (f_leastRest : Int32) (f_mostRest : Int32) (f_isWheel : Int32) (f_ended : Int32) (f_spot : Int32) (f_ordered : Int32) (f_cureAmount : Int32) (f_cureRelay : Int32) (f_cureWhich : Int32) (f_hash : Int64) (f_s : Nat → Int32) (f_past : Nat → Int32) (f_text : Nat → Int32) (f_orders : Nat → Int32) (R : Int32 × Int32 × Int32 × Int32 × Int32 × Int32 × (Nat → Int32) × (Nat → Int32) × (Nat → Int32)) (h : F_X4_draw fu f_thrown f_saved f_length f_spot f_ordered f_s f_past f_text f_orders = some R) : Met l yX4_draw wsX4_draw ({ frames := 7, cells := 0, slots := 0, locals := 155 } : Room) (zPw D (ztys cI cC cO cJ) [(a_this, .inr (4, [.int f_thrown, .ref a_s, .ref a_then, .ref a_past, .int f_saved, .ref a_text, .int f_length, .int f_counted, .int f_due, .ref a_met, .ref a_table, .ref a_ways, .ref a_waysOf, .ref a_into, .int f_meets, .int f_isTold, .int f_rests, .int f_leastRest, .int f_mostRest, .int f_isWheel, .int f_ended, .int f_spot, .ref a_orders, .int f_ordered, .int f_cureAmount, .int f_cureRelay, .int f_cureWhich, .long f_hash])), (a_s, .inl (cI, 88, .inl f_s)), (a_past, .inl (cI, 528, .inl f_past)), (a_text, .inl (cC, 60, .inl f_text)), (a_orders, .inl (cI, 176, .inl f_orders))] sz [.ref a_this]) (zWi D R.1 [(a_this, .inr (4, [.int R.2.1, .ref a_s, .ref a_then, .ref a_past, .int R.2.2.1, .ref a_text, .int R.2.2.2.1, .int f_counted, .int f_due, .ref a_met, .ref a_table, .ref a_ways, .ref a_waysOf, .ref a_into, .int f_meets, .int f_isTold, .int f_rests, .int f_leastRest, .int f_mostRest, .int f_isWheel, .int f_ended, .int R.2.2.2.2.1, .ref a_orders, .int R.2.2.2.2.2.1, .int f_cureAmount, .int f_cureRelay, .int f_cureWhich, .long f_hash])), (a_s, .inl (cI, 88, .inl R.2.2.2.2.2.2.1)), (a_past, .inl (cI, 528, .inl R.2.2.2.2.2.2.2.1)), (a_text, .inl (cC, 60, .inl f_text)), (a_orders, .inl (cI, 176, .inl R.2.2.2.2.2.2.2.2))] (va_A [(a_this, .inr (4, [.int f_thrown, .ref a_s, .ref a_then, .ref a_past, .int f_saved, .ref a_text, .int f_length, .int f_counted, .int f_due, .ref a_met, .ref a_table, .ref a_ways, .ref a_waysOf, .ref a_into, .int f_meets, .int f_isTold, .int f_rests, .int f_leastRest, .int f_mostRest, .int f_isWheel, .int f_ended, .int f_spot, .ref a_orders, .int f_ordered, .int f_cureAmount, .int f_cureRelay, .int f_cureWhich, .long f_hash])), (a_s, .inl (cI, 88, .inl f_s)), (a_past, .inl (cI, 528, .inl f_past)), (a_text, .inl (cC, 60, .inl f_text)), (a_orders, .inl (cI, 176, .inl f_orders))] sz)) 0 0 (va_A [(a_this, .inr (4, [.int f_thrown, .ref a_s, .ref a_then, .ref a_past, .int f_saved, .ref a_text, .int f_length, .int f_counted, .int f_due, .ref a_met, .ref a_table, .ref a_ways, .ref a_waysOf, .ref a_into, .int f_meets, .int f_isTold, .int f_rests, .int f_leastRest, .int f_mostRest, .int f_isWheel, .int f_ended, .int f_spot, .ref a_orders, .int f_ordered, .int f_cureAmount, .int f_cureRelay, .int f_cureWhich, .long f_hash])), (a_s, .inl (cI, 88, .inl f_s)), (a_past, .inl (cI, 528, .inl f_past)), (a_text, .inl (cC, 60, .inl f_text)), (a_orders, .inl (cI, 176, .inl f_orders))] sz) := by
  refine Met.ofW (cc := cX4_draw) (maxL := 2) (ret := (some .int)) (by decide) rfl ?_
  intro p e s m args below meth c s₁ B hml hv
  obtain ⟨rfl, hsz, hP, hK, hD0⟩ := hv
  have hx := B.exec
  have hb := B.bytes
  have hr := B.returns
  have hts := atoms_spec (ws := wsX4_draw) B.pre
  have hown : s.vm.findClass RX4 = some m.cls := findClass_of_methodNamed B.named
  have hlocks := B.notSynchronized
  have hinX4 : ∀ w ∈ wsX40, w ∈ wsX4_draw := fun _ h => (List.mem_cons_of_mem _ (List.mem_append_right _ h))
  subst hsz
  have hD := hD0.self (sz := s.heap.size)
  generalize hAe : va_A [(a_this, .inr (4, [.int f_thrown, .ref a_s, .ref a_then, .ref a_past, .int f_saved, .ref a_text, .int f_length, .int f_counted, .int f_due, .ref a_met, .ref a_table, .ref a_ways, .ref a_waysOf, .ref a_into, .int f_meets, .int f_isTold, .int f_rests, .int f_leastRest, .int f_mostRest, .int f_isWheel, .int f_ended, .int f_spot, .ref a_orders, .int f_ordered, .int f_cureAmount, .int f_cureRelay, .int f_cureWhich, .long f_hash])), (a_s, .inl (cI, 88, .inl f_s)), (a_past, .inl (cI, 528, .inl f_past)), (a_text, .inl (cC, 60, .inl f_text)), (a_orders, .inl (cI, 176, .inl f_orders))] s.heap.size = A at hD ⊢
  have hA : ∀ q : Nat, s.heap.size ≤ q → A q := fun q h => by rw [← hAe]; exact Or.inr h
  have hS : va_S A s.heap s.heap [] := va_S.rf
  have hP : va_P D vwCl [(a_this, .inr (4, [.int f_thrown, .ref a_s, .ref a_then, .ref a_past, .int f_saved, .ref a_text, .int f_length, .int f_counted, .int f_due, .ref a_met, .ref a_table, .ref a_ways, .ref a_waysOf, .ref a_into, .int f_meets, .int f_isTold, .int f_rests, .int f_leastRest, .int f_mostRest, .int f_isWheel, .int f_ended, .int f_spot, .ref a_orders, .int f_ordered, .int f_cureAmount, .int f_cureRelay, .int f_cureWhich, .long f_hash])), (a_s, .inl (cI, 88, .inl f_s)), (a_past, .inl (cI, 528, .inl f_past)), (a_text, .inl (cC, 60, .inl f_text)), (a_orders, .inl (cI, 176, .inl f_orders))] s.heap := hP
  have hK : va_K D vwCl (ztys cI cC cO cJ) s := hK
  have hl := lv_entry ([.ref a_this]) (n := 2) (Nat.le_of_ble_eq_true rfl)
  rw [lg_entry_eq]
  generalize (lg_sl ([.ref a_this]) ++ List.replicate (2 - (lg_sl ([.ref a_this])).length) Slot.unset).toArray = ls at hl ⊢
  have hl : lv_has ls 2 [(0, .ref a_this)] := hl
  unfold F_X4_draw at h
  refine lv_aload_n hx hb dX4_draw_0 rfl (lv_at hl 0 rfl) ?_
  refine lv_aload_n hx hb dX4_draw_1 rfl (lv_at hl 0 rfl) ?_
  obtain ⟨v1, hv1, h⟩ := zbnd h
  have hPc := hP.sub (ws' := [(a_this, .inr (4, [.int f_thrown, .ref a_s, .ref a_then, .ref a_past, .int f_saved, .ref a_text, .int f_length, .int f_counted, .int f_due, .ref a_met, .ref a_table, .ref a_ways, .ref a_waysOf, .ref a_into, .int f_meets, .int f_isTold, .int f_rests, .int f_leastRest, .int f_mostRest, .int f_isWheel, .int f_ended, .int f_spot, .ref a_orders, .int f_ordered, .int f_cureAmount, .int f_cureRelay, .int f_cureWhich, .long f_hash])), (a_text, .inl (cC, 60, .inl f_text)), (a_orders, .inl (cI, 176, .inl f_orders))]) [0, 3, 4] rfl
  have hDc := hD.sub (ws' := [(a_this, .inr (4, [.int f_thrown, .ref a_s, .ref a_then, .ref a_past, .int f_saved, .ref a_text, .int f_length, .int f_counted, .int f_due, .ref a_met, .ref a_table, .ref a_ways, .ref a_waysOf, .ref a_into, .int f_meets, .int f_isTold, .int f_rests, .int f_leastRest, .int f_mostRest, .int f_isWheel, .int f_ended, .int f_spot, .ref a_orders, .int f_ordered, .int f_cureAmount, .int f_cureRelay, .int f_cureWhich, .long f_hash])), (a_text, .inl (cC, 60, .inl f_text)), (a_orders, .inl (cI, 176, .inl f_orders))]) [0, 3, 4] (by decide) rfl
  have hFc := va_free (wc := [(a_this, .inr (4, [.int f_thrown, .ref a_s, .ref a_then, .ref a_past, .int f_saved, .ref a_text, .int f_length, .int f_counted, .int f_due, .ref a_met, .ref a_table, .ref a_ways, .ref a_waysOf, .ref a_into, .int f_meets, .int f_isTold, .int f_rests, .int f_leastRest, .int f_mostRest, .int f_isWheel, .int f_ended, .int f_spot, .ref a_orders, .int f_ordered, .int f_cureAmount, .int f_cureRelay, .int f_cureWhich, .long f_hash])), (a_text, .inl (cC, 60, .inl f_text)), (a_orders, .inl (cI, 176, .inl f_orders))]) hD hS hA [0, 3, 4] rfl
  refine zc_wi (va_runV (C := RX4) (As := []) (rest := [.ref a_this]) ⟨hx, hb, hml, hown, hts⟩ (c_X4_isText l D cI cC cO cJ fu a_this a_s a_then a_past a_text a_met a_table a_ways a_waysOf a_into a_orders _ f_thrown f_saved f_length f_counted f_due f_meets f_isTold f_rests f_leastRest f_mostRest f_isWheel f_ended f_spot f_ordered f_cureAmount f_cureRelay f_cureWhich f_hash f_text f_orders v1 hv1) (cwV 0 hts gX4_draw_X4_isText rfl rfl rfl (by decide +kernel) ⟨Nat.le_of_ble_eq_true rfl, Nat.le_of_ble_eq_true rfl⟩) ⟨zPw_blind, (va_recv hK hP (q0 := 0) (ci := 4) rfl rfl), zPw_pre hK hPc hDc⟩ rfl rfl hl.1 rfl (lv_room (Nat.le_of_ble_eq_true rfl)) dX4_draw_2 ⟨Nat.zero_le _, Nat.zero_le _⟩) hS hFc (fun H locs hk1 hP1 hS => ?_)
  obtain ⟨hP, hD⟩ := zjn (ws' := [(a_this, .inr (4, [.int f_thrown, .ref a_s, .ref a_then, .ref a_past, .int f_saved, .ref a_text, .int f_length, .int f_counted, .int f_due, .ref a_met, .ref a_table, .ref a_ways, .ref a_waysOf, .ref a_into, .int f_meets, .int f_isTold, .int f_rests, .int f_leastRest, .int f_mostRest, .int f_isWheel, .int f_ended, .int v1.2.1, .ref a_orders, .int v1.2.2.1, .int f_cureAmount, .int f_cureRelay, .int f_cureWhich, .long f_hash])), (a_s, .inl (cI, 88, .inl f_s)), (a_past, .inl (cI, 528, .inl f_past)), (a_text, .inl (cC, 60, .inl f_text)), (a_orders, .inl (cI, 176, .inl v1.2.2.2))]) hP hD [0, 3, 4] [.inr 0, .inl 1, .inl 2, .inr 1, .inr 2] rfl rfl rfl hk1 hP1
  have J13 : ∀ (v2 : Int32), F_X4_draw_J13 fu f_length f_past f_s f_saved f_thrown v1 v2 = some R → ∀ (H : Heap) (locs : List Loc), va_P D vwCl [(a_this, .inr (4, [.int f_thrown, .ref a_s, .ref a_then, .ref a_past, .int f_saved, .ref a_text, .int f_length, .int f_counted, .int f_due, .ref a_met, .ref a_table, .ref a_ways, .ref a_waysOf, .ref a_into, .int f_meets, .int f_isTold, .int f_rests, .int f_leastRest, .int f_mostRest, .int f_isWheel, .int f_ended, .int v1.2.1, .ref a_orders, .int v1.2.2.1, .int f_cureAmount, .int f_cureRelay, .int f_cureWhich, .long f_hash])), (a_s, .inl (cI, 88, .inl f_s)), (a_past, .inl (cI, 528, .inl f_past)), (a_text, .inl (cC, 60, .inl f_text)), (a_orders, .inl (cI, 176, .inl v1.2.2.2))] H → va_D A [(a_this, .inr (4, [.int f_thrown, .ref a_s, .ref a_then, .ref a_past, .int f_saved, .ref a_text, .int f_length, .int f_counted, .int f_due, .ref a_met, .ref a_table, .ref a_ways, .ref a_waysOf, .ref a_into, .int f_meets, .int f_isTold, .int f_rests, .int f_leastRest, .int f_mostRest, .int f_isWheel, .int f_ended, .int v1.2.1, .ref a_orders, .int v1.2.2.1, .int f_cureAmount, .int f_cureRelay, .int f_cureWhich, .long f_hash])), (a_s, .inl (cI, 88, .inl f_s)), (a_past, .inl (cI, 528, .inl f_past)), (a_text, .inl (cC, 60, .inl f_text)), (a_orders, .inl (cI, 176, .inl v1.2.2.2))] → va_S A s.heap H locs → ∀ ls : Array Slot, lv_has ls 2 [(0, .ref a_this)] → W p l e ({ frames := 7, cells := 0, slots := 0, locals := 155 } : Room) s m (([.ref a_this] : List Value).toArray) below meth c H locs 0 0 (MQ below (zWi D R.1 [(a_this, .inr (4, [.int R.2.1, .ref a_s, .ref a_then, .ref a_past, .int R.2.2.1, .ref a_text, .int R.2.2.2.1, .int f_counted, .int f_due, .ref a_met, .ref a_table, .ref a_ways, .ref a_waysOf, .ref a_into, .int f_meets, .int f_isTold, .int f_rests, .int f_leastRest, .int f_mostRest, .int f_isWheel, .int f_ended, .int R.2.2.2.2.1, .ref a_orders, .int R.2.2.2.2.2.1, .int f_cureAmount, .int f_cureRelay, .int f_cureWhich, .long f_hash])), (a_s, .inl (cI, 88, .inl R.2.2.2.2.2.2.1)), (a_past, .inl (cI, 528, .inl R.2.2.2.2.2.2.2.1)), (a_text, .inl (cC, 60, .inl f_text)), (a_orders, .inl (cI, 176, .inl R.2.2.2.2.2.2.2.2))] A) (([.ref a_this] : List Value).toArray) s 0 0 A) (F0 m 13 ls [.int v2, .ref a_this]) := by
    intro v2 h H locs hP hD hS ls hl
    unfold F_X4_draw_J13 at h
    obtain ⟨v3, hv3, h⟩ := zbnd h
    have hPc := hP.sub (ws' := [(a_this, .inr (4, [.int f_thrown, .ref a_s, .ref a_then, .ref a_past, .int f_saved, .ref a_text, .int f_length, .int f_counted, .int f_due, .ref a_met, .ref a_table, .ref a_ways, .ref a_waysOf, .ref a_into, .int f_meets, .int f_isTold, .int f_rests, .int f_leastRest, .int f_mostRest, .int f_isWheel, .int f_ended, .int v1.2.1, .ref a_orders, .int v1.2.2.1, .int f_cureAmount, .int f_cureRelay, .int f_cureWhich, .long f_hash]))]) [0] rfl
    have hDc := hD.sub (ws' := [(a_this, .inr (4, [.int f_thrown, .ref a_s, .ref a_then, .ref a_past, .int f_saved, .ref a_text, .int f_length, .int f_counted, .int f_due, .ref a_met, .ref a_table, .ref a_ways, .ref a_waysOf, .ref a_into, .int f_meets, .int f_isTold, .int f_rests, .int f_leastRest, .int f_mostRest, .int f_isWheel, .int f_ended, .int v1.2.1, .ref a_orders, .int v1.2.2.1, .int f_cureAmount, .int f_cureRelay, .int f_cureWhich, .long f_hash]))]) [0] (by decide) rfl
    have hFc := va_free (wc := [(a_this, .inr (4, [.int f_thrown, .ref a_s, .ref a_then, .ref a_past, .int f_saved, .ref a_text, .int f_length, .int f_counted, .int f_due, .ref a_met, .ref a_table, .ref a_ways, .ref a_waysOf, .ref a_into, .int f_meets, .int f_isTold, .int f_rests, .int f_leastRest, .int f_mostRest, .int f_isWheel, .int f_ended, .int v1.2.1, .ref a_orders, .int v1.2.2.1, .int f_cureAmount, .int f_cureRelay, .int f_cureWhich, .long f_hash]))]) hD hS hA [0] rfl
    refine zc_wi (va_runV (C := RX4) (As := [.int v2]) (rest := []) ⟨hx, hb, hml, hown, hts⟩ (c_X4_refuses l D cI cC cO cJ fu a_this a_s a_then a_past a_text a_met a_table a_ways a_waysOf a_into a_orders _ f_thrown f_saved f_length f_counted f_due f_meets f_isTold f_rests f_leastRest f_mostRest f_isWheel f_ended v1.2.1 v1.2.2.1 f_cureAmount f_cureRelay f_cureWhich f_hash v2 v3 hv3) (cwV 1 hts gX4_draw_X4_refuses rfl rfl rfl (by decide +kernel) ⟨Nat.le_of_ble_eq_true rfl, Nat.le_of_ble_eq_true rfl⟩) ⟨zPw_blind, (va_recv hK hP (q0 := 0) (ci := 4) rfl rfl), zPw_pre hK hPc hDc⟩ rfl rfl hl.1 rfl (lv_room (Nat.le_of_ble_eq_true rfl)) dX4_draw_13 ⟨Nat.zero_le _, Nat.zero_le _⟩) hS hFc (fun H locs hk1 hP1 hS => ?_)
    obtain ⟨hP, hD⟩ := zjn (ws' := [(a_this, .inr (4, [.int v3.2, .ref a_s, .ref a_then, .ref a_past, .int f_saved, .ref a_text, .int f_length, .int f_counted, .int f_due, .ref a_met, .ref a_table, .ref a_ways, .ref a_waysOf, .ref a_into, .int f_meets, .int f_isTold, .int f_rests, .int f_leastRest, .int f_mostRest, .int f_isWheel, .int f_ended, .int v1.2.1, .ref a_orders, .int v1.2.2.1, .int f_cureAmount, .int f_cureRelay, .int f_cureWhich, .long f_hash])), (a_s, .inl (cI, 88, .inl f_s)), (a_past, .inl (cI, 528, .inl f_past)), (a_text, .inl (cC, 60, .inl f_text)), (a_orders, .inl (cI, 176, .inl v1.2.2.2))]) hP hD [0] [.inr 0, .inl 1, .inl 2, .inl 3, .inl 4] rfl rfl rfl hk1 hP1
    refine lv_if_eq (tgt := 21) hx hb dX4_draw_16 (by decide) (fun c4 => ?_) (fun c4 => ?_)
    · have h := zif_t c4 h
      refine lv_aload_n hx hb dX4_draw_21 rfl (lv_at hl 0 rfl) ?_
      obtain ⟨v5, hv5, h⟩ := zbnd h
      have hPc := hP.sub (ws' := [(a_this, .inr (4, [.int v3.2, .ref a_s, .ref a_then, .ref a_past, .int f_saved, .ref a_text, .int f_length, .int f_counted, .int f_due, .ref a_met, .ref a_table, .ref a_ways, .ref a_waysOf, .ref a_into, .int f_meets, .int f_isTold, .int f_rests, .int f_leastRest, .int f_mostRest, .int f_isWheel, .int f_ended, .int v1.2.1, .ref a_orders, .int v1.2.2.1, .int f_cureAmount, .int f_cureRelay, .int f_cureWhich, .long f_hash])), (a_s, .inl (cI, 88, .inl f_s)), (a_past, .inl (cI, 528, .inl f_past))]) [0, 1, 2] rfl
      have hDc := hD.sub (ws' := [(a_this, .inr (4, [.int v3.2, .ref a_s, .ref a_then, .ref a_past, .int f_saved, .ref a_text, .int f_length, .int f_counted, .int f_due, .ref a_met, .ref a_table, .ref a_ways, .ref a_waysOf, .ref a_into, .int f_meets, .int f_isTold, .int f_rests, .int f_leastRest, .int f_mostRest, .int f_isWheel, .int f_ended, .int v1.2.1, .ref a_orders, .int v1.2.2.1, .int f_cureAmount, .int f_cureRelay, .int f_cureWhich, .long f_hash])), (a_s, .inl (cI, 88, .inl f_s)), (a_past, .inl (cI, 528, .inl f_past))]) [0, 1, 2] (by decide) rfl
      have hFc := va_free (wc := [(a_this, .inr (4, [.int v3.2, .ref a_s, .ref a_then, .ref a_past, .int f_saved, .ref a_text, .int f_length, .int f_counted, .int f_due, .ref a_met, .ref a_table, .ref a_ways, .ref a_waysOf, .ref a_into, .int f_meets, .int f_isTold, .int f_rests, .int f_leastRest, .int f_mostRest, .int f_isWheel, .int f_ended, .int v1.2.1, .ref a_orders, .int v1.2.2.1, .int f_cureAmount, .int f_cureRelay, .int f_cureWhich, .long f_hash])), (a_s, .inl (cI, 88, .inl f_s)), (a_past, .inl (cI, 528, .inl f_past))]) hD hS hA [0, 1, 2] rfl
      refine zc_wv (va_runV (C := RX4) (As := []) (rest := []) ⟨hx, hb, hml, hown, hts⟩ (c_X4_saves l D cI cC cO cJ fu a_this a_s a_then a_past a_text a_met a_table a_ways a_waysOf a_into a_orders _ v3.2 f_saved f_length f_counted f_due f_meets f_isTold f_rests f_leastRest f_mostRest f_isWheel f_ended v1.2.1 v1.2.2.1 f_cureAmount f_cureRelay f_cureWhich f_hash f_s f_past v5 hv5) (cwV 0 hts gX4_draw_X4_saves rfl rfl rfl (by decide +kernel) ⟨Nat.le_of_ble_eq_true rfl, Nat.le_of_ble_eq_true rfl⟩) ⟨zPw_blind, (va_recv hK hP (q0 := 0) (ci := 4) rfl rfl), zPw_pre hK hPc hDc⟩ rfl rfl hl.1 rfl (lv_room (Nat.le_of_ble_eq_true rfl)) dX4_draw_22 ⟨Nat.zero_le _, Nat.zero_le _⟩) hS hFc (fun H locs hk1 hP1 hS => ?_)
      obtain ⟨hP, hD⟩ := zjn (ws' := [(a_this, .inr (4, [.int v3.2, .ref a_s, .ref a_then, .ref a_past, .int v5.1, .ref a_text, .int f_length, .int f_counted, .int f_due, .ref a_met, .ref a_table, .ref a_ways, .ref a_waysOf, .ref a_into, .int f_meets, .int f_isTold, .int f_rests, .int f_leastRest, .int f_mostRest, .int f_isWheel, .int f_ended, .int v1.2.1, .ref a_orders, .int v1.2.2.1, .int f_cureAmount, .int f_cureRelay, .int f_cureWhich, .long f_hash])), (a_s, .inl (cI, 88, .inl f_s)), (a_past, .inl (cI, 528, .inl v5.2)), (a_text, .inl (cC, 60, .inl f_text)), (a_orders, .inl (cI, 176, .inl v1.2.2.2))]) hP hD [0, 1, 2] [.inr 0, .inr 1, .inr 2, .inl 3, .inl 4] rfl rfl rfl hk1 hP1
      refine lv_aload_n hx hb dX4_draw_25 rfl (lv_at hl 0 rfl) ?_
      refine lv_iconst (v := (0 : Int32)) hx hb dX4_draw_26 (by decide) ?_
      refine va_put (D := D) (ci := 4) (v := .int (0 : Int32)) (ty := .int) (C := RX4) (T := TX4) (N := 28) hx hb hts hinX4 tyX4 tyX4_ok nmX4 hown hK hP hD hS 0 rfl rfl 6 (by decide) (hts (Cond.fieldLink RX4 176 "LadderRelaysModel" "length" "I") (List.mem_of_getElem? (i := 1) rfl)) (fun _ h9 => h9) rfl (by decide +kernel) rfl rfl (Nat.le_of_ble_eq_true rfl) dX4_draw_27 (fun H locs hP hD hS => ?_)
      have hP : va_P D vwCl [(a_this, .inr (4, [.int v3.2, .ref a_s, .ref a_then, .ref a_past, .int v5.1, .ref a_text, .int (0 : Int32), .int f_counted, .int f_due, .ref a_met, .ref a_table, .ref a_ways, .ref a_waysOf, .ref a_into, .int f_meets, .int f_isTold, .int f_rests, .int f_leastRest, .int f_mostRest, .int f_isWheel, .int f_ended, .int v1.2.1, .ref a_orders, .int v1.2.2.1, .int f_cureAmount, .int f_cureRelay, .int f_cureWhich, .long f_hash])), (a_s, .inl (cI, 88, .inl f_s)), (a_past, .inl (cI, 528, .inl v5.2)), (a_text, .inl (cC, 60, .inl f_text)), (a_orders, .inl (cI, 176, .inl v1.2.2.2))] H := hP
      have hD : va_D A [(a_this, .inr (4, [.int v3.2, .ref a_s, .ref a_then, .ref a_past, .int v5.1, .ref a_text, .int (0 : Int32), .int f_counted, .int f_due, .ref a_met, .ref a_table, .ref a_ways, .ref a_waysOf, .ref a_into, .int f_meets, .int f_isTold, .int f_rests, .int f_leastRest, .int f_mostRest, .int f_isWheel, .int f_ended, .int v1.2.1, .ref a_orders, .int v1.2.2.1, .int f_cureAmount, .int f_cureRelay, .int f_cureWhich, .long f_hash])), (a_s, .inl (cI, 88, .inl f_s)), (a_past, .inl (cI, 528, .inl v5.2)), (a_text, .inl (cC, 60, .inl f_text)), (a_orders, .inl (cI, 176, .inl v1.2.2.2))] := hD
      refine lv_iconst (v := (0 : Int32)) hx hb dX4_draw_30 (by decide) ?_
      refine lv_istore_n (lv' := [(1, .int (0 : Int32)), (0, .ref a_this)]) hx hb dX4_draw_31 rfl hl (by decide) rfl (fun ls hl => ?_)
      have E65 : ∀ (v6 : Int32) (v7 : Nat → Int32), F_X4_draw_E65 v1 v3 v5 v6 v7 = some R → ∀ (H : Heap) (locs : List Loc), va_P D vwCl [(a_this, .inr (4, [.int v3.2, .ref a_s, .ref a_then, .ref a_past, .int v5.1, .ref a_text, .int (0 : Int32), .int f_counted, .int f_due, .ref a_met, .ref a_table, .ref a_ways, .ref a_waysOf, .ref a_into, .int f_meets, .int f_isTold, .int f_rests, .int f_leastRest, .int f_mostRest, .int f_isWheel, .int f_ended, .int v1.2.1, .ref a_orders, .int v1.2.2.1, .int f_cureAmount, .int f_cureRelay, .int f_cureWhich, .long f_hash])), (a_s, .inl (cI, 88, .inl v7)), (a_past, .inl (cI, 528, .inl v5.2)), (a_text, .inl (cC, 60, .inl f_text)), (a_orders, .inl (cI, 176, .inl v1.2.2.2))] H → va_D A [(a_this, .inr (4, [.int v3.2, .ref a_s, .ref a_then, .ref a_past, .int v5.1, .ref a_text, .int (0 : Int32), .int f_counted, .int f_due, .ref a_met, .ref a_table, .ref a_ways, .ref a_waysOf, .ref a_into, .int f_meets, .int f_isTold, .int f_rests, .int f_leastRest, .int f_mostRest, .int f_isWheel, .int f_ended, .int v1.2.1, .ref a_orders, .int v1.2.2.1, .int f_cureAmount, .int f_cureRelay, .int f_cureWhich, .long f_hash])), (a_s, .inl (cI, 88, .inl v7)), (a_past, .inl (cI, 528, .inl v5.2)), (a_text, .inl (cC, 60, .inl f_text)), (a_orders, .inl (cI, 176, .inl v1.2.2.2))] → va_S A s.heap H locs → ∀ ls : Array Slot, lv_has ls 2 [(0, .ref a_this), (1, .int v6)] → W p l e ({ frames := 7, cells := 0, slots := 0, locals := 155 } : Room) s m (([.ref a_this] : List Value).toArray) below meth c H locs 0 0 (MQ below (zWi D R.1 [(a_this, .inr (4, [.int R.2.1, .ref a_s, .ref a_then, .ref a_past, .int R.2.2.1, .ref a_text, .int R.2.2.2.1, .int f_counted, .int f_due, .ref a_met, .ref a_table, .ref a_ways, .ref a_waysOf, .ref a_into, .int f_meets, .int f_isTold, .int f_rests, .int f_leastRest, .int f_mostRest, .int f_isWheel, .int f_ended, .int R.2.2.2.2.1, .ref a_orders, .int R.2.2.2.2.2.1, .int f_cureAmount, .int f_cureRelay, .int f_cureWhich, .long f_hash])), (a_s, .inl (cI, 88, .inl R.2.2.2.2.2.2.1)), (a_past, .inl (cI, 528, .inl R.2.2.2.2.2.2.2.1)), (a_text, .inl (cC, 60, .inl f_text)), (a_orders, .inl (cI, 176, .inl R.2.2.2.2.2.2.2.2))] A) (([.ref a_this] : List Value).toArray) s 0 0 A) (F0 m 65 ls []) := by
        intro v6 v7 h H locs hP hD hS ls hl
        unfold F_X4_draw_E65 at h
        refine lv_iload_n hx hb dX4_draw_65 rfl (lv_at hl 1 rfl) ?_
        have hR := Option.some.inj h
        subst hR
        exact W.iret (v := v6) hx hb hr (fun t ht hW => ⟨⟨_, (), rfl, rfl, zhp ht hP⟩, hS.F ht⟩) hS.2.2 dX4_draw_66
      refine zlp_i2 (R := R) (P := fun (v8 : Int32) (v9 : Nat → Int32) => ∀ (H : Heap) (locs : List Loc), va_P D vwCl [(a_this, .inr (4, [.int v3.2, .ref a_s, .ref a_then, .ref a_past, .int v5.1, .ref a_text, .int (0 : Int32), .int f_counted, .int f_due, .ref a_met, .ref a_table, .ref a_ways, .ref a_waysOf, .ref a_into, .int f_meets, .int f_isTold, .int f_rests, .int f_leastRest, .int f_mostRest, .int f_isWheel, .int f_ended, .int v1.2.1, .ref a_orders, .int v1.2.2.1, .int f_cureAmount, .int f_cureRelay, .int f_cureWhich, .long f_hash])), (a_s, .inl (cI, 88, .inl v9)), (a_past, .inl (cI, 528, .inl v5.2)), (a_text, .inl (cC, 60, .inl f_text)), (a_orders, .inl (cI, 176, .inl v1.2.2.2))] H → va_D A [(a_this, .inr (4, [.int v3.2, .ref a_s, .ref a_then, .ref a_past, .int v5.1, .ref a_text, .int (0 : Int32), .int f_counted, .int f_due, .ref a_met, .ref a_table, .ref a_ways, .ref a_waysOf, .ref a_into, .int f_meets, .int f_isTold, .int f_rests, .int f_leastRest, .int f_mostRest, .int f_isWheel, .int f_ended, .int v1.2.1, .ref a_orders, .int v1.2.2.1, .int f_cureAmount, .int f_cureRelay, .int f_cureWhich, .long f_hash])), (a_s, .inl (cI, 88, .inl v9)), (a_past, .inl (cI, 528, .inl v5.2)), (a_text, .inl (cC, 60, .inl f_text)), (a_orders, .inl (cI, 176, .inl v1.2.2.2))] → va_S A s.heap H locs → ∀ ls : Array Slot, lv_has ls 2 [(0, .ref a_this), (1, .int v8)] → W p l e ({ frames := 7, cells := 0, slots := 0, locals := 155 } : Room) s m (([.ref a_this] : List Value).toArray) below meth c H locs 0 0 (MQ below (zWi D R.1 [(a_this, .inr (4, [.int R.2.1, .ref a_s, .ref a_then, .ref a_past, .int R.2.2.1, .ref a_text, .int R.2.2.2.1, .int f_counted, .int f_due, .ref a_met, .ref a_table, .ref a_ways, .ref a_waysOf, .ref a_into, .int f_meets, .int f_isTold, .int f_rests, .int f_leastRest, .int f_mostRest, .int f_isWheel, .int f_ended, .int R.2.2.2.2.1, .ref a_orders, .int R.2.2.2.2.2.1, .int f_cureAmount, .int f_cureRelay, .int f_cureWhich, .long f_hash])), (a_s, .inl (cI, 88, .inl R.2.2.2.2.2.2.1)), (a_past, .inl (cI, 528, .inl R.2.2.2.2.2.2.2.1)), (a_text, .inl (cC, 60, .inl f_text)), (a_orders, .inl (cI, 176, .inl R.2.2.2.2.2.2.2.2))] A) (([.ref a_this] : List Value).toArray) s 0 0 A) (F0 m 32 ls [])) (fun rec32 ih32 v8 v9 h => ?_) fu (0 : Int32) f_s h _ _ hP hD hS ls (lv_sub hl [1, 0] rfl)
      intro H locs hP hD hS ls hl
      unfold F_X4_draw_L32 at h
      refine lv_iload_n hx hb dX4_draw_32 rfl (lv_at hl 1 rfl) ?_
      refine lv_aload_n hx hb dX4_draw_33 rfl (lv_at hl 0 rfl) ?_
      refine va_get (D := D) (ci := 4) (v := .int v1.2.2.1) (C := RX4) (T := TX4) (N := 28) hx hb hts hinX4 hown hK hP 0 rfl rfl 23 (by decide) (hts (Cond.fieldLink RX4 186 "LadderRelaysModel" "ordered" "I") (List.mem_of_getElem? (i := 2) rfl)) (fun _ h9 => h9) rfl dX4_draw_34 ?_
      refine lv_icmp_ge (tgt := 65) hx hb dX4_draw_37 (by decide) (fun c10 => ?_) (fun c10 => ?_)
      · have h := zif_t c10 h
        exact E65 v8 v9 h _ _ hP hD hS ls (lv_sub hl [0, 1] rfl)
      · have h := zif_f c10 h
        refine lv_aload_n hx hb dX4_draw_40 rfl (lv_at hl 0 rfl) ?_
        refine lv_bipush (v := (11 : Int32)) hx hb dX4_draw_41 (by decide) ?_
        refine lv_iload_n hx hb dX4_draw_43 rfl (lv_at hl 1 rfl) ?_
        refine lv_imul hx hb dX4_draw_44 ?_
        obtain ⟨v11, hv11, h⟩ := zbnd h
        have hPc := hP.sub (ws' := [(a_this, .inr (4, [.int v3.2, .ref a_s, .ref a_then, .ref a_past, .int v5.1, .ref a_text, .int (0 : Int32), .int f_counted, .int f_due, .ref a_met, .ref a_table, .ref a_ways, .ref a_waysOf, .ref a_into, .int f_meets, .int f_isTold, .int f_rests, .int f_leastRest, .int f_mostRest, .int f_isWheel, .int f_ended, .int v1.2.1, .ref a_orders, .int v1.2.2.1, .int f_cureAmount, .int f_cureRelay, .int f_cureWhich, .long f_hash])), (a_s, .inl (cI, 88, .inl v9)), (a_orders, .inl (cI, 176, .inl v1.2.2.2))]) [0, 1, 4] rfl
        refine zc_i (W.runV (C := RX4) (As := [.int ((11 : Int32) * v8)]) (rest := []) ⟨hx, hb, hml, hown, hts⟩ (c_X4_canDo l D cI cC cO cJ fu a_this a_s a_then a_past a_text a_met a_table a_ways a_waysOf a_into a_orders v3.2 v5.1 (0 : Int32) f_counted f_due f_meets f_isTold f_rests f_leastRest f_mostRest f_isWheel f_ended v1.2.1 v1.2.2.1 f_cureAmount f_cureRelay f_cureWhich f_hash v9 v1.2.2.2 ((11 : Int32) * v8) v11 hv11) (cwV 1 hts gX4_draw_X4_canDo rfl rfl rfl (by decide +kernel) ⟨Nat.le_of_ble_eq_true rfl, Nat.le_of_ble_eq_true rfl⟩) ⟨zPr_blind, (va_recv hK hP (q0 := 0) (ci := 4) rfl rfl), zPr_pre hK hPc⟩ rfl rfl hl.1 rfl (lv_room (Nat.le_of_ble_eq_true rfl)) dX4_draw_45 ⟨Nat.zero_le _, Nat.zero_le _⟩) ?_
        refine lv_if_eq (tgt := 65) hx hb dX4_draw_48 (by decide) (fun c12 => ?_) (fun c12 => ?_)
        · have h := zif_t c12 h
          exact E65 v8 v9 h _ _ hP hD hS ls (lv_sub hl [0, 1] rfl)
        · have h := zif_f c12 h
          refine lv_aload_n hx hb dX4_draw_51 rfl (lv_at hl 0 rfl) ?_
          refine lv_bipush (v := (11 : Int32)) hx hb dX4_draw_52 (by decide) ?_
          refine lv_iload_n hx hb dX4_draw_54 rfl (lv_at hl 1 rfl) ?_
          refine lv_imul hx hb dX4_draw_55 ?_
          obtain ⟨v13, hv13, h⟩ := zbnd h
          have hPc := hP.sub (ws' := [(a_this, .inr (4, [.int v3.2, .ref a_s, .ref a_then, .ref a_past, .int v5.1, .ref a_text, .int (0 : Int32), .int f_counted, .int f_due, .ref a_met, .ref a_table, .ref a_ways, .ref a_waysOf, .ref a_into, .int f_meets, .int f_isTold, .int f_rests, .int f_leastRest, .int f_mostRest, .int f_isWheel, .int f_ended, .int v1.2.1, .ref a_orders, .int v1.2.2.1, .int f_cureAmount, .int f_cureRelay, .int f_cureWhich, .long f_hash])), (a_s, .inl (cI, 88, .inl v9)), (a_orders, .inl (cI, 176, .inl v1.2.2.2))]) [0, 1, 4] rfl
          have hDc := hD.sub (ws' := [(a_this, .inr (4, [.int v3.2, .ref a_s, .ref a_then, .ref a_past, .int v5.1, .ref a_text, .int (0 : Int32), .int f_counted, .int f_due, .ref a_met, .ref a_table, .ref a_ways, .ref a_waysOf, .ref a_into, .int f_meets, .int f_isTold, .int f_rests, .int f_leastRest, .int f_mostRest, .int f_isWheel, .int f_ended, .int v1.2.1, .ref a_orders, .int v1.2.2.1, .int f_cureAmount, .int f_cureRelay, .int f_cureWhich, .long f_hash])), (a_s, .inl (cI, 88, .inl v9)), (a_orders, .inl (cI, 176, .inl v1.2.2.2))]) [0, 1, 4] (by decide) rfl
          have hFc := va_free (wc := [(a_this, .inr (4, [.int v3.2, .ref a_s, .ref a_then, .ref a_past, .int v5.1, .ref a_text, .int (0 : Int32), .int f_counted, .int f_due, .ref a_met, .ref a_table, .ref a_ways, .ref a_waysOf, .ref a_into, .int f_meets, .int f_isTold, .int f_rests, .int f_leastRest, .int f_mostRest, .int f_isWheel, .int f_ended, .int v1.2.1, .ref a_orders, .int v1.2.2.1, .int f_cureAmount, .int f_cureRelay, .int f_cureWhich, .long f_hash])), (a_s, .inl (cI, 88, .inl v9)), (a_orders, .inl (cI, 176, .inl v1.2.2.2))]) hD hS hA [0, 1, 4] rfl
          refine zc_wv (va_runV (C := RX4) (As := [.int ((11 : Int32) * v8)]) (rest := []) ⟨hx, hb, hml, hown, hts⟩ (c_X4_does l D cI cC cO cJ fu a_this a_s a_then a_past a_text a_met a_table a_ways a_waysOf a_into a_orders _ v3.2 v5.1 (0 : Int32) f_counted f_due f_meets f_isTold f_rests f_leastRest f_mostRest f_isWheel f_ended v1.2.1 v1.2.2.1 f_cureAmount f_cureRelay f_cureWhich f_hash v9 v1.2.2.2 ((11 : Int32) * v8) v13 hv13) (cwV 1 hts gX4_draw_X4_does rfl rfl rfl (by decide +kernel) ⟨Nat.le_of_ble_eq_true rfl, Nat.le_of_ble_eq_true rfl⟩) ⟨zPw_blind, (va_recv hK hP (q0 := 0) (ci := 4) rfl rfl), zPw_pre hK hPc hDc⟩ rfl rfl hl.1 rfl (lv_room (Nat.le_of_ble_eq_true rfl)) dX4_draw_56 ⟨Nat.zero_le _, Nat.zero_le _⟩) hS hFc (fun H locs hk1 hP1 hS => ?_)
          obtain ⟨hP, hD⟩ := zjn (ws' := [(a_this, .inr (4, [.int v3.2, .ref a_s, .ref a_then, .ref a_past, .int v5.1, .ref a_text, .int (0 : Int32), .int f_counted, .int f_due, .ref a_met, .ref a_table, .ref a_ways, .ref a_waysOf, .ref a_into, .int f_meets, .int f_isTold, .int f_rests, .int f_leastRest, .int f_mostRest, .int f_isWheel, .int f_ended, .int v1.2.1, .ref a_orders, .int v1.2.2.1, .int f_cureAmount, .int f_cureRelay, .int f_cureWhich, .long f_hash])), (a_s, .inl (cI, 88, .inl v13)), (a_past, .inl (cI, 528, .inl v5.2)), (a_text, .inl (cC, 60, .inl f_text)), (a_orders, .inl (cI, 176, .inl v1.2.2.2))]) hP hD [0, 1, 4] [.inr 0, .inr 1, .inl 2, .inl 3, .inr 2] rfl rfl rfl hk1 hP1
          refine lv_iinc (v := (v8 + (1 : Int32))) (lv' := [(1, .int (v8 + (1 : Int32))), (0, .ref a_this)]) hx hb dX4_draw_59 hl (k := 1) rfl rfl (by decide) rfl (fun ls hl => ?_)
          refine lv_goto (tgt := 32) hx hb dX4_draw_62 (by decide) ?_
          exact ih32 (v8 + (1 : Int32)) v13 h _ _ hP hD hS ls (lv_sub hl [1, 0] rfl)
    · have h := zif_f c4 h
      refine lv_iconst (v := (0 : Int32)) hx hb dX4_draw_19 (by decide) ?_
      have hR := Option.some.inj h
      subst hR
      exact W.iret (v := (0 : Int32)) hx hb hr (fun t ht hW => ⟨⟨_, (), rfl, rfl, zhp ht hP⟩, hS.F ht⟩) hS.2.2 dX4_draw_20
  refine lv_if_eq (tgt := 12) hx hb dX4_draw_5 (by decide) (fun c14 => ?_) (fun c14 => ?_)
  · have h := zif_t c14 h
    refine lv_iconst (v := (1 : Int32)) hx hb dX4_draw_12 (by decide) ?_
    exact J13 (1 : Int32) h _ _ hP hD hS ls (lv_sub hl [0] rfl)
  · have h := zif_f c14 h
    refine lv_iconst (v := (0 : Int32)) hx hb dX4_draw_8 (by decide) ?_
    refine lv_goto (tgt := 13) hx hb dX4_draw_9 (by decide) ?_
    exact J13 (0 : Int32) h _ _ hP hD hS ls (lv_sub hl [0] rfl)
