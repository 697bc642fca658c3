def F_X4_in (fu : Nat) (p0 : Int32) (p1 : Int32) (p2 : Int32) : Option (Int32) := if p0 < p1 then some (0 : Int32) else if p2 < p0 then some (0 : Int32) else some (1 : Int32)
set_option maxHeartbeats 4000000 in
set_option maxRecDepth 100000 in
theorem c_X4_in (l : Launch) (D : va_G) (cI cC cO cJ : ClassId) (fu : Nat) (p0 : Int32) (p1 : Int32) (p2 : Int32) (R : Int32) (h : F_X4_in fu p0 p1 p2 = some R) : Met l yX4_in wsX4_in ({ frames := 0, cells := 0, slots := 0, locals := 0 } : Room) (zPr D (ztys cI cC cO cJ) [] [.int p0, .int p1, .int p2]) (zQi R) 0 0 (fun _ => False) := by
  refine Met.ofW (cc := cX4_in) (maxL := 3) (ret := (some .boolean)) (by decide) rfl ?_
  intro p e s m args below meth c s₁ B hml hv
  obtain ⟨rfl, hP, hK⟩ := hv
  have hx := B.exec
  have hb := B.bytes
  have hr := B.returns
  have hts := atoms_spec (ws := wsX4_in) B.pre
  have hown : s.vm.findClass RX4 = some m.cls := findClass_of_methodNamed B.named
  have hlocks := B.notSynchronized
  have hP : va_P D vwCl [] s.heap := hP
  have hK : va_K D vwCl (ztys cI cC cO cJ) s := hK
  have hl := lv_entry ([.int p0, .int p1, .int p2]) (n := 3) (Nat.le_of_ble_eq_true rfl)
  rw [lg_entry_eq]
  generalize (lg_sl ([.int p0, .int p1, .int p2]) ++ List.replicate (3 - (lg_sl ([.int p0, .int p1, .int p2])).length) Slot.unset).toArray = ls at hl ⊢
  have hl : lv_has ls 3 [(0, .int p0), (1, .int p1), (2, .int p2)] := hl
  unfold F_X4_in at h
  refine lv_iload_n hx hb dX4_in_0 rfl (lv_at hl 0 rfl) ?_
  refine lv_iload_n hx hb dX4_in_1 rfl (lv_at hl 1 rfl) ?_
  refine lv_icmp_lt (tgt := 14) hx hb dX4_in_2 (by decide) (fun c1 => ?_) (fun c1 => ?_)
  · have h := zif_t c1 h
    refine lv_iconst (v := (0 : Int32)) hx hb dX4_in_14 (by decide) ?_
    have hR := Option.some.inj h
    subst hR
    exact W.zret (v := (0 : Int32)) (ty := .boolean) hx hb hr rfl (fun t ht hW => ⟨_, rfl, rfl, ht⟩) (fun q hq => absurd hq List.not_mem_nil) dX4_in_15
  · have h := zif_f c1 h
    refine lv_iload_n hx hb dX4_in_5 rfl (lv_at hl 0 rfl) ?_
    refine lv_iload_n hx hb dX4_in_6 rfl (lv_at hl 2 rfl) ?_
    refine lv_icmp_gt (tgt := 14) hx hb dX4_in_7 (by decide) (fun c2 => ?_) (fun c2 => ?_)
    · have h := zif_t c2 h
      refine lv_iconst (v := (0 : Int32)) hx hb dX4_in_14 (by decide) ?_
      have hR := Option.some.inj h
      subst hR
      exact W.zret (v := (0 : Int32)) (ty := .boolean) hx hb hr rfl (fun t ht hW => ⟨_, rfl, rfl, ht⟩) (fun q hq => absurd hq List.not_mem_nil) dX4_in_15
    · have h := zif_f c2 h
      refine lv_iconst (v := (1 : Int32)) hx hb dX4_in_10 (by decide) ?_
      refine lv_goto (tgt := 15) hx hb dX4_in_11 (by decide) ?_
      have hR := Option.some.inj h
      subst hR
      exact W.zret (v := (1 : Int32)) (ty := .boolean) hx hb hr rfl (fun t ht hW => ⟨_, rfl, rfl, ht⟩) (fun q hq => absurd hq List.not_mem_nil) dX4_in_15
def F_X4_thrown (fu : Nat) (f_thrown : Int32) : Option (Int32) := some f_thrown
set_option maxHeartbeats 4000000 in
set_option maxRecDepth 100000 in
theorem c_X4_thrown (l : Launch) (D : va_G) (cI cC cO cJ : ClassId) (fu : Nat) (a_this a_s a_then a_past a_text a_met a_table a_ways a_waysOf a_into a_orders : Nat) (f_thrown : Int32) (f_saved : Int32) (f_length : Int32) (f_counted : Int32) (f_due : Int32) (f_meets : Int32) (f_isTold : Int32) (f_rests : Int32) (f_leastRest : Int32) (f_mostRest : Int32) (f_isWheel : Int32) (f_ended : Int32) (f_spot : Int32) (f_ordered : Int32) (f_cureAmount : Int32) (f_cureRelay : Int32) (f_cureWhich : Int32) (f_hash : Int64) (R : Int32) (h : F_X4_thrown fu f_thrown = some R) : Met l yX4_thrown wsX4_thrown ({ frames := 0, cells := 0, slots := 0, locals := 0 } : Room) (zPr D (ztys cI cC cO cJ) [(a_this, .inr (4, [.int f_thrown, .ref a_s, .ref a_then, .ref a_past, .int f_saved, .ref a_text, .int f_length, .int f_counted, .int f_due, .ref a_met, .ref a_table, .ref a_ways, .ref a_waysOf, .ref a_into, .int f_meets, .int f_isTold, .int f_rests, .int f_leastRest, .int f_mostRest, .int f_isWheel, .int f_ended, .int f_spot, .ref a_orders, .int f_ordered, .int f_cureAmount, .int f_cureRelay, .int f_cureWhich, .long f_hash]))] [.ref a_this]) (zQi R) 0 0 (fun _ => False) := by
  refine Met.ofW (cc := cX4_thrown) (maxL := 1) (ret := (some .int)) (by decide) rfl ?_
  intro p e s m args below meth c s₁ B hml hv
  obtain ⟨rfl, hP, hK⟩ := hv
  have hx := B.exec
  have hb := B.bytes
  have hr := B.returns
  have hts := atoms_spec (ws := wsX4_thrown) B.pre
  have hown : s.vm.findClass RX4 = some m.cls := findClass_of_methodNamed B.named
  have hlocks := B.notSynchronized
  have hinX4 : ∀ w ∈ wsX40, w ∈ wsX4_thrown := fun _ h => (List.mem_cons_of_mem _ (List.mem_append_right _ h))
  have hP : va_P D vwCl [(a_this, .inr (4, [.int f_thrown, .ref a_s, .ref a_then, .ref a_past, .int f_saved, .ref a_text, .int f_length, .int f_counted, .int f_due, .ref a_met, .ref a_table, .ref a_ways, .ref a_waysOf, .ref a_into, .int f_meets, .int f_isTold, .int f_rests, .int f_leastRest, .int f_mostRest, .int f_isWheel, .int f_ended, .int f_spot, .ref a_orders, .int f_ordered, .int f_cureAmount, .int f_cureRelay, .int f_cureWhich, .long f_hash]))] s.heap := hP
  have hK : va_K D vwCl (ztys cI cC cO cJ) s := hK
  have hl := lv_entry ([.ref a_this]) (n := 1) (Nat.le_of_ble_eq_true rfl)
  rw [lg_entry_eq]
  generalize (lg_sl ([.ref a_this]) ++ List.replicate (1 - (lg_sl ([.ref a_this])).length) Slot.unset).toArray = ls at hl ⊢
  have hl : lv_has ls 1 [(0, .ref a_this)] := hl
  unfold F_X4_thrown at h
  refine lv_aload_n hx hb dX4_thrown_0 rfl (lv_at hl 0 rfl) ?_
  refine va_get (D := D) (ci := 4) (v := .int f_thrown) (C := RX4) (T := TX4) (N := 28) hx hb hts hinX4 hown hK hP 0 rfl rfl 0 (by decide) (hts (Cond.fieldLink RX4 41 "LadderRelaysModel" "thrown" "I") (List.mem_of_getElem? (i := 1) rfl)) (fun _ h9 => h9) rfl dX4_thrown_1 ?_
  have hR := Option.some.inj h
  subst hR
  exact W.iret (v := f_thrown) hx hb hr (fun t ht hW => ⟨_, rfl, rfl, ht⟩) (fun q hq => absurd hq List.not_mem_nil) dX4_thrown_4
def F_X4_refuses (fu : Nat) (f_thrown : Int32) (p0 : Int32) : Option (Int32 × Int32) := if p0 ≤ (0 : Int32) then some ((0 : Int32), p0) else some ((1 : Int32), p0)
set_option maxHeartbeats 4000000 in
set_option maxRecDepth 100000 in
theorem c_X4_refuses (l : Launch) (D : va_G) (cI cC cO cJ : ClassId) (fu : Nat) (a_this a_s a_then a_past a_text a_met a_table a_ways a_waysOf a_into a_orders : Nat) (sz : Nat) (f_thrown : Int32) (f_saved : Int32) (f_length : Int32) (f_counted : Int32) (f_due : Int32) (f_meets : Int32) (f_isTold : Int32) (f_rests : Int32) (f_leastRest : Int32) (f_mostRest : Int32) (f_isWheel : Int32) (f_ended : Int32) (f_spot : Int32) (f_ordered : Int32) (f_cureAmount : Int32) (f_cureRelay : Int32) (f_cureWhich : Int32) (f_hash : Int64) (p0 : Int32) (R : Int32 × Int32) (h : F_X4_refuses fu f_thrown p0 = some R) : Met l yX4_refuses wsX4_refuses ({ frames := 0, cells := 0, slots := 0, locals := 0 } : Room) (zPw D (ztys cI cC cO cJ) [(a_this, .inr (4, [.int f_thrown, .ref a_s, .ref a_then, .ref a_past, .int f_saved, .ref a_text, .int f_length, .int f_counted, .int f_due, .ref a_met, .ref a_table, .ref a_ways, .ref a_waysOf, .ref a_into, .int f_meets, .int f_isTold, .int f_rests, .int f_leastRest, .int f_mostRest, .int f_isWheel, .int f_ended, .int f_spot, .ref a_orders, .int f_ordered, .int f_cureAmount, .int f_cureRelay, .int f_cureWhich, .long f_hash]))] sz [.ref a_this, .int p0]) (zWi D R.1 [(a_this, .inr (4, [.int R.2, .ref a_s, .ref a_then, .ref a_past, .int f_saved, .ref a_text, .int f_length, .int f_counted, .int f_due, .ref a_met, .ref a_table, .ref a_ways, .ref a_waysOf, .ref a_into, .int f_meets, .int f_isTold, .int f_rests, .int f_leastRest, .int f_mostRest, .int f_isWheel, .int f_ended, .int f_spot, .ref a_orders, .int f_ordered, .int f_cureAmount, .int f_cureRelay, .int f_cureWhich, .long f_hash]))] (va_A [(a_this, .inr (4, [.int f_thrown, .ref a_s, .ref a_then, .ref a_past, .int f_saved, .ref a_text, .int f_length, .int f_counted, .int f_due, .ref a_met, .ref a_table, .ref a_ways, .ref a_waysOf, .ref a_into, .int f_meets, .int f_isTold, .int f_rests, .int f_leastRest, .int f_mostRest, .int f_isWheel, .int f_ended, .int f_spot, .ref a_orders, .int f_ordered, .int f_cureAmount, .int f_cureRelay, .int f_cureWhich, .long f_hash]))] sz)) 0 0 (va_A [(a_this, .inr (4, [.int f_thrown, .ref a_s, .ref a_then, .ref a_past, .int f_saved, .ref a_text, .int f_length, .int f_counted, .int f_due, .ref a_met, .ref a_table, .ref a_ways, .ref a_waysOf, .ref a_into, .int f_meets, .int f_isTold, .int f_rests, .int f_leastRest, .int f_mostRest, .int f_isWheel, .int f_ended, .int f_spot, .ref a_orders, .int f_ordered, .int f_cureAmount, .int f_cureRelay, .int f_cureWhich, .long f_hash]))] sz) := by
  refine Met.ofW (cc := cX4_refuses) (maxL := 2) (ret := (some .boolean)) (by decide) rfl ?_
  intro p e s m args below meth c s₁ B hml hv
  obtain ⟨rfl, hsz, hP, hK, hD0⟩ := hv
  have hx := B.exec
  have hb := B.bytes
  have hr := B.returns
  have hts := atoms_spec (ws := wsX4_refuses) B.pre
  have hown : s.vm.findClass RX4 = some m.cls := findClass_of_methodNamed B.named
  have hlocks := B.notSynchronized
  have hinX4 : ∀ w ∈ wsX40, w ∈ wsX4_refuses := fun _ h => (List.mem_cons_of_mem _ (List.mem_append_right _ h))
  subst hsz
  have hD := hD0.self (sz := s.heap.size)
  generalize hAe : va_A [(a_this, .inr (4, [.int f_thrown, .ref a_s, .ref a_then, .ref a_past, .int f_saved, .ref a_text, .int f_length, .int f_counted, .int f_due, .ref a_met, .ref a_table, .ref a_ways, .ref a_waysOf, .ref a_into, .int f_meets, .int f_isTold, .int f_rests, .int f_leastRest, .int f_mostRest, .int f_isWheel, .int f_ended, .int f_spot, .ref a_orders, .int f_ordered, .int f_cureAmount, .int f_cureRelay, .int f_cureWhich, .long f_hash]))] s.heap.size = A at hD ⊢
  have hA : ∀ q : Nat, s.heap.size ≤ q → A q := fun q h => by rw [← hAe]; exact Or.inr h
  have hS : va_S A s.heap s.heap [] := va_S.rf
  have hP : va_P D vwCl [(a_this, .inr (4, [.int f_thrown, .ref a_s, .ref a_then, .ref a_past, .int f_saved, .ref a_text, .int f_length, .int f_counted, .int f_due, .ref a_met, .ref a_table, .ref a_ways, .ref a_waysOf, .ref a_into, .int f_meets, .int f_isTold, .int f_rests, .int f_leastRest, .int f_mostRest, .int f_isWheel, .int f_ended, .int f_spot, .ref a_orders, .int f_ordered, .int f_cureAmount, .int f_cureRelay, .int f_cureWhich, .long f_hash]))] s.heap := hP
  have hK : va_K D vwCl (ztys cI cC cO cJ) s := hK
  have hl := lv_entry ([.ref a_this, .int p0]) (n := 2) (Nat.le_of_ble_eq_true rfl)
  rw [lg_entry_eq]
  generalize (lg_sl ([.ref a_this, .int p0]) ++ List.replicate (2 - (lg_sl ([.ref a_this, .int p0])).length) Slot.unset).toArray = ls at hl ⊢
  have hl : lv_has ls 2 [(0, .ref a_this), (1, .int p0)] := hl
  unfold F_X4_refuses at h
  refine lv_aload_n hx hb dX4_refuses_0 rfl (lv_at hl 0 rfl) ?_
  refine lv_iload_n hx hb dX4_refuses_1 rfl (lv_at hl 1 rfl) ?_
  refine va_put (D := D) (ci := 4) (v := .int p0) (ty := .int) (C := RX4) (T := TX4) (N := 28) hx hb hts hinX4 tyX4 tyX4_ok nmX4 hown hK hP hD hS 0 rfl rfl 0 (by decide) (hts (Cond.fieldLink RX4 41 "LadderRelaysModel" "thrown" "I") (List.mem_of_getElem? (i := 1) rfl)) (fun _ h9 => h9) rfl (by decide +kernel) rfl rfl (Nat.le_of_ble_eq_true rfl) dX4_refuses_2 (fun H locs hP hD hS => ?_)
  have hP : va_P D vwCl [(a_this, .inr (4, [.int p0, .ref a_s, .ref a_then, .ref a_past, .int f_saved, .ref a_text, .int f_length, .int f_counted, .int f_due, .ref a_met, .ref a_table, .ref a_ways, .ref a_waysOf, .ref a_into, .int f_meets, .int f_isTold, .int f_rests, .int f_leastRest, .int f_mostRest, .int f_isWheel, .int f_ended, .int f_spot, .ref a_orders, .int f_ordered, .int f_cureAmount, .int f_cureRelay, .int f_cureWhich, .long f_hash]))] H := hP
  have hD : va_D A [(a_this, .inr (4, [.int p0, .ref a_s, .ref a_then, .ref a_past, .int f_saved, .ref a_text, .int f_length, .int f_counted, .int f_due, .ref a_met, .ref a_table, .ref a_ways, .ref a_waysOf, .ref a_into, .int f_meets, .int f_isTold, .int f_rests, .int f_leastRest, .int f_mostRest, .int f_isWheel, .int f_ended, .int f_spot, .ref a_orders, .int f_ordered, .int f_cureAmount, .int f_cureRelay, .int f_cureWhich, .long f_hash]))] := hD
  refine lv_iload_n hx hb dX4_refuses_5 rfl (lv_at hl 1 rfl) ?_
  refine lv_if_le (tgt := 13) hx hb dX4_refuses_6 (by decide) (fun c1 => ?_) (fun c1 => ?_)
  · have h := zif_t c1 h
    refine lv_iconst (v := (0 : Int32)) hx hb dX4_refuses_13 (by decide) ?_
    have hR := Option.some.inj h
    subst hR
    exact W.zret (v := (0 : Int32)) (ty := .boolean) hx hb hr rfl (fun t ht hW => ⟨⟨_, (), rfl, rfl, zhp ht hP⟩, hS.F ht⟩) hS.2.2 dX4_refuses_14
  · have h := zif_f c1 h
    refine lv_iconst (v := (1 : Int32)) hx hb dX4_refuses_9 (by decide) ?_
    refine lv_goto (tgt := 14) hx hb dX4_refuses_10 (by decide) ?_
    have hR := Option.some.inj h
    subst hR
    exact W.zret (v := (1 : Int32)) (ty := .boolean) hx hb hr rfl (fun t ht hW => ⟨⟨_, (), rfl, rfl, zhp ht hP⟩, hS.F ht⟩) hS.2.2 dX4_refuses_14
def F_X4_isTime (fu : Nat) (p0 : Int32) : Option (Int32) := (F_X4_in fu p0 (0 : Int32) (9 : Int32)).bind fun v1 => (zbo v1).bind fun v2 => some v2
set_option maxHeartbeats 4000000 in
set_option maxRecDepth 100000 in
theorem c_X4_isTime (l : Launch) (D : va_G) (cI cC cO cJ : ClassId) (fu : Nat) (p0 : Int32) (R : Int32) (h : F_X4_isTime fu p0 = some R) : Met l yX4_isTime wsX4_isTime ({ frames := 1, cells := 0, slots := 0, locals := 22 } : Room) (zPr D (ztys cI cC cO cJ) [] [.int p0]) (zQi R) 0 0 (fun _ => False) := by
  refine Met.ofW (cc := cX4_isTime) (maxL := 1) (ret := (some .boolean)) (by decide) rfl ?_
  intro p e s m args below meth c s₁ B hml hv
  obtain ⟨rfl, hP, hK⟩ := hv
  have hx := B.exec
  have hb := B.bytes
  have hr := B.returns
  have hts := atoms_spec (ws := wsX4_isTime) B.pre
  have hown : s.vm.findClass RX4 = some m.cls := findClass_of_methodNamed B.named
  have hlocks := B.notSynchronized
  have hP : va_P D vwCl [] s.heap := hP
  have hK : va_K D vwCl (ztys cI cC cO cJ) s := hK
  have hl := lv_entry ([.int p0]) (n := 1) (Nat.le_of_ble_eq_true rfl)
  rw [lg_entry_eq]
  generalize (lg_sl ([.int p0]) ++ List.replicate (1 - (lg_sl ([.int p0])).length) Slot.unset).toArray = ls at hl ⊢
  have hl : lv_has ls 1 [(0, .int p0)] := hl
  unfold F_X4_isTime at h
  refine lv_iload_n hx hb dX4_isTime_0 rfl (lv_at hl 0 rfl) ?_
  refine lv_iconst (v := (0 : Int32)) hx hb dX4_isTime_1 (by decide) ?_
  refine lv_bipush (v := (9 : Int32)) hx hb dX4_isTime_2 (by decide) ?_
  obtain ⟨v1, hv1, h⟩ := zbnd h
  refine zc_i (W.runS (As := [.int p0, .int (0 : Int32), .int (9 : Int32)]) (rest := []) ⟨hx, hb, hml, hown, hts⟩ (c_X4_in l D cI cC cO cJ fu p0 (0 : Int32) (9 : Int32) v1 hv1) (va_cwS 3 hts gX4_isTime_X4_in rfl rfl rfl (by decide +kernel) ⟨Nat.le_of_ble_eq_true rfl, Nat.le_of_ble_eq_true rfl⟩) (zPr_S hK zP_nil) rfl rfl hl.1 rfl (lv_room (Nat.le_of_ble_eq_true rfl)) dX4_isTime_4 ⟨Nat.zero_le _, Nat.zero_le _⟩) ?_
  obtain ⟨v2, hbv2, h⟩ := zbnd h
  obtain ⟨hbv2, hev2⟩ := zbo_some hbv2
  rw [hev2]
  have hR := Option.some.inj h
  subst hR
  exact W.zret (v := v2) (ty := .boolean) hx hb hr (by rcases hbv2 with q | q <;> rw [q] <;> rfl) (fun t ht hW => ⟨_, rfl, rfl, ht⟩) (fun q hq => absurd hq List.not_mem_nil) dX4_isTime_7
def F_X4_ones_E24  (v1 : Int32) (v2 : Int32) : Option (Int32) := some v1
def F_X4_ones_L4 (p0 : Int32) (k4 : Int32 → Int32 → Option (Int32)) (rec4 : Int32 → Int32 → Option (Int32)) (v3 : Int32) (v4 : Int32) : Option (Int32) := if (16 : Int32) ≤ v4 then k4 v3 v4 else rec4 (v3 + ((p0 >>> (v4 &&& (31 : Int32))) &&& (1 : Int32))) (v4 + (1 : Int32))
def F_X4_ones (fu : Nat) (p0 : Int32) : Option (Int32) := zlp2 (F_X4_ones_L4 p0 (F_X4_ones_E24)) fu (0 : Int32) (0 : Int32)
set_option maxHeartbeats 4000000 in
set_option maxRecDepth 100000 in
theorem c_X4_ones (l : Launch) (D : va_G) (cI cC cO cJ : ClassId) (fu : Nat) (p0 : Int32) (R : Int32) (h : F_X4_ones fu p0 = some R) : Met l yX4_ones wsX4_ones ({ frames := 0, cells := 0, slots := 0, locals := 0 } : Room) (zPr D (ztys cI cC cO cJ) [] [.int p0]) (zQi R) 0 0 (fun _ => False) := by
  refine Met.ofW (cc := cX4_ones) (maxL := 3) (ret := (some .int)) (by decide) rfl ?_
  intro p e s m args below meth c s₁ B hml hv
  obtain ⟨rfl, hP, hK⟩ := hv
  have hx := B.exec
  have hb := B.bytes
  have hr := B.returns
  have hts := atoms_spec (ws := wsX4_ones) B.pre
  have hown : s.vm.findClass RX4 = some m.cls := findClass_of_methodNamed B.named
  have hlocks := B.notSynchronized
  have hP : va_P D vwCl [] s.heap := hP
  have hK : va_K D vwCl (ztys cI cC cO cJ) s := hK
  have hl := lv_entry ([.int p0]) (n := 3) (Nat.le_of_ble_eq_true rfl)
  rw [lg_entry_eq]
  generalize (lg_sl ([.int p0]) ++ List.replicate (3 - (lg_sl ([.int p0])).length) Slot.unset).toArray = ls at hl ⊢
  have hl : lv_has ls 3 [(0, .int p0)] := hl
  unfold F_X4_ones at h
  refine lv_iconst (v := (0 : Int32)) hx hb dX4_ones_0 (by decide) ?_
  refine lv_istore_n (lv' := [(1, .int (0 : Int32)), (0, .int p0)]) hx hb dX4_ones_1 rfl hl (by decide) rfl (fun ls hl => ?_)
  refine lv_iconst (v := (0 : Int32)) hx hb dX4_ones_2 (by decide) ?_
  refine lv_istore_n (lv' := [(2, .int (0 : Int32)), (1, .int (0 : Int32)), (0, .int p0)]) hx hb dX4_ones_3 rfl hl (by decide) rfl (fun ls hl => ?_)
  have E24 : ∀ (v1 : Int32) (v2 : Int32), F_X4_ones_E24 v1 v2 = some R → ∀ ls : Array Slot, lv_has ls 3 [(0, .int p0), (1, .int v1), (2, .int v2)] → W p l e ({ frames := 0, cells := 0, slots := 0, locals := 0 } : Room) s m (([.int p0] : List Value).toArray) below meth c s.heap [] 0 0 (MQ below (zQi R) (([.int p0] : List Value).toArray) s 0 0 (fun _ => False)) (F0 m 24 ls []) := by
    intro v1 v2 h ls hl
    unfold F_X4_ones_E24 at h
    refine lv_iload_n hx hb dX4_ones_24 rfl (lv_at hl 1 rfl) ?_
    have hR := Option.some.inj h
    subst hR
    exact W.iret (v := v1) hx hb hr (fun t ht hW => ⟨_, rfl, rfl, ht⟩) (fun q hq => absurd hq List.not_mem_nil) dX4_ones_25
  refine zlp_i2 (R := R) (P := fun (v3 : Int32) (v4 : Int32) => ∀ ls : Array Slot, lv_has ls 3 [(0, .int p0), (1, .int v3), (2, .int v4)] → W p l e ({ frames := 0, cells := 0, slots := 0, locals := 0 } : Room) s m (([.int p0] : List Value).toArray) below meth c s.heap [] 0 0 (MQ below (zQi R) (([.int p0] : List Value).toArray) s 0 0 (fun _ => False)) (F0 m 4 ls [])) (fun rec4 ih4 v3 v4 h => ?_) fu (0 : Int32) (0 : Int32) h ls (lv_sub hl [2, 1, 0] rfl)
  intro ls hl
  unfold F_X4_ones_L4 at h
  refine lv_iload_n hx hb dX4_ones_4 rfl (lv_at hl 2 rfl) ?_
  refine lv_bipush (v := (16 : Int32)) hx hb dX4_ones_5 (by decide) ?_
  refine lv_icmp_ge (tgt := 24) hx hb dX4_ones_7 (by decide) (fun c5 => ?_) (fun c5 => ?_)
  · have h := zif_t c5 h
    exact E24 v3 v4 h ls (lv_sub hl [0, 1, 2] rfl)
  · have h := zif_f c5 h
    refine lv_iload_n hx hb dX4_ones_10 rfl (lv_at hl 1 rfl) ?_
    refine lv_iload_n hx hb dX4_ones_11 rfl (lv_at hl 0 rfl) ?_
    refine lv_iload_n hx hb dX4_ones_12 rfl (lv_at hl 2 rfl) ?_
    refine lv_ishr hx hb dX4_ones_13 ?_
    refine lv_iconst (v := (1 : Int32)) hx hb dX4_ones_14 (by decide) ?_
    refine lv_iand hx hb dX4_ones_15 ?_
    refine lv_iadd hx hb dX4_ones_16 ?_
    refine lv_istore_n (lv' := [(1, .int (v3 + ((p0 >>> (v4 &&& (31 : Int32))) &&& (1 : Int32)))), (0, .int p0), (2, .int v4)]) hx hb dX4_ones_17 rfl hl (by decide) rfl (fun ls hl => ?_)
    refine lv_iinc (v := (v4 + (1 : Int32))) (lv' := [(2, .int (v4 + (1 : Int32))), (1, .int (v3 + ((p0 >>> (v4 &&& (31 : Int32))) &&& (1 : Int32)))), (0, .int p0)]) hx hb dX4_ones_18 hl (k := 2) rfl rfl (by decide) rfl (fun ls hl => ?_)
    refine lv_goto (tgt := 4) hx hb dX4_ones_21 (by decide) ?_
    exact ih4 (v3 + ((p0 >>> (v4 &&& (31 : Int32))) &&& (1 : Int32))) (v4 + (1 : Int32)) h ls (lv_sub hl [2, 1, 0] rfl)
def F_X4_of (fu : Nat) (f_p0 : Nat → Int32) (n_p0 : Nat) (p1 : Int32) (p2 : Int32) : Option (Int32) := (zrd f_p0 n_p0 (((4 : Int32) + ((14 : Int32) * p1)) + p2)).bind fun v1 => some v1
set_option maxHeartbeats 4000000 in
set_option maxRecDepth 100000 in
theorem c_X4_of (l : Launch) (D : va_G) (cI cC cO cJ : ClassId) (fu : Nat) (a_p0 : Nat) (f_p0 : Nat → Int32) (n_p0 : Nat) (p1 : Int32) (p2 : Int32) (R : Int32) (h : F_X4_of fu f_p0 n_p0 p1 p2 = some R) : Met l yX4_of wsX4_of ({ frames := 0, cells := 0, slots := 0, locals := 0 } : Room) (zPr D (ztys cI cC cO cJ) [(a_p0, .inl (cI, n_p0, .inl f_p0))] [.ref a_p0, .int p1, .int p2]) (zQi R) 0 0 (fun _ => False) := by
  refine Met.ofW (cc := cX4_of) (maxL := 3) (ret := (some .int)) (by decide) rfl ?_
  intro p e s m args below meth c s₁ B hml hv
  obtain ⟨rfl, hP, hK⟩ := hv
  have hx := B.exec
  have hb := B.bytes
  have hr := B.returns
  have hts := atoms_spec (ws := wsX4_of) B.pre
  have hown : s.vm.findClass RX4 = some m.cls := findClass_of_methodNamed B.named
  have hlocks := B.notSynchronized
  have hP : va_P D vwCl [(a_p0, .inl (cI, n_p0, .inl f_p0))] s.heap := hP
  have hK : va_K D vwCl (ztys cI cC cO cJ) s := hK
  have hl := lv_entry ([.ref a_p0, .int p1, .int p2]) (n := 3) (Nat.le_of_ble_eq_true rfl)
  rw [lg_entry_eq]
  generalize (lg_sl ([.ref a_p0, .int p1, .int p2]) ++ List.replicate (3 - (lg_sl ([.ref a_p0, .int p1, .int p2])).length) Slot.unset).toArray = ls at hl ⊢
  have hl : lv_has ls 3 [(0, .ref a_p0), (1, .int p1), (2, .int p2)] := hl
  unfold F_X4_of at h
  refine lv_aload_n hx hb dX4_of_0 rfl (lv_at hl 0 rfl) ?_
  refine lv_iconst (v := (4 : Int32)) hx hb dX4_of_1 (by decide) ?_
  refine lv_bipush (v := (14 : Int32)) hx hb dX4_of_2 (by decide) ?_
  refine lv_iload_n hx hb dX4_of_4 rfl (lv_at hl 1 rfl) ?_
  refine lv_imul hx hb dX4_of_5 ?_
  refine lv_iadd hx hb dX4_of_6 ?_
  refine lv_iload_n hx hb dX4_of_7 rfl (lv_at hl 2 rfl) ?_
  refine lv_iadd hx hb dX4_of_8 ?_
  obtain ⟨v1, hv1, h⟩ := zbnd h
  refine zr_iald hx hb hK hP 0 0 rfl rfl hv1 dX4_of_9 ?_
  have hR := Option.some.inj h
  subst hR
  exact W.iret (v := v1) hx hb hr (fun t ht hW => ⟨_, rfl, rfl, ht⟩) (fun q hq => absurd hq List.not_mem_nil) dX4_of_10
def F_X4_puts (fu : Nat) (f_p0 : Nat → Int32) (n_p0 : Nat) (p1 : Int32) (p2 : Int32) (p3 : Int32) : Option ((Nat → Int32)) := (zwr f_p0 n_p0 (((4 : Int32) + ((14 : Int32) * p1)) + p2) p3).bind fun v1 => some v1
set_option maxHeartbeats 4000000 in
set_option maxRecDepth 100000 in
theorem c_X4_puts (l : Launch) (D : va_G) (cI cC cO cJ : ClassId) (fu : Nat) (a_p0 : Nat) (sz : Nat) (f_p0 : Nat → Int32) (n_p0 : Nat) (p1 : Int32) (p2 : Int32) (p3 : Int32) (R : (Nat → Int32)) (h : F_X4_puts fu f_p0 n_p0 p1 p2 p3 = some R) : Met l yX4_puts wsX4_puts ({ frames := 0, cells := 0, slots := 0, locals := 0 } : Room) (zPw D (ztys cI cC cO cJ) [(a_p0, .inl (cI, n_p0, .inl f_p0))] sz [.ref a_p0, .int p1, .int p2, .int p3]) (zWv D [(a_p0, .inl (cI, n_p0, .inl R))] (va_A [(a_p0, .inl (cI, n_p0, .inl f_p0))] sz)) 0 0 (va_A [(a_p0, .inl (cI, n_p0, .inl f_p0))] sz) := by
  refine Met.ofW (cc := cX4_puts) (maxL := 4) (ret := none) (by decide) rfl ?_
  intro p e s m args below meth c s₁ B hml hv
  obtain ⟨rfl, hsz, hP, hK, hD0⟩ := hv
  have hx := B.exec
  have hb := B.bytes
  have hr := B.returns
  have hts := atoms_spec (ws := wsX4_puts) B.pre
  have hown : s.vm.findClass RX4 = some m.cls := findClass_of_methodNamed B.named
  have hlocks := B.notSynchronized
  subst hsz
  have hD := hD0.self (sz := s.heap.size)
  generalize hAe : va_A [(a_p0, .inl (cI, n_p0, .inl f_p0))] s.heap.size = A at hD ⊢
  have hA : ∀ q : Nat, s.heap.size ≤ q → A q := fun q h => by rw [← hAe]; exact Or.inr h
  have hS : va_S A s.heap s.heap [] := va_S.rf
  have hP : va_P D vwCl [(a_p0, .inl (cI, n_p0, .inl f_p0))] s.heap := hP
  have hK : va_K D vwCl (ztys cI cC cO cJ) s := hK
  have hl := lv_entry ([.ref a_p0, .int p1, .int p2, .int p3]) (n := 4) (Nat.le_of_ble_eq_true rfl)
  rw [lg_entry_eq]
  generalize (lg_sl ([.ref a_p0, .int p1, .int p2, .int p3]) ++ List.replicate (4 - (lg_sl ([.ref a_p0, .int p1, .int p2, .int p3])).length) Slot.unset).toArray = ls at hl ⊢
  have hl : lv_has ls 4 [(0, .ref a_p0), (1, .int p1), (2, .int p2), (3, .int p3)] := hl
  unfold F_X4_puts at h
  refine lv_aload_n hx hb dX4_puts_0 rfl (lv_at hl 0 rfl) ?_
  refine lv_iconst (v := (4 : Int32)) hx hb dX4_puts_1 (by decide) ?_
  refine lv_bipush (v := (14 : Int32)) hx hb dX4_puts_2 (by decide) ?_
  refine lv_iload_n hx hb dX4_puts_4 rfl (lv_at hl 1 rfl) ?_
  refine lv_imul hx hb dX4_puts_5 ?_
  refine lv_iadd hx hb dX4_puts_6 ?_
  refine lv_iload_n hx hb dX4_puts_7 rfl (lv_at hl 2 rfl) ?_
  refine lv_iadd hx hb dX4_puts_8 ?_
  refine lv_iload_n hx hb dX4_puts_9 rfl (lv_at hl 3 rfl) ?_
  obtain ⟨v1, hv1, h⟩ := zbnd h
  refine zr_iast hx hb hK hP hD hS 0 0 rfl rfl hv1 dX4_puts_10 (fun H locs hP hD hS => ?_)
  have hP : va_P D vwCl [(a_p0, .inl (cI, n_p0, .inl v1))] H := hP
  have hD : va_D A [(a_p0, .inl (cI, n_p0, .inl v1))] := hD
  have hR := Option.some.inj h
  subst hR
  exact W.vret hx hb hr (fun t ht hW => ⟨⟨(), rfl, trivial, zhp ht hP⟩, hS.F ht⟩) hS.2.2 dX4_puts_11
def F_X4_isRelay (fu : Nat) (f_s : Nat → Int32) (p0 : Int32) : Option (Int32) := (zrd f_s 88 (0 : Int32)).bind fun v1 => (F_X4_in fu p0 (0 : Int32) (v1 - (1 : Int32))).bind fun v2 => (zbo v2).bind fun v3 => some v3
set_option maxHeartbeats 4000000 in
set_option maxRecDepth 100000 in
theorem c_X4_isRelay (l : Launch) (D : va_G) (cI cC cO cJ : ClassId) (fu : Nat) (a_this a_s a_then a_past a_text a_met a_table a_ways a_waysOf a_into a_orders : Nat) (f_thrown : Int32) (f_saved : Int32) (f_length : Int32) (f_counted : Int32) (f_due : Int32) (f_meets : Int32) (f_isTold : Int32) (f_rests : Int32) (f_leastRest : Int32) (f_mostRest : Int32) (f_isWheel : Int32) (f_ended : Int32) (f_spot : Int32) (f_ordered : Int32) (f_cureAmount : Int32) (f_cureRelay : Int32) (f_cureWhich : Int32) (f_hash : Int64) (f_s : Nat → Int32) (p0 : Int32) (R : Int32) (h : F_X4_isRelay fu f_s p0 = some R) : Met l yX4_isRelay wsX4_isRelay ({ frames := 1, cells := 0, slots := 0, locals := 22 } : Room) (zPr D (ztys cI cC cO cJ) [(a_this, .inr (4, [.int f_thrown, .ref a_s, .ref a_then, .ref a_past, .int f_saved, .ref a_text, .int f_length, .int f_counted, .int f_due, .ref a_met, .ref a_table, .ref a_ways, .ref a_waysOf, .ref a_into, .int f_meets, .int f_isTold, .int f_rests, .int f_leastRest, .int f_mostRest, .int f_isWheel, .int f_ended, .int f_spot, .ref a_orders, .int f_ordered, .int f_cureAmount, .int f_cureRelay, .int f_cureWhich, .long f_hash])), (a_s, .inl (cI, 88, .inl f_s))] [.ref a_this, .int p0]) (zQi R) 0 0 (fun _ => False) := by
  refine Met.ofW (cc := cX4_isRelay) (maxL := 2) (ret := (some .boolean)) (by decide) rfl ?_
  intro p e s m args below meth c s₁ B hml hv
  obtain ⟨rfl, hP, hK⟩ := hv
  have hx := B.exec
  have hb := B.bytes
  have hr := B.returns
  have hts := atoms_spec (ws := wsX4_isRelay) B.pre
  have hown : s.vm.findClass RX4 = some m.cls := findClass_of_methodNamed B.named
  have hlocks := B.notSynchronized
  have hinX4 : ∀ w ∈ wsX40, w ∈ wsX4_isRelay := fun _ h => (List.mem_cons_of_mem _ (List.mem_append_right _ h))
  have hP : va_P D vwCl [(a_this, .inr (4, [.int f_thrown, .ref a_s, .ref a_then, .ref a_past, .int f_saved, .ref a_text, .int f_length, .int f_counted, .int f_due, .ref a_met, .ref a_table, .ref a_ways, .ref a_waysOf, .ref a_into, .int f_meets, .int f_isTold, .int f_rests, .int f_leastRest, .int f_mostRest, .int f_isWheel, .int f_ended, .int f_spot, .ref a_orders, .int f_ordered, .int f_cureAmount, .int f_cureRelay, .int f_cureWhich, .long f_hash])), (a_s, .inl (cI, 88, .inl f_s))] s.heap := hP
  have hK : va_K D vwCl (ztys cI cC cO cJ) s := hK
  have hl := lv_entry ([.ref a_this, .int p0]) (n := 2) (Nat.le_of_ble_eq_true rfl)
  rw [lg_entry_eq]
  generalize (lg_sl ([.ref a_this, .int p0]) ++ List.replicate (2 - (lg_sl ([.ref a_this, .int p0])).length) Slot.unset).toArray = ls at hl ⊢
  have hl : lv_has ls 2 [(0, .ref a_this), (1, .int p0)] := hl
  unfold F_X4_isRelay at h
  refine lv_iload_n hx hb dX4_isRelay_0 rfl (lv_at hl 1 rfl) ?_
  refine lv_iconst (v := (0 : Int32)) hx hb dX4_isRelay_1 (by decide) ?_
  refine lv_aload_n hx hb dX4_isRelay_2 rfl (lv_at hl 0 rfl) ?_
  refine va_get (D := D) (ci := 4) (v := .ref a_s) (C := RX4) (T := TX4) (N := 28) hx hb hts hinX4 hown hK hP 0 rfl rfl 1 (by decide) (hts (Cond.fieldLink RX4 7 "LadderRelaysModel" "s" "[I") (List.mem_of_getElem? (i := 1) rfl)) (fun _ h9 => h9) rfl dX4_isRelay_3 ?_
  refine lv_iconst (v := (0 : Int32)) hx hb dX4_isRelay_6 (by decide) ?_
  obtain ⟨v1, hv1, h⟩ := zbnd h
  refine zr_iald hx hb hK hP 1 0 rfl rfl hv1 dX4_isRelay_7 ?_
  refine lv_iconst (v := (1 : Int32)) hx hb dX4_isRelay_8 (by decide) ?_
  refine lv_isub hx hb dX4_isRelay_9 ?_
  obtain ⟨v2, hv2, h⟩ := zbnd h
  refine zc_i (W.runS (As := [.int p0, .int (0 : Int32), .int (v1 - (1 : Int32))]) (rest := []) ⟨hx, hb, hml, hown, hts⟩ (c_X4_in l D cI cC cO cJ fu p0 (0 : Int32) (v1 - (1 : Int32)) v2 hv2) (va_cwS 3 hts gX4_isRelay_X4_in rfl rfl rfl (by decide +kernel) ⟨Nat.le_of_ble_eq_true rfl, Nat.le_of_ble_eq_true rfl⟩) (zPr_S hK zP_nil) rfl rfl hl.1 rfl (lv_room (Nat.le_of_ble_eq_true rfl)) dX4_isRelay_10 ⟨Nat.zero_le _, Nat.zero_le _⟩) ?_
  obtain ⟨v3, hbv3, h⟩ := zbnd h
  obtain ⟨hbv3, hev3⟩ := zbo_some hbv3
  rw [hev3]
  have hR := Option.some.inj h
  subst hR
  exact W.zret (v := v3) (ty := .boolean) hx hb hr (by rcases hbv3 with q | q <;> rw [q] <;> rfl) (fun t ht hW => ⟨_, rfl, rfl, ht⟩) (fun q hq => absurd hq List.not_mem_nil) dX4_isRelay_13
def F_X4_isLeading (fu : Nat) (f_p0 : Nat → Int32) (n_p0 : Nat) (p1 : Int32) (p2 : Int32) (p3 : Int32) : Option (Int32) := (F_X4_of fu f_p0 n_p0 p1 ((6 : Int32) + ((2 : Int32) * p2))).bind fun v1 => if (v1 &&& p3) = v1 then (F_X4_of fu f_p0 n_p0 p1 (((6 : Int32) + ((2 : Int32) * p2)) + (1 : Int32))).bind fun v3 => if (v3 &&& p3) = (0 : Int32) then some (1 : Int32) else some (0 : Int32) else some (0 : Int32)
set_option maxHeartbeats 4000000 in
set_option maxRecDepth 100000 in
theorem c_X4_isLeading (l : Launch) (D : va_G) (cI cC cO cJ : ClassId) (fu : Nat) (a_p0 : Nat) (f_p0 : Nat → Int32) (n_p0 : Nat) (p1 : Int32) (p2 : Int32) (p3 : Int32) (R : Int32) (h : F_X4_isLeading fu f_p0 n_p0 p1 p2 p3 = some R) : Met l yX4_isLeading wsX4_isLeading ({ frames := 1, cells := 0, slots := 0, locals := 22 } : Room) (zPr D (ztys cI cC cO cJ) [(a_p0, .inl (cI, n_p0, .inl f_p0))] [.ref a_p0, .int p1, .int p2, .int p3]) (zQi R) 0 0 (fun _ => False) := by
  refine Met.ofW (cc := cX4_isLeading) (maxL := 5) (ret := (some .boolean)) (by decide) rfl ?_
  intro p e s m args below meth c s₁ B hml hv
  obtain ⟨rfl, hP, hK⟩ := hv
  have hx := B.exec
  have hb := B.bytes
  have hr := B.returns
  have hts := atoms_spec (ws := wsX4_isLeading) B.pre
  have hown : s.vm.findClass RX4 = some m.cls := findClass_of_methodNamed B.named
  have hlocks := B.notSynchronized
  have hP : va_P D vwCl [(a_p0, .inl (cI, n_p0, .inl f_p0))] s.heap := hP
  have hK : va_K D vwCl (ztys cI cC cO cJ) s := hK
  have hl := lv_entry ([.ref a_p0, .int p1, .int p2, .int p3]) (n := 5) (Nat.le_of_ble_eq_true rfl)
  rw [lg_entry_eq]
  generalize (lg_sl ([.ref a_p0, .int p1, .int p2, .int p3]) ++ List.replicate (5 - (lg_sl ([.ref a_p0, .int p1, .int p2, .int p3])).length) Slot.unset).toArray = ls at hl ⊢
  have hl : lv_has ls 5 [(0, .ref a_p0), (1, .int p1), (2, .int p2), (3, .int p3)] := hl
  unfold F_X4_isLeading at h
  refine lv_aload_n hx hb dX4_isLeading_0 rfl (lv_at hl 0 rfl) ?_
  refine lv_iload_n hx hb dX4_isLeading_1 rfl (lv_at hl 1 rfl) ?_
  refine lv_bipush (v := (6 : Int32)) hx hb dX4_isLeading_2 (by decide) ?_
  refine lv_iconst (v := (2 : Int32)) hx hb dX4_isLeading_4 (by decide) ?_
  refine lv_iload_n hx hb dX4_isLeading_5 rfl (lv_at hl 2 rfl) ?_
  refine lv_imul hx hb dX4_isLeading_6 ?_
  refine lv_iadd hx hb dX4_isLeading_7 ?_
  obtain ⟨v1, hv1, h⟩ := zbnd h
  refine zc_i (W.runS (As := [.ref a_p0, .int p1, .int ((6 : Int32) + ((2 : Int32) * p2))]) (rest := []) ⟨hx, hb, hml, hown, hts⟩ (c_X4_of l D cI cC cO cJ fu a_p0 f_p0 n_p0 p1 ((6 : Int32) + ((2 : Int32) * p2)) v1 hv1) (va_cwS 3 hts gX4_isLeading_X4_of rfl rfl rfl (by decide +kernel) ⟨Nat.le_of_ble_eq_true rfl, Nat.le_of_ble_eq_true rfl⟩) (zPr_S hK hP) rfl rfl hl.1 rfl (lv_room (Nat.le_of_ble_eq_true rfl)) dX4_isLeading_8 ⟨Nat.zero_le _, Nat.zero_le _⟩) ?_
  refine lv_istore (lv' := [(4, .int v1), (0, .ref a_p0), (1, .int p1), (2, .int p2), (3, .int p3)]) hx hb dX4_isLeading_11 hl (by decide) rfl (fun ls hl => ?_)
  refine lv_iload hx hb dX4_isLeading_13 (lv_at hl 0 rfl) ?_
  refine lv_iload_n hx hb dX4_isLeading_15 rfl (lv_at hl 4 rfl) ?_
  refine lv_iand hx hb dX4_isLeading_16 ?_
  refine lv_iload hx hb dX4_isLeading_17 (lv_at hl 0 rfl) ?_
  refine lv_icmp_ne (tgt := 44) hx hb dX4_isLeading_19 (by decide) (fun c2 => ?_) (fun c2 => ?_)
  · have h := zif_f c2 h
    refine lv_iconst (v := (0 : Int32)) hx hb dX4_isLeading_44 (by decide) ?_
    have hR := Option.some.inj h
    subst hR
    exact W.zret (v := (0 : Int32)) (ty := .boolean) hx hb hr rfl (fun t ht hW => ⟨_, rfl, rfl, ht⟩) (fun q hq => absurd hq List.not_mem_nil) dX4_isLeading_45
  · have h := zif_t c2 h
    refine lv_aload_n hx hb dX4_isLeading_22 rfl (lv_at hl 1 rfl) ?_
    refine lv_iload_n hx hb dX4_isLeading_23 rfl (lv_at hl 2 rfl) ?_
    refine lv_bipush (v := (6 : Int32)) hx hb dX4_isLeading_24 (by decide) ?_
    refine lv_iconst (v := (2 : Int32)) hx hb dX4_isLeading_26 (by decide) ?_
    refine lv_iload_n hx hb dX4_isLeading_27 rfl (lv_at hl 3 rfl) ?_
    refine lv_imul hx hb dX4_isLeading_28 ?_
    refine lv_iadd hx hb dX4_isLeading_29 ?_
    refine lv_iconst (v := (1 : Int32)) hx hb dX4_isLeading_30 (by decide) ?_
    refine lv_iadd hx hb dX4_isLeading_31 ?_
    obtain ⟨v3, hv3, h⟩ := zbnd h
    refine zc_i (W.runS (As := [.ref a_p0, .int p1, .int (((6 : Int32) + ((2 : Int32) * p2)) + (1 : Int32))]) (rest := []) ⟨hx, hb, hml, hown, hts⟩ (c_X4_of l D cI cC cO cJ fu a_p0 f_p0 n_p0 p1 (((6 : Int32) + ((2 : Int32) * p2)) + (1 : Int32)) v3 hv3) (va_cwS 3 hts gX4_isLeading_X4_of rfl rfl rfl (by decide +kernel) ⟨Nat.le_of_ble_eq_true rfl, Nat.le_of_ble_eq_true rfl⟩) (zPr_S hK hP) rfl rfl hl.1 rfl (lv_room (Nat.le_of_ble_eq_true rfl)) dX4_isLeading_32 ⟨Nat.zero_le _, Nat.zero_le _⟩) ?_
    refine lv_iload_n hx hb dX4_isLeading_35 rfl (lv_at hl 4 rfl) ?_
    refine lv_iand hx hb dX4_isLeading_36 ?_
    refine lv_if_ne (tgt := 44) hx hb dX4_isLeading_37 (by decide) (fun c4 => ?_) (fun c4 => ?_)
    · have h := zif_f c4 h
      refine lv_iconst (v := (0 : Int32)) hx hb dX4_isLeading_44 (by decide) ?_
      have hR := Option.some.inj h
      subst hR
      exact W.zret (v := (0 : Int32)) (ty := .boolean) hx hb hr rfl (fun t ht hW => ⟨_, rfl, rfl, ht⟩) (fun q hq => absurd hq List.not_mem_nil) dX4_isLeading_45
    · have h := zif_t c4 h
      refine lv_iconst (v := (1 : Int32)) hx hb dX4_isLeading_40 (by decide) ?_
      refine lv_goto (tgt := 45) hx hb dX4_isLeading_41 (by decide) ?_
      have hR := Option.some.inj h
      subst hR
      exact W.zret (v := (1 : Int32)) (ty := .boolean) hx hb hr rfl (fun t ht hW => ⟨_, rfl, rfl, ht⟩) (fun q hq => absurd hq List.not_mem_nil) dX4_isLeading_45
def F_X4_calledBy_E71  (v2 : Int32) (v3 : Int32) : Option (Int32) := some v2
def F_X4_calledBy_E65 (rec13 : Int32 → Int32 → Option (Int32)) (v5 : Int32) (v8 : Int32) (v9 : Int32) : Option (Int32) := rec13 v8 (v5 + (1 : Int32))
def F_X4_calledBy_J57 (rec24 : Int32 → Int32 → Option (Int32)) (v10 : Int32) (v11 : Int32) (v15 : Int32) : Option (Int32) := rec24 (v10 ||| v15) (v11 + (1 : Int32))
def F_X4_calledBy_L24 (fu : Nat) (f_p0 : Nat → Int32) (n_p0 : Nat) (p1 : Int32) (v1 : Int32) (v5 : Int32) (k24 : Int32 → Int32 → Option (Int32)) (rec24 : Int32 → Int32 → Option (Int32)) (v10 : Int32) (v11 : Int32) : Option (Int32) := (F_X4_of fu f_p0 n_p0 v5 (4 : Int32)).bind fun v12 => if v12 ≤ v11 then k24 v10 v11 else (F_X4_isLeading fu f_p0 n_p0 v5 v11 (v1 ||| (p1 <<< ((4 : Int32) &&& (31 : Int32))))).bind fun v14 => if v14 = (0 : Int32) then F_X4_calledBy_J57 rec24 v10 v11 (0 : Int32) else F_X4_calledBy_J57 rec24 v10 v11 ((1 : Int32) <<< (v5 &&& (31 : Int32)))
def F_X4_calledBy_L13 (fu : Nat) (f_p0 : Nat → Int32) (n_p0 : Nat) (p1 : Int32) (v1 : Int32) (k13 : Int32 → Int32 → Option (Int32)) (rec13 : Int32 → Int32 → Option (Int32)) (v4 : Int32) (v5 : Int32) : Option (Int32) := (zrd f_p0 n_p0 (0 : Int32)).bind fun v6 => if v6 ≤ v5 then k13 v4 v5 else zlp2 (F_X4_calledBy_L24 fu f_p0 n_p0 p1 v1 v5 (F_X4_calledBy_E65 rec13 v5)) fu v4 (0 : Int32)
def F_X4_calledBy (fu : Nat) (f_p0 : Nat → Int32) (n_p0 : Nat) (p1 : Int32) : Option (Int32) := (zrd f_p0 n_p0 (1 : Int32)).bind fun v1 => zlp2 (F_X4_calledBy_L13 fu f_p0 n_p0 p1 v1 (F_X4_calledBy_E71)) fu (0 : Int32) (0 : Int32)
set_option maxHeartbeats 4000000 in
set_option maxRecDepth 100000 in
theorem c_X4_calledBy (l : Launch) (D : va_G) (cI cC cO cJ : ClassId) (fu : Nat) (a_p0 : Nat) (f_p0 : Nat → Int32) (n_p0 : Nat) (p1 : Int32) (R : Int32) (h : F_X4_calledBy fu f_p0 n_p0 p1 = some R) : Met l yX4_calledBy wsX4_calledBy ({ frames := 2, cells := 0, slots := 0, locals := 46 } : Room) (zPr D (ztys cI cC cO cJ) [(a_p0, .inl (cI, n_p0, .inl f_p0))] [.ref a_p0, .int p1]) (zQi R) 0 0 (fun _ => False) := by
  refine Met.ofW (cc := cX4_calledBy) (maxL := 6) (ret := (some .int)) (by decide) rfl ?_
  intro p e s m args below meth c s₁ B hml hv
  obtain ⟨rfl, hP, hK⟩ := hv
  have hx := B.exec
  have hb := B.bytes
  have hr := B.returns
  have hts := atoms_spec (ws := wsX4_calledBy) B.pre
  have hown : s.vm.findClass RX4 = some m.cls := findClass_of_methodNamed B.named
  have hlocks := B.notSynchronized
  have hP : va_P D vwCl [(a_p0, .inl (cI, n_p0, .inl f_p0))] s.heap := hP
  have hK : va_K D vwCl (ztys cI cC cO cJ) s := hK
  have hl := lv_entry ([.ref a_p0, .int p1]) (n := 6) (Nat.le_of_ble_eq_true rfl)
  rw [lg_entry_eq]
  generalize (lg_sl ([.ref a_p0, .int p1]) ++ List.replicate (6 - (lg_sl ([.ref a_p0, .int p1])).length) Slot.unset).toArray = ls at hl ⊢
  have hl : lv_has ls 6 [(0, .ref a_p0), (1, .int p1)] := hl
  unfold F_X4_calledBy at h
  refine lv_aload_n hx hb dX4_calledBy_0 rfl (lv_at hl 0 rfl) ?_
  refine lv_iconst (v := (1 : Int32)) hx hb dX4_calledBy_1 (by decide) ?_
  obtain ⟨v1, hv1, h⟩ := zbnd h
  refine zr_iald hx hb hK hP 0 0 rfl rfl hv1 dX4_calledBy_2 ?_
  refine lv_iload_n hx hb dX4_calledBy_3 rfl (lv_at hl 1 rfl) ?_
  refine lv_iconst (v := (4 : Int32)) hx hb dX4_calledBy_4 (by decide) ?_
  refine lv_ishl hx hb dX4_calledBy_5 ?_
  refine lv_ior hx hb dX4_calledBy_6 ?_
  refine lv_istore_n (lv' := [(2, .int (v1 ||| (p1 <<< ((4 : Int32) &&& (31 : Int32))))), (0, .ref a_p0), (1, .int p1)]) hx hb dX4_calledBy_7 rfl hl (by decide) rfl (fun ls hl => ?_)
  refine lv_iconst (v := (0 : Int32)) hx hb dX4_calledBy_8 (by decide) ?_
  refine lv_istore_n (lv' := [(3, .int (0 : Int32)), (2, .int (v1 ||| (p1 <<< ((4 : Int32) &&& (31 : Int32))))), (0, .ref a_p0), (1, .int p1)]) hx hb dX4_calledBy_9 rfl hl (by decide) rfl (fun ls hl => ?_)
  refine lv_iconst (v := (0 : Int32)) hx hb dX4_calledBy_10 (by decide) ?_
  refine lv_istore (lv' := [(4, .int (0 : Int32)), (3, .int (0 : Int32)), (2, .int (v1 ||| (p1 <<< ((4 : Int32) &&& (31 : Int32))))), (0, .ref a_p0), (1, .int p1)]) hx hb dX4_calledBy_11 hl (by decide) rfl (fun ls hl => ?_)
  have E71 : ∀ (v2 : Int32) (v3 : Int32), F_X4_calledBy_E71 v2 v3 = some R → ∀ ls : Array Slot, lv_has ls 6 [(0, .ref a_p0), (1, .int p1), (2, .int (v1 ||| (p1 <<< ((4 : Int32) &&& (31 : Int32))))), (3, .int v2), (4, .int v3)] → W p l e ({ frames := 2, cells := 0, slots := 0, locals := 46 } : Room) s m (([.ref a_p0, .int p1] : List Value).toArray) below meth c s.heap [] 0 0 (MQ below (zQi R) (([.ref a_p0, .int p1] : List Value).toArray) s 0 0 (fun _ => False)) (F0 m 71 ls []) := by
    intro v2 v3 h ls hl
    unfold F_X4_calledBy_E71 at h
    refine lv_iload_n hx hb dX4_calledBy_71 rfl (lv_at hl 3 rfl) ?_
    have hR := Option.some.inj h
    subst hR
    exact W.iret (v := v2) hx hb hr (fun t ht hW => ⟨_, rfl, rfl, ht⟩) (fun q hq => absurd hq List.not_mem_nil) dX4_calledBy_72
  refine zlp_i2 (R := R) (P := fun (v4 : Int32) (v5 : Int32) => ∀ ls : Array Slot, lv_has ls 6 [(0, .ref a_p0), (1, .int p1), (2, .int (v1 ||| (p1 <<< ((4 : Int32) &&& (31 : Int32))))), (3, .int v4), (4, .int v5)] → W p l e ({ frames := 2, cells := 0, slots := 0, locals := 46 } : Room) s m (([.ref a_p0, .int p1] : List Value).toArray) below meth c s.heap [] 0 0 (MQ below (zQi R) (([.ref a_p0, .int p1] : List Value).toArray) s 0 0 (fun _ => False)) (F0 m 13 ls [])) (fun rec13 ih13 v4 v5 h => ?_) fu (0 : Int32) (0 : Int32) h ls (lv_sub hl [3, 4, 2, 1, 0] rfl)
  intro ls hl
  unfold F_X4_calledBy_L13 at h
  refine lv_iload hx hb dX4_calledBy_13 (lv_at hl 4 rfl) ?_
  refine lv_aload_n hx hb dX4_calledBy_15 rfl (lv_at hl 0 rfl) ?_
  refine lv_iconst (v := (0 : Int32)) hx hb dX4_calledBy_16 (by decide) ?_
  obtain ⟨v6, hv6, h⟩ := zbnd h
  refine zr_iald hx hb hK hP 0 0 rfl rfl hv6 dX4_calledBy_17 ?_
  refine lv_icmp_ge (tgt := 71) hx hb dX4_calledBy_18 (by decide) (fun c7 => ?_) (fun c7 => ?_)
  · have h := zif_t c7 h
    exact E71 v4 v5 h ls (lv_sub hl [0, 1, 2, 3, 4] rfl)
  · have h := zif_f c7 h
    refine lv_iconst (v := (0 : Int32)) hx hb dX4_calledBy_21 (by decide) ?_
    refine lv_istore (lv' := [(5, .int (0 : Int32)), (0, .ref a_p0), (1, .int p1), (2, .int (v1 ||| (p1 <<< ((4 : Int32) &&& (31 : Int32))))), (3, .int v4), (4, .int v5)]) hx hb dX4_calledBy_22 hl (by decide) rfl (fun ls hl => ?_)
    have E65 : ∀ (v8 : Int32) (v9 : Int32), F_X4_calledBy_E65 rec13 v5 v8 v9 = some R → ∀ ls : Array Slot, lv_has ls 6 [(0, .ref a_p0), (1, .int p1), (2, .int (v1 ||| (p1 <<< ((4 : Int32) &&& (31 : Int32))))), (3, .int v8), (4, .int v5), (5, .int v9)] → W p l e ({ frames := 2, cells := 0, slots := 0, locals := 46 } : Room) s m (([.ref a_p0, .int p1] : List Value).toArray) below meth c s.heap [] 0 0 (MQ below (zQi R) (([.ref a_p0, .int p1] : List Value).toArray) s 0 0 (fun _ => False)) (F0 m 65 ls []) := by
      intro v8 v9 h ls hl
      unfold F_X4_calledBy_E65 at h
      refine lv_iinc (v := (v5 + (1 : Int32))) (lv' := [(4, .int (v5 + (1 : Int32))), (0, .ref a_p0), (1, .int p1), (2, .int (v1 ||| (p1 <<< ((4 : Int32) &&& (31 : Int32))))), (3, .int v8), (5, .int v9)]) hx hb dX4_calledBy_65 hl (k := 4) rfl rfl (by decide) rfl (fun ls hl => ?_)
      refine lv_goto (tgt := 13) hx hb dX4_calledBy_68 (by decide) ?_
      exact ih13 v8 (v5 + (1 : Int32)) h ls (lv_sub hl [1, 2, 3, 4, 0] rfl)
    refine zlp_i2 (R := R) (P := fun (v10 : Int32) (v11 : Int32) => ∀ ls : Array Slot, lv_has ls 6 [(0, .ref a_p0), (1, .int p1), (2, .int (v1 ||| (p1 <<< ((4 : Int32) &&& (31 : Int32))))), (3, .int v10), (4, .int v5), (5, .int v11)] → W p l e ({ frames := 2, cells := 0, slots := 0, locals := 46 } : Room) s m (([.ref a_p0, .int p1] : List Value).toArray) below meth c s.heap [] 0 0 (MQ below (zQi R) (([.ref a_p0, .int p1] : List Value).toArray) s 0 0 (fun _ => False)) (F0 m 24 ls [])) (fun rec24 ih24 v10 v11 h => ?_) fu v4 (0 : Int32) h ls (lv_sub hl [1, 2, 3, 4, 5, 0] rfl)
    intro ls hl
    unfold F_X4_calledBy_L24 at h
    refine lv_iload hx hb dX4_calledBy_24 (lv_at hl 5 rfl) ?_
    refine lv_aload_n hx hb dX4_calledBy_26 rfl (lv_at hl 0 rfl) ?_
    refine lv_iload hx hb dX4_calledBy_27 (lv_at hl 4 rfl) ?_
    refine lv_iconst (v := (4 : Int32)) hx hb dX4_calledBy_29 (by decide) ?_
    obtain ⟨v12, hv12, h⟩ := zbnd h
    refine zc_i (W.runS (As := [.ref a_p0, .int v5, .int (4 : Int32)]) (rest := [.int v11]) ⟨hx, hb, hml, hown, hts⟩ (c_X4_of l D cI cC cO cJ fu a_p0 f_p0 n_p0 v5 (4 : Int32) v12 hv12) (va_cwS 3 hts gX4_calledBy_X4_of rfl rfl rfl (by decide +kernel) ⟨Nat.le_of_ble_eq_true rfl, Nat.le_of_ble_eq_true rfl⟩) (zPr_S hK hP) rfl rfl hl.1 rfl (lv_room (Nat.le_of_ble_eq_true rfl)) dX4_calledBy_30 ⟨Nat.zero_le _, Nat.zero_le _⟩) ?_
    refine lv_icmp_ge (tgt := 65) hx hb dX4_calledBy_33 (by decide) (fun c13 => ?_) (fun c13 => ?_)
    · have h := zif_t c13 h
      exact E65 v10 v11 h ls (lv_sub hl [0, 1, 2, 3, 4, 5] rfl)
    · have h := zif_f c13 h
      refine lv_iload_n hx hb dX4_calledBy_36 rfl (lv_at hl 3 rfl) ?_
      refine lv_aload_n hx hb dX4_calledBy_37 rfl (lv_at hl 0 rfl) ?_
      refine lv_iload hx hb dX4_calledBy_38 (lv_at hl 4 rfl) ?_
      refine lv_iload hx hb dX4_calledBy_40 (lv_at hl 5 rfl) ?_
      refine lv_iload_n hx hb dX4_calledBy_42 rfl (lv_at hl 2 rfl) ?_
      obtain ⟨v14, hv14, h⟩ := zbnd h
      refine zc_i (W.runS (As := [.ref a_p0, .int v5, .int v11, .int (v1 ||| (p1 <<< ((4 : Int32) &&& (31 : Int32))))]) (rest := [.int v10]) ⟨hx, hb, hml, hown, hts⟩ (c_X4_isLeading l D cI cC cO cJ fu a_p0 f_p0 n_p0 v5 v11 (v1 ||| (p1 <<< ((4 : Int32) &&& (31 : Int32)))) v14 hv14) (va_cwS 4 hts gX4_calledBy_X4_isLeading rfl rfl rfl (by decide +kernel) ⟨Nat.le_of_ble_eq_true rfl, Nat.le_of_ble_eq_true rfl⟩) (zPr_S hK hP) rfl rfl hl.1 rfl (lv_room (Nat.le_of_ble_eq_true rfl)) dX4_calledBy_43 ⟨Nat.zero_le _, Nat.zero_le _⟩) ?_
      have J57 : ∀ (v15 : Int32), F_X4_calledBy_J57 rec24 v10 v11 v15 = some R → ∀ ls : Array Slot, lv_has ls 6 [(0, .ref a_p0), (1, .int p1), (2, .int (v1 ||| (p1 <<< ((4 : Int32) &&& (31 : Int32))))), (3, .int v10), (4, .int v5), (5, .int v11)] → W p l e ({ frames := 2, cells := 0, slots := 0, locals := 46 } : Room) s m (([.ref a_p0, .int p1] : List Value).toArray) below meth c s.heap [] 0 0 (MQ below (zQi R) (([.ref a_p0, .int p1] : List Value).toArray) s 0 0 (fun _ => False)) (F0 m 57 ls [.int v15, .int v10]) := by
        intro v15 h ls hl
        unfold F_X4_calledBy_J57 at h
        refine lv_ior hx hb dX4_calledBy_57 ?_
        refine lv_istore_n (lv' := [(3, .int (v10 ||| v15)), (0, .ref a_p0), (1, .int p1), (2, .int (v1 ||| (p1 <<< ((4 : Int32) &&& (31 : Int32))))), (4, .int v5), (5, .int v11)]) hx hb dX4_calledBy_58 rfl hl (by decide) rfl (fun ls hl => ?_)
        refine lv_iinc (v := (v11 + (1 : Int32))) (lv' := [(5, .int (v11 + (1 : Int32))), (3, .int (v10 ||| v15)), (0, .ref a_p0), (1, .int p1), (2, .int (v1 ||| (p1 <<< ((4 : Int32) &&& (31 : Int32))))), (4, .int v5)]) hx hb dX4_calledBy_59 hl (k := 5) rfl rfl (by decide) rfl (fun ls hl => ?_)
        refine lv_goto (tgt := 24) hx hb dX4_calledBy_62 (by decide) ?_
        exact ih24 (v10 ||| v15) (v11 + (1 : Int32)) h ls (lv_sub hl [2, 3, 4, 1, 5, 0] rfl)
      refine lv_if_eq (tgt := 56) hx hb dX4_calledBy_46 (by decide) (fun c16 => ?_) (fun c16 => ?_)
      · have h := zif_t c16 h
        refine lv_iconst (v := (0 : Int32)) hx hb dX4_calledBy_56 (by decide) ?_
        exact J57 (0 : Int32) h ls (lv_sub hl [0, 1, 2, 3, 4, 5] rfl)
      · have h := zif_f c16 h
        refine lv_iconst (v := (1 : Int32)) hx hb dX4_calledBy_49 (by decide) ?_
        refine lv_iload hx hb dX4_calledBy_50 (lv_at hl 4 rfl) ?_
        refine lv_ishl hx hb dX4_calledBy_52 ?_
        refine lv_goto (tgt := 57) hx hb dX4_calledBy_53 (by decide) ?_
        exact J57 ((1 : Int32) <<< (v5 &&& (31 : Int32))) h ls (lv_sub hl [0, 1, 2, 3, 4, 5] rfl)
def F_X4_upOf (fu : Nat) (p0 : Int32) : Option (Int32) := some (p0 &&& (63 : Int32))
set_option maxHeartbeats 4000000 in
set_option maxRecDepth 100000 in
theorem c_X4_upOf (l : Launch) (D : va_G) (cI cC cO cJ : ClassId) (fu : Nat) (p0 : Int32) (R : Int32) (h : F_X4_upOf fu p0 = some R) : Met l yX4_upOf wsX4_upOf ({ frames := 0, cells := 0, slots := 0, locals := 0 } : Room) (zPr D (ztys cI cC cO cJ) [] [.int p0]) (zQi R) 0 0 (fun _ => False) := by
  refine Met.ofW (cc := cX4_upOf) (maxL := 1) (ret := (some .int)) (by decide) rfl ?_
  intro p e s m args below meth c s₁ B hml hv
  obtain ⟨rfl, hP, hK⟩ := hv
  have hx := B.exec
  have hb := B.bytes
  have hr := B.returns
  have hts := atoms_spec (ws := wsX4_upOf) B.pre
  have hown : s.vm.findClass RX4 = some m.cls := findClass_of_methodNamed B.named
  have hlocks := B.notSynchronized
  have hP : va_P D vwCl [] s.heap := hP
  have hK : va_K D vwCl (ztys cI cC cO cJ) s := hK
  have hl := lv_entry ([.int p0]) (n := 1) (Nat.le_of_ble_eq_true rfl)
  rw [lg_entry_eq]
  generalize (lg_sl ([.int p0]) ++ List.replicate (1 - (lg_sl ([.int p0])).length) Slot.unset).toArray = ls at hl ⊢
  have hl : lv_has ls 1 [(0, .int p0)] := hl
  unfold F_X4_upOf at h
  refine lv_iload_n hx hb dX4_upOf_0 rfl (lv_at hl 0 rfl) ?_
  refine lv_bipush (v := (63 : Int32)) hx hb dX4_upOf_1 (by decide) ?_
  refine lv_iand hx hb dX4_upOf_3 ?_
  have hR := Option.some.inj h
  subst hR
  exact W.iret (v := (p0 &&& (63 : Int32))) hx hb hr (fun t ht hW => ⟨_, rfl, rfl, ht⟩) (fun q hq => absurd hq List.not_mem_nil) dX4_upOf_4
def F_X4_countOf (fu : Nat) (p0 : Int32) (p1 : Int32) : Option (Int32) := some ((p0 >>> (((6 : Int32) + ((4 : Int32) * p1)) &&& (31 : Int32))) &&& (15 : Int32))
set_option maxHeartbeats 4000000 in
set_option maxRecDepth 100000 in
theorem c_X4_countOf (l : Launch) (D : va_G) (cI cC cO cJ : ClassId) (fu : Nat) (p0 : Int32) (p1 : Int32) (R : Int32) (h : F_X4_countOf fu p0 p1 = some R) : Met l yX4_countOf wsX4_countOf ({ frames := 0, cells := 0, slots := 0, locals := 0 } : Room) (zPr D (ztys cI cC cO cJ) [] [.int p0, .int p1]) (zQi R) 0 0 (fun _ => False) := by
  refine Met.ofW (cc := cX4_countOf) (maxL := 2) (ret := (some .int)) (by decide) rfl ?_
  intro p e s m args below meth c s₁ B hml hv
  obtain ⟨rfl, hP, hK⟩ := hv
  have hx := B.exec
  have hb := B.bytes
  have hr := B.returns
  have hts := atoms_spec (ws := wsX4_countOf) B.pre
  have hown : s.vm.findClass RX4 = some m.cls := findClass_of_methodNamed B.named
  have hlocks := B.notSynchronized
  have hP : va_P D vwCl [] s.heap := hP
  have hK : va_K D vwCl (ztys cI cC cO cJ) s := hK
  have hl := lv_entry ([.int p0, .int p1]) (n := 2) (Nat.le_of_ble_eq_true rfl)
  rw [lg_entry_eq]
  generalize (lg_sl ([.int p0, .int p1]) ++ List.replicate (2 - (lg_sl ([.int p0, .int p1])).length) Slot.unset).toArray = ls at hl ⊢
  have hl : lv_has ls 2 [(0, .int p0), (1, .int p1)] := hl
  unfold F_X4_countOf at h
  refine lv_iload_n hx hb dX4_countOf_0 rfl (lv_at hl 0 rfl) ?_
  refine lv_bipush (v := (6 : Int32)) hx hb dX4_countOf_1 (by decide) ?_
  refine lv_iconst (v := (4 : Int32)) hx hb dX4_countOf_3 (by decide) ?_
  refine lv_iload_n hx hb dX4_countOf_4 rfl (lv_at hl 1 rfl) ?_
  refine lv_imul hx hb dX4_countOf_5 ?_
  refine lv_iadd hx hb dX4_countOf_6 ?_
  refine lv_ishr hx hb dX4_countOf_7 ?_
  refine lv_bipush (v := (15 : Int32)) hx hb dX4_countOf_8 (by decide) ?_
  refine lv_iand hx hb dX4_countOf_10 ?_
  have hR := Option.some.inj h
  subst hR
  exact W.iret (v := ((p0 >>> (((6 : Int32) + ((4 : Int32) * p1)) &&& (31 : Int32))) &&& (15 : Int32))) hx hb hr (fun t ht hW => ⟨_, rfl, rfl, ht⟩) (fun q hq => absurd hq List.not_mem_nil) dX4_countOf_11
def F_X4_codeOf_E42  (v1 : Int32) (v2 : Int32) : Option (Int32) := some v1
def F_X4_codeOf_L4 (fu : Nat) (f_p0 : Nat → Int32) (n_p0 : Nat) (k4 : Int32 → Int32 → Option (Int32)) (rec4 : Int32 → Int32 → Option (Int32)) (v3 : Int32) (v4 : Int32) : Option (Int32) := (zrd f_p0 n_p0 (0 : Int32)).bind fun v5 => if v5 ≤ v4 then k4 v3 v4 else (F_X4_of fu f_p0 n_p0 v4 (0 : Int32)).bind fun v7 => (F_X4_of fu f_p0 n_p0 v4 (1 : Int32)).bind fun v8 => (some (v3 ||| ((v7 <<< (v4 &&& (31 : Int32))) ||| (v8 <<< (((6 : Int32) + ((4 : Int32) * v4)) &&& (31 : Int32)))))).bind fun v9 => rec4 v9 (v4 + (1 : Int32))
def F_X4_codeOf (fu : Nat) (f_p0 : Nat → Int32) (n_p0 : Nat) : Option (Int32) := zlp2 (F_X4_codeOf_L4 fu f_p0 n_p0 (F_X4_codeOf_E42)) fu (0 : Int32) (0 : Int32)
set_option maxHeartbeats 4000000 in
set_option maxRecDepth 100000 in
theorem c_X4_codeOf (l : Launch) (D : va_G) (cI cC cO cJ : ClassId) (fu : Nat) (a_p0 : Nat) (f_p0 : Nat → Int32) (n_p0 : Nat) (R : Int32) (h : F_X4_codeOf fu f_p0 n_p0 = some R) : Met l yX4_codeOf wsX4_codeOf ({ frames := 1, cells := 0, slots := 0, locals := 22 } : Room) (zPr D (ztys cI cC cO cJ) [(a_p0, .inl (cI, n_p0, .inl f_p0))] [.ref a_p0]) (zQi R) 0 0 (fun _ => False) := by
  refine Met.ofW (cc := cX4_codeOf) (maxL := 3) (ret := (some .int)) (by decide) rfl ?_
  intro p e s m args below meth c s₁ B hml hv
  obtain ⟨rfl, hP, hK⟩ := hv
  have hx := B.exec
  have hb := B.bytes
  have hr := B.returns
  have hts := atoms_spec (ws := wsX4_codeOf) B.pre
  have hown : s.vm.findClass RX4 = some m.cls := findClass_of_methodNamed B.named
  have hlocks := B.notSynchronized
  have hP : va_P D vwCl [(a_p0, .inl (cI, n_p0, .inl f_p0))] s.heap := hP
  have hK : va_K D vwCl (ztys cI cC cO cJ) s := hK
  have hl := lv_entry ([.ref a_p0]) (n := 3) (Nat.le_of_ble_eq_true rfl)
  rw [lg_entry_eq]
  generalize (lg_sl ([.ref a_p0]) ++ List.replicate (3 - (lg_sl ([.ref a_p0])).length) Slot.unset).toArray = ls at hl ⊢
  have hl : lv_has ls 3 [(0, .ref a_p0)] := hl
  unfold F_X4_codeOf at h
  refine lv_iconst (v := (0 : Int32)) hx hb dX4_codeOf_0 (by decide) ?_
  refine lv_istore_n (lv' := [(1, .int (0 : Int32)), (0, .ref a_p0)]) hx hb dX4_codeOf_1 rfl hl (by decide) rfl (fun ls hl => ?_)
  refine lv_iconst (v := (0 : Int32)) hx hb dX4_codeOf_2 (by decide) ?_
  refine lv_istore_n (lv' := [(2, .int (0 : Int32)), (1, .int (0 : Int32)), (0, .ref a_p0)]) hx hb dX4_codeOf_3 rfl hl (by decide) rfl (fun ls hl => ?_)
  have E42 : ∀ (v1 : Int32) (v2 : Int32), F_X4_codeOf_E42 v1 v2 = some R → ∀ ls : Array Slot, lv_has ls 3 [(0, .ref a_p0), (1, .int v1), (2, .int v2)] → W p l e ({ frames := 1, cells := 0, slots := 0, locals := 22 } : Room) s m (([.ref a_p0] : List Value).toArray) below meth c s.heap [] 0 0 (MQ below (zQi R) (([.ref a_p0] : List Value).toArray) s 0 0 (fun _ => False)) (F0 m 42 ls []) := by
    intro v1 v2 h ls hl
    unfold F_X4_codeOf_E42 at h
    refine lv_iload_n hx hb dX4_codeOf_42 rfl (lv_at hl 1 rfl) ?_
    have hR := Option.some.inj h
    subst hR
    exact W.iret (v := v1) hx hb hr (fun t ht hW => ⟨_, rfl, rfl, ht⟩) (fun q hq => absurd hq List.not_mem_nil) dX4_codeOf_43
  refine zlp_i2 (R := R) (P := fun (v3 : Int32) (v4 : Int32) => ∀ ls : Array Slot, lv_has ls 3 [(0, .ref a_p0), (1, .int v3), (2, .int v4)] → W p l e ({ frames := 1, cells := 0, slots := 0, locals := 22 } : Room) s m (([.ref a_p0] : List Value).toArray) below meth c s.heap [] 0 0 (MQ below (zQi R) (([.ref a_p0] : List Value).toArray) s 0 0 (fun _ => False)) (F0 m 4 ls [])) (fun rec4 ih4 v3 v4 h => ?_) fu (0 : Int32) (0 : Int32) h ls (lv_sub hl [2, 1, 0] rfl)
  intro ls hl
  unfold F_X4_codeOf_L4 at h
  refine lv_iload_n hx hb dX4_codeOf_4 rfl (lv_at hl 2 rfl) ?_
  refine lv_aload_n hx hb dX4_codeOf_5 rfl (lv_at hl 0 rfl) ?_
  refine lv_iconst (v := (0 : Int32)) hx hb dX4_codeOf_6 (by decide) ?_
  obtain ⟨v5, hv5, h⟩ := zbnd h
  refine zr_iald hx hb hK hP 0 0 rfl rfl hv5 dX4_codeOf_7 ?_
  refine lv_icmp_ge (tgt := 42) hx hb dX4_codeOf_8 (by decide) (fun c6 => ?_) (fun c6 => ?_)
  · have h := zif_t c6 h
    exact E42 v3 v4 h ls (lv_sub hl [0, 1, 2] rfl)
  · have h := zif_f c6 h
    refine lv_iload_n hx hb dX4_codeOf_11 rfl (lv_at hl 1 rfl) ?_
    refine lv_aload_n hx hb dX4_codeOf_12 rfl (lv_at hl 0 rfl) ?_
    refine lv_iload_n hx hb dX4_codeOf_13 rfl (lv_at hl 2 rfl) ?_
    refine lv_iconst (v := (0 : Int32)) hx hb dX4_codeOf_14 (by decide) ?_
    obtain ⟨v7, hv7, h⟩ := zbnd h
    refine zc_i (W.runS (As := [.ref a_p0, .int v4, .int (0 : Int32)]) (rest := [.int v3]) ⟨hx, hb, hml, hown, hts⟩ (c_X4_of l D cI cC cO cJ fu a_p0 f_p0 n_p0 v4 (0 : Int32) v7 hv7) (va_cwS 3 hts gX4_codeOf_X4_of rfl rfl rfl (by decide +kernel) ⟨Nat.le_of_ble_eq_true rfl, Nat.le_of_ble_eq_true rfl⟩) (zPr_S hK hP) rfl rfl hl.1 rfl (lv_room (Nat.le_of_ble_eq_true rfl)) dX4_codeOf_15 ⟨Nat.zero_le _, Nat.zero_le _⟩) ?_
    refine lv_iload_n hx hb dX4_codeOf_18 rfl (lv_at hl 2 rfl) ?_
    refine lv_ishl hx hb dX4_codeOf_19 ?_
    refine lv_aload_n hx hb dX4_codeOf_20 rfl (lv_at hl 0 rfl) ?_
    refine lv_iload_n hx hb dX4_codeOf_21 rfl (lv_at hl 2 rfl) ?_
    refine lv_iconst (v := (1 : Int32)) hx hb dX4_codeOf_22 (by decide) ?_
    obtain ⟨v8, hv8, h⟩ := zbnd h
    refine zc_i (W.runS (As := [.ref a_p0, .int v4, .int (1 : Int32)]) (rest := [.int (v7 <<< (v4 &&& (31 : Int32))), .int v3]) ⟨hx, hb, hml, hown, hts⟩ (c_X4_of l D cI cC cO cJ fu a_p0 f_p0 n_p0 v4 (1 : Int32) v8 hv8) (va_cwS 3 hts gX4_codeOf_X4_of rfl rfl rfl (by decide +kernel) ⟨Nat.le_of_ble_eq_true rfl, Nat.le_of_ble_eq_true rfl⟩) (zPr_S hK hP) rfl rfl hl.1 rfl (lv_room (Nat.le_of_ble_eq_true rfl)) dX4_codeOf_23 ⟨Nat.zero_le _, Nat.zero_le _⟩) ?_
    refine lv_bipush (v := (6 : Int32)) hx hb dX4_codeOf_26 (by decide) ?_
    refine lv_iconst (v := (4 : Int32)) hx hb dX4_codeOf_28 (by decide) ?_
    refine lv_iload_n hx hb dX4_codeOf_29 rfl (lv_at hl 2 rfl) ?_
    refine lv_imul hx hb dX4_codeOf_30 ?_
    refine lv_iadd hx hb dX4_codeOf_31 ?_
    refine lv_ishl hx hb dX4_codeOf_32 ?_
    refine lv_ior hx hb dX4_codeOf_33 ?_
    refine lv_ior hx hb dX4_codeOf_34 ?_
    obtain ⟨v9, hv9, h⟩ := zbnd h
    rw [Option.some.inj hv9]
    refine lv_istore_n (lv' := [(1, .int v9), (0, .ref a_p0), (2, .int v4)]) hx hb dX4_codeOf_35 rfl hl (by decide) rfl (fun ls hl => ?_)
    refine lv_iinc (v := (v4 + (1 : Int32))) (lv' := [(2, .int (v4 + (1 : Int32))), (1, .int v9), (0, .ref a_p0)]) hx hb dX4_codeOf_36 hl (k := 2) rfl rfl (by decide) rfl (fun ls hl => ?_)
    refine lv_goto (tgt := 4) hx hb dX4_codeOf_39 (by decide) ?_
    exact ih4 v9 (v4 + (1 : Int32)) h ls (lv_sub hl [2, 1, 0] rfl)
def F_X4_isQuiet (fu : Nat) (f_p0 : Nat → Int32) (n_p0 : Nat) (p1 : Int32) : Option (Int32) := (F_X4_upOf fu p1).bind fun v1 => (F_X4_calledBy fu f_p0 n_p0 v1).bind fun v2 => (F_X4_upOf fu p1).bind fun v3 => if v2 = v3 then some (1 : Int32) else some (0 : Int32)
set_option maxHeartbeats 4000000 in
set_option maxRecDepth 100000 in
theorem c_X4_isQuiet (l : Launch) (D : va_G) (cI cC cO cJ : ClassId) (fu : Nat) (a_p0 : Nat) (f_p0 : Nat → Int32) (n_p0 : Nat) (p1 : Int32) (R : Int32) (h : F_X4_isQuiet fu f_p0 n_p0 p1 = some R) : Met l yX4_isQuiet wsX4_isQuiet ({ frames := 3, cells := 0, slots := 0, locals := 71 } : Room) (zPr D (ztys cI cC cO cJ) [(a_p0, .inl (cI, n_p0, .inl f_p0))] [.ref a_p0, .int p1]) (zQi R) 0 0 (fun _ => False) := by
  refine Met.ofW (cc := cX4_isQuiet) (maxL := 2) (ret := (some .boolean)) (by decide) rfl ?_
  intro p e s m args below meth c s₁ B hml hv
  obtain ⟨rfl, hP, hK⟩ := hv
  have hx := B.exec
  have hb := B.bytes
  have hr := B.returns
  have hts := atoms_spec (ws := wsX4_isQuiet) B.pre
  have hown : s.vm.findClass RX4 = some m.cls := findClass_of_methodNamed B.named
  have hlocks := B.notSynchronized
  have hP : va_P D vwCl [(a_p0, .inl (cI, n_p0, .inl f_p0))] s.heap := hP
  have hK : va_K D vwCl (ztys cI cC cO cJ) s := hK
  have hl := lv_entry ([.ref a_p0, .int p1]) (n := 2) (Nat.le_of_ble_eq_true rfl)
  rw [lg_entry_eq]
  generalize (lg_sl ([.ref a_p0, .int p1]) ++ List.replicate (2 - (lg_sl ([.ref a_p0, .int p1])).length) Slot.unset).toArray = ls at hl ⊢
  have hl : lv_has ls 2 [(0, .ref a_p0), (1, .int p1)] := hl
  unfold F_X4_isQuiet at h
  refine lv_aload_n hx hb dX4_isQuiet_0 rfl (lv_at hl 0 rfl) ?_
  refine lv_iload_n hx hb dX4_isQuiet_1 rfl (lv_at hl 1 rfl) ?_
  obtain ⟨v1, hv1, h⟩ := zbnd h
  refine zc_i (W.runS (As := [.int p1]) (rest := [.ref a_p0]) ⟨hx, hb, hml, hown, hts⟩ (c_X4_upOf l D cI cC cO cJ fu p1 v1 hv1) (va_cwS 1 hts gX4_isQuiet_X4_upOf rfl rfl rfl (by decide +kernel) ⟨Nat.le_of_ble_eq_true rfl, Nat.le_of_ble_eq_true rfl⟩) (zPr_S hK zP_nil) rfl rfl hl.1 rfl (lv_room (Nat.le_of_ble_eq_true rfl)) dX4_isQuiet_2 ⟨Nat.zero_le _, Nat.zero_le _⟩) ?_
  obtain ⟨v2, hv2, h⟩ := zbnd h
  refine zc_i (W.runS (As := [.ref a_p0, .int v1]) (rest := []) ⟨hx, hb, hml, hown, hts⟩ (c_X4_calledBy l D cI cC cO cJ fu a_p0 f_p0 n_p0 v1 v2 hv2) (va_cwS 2 hts gX4_isQuiet_X4_calledBy rfl rfl rfl (by decide +kernel) ⟨Nat.le_of_ble_eq_true rfl, Nat.le_of_ble_eq_true rfl⟩) (zPr_S hK hP) rfl rfl hl.1 rfl (lv_room (Nat.le_of_ble_eq_true rfl)) dX4_isQuiet_5 ⟨Nat.zero_le _, Nat.zero_le _⟩) ?_
  refine lv_iload_n hx hb dX4_isQuiet_8 rfl (lv_at hl 1 rfl) ?_
  obtain ⟨v3, hv3, h⟩ := zbnd h
  refine zc_i (W.runS (As := [.int p1]) (rest := [.int v2]) ⟨hx, hb, hml, hown, hts⟩ (c_X4_upOf l D cI cC cO cJ fu p1 v3 hv3) (va_cwS 1 hts gX4_isQuiet_X4_upOf rfl rfl rfl (by decide +kernel) ⟨Nat.le_of_ble_eq_true rfl, Nat.le_of_ble_eq_true rfl⟩) (zPr_S hK zP_nil) rfl rfl hl.1 rfl (lv_room (Nat.le_of_ble_eq_true rfl)) dX4_isQuiet_9 ⟨Nat.zero_le _, Nat.zero_le _⟩) ?_
  refine lv_icmp_ne (tgt := 19) hx hb dX4_isQuiet_12 (by decide) (fun c4 => ?_) (fun c4 => ?_)
  · have h := zif_f c4 h
    refine lv_iconst (v := (0 : Int32)) hx hb dX4_isQuiet_19 (by decide) ?_
    have hR := Option.some.inj h
    subst hR
    exact W.zret (v := (0 : Int32)) (ty := .boolean) hx hb hr rfl (fun t ht hW => ⟨_, rfl, rfl, ht⟩) (fun q hq => absurd hq List.not_mem_nil) dX4_isQuiet_20
  · have h := zif_t c4 h
    refine lv_iconst (v := (1 : Int32)) hx hb dX4_isQuiet_15 (by decide) ?_
    refine lv_goto (tgt := 20) hx hb dX4_isQuiet_16 (by decide) ?_
    have hR := Option.some.inj h
    subst hR
    exact W.zret (v := (1 : Int32)) (ty := .boolean) hx hb hr rfl (fun t ht hW => ⟨_, rfl, rfl, ht⟩) (fun q hq => absurd hq List.not_mem_nil) dX4_isQuiet_20
def F_X4_ticks_s_E154  (v5 : Int32) (v6 : Int32) (v7 : Int32) : Option (Int32 × Int32) := some (v6, v7)
def F_X4_ticks_s_J144 (rec30 : Int32 → Int32 → Int32 → Option (Int32 × Int32)) (v8 : Int32) (v9 : Int32) (v10 : Int32) (v15 : Int32) (v19 : Int32) : Option (Int32 × Int32) := rec30 (v8 + (1 : Int32)) (v9 ||| (v15 <<< (((6 : Int32) + ((4 : Int32) * v8)) &&& (31 : Int32)))) (v10 ||| v19)
def F_X4_ticks_s_J130 (fu : Nat) (rec30 : Int32 → Int32 → Int32 → Option (Int32 × Int32)) (f_s : Nat → Int32) (v8 : Int32) (v9 : Int32) (v10 : Int32) (v15 : Int32) (v17 : Int32) : Option (Int32 × Int32) := (F_X4_of fu f_s 88 v8 v17).bind fun v18 => if v15 ≤ v18 then F_X4_ticks_s_J144 rec30 v8 v9 v10 v15 (0 : Int32) else F_X4_ticks_s_J144 rec30 v8 v9 v10 v15 ((1 : Int32) <<< (v8 &&& (31 : Int32)))
def F_X4_ticks_s_J89 (fu : Nat) (rec30 : Int32 → Int32 → Int32 → Option (Int32 × Int32)) (f_s : Nat → Int32) (v8 : Int32) (v9 : Int32) (v10 : Int32) (v15 : Int32) (v16 : Int32) : Option (Int32 × Int32) := if v16 = (0 : Int32) then F_X4_ticks_s_J130 fu rec30 f_s v8 v9 v10 v15 (2 : Int32) else F_X4_ticks_s_J130 fu rec30 f_s v8 v9 v10 v15 (3 : Int32)
def F_X4_ticks_s_J72 (fu : Nat) (rec30 : Int32 → Int32 → Int32 → Option (Int32 × Int32)) (f_s : Nat → Int32) (p1 : Int32) (v8 : Int32) (v9 : Int32) (v10 : Int32) (v15 : Int32) : Option (Int32 × Int32) := if ((p1 >>> (v8 &&& (31 : Int32))) &&& (1 : Int32)) = (1 : Int32) then F_X4_ticks_s_J89 fu rec30 f_s v8 v9 v10 v15 (1 : Int32) else F_X4_ticks_s_J89 fu rec30 f_s v8 v9 v10 v15 (0 : Int32)
def F_X4_ticks_s_L30 (fu : Nat) (f_s : Nat → Int32) (p1 : Int32) (v2 : Int32) (v3 : Int32) (k30 : Int32 → Int32 → Int32 → Option (Int32 × Int32)) (rec30 : Int32 → Int32 → Int32 → Option (Int32 × Int32)) (v8 : Int32) (v9 : Int32) (v10 : Int32) : Option (Int32 × Int32) := (zrd f_s 88 (0 : Int32)).bind fun v11 => if v11 ≤ v8 then k30 v8 v9 v10 else if (((v2 ^^^ v3) >>> (v8 &&& (31 : Int32))) &&& (1 : Int32)) = (1 : Int32) then (F_X4_countOf fu p1 v8).bind fun v14 => if (10 : Int32) ≤ v14 then F_X4_ticks_s_J72 fu rec30 f_s p1 v8 v9 v10 (10 : Int32) else (F_X4_countOf fu p1 v8).bind fun v24 => F_X4_ticks_s_J72 fu rec30 f_s p1 v8 v9 v10 (v24 + (1 : Int32)) else rec30 (v8 + (1 : Int32)) v9 v10
def F_X4_ticks_s (fu : Nat) (f_counted : Int32) (f_due : Int32) (f_s : Nat → Int32) (p1 : Int32) : Option (Int32 × Int32) := (F_X4_upOf fu p1).bind fun v1 => (F_X4_calledBy fu f_s 88 v1).bind fun v2 => (F_X4_upOf fu p1).bind fun v3 => (F_X4_upOf fu p1).bind fun v4 => zlp3 (F_X4_ticks_s_L30 fu f_s p1 v2 v3 (F_X4_ticks_s_E154)) fu (0 : Int32) v4 (0 : Int32)
set_option maxHeartbeats 4000000 in
set_option maxRecDepth 100000 in
theorem c_X4_ticks_s (l : Launch) (D : va_G) (cI cC cO cJ : ClassId) (fu : Nat) (a_this a_s a_then a_past a_text a_met a_table a_ways a_waysOf a_into a_orders : Nat) (sz : Nat) (f_thrown : Int32) (f_saved : Int32) (f_length : Int32) (f_counted : Int32) (f_due : Int32) (f_meets : Int32) (f_isTold : Int32) (f_rests : Int32) (f_leastRest : Int32) (f_mostRest : Int32) (f_isWheel : Int32) (f_ended : Int32) (f_spot : Int32) (f_ordered : Int32) (f_cureAmount : Int32) (f_cureRelay : Int32) (f_cureWhich : Int32) (f_hash : Int64) (f_s : Nat → Int32) (p1 : Int32) (R : Int32 × Int32) (h : F_X4_ticks_s fu f_counted f_due f_s p1 = some R) : Met l yX4_ticks wsX4_ticks ({ frames := 3, cells := 0, slots := 0, locals := 71 } : Room) (zPw D (ztys cI cC cO cJ) [(a_this, .inr (4, [.int f_thrown, .ref a_s, .ref a_then, .ref a_past, .int f_saved, .ref a_text, .int f_length, .int f_counted, .int f_due, .ref a_met, .ref a_table, .ref a_ways, .ref a_waysOf, .ref a_into, .int f_meets, .int f_isTold, .int f_rests, .int f_leastRest, .int f_mostRest, .int f_isWheel, .int f_ended, .int f_spot, .ref a_orders, .int f_ordered, .int f_cureAmount, .int f_cureRelay, .int f_cureWhich, .long f_hash])), (a_s, .inl (cI, 88, .inl f_s))] sz [.ref a_this, .ref a_s, .int p1]) (zWv D [(a_this, .inr (4, [.int f_thrown, .ref a_s, .ref a_then, .ref a_past, .int f_saved, .ref a_text, .int f_length, .int R.1, .int R.2, .ref a_met, .ref a_table, .ref a_ways, .ref a_waysOf, .ref a_into, .int f_meets, .int f_isTold, .int f_rests, .int f_leastRest, .int f_mostRest, .int f_isWheel, .int f_ended, .int f_spot, .ref a_orders, .int f_ordered, .int f_cureAmount, .int f_cureRelay, .int f_cureWhich, .long f_hash])), (a_s, .inl (cI, 88, .inl f_s))] (va_A [(a_this, .inr (4, [.int f_thrown, .ref a_s, .ref a_then, .ref a_past, .int f_saved, .ref a_text, .int f_length, .int f_counted, .int f_due, .ref a_met, .ref a_table, .ref a_ways, .ref a_waysOf, .ref a_into, .int f_meets, .int f_isTold, .int f_rests, .int f_leastRest, .int f_mostRest, .int f_isWheel, .int f_ended, .int f_spot, .ref a_orders, .int f_ordered, .int f_cureAmount, .int f_cureRelay, .int f_cureWhich, .long f_hash])), (a_s, .inl (cI, 88, .inl f_s))] sz)) 0 0 (va_A [(a_this, .inr (4, [.int f_thrown, .ref a_s, .ref a_then, .ref a_past, .int f_saved, .ref a_text, .int f_length, .int f_counted, .int f_due, .ref a_met, .ref a_table, .ref a_ways, .ref a_waysOf, .ref a_into, .int f_meets, .int f_isTold, .int f_rests, .int f_leastRest, .int f_mostRest, .int f_isWheel, .int f_ended, .int f_spot, .ref a_orders, .int f_ordered, .int f_cureAmount, .int f_cureRelay, .int f_cureWhich, .long f_hash])), (a_s, .inl (cI, 88, .inl f_s))] sz) := by
  refine Met.ofW (cc := cX4_ticks) (maxL := 7) (ret := none) (by decide) rfl ?_
  intro p e s m args below meth c s₁ B hml hv
  obtain ⟨rfl, hsz, hP, hK, hD0⟩ := hv
  have hx := B.exec
  have hb := B.bytes
  have hr := B.returns
  have hts := atoms_spec (ws := wsX4_ticks) B.pre
  have hown : s.vm.findClass RX4 = some m.cls := findClass_of_methodNamed B.named
  have hlocks := B.notSynchronized
  have hinX4 : ∀ w ∈ wsX40, w ∈ wsX4_ticks := fun _ h => (List.mem_cons_of_mem _ (List.mem_append_right _ h))
  subst hsz
  have hD := hD0.self (sz := s.heap.size)
  generalize hAe : va_A [(a_this, .inr (4, [.int f_thrown, .ref a_s, .ref a_then, .ref a_past, .int f_saved, .ref a_text, .int f_length, .int f_counted, .int f_due, .ref a_met, .ref a_table, .ref a_ways, .ref a_waysOf, .ref a_into, .int f_meets, .int f_isTold, .int f_rests, .int f_leastRest, .int f_mostRest, .int f_isWheel, .int f_ended, .int f_spot, .ref a_orders, .int f_ordered, .int f_cureAmount, .int f_cureRelay, .int f_cureWhich, .long f_hash])), (a_s, .inl (cI, 88, .inl f_s))] s.heap.size = A at hD ⊢
  have hA : ∀ q : Nat, s.heap.size ≤ q → A q := fun q h => by rw [← hAe]; exact Or.inr h
  have hS : va_S A s.heap s.heap [] := va_S.rf
  have hP : va_P D vwCl [(a_this, .inr (4, [.int f_thrown, .ref a_s, .ref a_then, .ref a_past, .int f_saved, .ref a_text, .int f_length, .int f_counted, .int f_due, .ref a_met, .ref a_table, .ref a_ways, .ref a_waysOf, .ref a_into, .int f_meets, .int f_isTold, .int f_rests, .int f_leastRest, .int f_mostRest, .int f_isWheel, .int f_ended, .int f_spot, .ref a_orders, .int f_ordered, .int f_cureAmount, .int f_cureRelay, .int f_cureWhich, .long f_hash])), (a_s, .inl (cI, 88, .inl f_s))] s.heap := hP
  have hK : va_K D vwCl (ztys cI cC cO cJ) s := hK
  have hl := lv_entry ([.ref a_this, .ref a_s, .int p1]) (n := 7) (Nat.le_of_ble_eq_true rfl)
  rw [lg_entry_eq]
  generalize (lg_sl ([.ref a_this, .ref a_s, .int p1]) ++ List.replicate (7 - (lg_sl ([.ref a_this, .ref a_s, .int p1])).length) Slot.unset).toArray = ls at hl ⊢
  have hl : lv_has ls 7 [(0, .ref a_this), (1, .ref a_s), (2, .int p1)] := hl
  unfold F_X4_ticks_s at h
  refine lv_aload_n hx hb dX4_ticks_0 rfl (lv_at hl 1 rfl) ?_
  refine lv_iload_n hx hb dX4_ticks_1 rfl (lv_at hl 2 rfl) ?_
  obtain ⟨v1, hv1, h⟩ := zbnd h
  refine zc_i (W.runS (As := [.int p1]) (rest := [.ref a_s]) ⟨hx, hb, hml, hown, hts⟩ (c_X4_upOf l D cI cC cO cJ fu p1 v1 hv1) (va_cwS 1 hts gX4_ticks_X4_upOf rfl rfl rfl (by decide +kernel) ⟨Nat.le_of_ble_eq_true rfl, Nat.le_of_ble_eq_true rfl⟩) (zPr_S hK zP_nil) rfl rfl hl.1 rfl (lv_room (Nat.le_of_ble_eq_true rfl)) dX4_ticks_2 ⟨Nat.zero_le _, Nat.zero_le _⟩) ?_
  obtain ⟨v2, hv2, h⟩ := zbnd h
  have hPc := hP.sub (ws' := [(a_s, .inl (cI, 88, .inl f_s))]) [1] rfl
  refine zc_i (W.runS (As := [.ref a_s, .int v1]) (rest := []) ⟨hx, hb, hml, hown, hts⟩ (c_X4_calledBy l D cI cC cO cJ fu a_s f_s 88 v1 v2 hv2) (va_cwS 2 hts gX4_ticks_X4_calledBy rfl rfl rfl (by decide +kernel) ⟨Nat.le_of_ble_eq_true rfl, Nat.le_of_ble_eq_true rfl⟩) (zPr_S hK hPc) rfl rfl hl.1 rfl (lv_room (Nat.le_of_ble_eq_true rfl)) dX4_ticks_5 ⟨Nat.zero_le _, Nat.zero_le _⟩) ?_
  refine lv_iload_n hx hb dX4_ticks_8 rfl (lv_at hl 2 rfl) ?_
  obtain ⟨v3, hv3, h⟩ := zbnd h
  refine zc_i (W.runS (As := [.int p1]) (rest := [.int v2]) ⟨hx, hb, hml, hown, hts⟩ (c_X4_upOf l D cI cC cO cJ fu p1 v3 hv3) (va_cwS 1 hts gX4_ticks_X4_upOf rfl rfl rfl (by decide +kernel) ⟨Nat.le_of_ble_eq_true rfl, Nat.le_of_ble_eq_true rfl⟩) (zPr_S hK zP_nil) rfl rfl hl.1 rfl (lv_room (Nat.le_of_ble_eq_true rfl)) dX4_ticks_9 ⟨Nat.zero_le _, Nat.zero_le _⟩) ?_
  refine lv_ixor hx hb dX4_ticks_12 ?_
  refine lv_istore_n (lv' := [(3, .int (v2 ^^^ v3)), (0, .ref a_this), (1, .ref a_s), (2, .int p1)]) hx hb dX4_ticks_13 rfl hl (by decide) rfl (fun ls hl => ?_)
  refine lv_aload_n hx hb dX4_ticks_14 rfl (lv_at hl 1 rfl) ?_
  refine lv_iload_n hx hb dX4_ticks_15 rfl (lv_at hl 3 rfl) ?_
  obtain ⟨v4, hv4, h⟩ := zbnd h
  refine zc_i (W.runS (As := [.int p1]) (rest := [.ref a_this]) ⟨hx, hb, hml, hown, hts⟩ (c_X4_upOf l D cI cC cO cJ fu p1 v4 hv4) (va_cwS 1 hts gX4_ticks_X4_upOf rfl rfl rfl (by decide +kernel) ⟨Nat.le_of_ble_eq_true rfl, Nat.le_of_ble_eq_true rfl⟩) (zPr_S hK zP_nil) rfl rfl hl.1 rfl (lv_room (Nat.le_of_ble_eq_true rfl)) dX4_ticks_16 ⟨Nat.zero_le _, Nat.zero_le _⟩) ?_
  refine va_put (D := D) (ci := 4) (v := .int v4) (ty := .int) (C := RX4) (T := TX4) (N := 28) hx hb hts hinX4 tyX4 tyX4_ok nmX4 hown hK hP hD hS 0 rfl rfl 7 (by decide) (hts (Cond.fieldLink RX4 72 "LadderRelaysModel" "counted" "I") (List.mem_of_getElem? (i := 1) rfl)) (fun _ h9 => h9) rfl (by decide +kernel) rfl rfl (Nat.le_of_ble_eq_true rfl) dX4_ticks_19 (fun H locs hP hD hS => ?_)
  have hP : va_P D vwCl [(a_this, .inr (4, [.int f_thrown, .ref a_s, .ref a_then, .ref a_past, .int f_saved, .ref a_text, .int f_length, .int v4, .int f_due, .ref a_met, .ref a_table, .ref a_ways, .ref a_waysOf, .ref a_into, .int f_meets, .int f_isTold, .int f_rests, .int f_leastRest, .int f_mostRest, .int f_isWheel, .int f_ended, .int f_spot, .ref a_orders, .int f_ordered, .int f_cureAmount, .int f_cureRelay, .int f_cureWhich, .long f_hash])), (a_s, .inl (cI, 88, .inl f_s))] H := hP
  have hD : va_D A [(a_this, .inr (4, [.int f_thrown, .ref a_s, .ref a_then, .ref a_past, .int f_saved, .ref a_text, .int f_length, .int v4, .int f_due, .ref a_met, .ref a_table, .ref a_ways, .ref a_waysOf, .ref a_into, .int f_meets, .int f_isTold, .int f_rests, .int f_leastRest, .int f_mostRest, .int f_isWheel, .int f_ended, .int f_spot, .ref a_orders, .int f_ordered, .int f_cureAmount, .int f_cureRelay, .int f_cureWhich, .long f_hash])), (a_s, .inl (cI, 88, .inl f_s))] := hD
  refine lv_aload_n hx hb dX4_ticks_22 rfl (lv_at hl 1 rfl) ?_
  refine lv_iconst (v := (0 : Int32)) hx hb dX4_ticks_23 (by decide) ?_
  refine va_put (D := D) (ci := 4) (v := .int (0 : Int32)) (ty := .int) (C := RX4) (T := TX4) (N := 28) hx hb hts hinX4 tyX4 tyX4_ok nmX4 hown hK hP hD hS 0 rfl rfl 8 (by decide) (hts (Cond.fieldLink RX4 75 "LadderRelaysModel" "due" "I") (List.mem_of_getElem? (i := 2) rfl)) (fun _ h9 => h9) rfl (by decide +kernel) rfl rfl (Nat.le_of_ble_eq_true rfl) dX4_ticks_24 (fun H locs hP hD hS => ?_)
  have hP : va_P D vwCl [(a_this, .inr (4, [.int f_thrown, .ref a_s, .ref a_then, .ref a_past, .int f_saved, .ref a_text, .int f_length, .int v4, .int (0 : Int32), .ref a_met, .ref a_table, .ref a_ways, .ref a_waysOf, .ref a_into, .int f_meets, .int f_isTold, .int f_rests, .int f_leastRest, .int f_mostRest, .int f_isWheel, .int f_ended, .int f_spot, .ref a_orders, .int f_ordered, .int f_cureAmount, .int f_cureRelay, .int f_cureWhich, .long f_hash])), (a_s, .inl (cI, 88, .inl f_s))] H := hP
  have hD : va_D A [(a_this, .inr (4, [.int f_thrown, .ref a_s, .ref a_then, .ref a_past, .int f_saved, .ref a_text, .int f_length, .int v4, .int (0 : Int32), .ref a_met, .ref a_table, .ref a_ways, .ref a_waysOf, .ref a_into, .int f_meets, .int f_isTold, .int f_rests, .int f_leastRest, .int f_mostRest, .int f_isWheel, .int f_ended, .int f_spot, .ref a_orders, .int f_ordered, .int f_cureAmount, .int f_cureRelay, .int f_cureWhich, .long f_hash])), (a_s, .inl (cI, 88, .inl f_s))] := hD
  refine lv_iconst (v := (0 : Int32)) hx hb dX4_ticks_27 (by decide) ?_
  refine lv_istore (lv' := [(4, .int (0 : Int32)), (3, .int (v2 ^^^ v3)), (0, .ref a_this), (1, .ref a_s), (2, .int p1)]) hx hb dX4_ticks_28 hl (by decide) rfl (fun ls hl => ?_)
  have E154 : ∀ (v5 : Int32) (v6 : Int32) (v7 : Int32), F_X4_ticks_s_E154 v5 v6 v7 = some R → ∀ (H : Heap) (locs : List Loc), va_P D vwCl [(a_this, .inr (4, [.int f_thrown, .ref a_s, .ref a_then, .ref a_past, .int f_saved, .ref a_text, .int f_length, .int v6, .int v7, .ref a_met, .ref a_table, .ref a_ways, .ref a_waysOf, .ref a_into, .int f_meets, .int f_isTold, .int f_rests, .int f_leastRest, .int f_mostRest, .int f_isWheel, .int f_ended, .int f_spot, .ref a_orders, .int f_ordered, .int f_cureAmount, .int f_cureRelay, .int f_cureWhich, .long f_hash])), (a_s, .inl (cI, 88, .inl f_s))] H → va_D A [(a_this, .inr (4, [.int f_thrown, .ref a_s, .ref a_then, .ref a_past, .int f_saved, .ref a_text, .int f_length, .int v6, .int v7, .ref a_met, .ref a_table, .ref a_ways, .ref a_waysOf, .ref a_into, .int f_meets, .int f_isTold, .int f_rests, .int f_leastRest, .int f_mostRest, .int f_isWheel, .int f_ended, .int f_spot, .ref a_orders, .int f_ordered, .int f_cureAmount, .int f_cureRelay, .int f_cureWhich, .long f_hash])), (a_s, .inl (cI, 88, .inl f_s))] → va_S A s.heap H locs → ∀ ls : Array Slot, lv_has ls 7 [(0, .ref a_this), (1, .ref a_s), (2, .int p1), (3, .int (v2 ^^^ v3)), (4, .int v5)] → W p l e ({ frames := 3, cells := 0, slots := 0, locals := 71 } : Room) s m (([.ref a_this, .ref a_s, .int p1] : List Value).toArray) below meth c H locs 0 0 (MQ below (zWv D [(a_this, .inr (4, [.int f_thrown, .ref a_s, .ref a_then, .ref a_past, .int f_saved, .ref a_text, .int f_length, .int R.1, .int R.2, .ref a_met, .ref a_table, .ref a_ways, .ref a_waysOf, .ref a_into, .int f_meets, .int f_isTold, .int f_rests, .int f_leastRest, .int f_mostRest, .int f_isWheel, .int f_ended, .int f_spot, .ref a_orders, .int f_ordered, .int f_cureAmount, .int f_cureRelay, .int f_cureWhich, .long f_hash])), (a_s, .inl (cI, 88, .inl f_s))] A) (([.ref a_this, .ref a_s, .int p1] : List Value).toArray) s 0 0 A) (F0 m 154 ls []) := by
    intro v5 v6 v7 h H locs hP hD hS ls hl
    unfold F_X4_ticks_s_E154 at h
    have hR := Option.some.inj h
    subst hR
    exact W.vret hx hb hr (fun t ht hW => ⟨⟨(), rfl, trivial, zhp ht hP⟩, hS.F ht⟩) hS.2.2 dX4_ticks_154
  refine zlp_i3 (R := R) (P := fun (v8 : Int32) (v9 : Int32) (v10 : Int32) => ∀ (H : Heap) (locs : List Loc), va_P D vwCl [(a_this, .inr (4, [.int f_thrown, .ref a_s, .ref a_then, .ref a_past, .int f_saved, .ref a_text, .int f_length, .int v9, .int v10, .ref a_met, .ref a_table, .ref a_ways, .ref a_waysOf, .ref a_into, .int f_meets, .int f_isTold, .int f_rests, .int f_leastRest, .int f_mostRest, .int f_isWheel, .int f_ended, .int f_spot, .ref a_orders, .int f_ordered, .int f_cureAmount, .int f_cureRelay, .int f_cureWhich, .long f_hash])), (a_s, .inl (cI, 88, .inl f_s))] H → va_D A [(a_this, .inr (4, [.int f_thrown, .ref a_s, .ref a_then, .ref a_past, .int f_saved, .ref a_text, .int f_length, .int v9, .int v10, .ref a_met, .ref a_table, .ref a_ways, .ref a_waysOf, .ref a_into, .int f_meets, .int f_isTold, .int f_rests, .int f_leastRest, .int f_mostRest, .int f_isWheel, .int f_ended, .int f_spot, .ref a_orders, .int f_ordered, .int f_cureAmount, .int f_cureRelay, .int f_cureWhich, .long f_hash])), (a_s, .inl (cI, 88, .inl f_s))] → va_S A s.heap H locs → ∀ ls : Array Slot, lv_has ls 7 [(0, .ref a_this), (1, .ref a_s), (2, .int p1), (3, .int (v2 ^^^ v3)), (4, .int v8)] → W p l e ({ frames := 3, cells := 0, slots := 0, locals := 71 } : Room) s m (([.ref a_this, .ref a_s, .int p1] : List Value).toArray) below meth c H locs 0 0 (MQ below (zWv D [(a_this, .inr (4, [.int f_thrown, .ref a_s, .ref a_then, .ref a_past, .int f_saved, .ref a_text, .int f_length, .int R.1, .int R.2, .ref a_met, .ref a_table, .ref a_ways, .ref a_waysOf, .ref a_into, .int f_meets, .int f_isTold, .int f_rests, .int f_leastRest, .int f_mostRest, .int f_isWheel, .int f_ended, .int f_spot, .ref a_orders, .int f_ordered, .int f_cureAmount, .int f_cureRelay, .int f_cureWhich, .long f_hash])), (a_s, .inl (cI, 88, .inl f_s))] A) (([.ref a_this, .ref a_s, .int p1] : List Value).toArray) s 0 0 A) (F0 m 30 ls [])) (fun rec30 ih30 v8 v9 v10 h => ?_) fu (0 : Int32) v4 (0 : Int32) h _ _ hP hD hS ls (lv_sub hl [2, 3, 4, 1, 0] rfl)
  intro H locs hP hD hS ls hl
  unfold F_X4_ticks_s_L30 at h
  refine lv_iload hx hb dX4_ticks_30 (lv_at hl 4 rfl) ?_
  refine lv_aload_n hx hb dX4_ticks_32 rfl (lv_at hl 1 rfl) ?_
  refine lv_iconst (v := (0 : Int32)) hx hb dX4_ticks_33 (by decide) ?_
  obtain ⟨v11, hv11, h⟩ := zbnd h
  refine zr_iald hx hb hK hP 1 0 rfl rfl hv11 dX4_ticks_34 ?_
  refine lv_icmp_ge (tgt := 154) hx hb dX4_ticks_35 (by decide) (fun c12 => ?_) (fun c12 => ?_)
  · have h := zif_t c12 h
    exact E154 v8 v9 v10 h _ _ hP hD hS ls (lv_sub hl [0, 1, 2, 3, 4] rfl)
  · have h := zif_f c12 h
    refine lv_iload_n hx hb dX4_ticks_38 rfl (lv_at hl 3 rfl) ?_
    refine lv_iload hx hb dX4_ticks_39 (lv_at hl 4 rfl) ?_
    refine lv_ishr hx hb dX4_ticks_41 ?_
    refine lv_iconst (v := (1 : Int32)) hx hb dX4_ticks_42 (by decide) ?_
    refine lv_iand hx hb dX4_ticks_43 ?_
    refine lv_iconst (v := (1 : Int32)) hx hb dX4_ticks_44 (by decide) ?_
    refine lv_icmp_ne (tgt := 148) hx hb dX4_ticks_45 (by decide) (fun c13 => ?_) (fun c13 => ?_)
    · have h := zif_f c13 h
      refine lv_iinc (v := (v8 + (1 : Int32))) (lv' := [(4, .int (v8 + (1 : Int32))), (0, .ref a_this), (1, .ref a_s), (2, .int p1), (3, .int (v2 ^^^ v3))]) hx hb dX4_ticks_148 hl (k := 4) rfl rfl (by decide) rfl (fun ls hl => ?_)
      refine lv_goto (tgt := 30) hx hb dX4_ticks_151 (by decide) ?_
      exact ih30 (v8 + (1 : Int32)) v9 v10 h _ _ hP hD hS ls (lv_sub hl [1, 2, 3, 4, 0] rfl)
    · have h := zif_t c13 h
      refine lv_iload_n hx hb dX4_ticks_48 rfl (lv_at hl 2 rfl) ?_
      refine lv_iload hx hb dX4_ticks_49 (lv_at hl 4 rfl) ?_
      obtain ⟨v14, hv14, h⟩ := zbnd h
      refine zc_i (W.runS (As := [.int p1, .int v8]) (rest := []) ⟨hx, hb, hml, hown, hts⟩ (c_X4_countOf l D cI cC cO cJ fu p1 v8 v14 hv14) (va_cwS 2 hts gX4_ticks_X4_countOf rfl rfl rfl (by decide +kernel) ⟨Nat.le_of_ble_eq_true rfl, Nat.le_of_ble_eq_true rfl⟩) (zPr_S hK zP_nil) rfl rfl hl.1 rfl (lv_room (Nat.le_of_ble_eq_true rfl)) dX4_ticks_51 ⟨Nat.zero_le _, Nat.zero_le _⟩) ?_
      refine lv_bipush (v := (10 : Int32)) hx hb dX4_ticks_54 (by decide) ?_
      have J72 : ∀ (v15 : Int32), F_X4_ticks_s_J72 fu rec30 f_s p1 v8 v9 v10 v15 = some R → ∀ (H : Heap) (locs : List Loc), va_P D vwCl [(a_this, .inr (4, [.int f_thrown, .ref a_s, .ref a_then, .ref a_past, .int f_saved, .ref a_text, .int f_length, .int v9, .int v10, .ref a_met, .ref a_table, .ref a_ways, .ref a_waysOf, .ref a_into, .int f_meets, .int f_isTold, .int f_rests, .int f_leastRest, .int f_mostRest, .int f_isWheel, .int f_ended, .int f_spot, .ref a_orders, .int f_ordered, .int f_cureAmount, .int f_cureRelay, .int f_cureWhich, .long f_hash])), (a_s, .inl (cI, 88, .inl f_s))] H → va_D A [(a_this, .inr (4, [.int f_thrown, .ref a_s, .ref a_then, .ref a_past, .int f_saved, .ref a_text, .int f_length, .int v9, .int v10, .ref a_met, .ref a_table, .ref a_ways, .ref a_waysOf, .ref a_into, .int f_meets, .int f_isTold, .int f_rests, .int f_leastRest, .int f_mostRest, .int f_isWheel, .int f_ended, .int f_spot, .ref a_orders, .int f_ordered, .int f_cureAmount, .int f_cureRelay, .int f_cureWhich, .long f_hash])), (a_s, .inl (cI, 88, .inl f_s))] → va_S A s.heap H locs → ∀ ls : Array Slot, lv_has ls 7 [(0, .ref a_this), (1, .ref a_s), (2, .int p1), (3, .int (v2 ^^^ v3)), (4, .int v8)] → W p l e ({ frames := 3, cells := 0, slots := 0, locals := 71 } : Room) s m (([.ref a_this, .ref a_s, .int p1] : List Value).toArray) below meth c H locs 0 0 (MQ below (zWv D [(a_this, .inr (4, [.int f_thrown, .ref a_s, .ref a_then, .ref a_past, .int f_saved, .ref a_text, .int f_length, .int R.1, .int R.2, .ref a_met, .ref a_table, .ref a_ways, .ref a_waysOf, .ref a_into, .int f_meets, .int f_isTold, .int f_rests, .int f_leastRest, .int f_mostRest, .int f_isWheel, .int f_ended, .int f_spot, .ref a_orders, .int f_ordered, .int f_cureAmount, .int f_cureRelay, .int f_cureWhich, .long f_hash])), (a_s, .inl (cI, 88, .inl f_s))] A) (([.ref a_this, .ref a_s, .int p1] : List Value).toArray) s 0 0 A) (F0 m 72 ls [.int v15]) := by
        intro v15 h H locs hP hD hS ls hl
        unfold F_X4_ticks_s_J72 at h
        refine lv_istore (lv' := [(5, .int v15), (0, .ref a_this), (1, .ref a_s), (2, .int p1), (3, .int (v2 ^^^ v3)), (4, .int v8)]) hx hb dX4_ticks_72 hl (by decide) rfl (fun ls hl => ?_)
        refine lv_iload_n hx hb dX4_ticks_74 rfl (lv_at hl 3 rfl) ?_
        refine lv_iload hx hb dX4_ticks_75 (lv_at hl 5 rfl) ?_
        refine lv_ishr hx hb dX4_ticks_77 ?_
        refine lv_iconst (v := (1 : Int32)) hx hb dX4_ticks_78 (by decide) ?_
        refine lv_iand hx hb dX4_ticks_79 ?_
        refine lv_iconst (v := (1 : Int32)) hx hb dX4_ticks_80 (by decide) ?_
        have J89 : ∀ (v16 : Int32), F_X4_ticks_s_J89 fu rec30 f_s v8 v9 v10 v15 v16 = some R → ∀ (H : Heap) (locs : List Loc), va_P D vwCl [(a_this, .inr (4, [.int f_thrown, .ref a_s, .ref a_then, .ref a_past, .int f_saved, .ref a_text, .int f_length, .int v9, .int v10, .ref a_met, .ref a_table, .ref a_ways, .ref a_waysOf, .ref a_into, .int f_meets, .int f_isTold, .int f_rests, .int f_leastRest, .int f_mostRest, .int f_isWheel, .int f_ended, .int f_spot, .ref a_orders, .int f_ordered, .int f_cureAmount, .int f_cureRelay, .int f_cureWhich, .long f_hash])), (a_s, .inl (cI, 88, .inl f_s))] H → va_D A [(a_this, .inr (4, [.int f_thrown, .ref a_s, .ref a_then, .ref a_past, .int f_saved, .ref a_text, .int f_length, .int v9, .int v10, .ref a_met, .ref a_table, .ref a_ways, .ref a_waysOf, .ref a_into, .int f_meets, .int f_isTold, .int f_rests, .int f_leastRest, .int f_mostRest, .int f_isWheel, .int f_ended, .int f_spot, .ref a_orders, .int f_ordered, .int f_cureAmount, .int f_cureRelay, .int f_cureWhich, .long f_hash])), (a_s, .inl (cI, 88, .inl f_s))] → va_S A s.heap H locs → ∀ ls : Array Slot, lv_has ls 7 [(0, .ref a_this), (1, .ref a_s), (2, .int p1), (3, .int (v2 ^^^ v3)), (4, .int v8), (5, .int v15)] → W p l e ({ frames := 3, cells := 0, slots := 0, locals := 71 } : Room) s m (([.ref a_this, .ref a_s, .int p1] : List Value).toArray) below meth c H locs 0 0 (MQ below (zWv D [(a_this, .inr (4, [.int f_thrown, .ref a_s, .ref a_then, .ref a_past, .int f_saved, .ref a_text, .int f_length, .int R.1, .int R.2, .ref a_met, .ref a_table, .ref a_ways, .ref a_waysOf, .ref a_into, .int f_meets, .int f_isTold, .int f_rests, .int f_leastRest, .int f_mostRest, .int f_isWheel, .int f_ended, .int f_spot, .ref a_orders, .int f_ordered, .int f_cureAmount, .int f_cureRelay, .int f_cureWhich, .long f_hash])), (a_s, .inl (cI, 88, .inl f_s))] A) (([.ref a_this, .ref a_s, .int p1] : List Value).toArray) s 0 0 A) (F0 m 89 ls [.int v16]) := by
          intro v16 h H locs hP hD hS ls hl
          unfold F_X4_ticks_s_J89 at h
          refine lv_istore (lv' := [(6, .int v16), (0, .ref a_this), (1, .ref a_s), (2, .int p1), (3, .int (v2 ^^^ v3)), (4, .int v8), (5, .int v15)]) hx hb dX4_ticks_89 hl (by decide) rfl (fun ls hl => ?_)
          refine lv_aload_n hx hb dX4_ticks_91 rfl (lv_at hl 1 rfl) ?_
          refine lv_dup hx hb dX4_ticks_92 rfl ?_
          refine va_get (D := D) (ci := 4) (v := .int v9) (C := RX4) (T := TX4) (N := 28) hx hb hts hinX4 hown hK hP 0 rfl rfl 7 (by decide) (hts (Cond.fieldLink RX4 72 "LadderRelaysModel" "counted" "I") (List.mem_of_getElem? (i := 1) rfl)) (fun _ h9 => h9) rfl dX4_ticks_93 ?_
          refine lv_iload hx hb dX4_ticks_96 (lv_at hl 6 rfl) ?_
          refine lv_bipush (v := (6 : Int32)) hx hb dX4_ticks_98 (by decide) ?_
          refine lv_iconst (v := (4 : Int32)) hx hb dX4_ticks_100 (by decide) ?_
          refine lv_iload hx hb dX4_ticks_101 (lv_at hl 5 rfl) ?_
          refine lv_imul hx hb dX4_ticks_103 ?_
          refine lv_iadd hx hb dX4_ticks_104 ?_
          refine lv_ishl hx hb dX4_ticks_105 ?_
          refine lv_ior hx hb dX4_ticks_106 ?_
          refine va_put (D := D) (ci := 4) (v := .int (v9 ||| (v15 <<< (((6 : Int32) + ((4 : Int32) * v8)) &&& (31 : Int32))))) (ty := .int) (C := RX4) (T := TX4) (N := 28) hx hb hts hinX4 tyX4 tyX4_ok nmX4 hown hK hP hD hS 0 rfl rfl 7 (by decide) (hts (Cond.fieldLink RX4 72 "LadderRelaysModel" "counted" "I") (List.mem_of_getElem? (i := 1) rfl)) (fun _ h9 => h9) rfl (by decide +kernel) rfl rfl (Nat.le_of_ble_eq_true rfl) dX4_ticks_107 (fun H locs hP hD hS => ?_)
          have hP : va_P D vwCl [(a_this, .inr (4, [.int f_thrown, .ref a_s, .ref a_then, .ref a_past, .int f_saved, .ref a_text, .int f_length, .int (v9 ||| (v15 <<< (((6 : Int32) + ((4 : Int32) * v8)) &&& (31 : Int32)))), .int v10, .ref a_met, .ref a_table, .ref a_ways, .ref a_waysOf, .ref a_into, .int f_meets, .int f_isTold, .int f_rests, .int f_leastRest, .int f_mostRest, .int f_isWheel, .int f_ended, .int f_spot, .ref a_orders, .int f_ordered, .int f_cureAmount, .int f_cureRelay, .int f_cureWhich, .long f_hash])), (a_s, .inl (cI, 88, .inl f_s))] H := hP
          have hD : va_D A [(a_this, .inr (4, [.int f_thrown, .ref a_s, .ref a_then, .ref a_past, .int f_saved, .ref a_text, .int f_length, .int (v9 ||| (v15 <<< (((6 : Int32) + ((4 : Int32) * v8)) &&& (31 : Int32)))), .int v10, .ref a_met, .ref a_table, .ref a_ways, .ref a_waysOf, .ref a_into, .int f_meets, .int f_isTold, .int f_rests, .int f_leastRest, .int f_mostRest, .int f_isWheel, .int f_ended, .int f_spot, .ref a_orders, .int f_ordered, .int f_cureAmount, .int f_cureRelay, .int f_cureWhich, .long f_hash])), (a_s, .inl (cI, 88, .inl f_s))] := hD
          refine lv_aload_n hx hb dX4_ticks_110 rfl (lv_at hl 1 rfl) ?_
          refine lv_dup hx hb dX4_ticks_111 rfl ?_
          refine va_get (D := D) (ci := 4) (v := .int v10) (C := RX4) (T := TX4) (N := 28) hx hb hts hinX4 hown hK hP 0 rfl rfl 8 (by decide) (hts (Cond.fieldLink RX4 75 "LadderRelaysModel" "due" "I") (List.mem_of_getElem? (i := 2) rfl)) (fun _ h9 => h9) rfl dX4_ticks_112 ?_
          refine lv_iload hx hb dX4_ticks_115 (lv_at hl 6 rfl) ?_
          refine lv_aload_n hx hb dX4_ticks_117 rfl (lv_at hl 2 rfl) ?_
          refine lv_iload hx hb dX4_ticks_118 (lv_at hl 5 rfl) ?_
          refine lv_iload hx hb dX4_ticks_120 (lv_at hl 0 rfl) ?_
          have J130 : ∀ (v17 : Int32), F_X4_ticks_s_J130 fu rec30 f_s v8 v9 v10 v15 v17 = some R → ∀ (H : Heap) (locs : List Loc), va_P D vwCl [(a_this, .inr (4, [.int f_thrown, .ref a_s, .ref a_then, .ref a_past, .int f_saved, .ref a_text, .int f_length, .int (v9 ||| (v15 <<< (((6 : Int32) + ((4 : Int32) * v8)) &&& (31 : Int32)))), .int v10, .ref a_met, .ref a_table, .ref a_ways, .ref a_waysOf, .ref a_into, .int f_meets, .int f_isTold, .int f_rests, .int f_leastRest, .int f_mostRest, .int f_isWheel, .int f_ended, .int f_spot, .ref a_orders, .int f_ordered, .int f_cureAmount, .int f_cureRelay, .int f_cureWhich, .long f_hash])), (a_s, .inl (cI, 88, .inl f_s))] H → va_D A [(a_this, .inr (4, [.int f_thrown, .ref a_s, .ref a_then, .ref a_past, .int f_saved, .ref a_text, .int f_length, .int (v9 ||| (v15 <<< (((6 : Int32) + ((4 : Int32) * v8)) &&& (31 : Int32)))), .int v10, .ref a_met, .ref a_table, .ref a_ways, .ref a_waysOf, .ref a_into, .int f_meets, .int f_isTold, .int f_rests, .int f_leastRest, .int f_mostRest, .int f_isWheel, .int f_ended, .int f_spot, .ref a_orders, .int f_ordered, .int f_cureAmount, .int f_cureRelay, .int f_cureWhich, .long f_hash])), (a_s, .inl (cI, 88, .inl f_s))] → va_S A s.heap H locs → ∀ ls : Array Slot, lv_has ls 7 [(0, .ref a_this), (1, .ref a_s), (2, .int p1), (3, .int (v2 ^^^ v3)), (4, .int v8), (5, .int v15), (6, .int v16)] → W p l e ({ frames := 3, cells := 0, slots := 0, locals := 71 } : Room) s m (([.ref a_this, .ref a_s, .int p1] : List Value).toArray) below meth c H locs 0 0 (MQ below (zWv D [(a_this, .inr (4, [.int f_thrown, .ref a_s, .ref a_then, .ref a_past, .int f_saved, .ref a_text, .int f_length, .int R.1, .int R.2, .ref a_met, .ref a_table, .ref a_ways, .ref a_waysOf, .ref a_into, .int f_meets, .int f_isTold, .int f_rests, .int f_leastRest, .int f_mostRest, .int f_isWheel, .int f_ended, .int f_spot, .ref a_orders, .int f_ordered, .int f_cureAmount, .int f_cureRelay, .int f_cureWhich, .long f_hash])), (a_s, .inl (cI, 88, .inl f_s))] A) (([.ref a_this, .ref a_s, .int p1] : List Value).toArray) s 0 0 A) (F0 m 130 ls [.int v17, .int v8, .ref a_s, .int v15, .int v10, .ref a_this]) := by
            intro v17 h H locs hP hD hS ls hl
            unfold F_X4_ticks_s_J130 at h
            obtain ⟨v18, hv18, h⟩ := zbnd h
            have hPc := hP.sub (ws' := [(a_s, .inl (cI, 88, .inl f_s))]) [1] rfl
            refine zc_i (W.runS (As := [.ref a_s, .int v8, .int v17]) (rest := [.int v15, .int v10, .ref a_this]) ⟨hx, hb, hml, hown, hts⟩ (c_X4_of l D cI cC cO cJ fu a_s f_s 88 v8 v17 v18 hv18) (va_cwS 3 hts gX4_ticks_X4_of rfl rfl rfl (by decide +kernel) ⟨Nat.le_of_ble_eq_true rfl, Nat.le_of_ble_eq_true rfl⟩) (zPr_S hK hPc) rfl rfl hl.1 rfl (lv_room (Nat.le_of_ble_eq_true rfl)) dX4_ticks_130 ⟨Nat.zero_le _, Nat.zero_le _⟩) ?_
            have J144 : ∀ (v19 : Int32), F_X4_ticks_s_J144 rec30 v8 v9 v10 v15 v19 = some R → ∀ (H : Heap) (locs : List Loc), va_P D vwCl [(a_this, .inr (4, [.int f_thrown, .ref a_s, .ref a_then, .ref a_past, .int f_saved, .ref a_text, .int f_length, .int (v9 ||| (v15 <<< (((6 : Int32) + ((4 : Int32) * v8)) &&& (31 : Int32)))), .int v10, .ref a_met, .ref a_table, .ref a_ways, .ref a_waysOf, .ref a_into, .int f_meets, .int f_isTold, .int f_rests, .int f_leastRest, .int f_mostRest, .int f_isWheel, .int f_ended, .int f_spot, .ref a_orders, .int f_ordered, .int f_cureAmount, .int f_cureRelay, .int f_cureWhich, .long f_hash])), (a_s, .inl (cI, 88, .inl f_s))] H → va_D A [(a_this, .inr (4, [.int f_thrown, .ref a_s, .ref a_then, .ref a_past, .int f_saved, .ref a_text, .int f_length, .int (v9 ||| (v15 <<< (((6 : Int32) + ((4 : Int32) * v8)) &&& (31 : Int32)))), .int v10, .ref a_met, .ref a_table, .ref a_ways, .ref a_waysOf, .ref a_into, .int f_meets, .int f_isTold, .int f_rests, .int f_leastRest, .int f_mostRest, .int f_isWheel, .int f_ended, .int f_spot, .ref a_orders, .int f_ordered, .int f_cureAmount, .int f_cureRelay, .int f_cureWhich, .long f_hash])), (a_s, .inl (cI, 88, .inl f_s))] → va_S A s.heap H locs → ∀ ls : Array Slot, lv_has ls 7 [(0, .ref a_this), (1, .ref a_s), (2, .int p1), (3, .int (v2 ^^^ v3)), (4, .int v8), (5, .int v15), (6, .int v16)] → W p l e ({ frames := 3, cells := 0, slots := 0, locals := 71 } : Room) s m (([.ref a_this, .ref a_s, .int p1] : List Value).toArray) below meth c H locs 0 0 (MQ below (zWv D [(a_this, .inr (4, [.int f_thrown, .ref a_s, .ref a_then, .ref a_past, .int f_saved, .ref a_text, .int f_length, .int R.1, .int R.2, .ref a_met, .ref a_table, .ref a_ways, .ref a_waysOf, .ref a_into, .int f_meets, .int f_isTold, .int f_rests, .int f_leastRest, .int f_mostRest, .int f_isWheel, .int f_ended, .int f_spot, .ref a_orders, .int f_ordered, .int f_cureAmount, .int f_cureRelay, .int f_cureWhich, .long f_hash])), (a_s, .inl (cI, 88, .inl f_s))] A) (([.ref a_this, .ref a_s, .int p1] : List Value).toArray) s 0 0 A) (F0 m 144 ls [.int v19, .int v10, .ref a_this]) := by
              intro v19 h H locs hP hD hS ls hl
              unfold F_X4_ticks_s_J144 at h
              refine lv_ior hx hb dX4_ticks_144 ?_
              refine va_put (D := D) (ci := 4) (v := .int (v10 ||| v19)) (ty := .int) (C := RX4) (T := TX4) (N := 28) hx hb hts hinX4 tyX4 tyX4_ok nmX4 hown hK hP hD hS 0 rfl rfl 8 (by decide) (hts (Cond.fieldLink RX4 75 "LadderRelaysModel" "due" "I") (List.mem_of_getElem? (i := 2) rfl)) (fun _ h9 => h9) rfl (by decide +kernel) rfl rfl (Nat.le_of_ble_eq_true rfl) dX4_ticks_145 (fun H locs hP hD hS => ?_)
              have hP : va_P D vwCl [(a_this, .inr (4, [.int f_thrown, .ref a_s, .ref a_then, .ref a_past, .int f_saved, .ref a_text, .int f_length, .int (v9 ||| (v15 <<< (((6 : Int32) + ((4 : Int32) * v8)) &&& (31 : Int32)))), .int (v10 ||| v19), .ref a_met, .ref a_table, .ref a_ways, .ref a_waysOf, .ref a_into, .int f_meets, .int f_isTold, .int f_rests, .int f_leastRest, .int f_mostRest, .int f_isWheel, .int f_ended, .int f_spot, .ref a_orders, .int f_ordered, .int f_cureAmount, .int f_cureRelay, .int f_cureWhich, .long f_hash])), (a_s, .inl (cI, 88, .inl f_s))] H := hP
              have hD : va_D A [(a_this, .inr (4, [.int f_thrown, .ref a_s, .ref a_then, .ref a_past, .int f_saved, .ref a_text, .int f_length, .int (v9 ||| (v15 <<< (((6 : Int32) + ((4 : Int32) * v8)) &&& (31 : Int32)))), .int (v10 ||| v19), .ref a_met, .ref a_table, .ref a_ways, .ref a_waysOf, .ref a_into, .int f_meets, .int f_isTold, .int f_rests, .int f_leastRest, .int f_mostRest, .int f_isWheel, .int f_ended, .int f_spot, .ref a_orders, .int f_ordered, .int f_cureAmount, .int f_cureRelay, .int f_cureWhich, .long f_hash])), (a_s, .inl (cI, 88, .inl f_s))] := hD
              refine lv_iinc (v := (v8 + (1 : Int32))) (lv' := [(4, .int (v8 + (1 : Int32))), (0, .ref a_this), (1, .ref a_s), (2, .int p1), (3, .int (v2 ^^^ v3)), (5, .int v15), (6, .int v16)]) hx hb dX4_ticks_148 hl (k := 4) rfl rfl (by decide) rfl (fun ls hl => ?_)
              refine lv_goto (tgt := 30) hx hb dX4_ticks_151 (by decide) ?_
              exact ih30 (v8 + (1 : Int32)) (v9 ||| (v15 <<< (((6 : Int32) + ((4 : Int32) * v8)) &&& (31 : Int32)))) (v10 ||| v19) h _ _ hP hD hS ls (lv_sub hl [1, 2, 3, 4, 0] rfl)
            refine lv_icmp_le (tgt := 143) hx hb dX4_ticks_133 (by decide) (fun c20 => ?_) (fun c20 => ?_)
            · have h := zif_t c20 h
              refine lv_iconst (v := (0 : Int32)) hx hb dX4_ticks_143 (by decide) ?_
              exact J144 (0 : Int32) h _ _ hP hD hS ls (lv_sub hl [0, 1, 2, 3, 4, 5, 6] rfl)
            · have h := zif_f c20 h
              refine lv_iconst (v := (1 : Int32)) hx hb dX4_ticks_136 (by decide) ?_
              refine lv_iload hx hb dX4_ticks_137 (lv_at hl 4 rfl) ?_
              refine lv_ishl hx hb dX4_ticks_139 ?_
              refine lv_goto (tgt := 144) hx hb dX4_ticks_140 (by decide) ?_
              exact J144 ((1 : Int32) <<< (v8 &&& (31 : Int32))) h _ _ hP hD hS ls (lv_sub hl [0, 1, 2, 3, 4, 5, 6] rfl)
          refine lv_if_eq (tgt := 129) hx hb dX4_ticks_122 (by decide) (fun c21 => ?_) (fun c21 => ?_)
          · have h := zif_t c21 h
            refine lv_iconst (v := (2 : Int32)) hx hb dX4_ticks_129 (by decide) ?_
            exact J130 (2 : Int32) h _ _ hP hD hS ls (lv_sub hl [1, 2, 3, 4, 5, 6, 0] rfl)
          · have h := zif_f c21 h
            refine lv_iconst (v := (3 : Int32)) hx hb dX4_ticks_125 (by decide) ?_
            refine lv_goto (tgt := 130) hx hb dX4_ticks_126 (by decide) ?_
            exact J130 (3 : Int32) h _ _ hP hD hS ls (lv_sub hl [1, 2, 3, 4, 5, 6, 0] rfl)
        refine lv_icmp_ne (tgt := 88) hx hb dX4_ticks_81 (by decide) (fun c22 => ?_) (fun c22 => ?_)
        · have h := zif_f c22 h
          refine lv_iconst (v := (0 : Int32)) hx hb dX4_ticks_88 (by decide) ?_
          exact J89 (0 : Int32) h _ _ hP hD hS ls (lv_sub hl [1, 2, 3, 4, 5, 0] rfl)
        · have h := zif_t c22 h
          refine lv_iconst (v := (1 : Int32)) hx hb dX4_ticks_84 (by decide) ?_
          refine lv_goto (tgt := 89) hx hb dX4_ticks_85 (by decide) ?_
          exact J89 (1 : Int32) h _ _ hP hD hS ls (lv_sub hl [1, 2, 3, 4, 5, 0] rfl)
      refine lv_icmp_ge (tgt := 70) hx hb dX4_ticks_56 (by decide) (fun c23 => ?_) (fun c23 => ?_)
      · have h := zif_t c23 h
        refine lv_bipush (v := (10 : Int32)) hx hb dX4_ticks_70 (by decide) ?_
        exact J72 (10 : Int32) h _ _ hP hD hS ls (lv_sub hl [0, 1, 2, 3, 4] rfl)
      · have h := zif_f c23 h
        refine lv_iload_n hx hb dX4_ticks_59 rfl (lv_at hl 2 rfl) ?_
        refine lv_iload hx hb dX4_ticks_60 (lv_at hl 4 rfl) ?_
        obtain ⟨v24, hv24, h⟩ := zbnd h
        refine zc_i (W.runS (As := [.int p1, .int v8]) (rest := []) ⟨hx, hb, hml, hown, hts⟩ (c_X4_countOf l D cI cC cO cJ fu p1 v8 v24 hv24) (va_cwS 2 hts gX4_ticks_X4_countOf rfl rfl rfl (by decide +kernel) ⟨Nat.le_of_ble_eq_true rfl, Nat.le_of_ble_eq_true rfl⟩) (zPr_S hK zP_nil) rfl rfl hl.1 rfl (lv_room (Nat.le_of_ble_eq_true rfl)) dX4_ticks_62 ⟨Nat.zero_le _, Nat.zero_le _⟩) ?_
        refine lv_iconst (v := (1 : Int32)) hx hb dX4_ticks_65 (by decide) ?_
        refine lv_iadd hx hb dX4_ticks_66 ?_
        refine lv_goto (tgt := 72) hx hb dX4_ticks_67 (by decide) ?_
        exact J72 (v24 + (1 : Int32)) h _ _ hP hD hS ls (lv_sub hl [0, 1, 2, 3, 4] rfl)
def F_X4_ticks_then_E154  (v5 : Int32) (v6 : Int32) (v7 : Int32) : Option (Int32 × Int32) := some (v6, v7)
def F_X4_ticks_then_J144 (rec30 : Int32 → Int32 → Int32 → Option (Int32 × Int32)) (v8 : Int32) (v9 : Int32) (v10 : Int32) (v15 : Int32) (v19 : Int32) : Option (Int32 × Int32) := rec30 (v8 + (1 : Int32)) (v9 ||| (v15 <<< (((6 : Int32) + ((4 : Int32) * v8)) &&& (31 : Int32)))) (v10 ||| v19)
def F_X4_ticks_then_J130 (fu : Nat) (rec30 : Int32 → Int32 → Int32 → Option (Int32 × Int32)) (f_then : Nat → Int32) (v8 : Int32) (v9 : Int32) (v10 : Int32) (v15 : Int32) (v17 : Int32) : Option (Int32 × Int32) := (F_X4_of fu f_then 88 v8 v17).bind fun v18 => if v15 ≤ v18 then F_X4_ticks_then_J144 rec30 v8 v9 v10 v15 (0 : Int32) else F_X4_ticks_then_J144 rec30 v8 v9 v10 v15 ((1 : Int32) <<< (v8 &&& (31 : Int32)))
def F_X4_ticks_then_J89 (fu : Nat) (rec30 : Int32 → Int32 → Int32 → Option (Int32 × Int32)) (f_then : Nat → Int32) (v8 : Int32) (v9 : Int32) (v10 : Int32) (v15 : Int32) (v16 : Int32) : Option (Int32 × Int32) := if v16 = (0 : Int32) then F_X4_ticks_then_J130 fu rec30 f_then v8 v9 v10 v15 (2 : Int32) else F_X4_ticks_then_J130 fu rec30 f_then v8 v9 v10 v15 (3 : Int32)
def F_X4_ticks_then_J72 (fu : Nat) (rec30 : Int32 → Int32 → Int32 → Option (Int32 × Int32)) (f_then : Nat → Int32) (p1 : Int32) (v8 : Int32) (v9 : Int32) (v10 : Int32) (v15 : Int32) : Option (Int32 × Int32) := if ((p1 >>> (v8 &&& (31 : Int32))) &&& (1 : Int32)) = (1 : Int32) then F_X4_ticks_then_J89 fu rec30 f_then v8 v9 v10 v15 (1 : Int32) else F_X4_ticks_then_J89 fu rec30 f_then v8 v9 v10 v15 (0 : Int32)
def F_X4_ticks_then_L30 (fu : Nat) (f_then : Nat → Int32) (p1 : Int32) (v2 : Int32) (v3 : Int32) (k30 : Int32 → Int32 → Int32 → Option (Int32 × Int32)) (rec30 : Int32 → Int32 → Int32 → Option (Int32 × Int32)) (v8 : Int32) (v9 : Int32) (v10 : Int32) : Option (Int32 × Int32) := (zrd f_then 88 (0 : Int32)).bind fun v11 => if v11 ≤ v8 then k30 v8 v9 v10 else if (((v2 ^^^ v3) >>> (v8 &&& (31 : Int32))) &&& (1 : Int32)) = (1 : Int32) then (F_X4_countOf fu p1 v8).bind fun v14 => if (10 : Int32) ≤ v14 then F_X4_ticks_then_J72 fu rec30 f_then p1 v8 v9 v10 (10 : Int32) else (F_X4_countOf fu p1 v8).bind fun v24 => F_X4_ticks_then_J72 fu rec30 f_then p1 v8 v9 v10 (v24 + (1 : Int32)) else rec30 (v8 + (1 : Int32)) v9 v10
def F_X4_ticks_then (fu : Nat) (f_counted : Int32) (f_due : Int32) (f_then : Nat → Int32) (p1 : Int32) : Option (Int32 × Int32) := (F_X4_upOf fu p1).bind fun v1 => (F_X4_calledBy fu f_then 88 v1).bind fun v2 => (F_X4_upOf fu p1).bind fun v3 => (F_X4_upOf fu p1).bind fun v4 => zlp3 (F_X4_ticks_then_L30 fu f_then p1 v2 v3 (F_X4_ticks_then_E154)) fu (0 : Int32) v4 (0 : Int32)
set_option maxHeartbeats 4000000 in
set_option maxRecDepth 100000 in
theorem c_X4_ticks_then (l : Launch) (D : va_G) (cI cC cO cJ : ClassId) (fu : Nat) (a_this a_s a_then a_past a_text a_met a_table a_ways a_waysOf a_into a_orders : Nat) (sz : Nat) (f_thrown : Int32) (f_saved : Int32) (f_length : Int32) (f_counted : Int32) (f_due : Int32) (f_meets : Int32) (f_isTold : Int32) (f_rests : Int32) (f_leastRest : Int32) (f_mostRest : Int32) (f_isWheel : Int32) (f_ended : Int32) (f_spot : Int32) (f_ordered : Int32) (f_cureAmount : Int32) (f_cureRelay : Int32) (f_cureWhich : Int32) (f_hash : Int64) (f_then : Nat → Int32) (p1 : Int32) (R : Int32 × Int32) (h : F_X4_ticks_then fu f_counted f_due f_then p1 = some R) : Met l yX4_ticks wsX4_ticks ({ frames := 3, cells := 0, slots := 0, locals := 71 } : Room) (zPw D (ztys cI cC cO cJ) [(a_this, .inr (4, [.int f_thrown, .ref a_s, .ref a_then, .ref a_past, .int f_saved, .ref a_text, .int f_length, .int f_counted, .int f_due, .ref a_met, .ref a_table, .ref a_ways, .ref a_waysOf, .ref a_into, .int f_meets, .int f_isTold, .int f_rests, .int f_leastRest, .int f_mostRest, .int f_isWheel, .int f_ended, .int f_spot, .ref a_orders, .int f_ordered, .int f_cureAmount, .int f_cureRelay, .int f_cureWhich, .long f_hash])), (a_then, .inl (cI, 88, .inl f_then))] sz [.ref a_this, .ref a_then, .int p1]) (zWv D [(a_this, .inr (4, [.int f_thrown, .ref a_s, .ref a_then, .ref a_past, .int f_saved, .ref a_text, .int f_length, .int R.1, .int R.2, .ref a_met, .ref a_table, .ref a_ways, .ref a_waysOf, .ref a_into, .int f_meets, .int f_isTold, .int f_rests, .int f_leastRest, .int f_mostRest, .int f_isWheel, .int f_ended, .int f_spot, .ref a_orders, .int f_ordered, .int f_cureAmount, .int f_cureRelay, .int f_cureWhich, .long f_hash])), (a_then, .inl (cI, 88, .inl f_then))] (va_A [(a_this, .inr (4, [.int f_thrown, .ref a_s, .ref a_then, .ref a_past, .int f_saved, .ref a_text, .int f_length, .int f_counted, .int f_due, .ref a_met, .ref a_table, .ref a_ways, .ref a_waysOf, .ref a_into, .int f_meets, .int f_isTold, .int f_rests, .int f_leastRest, .int f_mostRest, .int f_isWheel, .int f_ended, .int f_spot, .ref a_orders, .int f_ordered, .int f_cureAmount, .int f_cureRelay, .int f_cureWhich, .long f_hash])), (a_then, .inl (cI, 88, .inl f_then))] sz)) 0 0 (va_A [(a_this, .inr (4, [.int f_thrown, .ref a_s, .ref a_then, .ref a_past, .int f_saved, .ref a_text, .int f_length, .int f_counted, .int f_due, .ref a_met, .ref a_table, .ref a_ways, .ref a_waysOf, .ref a_into, .int f_meets, .int f_isTold, .int f_rests, .int f_leastRest, .int f_mostRest, .int f_isWheel, .int f_ended, .int f_spot, .ref a_orders, .int f_ordered, .int f_cureAmount, .int f_cureRelay, .int f_cureWhich, .long f_hash])), (a_then, .inl (cI, 88, .inl f_then))] sz) := by
  refine Met.ofW (cc := cX4_ticks) (maxL := 7) (ret := none) (by decide) rfl ?_
  intro p e s m args below meth c s₁ B hml hv
  obtain ⟨rfl, hsz, hP, hK, hD0⟩ := hv
  have hx := B.exec
  have hb := B.bytes
  have hr := B.returns
  have hts := atoms_spec (ws := wsX4_ticks) B.pre
  have hown : s.vm.findClass RX4 = some m.cls := findClass_of_methodNamed B.named
  have hlocks := B.notSynchronized
  have hinX4 : ∀ w ∈ wsX40, w ∈ wsX4_ticks := fun _ h => (List.mem_cons_of_mem _ (List.mem_append_right _ h))
  subst hsz
  have hD := hD0.self (sz := s.heap.size)
  generalize hAe : va_A [(a_this, .inr (4, [.int f_thrown, .ref a_s, .ref a_then, .ref a_past, .int f_saved, .ref a_text, .int f_length, .int f_counted, .int f_due, .ref a_met, .ref a_table, .ref a_ways, .ref a_waysOf, .ref a_into, .int f_meets, .int f_isTold, .int f_rests, .int f_leastRest, .int f_mostRest, .int f_isWheel, .int f_ended, .int f_spot, .ref a_orders, .int f_ordered, .int f_cureAmount, .int f_cureRelay, .int f_cureWhich, .long f_hash])), (a_then, .inl (cI, 88, .inl f_then))] s.heap.size = A at hD ⊢
  have hA : ∀ q : Nat, s.heap.size ≤ q → A q := fun q h => by rw [← hAe]; exact Or.inr h
  have hS : va_S A s.heap s.heap [] := va_S.rf
  have hP : va_P D vwCl [(a_this, .inr (4, [.int f_thrown, .ref a_s, .ref a_then, .ref a_past, .int f_saved, .ref a_text, .int f_length, .int f_counted, .int f_due, .ref a_met, .ref a_table, .ref a_ways, .ref a_waysOf, .ref a_into, .int f_meets, .int f_isTold, .int f_rests, .int f_leastRest, .int f_mostRest, .int f_isWheel, .int f_ended, .int f_spot, .ref a_orders, .int f_ordered, .int f_cureAmount, .int f_cureRelay, .int f_cureWhich, .long f_hash])), (a_then, .inl (cI, 88, .inl f_then))] s.heap := hP
  have hK : va_K D vwCl (ztys cI cC cO cJ) s := hK
  have hl := lv_entry ([.ref a_this, .ref a_then, .int p1]) (n := 7) (Nat.le_of_ble_eq_true rfl)
  rw [lg_entry_eq]
  generalize (lg_sl ([.ref a_this, .ref a_then, .int p1]) ++ List.replicate (7 - (lg_sl ([.ref a_this, .ref a_then, .int p1])).length) Slot.unset).toArray = ls at hl ⊢
  have hl : lv_has ls 7 [(0, .ref a_this), (1, .ref a_then), (2, .int p1)] := hl
  unfold F_X4_ticks_then at h
  refine lv_aload_n hx hb dX4_ticks_0 rfl (lv_at hl 1 rfl) ?_
  refine lv_iload_n hx hb dX4_ticks_1 rfl (lv_at hl 2 rfl) ?_
  obtain ⟨v1, hv1, h⟩ := zbnd h
  refine zc_i (W.runS (As := [.int p1]) (rest := [.ref a_then]) ⟨hx, hb, hml, hown, hts⟩ (c_X4_upOf l D cI cC cO cJ fu p1 v1 hv1) (va_cwS 1 hts gX4_ticks_X4_upOf rfl rfl rfl (by decide +kernel) ⟨Nat.le_of_ble_eq_true rfl, Nat.le_of_ble_eq_true rfl⟩) (zPr_S hK zP_nil) rfl rfl hl.1 rfl (lv_room (Nat.le_of_ble_eq_true rfl)) dX4_ticks_2 ⟨Nat.zero_le _, Nat.zero_le _⟩) ?_
  obtain ⟨v2, hv2, h⟩ := zbnd h
  have hPc := hP.sub (ws' := [(a_then, .inl (cI, 88, .inl f_then))]) [1] rfl
  refine zc_i (W.runS (As := [.ref a_then, .int v1]) (rest := []) ⟨hx, hb, hml, hown, hts⟩ (c_X4_calledBy l D cI cC cO cJ fu a_then f_then 88 v1 v2 hv2) (va_cwS 2 hts gX4_ticks_X4_calledBy rfl rfl rfl (by decide +kernel) ⟨Nat.le_of_ble_eq_true rfl, Nat.le_of_ble_eq_true rfl⟩) (zPr_S hK hPc) rfl rfl hl.1 rfl (lv_room (Nat.le_of_ble_eq_true rfl)) dX4_ticks_5 ⟨Nat.zero_le _, Nat.zero_le _⟩) ?_
  refine lv_iload_n hx hb dX4_ticks_8 rfl (lv_at hl 2 rfl) ?_
  obtain ⟨v3, hv3, h⟩ := zbnd h
  refine zc_i (W.runS (As := [.int p1]) (rest := [.int v2]) ⟨hx, hb, hml, hown, hts⟩ (c_X4_upOf l D cI cC cO cJ fu p1 v3 hv3) (va_cwS 1 hts gX4_ticks_X4_upOf rfl rfl rfl (by decide +kernel) ⟨Nat.le_of_ble_eq_true rfl, Nat.le_of_ble_eq_true rfl⟩) (zPr_S hK zP_nil) rfl rfl hl.1 rfl (lv_room (Nat.le_of_ble_eq_true rfl)) dX4_ticks_9 ⟨Nat.zero_le _, Nat.zero_le _⟩) ?_
  refine lv_ixor hx hb dX4_ticks_12 ?_
  refine lv_istore_n (lv' := [(3, .int (v2 ^^^ v3)), (0, .ref a_this), (1, .ref a_then), (2, .int p1)]) hx hb dX4_ticks_13 rfl hl (by decide) rfl (fun ls hl => ?_)
  refine lv_aload_n hx hb dX4_ticks_14 rfl (lv_at hl 1 rfl) ?_
  refine lv_iload_n hx hb dX4_ticks_15 rfl (lv_at hl 3 rfl) ?_
  obtain ⟨v4, hv4, h⟩ := zbnd h
  refine zc_i (W.runS (As := [.int p1]) (rest := [.ref a_this]) ⟨hx, hb, hml, hown, hts⟩ (c_X4_upOf l D cI cC cO cJ fu p1 v4 hv4) (va_cwS 1 hts gX4_ticks_X4_upOf rfl rfl rfl (by decide +kernel) ⟨Nat.le_of_ble_eq_true rfl, Nat.le_of_ble_eq_true rfl⟩) (zPr_S hK zP_nil) rfl rfl hl.1 rfl (lv_room (Nat.le_of_ble_eq_true rfl)) dX4_ticks_16 ⟨Nat.zero_le _, Nat.zero_le _⟩) ?_
  refine va_put (D := D) (ci := 4) (v := .int v4) (ty := .int) (C := RX4) (T := TX4) (N := 28) hx hb hts hinX4 tyX4 tyX4_ok nmX4 hown hK hP hD hS 0 rfl rfl 7 (by decide) (hts (Cond.fieldLink RX4 72 "LadderRelaysModel" "counted" "I") (List.mem_of_getElem? (i := 1) rfl)) (fun _ h9 => h9) rfl (by decide +kernel) rfl rfl (Nat.le_of_ble_eq_true rfl) dX4_ticks_19 (fun H locs hP hD hS => ?_)
  have hP : va_P D vwCl [(a_this, .inr (4, [.int f_thrown, .ref a_s, .ref a_then, .ref a_past, .int f_saved, .ref a_text, .int f_length, .int v4, .int f_due, .ref a_met, .ref a_table, .ref a_ways, .ref a_waysOf, .ref a_into, .int f_meets, .int f_isTold, .int f_rests, .int f_leastRest, .int f_mostRest, .int f_isWheel, .int f_ended, .int f_spot, .ref a_orders, .int f_ordered, .int f_cureAmount, .int f_cureRelay, .int f_cureWhich, .long f_hash])), (a_then, .inl (cI, 88, .inl f_then))] H := hP
  have hD : va_D A [(a_this, .inr (4, [.int f_thrown, .ref a_s, .ref a_then, .ref a_past, .int f_saved, .ref a_text, .int f_length, .int v4, .int f_due, .ref a_met, .ref a_table, .ref a_ways, .ref a_waysOf, .ref a_into, .int f_meets, .int f_isTold, .int f_rests, .int f_leastRest, .int f_mostRest, .int f_isWheel, .int f_ended, .int f_spot, .ref a_orders, .int f_ordered, .int f_cureAmount, .int f_cureRelay, .int f_cureWhich, .long f_hash])), (a_then, .inl (cI, 88, .inl f_then))] := hD
  refine lv_aload_n hx hb dX4_ticks_22 rfl (lv_at hl 1 rfl) ?_
  refine lv_iconst (v := (0 : Int32)) hx hb dX4_ticks_23 (by decide) ?_
  refine va_put (D := D) (ci := 4) (v := .int (0 : Int32)) (ty := .int) (C := RX4) (T := TX4) (N := 28) hx hb hts hinX4 tyX4 tyX4_ok nmX4 hown hK hP hD hS 0 rfl rfl 8 (by decide) (hts (Cond.fieldLink RX4 75 "LadderRelaysModel" "due" "I") (List.mem_of_getElem? (i := 2) rfl)) (fun _ h9 => h9) rfl (by decide +kernel) rfl rfl (Nat.le_of_ble_eq_true rfl) dX4_ticks_24 (fun H locs hP hD hS => ?_)
  have hP : va_P D vwCl [(a_this, .inr (4, [.int f_thrown, .ref a_s, .ref a_then, .ref a_past, .int f_saved, .ref a_text, .int f_length, .int v4, .int (0 : Int32), .ref a_met, .ref a_table, .ref a_ways, .ref a_waysOf, .ref a_into, .int f_meets, .int f_isTold, .int f_rests, .int f_leastRest, .int f_mostRest, .int f_isWheel, .int f_ended, .int f_spot, .ref a_orders, .int f_ordered, .int f_cureAmount, .int f_cureRelay, .int f_cureWhich, .long f_hash])), (a_then, .inl (cI, 88, .inl f_then))] H := hP
  have hD : va_D A [(a_this, .inr (4, [.int f_thrown, .ref a_s, .ref a_then, .ref a_past, .int f_saved, .ref a_text, .int f_length, .int v4, .int (0 : Int32), .ref a_met, .ref a_table, .ref a_ways, .ref a_waysOf, .ref a_into, .int f_meets, .int f_isTold, .int f_rests, .int f_leastRest, .int f_mostRest, .int f_isWheel, .int f_ended, .int f_spot, .ref a_orders, .int f_ordered, .int f_cureAmount, .int f_cureRelay, .int f_cureWhich, .long f_hash])), (a_then, .inl (cI, 88, .inl f_then))] := hD
  refine lv_iconst (v := (0 : Int32)) hx hb dX4_ticks_27 (by decide) ?_
  refine lv_istore (lv' := [(4, .int (0 : Int32)), (3, .int (v2 ^^^ v3)), (0, .ref a_this), (1, .ref a_then), (2, .int p1)]) hx hb dX4_ticks_28 hl (by decide) rfl (fun ls hl => ?_)
  have E154 : ∀ (v5 : Int32) (v6 : Int32) (v7 : Int32), F_X4_ticks_then_E154 v5 v6 v7 = some R → ∀ (H : Heap) (locs : List Loc), va_P D vwCl [(a_this, .inr (4, [.int f_thrown, .ref a_s, .ref a_then, .ref a_past, .int f_saved, .ref a_text, .int f_length, .int v6, .int v7, .ref a_met, .ref a_table, .ref a_ways, .ref a_waysOf, .ref a_into, .int f_meets, .int f_isTold, .int f_rests, .int f_leastRest, .int f_mostRest, .int f_isWheel, .int f_ended, .int f_spot, .ref a_orders, .int f_ordered, .int f_cureAmount, .int f_cureRelay, .int f_cureWhich, .long f_hash])), (a_then, .inl (cI, 88, .inl f_then))] H → va_D A [(a_this, .inr (4, [.int f_thrown, .ref a_s, .ref a_then, .ref a_past, .int f_saved, .ref a_text, .int f_length, .int v6, .int v7, .ref a_met, .ref a_table, .ref a_ways, .ref a_waysOf, .ref a_into, .int f_meets, .int f_isTold, .int f_rests, .int f_leastRest, .int f_mostRest, .int f_isWheel, .int f_ended, .int f_spot, .ref a_orders, .int f_ordered, .int f_cureAmount, .int f_cureRelay, .int f_cureWhich, .long f_hash])), (a_then, .inl (cI, 88, .inl f_then))] → va_S A s.heap H locs → ∀ ls : Array Slot, lv_has ls 7 [(0, .ref a_this), (1, .ref a_then), (2, .int p1), (3, .int (v2 ^^^ v3)), (4, .int v5)] → W p l e ({ frames := 3, cells := 0, slots := 0, locals := 71 } : Room) s m (([.ref a_this, .ref a_then, .int p1] : List Value).toArray) below meth c H locs 0 0 (MQ below (zWv D [(a_this, .inr (4, [.int f_thrown, .ref a_s, .ref a_then, .ref a_past, .int f_saved, .ref a_text, .int f_length, .int R.1, .int R.2, .ref a_met, .ref a_table, .ref a_ways, .ref a_waysOf, .ref a_into, .int f_meets, .int f_isTold, .int f_rests, .int f_leastRest, .int f_mostRest, .int f_isWheel, .int f_ended, .int f_spot, .ref a_orders, .int f_ordered, .int f_cureAmount, .int f_cureRelay, .int f_cureWhich, .long f_hash])), (a_then, .inl (cI, 88, .inl f_then))] A) (([.ref a_this, .ref a_then, .int p1] : List Value).toArray) s 0 0 A) (F0 m 154 ls []) := by
    intro v5 v6 v7 h H locs hP hD hS ls hl
    unfold F_X4_ticks_then_E154 at h
    have hR := Option.some.inj h
    subst hR
    exact W.vret hx hb hr (fun t ht hW => ⟨⟨(), rfl, trivial, zhp ht hP⟩, hS.F ht⟩) hS.2.2 dX4_ticks_154
  refine zlp_i3 (R := R) (P := fun (v8 : Int32) (v9 : Int32) (v10 : Int32) => ∀ (H : Heap) (locs : List Loc), va_P D vwCl [(a_this, .inr (4, [.int f_thrown, .ref a_s, .ref a_then, .ref a_past, .int f_saved, .ref a_text, .int f_length, .int v9, .int v10, .ref a_met, .ref a_table, .ref a_ways, .ref a_waysOf, .ref a_into, .int f_meets, .int f_isTold, .int f_rests, .int f_leastRest, .int f_mostRest, .int f_isWheel, .int f_ended, .int f_spot, .ref a_orders, .int f_ordered, .int f_cureAmount, .int f_cureRelay, .int f_cureWhich, .long f_hash])), (a_then, .inl (cI, 88, .inl f_then))] H → va_D A [(a_this, .inr (4, [.int f_thrown, .ref a_s, .ref a_then, .ref a_past, .int f_saved, .ref a_text, .int f_length, .int v9, .int v10, .ref a_met, .ref a_table, .ref a_ways, .ref a_waysOf, .ref a_into, .int f_meets, .int f_isTold, .int f_rests, .int f_leastRest, .int f_mostRest, .int f_isWheel, .int f_ended, .int f_spot, .ref a_orders, .int f_ordered, .int f_cureAmount, .int f_cureRelay, .int f_cureWhich, .long f_hash])), (a_then, .inl (cI, 88, .inl f_then))] → va_S A s.heap H locs → ∀ ls : Array Slot, lv_has ls 7 [(0, .ref a_this), (1, .ref a_then), (2, .int p1), (3, .int (v2 ^^^ v3)), (4, .int v8)] → W p l e ({ frames := 3, cells := 0, slots := 0, locals := 71 } : Room) s m (([.ref a_this, .ref a_then, .int p1] : List Value).toArray) below meth c H locs 0 0 (MQ below (zWv D [(a_this, .inr (4, [.int f_thrown, .ref a_s, .ref a_then, .ref a_past, .int f_saved, .ref a_text, .int f_length, .int R.1, .int R.2, .ref a_met, .ref a_table, .ref a_ways, .ref a_waysOf, .ref a_into, .int f_meets, .int f_isTold, .int f_rests, .int f_leastRest, .int f_mostRest, .int f_isWheel, .int f_ended, .int f_spot, .ref a_orders, .int f_ordered, .int f_cureAmount, .int f_cureRelay, .int f_cureWhich, .long f_hash])), (a_then, .inl (cI, 88, .inl f_then))] A) (([.ref a_this, .ref a_then, .int p1] : List Value).toArray) s 0 0 A) (F0 m 30 ls [])) (fun rec30 ih30 v8 v9 v10 h => ?_) fu (0 : Int32) v4 (0 : Int32) h _ _ hP hD hS ls (lv_sub hl [2, 3, 4, 1, 0] rfl)
  intro H locs hP hD hS ls hl
  unfold F_X4_ticks_then_L30 at h
  refine lv_iload hx hb dX4_ticks_30 (lv_at hl 4 rfl) ?_
  refine lv_aload_n hx hb dX4_ticks_32 rfl (lv_at hl 1 rfl) ?_
  refine lv_iconst (v := (0 : Int32)) hx hb dX4_ticks_33 (by decide) ?_
  obtain ⟨v11, hv11, h⟩ := zbnd h
  refine zr_iald hx hb hK hP 1 0 rfl rfl hv11 dX4_ticks_34 ?_
  refine lv_icmp_ge (tgt := 154) hx hb dX4_ticks_35 (by decide) (fun c12 => ?_) (fun c12 => ?_)
  · have h := zif_t c12 h
    exact E154 v8 v9 v10 h _ _ hP hD hS ls (lv_sub hl [0, 1, 2, 3, 4] rfl)
  · have h := zif_f c12 h
    refine lv_iload_n hx hb dX4_ticks_38 rfl (lv_at hl 3 rfl) ?_
    refine lv_iload hx hb dX4_ticks_39 (lv_at hl 4 rfl) ?_
    refine lv_ishr hx hb dX4_ticks_41 ?_
    refine lv_iconst (v := (1 : Int32)) hx hb dX4_ticks_42 (by decide) ?_
    refine lv_iand hx hb dX4_ticks_43 ?_
    refine lv_iconst (v := (1 : Int32)) hx hb dX4_ticks_44 (by decide) ?_
    refine lv_icmp_ne (tgt := 148) hx hb dX4_ticks_45 (by decide) (fun c13 => ?_) (fun c13 => ?_)
    · have h := zif_f c13 h
      refine lv_iinc (v := (v8 + (1 : Int32))) (lv' := [(4, .int (v8 + (1 : Int32))), (0, .ref a_this), (1, .ref a_then), (2, .int p1), (3, .int (v2 ^^^ v3))]) hx hb dX4_ticks_148 hl (k := 4) rfl rfl (by decide) rfl (fun ls hl => ?_)
      refine lv_goto (tgt := 30) hx hb dX4_ticks_151 (by decide) ?_
      exact ih30 (v8 + (1 : Int32)) v9 v10 h _ _ hP hD hS ls (lv_sub hl [1, 2, 3, 4, 0] rfl)
    · have h := zif_t c13 h
      refine lv_iload_n hx hb dX4_ticks_48 rfl (lv_at hl 2 rfl) ?_
      refine lv_iload hx hb dX4_ticks_49 (lv_at hl 4 rfl) ?_
      obtain ⟨v14, hv14, h⟩ := zbnd h
      refine zc_i (W.runS (As := [.int p1, .int v8]) (rest := []) ⟨hx, hb, hml, hown, hts⟩ (c_X4_countOf l D cI cC cO cJ fu p1 v8 v14 hv14) (va_cwS 2 hts gX4_ticks_X4_countOf rfl rfl rfl (by decide +kernel) ⟨Nat.le_of_ble_eq_true rfl, Nat.le_of_ble_eq_true rfl⟩) (zPr_S hK zP_nil) rfl rfl hl.1 rfl (lv_room (Nat.le_of_ble_eq_true rfl)) dX4_ticks_51 ⟨Nat.zero_le _, Nat.zero_le _⟩) ?_
      refine lv_bipush (v := (10 : Int32)) hx hb dX4_ticks_54 (by decide) ?_
      have J72 : ∀ (v15 : Int32), F_X4_ticks_then_J72 fu rec30 f_then p1 v8 v9 v10 v15 = some R → ∀ (H : Heap) (locs : List Loc), va_P D vwCl [(a_this, .inr (4, [.int f_thrown, .ref a_s, .ref a_then, .ref a_past, .int f_saved, .ref a_text, .int f_length, .int v9, .int v10, .ref a_met, .ref a_table, .ref a_ways, .ref a_waysOf, .ref a_into, .int f_meets, .int f_isTold, .int f_rests, .int f_leastRest, .int f_mostRest, .int f_isWheel, .int f_ended, .int f_spot, .ref a_orders, .int f_ordered, .int f_cureAmount, .int f_cureRelay, .int f_cureWhich, .long f_hash])), (a_then, .inl (cI, 88, .inl f_then))] H → va_D A [(a_this, .inr (4, [.int f_thrown, .ref a_s, .ref a_then, .ref a_past, .int f_saved, .ref a_text, .int f_length, .int v9, .int v10, .ref a_met, .ref a_table, .ref a_ways, .ref a_waysOf, .ref a_into, .int f_meets, .int f_isTold, .int f_rests, .int f_leastRest, .int f_mostRest, .int f_isWheel, .int f_ended, .int f_spot, .ref a_orders, .int f_ordered, .int f_cureAmount, .int f_cureRelay, .int f_cureWhich, .long f_hash])), (a_then, .inl (cI, 88, .inl f_then))] → va_S A s.heap H locs → ∀ ls : Array Slot, lv_has ls 7 [(0, .ref a_this), (1, .ref a_then), (2, .int p1), (3, .int (v2 ^^^ v3)), (4, .int v8)] → W p l e ({ frames := 3, cells := 0, slots := 0, locals := 71 } : Room) s m (([.ref a_this, .ref a_then, .int p1] : List Value).toArray) below meth c H locs 0 0 (MQ below (zWv D [(a_this, .inr (4, [.int f_thrown, .ref a_s, .ref a_then, .ref a_past, .int f_saved, .ref a_text, .int f_length, .int R.1, .int R.2, .ref a_met, .ref a_table, .ref a_ways, .ref a_waysOf, .ref a_into, .int f_meets, .int f_isTold, .int f_rests, .int f_leastRest, .int f_mostRest, .int f_isWheel, .int f_ended, .int f_spot, .ref a_orders, .int f_ordered, .int f_cureAmount, .int f_cureRelay, .int f_cureWhich, .long f_hash])), (a_then, .inl (cI, 88, .inl f_then))] A) (([.ref a_this, .ref a_then, .int p1] : List Value).toArray) s 0 0 A) (F0 m 72 ls [.int v15]) := by
        intro v15 h H locs hP hD hS ls hl
        unfold F_X4_ticks_then_J72 at h
        refine lv_istore (lv' := [(5, .int v15), (0, .ref a_this), (1, .ref a_then), (2, .int p1), (3, .int (v2 ^^^ v3)), (4, .int v8)]) hx hb dX4_ticks_72 hl (by decide) rfl (fun ls hl => ?_)
        refine lv_iload_n hx hb dX4_ticks_74 rfl (lv_at hl 3 rfl) ?_
        refine lv_iload hx hb dX4_ticks_75 (lv_at hl 5 rfl) ?_
        refine lv_ishr hx hb dX4_ticks_77 ?_
        refine lv_iconst (v := (1 : Int32)) hx hb dX4_ticks_78 (by decide) ?_
        refine lv_iand hx hb dX4_ticks_79 ?_
        refine lv_iconst (v := (1 : Int32)) hx hb dX4_ticks_80 (by decide) ?_
        have J89 : ∀ (v16 : Int32), F_X4_ticks_then_J89 fu rec30 f_then v8 v9 v10 v15 v16 = some R → ∀ (H : Heap) (locs : List Loc), va_P D vwCl [(a_this, .inr (4, [.int f_thrown, .ref a_s, .ref a_then, .ref a_past, .int f_saved, .ref a_text, .int f_length, .int v9, .int v10, .ref a_met, .ref a_table, .ref a_ways, .ref a_waysOf, .ref a_into, .int f_meets, .int f_isTold, .int f_rests, .int f_leastRest, .int f_mostRest, .int f_isWheel, .int f_ended, .int f_spot, .ref a_orders, .int f_ordered, .int f_cureAmount, .int f_cureRelay, .int f_cureWhich, .long f_hash])), (a_then, .inl (cI, 88, .inl f_then))] H → va_D A [(a_this, .inr (4, [.int f_thrown, .ref a_s, .ref a_then, .ref a_past, .int f_saved, .ref a_text, .int f_length, .int v9, .int v10, .ref a_met, .ref a_table, .ref a_ways, .ref a_waysOf, .ref a_into, .int f_meets, .int f_isTold, .int f_rests, .int f_leastRest, .int f_mostRest, .int f_isWheel, .int f_ended, .int f_spot, .ref a_orders, .int f_ordered, .int f_cureAmount, .int f_cureRelay, .int f_cureWhich, .long f_hash])), (a_then, .inl (cI, 88, .inl f_then))] → va_S A s.heap H locs → ∀ ls : Array Slot, lv_has ls 7 [(0, .ref a_this), (1, .ref a_then), (2, .int p1), (3, .int (v2 ^^^ v3)), (4, .int v8), (5, .int v15)] → W p l e ({ frames := 3, cells := 0, slots := 0, locals := 71 } : Room) s m (([.ref a_this, .ref a_then, .int p1] : List Value).toArray) below meth c H locs 0 0 (MQ below (zWv D [(a_this, .inr (4, [.int f_thrown, .ref a_s, .ref a_then, .ref a_past, .int f_saved, .ref a_text, .int f_length, .int R.1, .int R.2, .ref a_met, .ref a_table, .ref a_ways, .ref a_waysOf, .ref a_into, .int f_meets, .int f_isTold, .int f_rests, .int f_leastRest, .int f_mostRest, .int f_isWheel, .int f_ended, .int f_spot, .ref a_orders, .int f_ordered, .int f_cureAmount, .int f_cureRelay, .int f_cureWhich, .long f_hash])), (a_then, .inl (cI, 88, .inl f_then))] A) (([.ref a_this, .ref a_then, .int p1] : List Value).toArray) s 0 0 A) (F0 m 89 ls [.int v16]) := by
          intro v16 h H locs hP hD hS ls hl
          unfold F_X4_ticks_then_J89 at h
          refine lv_istore (lv' := [(6, .int v16), (0, .ref a_this), (1, .ref a_then), (2, .int p1), (3, .int (v2 ^^^ v3)), (4, .int v8), (5, .int v15)]) hx hb dX4_ticks_89 hl (by decide) rfl (fun ls hl => ?_)
          refine lv_aload_n hx hb dX4_ticks_91 rfl (lv_at hl 1 rfl) ?_
          refine lv_dup hx hb dX4_ticks_92 rfl ?_
          refine va_get (D := D) (ci := 4) (v := .int v9) (C := RX4) (T := TX4) (N := 28) hx hb hts hinX4 hown hK hP 0 rfl rfl 7 (by decide) (hts (Cond.fieldLink RX4 72 "LadderRelaysModel" "counted" "I") (List.mem_of_getElem? (i := 1) rfl)) (fun _ h9 => h9) rfl dX4_ticks_93 ?_
          refine lv_iload hx hb dX4_ticks_96 (lv_at hl 6 rfl) ?_
          refine lv_bipush (v := (6 : Int32)) hx hb dX4_ticks_98 (by decide) ?_
          refine lv_iconst (v := (4 : Int32)) hx hb dX4_ticks_100 (by decide) ?_
          refine lv_iload hx hb dX4_ticks_101 (lv_at hl 5 rfl) ?_
          refine lv_imul hx hb dX4_ticks_103 ?_
          refine lv_iadd hx hb dX4_ticks_104 ?_
          refine lv_ishl hx hb dX4_ticks_105 ?_
          refine lv_ior hx hb dX4_ticks_106 ?_
          refine va_put (D := D) (ci := 4) (v := .int (v9 ||| (v15 <<< (((6 : Int32) + ((4 : Int32) * v8)) &&& (31 : Int32))))) (ty := .int) (C := RX4) (T := TX4) (N := 28) hx hb hts hinX4 tyX4 tyX4_ok nmX4 hown hK hP hD hS 0 rfl rfl 7 (by decide) (hts (Cond.fieldLink RX4 72 "LadderRelaysModel" "counted" "I") (List.mem_of_getElem? (i := 1) rfl)) (fun _ h9 => h9) rfl (by decide +kernel) rfl rfl (Nat.le_of_ble_eq_true rfl) dX4_ticks_107 (fun H locs hP hD hS => ?_)
          have hP : va_P D vwCl [(a_this, .inr (4, [.int f_thrown, .ref a_s, .ref a_then, .ref a_past, .int f_saved, .ref a_text, .int f_length, .int (v9 ||| (v15 <<< (((6 : Int32) + ((4 : Int32) * v8)) &&& (31 : Int32)))), .int v10, .ref a_met, .ref a_table, .ref a_ways, .ref a_waysOf, .ref a_into, .int f_meets, .int f_isTold, .int f_rests, .int f_leastRest, .int f_mostRest, .int f_isWheel, .int f_ended, .int f_spot, .ref a_orders, .int f_ordered, .int f_cureAmount, .int f_cureRelay, .int f_cureWhich, .long f_hash])), (a_then, .inl (cI, 88, .inl f_then))] H := hP
          have hD : va_D A [(a_this, .inr (4, [.int f_thrown, .ref a_s, .ref a_then, .ref a_past, .int f_saved, .ref a_text, .int f_length, .int (v9 ||| (v15 <<< (((6 : Int32) + ((4 : Int32) * v8)) &&& (31 : Int32)))), .int v10, .ref a_met, .ref a_table, .ref a_ways, .ref a_waysOf, .ref a_into, .int f_meets, .int f_isTold, .int f_rests, .int f_leastRest, .int f_mostRest, .int f_isWheel, .int f_ended, .int f_spot, .ref a_orders, .int f_ordered, .int f_cureAmount, .int f_cureRelay, .int f_cureWhich, .long f_hash])), (a_then, .inl (cI, 88, .inl f_then))] := hD
          refine lv_aload_n hx hb dX4_ticks_110 rfl (lv_at hl 1 rfl) ?_
          refine lv_dup hx hb dX4_ticks_111 rfl ?_
          refine va_get (D := D) (ci := 4) (v := .int v10) (C := RX4) (T := TX4) (N := 28) hx hb hts hinX4 hown hK hP 0 rfl rfl 8 (by decide) (hts (Cond.fieldLink RX4 75 "LadderRelaysModel" "due" "I") (List.mem_of_getElem? (i := 2) rfl)) (fun _ h9 => h9) rfl dX4_ticks_112 ?_
          refine lv_iload hx hb dX4_ticks_115 (lv_at hl 6 rfl) ?_
          refine lv_aload_n hx hb dX4_ticks_117 rfl (lv_at hl 2 rfl) ?_
          refine lv_iload hx hb dX4_ticks_118 (lv_at hl 5 rfl) ?_
          refine lv_iload hx hb dX4_ticks_120 (lv_at hl 0 rfl) ?_
          have J130 : ∀ (v17 : Int32), F_X4_ticks_then_J130 fu rec30 f_then v8 v9 v10 v15 v17 = some R → ∀ (H : Heap) (locs : List Loc), va_P D vwCl [(a_this, .inr (4, [.int f_thrown, .ref a_s, .ref a_then, .ref a_past, .int f_saved, .ref a_text, .int f_length, .int (v9 ||| (v15 <<< (((6 : Int32) + ((4 : Int32) * v8)) &&& (31 : Int32)))), .int v10, .ref a_met, .ref a_table, .ref a_ways, .ref a_waysOf, .ref a_into, .int f_meets, .int f_isTold, .int f_rests, .int f_leastRest, .int f_mostRest, .int f_isWheel, .int f_ended, .int f_spot, .ref a_orders, .int f_ordered, .int f_cureAmount, .int f_cureRelay, .int f_cureWhich, .long f_hash])), (a_then, .inl (cI, 88, .inl f_then))] H → va_D A [(a_this, .inr (4, [.int f_thrown, .ref a_s, .ref a_then, .ref a_past, .int f_saved, .ref a_text, .int f_length, .int (v9 ||| (v15 <<< (((6 : Int32) + ((4 : Int32) * v8)) &&& (31 : Int32)))), .int v10, .ref a_met, .ref a_table, .ref a_ways, .ref a_waysOf, .ref a_into, .int f_meets, .int f_isTold, .int f_rests, .int f_leastRest, .int f_mostRest, .int f_isWheel, .int f_ended, .int f_spot, .ref a_orders, .int f_ordered, .int f_cureAmount, .int f_cureRelay, .int f_cureWhich, .long f_hash])), (a_then, .inl (cI, 88, .inl f_then))] → va_S A s.heap H locs → ∀ ls : Array Slot, lv_has ls 7 [(0, .ref a_this), (1, .ref a_then), (2, .int p1), (3, .int (v2 ^^^ v3)), (4, .int v8), (5, .int v15), (6, .int v16)] → W p l e ({ frames := 3, cells := 0, slots := 0, locals := 71 } : Room) s m (([.ref a_this, .ref a_then, .int p1] : List Value).toArray) below meth c H locs 0 0 (MQ below (zWv D [(a_this, .inr (4, [.int f_thrown, .ref a_s, .ref a_then, .ref a_past, .int f_saved, .ref a_text, .int f_length, .int R.1, .int R.2, .ref a_met, .ref a_table, .ref a_ways, .ref a_waysOf, .ref a_into, .int f_meets, .int f_isTold, .int f_rests, .int f_leastRest, .int f_mostRest, .int f_isWheel, .int f_ended, .int f_spot, .ref a_orders, .int f_ordered, .int f_cureAmount, .int f_cureRelay, .int f_cureWhich, .long f_hash])), (a_then, .inl (cI, 88, .inl f_then))] A) (([.ref a_this, .ref a_then, .int p1] : List Value).toArray) s 0 0 A) (F0 m 130 ls [.int v17, .int v8, .ref a_then, .int v15, .int v10, .ref a_this]) := by
            intro v17 h H locs hP hD hS ls hl
            unfold F_X4_ticks_then_J130 at h
            obtain ⟨v18, hv18, h⟩ := zbnd h
            have hPc := hP.sub (ws' := [(a_then, .inl (cI, 88, .inl f_then))]) [1] rfl
            refine zc_i (W.runS (As := [.ref a_then, .int v8, .int v17]) (rest := [.int v15, .int v10, .ref a_this]) ⟨hx, hb, hml, hown, hts⟩ (c_X4_of l D cI cC cO cJ fu a_then f_then 88 v8 v17 v18 hv18) (va_cwS 3 hts gX4_ticks_X4_of rfl rfl rfl (by decide +kernel) ⟨Nat.le_of_ble_eq_true rfl, Nat.le_of_ble_eq_true rfl⟩) (zPr_S hK hPc) rfl rfl hl.1 rfl (lv_room (Nat.le_of_ble_eq_true rfl)) dX4_ticks_130 ⟨Nat.zero_le _, Nat.zero_le _⟩) ?_
            have J144 : ∀ (v19 : Int32), F_X4_ticks_then_J144 rec30 v8 v9 v10 v15 v19 = some R → ∀ (H : Heap) (locs : List Loc), va_P D vwCl [(a_this, .inr (4, [.int f_thrown, .ref a_s, .ref a_then, .ref a_past, .int f_saved, .ref a_text, .int f_length, .int (v9 ||| (v15 <<< (((6 : Int32) + ((4 : Int32) * v8)) &&& (31 : Int32)))), .int v10, .ref a_met, .ref a_table, .ref a_ways, .ref a_waysOf, .ref a_into, .int f_meets, .int f_isTold, .int f_rests, .int f_leastRest, .int f_mostRest, .int f_isWheel, .int f_ended, .int f_spot, .ref a_orders, .int f_ordered, .int f_cureAmount, .int f_cureRelay, .int f_cureWhich, .long f_hash])), (a_then, .inl (cI, 88, .inl f_then))] H → va_D A [(a_this, .inr (4, [.int f_thrown, .ref a_s, .ref a_then, .ref a_past, .int f_saved, .ref a_text, .int f_length, .int (v9 ||| (v15 <<< (((6 : Int32) + ((4 : Int32) * v8)) &&& (31 : Int32)))), .int v10, .ref a_met, .ref a_table, .ref a_ways, .ref a_waysOf, .ref a_into, .int f_meets, .int f_isTold, .int f_rests, .int f_leastRest, .int f_mostRest, .int f_isWheel, .int f_ended, .int f_spot, .ref a_orders, .int f_ordered, .int f_cureAmount, .int f_cureRelay, .int f_cureWhich, .long f_hash])), (a_then, .inl (cI, 88, .inl f_then))] → va_S A s.heap H locs → ∀ ls : Array Slot, lv_has ls 7 [(0, .ref a_this), (1, .ref a_then), (2, .int p1), (3, .int (v2 ^^^ v3)), (4, .int v8), (5, .int v15), (6, .int v16)] → W p l e ({ frames := 3, cells := 0, slots := 0, locals := 71 } : Room) s m (([.ref a_this, .ref a_then, .int p1] : List Value).toArray) below meth c H locs 0 0 (MQ below (zWv D [(a_this, .inr (4, [.int f_thrown, .ref a_s, .ref a_then, .ref a_past, .int f_saved, .ref a_text, .int f_length, .int R.1, .int R.2, .ref a_met, .ref a_table, .ref a_ways, .ref a_waysOf, .ref a_into, .int f_meets, .int f_isTold, .int f_rests, .int f_leastRest, .int f_mostRest, .int f_isWheel, .int f_ended, .int f_spot, .ref a_orders, .int f_ordered, .int f_cureAmount, .int f_cureRelay, .int f_cureWhich, .long f_hash])), (a_then, .inl (cI, 88, .inl f_then))] A) (([.ref a_this, .ref a_then, .int p1] : List Value).toArray) s 0 0 A) (F0 m 144 ls [.int v19, .int v10, .ref a_this]) := by
              intro v19 h H locs hP hD hS ls hl
              unfold F_X4_ticks_then_J144 at h
              refine lv_ior hx hb dX4_ticks_144 ?_
              refine va_put (D := D) (ci := 4) (v := .int (v10 ||| v19)) (ty := .int) (C := RX4) (T := TX4) (N := 28) hx hb hts hinX4 tyX4 tyX4_ok nmX4 hown hK hP hD hS 0 rfl rfl 8 (by decide) (hts (Cond.fieldLink RX4 75 "LadderRelaysModel" "due" "I") (List.mem_of_getElem? (i := 2) rfl)) (fun _ h9 => h9) rfl (by decide +kernel) rfl rfl (Nat.le_of_ble_eq_true rfl) dX4_ticks_145 (fun H locs hP hD hS => ?_)
              have hP : va_P D vwCl [(a_this, .inr (4, [.int f_thrown, .ref a_s, .ref a_then, .ref a_past, .int f_saved, .ref a_text, .int f_length, .int (v9 ||| (v15 <<< (((6 : Int32) + ((4 : Int32) * v8)) &&& (31 : Int32)))), .int (v10 ||| v19), .ref a_met, .ref a_table, .ref a_ways, .ref a_waysOf, .ref a_into, .int f_meets, .int f_isTold, .int f_rests, .int f_leastRest, .int f_mostRest, .int f_isWheel, .int f_ended, .int f_spot, .ref a_orders, .int f_ordered, .int f_cureAmount, .int f_cureRelay, .int f_cureWhich, .long f_hash])), (a_then, .inl (cI, 88, .inl f_then))] H := hP
              have hD : va_D A [(a_this, .inr (4, [.int f_thrown, .ref a_s, .ref a_then, .ref a_past, .int f_saved, .ref a_text, .int f_length, .int (v9 ||| (v15 <<< (((6 : Int32) + ((4 : Int32) * v8)) &&& (31 : Int32)))), .int (v10 ||| v19), .ref a_met, .ref a_table, .ref a_ways, .ref a_waysOf, .ref a_into, .int f_meets, .int f_isTold, .int f_rests, .int f_leastRest, .int f_mostRest, .int f_isWheel, .int f_ended, .int f_spot, .ref a_orders, .int f_ordered, .int f_cureAmount, .int f_cureRelay, .int f_cureWhich, .long f_hash])), (a_then, .inl (cI, 88, .inl f_then))] := hD
              refine lv_iinc (v := (v8 + (1 : Int32))) (lv' := [(4, .int (v8 + (1 : Int32))), (0, .ref a_this), (1, .ref a_then), (2, .int p1), (3, .int (v2 ^^^ v3)), (5, .int v15), (6, .int v16)]) hx hb dX4_ticks_148 hl (k := 4) rfl rfl (by decide) rfl (fun ls hl => ?_)
              refine lv_goto (tgt := 30) hx hb dX4_ticks_151 (by decide) ?_
              exact ih30 (v8 + (1 : Int32)) (v9 ||| (v15 <<< (((6 : Int32) + ((4 : Int32) * v8)) &&& (31 : Int32)))) (v10 ||| v19) h _ _ hP hD hS ls (lv_sub hl [1, 2, 3, 4, 0] rfl)
            refine lv_icmp_le (tgt := 143) hx hb dX4_ticks_133 (by decide) (fun c20 => ?_) (fun c20 => ?_)
            · have h := zif_t c20 h
              refine lv_iconst (v := (0 : Int32)) hx hb dX4_ticks_143 (by decide) ?_
              exact J144 (0 : Int32) h _ _ hP hD hS ls (lv_sub hl [0, 1, 2, 3, 4, 5, 6] rfl)
            · have h := zif_f c20 h
              refine lv_iconst (v := (1 : Int32)) hx hb dX4_ticks_136 (by decide) ?_
              refine lv_iload hx hb dX4_ticks_137 (lv_at hl 4 rfl) ?_
              refine lv_ishl hx hb dX4_ticks_139 ?_
              refine lv_goto (tgt := 144) hx hb dX4_ticks_140 (by decide) ?_
              exact J144 ((1 : Int32) <<< (v8 &&& (31 : Int32))) h _ _ hP hD hS ls (lv_sub hl [0, 1, 2, 3, 4, 5, 6] rfl)
          refine lv_if_eq (tgt := 129) hx hb dX4_ticks_122 (by decide) (fun c21 => ?_) (fun c21 => ?_)
          · have h := zif_t c21 h
            refine lv_iconst (v := (2 : Int32)) hx hb dX4_ticks_129 (by decide) ?_
            exact J130 (2 : Int32) h _ _ hP hD hS ls (lv_sub hl [1, 2, 3, 4, 5, 6, 0] rfl)
          · have h := zif_f c21 h
            refine lv_iconst (v := (3 : Int32)) hx hb dX4_ticks_125 (by decide) ?_
            refine lv_goto (tgt := 130) hx hb dX4_ticks_126 (by decide) ?_
            exact J130 (3 : Int32) h _ _ hP hD hS ls (lv_sub hl [1, 2, 3, 4, 5, 6, 0] rfl)
        refine lv_icmp_ne (tgt := 88) hx hb dX4_ticks_81 (by decide) (fun c22 => ?_) (fun c22 => ?_)
        · have h := zif_f c22 h
          refine lv_iconst (v := (0 : Int32)) hx hb dX4_ticks_88 (by decide) ?_
          exact J89 (0 : Int32) h _ _ hP hD hS ls (lv_sub hl [1, 2, 3, 4, 5, 0] rfl)
        · have h := zif_t c22 h
          refine lv_iconst (v := (1 : Int32)) hx hb dX4_ticks_84 (by decide) ?_
          refine lv_goto (tgt := 89) hx hb dX4_ticks_85 (by decide) ?_
          exact J89 (1 : Int32) h _ _ hP hD hS ls (lv_sub hl [1, 2, 3, 4, 5, 0] rfl)
      refine lv_icmp_ge (tgt := 70) hx hb dX4_ticks_56 (by decide) (fun c23 => ?_) (fun c23 => ?_)
      · have h := zif_t c23 h
        refine lv_bipush (v := (10 : Int32)) hx hb dX4_ticks_70 (by decide) ?_
        exact J72 (10 : Int32) h _ _ hP hD hS ls (lv_sub hl [0, 1, 2, 3, 4] rfl)
      · have h := zif_f c23 h
        refine lv_iload_n hx hb dX4_ticks_59 rfl (lv_at hl 2 rfl) ?_
        refine lv_iload hx hb dX4_ticks_60 (lv_at hl 4 rfl) ?_
        obtain ⟨v24, hv24, h⟩ := zbnd h
        refine zc_i (W.runS (As := [.int p1, .int v8]) (rest := []) ⟨hx, hb, hml, hown, hts⟩ (c_X4_countOf l D cI cC cO cJ fu p1 v8 v24 hv24) (va_cwS 2 hts gX4_ticks_X4_countOf rfl rfl rfl (by decide +kernel) ⟨Nat.le_of_ble_eq_true rfl, Nat.le_of_ble_eq_true rfl⟩) (zPr_S hK zP_nil) rfl rfl hl.1 rfl (lv_room (Nat.le_of_ble_eq_true rfl)) dX4_ticks_62 ⟨Nat.zero_le _, Nat.zero_le _⟩) ?_
        refine lv_iconst (v := (1 : Int32)) hx hb dX4_ticks_65 (by decide) ?_
        refine lv_iadd hx hb dX4_ticks_66 ?_
        refine lv_goto (tgt := 72) hx hb dX4_ticks_67 (by decide) ?_
        exact J72 (v24 + (1 : Int32)) h _ _ hP hD hS ls (lv_sub hl [0, 1, 2, 3, 4] rfl)
def F_X4_changed_E48  (v1 : Int32) (v2 : Int32) : Option (Int32) := some v1
def F_X4_changed_J40 (rec9 : Int32 → Int32 → Option (Int32)) (v3 : Int32) (v4 : Int32) (v6 : Int32) : Option (Int32) := rec9 (v3 &&& v6) (v4 + (1 : Int32))
def F_X4_changed_L9 (p0 : Int32) (k9 : Int32 → Int32 → Option (Int32)) (rec9 : Int32 → Int32 → Option (Int32)) (v3 : Int32) (v4 : Int32) : Option (Int32) := if (6 : Int32) ≤ v4 then k9 v3 v4 else if ((p0 >>> (v4 &&& (31 : Int32))) &&& (1 : Int32)) = (1 : Int32) then F_X4_changed_J40 rec9 v3 v4 (((15 : Int32) <<< (((6 : Int32) + ((4 : Int32) * v4)) &&& (31 : Int32))) ^^^ (-1 : Int32)) else F_X4_changed_J40 rec9 v3 v4 (-1 : Int32)
def F_X4_changed (fu : Nat) (f_counted : Int32) (p0 : Int32) : Option (Int32) := zlp2 (F_X4_changed_L9 p0 (F_X4_changed_E48)) fu (f_counted ^^^ p0) (0 : Int32)
set_option maxHeartbeats 4000000 in
set_option maxRecDepth 100000 in
theorem c_X4_changed (l : Launch) (D : va_G) (cI cC cO cJ : ClassId) (fu : Nat) (a_this a_s a_then a_past a_text a_met a_table a_ways a_waysOf a_into a_orders : Nat) (f_thrown : Int32) (f_saved : Int32) (f_length : Int32) (f_counted : Int32) (f_due : Int32) (f_meets : Int32) (f_isTold : Int32) (f_rests : Int32) (f_leastRest : Int32) (f_mostRest : Int32) (f_isWheel : Int32) (f_ended : Int32) (f_spot : Int32) (f_ordered : Int32) (f_cureAmount : Int32) (f_cureRelay : Int32) (f_cureWhich : Int32) (f_hash : Int64) (p0 : Int32) (R : Int32) (h : F_X4_changed fu f_counted p0 = some R) : Met l yX4_changed wsX4_changed ({ frames := 0, cells := 0, slots := 0, locals := 0 } : Room) (zPr D (ztys cI cC cO cJ) [(a_this, .inr (4, [.int f_thrown, .ref a_s, .ref a_then, .ref a_past, .int f_saved, .ref a_text, .int f_length, .int f_counted, .int f_due, .ref a_met, .ref a_table, .ref a_ways, .ref a_waysOf, .ref a_into, .int f_meets, .int f_isTold, .int f_rests, .int f_leastRest, .int f_mostRest, .int f_isWheel, .int f_ended, .int f_spot, .ref a_orders, .int f_ordered, .int f_cureAmount, .int f_cureRelay, .int f_cureWhich, .long f_hash]))] [.ref a_this, .int p0]) (zQi R) 0 0 (fun _ => False) := by
  refine Met.ofW (cc := cX4_changed) (maxL := 4) (ret := (some .int)) (by decide) rfl ?_
  intro p e s m args below meth c s₁ B hml hv
  obtain ⟨rfl, hP, hK⟩ := hv
  have hx := B.exec
  have hb := B.bytes
  have hr := B.returns
  have hts := atoms_spec (ws := wsX4_changed) B.pre
  have hown : s.vm.findClass RX4 = some m.cls := findClass_of_methodNamed B.named
  have hlocks := B.notSynchronized
  have hinX4 : ∀ w ∈ wsX40, w ∈ wsX4_changed := fun _ h => (List.mem_cons_of_mem _ (List.mem_append_right _ h))
  have hP : va_P D vwCl [(a_this, .inr (4, [.int f_thrown, .ref a_s, .ref a_then, .ref a_past, .int f_saved, .ref a_text, .int f_length, .int f_counted, .int f_due, .ref a_met, .ref a_table, .ref a_ways, .ref a_waysOf, .ref a_into, .int f_meets, .int f_isTold, .int f_rests, .int f_leastRest, .int f_mostRest, .int f_isWheel, .int f_ended, .int f_spot, .ref a_orders, .int f_ordered, .int f_cureAmount, .int f_cureRelay, .int f_cureWhich, .long f_hash]))] s.heap := hP
  have hK : va_K D vwCl (ztys cI cC cO cJ) s := hK
  have hl := lv_entry ([.ref a_this, .int p0]) (n := 4) (Nat.le_of_ble_eq_true rfl)
  rw [lg_entry_eq]
  generalize (lg_sl ([.ref a_this, .int p0]) ++ List.replicate (4 - (lg_sl ([.ref a_this, .int p0])).length) Slot.unset).toArray = ls at hl ⊢
  have hl : lv_has ls 4 [(0, .ref a_this), (1, .int p0)] := hl
  unfold F_X4_changed at h
  refine lv_aload_n hx hb dX4_changed_0 rfl (lv_at hl 0 rfl) ?_
  refine va_get (D := D) (ci := 4) (v := .int f_counted) (C := RX4) (T := TX4) (N := 28) hx hb hts hinX4 hown hK hP 0 rfl rfl 7 (by decide) (hts (Cond.fieldLink RX4 72 "LadderRelaysModel" "counted" "I") (List.mem_of_getElem? (i := 1) rfl)) (fun _ h9 => h9) rfl dX4_changed_1 ?_
  refine lv_iload_n hx hb dX4_changed_4 rfl (lv_at hl 1 rfl) ?_
  refine lv_ixor hx hb dX4_changed_5 ?_
  refine lv_istore_n (lv' := [(2, .int (f_counted ^^^ p0)), (0, .ref a_this), (1, .int p0)]) hx hb dX4_changed_6 rfl hl (by decide) rfl (fun ls hl => ?_)
  refine lv_iconst (v := (0 : Int32)) hx hb dX4_changed_7 (by decide) ?_
  refine lv_istore_n (lv' := [(3, .int (0 : Int32)), (2, .int (f_counted ^^^ p0)), (0, .ref a_this), (1, .int p0)]) hx hb dX4_changed_8 rfl hl (by decide) rfl (fun ls hl => ?_)
  have E48 : ∀ (v1 : Int32) (v2 : Int32), F_X4_changed_E48 v1 v2 = some R → ∀ ls : Array Slot, lv_has ls 4 [(0, .ref a_this), (1, .int p0), (2, .int v1), (3, .int v2)] → W p l e ({ frames := 0, cells := 0, slots := 0, locals := 0 } : Room) s m (([.ref a_this, .int p0] : List Value).toArray) below meth c s.heap [] 0 0 (MQ below (zQi R) (([.ref a_this, .int p0] : List Value).toArray) s 0 0 (fun _ => False)) (F0 m 48 ls []) := by
    intro v1 v2 h ls hl
    unfold F_X4_changed_E48 at h
    refine lv_iload_n hx hb dX4_changed_48 rfl (lv_at hl 2 rfl) ?_
    have hR := Option.some.inj h
    subst hR
    exact W.iret (v := v1) hx hb hr (fun t ht hW => ⟨_, rfl, rfl, ht⟩) (fun q hq => absurd hq List.not_mem_nil) dX4_changed_49
  refine zlp_i2 (R := R) (P := fun (v3 : Int32) (v4 : Int32) => ∀ ls : Array Slot, lv_has ls 4 [(0, .ref a_this), (1, .int p0), (2, .int v3), (3, .int v4)] → W p l e ({ frames := 0, cells := 0, slots := 0, locals := 0 } : Room) s m (([.ref a_this, .int p0] : List Value).toArray) below meth c s.heap [] 0 0 (MQ below (zQi R) (([.ref a_this, .int p0] : List Value).toArray) s 0 0 (fun _ => False)) (F0 m 9 ls [])) (fun rec9 ih9 v3 v4 h => ?_) fu (f_counted ^^^ p0) (0 : Int32) h ls (lv_sub hl [2, 3, 1, 0] rfl)
  intro ls hl
  unfold F_X4_changed_L9 at h
  refine lv_iload_n hx hb dX4_changed_9 rfl (lv_at hl 3 rfl) ?_
  refine lv_bipush (v := (6 : Int32)) hx hb dX4_changed_10 (by decide) ?_
  refine lv_icmp_ge (tgt := 48) hx hb dX4_changed_12 (by decide) (fun c5 => ?_) (fun c5 => ?_)
  · have h := zif_t c5 h
    exact E48 v3 v4 h ls (lv_sub hl [0, 1, 2, 3] rfl)
  · have h := zif_f c5 h
    refine lv_iload_n hx hb dX4_changed_15 rfl (lv_at hl 2 rfl) ?_
    refine lv_iload_n hx hb dX4_changed_16 rfl (lv_at hl 1 rfl) ?_
    refine lv_iload_n hx hb dX4_changed_17 rfl (lv_at hl 3 rfl) ?_
    refine lv_ishr hx hb dX4_changed_18 ?_
    refine lv_iconst (v := (1 : Int32)) hx hb dX4_changed_19 (by decide) ?_
    refine lv_iand hx hb dX4_changed_20 ?_
    refine lv_iconst (v := (1 : Int32)) hx hb dX4_changed_21 (by decide) ?_
    have J40 : ∀ (v6 : Int32), F_X4_changed_J40 rec9 v3 v4 v6 = some R → ∀ ls : Array Slot, lv_has ls 4 [(0, .ref a_this), (1, .int p0), (2, .int v3), (3, .int v4)] → W p l e ({ frames := 0, cells := 0, slots := 0, locals := 0 } : Room) s m (([.ref a_this, .int p0] : List Value).toArray) below meth c s.heap [] 0 0 (MQ below (zQi R) (([.ref a_this, .int p0] : List Value).toArray) s 0 0 (fun _ => False)) (F0 m 40 ls [.int v6, .int v3]) := by
      intro v6 h ls hl
      unfold F_X4_changed_J40 at h
      refine lv_iand hx hb dX4_changed_40 ?_
      refine lv_istore_n (lv' := [(2, .int (v3 &&& v6)), (0, .ref a_this), (1, .int p0), (3, .int v4)]) hx hb dX4_changed_41 rfl hl (by decide) rfl (fun ls hl => ?_)
      refine lv_iinc (v := (v4 + (1 : Int32))) (lv' := [(3, .int (v4 + (1 : Int32))), (2, .int (v3 &&& v6)), (0, .ref a_this), (1, .int p0)]) hx hb dX4_changed_42 hl (k := 3) rfl rfl (by decide) rfl (fun ls hl => ?_)
      refine lv_goto (tgt := 9) hx hb dX4_changed_45 (by decide) ?_
      exact ih9 (v3 &&& v6) (v4 + (1 : Int32)) h ls (lv_sub hl [2, 3, 1, 0] rfl)
    refine lv_icmp_ne (tgt := 39) hx hb dX4_changed_22 (by decide) (fun c7 => ?_) (fun c7 => ?_)
    · have h := zif_f c7 h
      refine lv_iconst (v := (-1 : Int32)) hx hb dX4_changed_39 (by decide) ?_
      exact J40 (-1 : Int32) h ls (lv_sub hl [0, 1, 2, 3] rfl)
    · have h := zif_t c7 h
      refine lv_bipush (v := (15 : Int32)) hx hb dX4_changed_25 (by decide) ?_
      refine lv_bipush (v := (6 : Int32)) hx hb dX4_changed_27 (by decide) ?_
      refine lv_iconst (v := (4 : Int32)) hx hb dX4_changed_29 (by decide) ?_
      refine lv_iload_n hx hb dX4_changed_30 rfl (lv_at hl 3 rfl) ?_
      refine lv_imul hx hb dX4_changed_31 ?_
      refine lv_iadd hx hb dX4_changed_32 ?_
      refine lv_ishl hx hb dX4_changed_33 ?_
      refine lv_iconst (v := (-1 : Int32)) hx hb dX4_changed_34 (by decide) ?_
      refine lv_ixor hx hb dX4_changed_35 ?_
      refine lv_goto (tgt := 40) hx hb dX4_changed_36 (by decide) ?_
      exact J40 (((15 : Int32) <<< (((6 : Int32) + ((4 : Int32) * v4)) &&& (31 : Int32))) ^^^ (-1 : Int32)) h ls (lv_sub hl [0, 1, 2, 3] rfl)
def F_X4_metAt_J121 (v2 : Int32) (v4 : Int32) (v5 : Nat → Int32) (v6 : Nat → Int32) (v7 : Nat → Int32) (v8 : Nat → Int32) : Option (Int32 × Int32 × (Nat → Int32) × (Nat → Int32) × (Nat → Int32) × (Nat → Int32)) := (zrd v6 1024 v2).bind fun v9 => some ((v9 - (1 : Int32)), v4, v5, v6, v7, v8)
def F_X4_metAt_E62 (f_into : Nat → Int32) (f_meets : Int32) (f_met : Nat → Int32) (f_table : Nat → Int32) (f_waysOf : Nat → Int32) (p0 : Int32) (v2 : Int32) : Option (Int32 × Int32 × (Nat → Int32) × (Nat → Int32) × (Nat → Int32) × (Nat → Int32)) := (zrd f_table 1024 v2).bind fun v3 => if v3 = (0 : Int32) then (zwr f_met 301 f_meets p0).bind fun v11 => (zwr f_into 301 f_meets (0 : Int32)).bind fun v12 => (zwr f_waysOf 301 f_meets (0 : Int32)).bind fun v13 => (zwr f_table 1024 v2 (f_meets + (1 : Int32))).bind fun v14 => F_X4_metAt_J121 v2 (f_meets + (1 : Int32)) v11 v14 v13 v12 else F_X4_metAt_J121 v2 f_meets f_met f_table f_waysOf f_into
def F_X4_metAt_L25 (f_met : Nat → Int32) (f_table : Nat → Int32) (p0 : Int32) (k25 : Int32 → Option (Int32 × Int32 × (Nat → Int32) × (Nat → Int32) × (Nat → Int32) × (Nat → Int32))) (rec25 : Int32 → Option (Int32 × Int32 × (Nat → Int32) × (Nat → Int32) × (Nat → Int32) × (Nat → Int32))) (v15 : Int32) : Option (Int32 × Int32 × (Nat → Int32) × (Nat → Int32) × (Nat → Int32) × (Nat → Int32)) := (zrd f_table 1024 v15).bind fun v16 => if v16 ≤ (0 : Int32) then k25 v15 else (zrd f_table 1024 v15).bind fun v18 => (zrd f_met 301 (v18 - (1 : Int32))).bind fun v19 => if v19 = p0 then k25 v15 else rec25 ((v15 + (1 : Int32)) &&& (1023 : Int32))
def F_X4_metAt (fu : Nat) (f_meets : Int32) (f_met : Nat → Int32) (f_table : Nat → Int32) (f_waysOf : Nat → Int32) (f_into : Nat → Int32) (p0 : Int32) : Option (Int32 × Int32 × (Nat → Int32) × (Nat → Int32) × (Nat → Int32) × (Nat → Int32)) := (some (((((p0 * (31 : Int32)) &&& (1023 : Int32)) ^^^ (p0 >>> ((9 : Int32) &&& (31 : Int32)))) ^^^ (p0 >>> ((17 : Int32) &&& (31 : Int32)))) &&& (1023 : Int32))).bind fun v1 => zlp1 (F_X4_metAt_L25 f_met f_table p0 (F_X4_metAt_E62 f_into f_meets f_met f_table f_waysOf p0)) fu v1
set_option maxHeartbeats 4000000 in
set_option maxRecDepth 100000 in
theorem c_X4_metAt (l : Launch) (D : va_G) (cI cC cO cJ : ClassId) (fu : Nat) (a_this a_s a_then a_past a_text a_met a_table a_ways a_waysOf a_into a_orders : Nat) (sz : Nat) (f_thrown : Int32) (f_saved : Int32) (f_length : Int32) (f_counted : Int32) (f_due : Int32) (f_meets : Int32) (f_isTold : Int32) (f_rests : Int32) (f_leastRest : Int32) (f_mostRest : Int32) (f_isWheel : Int32) (f_ended : Int32) (f_spot : Int32) (f_ordered : Int32) (f_cureAmount : Int32) (f_cureRelay : Int32) (f_cureWhich : Int32) (f_hash : Int64) (f_met : Nat → Int32) (f_table : Nat → Int32) (f_waysOf : Nat → Int32) (f_into : Nat → Int32) (p0 : Int32) (R : Int32 × Int32 × (Nat → Int32) × (Nat → Int32) × (Nat → Int32) × (Nat → Int32)) (h : F_X4_metAt fu f_meets f_met f_table f_waysOf f_into p0 = some R) : Met l yX4_metAt wsX4_metAt ({ frames := 0, cells := 0, slots := 0, locals := 0 } : Room) (zPw D (ztys cI cC cO cJ) [(a_this, .inr (4, [.int f_thrown, .ref a_s, .ref a_then, .ref a_past, .int f_saved, .ref a_text, .int f_length, .int f_counted, .int f_due, .ref a_met, .ref a_table, .ref a_ways, .ref a_waysOf, .ref a_into, .int f_meets, .int f_isTold, .int f_rests, .int f_leastRest, .int f_mostRest, .int f_isWheel, .int f_ended, .int f_spot, .ref a_orders, .int f_ordered, .int f_cureAmount, .int f_cureRelay, .int f_cureWhich, .long f_hash])), (a_met, .inl (cI, 301, .inl f_met)), (a_table, .inl (cI, 1024, .inl f_table)), (a_waysOf, .inl (cI, 301, .inl f_waysOf)), (a_into, .inl (cI, 301, .inl f_into))] sz [.ref a_this, .int p0]) (zWi D R.1 [(a_this, .inr (4, [.int f_thrown, .ref a_s, .ref a_then, .ref a_past, .int f_saved, .ref a_text, .int f_length, .int f_counted, .int f_due, .ref a_met, .ref a_table, .ref a_ways, .ref a_waysOf, .ref a_into, .int R.2.1, .int f_isTold, .int f_rests, .int f_leastRest, .int f_mostRest, .int f_isWheel, .int f_ended, .int f_spot, .ref a_orders, .int f_ordered, .int f_cureAmount, .int f_cureRelay, .int f_cureWhich, .long f_hash])), (a_met, .inl (cI, 301, .inl R.2.2.1)), (a_table, .inl (cI, 1024, .inl R.2.2.2.1)), (a_waysOf, .inl (cI, 301, .inl R.2.2.2.2.1)), (a_into, .inl (cI, 301, .inl R.2.2.2.2.2))] (va_A [(a_this, .inr (4, [.int f_thrown, .ref a_s, .ref a_then, .ref a_past, .int f_saved, .ref a_text, .int f_length, .int f_counted, .int f_due, .ref a_met, .ref a_table, .ref a_ways, .ref a_waysOf, .ref a_into, .int f_meets, .int f_isTold, .int f_rests, .int f_leastRest, .int f_mostRest, .int f_isWheel, .int f_ended, .int f_spot, .ref a_orders, .int f_ordered, .int f_cureAmount, .int f_cureRelay, .int f_cureWhich, .long f_hash])), (a_met, .inl (cI, 301, .inl f_met)), (a_table, .inl (cI, 1024, .inl f_table)), (a_waysOf, .inl (cI, 301, .inl f_waysOf)), (a_into, .inl (cI, 301, .inl f_into))] sz)) 0 0 (va_A [(a_this, .inr (4, [.int f_thrown, .ref a_s, .ref a_then, .ref a_past, .int f_saved, .ref a_text, .int f_length, .int f_counted, .int f_due, .ref a_met, .ref a_table, .ref a_ways, .ref a_waysOf, .ref a_into, .int f_meets, .int f_isTold, .int f_rests, .int f_leastRest, .int f_mostRest, .int f_isWheel, .int f_ended, .int f_spot, .ref a_orders, .int f_ordered, .int f_cureAmount, .int f_cureRelay, .int f_cureWhich, .long f_hash])), (a_met, .inl (cI, 301, .inl f_met)), (a_table, .inl (cI, 1024, .inl f_table)), (a_waysOf, .inl (cI, 301, .inl f_waysOf)), (a_into, .inl (cI, 301, .inl f_into))] sz) := by
  refine Met.ofW (cc := cX4_metAt) (maxL := 3) (ret := (some .int)) (by decide) rfl ?_
  intro p e s m args below meth c s₁ B hml hv
  obtain ⟨rfl, hsz, hP, hK, hD0⟩ := hv
  have hx := B.exec
  have hb := B.bytes
  have hr := B.returns
  have hts := atoms_spec (ws := wsX4_metAt) B.pre
  have hown : s.vm.findClass RX4 = some m.cls := findClass_of_methodNamed B.named
  have hlocks := B.notSynchronized
  have hinX4 : ∀ w ∈ wsX40, w ∈ wsX4_metAt := fun _ h => (List.mem_cons_of_mem _ (List.mem_append_right _ h))
  subst hsz
  have hD := hD0.self (sz := s.heap.size)
  generalize hAe : va_A [(a_this, .inr (4, [.int f_thrown, .ref a_s, .ref a_then, .ref a_past, .int f_saved, .ref a_text, .int f_length, .int f_counted, .int f_due, .ref a_met, .ref a_table, .ref a_ways, .ref a_waysOf, .ref a_into, .int f_meets, .int f_isTold, .int f_rests, .int f_leastRest, .int f_mostRest, .int f_isWheel, .int f_ended, .int f_spot, .ref a_orders, .int f_ordered, .int f_cureAmount, .int f_cureRelay, .int f_cureWhich, .long f_hash])), (a_met, .inl (cI, 301, .inl f_met)), (a_table, .inl (cI, 1024, .inl f_table)), (a_waysOf, .inl (cI, 301, .inl f_waysOf)), (a_into, .inl (cI, 301, .inl f_into))] s.heap.size = A at hD ⊢
  have hA : ∀ q : Nat, s.heap.size ≤ q → A q := fun q h => by rw [← hAe]; exact Or.inr h
  have hS : va_S A s.heap s.heap [] := va_S.rf
  have hP : va_P D vwCl [(a_this, .inr (4, [.int f_thrown, .ref a_s, .ref a_then, .ref a_past, .int f_saved, .ref a_text, .int f_length, .int f_counted, .int f_due, .ref a_met, .ref a_table, .ref a_ways, .ref a_waysOf, .ref a_into, .int f_meets, .int f_isTold, .int f_rests, .int f_leastRest, .int f_mostRest, .int f_isWheel, .int f_ended, .int f_spot, .ref a_orders, .int f_ordered, .int f_cureAmount, .int f_cureRelay, .int f_cureWhich, .long f_hash])), (a_met, .inl (cI, 301, .inl f_met)), (a_table, .inl (cI, 1024, .inl f_table)), (a_waysOf, .inl (cI, 301, .inl f_waysOf)), (a_into, .inl (cI, 301, .inl f_into))] s.heap := hP
  have hK : va_K D vwCl (ztys cI cC cO cJ) s := hK
  have hl := lv_entry ([.ref a_this, .int p0]) (n := 3) (Nat.le_of_ble_eq_true rfl)
  rw [lg_entry_eq]
  generalize (lg_sl ([.ref a_this, .int p0]) ++ List.replicate (3 - (lg_sl ([.ref a_this, .int p0])).length) Slot.unset).toArray = ls at hl ⊢
  have hl : lv_has ls 3 [(0, .ref a_this), (1, .int p0)] := hl
  unfold F_X4_metAt at h
  refine lv_iload_n hx hb dX4_metAt_0 rfl (lv_at hl 1 rfl) ?_
  refine lv_bipush (v := (31 : Int32)) hx hb dX4_metAt_1 (by decide) ?_
  refine lv_imul hx hb dX4_metAt_3 ?_
  refine lv_sipush (v := (1023 : Int32)) hx hb dX4_metAt_4 (by decide) ?_
  refine lv_iand hx hb dX4_metAt_7 ?_
  refine lv_istore_n (lv' := [(2, .int ((p0 * (31 : Int32)) &&& (1023 : Int32))), (0, .ref a_this), (1, .int p0)]) hx hb dX4_metAt_8 rfl hl (by decide) rfl (fun ls hl => ?_)
  refine lv_iload_n hx hb dX4_metAt_9 rfl (lv_at hl 0 rfl) ?_
  refine lv_iload_n hx hb dX4_metAt_10 rfl (lv_at hl 2 rfl) ?_
  refine lv_bipush (v := (9 : Int32)) hx hb dX4_metAt_11 (by decide) ?_
  refine lv_ishr hx hb dX4_metAt_13 ?_
  refine lv_ixor hx hb dX4_metAt_14 ?_
  refine lv_iload_n hx hb dX4_metAt_15 rfl (lv_at hl 2 rfl) ?_
  refine lv_bipush (v := (17 : Int32)) hx hb dX4_metAt_16 (by decide) ?_
  refine lv_ishr hx hb dX4_metAt_18 ?_
  refine lv_ixor hx hb dX4_metAt_19 ?_
  refine lv_sipush (v := (1023 : Int32)) hx hb dX4_metAt_20 (by decide) ?_
  refine lv_iand hx hb dX4_metAt_23 ?_
  obtain ⟨v1, hv1, h⟩ := zbnd h
  rw [Option.some.inj hv1]
  refine lv_istore_n (lv' := [(2, .int v1), (0, .ref a_this), (1, .int p0)]) hx hb dX4_metAt_24 rfl hl (by decide) rfl (fun ls hl => ?_)
  have E62 : ∀ (v2 : Int32), F_X4_metAt_E62 f_into f_meets f_met f_table f_waysOf p0 v2 = some R → ∀ (H : Heap) (locs : List Loc), va_P D vwCl [(a_this, .inr (4, [.int f_thrown, .ref a_s, .ref a_then, .ref a_past, .int f_saved, .ref a_text, .int f_length, .int f_counted, .int f_due, .ref a_met, .ref a_table, .ref a_ways, .ref a_waysOf, .ref a_into, .int f_meets, .int f_isTold, .int f_rests, .int f_leastRest, .int f_mostRest, .int f_isWheel, .int f_ended, .int f_spot, .ref a_orders, .int f_ordered, .int f_cureAmount, .int f_cureRelay, .int f_cureWhich, .long f_hash])), (a_met, .inl (cI, 301, .inl f_met)), (a_table, .inl (cI, 1024, .inl f_table)), (a_waysOf, .inl (cI, 301, .inl f_waysOf)), (a_into, .inl (cI, 301, .inl f_into))] H → va_D A [(a_this, .inr (4, [.int f_thrown, .ref a_s, .ref a_then, .ref a_past, .int f_saved, .ref a_text, .int f_length, .int f_counted, .int f_due, .ref a_met, .ref a_table, .ref a_ways, .ref a_waysOf, .ref a_into, .int f_meets, .int f_isTold, .int f_rests, .int f_leastRest, .int f_mostRest, .int f_isWheel, .int f_ended, .int f_spot, .ref a_orders, .int f_ordered, .int f_cureAmount, .int f_cureRelay, .int f_cureWhich, .long f_hash])), (a_met, .inl (cI, 301, .inl f_met)), (a_table, .inl (cI, 1024, .inl f_table)), (a_waysOf, .inl (cI, 301, .inl f_waysOf)), (a_into, .inl (cI, 301, .inl f_into))] → va_S A s.heap H locs → ∀ ls : Array Slot, lv_has ls 3 [(0, .ref a_this), (1, .int p0), (2, .int v2)] → W p l e ({ frames := 0, cells := 0, slots := 0, locals := 0 } : Room) s m (([.ref a_this, .int p0] : List Value).toArray) below meth c H locs 0 0 (MQ below (zWi D R.1 [(a_this, .inr (4, [.int f_thrown, .ref a_s, .ref a_then, .ref a_past, .int f_saved, .ref a_text, .int f_length, .int f_counted, .int f_due, .ref a_met, .ref a_table, .ref a_ways, .ref a_waysOf, .ref a_into, .int R.2.1, .int f_isTold, .int f_rests, .int f_leastRest, .int f_mostRest, .int f_isWheel, .int f_ended, .int f_spot, .ref a_orders, .int f_ordered, .int f_cureAmount, .int f_cureRelay, .int f_cureWhich, .long f_hash])), (a_met, .inl (cI, 301, .inl R.2.2.1)), (a_table, .inl (cI, 1024, .inl R.2.2.2.1)), (a_waysOf, .inl (cI, 301, .inl R.2.2.2.2.1)), (a_into, .inl (cI, 301, .inl R.2.2.2.2.2))] A) (([.ref a_this, .int p0] : List Value).toArray) s 0 0 A) (F0 m 62 ls []) := by
    intro v2 h H locs hP hD hS ls hl
    unfold F_X4_metAt_E62 at h
    refine lv_aload_n hx hb dX4_metAt_62 rfl (lv_at hl 0 rfl) ?_
    refine va_get (D := D) (ci := 4) (v := .ref a_table) (C := RX4) (T := TX4) (N := 28) hx hb hts hinX4 hown hK hP 0 rfl rfl 10 (by decide) (hts (Cond.fieldLink RX4 26 "LadderRelaysModel" "table" "[I") (List.mem_of_getElem? (i := 1) rfl)) (fun _ h9 => h9) rfl dX4_metAt_63 ?_
    refine lv_iload_n hx hb dX4_metAt_66 rfl (lv_at hl 2 rfl) ?_
    obtain ⟨v3, hv3, h⟩ := zbnd h
    refine zr_iald hx hb hK hP 2 0 rfl rfl hv3 dX4_metAt_67 ?_
    have J121 : ∀ (v4 : Int32) (v5 : Nat → Int32) (v6 : Nat → Int32) (v7 : Nat → Int32) (v8 : Nat → Int32), F_X4_metAt_J121 v2 v4 v5 v6 v7 v8 = some R → ∀ (H : Heap) (locs : List Loc), va_P D vwCl [(a_this, .inr (4, [.int f_thrown, .ref a_s, .ref a_then, .ref a_past, .int f_saved, .ref a_text, .int f_length, .int f_counted, .int f_due, .ref a_met, .ref a_table, .ref a_ways, .ref a_waysOf, .ref a_into, .int v4, .int f_isTold, .int f_rests, .int f_leastRest, .int f_mostRest, .int f_isWheel, .int f_ended, .int f_spot, .ref a_orders, .int f_ordered, .int f_cureAmount, .int f_cureRelay, .int f_cureWhich, .long f_hash])), (a_met, .inl (cI, 301, .inl v5)), (a_table, .inl (cI, 1024, .inl v6)), (a_waysOf, .inl (cI, 301, .inl v7)), (a_into, .inl (cI, 301, .inl v8))] H → va_D A [(a_this, .inr (4, [.int f_thrown, .ref a_s, .ref a_then, .ref a_past, .int f_saved, .ref a_text, .int f_length, .int f_counted, .int f_due, .ref a_met, .ref a_table, .ref a_ways, .ref a_waysOf, .ref a_into, .int v4, .int f_isTold, .int f_rests, .int f_leastRest, .int f_mostRest, .int f_isWheel, .int f_ended, .int f_spot, .ref a_orders, .int f_ordered, .int f_cureAmount, .int f_cureRelay, .int f_cureWhich, .long f_hash])), (a_met, .inl (cI, 301, .inl v5)), (a_table, .inl (cI, 1024, .inl v6)), (a_waysOf, .inl (cI, 301, .inl v7)), (a_into, .inl (cI, 301, .inl v8))] → va_S A s.heap H locs → ∀ ls : Array Slot, lv_has ls 3 [(0, .ref a_this), (1, .int p0), (2, .int v2)] → W p l e ({ frames := 0, cells := 0, slots := 0, locals := 0 } : Room) s m (([.ref a_this, .int p0] : List Value).toArray) below meth c H locs 0 0 (MQ below (zWi D R.1 [(a_this, .inr (4, [.int f_thrown, .ref a_s, .ref a_then, .ref a_past, .int f_saved, .ref a_text, .int f_length, .int f_counted, .int f_due, .ref a_met, .ref a_table, .ref a_ways, .ref a_waysOf, .ref a_into, .int R.2.1, .int f_isTold, .int f_rests, .int f_leastRest, .int f_mostRest, .int f_isWheel, .int f_ended, .int f_spot, .ref a_orders, .int f_ordered, .int f_cureAmount, .int f_cureRelay, .int f_cureWhich, .long f_hash])), (a_met, .inl (cI, 301, .inl R.2.2.1)), (a_table, .inl (cI, 1024, .inl R.2.2.2.1)), (a_waysOf, .inl (cI, 301, .inl R.2.2.2.2.1)), (a_into, .inl (cI, 301, .inl R.2.2.2.2.2))] A) (([.ref a_this, .int p0] : List Value).toArray) s 0 0 A) (F0 m 121 ls []) := by
      intro v4 v5 v6 v7 v8 h H locs hP hD hS ls hl
      unfold F_X4_metAt_J121 at h
      refine lv_aload_n hx hb dX4_metAt_121 rfl (lv_at hl 0 rfl) ?_
      refine va_get (D := D) (ci := 4) (v := .ref a_table) (C := RX4) (T := TX4) (N := 28) hx hb hts hinX4 hown hK hP 0 rfl rfl 10 (by decide) (hts (Cond.fieldLink RX4 26 "LadderRelaysModel" "table" "[I") (List.mem_of_getElem? (i := 1) rfl)) (fun _ h9 => h9) rfl dX4_metAt_122 ?_
      refine lv_iload_n hx hb dX4_metAt_125 rfl (lv_at hl 2 rfl) ?_
      obtain ⟨v9, hv9, h⟩ := zbnd h
      refine zr_iald hx hb hK hP 2 0 rfl rfl hv9 dX4_metAt_126 ?_
      refine lv_iconst (v := (1 : Int32)) hx hb dX4_metAt_127 (by decide) ?_
      refine lv_isub hx hb dX4_metAt_128 ?_
      have hR := Option.some.inj h
      subst hR
      exact W.iret (v := (v9 - (1 : Int32))) hx hb hr (fun t ht hW => ⟨⟨_, (), rfl, rfl, zhp ht hP⟩, hS.F ht⟩) hS.2.2 dX4_metAt_129
    refine lv_if_ne (tgt := 121) hx hb dX4_metAt_68 (by decide) (fun c10 => ?_) (fun c10 => ?_)
    · have h := zif_f c10 h
      exact J121 f_meets f_met f_table f_waysOf f_into h _ _ hP hD hS ls (lv_sub hl [0, 1, 2] rfl)
    · have h := zif_t c10 h
      refine lv_aload_n hx hb dX4_metAt_71 rfl (lv_at hl 0 rfl) ?_
      refine va_get (D := D) (ci := 4) (v := .ref a_met) (C := RX4) (T := TX4) (N := 28) hx hb hts hinX4 hown hK hP 0 rfl rfl 9 (by decide) (hts (Cond.fieldLink RX4 23 "LadderRelaysModel" "met" "[I") (List.mem_of_getElem? (i := 2) rfl)) (fun _ h9 => h9) rfl dX4_metAt_72 ?_
      refine lv_aload_n hx hb dX4_metAt_75 rfl (lv_at hl 0 rfl) ?_
      refine va_get (D := D) (ci := 4) (v := .int f_meets) (C := RX4) (T := TX4) (N := 28) hx hb hts hinX4 hown hK hP 0 rfl rfl 14 (by decide) (hts (Cond.fieldLink RX4 82 "LadderRelaysModel" "meets" "I") (List.mem_of_getElem? (i := 3) rfl)) (fun _ h9 => h9) rfl dX4_metAt_76 ?_
      refine lv_iload_n hx hb dX4_metAt_79 rfl (lv_at hl 1 rfl) ?_
      obtain ⟨v11, hv11, h⟩ := zbnd h
      refine zr_iast hx hb hK hP hD hS 1 0 rfl rfl hv11 dX4_metAt_80 (fun H locs hP hD hS => ?_)
      have hP : va_P D vwCl [(a_this, .inr (4, [.int f_thrown, .ref a_s, .ref a_then, .ref a_past, .int f_saved, .ref a_text, .int f_length, .int f_counted, .int f_due, .ref a_met, .ref a_table, .ref a_ways, .ref a_waysOf, .ref a_into, .int f_meets, .int f_isTold, .int f_rests, .int f_leastRest, .int f_mostRest, .int f_isWheel, .int f_ended, .int f_spot, .ref a_orders, .int f_ordered, .int f_cureAmount, .int f_cureRelay, .int f_cureWhich, .long f_hash])), (a_met, .inl (cI, 301, .inl v11)), (a_table, .inl (cI, 1024, .inl f_table)), (a_waysOf, .inl (cI, 301, .inl f_waysOf)), (a_into, .inl (cI, 301, .inl f_into))] H := hP
      have hD : va_D A [(a_this, .inr (4, [.int f_thrown, .ref a_s, .ref a_then, .ref a_past, .int f_saved, .ref a_text, .int f_length, .int f_counted, .int f_due, .ref a_met, .ref a_table, .ref a_ways, .ref a_waysOf, .ref a_into, .int f_meets, .int f_isTold, .int f_rests, .int f_leastRest, .int f_mostRest, .int f_isWheel, .int f_ended, .int f_spot, .ref a_orders, .int f_ordered, .int f_cureAmount, .int f_cureRelay, .int f_cureWhich, .long f_hash])), (a_met, .inl (cI, 301, .inl v11)), (a_table, .inl (cI, 1024, .inl f_table)), (a_waysOf, .inl (cI, 301, .inl f_waysOf)), (a_into, .inl (cI, 301, .inl f_into))] := hD
      refine lv_aload_n hx hb dX4_metAt_81 rfl (lv_at hl 0 rfl) ?_
      refine va_get (D := D) (ci := 4) (v := .ref a_into) (C := RX4) (T := TX4) (N := 28) hx hb hts hinX4 hown hK hP 0 rfl rfl 13 (by decide) (hts (Cond.fieldLink RX4 35 "LadderRelaysModel" "into" "[I") (List.mem_of_getElem? (i := 4) rfl)) (fun _ h9 => h9) rfl dX4_metAt_82 ?_
      refine lv_aload_n hx hb dX4_metAt_85 rfl (lv_at hl 0 rfl) ?_
      refine va_get (D := D) (ci := 4) (v := .int f_meets) (C := RX4) (T := TX4) (N := 28) hx hb hts hinX4 hown hK hP 0 rfl rfl 14 (by decide) (hts (Cond.fieldLink RX4 82 "LadderRelaysModel" "meets" "I") (List.mem_of_getElem? (i := 3) rfl)) (fun _ h9 => h9) rfl dX4_metAt_86 ?_
      refine lv_iconst (v := (0 : Int32)) hx hb dX4_metAt_89 (by decide) ?_
      obtain ⟨v12, hv12, h⟩ := zbnd h
      refine zr_iast hx hb hK hP hD hS 4 0 rfl rfl hv12 dX4_metAt_90 (fun H locs hP hD hS => ?_)
      have hP : va_P D vwCl [(a_this, .inr (4, [.int f_thrown, .ref a_s, .ref a_then, .ref a_past, .int f_saved, .ref a_text, .int f_length, .int f_counted, .int f_due, .ref a_met, .ref a_table, .ref a_ways, .ref a_waysOf, .ref a_into, .int f_meets, .int f_isTold, .int f_rests, .int f_leastRest, .int f_mostRest, .int f_isWheel, .int f_ended, .int f_spot, .ref a_orders, .int f_ordered, .int f_cureAmount, .int f_cureRelay, .int f_cureWhich, .long f_hash])), (a_met, .inl (cI, 301, .inl v11)), (a_table, .inl (cI, 1024, .inl f_table)), (a_waysOf, .inl (cI, 301, .inl f_waysOf)), (a_into, .inl (cI, 301, .inl v12))] H := hP
      have hD : va_D A [(a_this, .inr (4, [.int f_thrown, .ref a_s, .ref a_then, .ref a_past, .int f_saved, .ref a_text, .int f_length, .int f_counted, .int f_due, .ref a_met, .ref a_table, .ref a_ways, .ref a_waysOf, .ref a_into, .int f_meets, .int f_isTold, .int f_rests, .int f_leastRest, .int f_mostRest, .int f_isWheel, .int f_ended, .int f_spot, .ref a_orders, .int f_ordered, .int f_cureAmount, .int f_cureRelay, .int f_cureWhich, .long f_hash])), (a_met, .inl (cI, 301, .inl v11)), (a_table, .inl (cI, 1024, .inl f_table)), (a_waysOf, .inl (cI, 301, .inl f_waysOf)), (a_into, .inl (cI, 301, .inl v12))] := hD
      refine lv_aload_n hx hb dX4_metAt_91 rfl (lv_at hl 0 rfl) ?_
      refine va_get (D := D) (ci := 4) (v := .ref a_waysOf) (C := RX4) (T := TX4) (N := 28) hx hb hts hinX4 hown hK hP 0 rfl rfl 12 (by decide) (hts (Cond.fieldLink RX4 32 "LadderRelaysModel" "waysOf" "[I") (List.mem_of_getElem? (i := 5) rfl)) (fun _ h9 => h9) rfl dX4_metAt_92 ?_
      refine lv_aload_n hx hb dX4_metAt_95 rfl (lv_at hl 0 rfl) ?_
      refine va_get (D := D) (ci := 4) (v := .int f_meets) (C := RX4) (T := TX4) (N := 28) hx hb hts hinX4 hown hK hP 0 rfl rfl 14 (by decide) (hts (Cond.fieldLink RX4 82 "LadderRelaysModel" "meets" "I") (List.mem_of_getElem? (i := 3) rfl)) (fun _ h9 => h9) rfl dX4_metAt_96 ?_
      refine lv_iconst (v := (0 : Int32)) hx hb dX4_metAt_99 (by decide) ?_
      obtain ⟨v13, hv13, h⟩ := zbnd h
      refine zr_iast hx hb hK hP hD hS 3 0 rfl rfl hv13 dX4_metAt_100 (fun H locs hP hD hS => ?_)
      have hP : va_P D vwCl [(a_this, .inr (4, [.int f_thrown, .ref a_s, .ref a_then, .ref a_past, .int f_saved, .ref a_text, .int f_length, .int f_counted, .int f_due, .ref a_met, .ref a_table, .ref a_ways, .ref a_waysOf, .ref a_into, .int f_meets, .int f_isTold, .int f_rests, .int f_leastRest, .int f_mostRest, .int f_isWheel, .int f_ended, .int f_spot, .ref a_orders, .int f_ordered, .int f_cureAmount, .int f_cureRelay, .int f_cureWhich, .long f_hash])), (a_met, .inl (cI, 301, .inl v11)), (a_table, .inl (cI, 1024, .inl f_table)), (a_waysOf, .inl (cI, 301, .inl v13)), (a_into, .inl (cI, 301, .inl v12))] H := hP
      have hD : va_D A [(a_this, .inr (4, [.int f_thrown, .ref a_s, .ref a_then, .ref a_past, .int f_saved, .ref a_text, .int f_length, .int f_counted, .int f_due, .ref a_met, .ref a_table, .ref a_ways, .ref a_waysOf, .ref a_into, .int f_meets, .int f_isTold, .int f_rests, .int f_leastRest, .int f_mostRest, .int f_isWheel, .int f_ended, .int f_spot, .ref a_orders, .int f_ordered, .int f_cureAmount, .int f_cureRelay, .int f_cureWhich, .long f_hash])), (a_met, .inl (cI, 301, .inl v11)), (a_table, .inl (cI, 1024, .inl f_table)), (a_waysOf, .inl (cI, 301, .inl v13)), (a_into, .inl (cI, 301, .inl v12))] := hD
      refine lv_aload_n hx hb dX4_metAt_101 rfl (lv_at hl 0 rfl) ?_
      refine lv_dup hx hb dX4_metAt_102 rfl ?_
      refine va_get (D := D) (ci := 4) (v := .int f_meets) (C := RX4) (T := TX4) (N := 28) hx hb hts hinX4 hown hK hP 0 rfl rfl 14 (by decide) (hts (Cond.fieldLink RX4 82 "LadderRelaysModel" "meets" "I") (List.mem_of_getElem? (i := 3) rfl)) (fun _ h9 => h9) rfl dX4_metAt_103 ?_
      refine lv_iconst (v := (1 : Int32)) hx hb dX4_metAt_106 (by decide) ?_
      refine lv_iadd hx hb dX4_metAt_107 ?_
      refine va_put (D := D) (ci := 4) (v := .int (f_meets + (1 : Int32))) (ty := .int) (C := RX4) (T := TX4) (N := 28) hx hb hts hinX4 tyX4 tyX4_ok nmX4 hown hK hP hD hS 0 rfl rfl 14 (by decide) (hts (Cond.fieldLink RX4 82 "LadderRelaysModel" "meets" "I") (List.mem_of_getElem? (i := 3) rfl)) (fun _ h9 => h9) rfl (by decide +kernel) rfl rfl (Nat.le_of_ble_eq_true rfl) dX4_metAt_108 (fun H locs hP hD hS => ?_)
      have hP : va_P D vwCl [(a_this, .inr (4, [.int f_thrown, .ref a_s, .ref a_then, .ref a_past, .int f_saved, .ref a_text, .int f_length, .int f_counted, .int f_due, .ref a_met, .ref a_table, .ref a_ways, .ref a_waysOf, .ref a_into, .int (f_meets + (1 : Int32)), .int f_isTold, .int f_rests, .int f_leastRest, .int f_mostRest, .int f_isWheel, .int f_ended, .int f_spot, .ref a_orders, .int f_ordered, .int f_cureAmount, .int f_cureRelay, .int f_cureWhich, .long f_hash])), (a_met, .inl (cI, 301, .inl v11)), (a_table, .inl (cI, 1024, .inl f_table)), (a_waysOf, .inl (cI, 301, .inl v13)), (a_into, .inl (cI, 301, .inl v12))] H := hP
      have hD : va_D A [(a_this, .inr (4, [.int f_thrown, .ref a_s, .ref a_then, .ref a_past, .int f_saved, .ref a_text, .int f_length, .int f_counted, .int f_due, .ref a_met, .ref a_table, .ref a_ways, .ref a_waysOf, .ref a_into, .int (f_meets + (1 : Int32)), .int f_isTold, .int f_rests, .int f_leastRest, .int f_mostRest, .int f_isWheel, .int f_ended, .int f_spot, .ref a_orders, .int f_ordered, .int f_cureAmount, .int f_cureRelay, .int f_cureWhich, .long f_hash])), (a_met, .inl (cI, 301, .inl v11)), (a_table, .inl (cI, 1024, .inl f_table)), (a_waysOf, .inl (cI, 301, .inl v13)), (a_into, .inl (cI, 301, .inl v12))] := hD
      refine lv_aload_n hx hb dX4_metAt_111 rfl (lv_at hl 0 rfl) ?_
      refine va_get (D := D) (ci := 4) (v := .ref a_table) (C := RX4) (T := TX4) (N := 28) hx hb hts hinX4 hown hK hP 0 rfl rfl 10 (by decide) (hts (Cond.fieldLink RX4 26 "LadderRelaysModel" "table" "[I") (List.mem_of_getElem? (i := 1) rfl)) (fun _ h9 => h9) rfl dX4_metAt_112 ?_
      refine lv_iload_n hx hb dX4_metAt_115 rfl (lv_at hl 2 rfl) ?_
      refine lv_aload_n hx hb dX4_metAt_116 rfl (lv_at hl 0 rfl) ?_
      refine va_get (D := D) (ci := 4) (v := .int (f_meets + (1 : Int32))) (C := RX4) (T := TX4) (N := 28) hx hb hts hinX4 hown hK hP 0 rfl rfl 14 (by decide) (hts (Cond.fieldLink RX4 82 "LadderRelaysModel" "meets" "I") (List.mem_of_getElem? (i := 3) rfl)) (fun _ h9 => h9) rfl dX4_metAt_117 ?_
      obtain ⟨v14, hv14, h⟩ := zbnd h
      refine zr_iast hx hb hK hP hD hS 2 0 rfl rfl hv14 dX4_metAt_120 (fun H locs hP hD hS => ?_)
      have hP : va_P D vwCl [(a_this, .inr (4, [.int f_thrown, .ref a_s, .ref a_then, .ref a_past, .int f_saved, .ref a_text, .int f_length, .int f_counted, .int f_due, .ref a_met, .ref a_table, .ref a_ways, .ref a_waysOf, .ref a_into, .int (f_meets + (1 : Int32)), .int f_isTold, .int f_rests, .int f_leastRest, .int f_mostRest, .int f_isWheel, .int f_ended, .int f_spot, .ref a_orders, .int f_ordered, .int f_cureAmount, .int f_cureRelay, .int f_cureWhich, .long f_hash])), (a_met, .inl (cI, 301, .inl v11)), (a_table, .inl (cI, 1024, .inl v14)), (a_waysOf, .inl (cI, 301, .inl v13)), (a_into, .inl (cI, 301, .inl v12))] H := hP
      have hD : va_D A [(a_this, .inr (4, [.int f_thrown, .ref a_s, .ref a_then, .ref a_past, .int f_saved, .ref a_text, .int f_length, .int f_counted, .int f_due, .ref a_met, .ref a_table, .ref a_ways, .ref a_waysOf, .ref a_into, .int (f_meets + (1 : Int32)), .int f_isTold, .int f_rests, .int f_leastRest, .int f_mostRest, .int f_isWheel, .int f_ended, .int f_spot, .ref a_orders, .int f_ordered, .int f_cureAmount, .int f_cureRelay, .int f_cureWhich, .long f_hash])), (a_met, .inl (cI, 301, .inl v11)), (a_table, .inl (cI, 1024, .inl v14)), (a_waysOf, .inl (cI, 301, .inl v13)), (a_into, .inl (cI, 301, .inl v12))] := hD
      exact J121 (f_meets + (1 : Int32)) v11 v14 v13 v12 h _ _ hP hD hS ls (lv_sub hl [0, 1, 2] rfl)
  refine zlp_i1 (R := R) (P := fun (v15 : Int32) => ∀ (H : Heap) (locs : List Loc), va_P D vwCl [(a_this, .inr (4, [.int f_thrown, .ref a_s, .ref a_then, .ref a_past, .int f_saved, .ref a_text, .int f_length, .int f_counted, .int f_due, .ref a_met, .ref a_table, .ref a_ways, .ref a_waysOf, .ref a_into, .int f_meets, .int f_isTold, .int f_rests, .int f_leastRest, .int f_mostRest, .int f_isWheel, .int f_ended, .int f_spot, .ref a_orders, .int f_ordered, .int f_cureAmount, .int f_cureRelay, .int f_cureWhich, .long f_hash])), (a_met, .inl (cI, 301, .inl f_met)), (a_table, .inl (cI, 1024, .inl f_table)), (a_waysOf, .inl (cI, 301, .inl f_waysOf)), (a_into, .inl (cI, 301, .inl f_into))] H → va_D A [(a_this, .inr (4, [.int f_thrown, .ref a_s, .ref a_then, .ref a_past, .int f_saved, .ref a_text, .int f_length, .int f_counted, .int f_due, .ref a_met, .ref a_table, .ref a_ways, .ref a_waysOf, .ref a_into, .int f_meets, .int f_isTold, .int f_rests, .int f_leastRest, .int f_mostRest, .int f_isWheel, .int f_ended, .int f_spot, .ref a_orders, .int f_ordered, .int f_cureAmount, .int f_cureRelay, .int f_cureWhich, .long f_hash])), (a_met, .inl (cI, 301, .inl f_met)), (a_table, .inl (cI, 1024, .inl f_table)), (a_waysOf, .inl (cI, 301, .inl f_waysOf)), (a_into, .inl (cI, 301, .inl f_into))] → va_S A s.heap H locs → ∀ ls : Array Slot, lv_has ls 3 [(0, .ref a_this), (1, .int p0), (2, .int v15)] → W p l e ({ frames := 0, cells := 0, slots := 0, locals := 0 } : Room) s m (([.ref a_this, .int p0] : List Value).toArray) below meth c H locs 0 0 (MQ below (zWi D R.1 [(a_this, .inr (4, [.int f_thrown, .ref a_s, .ref a_then, .ref a_past, .int f_saved, .ref a_text, .int f_length, .int f_counted, .int f_due, .ref a_met, .ref a_table, .ref a_ways, .ref a_waysOf, .ref a_into, .int R.2.1, .int f_isTold, .int f_rests, .int f_leastRest, .int f_mostRest, .int f_isWheel, .int f_ended, .int f_spot, .ref a_orders, .int f_ordered, .int f_cureAmount, .int f_cureRelay, .int f_cureWhich, .long f_hash])), (a_met, .inl (cI, 301, .inl R.2.2.1)), (a_table, .inl (cI, 1024, .inl R.2.2.2.1)), (a_waysOf, .inl (cI, 301, .inl R.2.2.2.2.1)), (a_into, .inl (cI, 301, .inl R.2.2.2.2.2))] A) (([.ref a_this, .int p0] : List Value).toArray) s 0 0 A) (F0 m 25 ls [])) (fun rec25 ih25 v15 h => ?_) fu v1 h _ _ hP hD hS ls (lv_sub hl [1, 2, 0] rfl)
  intro H locs hP hD hS ls hl
  unfold F_X4_metAt_L25 at h
  refine lv_aload_n hx hb dX4_metAt_25 rfl (lv_at hl 0 rfl) ?_
  refine va_get (D := D) (ci := 4) (v := .ref a_table) (C := RX4) (T := TX4) (N := 28) hx hb hts hinX4 hown hK hP 0 rfl rfl 10 (by decide) (hts (Cond.fieldLink RX4 26 "LadderRelaysModel" "table" "[I") (List.mem_of_getElem? (i := 1) rfl)) (fun _ h9 => h9) rfl dX4_metAt_26 ?_
  refine lv_iload_n hx hb dX4_metAt_29 rfl (lv_at hl 2 rfl) ?_
  obtain ⟨v16, hv16, h⟩ := zbnd h
  refine zr_iald hx hb hK hP 2 0 rfl rfl hv16 dX4_metAt_30 ?_
  refine lv_if_le (tgt := 62) hx hb dX4_metAt_31 (by decide) (fun c17 => ?_) (fun c17 => ?_)
  · have h := zif_t c17 h
    exact E62 v15 h _ _ hP hD hS ls (lv_sub hl [0, 1, 2] rfl)
  · have h := zif_f c17 h
    refine lv_aload_n hx hb dX4_metAt_34 rfl (lv_at hl 0 rfl) ?_
    refine va_get (D := D) (ci := 4) (v := .ref a_met) (C := RX4) (T := TX4) (N := 28) hx hb hts hinX4 hown hK hP 0 rfl rfl 9 (by decide) (hts (Cond.fieldLink RX4 23 "LadderRelaysModel" "met" "[I") (List.mem_of_getElem? (i := 2) rfl)) (fun _ h9 => h9) rfl dX4_metAt_35 ?_
    refine lv_aload_n hx hb dX4_metAt_38 rfl (lv_at hl 0 rfl) ?_
    refine va_get (D := D) (ci := 4) (v := .ref a_table) (C := RX4) (T := TX4) (N := 28) hx hb hts hinX4 hown hK hP 0 rfl rfl 10 (by decide) (hts (Cond.fieldLink RX4 26 "LadderRelaysModel" "table" "[I") (List.mem_of_getElem? (i := 1) rfl)) (fun _ h9 => h9) rfl dX4_metAt_39 ?_
    refine lv_iload_n hx hb dX4_metAt_42 rfl (lv_at hl 2 rfl) ?_
    obtain ⟨v18, hv18, h⟩ := zbnd h
    refine zr_iald hx hb hK hP 2 0 rfl rfl hv18 dX4_metAt_43 ?_
    refine lv_iconst (v := (1 : Int32)) hx hb dX4_metAt_44 (by decide) ?_
    refine lv_isub hx hb dX4_metAt_45 ?_
    obtain ⟨v19, hv19, h⟩ := zbnd h
    refine zr_iald hx hb hK hP 1 0 rfl rfl hv19 dX4_metAt_46 ?_
    refine lv_iload_n hx hb dX4_metAt_47 rfl (lv_at hl 1 rfl) ?_
    refine lv_icmp_eq (tgt := 62) hx hb dX4_metAt_48 (by decide) (fun c20 => ?_) (fun c20 => ?_)
    · have h := zif_t c20 h
      exact E62 v15 h _ _ hP hD hS ls (lv_sub hl [0, 1, 2] rfl)
    · have h := zif_f c20 h
      refine lv_iload_n hx hb dX4_metAt_51 rfl (lv_at hl 2 rfl) ?_
      refine lv_iconst (v := (1 : Int32)) hx hb dX4_metAt_52 (by decide) ?_
      refine lv_iadd hx hb dX4_metAt_53 ?_
      refine lv_sipush (v := (1023 : Int32)) hx hb dX4_metAt_54 (by decide) ?_
      refine lv_iand hx hb dX4_metAt_57 ?_
      refine lv_istore_n (lv' := [(2, .int ((v15 + (1 : Int32)) &&& (1023 : Int32))), (0, .ref a_this), (1, .int p0)]) hx hb dX4_metAt_58 rfl hl (by decide) rfl (fun ls hl => ?_)
      refine lv_goto (tgt := 25) hx hb dX4_metAt_59 (by decide) ?_
      exact ih25 ((v15 + (1 : Int32)) &&& (1023 : Int32)) h _ _ hP hD hS ls (lv_sub hl [1, 2, 0] rfl)
def F_X4_laysWay (fu : Nat) (f_meets : Int32) (f_met : Nat → Int32) (f_table : Nat → Int32) (f_ways : Nat → Int32) (f_waysOf : Nat → Int32) (f_into : Nat → Int32) (p0 : Int32) (p1 : Int32) : Option (Int32 × (Nat → Int32) × (Nat → Int32) × (Nat → Int32) × (Nat → Int32) × (Nat → Int32)) := if (300 : Int32) < f_meets then some (f_meets, f_met, f_table, f_ways, f_waysOf, f_into) else (F_X4_metAt fu f_meets f_met f_table f_waysOf f_into p1).bind fun v2 => (zrd v2.2.2.2.2.1 301 p0).bind fun v3 => (zwr f_ways 2107 (((7 : Int32) * p0) + v3) v2.1).bind fun v4 => (zrd v2.2.2.2.2.1 301 p0).bind fun v5 => (zwr v2.2.2.2.2.1 301 p0 (v5 + (1 : Int32))).bind fun v6 => (zrd v2.2.2.2.2.2 301 v2.1).bind fun v7 => (zwr v2.2.2.2.2.2 301 v2.1 (v7 + (1 : Int32))).bind fun v8 => some (v2.2.1, v2.2.2.1, v2.2.2.2.1, v4, v6, v8)
set_option maxHeartbeats 4000000 in
set_option maxRecDepth 100000 in
theorem c_X4_laysWay (l : Launch) (D : va_G) (cI cC cO cJ : ClassId) (fu : Nat) (a_this a_s a_then a_past a_text a_met a_table a_ways a_waysOf a_into a_orders : Nat) (sz : Nat) (f_thrown : Int32) (f_saved : Int32) (f_length : Int32) (f_counted : Int32) (f_due : Int32) (f_meets : Int32) (f_isTold : Int32) (f_rests : Int32) (f_leastRest : Int32) (f_mostRest : Int32) (f_isWheel : Int32) (f_ended : Int32) (f_spot : Int32) (f_ordered : Int32) (f_cureAmount : Int32) (f_cureRelay : Int32) (f_cureWhich : Int32) (f_hash : Int64) (f_met : Nat → Int32) (f_table : Nat → Int32) (f_ways : Nat → Int32) (f_waysOf : Nat → Int32) (f_into : Nat → Int32) (p0 : Int32) (p1 : Int32) (R : Int32 × (Nat → Int32) × (Nat → Int32) × (Nat → Int32) × (Nat → Int32) × (Nat → Int32)) (h : F_X4_laysWay fu f_meets f_met f_table f_ways f_waysOf f_into p0 p1 = some R) : Met l yX4_laysWay wsX4_laysWay ({ frames := 1, cells := 0, slots := 0, locals := 22 } : Room) (zPw D (ztys cI cC cO cJ) [(a_this, .inr (4, [.int f_thrown, .ref a_s, .ref a_then, .ref a_past, .int f_saved, .ref a_text, .int f_length, .int f_counted, .int f_due, .ref a_met, .ref a_table, .ref a_ways, .ref a_waysOf, .ref a_into, .int f_meets, .int f_isTold, .int f_rests, .int f_leastRest, .int f_mostRest, .int f_isWheel, .int f_ended, .int f_spot, .ref a_orders, .int f_ordered, .int f_cureAmount, .int f_cureRelay, .int f_cureWhich, .long f_hash])), (a_met, .inl (cI, 301, .inl f_met)), (a_table, .inl (cI, 1024, .inl f_table)), (a_ways, .inl (cI, 2107, .inl f_ways)), (a_waysOf, .inl (cI, 301, .inl f_waysOf)), (a_into, .inl (cI, 301, .inl f_into))] sz [.ref a_this, .int p0, .int p1]) (zWv D [(a_this, .inr (4, [.int f_thrown, .ref a_s, .ref a_then, .ref a_past, .int f_saved, .ref a_text, .int f_length, .int f_counted, .int f_due, .ref a_met, .ref a_table, .ref a_ways, .ref a_waysOf, .ref a_into, .int R.1, .int f_isTold, .int f_rests, .int f_leastRest, .int f_mostRest, .int f_isWheel, .int f_ended, .int f_spot, .ref a_orders, .int f_ordered, .int f_cureAmount, .int f_cureRelay, .int f_cureWhich, .long f_hash])), (a_met, .inl (cI, 301, .inl R.2.1)), (a_table, .inl (cI, 1024, .inl R.2.2.1)), (a_ways, .inl (cI, 2107, .inl R.2.2.2.1)), (a_waysOf, .inl (cI, 301, .inl R.2.2.2.2.1)), (a_into, .inl (cI, 301, .inl R.2.2.2.2.2))] (va_A [(a_this, .inr (4, [.int f_thrown, .ref a_s, .ref a_then, .ref a_past, .int f_saved, .ref a_text, .int f_length, .int f_counted, .int f_due, .ref a_met, .ref a_table, .ref a_ways, .ref a_waysOf, .ref a_into, .int f_meets, .int f_isTold, .int f_rests, .int f_leastRest, .int f_mostRest, .int f_isWheel, .int f_ended, .int f_spot, .ref a_orders, .int f_ordered, .int f_cureAmount, .int f_cureRelay, .int f_cureWhich, .long f_hash])), (a_met, .inl (cI, 301, .inl f_met)), (a_table, .inl (cI, 1024, .inl f_table)), (a_ways, .inl (cI, 2107, .inl f_ways)), (a_waysOf, .inl (cI, 301, .inl f_waysOf)), (a_into, .inl (cI, 301, .inl f_into))] sz)) 0 0 (va_A [(a_this, .inr (4, [.int f_thrown, .ref a_s, .ref a_then, .ref a_past, .int f_saved, .ref a_text, .int f_length, .int f_counted, .int f_due, .ref a_met, .ref a_table, .ref a_ways, .ref a_waysOf, .ref a_into, .int f_meets, .int f_isTold, .int f_rests, .int f_leastRest, .int f_mostRest, .int f_isWheel, .int f_ended, .int f_spot, .ref a_orders, .int f_ordered, .int f_cureAmount, .int f_cureRelay, .int f_cureWhich, .long f_hash])), (a_met, .inl (cI, 301, .inl f_met)), (a_table, .inl (cI, 1024, .inl f_table)), (a_ways, .inl (cI, 2107, .inl f_ways)), (a_waysOf, .inl (cI, 301, .inl f_waysOf)), (a_into, .inl (cI, 301, .inl f_into))] sz) := by
  refine Met.ofW (cc := cX4_laysWay) (maxL := 4) (ret := none) (by decide) rfl ?_
  intro p e s m args below meth c s₁ B hml hv
  obtain ⟨rfl, hsz, hP, hK, hD0⟩ := hv
  have hx := B.exec
  have hb := B.bytes
  have hr := B.returns
  have hts := atoms_spec (ws := wsX4_laysWay) B.pre
  have hown : s.vm.findClass RX4 = some m.cls := findClass_of_methodNamed B.named
  have hlocks := B.notSynchronized
  have hinX4 : ∀ w ∈ wsX40, w ∈ wsX4_laysWay := fun _ h => (List.mem_cons_of_mem _ (List.mem_append_right _ h))
  subst hsz
  have hD := hD0.self (sz := s.heap.size)
  generalize hAe : va_A [(a_this, .inr (4, [.int f_thrown, .ref a_s, .ref a_then, .ref a_past, .int f_saved, .ref a_text, .int f_length, .int f_counted, .int f_due, .ref a_met, .ref a_table, .ref a_ways, .ref a_waysOf, .ref a_into, .int f_meets, .int f_isTold, .int f_rests, .int f_leastRest, .int f_mostRest, .int f_isWheel, .int f_ended, .int f_spot, .ref a_orders, .int f_ordered, .int f_cureAmount, .int f_cureRelay, .int f_cureWhich, .long f_hash])), (a_met, .inl (cI, 301, .inl f_met)), (a_table, .inl (cI, 1024, .inl f_table)), (a_ways, .inl (cI, 2107, .inl f_ways)), (a_waysOf, .inl (cI, 301, .inl f_waysOf)), (a_into, .inl (cI, 301, .inl f_into))] s.heap.size = A at hD ⊢
  have hA : ∀ q : Nat, s.heap.size ≤ q → A q := fun q h => by rw [← hAe]; exact Or.inr h
  have hS : va_S A s.heap s.heap [] := va_S.rf
  have hP : va_P D vwCl [(a_this, .inr (4, [.int f_thrown, .ref a_s, .ref a_then, .ref a_past, .int f_saved, .ref a_text, .int f_length, .int f_counted, .int f_due, .ref a_met, .ref a_table, .ref a_ways, .ref a_waysOf, .ref a_into, .int f_meets, .int f_isTold, .int f_rests, .int f_leastRest, .int f_mostRest, .int f_isWheel, .int f_ended, .int f_spot, .ref a_orders, .int f_ordered, .int f_cureAmount, .int f_cureRelay, .int f_cureWhich, .long f_hash])), (a_met, .inl (cI, 301, .inl f_met)), (a_table, .inl (cI, 1024, .inl f_table)), (a_ways, .inl (cI, 2107, .inl f_ways)), (a_waysOf, .inl (cI, 301, .inl f_waysOf)), (a_into, .inl (cI, 301, .inl f_into))] s.heap := hP
  have hK : va_K D vwCl (ztys cI cC cO cJ) s := hK
  have hl := lv_entry ([.ref a_this, .int p0, .int p1]) (n := 4) (Nat.le_of_ble_eq_true rfl)
  rw [lg_entry_eq]
  generalize (lg_sl ([.ref a_this, .int p0, .int p1]) ++ List.replicate (4 - (lg_sl ([.ref a_this, .int p0, .int p1])).length) Slot.unset).toArray = ls at hl ⊢
  have hl : lv_has ls 4 [(0, .ref a_this), (1, .int p0), (2, .int p1)] := hl
  unfold F_X4_laysWay at h
  refine lv_aload_n hx hb dX4_laysWay_0 rfl (lv_at hl 0 rfl) ?_
  refine va_get (D := D) (ci := 4) (v := .int f_meets) (C := RX4) (T := TX4) (N := 28) hx hb hts hinX4 hown hK hP 0 rfl rfl 14 (by decide) (hts (Cond.fieldLink RX4 82 "LadderRelaysModel" "meets" "I") (List.mem_of_getElem? (i := 1) rfl)) (fun _ h9 => h9) rfl dX4_laysWay_1 ?_
  refine lv_sipush (v := (300 : Int32)) hx hb dX4_laysWay_4 (by decide) ?_
  refine lv_icmp_gt (tgt := 53) hx hb dX4_laysWay_7 (by decide) (fun c1 => ?_) (fun c1 => ?_)
  · have h := zif_t c1 h
    have hR := Option.some.inj h
    subst hR
    exact W.vret hx hb hr (fun t ht hW => ⟨⟨(), rfl, trivial, zhp ht hP⟩, hS.F ht⟩) hS.2.2 dX4_laysWay_53
  · have h := zif_f c1 h
    refine lv_aload_n hx hb dX4_laysWay_10 rfl (lv_at hl 0 rfl) ?_
    refine lv_iload_n hx hb dX4_laysWay_11 rfl (lv_at hl 2 rfl) ?_
    obtain ⟨v2, hv2, h⟩ := zbnd h
    have hPc := hP.sub (ws' := [(a_this, .inr (4, [.int f_thrown, .ref a_s, .ref a_then, .ref a_past, .int f_saved, .ref a_text, .int f_length, .int f_counted, .int f_due, .ref a_met, .ref a_table, .ref a_ways, .ref a_waysOf, .ref a_into, .int f_meets, .int f_isTold, .int f_rests, .int f_leastRest, .int f_mostRest, .int f_isWheel, .int f_ended, .int f_spot, .ref a_orders, .int f_ordered, .int f_cureAmount, .int f_cureRelay, .int f_cureWhich, .long f_hash])), (a_met, .inl (cI, 301, .inl f_met)), (a_table, .inl (cI, 1024, .inl f_table)), (a_waysOf, .inl (cI, 301, .inl f_waysOf)), (a_into, .inl (cI, 301, .inl f_into))]) [0, 1, 2, 4, 5] rfl
    have hDc := hD.sub (ws' := [(a_this, .inr (4, [.int f_thrown, .ref a_s, .ref a_then, .ref a_past, .int f_saved, .ref a_text, .int f_length, .int f_counted, .int f_due, .ref a_met, .ref a_table, .ref a_ways, .ref a_waysOf, .ref a_into, .int f_meets, .int f_isTold, .int f_rests, .int f_leastRest, .int f_mostRest, .int f_isWheel, .int f_ended, .int f_spot, .ref a_orders, .int f_ordered, .int f_cureAmount, .int f_cureRelay, .int f_cureWhich, .long f_hash])), (a_met, .inl (cI, 301, .inl f_met)), (a_table, .inl (cI, 1024, .inl f_table)), (a_waysOf, .inl (cI, 301, .inl f_waysOf)), (a_into, .inl (cI, 301, .inl f_into))]) [0, 1, 2, 4, 5] (by decide) rfl
    have hFc := va_free (wc := [(a_this, .inr (4, [.int f_thrown, .ref a_s, .ref a_then, .ref a_past, .int f_saved, .ref a_text, .int f_length, .int f_counted, .int f_due, .ref a_met, .ref a_table, .ref a_ways, .ref a_waysOf, .ref a_into, .int f_meets, .int f_isTold, .int f_rests, .int f_leastRest, .int f_mostRest, .int f_isWheel, .int f_ended, .int f_spot, .ref a_orders, .int f_ordered, .int f_cureAmount, .int f_cureRelay, .int f_cureWhich, .long f_hash])), (a_met, .inl (cI, 301, .inl f_met)), (a_table, .inl (cI, 1024, .inl f_table)), (a_waysOf, .inl (cI, 301, .inl f_waysOf)), (a_into, .inl (cI, 301, .inl f_into))]) hD hS hA [0, 1, 2, 4, 5] rfl
    refine zc_wi (va_runV (C := RX4) (As := [.int p1]) (rest := []) ⟨hx, hb, hml, hown, hts⟩ (c_X4_metAt l D cI cC cO cJ fu a_this a_s a_then a_past a_text a_met a_table a_ways a_waysOf a_into a_orders _ f_thrown f_saved f_length f_counted f_due f_meets f_isTold f_rests f_leastRest f_mostRest f_isWheel f_ended f_spot f_ordered f_cureAmount f_cureRelay f_cureWhich f_hash f_met f_table f_waysOf f_into p1 v2 hv2) (cwV 1 hts gX4_laysWay_X4_metAt rfl rfl rfl (by decide +kernel) ⟨Nat.le_of_ble_eq_true rfl, Nat.le_of_ble_eq_true rfl⟩) ⟨zPw_blind, (va_recv hK hP (q0 := 0) (ci := 4) rfl rfl), zPw_pre hK hPc hDc⟩ rfl rfl hl.1 rfl (lv_room (Nat.le_of_ble_eq_true rfl)) dX4_laysWay_12 ⟨Nat.zero_le _, Nat.zero_le _⟩) hS hFc (fun H locs hk1 hP1 hS => ?_)
    obtain ⟨hP, hD⟩ := zjn (ws' := [(a_this, .inr (4, [.int f_thrown, .ref a_s, .ref a_then, .ref a_past, .int f_saved, .ref a_text, .int f_length, .int f_counted, .int f_due, .ref a_met, .ref a_table, .ref a_ways, .ref a_waysOf, .ref a_into, .int v2.2.1, .int f_isTold, .int f_rests, .int f_leastRest, .int f_mostRest, .int f_isWheel, .int f_ended, .int f_spot, .ref a_orders, .int f_ordered, .int f_cureAmount, .int f_cureRelay, .int f_cureWhich, .long f_hash])), (a_met, .inl (cI, 301, .inl v2.2.2.1)), (a_table, .inl (cI, 1024, .inl v2.2.2.2.1)), (a_ways, .inl (cI, 2107, .inl f_ways)), (a_waysOf, .inl (cI, 301, .inl v2.2.2.2.2.1)), (a_into, .inl (cI, 301, .inl v2.2.2.2.2.2))]) hP hD [0, 1, 2, 4, 5] [.inr 0, .inr 1, .inr 2, .inl 3, .inr 3, .inr 4] rfl rfl rfl hk1 hP1
    refine lv_istore_n (lv' := [(3, .int v2.1), (0, .ref a_this), (1, .int p0), (2, .int p1)]) hx hb dX4_laysWay_15 rfl hl (by decide) rfl (fun ls hl => ?_)
    refine lv_aload_n hx hb dX4_laysWay_16 rfl (lv_at hl 1 rfl) ?_
    refine va_get (D := D) (ci := 4) (v := .ref a_ways) (C := RX4) (T := TX4) (N := 28) hx hb hts hinX4 hown hK hP 0 rfl rfl 11 (by decide) (hts (Cond.fieldLink RX4 29 "LadderRelaysModel" "ways" "[I") (List.mem_of_getElem? (i := 2) rfl)) (fun _ h9 => h9) rfl dX4_laysWay_17 ?_
    refine lv_bipush (v := (7 : Int32)) hx hb dX4_laysWay_20 (by decide) ?_
    refine lv_iload_n hx hb dX4_laysWay_22 rfl (lv_at hl 2 rfl) ?_
    refine lv_imul hx hb dX4_laysWay_23 ?_
    refine lv_aload_n hx hb dX4_laysWay_24 rfl (lv_at hl 1 rfl) ?_
    refine va_get (D := D) (ci := 4) (v := .ref a_waysOf) (C := RX4) (T := TX4) (N := 28) hx hb hts hinX4 hown hK hP 0 rfl rfl 12 (by decide) (hts (Cond.fieldLink RX4 32 "LadderRelaysModel" "waysOf" "[I") (List.mem_of_getElem? (i := 3) rfl)) (fun _ h9 => h9) rfl dX4_laysWay_25 ?_
    refine lv_iload_n hx hb dX4_laysWay_28 rfl (lv_at hl 2 rfl) ?_
    obtain ⟨v3, hv3, h⟩ := zbnd h
    refine zr_iald hx hb hK hP 4 0 rfl rfl hv3 dX4_laysWay_29 ?_
    refine lv_iadd hx hb dX4_laysWay_30 ?_
    refine lv_iload_n hx hb dX4_laysWay_31 rfl (lv_at hl 0 rfl) ?_
    obtain ⟨v4, hv4, h⟩ := zbnd h
    refine zr_iast hx hb hK hP hD hS 3 0 rfl rfl hv4 dX4_laysWay_32 (fun H locs hP hD hS => ?_)
    have hP : va_P D vwCl [(a_this, .inr (4, [.int f_thrown, .ref a_s, .ref a_then, .ref a_past, .int f_saved, .ref a_text, .int f_length, .int f_counted, .int f_due, .ref a_met, .ref a_table, .ref a_ways, .ref a_waysOf, .ref a_into, .int v2.2.1, .int f_isTold, .int f_rests, .int f_leastRest, .int f_mostRest, .int f_isWheel, .int f_ended, .int f_spot, .ref a_orders, .int f_ordered, .int f_cureAmount, .int f_cureRelay, .int f_cureWhich, .long f_hash])), (a_met, .inl (cI, 301, .inl v2.2.2.1)), (a_table, .inl (cI, 1024, .inl v2.2.2.2.1)), (a_ways, .inl (cI, 2107, .inl v4)), (a_waysOf, .inl (cI, 301, .inl v2.2.2.2.2.1)), (a_into, .inl (cI, 301, .inl v2.2.2.2.2.2))] H := hP
    have hD : va_D A [(a_this, .inr (4, [.int f_thrown, .ref a_s, .ref a_then, .ref a_past, .int f_saved, .ref a_text, .int f_length, .int f_counted, .int f_due, .ref a_met, .ref a_table, .ref a_ways, .ref a_waysOf, .ref a_into, .int v2.2.1, .int f_isTold, .int f_rests, .int f_leastRest, .int f_mostRest, .int f_isWheel, .int f_ended, .int f_spot, .ref a_orders, .int f_ordered, .int f_cureAmount, .int f_cureRelay, .int f_cureWhich, .long f_hash])), (a_met, .inl (cI, 301, .inl v2.2.2.1)), (a_table, .inl (cI, 1024, .inl v2.2.2.2.1)), (a_ways, .inl (cI, 2107, .inl v4)), (a_waysOf, .inl (cI, 301, .inl v2.2.2.2.2.1)), (a_into, .inl (cI, 301, .inl v2.2.2.2.2.2))] := hD
    refine lv_aload_n hx hb dX4_laysWay_33 rfl (lv_at hl 1 rfl) ?_
    refine va_get (D := D) (ci := 4) (v := .ref a_waysOf) (C := RX4) (T := TX4) (N := 28) hx hb hts hinX4 hown hK hP 0 rfl rfl 12 (by decide) (hts (Cond.fieldLink RX4 32 "LadderRelaysModel" "waysOf" "[I") (List.mem_of_getElem? (i := 3) rfl)) (fun _ h9 => h9) rfl dX4_laysWay_34 ?_
    refine lv_iload_n hx hb dX4_laysWay_37 rfl (lv_at hl 2 rfl) ?_
    refine lv_dup2_11 hx hb dX4_laysWay_38 rfl rfl ?_
    obtain ⟨v5, hv5, h⟩ := zbnd h
    refine zr_iald hx hb hK hP 4 0 rfl rfl hv5 dX4_laysWay_39 ?_
    refine lv_iconst (v := (1 : Int32)) hx hb dX4_laysWay_40 (by decide) ?_
    refine lv_iadd hx hb dX4_laysWay_41 ?_
    obtain ⟨v6, hv6, h⟩ := zbnd h
    refine zr_iast hx hb hK hP hD hS 4 0 rfl rfl hv6 dX4_laysWay_42 (fun H locs hP hD hS => ?_)
    have hP : va_P D vwCl [(a_this, .inr (4, [.int f_thrown, .ref a_s, .ref a_then, .ref a_past, .int f_saved, .ref a_text, .int f_length, .int f_counted, .int f_due, .ref a_met, .ref a_table, .ref a_ways, .ref a_waysOf, .ref a_into, .int v2.2.1, .int f_isTold, .int f_rests, .int f_leastRest, .int f_mostRest, .int f_isWheel, .int f_ended, .int f_spot, .ref a_orders, .int f_ordered, .int f_cureAmount, .int f_cureRelay, .int f_cureWhich, .long f_hash])), (a_met, .inl (cI, 301, .inl v2.2.2.1)), (a_table, .inl (cI, 1024, .inl v2.2.2.2.1)), (a_ways, .inl (cI, 2107, .inl v4)), (a_waysOf, .inl (cI, 301, .inl v6)), (a_into, .inl (cI, 301, .inl v2.2.2.2.2.2))] H := hP
    have hD : va_D A [(a_this, .inr (4, [.int f_thrown, .ref a_s, .ref a_then, .ref a_past, .int f_saved, .ref a_text, .int f_length, .int f_counted, .int f_due, .ref a_met, .ref a_table, .ref a_ways, .ref a_waysOf, .ref a_into, .int v2.2.1, .int f_isTold, .int f_rests, .int f_leastRest, .int f_mostRest, .int f_isWheel, .int f_ended, .int f_spot, .ref a_orders, .int f_ordered, .int f_cureAmount, .int f_cureRelay, .int f_cureWhich, .long f_hash])), (a_met, .inl (cI, 301, .inl v2.2.2.1)), (a_table, .inl (cI, 1024, .inl v2.2.2.2.1)), (a_ways, .inl (cI, 2107, .inl v4)), (a_waysOf, .inl (cI, 301, .inl v6)), (a_into, .inl (cI, 301, .inl v2.2.2.2.2.2))] := hD
    refine lv_aload_n hx hb dX4_laysWay_43 rfl (lv_at hl 1 rfl) ?_
    refine va_get (D := D) (ci := 4) (v := .ref a_into) (C := RX4) (T := TX4) (N := 28) hx hb hts hinX4 hown hK hP 0 rfl rfl 13 (by decide) (hts (Cond.fieldLink RX4 35 "LadderRelaysModel" "into" "[I") (List.mem_of_getElem? (i := 4) rfl)) (fun _ h9 => h9) rfl dX4_laysWay_44 ?_
    refine lv_iload_n hx hb dX4_laysWay_47 rfl (lv_at hl 0 rfl) ?_
    refine lv_dup2_11 hx hb dX4_laysWay_48 rfl rfl ?_
    obtain ⟨v7, hv7, h⟩ := zbnd h
    refine zr_iald hx hb hK hP 5 0 rfl rfl hv7 dX4_laysWay_49 ?_
    refine lv_iconst (v := (1 : Int32)) hx hb dX4_laysWay_50 (by decide) ?_
    refine lv_iadd hx hb dX4_laysWay_51 ?_
    obtain ⟨v8, hv8, h⟩ := zbnd h
    refine zr_iast hx hb hK hP hD hS 5 0 rfl rfl hv8 dX4_laysWay_52 (fun H locs hP hD hS => ?_)
    have hP : va_P D vwCl [(a_this, .inr (4, [.int f_thrown, .ref a_s, .ref a_then, .ref a_past, .int f_saved, .ref a_text, .int f_length, .int f_counted, .int f_due, .ref a_met, .ref a_table, .ref a_ways, .ref a_waysOf, .ref a_into, .int v2.2.1, .int f_isTold, .int f_rests, .int f_leastRest, .int f_mostRest, .int f_isWheel, .int f_ended, .int f_spot, .ref a_orders, .int f_ordered, .int f_cureAmount, .int f_cureRelay, .int f_cureWhich, .long f_hash])), (a_met, .inl (cI, 301, .inl v2.2.2.1)), (a_table, .inl (cI, 1024, .inl v2.2.2.2.1)), (a_ways, .inl (cI, 2107, .inl v4)), (a_waysOf, .inl (cI, 301, .inl v6)), (a_into, .inl (cI, 301, .inl v8))] H := hP
    have hD : va_D A [(a_this, .inr (4, [.int f_thrown, .ref a_s, .ref a_then, .ref a_past, .int f_saved, .ref a_text, .int f_length, .int f_counted, .int f_due, .ref a_met, .ref a_table, .ref a_ways, .ref a_waysOf, .ref a_into, .int v2.2.1, .int f_isTold, .int f_rests, .int f_leastRest, .int f_mostRest, .int f_isWheel, .int f_ended, .int f_spot, .ref a_orders, .int f_ordered, .int f_cureAmount, .int f_cureRelay, .int f_cureWhich, .long f_hash])), (a_met, .inl (cI, 301, .inl v2.2.2.1)), (a_table, .inl (cI, 1024, .inl v2.2.2.2.1)), (a_ways, .inl (cI, 2107, .inl v4)), (a_waysOf, .inl (cI, 301, .inl v6)), (a_into, .inl (cI, 301, .inl v8))] := hD
    have hR := Option.some.inj h
    subst hR
    exact W.vret hx hb hr (fun t ht hW => ⟨⟨(), rfl, trivial, zhp ht hP⟩, hS.F ht⟩) hS.2.2 dX4_laysWay_53
def F_X4_laysWays_s_E100 (v4 : Int32 × Int32) (v7 : Int32) (v8 : Int32) (v9 : Int32) (v10 : Nat → Int32) (v11 : Nat → Int32) (v12 : Nat → Int32) (v13 : Nat → Int32) (v14 : Nat → Int32) : Option (Int32 × Int32 × Int32 × (Nat → Int32) × (Nat → Int32) × (Nat → Int32) × (Nat → Int32) × (Nat → Int32)) := some (v8, v4.2, v9, v10, v11, v12, v13, v14)
def F_X4_laysWays_s_L48 (fu : Nat) (p1 : Int32) (v4 : Int32 × Int32) (k48 : Int32 → Int32 → Int32 → (Nat → Int32) → (Nat → Int32) → (Nat → Int32) → (Nat → Int32) → (Nat → Int32) → Option (Int32 × Int32 × Int32 × (Nat → Int32) × (Nat → Int32) × (Nat → Int32) × (Nat → Int32) × (Nat → Int32))) (rec48 : Int32 → Int32 → Int32 → (Nat → Int32) → (Nat → Int32) → (Nat → Int32) → (Nat → Int32) → (Nat → Int32) → Option (Int32 × Int32 × Int32 × (Nat → Int32) × (Nat → Int32) × (Nat → Int32) × (Nat → Int32) × (Nat → Int32))) (v15 : Int32) (v16 : Int32) (v17 : Int32) (v18 : Nat → Int32) (v19 : Nat → Int32) (v20 : Nat → Int32) (v21 : Nat → Int32) (v22 : Nat → Int32) : Option (Int32 × Int32 × Int32 × (Nat → Int32) × (Nat → Int32) × (Nat → Int32) × (Nat → Int32) × (Nat → Int32)) := if (6 : Int32) ≤ v15 then k48 v15 v16 v17 v18 v19 v20 v21 v22 else (F_X4_ones fu v4.2).bind fun v24 => if v24 ≤ (1 : Int32) then k48 v15 v16 v17 v18 v19 v20 v21 v22 else if ((v4.2 >>> (v15 &&& (31 : Int32))) &&& (1 : Int32)) = (1 : Int32) then (F_X4_changed fu v4.1 ((1 : Int32) <<< (v15 &&& (31 : Int32)))).bind fun v27 => (F_X4_laysWay fu v17 v18 v19 v20 v21 v22 p1 v27).bind fun v28 => rec48 (v15 + (1 : Int32)) v4.1 v28.1 v28.2.1 v28.2.2.1 v28.2.2.2.1 v28.2.2.2.2.1 v28.2.2.2.2.2 else rec48 (v15 + (1 : Int32)) v4.1 v17 v18 v19 v20 v21 v22
def F_X4_laysWays_s (fu : Nat) (f_counted : Int32) (f_due : Int32) (f_meets : Int32) (f_s : Nat → Int32) (f_met : Nat → Int32) (f_table : Nat → Int32) (f_ways : Nat → Int32) (f_waysOf : Nat → Int32) (f_into : Nat → Int32) (p1 : Int32) : Option (Int32 × Int32 × Int32 × (Nat → Int32) × (Nat → Int32) × (Nat → Int32) × (Nat → Int32) × (Nat → Int32)) := (zrd f_met 301 p1).bind fun v1 => (F_X4_isQuiet fu f_s 88 v1).bind fun v2 => if v2 = (0 : Int32) then (F_X4_ticks_s fu f_counted f_due f_s v1).bind fun v4 => (F_X4_changed fu v4.1 v4.2).bind fun v5 => (F_X4_laysWay fu f_meets f_met f_table f_ways f_waysOf f_into p1 v5).bind fun v6 => zlp8 (F_X4_laysWays_s_L48 fu p1 v4 (F_X4_laysWays_s_E100 v4)) fu (0 : Int32) v4.1 v6.1 v6.2.1 v6.2.2.1 v6.2.2.2.1 v6.2.2.2.2.1 v6.2.2.2.2.2 else some (f_counted, f_due, f_meets, f_met, f_table, f_ways, f_waysOf, f_into)
set_option maxHeartbeats 4000000 in
set_option maxRecDepth 100000 in
theorem c_X4_laysWays_s (l : Launch) (D : va_G) (cI cC cO cJ : ClassId) (fu : Nat) (a_this a_s a_then a_past a_text a_met a_table a_ways a_waysOf a_into a_orders : Nat) (sz : Nat) (f_thrown : Int32) (f_saved : Int32) (f_length : Int32) (f_counted : Int32) (f_due : Int32) (f_meets : Int32) (f_isTold : Int32) (f_rests : Int32) (f_leastRest : Int32) (f_mostRest : Int32) (f_isWheel : Int32) (f_ended : Int32) (f_spot : Int32) (f_ordered : Int32) (f_cureAmount : Int32) (f_cureRelay : Int32) (f_cureWhich : Int32) (f_hash : Int64) (f_s : Nat → Int32) (f_met : Nat → Int32) (f_table : Nat → Int32) (f_ways : Nat → Int32) (f_waysOf : Nat → Int32) (f_into : Nat → Int32) (p1 : Int32) (R : Int32 × Int32 × Int32 × (Nat → Int32) × (Nat → Int32) × (Nat → Int32) × (Nat → Int32) × (Nat → Int32)) (h : F_X4_laysWays_s fu f_counted f_due f_meets f_s f_met f_table f_ways f_waysOf f_into p1 = some R) : Met l yX4_laysWays wsX4_laysWays ({ frames := 4, cells := 0, slots := 0, locals := 97 } : Room) (zPw D (ztys cI cC cO cJ) [(a_this, .inr (4, [.int f_thrown, .ref a_s, .ref a_then, .ref a_past, .int f_saved, .ref a_text, .int f_length, .int f_counted, .int f_due, .ref a_met, .ref a_table, .ref a_ways, .ref a_waysOf, .ref a_into, .int f_meets, .int f_isTold, .int f_rests, .int f_leastRest, .int f_mostRest, .int f_isWheel, .int f_ended, .int f_spot, .ref a_orders, .int f_ordered, .int f_cureAmount, .int f_cureRelay, .int f_cureWhich, .long f_hash])), (a_s, .inl (cI, 88, .inl f_s)), (a_met, .inl (cI, 301, .inl f_met)), (a_table, .inl (cI, 1024, .inl f_table)), (a_ways, .inl (cI, 2107, .inl f_ways)), (a_waysOf, .inl (cI, 301, .inl f_waysOf)), (a_into, .inl (cI, 301, .inl f_into))] sz [.ref a_this, .ref a_s, .int p1]) (zWv D [(a_this, .inr (4, [.int f_thrown, .ref a_s, .ref a_then, .ref a_past, .int f_saved, .ref a_text, .int f_length, .int R.1, .int R.2.1, .ref a_met, .ref a_table, .ref a_ways, .ref a_waysOf, .ref a_into, .int R.2.2.1, .int f_isTold, .int f_rests, .int f_leastRest, .int f_mostRest, .int f_isWheel, .int f_ended, .int f_spot, .ref a_orders, .int f_ordered, .int f_cureAmount, .int f_cureRelay, .int f_cureWhich, .long f_hash])), (a_s, .inl (cI, 88, .inl f_s)), (a_met, .inl (cI, 301, .inl R.2.2.2.1)), (a_table, .inl (cI, 1024, .inl R.2.2.2.2.1)), (a_ways, .inl (cI, 2107, .inl R.2.2.2.2.2.1)), (a_waysOf, .inl (cI, 301, .inl R.2.2.2.2.2.2.1)), (a_into, .inl (cI, 301, .inl R.2.2.2.2.2.2.2))] (va_A [(a_this, .inr (4, [.int f_thrown, .ref a_s, .ref a_then, .ref a_past, .int f_saved, .ref a_text, .int f_length, .int f_counted, .int f_due, .ref a_met, .ref a_table, .ref a_ways, .ref a_waysOf, .ref a_into, .int f_meets, .int f_isTold, .int f_rests, .int f_leastRest, .int f_mostRest, .int f_isWheel, .int f_ended, .int f_spot, .ref a_orders, .int f_ordered, .int f_cureAmount, .int f_cureRelay, .int f_cureWhich, .long f_hash])), (a_s, .inl (cI, 88, .inl f_s)), (a_met, .inl (cI, 301, .inl f_met)), (a_table, .inl (cI, 1024, .inl f_table)), (a_ways, .inl (cI, 2107, .inl f_ways)), (a_waysOf, .inl (cI, 301, .inl f_waysOf)), (a_into, .inl (cI, 301, .inl f_into))] sz)) 0 0 (va_A [(a_this, .inr (4, [.int f_thrown, .ref a_s, .ref a_then, .ref a_past, .int f_saved, .ref a_text, .int f_length, .int f_counted, .int f_due, .ref a_met, .ref a_table, .ref a_ways, .ref a_waysOf, .ref a_into, .int f_meets, .int f_isTold, .int f_rests, .int f_leastRest, .int f_mostRest, .int f_isWheel, .int f_ended, .int f_spot, .ref a_orders, .int f_ordered, .int f_cureAmount, .int f_cureRelay, .int f_cureWhich, .long f_hash])), (a_s, .inl (cI, 88, .inl f_s)), (a_met, .inl (cI, 301, .inl f_met)), (a_table, .inl (cI, 1024, .inl f_table)), (a_ways, .inl (cI, 2107, .inl f_ways)), (a_waysOf, .inl (cI, 301, .inl f_waysOf)), (a_into, .inl (cI, 301, .inl f_into))] sz) := by
  refine Met.ofW (cc := cX4_laysWays) (maxL := 7) (ret := none) (by decide) rfl ?_
  intro p e s m args below meth c s₁ B hml hv
  obtain ⟨rfl, hsz, hP, hK, hD0⟩ := hv
  have hx := B.exec
  have hb := B.bytes
  have hr := B.returns
  have hts := atoms_spec (ws := wsX4_laysWays) B.pre
  have hown : s.vm.findClass RX4 = some m.cls := findClass_of_methodNamed B.named
  have hlocks := B.notSynchronized
  have hinX4 : ∀ w ∈ wsX40, w ∈ wsX4_laysWays := fun _ h => (List.mem_cons_of_mem _ (List.mem_append_right _ h))
  subst hsz
  have hD := hD0.self (sz := s.heap.size)
  generalize hAe : va_A [(a_this, .inr (4, [.int f_thrown, .ref a_s, .ref a_then, .ref a_past, .int f_saved, .ref a_text, .int f_length, .int f_counted, .int f_due, .ref a_met, .ref a_table, .ref a_ways, .ref a_waysOf, .ref a_into, .int f_meets, .int f_isTold, .int f_rests, .int f_leastRest, .int f_mostRest, .int f_isWheel, .int f_ended, .int f_spot, .ref a_orders, .int f_ordered, .int f_cureAmount, .int f_cureRelay, .int f_cureWhich, .long f_hash])), (a_s, .inl (cI, 88, .inl f_s)), (a_met, .inl (cI, 301, .inl f_met)), (a_table, .inl (cI, 1024, .inl f_table)), (a_ways, .inl (cI, 2107, .inl f_ways)), (a_waysOf, .inl (cI, 301, .inl f_waysOf)), (a_into, .inl (cI, 301, .inl f_into))] s.heap.size = A at hD ⊢
  have hA : ∀ q : Nat, s.heap.size ≤ q → A q := fun q h => by rw [← hAe]; exact Or.inr h
  have hS : va_S A s.heap s.heap [] := va_S.rf
  have hP : va_P D vwCl [(a_this, .inr (4, [.int f_thrown, .ref a_s, .ref a_then, .ref a_past, .int f_saved, .ref a_text, .int f_length, .int f_counted, .int f_due, .ref a_met, .ref a_table, .ref a_ways, .ref a_waysOf, .ref a_into, .int f_meets, .int f_isTold, .int f_rests, .int f_leastRest, .int f_mostRest, .int f_isWheel, .int f_ended, .int f_spot, .ref a_orders, .int f_ordered, .int f_cureAmount, .int f_cureRelay, .int f_cureWhich, .long f_hash])), (a_s, .inl (cI, 88, .inl f_s)), (a_met, .inl (cI, 301, .inl f_met)), (a_table, .inl (cI, 1024, .inl f_table)), (a_ways, .inl (cI, 2107, .inl f_ways)), (a_waysOf, .inl (cI, 301, .inl f_waysOf)), (a_into, .inl (cI, 301, .inl f_into))] s.heap := hP
  have hK : va_K D vwCl (ztys cI cC cO cJ) s := hK
  have hl := lv_entry ([.ref a_this, .ref a_s, .int p1]) (n := 7) (Nat.le_of_ble_eq_true rfl)
  rw [lg_entry_eq]
  generalize (lg_sl ([.ref a_this, .ref a_s, .int p1]) ++ List.replicate (7 - (lg_sl ([.ref a_this, .ref a_s, .int p1])).length) Slot.unset).toArray = ls at hl ⊢
  have hl : lv_has ls 7 [(0, .ref a_this), (1, .ref a_s), (2, .int p1)] := hl
  unfold F_X4_laysWays_s at h
  refine lv_aload_n hx hb dX4_laysWays_0 rfl (lv_at hl 0 rfl) ?_
  refine va_get (D := D) (ci := 4) (v := .ref a_met) (C := RX4) (T := TX4) (N := 28) hx hb hts hinX4 hown hK hP 0 rfl rfl 9 (by decide) (hts (Cond.fieldLink RX4 23 "LadderRelaysModel" "met" "[I") (List.mem_of_getElem? (i := 1) rfl)) (fun _ h9 => h9) rfl dX4_laysWays_1 ?_
  refine lv_iload_n hx hb dX4_laysWays_4 rfl (lv_at hl 2 rfl) ?_
  obtain ⟨v1, hv1, h⟩ := zbnd h
  refine zr_iald hx hb hK hP 2 0 rfl rfl hv1 dX4_laysWays_5 ?_
  refine lv_istore_n (lv' := [(3, .int v1), (0, .ref a_this), (1, .ref a_s), (2, .int p1)]) hx hb dX4_laysWays_6 rfl hl (by decide) rfl (fun ls hl => ?_)
  refine lv_aload_n hx hb dX4_laysWays_7 rfl (lv_at hl 2 rfl) ?_
  refine lv_iload_n hx hb dX4_laysWays_8 rfl (lv_at hl 0 rfl) ?_
  obtain ⟨v2, hv2, h⟩ := zbnd h
  have hPc := hP.sub (ws' := [(a_s, .inl (cI, 88, .inl f_s))]) [1] rfl
  refine zc_i (W.runS (As := [.ref a_s, .int v1]) (rest := []) ⟨hx, hb, hml, hown, hts⟩ (c_X4_isQuiet l D cI cC cO cJ fu a_s f_s 88 v1 v2 hv2) (va_cwS 2 hts gX4_laysWays_X4_isQuiet rfl rfl rfl (by decide +kernel) ⟨Nat.le_of_ble_eq_true rfl, Nat.le_of_ble_eq_true rfl⟩) (zPr_S hK hPc) rfl rfl hl.1 rfl (lv_room (Nat.le_of_ble_eq_true rfl)) dX4_laysWays_9 ⟨Nat.zero_le _, Nat.zero_le _⟩) ?_
  refine lv_if_eq (tgt := 16) hx hb dX4_laysWays_12 (by decide) (fun c3 => ?_) (fun c3 => ?_)
  · have h := zif_t c3 h
    refine lv_aload_n hx hb dX4_laysWays_16 rfl (lv_at hl 1 rfl) ?_
    refine lv_aload_n hx hb dX4_laysWays_17 rfl (lv_at hl 2 rfl) ?_
    refine lv_iload_n hx hb dX4_laysWays_18 rfl (lv_at hl 0 rfl) ?_
    obtain ⟨v4, hv4, h⟩ := zbnd h
    have hPc := hP.sub (ws' := [(a_this, .inr (4, [.int f_thrown, .ref a_s, .ref a_then, .ref a_past, .int f_saved, .ref a_text, .int f_length, .int f_counted, .int f_due, .ref a_met, .ref a_table, .ref a_ways, .ref a_waysOf, .ref a_into, .int f_meets, .int f_isTold, .int f_rests, .int f_leastRest, .int f_mostRest, .int f_isWheel, .int f_ended, .int f_spot, .ref a_orders, .int f_ordered, .int f_cureAmount, .int f_cureRelay, .int f_cureWhich, .long f_hash])), (a_s, .inl (cI, 88, .inl f_s))]) [0, 1] rfl
    have hDc := hD.sub (ws' := [(a_this, .inr (4, [.int f_thrown, .ref a_s, .ref a_then, .ref a_past, .int f_saved, .ref a_text, .int f_length, .int f_counted, .int f_due, .ref a_met, .ref a_table, .ref a_ways, .ref a_waysOf, .ref a_into, .int f_meets, .int f_isTold, .int f_rests, .int f_leastRest, .int f_mostRest, .int f_isWheel, .int f_ended, .int f_spot, .ref a_orders, .int f_ordered, .int f_cureAmount, .int f_cureRelay, .int f_cureWhich, .long f_hash])), (a_s, .inl (cI, 88, .inl f_s))]) [0, 1] (by decide) rfl
    have hFc := va_free (wc := [(a_this, .inr (4, [.int f_thrown, .ref a_s, .ref a_then, .ref a_past, .int f_saved, .ref a_text, .int f_length, .int f_counted, .int f_due, .ref a_met, .ref a_table, .ref a_ways, .ref a_waysOf, .ref a_into, .int f_meets, .int f_isTold, .int f_rests, .int f_leastRest, .int f_mostRest, .int f_isWheel, .int f_ended, .int f_spot, .ref a_orders, .int f_ordered, .int f_cureAmount, .int f_cureRelay, .int f_cureWhich, .long f_hash])), (a_s, .inl (cI, 88, .inl f_s))]) hD hS hA [0, 1] rfl
    refine zc_wv (va_runV (C := RX4) (As := [.ref a_s, .int v1]) (rest := []) ⟨hx, hb, hml, hown, hts⟩ (c_X4_ticks_s l D cI cC cO cJ fu a_this a_s a_then a_past a_text a_met a_table a_ways a_waysOf a_into a_orders _ f_thrown f_saved f_length f_counted f_due f_meets f_isTold f_rests f_leastRest f_mostRest f_isWheel f_ended f_spot f_ordered f_cureAmount f_cureRelay f_cureWhich f_hash f_s v1 v4 hv4) (cwV 2 hts gX4_laysWays_X4_ticks rfl rfl rfl (by decide +kernel) ⟨Nat.le_of_ble_eq_true rfl, Nat.le_of_ble_eq_true rfl⟩) ⟨zPw_blind, (va_recv hK hP (q0 := 0) (ci := 4) rfl rfl), zPw_pre hK hPc hDc⟩ rfl rfl hl.1 rfl (lv_room (Nat.le_of_ble_eq_true rfl)) dX4_laysWays_19 ⟨Nat.zero_le _, Nat.zero_le _⟩) hS hFc (fun H locs hk1 hP1 hS => ?_)
    obtain ⟨hP, hD⟩ := zjn (ws' := [(a_this, .inr (4, [.int f_thrown, .ref a_s, .ref a_then, .ref a_past, .int f_saved, .ref a_text, .int f_length, .int v4.1, .int v4.2, .ref a_met, .ref a_table, .ref a_ways, .ref a_waysOf, .ref a_into, .int f_meets, .int f_isTold, .int f_rests, .int f_leastRest, .int f_mostRest, .int f_isWheel, .int f_ended, .int f_spot, .ref a_orders, .int f_ordered, .int f_cureAmount, .int f_cureRelay, .int f_cureWhich, .long f_hash])), (a_s, .inl (cI, 88, .inl f_s)), (a_met, .inl (cI, 301, .inl f_met)), (a_table, .inl (cI, 1024, .inl f_table)), (a_ways, .inl (cI, 2107, .inl f_ways)), (a_waysOf, .inl (cI, 301, .inl f_waysOf)), (a_into, .inl (cI, 301, .inl f_into))]) hP hD [0, 1] [.inr 0, .inr 1, .inl 2, .inl 3, .inl 4, .inl 5, .inl 6] rfl rfl rfl hk1 hP1
    refine lv_aload_n hx hb dX4_laysWays_22 rfl (lv_at hl 1 rfl) ?_
    refine va_get (D := D) (ci := 4) (v := .int v4.2) (C := RX4) (T := TX4) (N := 28) hx hb hts hinX4 hown hK hP 0 rfl rfl 8 (by decide) (hts (Cond.fieldLink RX4 75 "LadderRelaysModel" "due" "I") (List.mem_of_getElem? (i := 2) rfl)) (fun _ h9 => h9) rfl dX4_laysWays_23 ?_
    refine lv_istore (lv' := [(4, .int v4.2), (3, .int v1), (0, .ref a_this), (1, .ref a_s), (2, .int p1)]) hx hb dX4_laysWays_26 hl (by decide) rfl (fun ls hl => ?_)
    refine lv_aload_n hx hb dX4_laysWays_28 rfl (lv_at hl 2 rfl) ?_
    refine va_get (D := D) (ci := 4) (v := .int v4.1) (C := RX4) (T := TX4) (N := 28) hx hb hts hinX4 hown hK hP 0 rfl rfl 7 (by decide) (hts (Cond.fieldLink RX4 72 "LadderRelaysModel" "counted" "I") (List.mem_of_getElem? (i := 3) rfl)) (fun _ h9 => h9) rfl dX4_laysWays_29 ?_
    refine lv_istore (lv' := [(5, .int v4.1), (4, .int v4.2), (3, .int v1), (0, .ref a_this), (1, .ref a_s), (2, .int p1)]) hx hb dX4_laysWays_32 hl (by decide) rfl (fun ls hl => ?_)
    refine lv_aload_n hx hb dX4_laysWays_34 rfl (lv_at hl 3 rfl) ?_
    refine lv_iload_n hx hb dX4_laysWays_35 rfl (lv_at hl 5 rfl) ?_
    refine lv_aload_n hx hb dX4_laysWays_36 rfl (lv_at hl 3 rfl) ?_
    refine lv_iload hx hb dX4_laysWays_37 (lv_at hl 1 rfl) ?_
    obtain ⟨v5, hv5, h⟩ := zbnd h
    have hPc := hP.sub (ws' := [(a_this, .inr (4, [.int f_thrown, .ref a_s, .ref a_then, .ref a_past, .int f_saved, .ref a_text, .int f_length, .int v4.1, .int v4.2, .ref a_met, .ref a_table, .ref a_ways, .ref a_waysOf, .ref a_into, .int f_meets, .int f_isTold, .int f_rests, .int f_leastRest, .int f_mostRest, .int f_isWheel, .int f_ended, .int f_spot, .ref a_orders, .int f_ordered, .int f_cureAmount, .int f_cureRelay, .int f_cureWhich, .long f_hash]))]) [0] rfl
    refine zc_i (W.runV (C := RX4) (As := [.int v4.2]) (rest := [.int p1, .ref a_this]) ⟨hx, hb, hml, hown, hts⟩ (c_X4_changed l D cI cC cO cJ fu a_this a_s a_then a_past a_text a_met a_table a_ways a_waysOf a_into a_orders f_thrown f_saved f_length v4.1 v4.2 f_meets f_isTold f_rests f_leastRest f_mostRest f_isWheel f_ended f_spot f_ordered f_cureAmount f_cureRelay f_cureWhich f_hash v4.2 v5 hv5) (cwV 1 hts gX4_laysWays_X4_changed rfl rfl rfl (by decide +kernel) ⟨Nat.le_of_ble_eq_true rfl, Nat.le_of_ble_eq_true rfl⟩) ⟨zPr_blind, (va_recv hK hP (q0 := 0) (ci := 4) rfl rfl), zPr_pre hK hPc⟩ rfl rfl hl.1 rfl (lv_room (Nat.le_of_ble_eq_true rfl)) dX4_laysWays_39 ⟨Nat.zero_le _, Nat.zero_le _⟩) ?_
    obtain ⟨v6, hv6, h⟩ := zbnd h
    have hPc := hP.sub (ws' := [(a_this, .inr (4, [.int f_thrown, .ref a_s, .ref a_then, .ref a_past, .int f_saved, .ref a_text, .int f_length, .int v4.1, .int v4.2, .ref a_met, .ref a_table, .ref a_ways, .ref a_waysOf, .ref a_into, .int f_meets, .int f_isTold, .int f_rests, .int f_leastRest, .int f_mostRest, .int f_isWheel, .int f_ended, .int f_spot, .ref a_orders, .int f_ordered, .int f_cureAmount, .int f_cureRelay, .int f_cureWhich, .long f_hash])), (a_met, .inl (cI, 301, .inl f_met)), (a_table, .inl (cI, 1024, .inl f_table)), (a_ways, .inl (cI, 2107, .inl f_ways)), (a_waysOf, .inl (cI, 301, .inl f_waysOf)), (a_into, .inl (cI, 301, .inl f_into))]) [0, 2, 3, 4, 5, 6] rfl
    have hDc := hD.sub (ws' := [(a_this, .inr (4, [.int f_thrown, .ref a_s, .ref a_then, .ref a_past, .int f_saved, .ref a_text, .int f_length, .int v4.1, .int v4.2, .ref a_met, .ref a_table, .ref a_ways, .ref a_waysOf, .ref a_into, .int f_meets, .int f_isTold, .int f_rests, .int f_leastRest, .int f_mostRest, .int f_isWheel, .int f_ended, .int f_spot, .ref a_orders, .int f_ordered, .int f_cureAmount, .int f_cureRelay, .int f_cureWhich, .long f_hash])), (a_met, .inl (cI, 301, .inl f_met)), (a_table, .inl (cI, 1024, .inl f_table)), (a_ways, .inl (cI, 2107, .inl f_ways)), (a_waysOf, .inl (cI, 301, .inl f_waysOf)), (a_into, .inl (cI, 301, .inl f_into))]) [0, 2, 3, 4, 5, 6] (by decide) rfl
    have hFc := va_free (wc := [(a_this, .inr (4, [.int f_thrown, .ref a_s, .ref a_then, .ref a_past, .int f_saved, .ref a_text, .int f_length, .int v4.1, .int v4.2, .ref a_met, .ref a_table, .ref a_ways, .ref a_waysOf, .ref a_into, .int f_meets, .int f_isTold, .int f_rests, .int f_leastRest, .int f_mostRest, .int f_isWheel, .int f_ended, .int f_spot, .ref a_orders, .int f_ordered, .int f_cureAmount, .int f_cureRelay, .int f_cureWhich, .long f_hash])), (a_met, .inl (cI, 301, .inl f_met)), (a_table, .inl (cI, 1024, .inl f_table)), (a_ways, .inl (cI, 2107, .inl f_ways)), (a_waysOf, .inl (cI, 301, .inl f_waysOf)), (a_into, .inl (cI, 301, .inl f_into))]) hD hS hA [0, 2, 3, 4, 5, 6] rfl
    refine zc_wv (va_runV (C := RX4) (As := [.int p1, .int v5]) (rest := []) ⟨hx, hb, hml, hown, hts⟩ (c_X4_laysWay l D cI cC cO cJ fu a_this a_s a_then a_past a_text a_met a_table a_ways a_waysOf a_into a_orders _ f_thrown f_saved f_length v4.1 v4.2 f_meets f_isTold f_rests f_leastRest f_mostRest f_isWheel f_ended f_spot f_ordered f_cureAmount f_cureRelay f_cureWhich f_hash f_met f_table f_ways f_waysOf f_into p1 v5 v6 hv6) (cwV 2 hts gX4_laysWays_X4_laysWay rfl rfl rfl (by decide +kernel) ⟨Nat.le_of_ble_eq_true rfl, Nat.le_of_ble_eq_true rfl⟩) ⟨zPw_blind, (va_recv hK hP (q0 := 0) (ci := 4) rfl rfl), zPw_pre hK hPc hDc⟩ rfl rfl hl.1 rfl (lv_room (Nat.le_of_ble_eq_true rfl)) dX4_laysWays_42 ⟨Nat.zero_le _, Nat.zero_le _⟩) hS hFc (fun H locs hk1 hP1 hS => ?_)
    obtain ⟨hP, hD⟩ := zjn (ws' := [(a_this, .inr (4, [.int f_thrown, .ref a_s, .ref a_then, .ref a_past, .int f_saved, .ref a_text, .int f_length, .int v4.1, .int v4.2, .ref a_met, .ref a_table, .ref a_ways, .ref a_waysOf, .ref a_into, .int v6.1, .int f_isTold, .int f_rests, .int f_leastRest, .int f_mostRest, .int f_isWheel, .int f_ended, .int f_spot, .ref a_orders, .int f_ordered, .int f_cureAmount, .int f_cureRelay, .int f_cureWhich, .long f_hash])), (a_s, .inl (cI, 88, .inl f_s)), (a_met, .inl (cI, 301, .inl v6.2.1)), (a_table, .inl (cI, 1024, .inl v6.2.2.1)), (a_ways, .inl (cI, 2107, .inl v6.2.2.2.1)), (a_waysOf, .inl (cI, 301, .inl v6.2.2.2.2.1)), (a_into, .inl (cI, 301, .inl v6.2.2.2.2.2))]) hP hD [0, 2, 3, 4, 5, 6] [.inr 0, .inl 1, .inr 1, .inr 2, .inr 3, .inr 4, .inr 5] rfl rfl rfl hk1 hP1
    refine lv_iconst (v := (0 : Int32)) hx hb dX4_laysWays_45 (by decide) ?_
    refine lv_istore (lv' := [(6, .int (0 : Int32)), (5, .int v4.1), (4, .int v4.2), (3, .int v1), (0, .ref a_this), (1, .ref a_s), (2, .int p1)]) hx hb dX4_laysWays_46 hl (by decide) rfl (fun ls hl => ?_)
    have E100 : ∀ (v7 : Int32) (v8 : Int32) (v9 : Int32) (v10 : Nat → Int32) (v11 : Nat → Int32) (v12 : Nat → Int32) (v13 : Nat → Int32) (v14 : Nat → Int32), F_X4_laysWays_s_E100 v4 v7 v8 v9 v10 v11 v12 v13 v14 = some R → ∀ (H : Heap) (locs : List Loc), va_P D vwCl [(a_this, .inr (4, [.int f_thrown, .ref a_s, .ref a_then, .ref a_past, .int f_saved, .ref a_text, .int f_length, .int v8, .int v4.2, .ref a_met, .ref a_table, .ref a_ways, .ref a_waysOf, .ref a_into, .int v9, .int f_isTold, .int f_rests, .int f_leastRest, .int f_mostRest, .int f_isWheel, .int f_ended, .int f_spot, .ref a_orders, .int f_ordered, .int f_cureAmount, .int f_cureRelay, .int f_cureWhich, .long f_hash])), (a_s, .inl (cI, 88, .inl f_s)), (a_met, .inl (cI, 301, .inl v10)), (a_table, .inl (cI, 1024, .inl v11)), (a_ways, .inl (cI, 2107, .inl v12)), (a_waysOf, .inl (cI, 301, .inl v13)), (a_into, .inl (cI, 301, .inl v14))] H → va_D A [(a_this, .inr (4, [.int f_thrown, .ref a_s, .ref a_then, .ref a_past, .int f_saved, .ref a_text, .int f_length, .int v8, .int v4.2, .ref a_met, .ref a_table, .ref a_ways, .ref a_waysOf, .ref a_into, .int v9, .int f_isTold, .int f_rests, .int f_leastRest, .int f_mostRest, .int f_isWheel, .int f_ended, .int f_spot, .ref a_orders, .int f_ordered, .int f_cureAmount, .int f_cureRelay, .int f_cureWhich, .long f_hash])), (a_s, .inl (cI, 88, .inl f_s)), (a_met, .inl (cI, 301, .inl v10)), (a_table, .inl (cI, 1024, .inl v11)), (a_ways, .inl (cI, 2107, .inl v12)), (a_waysOf, .inl (cI, 301, .inl v13)), (a_into, .inl (cI, 301, .inl v14))] → va_S A s.heap H locs → ∀ ls : Array Slot, lv_has ls 7 [(0, .ref a_this), (1, .ref a_s), (2, .int p1), (3, .int v1), (4, .int v4.2), (5, .int v4.1), (6, .int v7)] → W p l e ({ frames := 4, cells := 0, slots := 0, locals := 97 } : Room) s m (([.ref a_this, .ref a_s, .int p1] : List Value).toArray) below meth c H locs 0 0 (MQ below (zWv D [(a_this, .inr (4, [.int f_thrown, .ref a_s, .ref a_then, .ref a_past, .int f_saved, .ref a_text, .int f_length, .int R.1, .int R.2.1, .ref a_met, .ref a_table, .ref a_ways, .ref a_waysOf, .ref a_into, .int R.2.2.1, .int f_isTold, .int f_rests, .int f_leastRest, .int f_mostRest, .int f_isWheel, .int f_ended, .int f_spot, .ref a_orders, .int f_ordered, .int f_cureAmount, .int f_cureRelay, .int f_cureWhich, .long f_hash])), (a_s, .inl (cI, 88, .inl f_s)), (a_met, .inl (cI, 301, .inl R.2.2.2.1)), (a_table, .inl (cI, 1024, .inl R.2.2.2.2.1)), (a_ways, .inl (cI, 2107, .inl R.2.2.2.2.2.1)), (a_waysOf, .inl (cI, 301, .inl R.2.2.2.2.2.2.1)), (a_into, .inl (cI, 301, .inl R.2.2.2.2.2.2.2))] A) (([.ref a_this, .ref a_s, .int p1] : List Value).toArray) s 0 0 A) (F0 m 100 ls []) := by
      intro v7 v8 v9 v10 v11 v12 v13 v14 h H locs hP hD hS ls hl
      unfold F_X4_laysWays_s_E100 at h
      have hR := Option.some.inj h
      subst hR
      exact W.vret hx hb hr (fun t ht hW => ⟨⟨(), rfl, trivial, zhp ht hP⟩, hS.F ht⟩) hS.2.2 dX4_laysWays_100
    refine zlp_i8 (R := R) (P := fun (v15 : Int32) (v16 : Int32) (v17 : Int32) (v18 : Nat → Int32) (v19 : Nat → Int32) (v20 : Nat → Int32) (v21 : Nat → Int32) (v22 : Nat → Int32) => ∀ (H : Heap) (locs : List Loc), va_P D vwCl [(a_this, .inr (4, [.int f_thrown, .ref a_s, .ref a_then, .ref a_past, .int f_saved, .ref a_text, .int f_length, .int v16, .int v4.2, .ref a_met, .ref a_table, .ref a_ways, .ref a_waysOf, .ref a_into, .int v17, .int f_isTold, .int f_rests, .int f_leastRest, .int f_mostRest, .int f_isWheel, .int f_ended, .int f_spot, .ref a_orders, .int f_ordered, .int f_cureAmount, .int f_cureRelay, .int f_cureWhich, .long f_hash])), (a_s, .inl (cI, 88, .inl f_s)), (a_met, .inl (cI, 301, .inl v18)), (a_table, .inl (cI, 1024, .inl v19)), (a_ways, .inl (cI, 2107, .inl v20)), (a_waysOf, .inl (cI, 301, .inl v21)), (a_into, .inl (cI, 301, .inl v22))] H → va_D A [(a_this, .inr (4, [.int f_thrown, .ref a_s, .ref a_then, .ref a_past, .int f_saved, .ref a_text, .int f_length, .int v16, .int v4.2, .ref a_met, .ref a_table, .ref a_ways, .ref a_waysOf, .ref a_into, .int v17, .int f_isTold, .int f_rests, .int f_leastRest, .int f_mostRest, .int f_isWheel, .int f_ended, .int f_spot, .ref a_orders, .int f_ordered, .int f_cureAmount, .int f_cureRelay, .int f_cureWhich, .long f_hash])), (a_s, .inl (cI, 88, .inl f_s)), (a_met, .inl (cI, 301, .inl v18)), (a_table, .inl (cI, 1024, .inl v19)), (a_ways, .inl (cI, 2107, .inl v20)), (a_waysOf, .inl (cI, 301, .inl v21)), (a_into, .inl (cI, 301, .inl v22))] → va_S A s.heap H locs → ∀ ls : Array Slot, lv_has ls 7 [(0, .ref a_this), (1, .ref a_s), (2, .int p1), (3, .int v1), (4, .int v4.2), (5, .int v4.1), (6, .int v15)] → W p l e ({ frames := 4, cells := 0, slots := 0, locals := 97 } : Room) s m (([.ref a_this, .ref a_s, .int p1] : List Value).toArray) below meth c H locs 0 0 (MQ below (zWv D [(a_this, .inr (4, [.int f_thrown, .ref a_s, .ref a_then, .ref a_past, .int f_saved, .ref a_text, .int f_length, .int R.1, .int R.2.1, .ref a_met, .ref a_table, .ref a_ways, .ref a_waysOf, .ref a_into, .int R.2.2.1, .int f_isTold, .int f_rests, .int f_leastRest, .int f_mostRest, .int f_isWheel, .int f_ended, .int f_spot, .ref a_orders, .int f_ordered, .int f_cureAmount, .int f_cureRelay, .int f_cureWhich, .long f_hash])), (a_s, .inl (cI, 88, .inl f_s)), (a_met, .inl (cI, 301, .inl R.2.2.2.1)), (a_table, .inl (cI, 1024, .inl R.2.2.2.2.1)), (a_ways, .inl (cI, 2107, .inl R.2.2.2.2.2.1)), (a_waysOf, .inl (cI, 301, .inl R.2.2.2.2.2.2.1)), (a_into, .inl (cI, 301, .inl R.2.2.2.2.2.2.2))] A) (([.ref a_this, .ref a_s, .int p1] : List Value).toArray) s 0 0 A) (F0 m 48 ls [])) (fun rec48 ih48 v15 v16 v17 v18 v19 v20 v21 v22 h => ?_) fu (0 : Int32) v4.1 v6.1 v6.2.1 v6.2.2.1 v6.2.2.2.1 v6.2.2.2.2.1 v6.2.2.2.2.2 h _ _ hP hD hS ls (lv_sub hl [4, 5, 6, 3, 2, 1, 0] rfl)
    intro H locs hP hD hS ls hl
    unfold F_X4_laysWays_s_L48 at h
    refine lv_iload hx hb dX4_laysWays_48 (lv_at hl 6 rfl) ?_
    refine lv_bipush (v := (6 : Int32)) hx hb dX4_laysWays_50 (by decide) ?_
    refine lv_icmp_ge (tgt := 100) hx hb dX4_laysWays_52 (by decide) (fun c23 => ?_) (fun c23 => ?_)
    · have h := zif_t c23 h
      exact E100 v15 v16 v17 v18 v19 v20 v21 v22 h _ _ hP hD hS ls (lv_sub hl [0, 1, 2, 3, 4, 5, 6] rfl)
    · have h := zif_f c23 h
      refine lv_iload hx hb dX4_laysWays_55 (lv_at hl 4 rfl) ?_
      obtain ⟨v24, hv24, h⟩ := zbnd h
      refine zc_i (W.runS (As := [.int v4.2]) (rest := []) ⟨hx, hb, hml, hown, hts⟩ (c_X4_ones l D cI cC cO cJ fu v4.2 v24 hv24) (va_cwS 1 hts gX4_laysWays_X4_ones rfl rfl rfl (by decide +kernel) ⟨Nat.le_of_ble_eq_true rfl, Nat.le_of_ble_eq_true rfl⟩) (zPr_S hK zP_nil) rfl rfl hl.1 rfl (lv_room (Nat.le_of_ble_eq_true rfl)) dX4_laysWays_57 ⟨Nat.zero_le _, Nat.zero_le _⟩) ?_
      refine lv_iconst (v := (1 : Int32)) hx hb dX4_laysWays_60 (by decide) ?_
      refine lv_icmp_le (tgt := 100) hx hb dX4_laysWays_61 (by decide) (fun c25 => ?_) (fun c25 => ?_)
      · have h := zif_t c25 h
        exact E100 v15 v16 v17 v18 v19 v20 v21 v22 h _ _ hP hD hS ls (lv_sub hl [0, 1, 2, 3, 4, 5, 6] rfl)
      · have h := zif_f c25 h
        refine lv_aload_n hx hb dX4_laysWays_64 rfl (lv_at hl 0 rfl) ?_
        refine lv_iload hx hb dX4_laysWays_65 (lv_at hl 5 rfl) ?_
        refine va_put (D := D) (ci := 4) (v := .int v4.1) (ty := .int) (C := RX4) (T := TX4) (N := 28) hx hb hts hinX4 tyX4 tyX4_ok nmX4 hown hK hP hD hS 0 rfl rfl 7 (by decide) (hts (Cond.fieldLink RX4 72 "LadderRelaysModel" "counted" "I") (List.mem_of_getElem? (i := 3) rfl)) (fun _ h9 => h9) rfl (by decide +kernel) rfl rfl (Nat.le_of_ble_eq_true rfl) dX4_laysWays_67 (fun H locs hP hD hS => ?_)
        have hP : va_P D vwCl [(a_this, .inr (4, [.int f_thrown, .ref a_s, .ref a_then, .ref a_past, .int f_saved, .ref a_text, .int f_length, .int v4.1, .int v4.2, .ref a_met, .ref a_table, .ref a_ways, .ref a_waysOf, .ref a_into, .int v17, .int f_isTold, .int f_rests, .int f_leastRest, .int f_mostRest, .int f_isWheel, .int f_ended, .int f_spot, .ref a_orders, .int f_ordered, .int f_cureAmount, .int f_cureRelay, .int f_cureWhich, .long f_hash])), (a_s, .inl (cI, 88, .inl f_s)), (a_met, .inl (cI, 301, .inl v18)), (a_table, .inl (cI, 1024, .inl v19)), (a_ways, .inl (cI, 2107, .inl v20)), (a_waysOf, .inl (cI, 301, .inl v21)), (a_into, .inl (cI, 301, .inl v22))] H := hP
        have hD : va_D A [(a_this, .inr (4, [.int f_thrown, .ref a_s, .ref a_then, .ref a_past, .int f_saved, .ref a_text, .int f_length, .int v4.1, .int v4.2, .ref a_met, .ref a_table, .ref a_ways, .ref a_waysOf, .ref a_into, .int v17, .int f_isTold, .int f_rests, .int f_leastRest, .int f_mostRest, .int f_isWheel, .int f_ended, .int f_spot, .ref a_orders, .int f_ordered, .int f_cureAmount, .int f_cureRelay, .int f_cureWhich, .long f_hash])), (a_s, .inl (cI, 88, .inl f_s)), (a_met, .inl (cI, 301, .inl v18)), (a_table, .inl (cI, 1024, .inl v19)), (a_ways, .inl (cI, 2107, .inl v20)), (a_waysOf, .inl (cI, 301, .inl v21)), (a_into, .inl (cI, 301, .inl v22))] := hD
        refine lv_iload hx hb dX4_laysWays_70 (lv_at hl 4 rfl) ?_
        refine lv_iload hx hb dX4_laysWays_72 (lv_at hl 6 rfl) ?_
        refine lv_ishr hx hb dX4_laysWays_74 ?_
        refine lv_iconst (v := (1 : Int32)) hx hb dX4_laysWays_75 (by decide) ?_
        refine lv_iand hx hb dX4_laysWays_76 ?_
        refine lv_iconst (v := (1 : Int32)) hx hb dX4_laysWays_77 (by decide) ?_
        refine lv_icmp_ne (tgt := 94) hx hb dX4_laysWays_78 (by decide) (fun c26 => ?_) (fun c26 => ?_)
        · have h := zif_f c26 h
          refine lv_iinc (v := (v15 + (1 : Int32))) (lv' := [(6, .int (v15 + (1 : Int32))), (0, .ref a_this), (1, .ref a_s), (2, .int p1), (3, .int v1), (4, .int v4.2), (5, .int v4.1)]) hx hb dX4_laysWays_94 hl (k := 6) rfl rfl (by decide) rfl (fun ls hl => ?_)
          refine lv_goto (tgt := 48) hx hb dX4_laysWays_97 (by decide) ?_
          exact ih48 (v15 + (1 : Int32)) v4.1 v17 v18 v19 v20 v21 v22 h _ _ hP hD hS ls (lv_sub hl [1, 2, 3, 4, 5, 6, 0] rfl)
        · have h := zif_t c26 h
          refine lv_aload_n hx hb dX4_laysWays_81 rfl (lv_at hl 0 rfl) ?_
          refine lv_iload_n hx hb dX4_laysWays_82 rfl (lv_at hl 2 rfl) ?_
          refine lv_aload_n hx hb dX4_laysWays_83 rfl (lv_at hl 0 rfl) ?_
          refine lv_iconst (v := (1 : Int32)) hx hb dX4_laysWays_84 (by decide) ?_
          refine lv_iload hx hb dX4_laysWays_85 (lv_at hl 6 rfl) ?_
          refine lv_ishl hx hb dX4_laysWays_87 ?_
          obtain ⟨v27, hv27, h⟩ := zbnd h
          have hPc := hP.sub (ws' := [(a_this, .inr (4, [.int f_thrown, .ref a_s, .ref a_then, .ref a_past, .int f_saved, .ref a_text, .int f_length, .int v4.1, .int v4.2, .ref a_met, .ref a_table, .ref a_ways, .ref a_waysOf, .ref a_into, .int v17, .int f_isTold, .int f_rests, .int f_leastRest, .int f_mostRest, .int f_isWheel, .int f_ended, .int f_spot, .ref a_orders, .int f_ordered, .int f_cureAmount, .int f_cureRelay, .int f_cureWhich, .long f_hash]))]) [0] rfl
          refine zc_i (W.runV (C := RX4) (As := [.int ((1 : Int32) <<< (v15 &&& (31 : Int32)))]) (rest := [.int p1, .ref a_this]) ⟨hx, hb, hml, hown, hts⟩ (c_X4_changed l D cI cC cO cJ fu a_this a_s a_then a_past a_text a_met a_table a_ways a_waysOf a_into a_orders f_thrown f_saved f_length v4.1 v4.2 v17 f_isTold f_rests f_leastRest f_mostRest f_isWheel f_ended f_spot f_ordered f_cureAmount f_cureRelay f_cureWhich f_hash ((1 : Int32) <<< (v15 &&& (31 : Int32))) v27 hv27) (cwV 1 hts gX4_laysWays_X4_changed rfl rfl rfl (by decide +kernel) ⟨Nat.le_of_ble_eq_true rfl, Nat.le_of_ble_eq_true rfl⟩) ⟨zPr_blind, (va_recv hK hP (q0 := 0) (ci := 4) rfl rfl), zPr_pre hK hPc⟩ rfl rfl hl.1 rfl (lv_room (Nat.le_of_ble_eq_true rfl)) dX4_laysWays_88 ⟨Nat.zero_le _, Nat.zero_le _⟩) ?_
          obtain ⟨v28, hv28, h⟩ := zbnd h
          have hPc := hP.sub (ws' := [(a_this, .inr (4, [.int f_thrown, .ref a_s, .ref a_then, .ref a_past, .int f_saved, .ref a_text, .int f_length, .int v4.1, .int v4.2, .ref a_met, .ref a_table, .ref a_ways, .ref a_waysOf, .ref a_into, .int v17, .int f_isTold, .int f_rests, .int f_leastRest, .int f_mostRest, .int f_isWheel, .int f_ended, .int f_spot, .ref a_orders, .int f_ordered, .int f_cureAmount, .int f_cureRelay, .int f_cureWhich, .long f_hash])), (a_met, .inl (cI, 301, .inl v18)), (a_table, .inl (cI, 1024, .inl v19)), (a_ways, .inl (cI, 2107, .inl v20)), (a_waysOf, .inl (cI, 301, .inl v21)), (a_into, .inl (cI, 301, .inl v22))]) [0, 2, 3, 4, 5, 6] rfl
          have hDc := hD.sub (ws' := [(a_this, .inr (4, [.int f_thrown, .ref a_s, .ref a_then, .ref a_past, .int f_saved, .ref a_text, .int f_length, .int v4.1, .int v4.2, .ref a_met, .ref a_table, .ref a_ways, .ref a_waysOf, .ref a_into, .int v17, .int f_isTold, .int f_rests, .int f_leastRest, .int f_mostRest, .int f_isWheel, .int f_ended, .int f_spot, .ref a_orders, .int f_ordered, .int f_cureAmount, .int f_cureRelay, .int f_cureWhich, .long f_hash])), (a_met, .inl (cI, 301, .inl v18)), (a_table, .inl (cI, 1024, .inl v19)), (a_ways, .inl (cI, 2107, .inl v20)), (a_waysOf, .inl (cI, 301, .inl v21)), (a_into, .inl (cI, 301, .inl v22))]) [0, 2, 3, 4, 5, 6] (by decide) rfl
          have hFc := va_free (wc := [(a_this, .inr (4, [.int f_thrown, .ref a_s, .ref a_then, .ref a_past, .int f_saved, .ref a_text, .int f_length, .int v4.1, .int v4.2, .ref a_met, .ref a_table, .ref a_ways, .ref a_waysOf, .ref a_into, .int v17, .int f_isTold, .int f_rests, .int f_leastRest, .int f_mostRest, .int f_isWheel, .int f_ended, .int f_spot, .ref a_orders, .int f_ordered, .int f_cureAmount, .int f_cureRelay, .int f_cureWhich, .long f_hash])), (a_met, .inl (cI, 301, .inl v18)), (a_table, .inl (cI, 1024, .inl v19)), (a_ways, .inl (cI, 2107, .inl v20)), (a_waysOf, .inl (cI, 301, .inl v21)), (a_into, .inl (cI, 301, .inl v22))]) hD hS hA [0, 2, 3, 4, 5, 6] rfl
          refine zc_wv (va_runV (C := RX4) (As := [.int p1, .int v27]) (rest := []) ⟨hx, hb, hml, hown, hts⟩ (c_X4_laysWay l D cI cC cO cJ fu a_this a_s a_then a_past a_text a_met a_table a_ways a_waysOf a_into a_orders _ f_thrown f_saved f_length v4.1 v4.2 v17 f_isTold f_rests f_leastRest f_mostRest f_isWheel f_ended f_spot f_ordered f_cureAmount f_cureRelay f_cureWhich f_hash v18 v19 v20 v21 v22 p1 v27 v28 hv28) (cwV 2 hts gX4_laysWays_X4_laysWay rfl rfl rfl (by decide +kernel) ⟨Nat.le_of_ble_eq_true rfl, Nat.le_of_ble_eq_true rfl⟩) ⟨zPw_blind, (va_recv hK hP (q0 := 0) (ci := 4) rfl rfl), zPw_pre hK hPc hDc⟩ rfl rfl hl.1 rfl (lv_room (Nat.le_of_ble_eq_true rfl)) dX4_laysWays_91 ⟨Nat.zero_le _, Nat.zero_le _⟩) hS hFc (fun H locs hk1 hP1 hS => ?_)
          obtain ⟨hP, hD⟩ := zjn (ws' := [(a_this, .inr (4, [.int f_thrown, .ref a_s, .ref a_then, .ref a_past, .int f_saved, .ref a_text, .int f_length, .int v4.1, .int v4.2, .ref a_met, .ref a_table, .ref a_ways, .ref a_waysOf, .ref a_into, .int v28.1, .int f_isTold, .int f_rests, .int f_leastRest, .int f_mostRest, .int f_isWheel, .int f_ended, .int f_spot, .ref a_orders, .int f_ordered, .int f_cureAmount, .int f_cureRelay, .int f_cureWhich, .long f_hash])), (a_s, .inl (cI, 88, .inl f_s)), (a_met, .inl (cI, 301, .inl v28.2.1)), (a_table, .inl (cI, 1024, .inl v28.2.2.1)), (a_ways, .inl (cI, 2107, .inl v28.2.2.2.1)), (a_waysOf, .inl (cI, 301, .inl v28.2.2.2.2.1)), (a_into, .inl (cI, 301, .inl v28.2.2.2.2.2))]) hP hD [0, 2, 3, 4, 5, 6] [.inr 0, .inl 1, .inr 1, .inr 2, .inr 3, .inr 4, .inr 5] rfl rfl rfl hk1 hP1
          refine lv_iinc (v := (v15 + (1 : Int32))) (lv' := [(6, .int (v15 + (1 : Int32))), (0, .ref a_this), (1, .ref a_s), (2, .int p1), (3, .int v1), (4, .int v4.2), (5, .int v4.1)]) hx hb dX4_laysWays_94 hl (k := 6) rfl rfl (by decide) rfl (fun ls hl => ?_)
          refine lv_goto (tgt := 48) hx hb dX4_laysWays_97 (by decide) ?_
          exact ih48 (v15 + (1 : Int32)) v4.1 v28.1 v28.2.1 v28.2.2.1 v28.2.2.2.1 v28.2.2.2.2.1 v28.2.2.2.2.2 h _ _ hP hD hS ls (lv_sub hl [1, 2, 3, 4, 5, 6, 0] rfl)
  · have h := zif_f c3 h
    have hR := Option.some.inj h
    subst hR
    exact W.vret hx hb hr (fun t ht hW => ⟨⟨(), rfl, trivial, zhp ht hP⟩, hS.F ht⟩) hS.2.2 dX4_laysWays_15
def F_X4_laysWays_then_E100 (v4 : Int32 × Int32) (v7 : Int32) (v8 : Int32) (v9 : Int32) (v10 : Nat → Int32) (v11 : Nat → Int32) (v12 : Nat → Int32) (v13 : Nat → Int32) (v14 : Nat → Int32) : Option (Int32 × Int32 × Int32 × (Nat → Int32) × (Nat → Int32) × (Nat → Int32) × (Nat → Int32) × (Nat → Int32)) := some (v8, v4.2, v9, v10, v11, v12, v13, v14)
def F_X4_laysWays_then_L48 (fu : Nat) (p1 : Int32) (v4 : Int32 × Int32) (k48 : Int32 → Int32 → Int32 → (Nat → Int32) → (Nat → Int32) → (Nat → Int32) → (Nat → Int32) → (Nat → Int32) → Option (Int32 × Int32 × Int32 × (Nat → Int32) × (Nat → Int32) × (Nat → Int32) × (Nat → Int32) × (Nat → Int32))) (rec48 : Int32 → Int32 → Int32 → (Nat → Int32) → (Nat → Int32) → (Nat → Int32) → (Nat → Int32) → (Nat → Int32) → Option (Int32 × Int32 × Int32 × (Nat → Int32) × (Nat → Int32) × (Nat → Int32) × (Nat → Int32) × (Nat → Int32))) (v15 : Int32) (v16 : Int32) (v17 : Int32) (v18 : Nat → Int32) (v19 : Nat → Int32) (v20 : Nat → Int32) (v21 : Nat → Int32) (v22 : Nat → Int32) : Option (Int32 × Int32 × Int32 × (Nat → Int32) × (Nat → Int32) × (Nat → Int32) × (Nat → Int32) × (Nat → Int32)) := if (6 : Int32) ≤ v15 then k48 v15 v16 v17 v18 v19 v20 v21 v22 else (F_X4_ones fu v4.2).bind fun v24 => if v24 ≤ (1 : Int32) then k48 v15 v16 v17 v18 v19 v20 v21 v22 else if ((v4.2 >>> (v15 &&& (31 : Int32))) &&& (1 : Int32)) = (1 : Int32) then (F_X4_changed fu v4.1 ((1 : Int32) <<< (v15 &&& (31 : Int32)))).bind fun v27 => (F_X4_laysWay fu v17 v18 v19 v20 v21 v22 p1 v27).bind fun v28 => rec48 (v15 + (1 : Int32)) v4.1 v28.1 v28.2.1 v28.2.2.1 v28.2.2.2.1 v28.2.2.2.2.1 v28.2.2.2.2.2 else rec48 (v15 + (1 : Int32)) v4.1 v17 v18 v19 v20 v21 v22
def F_X4_laysWays_then (fu : Nat) (f_counted : Int32) (f_due : Int32) (f_meets : Int32) (f_then : Nat → Int32) (f_met : Nat → Int32) (f_table : Nat → Int32) (f_ways : Nat → Int32) (f_waysOf : Nat → Int32) (f_into : Nat → Int32) (p1 : Int32) : Option (Int32 × Int32 × Int32 × (Nat → Int32) × (Nat → Int32) × (Nat → Int32) × (Nat → Int32) × (Nat → Int32)) := (zrd f_met 301 p1).bind fun v1 => (F_X4_isQuiet fu f_then 88 v1).bind fun v2 => if v2 = (0 : Int32) then (F_X4_ticks_then fu f_counted f_due f_then v1).bind fun v4 => (F_X4_changed fu v4.1 v4.2).bind fun v5 => (F_X4_laysWay fu f_meets f_met f_table f_ways f_waysOf f_into p1 v5).bind fun v6 => zlp8 (F_X4_laysWays_then_L48 fu p1 v4 (F_X4_laysWays_then_E100 v4)) fu (0 : Int32) v4.1 v6.1 v6.2.1 v6.2.2.1 v6.2.2.2.1 v6.2.2.2.2.1 v6.2.2.2.2.2 else some (f_counted, f_due, f_meets, f_met, f_table, f_ways, f_waysOf, f_into)
set_option maxHeartbeats 4000000 in
set_option maxRecDepth 100000 in
theorem c_X4_laysWays_then (l : Launch) (D : va_G) (cI cC cO cJ : ClassId) (fu : Nat) (a_this a_s a_then a_past a_text a_met a_table a_ways a_waysOf a_into a_orders : Nat) (sz : Nat) (f_thrown : Int32) (f_saved : Int32) (f_length : Int32) (f_counted : Int32) (f_due : Int32) (f_meets : Int32) (f_isTold : Int32) (f_rests : Int32) (f_leastRest : Int32) (f_mostRest : Int32) (f_isWheel : Int32) (f_ended : Int32) (f_spot : Int32) (f_ordered : Int32) (f_cureAmount : Int32) (f_cureRelay : Int32) (f_cureWhich : Int32) (f_hash : Int64) (f_then : Nat → Int32) (f_met : Nat → Int32) (f_table : Nat → Int32) (f_ways : Nat → Int32) (f_waysOf : Nat → Int32) (f_into : Nat → Int32) (p1 : Int32) (R : Int32 × Int32 × Int32 × (Nat → Int32) × (Nat → Int32) × (Nat → Int32) × (Nat → Int32) × (Nat → Int32)) (h : F_X4_laysWays_then fu f_counted f_due f_meets f_then f_met f_table f_ways f_waysOf f_into p1 = some R) : Met l yX4_laysWays wsX4_laysWays ({ frames := 4, cells := 0, slots := 0, locals := 97 } : Room) (zPw D (ztys cI cC cO cJ) [(a_this, .inr (4, [.int f_thrown, .ref a_s, .ref a_then, .ref a_past, .int f_saved, .ref a_text, .int f_length, .int f_counted, .int f_due, .ref a_met, .ref a_table, .ref a_ways, .ref a_waysOf, .ref a_into, .int f_meets, .int f_isTold, .int f_rests, .int f_leastRest, .int f_mostRest, .int f_isWheel, .int f_ended, .int f_spot, .ref a_orders, .int f_ordered, .int f_cureAmount, .int f_cureRelay, .int f_cureWhich, .long f_hash])), (a_then, .inl (cI, 88, .inl f_then)), (a_met, .inl (cI, 301, .inl f_met)), (a_table, .inl (cI, 1024, .inl f_table)), (a_ways, .inl (cI, 2107, .inl f_ways)), (a_waysOf, .inl (cI, 301, .inl f_waysOf)), (a_into, .inl (cI, 301, .inl f_into))] sz [.ref a_this, .ref a_then, .int p1]) (zWv D [(a_this, .inr (4, [.int f_thrown, .ref a_s, .ref a_then, .ref a_past, .int f_saved, .ref a_text, .int f_length, .int R.1, .int R.2.1, .ref a_met, .ref a_table, .ref a_ways, .ref a_waysOf, .ref a_into, .int R.2.2.1, .int f_isTold, .int f_rests, .int f_leastRest, .int f_mostRest, .int f_isWheel, .int f_ended, .int f_spot, .ref a_orders, .int f_ordered, .int f_cureAmount, .int f_cureRelay, .int f_cureWhich, .long f_hash])), (a_then, .inl (cI, 88, .inl f_then)), (a_met, .inl (cI, 301, .inl R.2.2.2.1)), (a_table, .inl (cI, 1024, .inl R.2.2.2.2.1)), (a_ways, .inl (cI, 2107, .inl R.2.2.2.2.2.1)), (a_waysOf, .inl (cI, 301, .inl R.2.2.2.2.2.2.1)), (a_into, .inl (cI, 301, .inl R.2.2.2.2.2.2.2))] (va_A [(a_this, .inr (4, [.int f_thrown, .ref a_s, .ref a_then, .ref a_past, .int f_saved, .ref a_text, .int f_length, .int f_counted, .int f_due, .ref a_met, .ref a_table, .ref a_ways, .ref a_waysOf, .ref a_into, .int f_meets, .int f_isTold, .int f_rests, .int f_leastRest, .int f_mostRest, .int f_isWheel, .int f_ended, .int f_spot, .ref a_orders, .int f_ordered, .int f_cureAmount, .int f_cureRelay, .int f_cureWhich, .long f_hash])), (a_then, .inl (cI, 88, .inl f_then)), (a_met, .inl (cI, 301, .inl f_met)), (a_table, .inl (cI, 1024, .inl f_table)), (a_ways, .inl (cI, 2107, .inl f_ways)), (a_waysOf, .inl (cI, 301, .inl f_waysOf)), (a_into, .inl (cI, 301, .inl f_into))] sz)) 0 0 (va_A [(a_this, .inr (4, [.int f_thrown, .ref a_s, .ref a_then, .ref a_past, .int f_saved, .ref a_text, .int f_length, .int f_counted, .int f_due, .ref a_met, .ref a_table, .ref a_ways, .ref a_waysOf, .ref a_into, .int f_meets, .int f_isTold, .int f_rests, .int f_leastRest, .int f_mostRest, .int f_isWheel, .int f_ended, .int f_spot, .ref a_orders, .int f_ordered, .int f_cureAmount, .int f_cureRelay, .int f_cureWhich, .long f_hash])), (a_then, .inl (cI, 88, .inl f_then)), (a_met, .inl (cI, 301, .inl f_met)), (a_table, .inl (cI, 1024, .inl f_table)), (a_ways, .inl (cI, 2107, .inl f_ways)), (a_waysOf, .inl (cI, 301, .inl f_waysOf)), (a_into, .inl (cI, 301, .inl f_into))] sz) := by
  refine Met.ofW (cc := cX4_laysWays) (maxL := 7) (ret := none) (by decide) rfl ?_
  intro p e s m args below meth c s₁ B hml hv
  obtain ⟨rfl, hsz, hP, hK, hD0⟩ := hv
  have hx := B.exec
  have hb := B.bytes
  have hr := B.returns
  have hts := atoms_spec (ws := wsX4_laysWays) B.pre
  have hown : s.vm.findClass RX4 = some m.cls := findClass_of_methodNamed B.named
  have hlocks := B.notSynchronized
  have hinX4 : ∀ w ∈ wsX40, w ∈ wsX4_laysWays := fun _ h => (List.mem_cons_of_mem _ (List.mem_append_right _ h))
  subst hsz
  have hD := hD0.self (sz := s.heap.size)
  generalize hAe : va_A [(a_this, .inr (4, [.int f_thrown, .ref a_s, .ref a_then, .ref a_past, .int f_saved, .ref a_text, .int f_length, .int f_counted, .int f_due, .ref a_met, .ref a_table, .ref a_ways, .ref a_waysOf, .ref a_into, .int f_meets, .int f_isTold, .int f_rests, .int f_leastRest, .int f_mostRest, .int f_isWheel, .int f_ended, .int f_spot, .ref a_orders, .int f_ordered, .int f_cureAmount, .int f_cureRelay, .int f_cureWhich, .long f_hash])), (a_then, .inl (cI, 88, .inl f_then)), (a_met, .inl (cI, 301, .inl f_met)), (a_table, .inl (cI, 1024, .inl f_table)), (a_ways, .inl (cI, 2107, .inl f_ways)), (a_waysOf, .inl (cI, 301, .inl f_waysOf)), (a_into, .inl (cI, 301, .inl f_into))] s.heap.size = A at hD ⊢
  have hA : ∀ q : Nat, s.heap.size ≤ q → A q := fun q h => by rw [← hAe]; exact Or.inr h
  have hS : va_S A s.heap s.heap [] := va_S.rf
  have hP : va_P D vwCl [(a_this, .inr (4, [.int f_thrown, .ref a_s, .ref a_then, .ref a_past, .int f_saved, .ref a_text, .int f_length, .int f_counted, .int f_due, .ref a_met, .ref a_table, .ref a_ways, .ref a_waysOf, .ref a_into, .int f_meets, .int f_isTold, .int f_rests, .int f_leastRest, .int f_mostRest, .int f_isWheel, .int f_ended, .int f_spot, .ref a_orders, .int f_ordered, .int f_cureAmount, .int f_cureRelay, .int f_cureWhich, .long f_hash])), (a_then, .inl (cI, 88, .inl f_then)), (a_met, .inl (cI, 301, .inl f_met)), (a_table, .inl (cI, 1024, .inl f_table)), (a_ways, .inl (cI, 2107, .inl f_ways)), (a_waysOf, .inl (cI, 301, .inl f_waysOf)), (a_into, .inl (cI, 301, .inl f_into))] s.heap := hP
  have hK : va_K D vwCl (ztys cI cC cO cJ) s := hK
  have hl := lv_entry ([.ref a_this, .ref a_then, .int p1]) (n := 7) (Nat.le_of_ble_eq_true rfl)
  rw [lg_entry_eq]
  generalize (lg_sl ([.ref a_this, .ref a_then, .int p1]) ++ List.replicate (7 - (lg_sl ([.ref a_this, .ref a_then, .int p1])).length) Slot.unset).toArray = ls at hl ⊢
  have hl : lv_has ls 7 [(0, .ref a_this), (1, .ref a_then), (2, .int p1)] := hl
  unfold F_X4_laysWays_then at h
  refine lv_aload_n hx hb dX4_laysWays_0 rfl (lv_at hl 0 rfl) ?_
  refine va_get (D := D) (ci := 4) (v := .ref a_met) (C := RX4) (T := TX4) (N := 28) hx hb hts hinX4 hown hK hP 0 rfl rfl 9 (by decide) (hts (Cond.fieldLink RX4 23 "LadderRelaysModel" "met" "[I") (List.mem_of_getElem? (i := 1) rfl)) (fun _ h9 => h9) rfl dX4_laysWays_1 ?_
  refine lv_iload_n hx hb dX4_laysWays_4 rfl (lv_at hl 2 rfl) ?_
  obtain ⟨v1, hv1, h⟩ := zbnd h
  refine zr_iald hx hb hK hP 2 0 rfl rfl hv1 dX4_laysWays_5 ?_
  refine lv_istore_n (lv' := [(3, .int v1), (0, .ref a_this), (1, .ref a_then), (2, .int p1)]) hx hb dX4_laysWays_6 rfl hl (by decide) rfl (fun ls hl => ?_)
  refine lv_aload_n hx hb dX4_laysWays_7 rfl (lv_at hl 2 rfl) ?_
  refine lv_iload_n hx hb dX4_laysWays_8 rfl (lv_at hl 0 rfl) ?_
  obtain ⟨v2, hv2, h⟩ := zbnd h
  have hPc := hP.sub (ws' := [(a_then, .inl (cI, 88, .inl f_then))]) [1] rfl
  refine zc_i (W.runS (As := [.ref a_then, .int v1]) (rest := []) ⟨hx, hb, hml, hown, hts⟩ (c_X4_isQuiet l D cI cC cO cJ fu a_then f_then 88 v1 v2 hv2) (va_cwS 2 hts gX4_laysWays_X4_isQuiet rfl rfl rfl (by decide +kernel) ⟨Nat.le_of_ble_eq_true rfl, Nat.le_of_ble_eq_true rfl⟩) (zPr_S hK hPc) rfl rfl hl.1 rfl (lv_room (Nat.le_of_ble_eq_true rfl)) dX4_laysWays_9 ⟨Nat.zero_le _, Nat.zero_le _⟩) ?_
  refine lv_if_eq (tgt := 16) hx hb dX4_laysWays_12 (by decide) (fun c3 => ?_) (fun c3 => ?_)
  · have h := zif_t c3 h
    refine lv_aload_n hx hb dX4_laysWays_16 rfl (lv_at hl 1 rfl) ?_
    refine lv_aload_n hx hb dX4_laysWays_17 rfl (lv_at hl 2 rfl) ?_
    refine lv_iload_n hx hb dX4_laysWays_18 rfl (lv_at hl 0 rfl) ?_
    obtain ⟨v4, hv4, h⟩ := zbnd h
    have hPc := hP.sub (ws' := [(a_this, .inr (4, [.int f_thrown, .ref a_s, .ref a_then, .ref a_past, .int f_saved, .ref a_text, .int f_length, .int f_counted, .int f_due, .ref a_met, .ref a_table, .ref a_ways, .ref a_waysOf, .ref a_into, .int f_meets, .int f_isTold, .int f_rests, .int f_leastRest, .int f_mostRest, .int f_isWheel, .int f_ended, .int f_spot, .ref a_orders, .int f_ordered, .int f_cureAmount, .int f_cureRelay, .int f_cureWhich, .long f_hash])), (a_then, .inl (cI, 88, .inl f_then))]) [0, 1] rfl
    have hDc := hD.sub (ws' := [(a_this, .inr (4, [.int f_thrown, .ref a_s, .ref a_then, .ref a_past, .int f_saved, .ref a_text, .int f_length, .int f_counted, .int f_due, .ref a_met, .ref a_table, .ref a_ways, .ref a_waysOf, .ref a_into, .int f_meets, .int f_isTold, .int f_rests, .int f_leastRest, .int f_mostRest, .int f_isWheel, .int f_ended, .int f_spot, .ref a_orders, .int f_ordered, .int f_cureAmount, .int f_cureRelay, .int f_cureWhich, .long f_hash])), (a_then, .inl (cI, 88, .inl f_then))]) [0, 1] (by decide) rfl
    have hFc := va_free (wc := [(a_this, .inr (4, [.int f_thrown, .ref a_s, .ref a_then, .ref a_past, .int f_saved, .ref a_text, .int f_length, .int f_counted, .int f_due, .ref a_met, .ref a_table, .ref a_ways, .ref a_waysOf, .ref a_into, .int f_meets, .int f_isTold, .int f_rests, .int f_leastRest, .int f_mostRest, .int f_isWheel, .int f_ended, .int f_spot, .ref a_orders, .int f_ordered, .int f_cureAmount, .int f_cureRelay, .int f_cureWhich, .long f_hash])), (a_then, .inl (cI, 88, .inl f_then))]) hD hS hA [0, 1] rfl
    refine zc_wv (va_runV (C := RX4) (As := [.ref a_then, .int v1]) (rest := []) ⟨hx, hb, hml, hown, hts⟩ (c_X4_ticks_then l D cI cC cO cJ fu a_this a_s a_then a_past a_text a_met a_table a_ways a_waysOf a_into a_orders _ f_thrown f_saved f_length f_counted f_due f_meets f_isTold f_rests f_leastRest f_mostRest f_isWheel f_ended f_spot f_ordered f_cureAmount f_cureRelay f_cureWhich f_hash f_then v1 v4 hv4) (cwV 2 hts gX4_laysWays_X4_ticks rfl rfl rfl (by decide +kernel) ⟨Nat.le_of_ble_eq_true rfl, Nat.le_of_ble_eq_true rfl⟩) ⟨zPw_blind, (va_recv hK hP (q0 := 0) (ci := 4) rfl rfl), zPw_pre hK hPc hDc⟩ rfl rfl hl.1 rfl (lv_room (Nat.le_of_ble_eq_true rfl)) dX4_laysWays_19 ⟨Nat.zero_le _, Nat.zero_le _⟩) hS hFc (fun H locs hk1 hP1 hS => ?_)
    obtain ⟨hP, hD⟩ := zjn (ws' := [(a_this, .inr (4, [.int f_thrown, .ref a_s, .ref a_then, .ref a_past, .int f_saved, .ref a_text, .int f_length, .int v4.1, .int v4.2, .ref a_met, .ref a_table, .ref a_ways, .ref a_waysOf, .ref a_into, .int f_meets, .int f_isTold, .int f_rests, .int f_leastRest, .int f_mostRest, .int f_isWheel, .int f_ended, .int f_spot, .ref a_orders, .int f_ordered, .int f_cureAmount, .int f_cureRelay, .int f_cureWhich, .long f_hash])), (a_then, .inl (cI, 88, .inl f_then)), (a_met, .inl (cI, 301, .inl f_met)), (a_table, .inl (cI, 1024, .inl f_table)), (a_ways, .inl (cI, 2107, .inl f_ways)), (a_waysOf, .inl (cI, 301, .inl f_waysOf)), (a_into, .inl (cI, 301, .inl f_into))]) hP hD [0, 1] [.inr 0, .inr 1, .inl 2, .inl 3, .inl 4, .inl 5, .inl 6] rfl rfl rfl hk1 hP1
    refine lv_aload_n hx hb dX4_laysWays_22 rfl (lv_at hl 1 rfl) ?_
    refine va_get (D := D) (ci := 4) (v := .int v4.2) (C := RX4) (T := TX4) (N := 28) hx hb hts hinX4 hown hK hP 0 rfl rfl 8 (by decide) (hts (Cond.fieldLink RX4 75 "LadderRelaysModel" "due" "I") (List.mem_of_getElem? (i := 2) rfl)) (fun _ h9 => h9) rfl dX4_laysWays_23 ?_
    refine lv_istore (lv' := [(4, .int v4.2), (3, .int v1), (0, .ref a_this), (1, .ref a_then), (2, .int p1)]) hx hb dX4_laysWays_26 hl (by decide) rfl (fun ls hl => ?_)
    refine lv_aload_n hx hb dX4_laysWays_28 rfl (lv_at hl 2 rfl) ?_
    refine va_get (D := D) (ci := 4) (v := .int v4.1) (C := RX4) (T := TX4) (N := 28) hx hb hts hinX4 hown hK hP 0 rfl rfl 7 (by decide) (hts (Cond.fieldLink RX4 72 "LadderRelaysModel" "counted" "I") (List.mem_of_getElem? (i := 3) rfl)) (fun _ h9 => h9) rfl dX4_laysWays_29 ?_
    refine lv_istore (lv' := [(5, .int v4.1), (4, .int v4.2), (3, .int v1), (0, .ref a_this), (1, .ref a_then), (2, .int p1)]) hx hb dX4_laysWays_32 hl (by decide) rfl (fun ls hl => ?_)
    refine lv_aload_n hx hb dX4_laysWays_34 rfl (lv_at hl 3 rfl) ?_
    refine lv_iload_n hx hb dX4_laysWays_35 rfl (lv_at hl 5 rfl) ?_
    refine lv_aload_n hx hb dX4_laysWays_36 rfl (lv_at hl 3 rfl) ?_
    refine lv_iload hx hb dX4_laysWays_37 (lv_at hl 1 rfl) ?_
    obtain ⟨v5, hv5, h⟩ := zbnd h
    have hPc := hP.sub (ws' := [(a_this, .inr (4, [.int f_thrown, .ref a_s, .ref a_then, .ref a_past, .int f_saved, .ref a_text, .int f_length, .int v4.1, .int v4.2, .ref a_met, .ref a_table, .ref a_ways, .ref a_waysOf, .ref a_into, .int f_meets, .int f_isTold, .int f_rests, .int f_leastRest, .int f_mostRest, .int f_isWheel, .int f_ended, .int f_spot, .ref a_orders, .int f_ordered, .int f_cureAmount, .int f_cureRelay, .int f_cureWhich, .long f_hash]))]) [0] rfl
    refine zc_i (W.runV (C := RX4) (As := [.int v4.2]) (rest := [.int p1, .ref a_this]) ⟨hx, hb, hml, hown, hts⟩ (c_X4_changed l D cI cC cO cJ fu a_this a_s a_then a_past a_text a_met a_table a_ways a_waysOf a_into a_orders f_thrown f_saved f_length v4.1 v4.2 f_meets f_isTold f_rests f_leastRest f_mostRest f_isWheel f_ended f_spot f_ordered f_cureAmount f_cureRelay f_cureWhich f_hash v4.2 v5 hv5) (cwV 1 hts gX4_laysWays_X4_changed rfl rfl rfl (by decide +kernel) ⟨Nat.le_of_ble_eq_true rfl, Nat.le_of_ble_eq_true rfl⟩) ⟨zPr_blind, (va_recv hK hP (q0 := 0) (ci := 4) rfl rfl), zPr_pre hK hPc⟩ rfl rfl hl.1 rfl (lv_room (Nat.le_of_ble_eq_true rfl)) dX4_laysWays_39 ⟨Nat.zero_le _, Nat.zero_le _⟩) ?_
    obtain ⟨v6, hv6, h⟩ := zbnd h
    have hPc := hP.sub (ws' := [(a_this, .inr (4, [.int f_thrown, .ref a_s, .ref a_then, .ref a_past, .int f_saved, .ref a_text, .int f_length, .int v4.1, .int v4.2, .ref a_met, .ref a_table, .ref a_ways, .ref a_waysOf, .ref a_into, .int f_meets, .int f_isTold, .int f_rests, .int f_leastRest, .int f_mostRest, .int f_isWheel, .int f_ended, .int f_spot, .ref a_orders, .int f_ordered, .int f_cureAmount, .int f_cureRelay, .int f_cureWhich, .long f_hash])), (a_met, .inl (cI, 301, .inl f_met)), (a_table, .inl (cI, 1024, .inl f_table)), (a_ways, .inl (cI, 2107, .inl f_ways)), (a_waysOf, .inl (cI, 301, .inl f_waysOf)), (a_into, .inl (cI, 301, .inl f_into))]) [0, 2, 3, 4, 5, 6] rfl
    have hDc := hD.sub (ws' := [(a_this, .inr (4, [.int f_thrown, .ref a_s, .ref a_then, .ref a_past, .int f_saved, .ref a_text, .int f_length, .int v4.1, .int v4.2, .ref a_met, .ref a_table, .ref a_ways, .ref a_waysOf, .ref a_into, .int f_meets, .int f_isTold, .int f_rests, .int f_leastRest, .int f_mostRest, .int f_isWheel, .int f_ended, .int f_spot, .ref a_orders, .int f_ordered, .int f_cureAmount, .int f_cureRelay, .int f_cureWhich, .long f_hash])), (a_met, .inl (cI, 301, .inl f_met)), (a_table, .inl (cI, 1024, .inl f_table)), (a_ways, .inl (cI, 2107, .inl f_ways)), (a_waysOf, .inl (cI, 301, .inl f_waysOf)), (a_into, .inl (cI, 301, .inl f_into))]) [0, 2, 3, 4, 5, 6] (by decide) rfl
    have hFc := va_free (wc := [(a_this, .inr (4, [.int f_thrown, .ref a_s, .ref a_then, .ref a_past, .int f_saved, .ref a_text, .int f_length, .int v4.1, .int v4.2, .ref a_met, .ref a_table, .ref a_ways, .ref a_waysOf, .ref a_into, .int f_meets, .int f_isTold, .int f_rests, .int f_leastRest, .int f_mostRest, .int f_isWheel, .int f_ended, .int f_spot, .ref a_orders, .int f_ordered, .int f_cureAmount, .int f_cureRelay, .int f_cureWhich, .long f_hash])), (a_met, .inl (cI, 301, .inl f_met)), (a_table, .inl (cI, 1024, .inl f_table)), (a_ways, .inl (cI, 2107, .inl f_ways)), (a_waysOf, .inl (cI, 301, .inl f_waysOf)), (a_into, .inl (cI, 301, .inl f_into))]) hD hS hA [0, 2, 3, 4, 5, 6] rfl
    refine zc_wv (va_runV (C := RX4) (As := [.int p1, .int v5]) (rest := []) ⟨hx, hb, hml, hown, hts⟩ (c_X4_laysWay l D cI cC cO cJ fu a_this a_s a_then a_past a_text a_met a_table a_ways a_waysOf a_into a_orders _ f_thrown f_saved f_length v4.1 v4.2 f_meets f_isTold f_rests f_leastRest f_mostRest f_isWheel f_ended f_spot f_ordered f_cureAmount f_cureRelay f_cureWhich f_hash f_met f_table f_ways f_waysOf f_into p1 v5 v6 hv6) (cwV 2 hts gX4_laysWays_X4_laysWay rfl rfl rfl (by decide +kernel) ⟨Nat.le_of_ble_eq_true rfl, Nat.le_of_ble_eq_true rfl⟩) ⟨zPw_blind, (va_recv hK hP (q0 := 0) (ci := 4) rfl rfl), zPw_pre hK hPc hDc⟩ rfl rfl hl.1 rfl (lv_room (Nat.le_of_ble_eq_true rfl)) dX4_laysWays_42 ⟨Nat.zero_le _, Nat.zero_le _⟩) hS hFc (fun H locs hk1 hP1 hS => ?_)
    obtain ⟨hP, hD⟩ := zjn (ws' := [(a_this, .inr (4, [.int f_thrown, .ref a_s, .ref a_then, .ref a_past, .int f_saved, .ref a_text, .int f_length, .int v4.1, .int v4.2, .ref a_met, .ref a_table, .ref a_ways, .ref a_waysOf, .ref a_into, .int v6.1, .int f_isTold, .int f_rests, .int f_leastRest, .int f_mostRest, .int f_isWheel, .int f_ended, .int f_spot, .ref a_orders, .int f_ordered, .int f_cureAmount, .int f_cureRelay, .int f_cureWhich, .long f_hash])), (a_then, .inl (cI, 88, .inl f_then)), (a_met, .inl (cI, 301, .inl v6.2.1)), (a_table, .inl (cI, 1024, .inl v6.2.2.1)), (a_ways, .inl (cI, 2107, .inl v6.2.2.2.1)), (a_waysOf, .inl (cI, 301, .inl v6.2.2.2.2.1)), (a_into, .inl (cI, 301, .inl v6.2.2.2.2.2))]) hP hD [0, 2, 3, 4, 5, 6] [.inr 0, .inl 1, .inr 1, .inr 2, .inr 3, .inr 4, .inr 5] rfl rfl rfl hk1 hP1
    refine lv_iconst (v := (0 : Int32)) hx hb dX4_laysWays_45 (by decide) ?_
    refine lv_istore (lv' := [(6, .int (0 : Int32)), (5, .int v4.1), (4, .int v4.2), (3, .int v1), (0, .ref a_this), (1, .ref a_then), (2, .int p1)]) hx hb dX4_laysWays_46 hl (by decide) rfl (fun ls hl => ?_)
    have E100 : ∀ (v7 : Int32) (v8 : Int32) (v9 : Int32) (v10 : Nat → Int32) (v11 : Nat → Int32) (v12 : Nat → Int32) (v13 : Nat → Int32) (v14 : Nat → Int32), F_X4_laysWays_then_E100 v4 v7 v8 v9 v10 v11 v12 v13 v14 = some R → ∀ (H : Heap) (locs : List Loc), va_P D vwCl [(a_this, .inr (4, [.int f_thrown, .ref a_s, .ref a_then, .ref a_past, .int f_saved, .ref a_text, .int f_length, .int v8, .int v4.2, .ref a_met, .ref a_table, .ref a_ways, .ref a_waysOf, .ref a_into, .int v9, .int f_isTold, .int f_rests, .int f_leastRest, .int f_mostRest, .int f_isWheel, .int f_ended, .int f_spot, .ref a_orders, .int f_ordered, .int f_cureAmount, .int f_cureRelay, .int f_cureWhich, .long f_hash])), (a_then, .inl (cI, 88, .inl f_then)), (a_met, .inl (cI, 301, .inl v10)), (a_table, .inl (cI, 1024, .inl v11)), (a_ways, .inl (cI, 2107, .inl v12)), (a_waysOf, .inl (cI, 301, .inl v13)), (a_into, .inl (cI, 301, .inl v14))] H → va_D A [(a_this, .inr (4, [.int f_thrown, .ref a_s, .ref a_then, .ref a_past, .int f_saved, .ref a_text, .int f_length, .int v8, .int v4.2, .ref a_met, .ref a_table, .ref a_ways, .ref a_waysOf, .ref a_into, .int v9, .int f_isTold, .int f_rests, .int f_leastRest, .int f_mostRest, .int f_isWheel, .int f_ended, .int f_spot, .ref a_orders, .int f_ordered, .int f_cureAmount, .int f_cureRelay, .int f_cureWhich, .long f_hash])), (a_then, .inl (cI, 88, .inl f_then)), (a_met, .inl (cI, 301, .inl v10)), (a_table, .inl (cI, 1024, .inl v11)), (a_ways, .inl (cI, 2107, .inl v12)), (a_waysOf, .inl (cI, 301, .inl v13)), (a_into, .inl (cI, 301, .inl v14))] → va_S A s.heap H locs → ∀ ls : Array Slot, lv_has ls 7 [(0, .ref a_this), (1, .ref a_then), (2, .int p1), (3, .int v1), (4, .int v4.2), (5, .int v4.1), (6, .int v7)] → W p l e ({ frames := 4, cells := 0, slots := 0, locals := 97 } : Room) s m (([.ref a_this, .ref a_then, .int p1] : List Value).toArray) below meth c H locs 0 0 (MQ below (zWv D [(a_this, .inr (4, [.int f_thrown, .ref a_s, .ref a_then, .ref a_past, .int f_saved, .ref a_text, .int f_length, .int R.1, .int R.2.1, .ref a_met, .ref a_table, .ref a_ways, .ref a_waysOf, .ref a_into, .int R.2.2.1, .int f_isTold, .int f_rests, .int f_leastRest, .int f_mostRest, .int f_isWheel, .int f_ended, .int f_spot, .ref a_orders, .int f_ordered, .int f_cureAmount, .int f_cureRelay, .int f_cureWhich, .long f_hash])), (a_then, .inl (cI, 88, .inl f_then)), (a_met, .inl (cI, 301, .inl R.2.2.2.1)), (a_table, .inl (cI, 1024, .inl R.2.2.2.2.1)), (a_ways, .inl (cI, 2107, .inl R.2.2.2.2.2.1)), (a_waysOf, .inl (cI, 301, .inl R.2.2.2.2.2.2.1)), (a_into, .inl (cI, 301, .inl R.2.2.2.2.2.2.2))] A) (([.ref a_this, .ref a_then, .int p1] : List Value).toArray) s 0 0 A) (F0 m 100 ls []) := by
      intro v7 v8 v9 v10 v11 v12 v13 v14 h H locs hP hD hS ls hl
      unfold F_X4_laysWays_then_E100 at h
      have hR := Option.some.inj h
      subst hR
      exact W.vret hx hb hr (fun t ht hW => ⟨⟨(), rfl, trivial, zhp ht hP⟩, hS.F ht⟩) hS.2.2 dX4_laysWays_100
    refine zlp_i8 (R := R) (P := fun (v15 : Int32) (v16 : Int32) (v17 : Int32) (v18 : Nat → Int32) (v19 : Nat → Int32) (v20 : Nat → Int32) (v21 : Nat → Int32) (v22 : Nat → Int32) => ∀ (H : Heap) (locs : List Loc), va_P D vwCl [(a_this, .inr (4, [.int f_thrown, .ref a_s, .ref a_then, .ref a_past, .int f_saved, .ref a_text, .int f_length, .int v16, .int v4.2, .ref a_met, .ref a_table, .ref a_ways, .ref a_waysOf, .ref a_into, .int v17, .int f_isTold, .int f_rests, .int f_leastRest, .int f_mostRest, .int f_isWheel, .int f_ended, .int f_spot, .ref a_orders, .int f_ordered, .int f_cureAmount, .int f_cureRelay, .int f_cureWhich, .long f_hash])), (a_then, .inl (cI, 88, .inl f_then)), (a_met, .inl (cI, 301, .inl v18)), (a_table, .inl (cI, 1024, .inl v19)), (a_ways, .inl (cI, 2107, .inl v20)), (a_waysOf, .inl (cI, 301, .inl v21)), (a_into, .inl (cI, 301, .inl v22))] H → va_D A [(a_this, .inr (4, [.int f_thrown, .ref a_s, .ref a_then, .ref a_past, .int f_saved, .ref a_text, .int f_length, .int v16, .int v4.2, .ref a_met, .ref a_table, .ref a_ways, .ref a_waysOf, .ref a_into, .int v17, .int f_isTold, .int f_rests, .int f_leastRest, .int f_mostRest, .int f_isWheel, .int f_ended, .int f_spot, .ref a_orders, .int f_ordered, .int f_cureAmount, .int f_cureRelay, .int f_cureWhich, .long f_hash])), (a_then, .inl (cI, 88, .inl f_then)), (a_met, .inl (cI, 301, .inl v18)), (a_table, .inl (cI, 1024, .inl v19)), (a_ways, .inl (cI, 2107, .inl v20)), (a_waysOf, .inl (cI, 301, .inl v21)), (a_into, .inl (cI, 301, .inl v22))] → va_S A s.heap H locs → ∀ ls : Array Slot, lv_has ls 7 [(0, .ref a_this), (1, .ref a_then), (2, .int p1), (3, .int v1), (4, .int v4.2), (5, .int v4.1), (6, .int v15)] → W p l e ({ frames := 4, cells := 0, slots := 0, locals := 97 } : Room) s m (([.ref a_this, .ref a_then, .int p1] : List Value).toArray) below meth c H locs 0 0 (MQ below (zWv D [(a_this, .inr (4, [.int f_thrown, .ref a_s, .ref a_then, .ref a_past, .int f_saved, .ref a_text, .int f_length, .int R.1, .int R.2.1, .ref a_met, .ref a_table, .ref a_ways, .ref a_waysOf, .ref a_into, .int R.2.2.1, .int f_isTold, .int f_rests, .int f_leastRest, .int f_mostRest, .int f_isWheel, .int f_ended, .int f_spot, .ref a_orders, .int f_ordered, .int f_cureAmount, .int f_cureRelay, .int f_cureWhich, .long f_hash])), (a_then, .inl (cI, 88, .inl f_then)), (a_met, .inl (cI, 301, .inl R.2.2.2.1)), (a_table, .inl (cI, 1024, .inl R.2.2.2.2.1)), (a_ways, .inl (cI, 2107, .inl R.2.2.2.2.2.1)), (a_waysOf, .inl (cI, 301, .inl R.2.2.2.2.2.2.1)), (a_into, .inl (cI, 301, .inl R.2.2.2.2.2.2.2))] A) (([.ref a_this, .ref a_then, .int p1] : List Value).toArray) s 0 0 A) (F0 m 48 ls [])) (fun rec48 ih48 v15 v16 v17 v18 v19 v20 v21 v22 h => ?_) fu (0 : Int32) v4.1 v6.1 v6.2.1 v6.2.2.1 v6.2.2.2.1 v6.2.2.2.2.1 v6.2.2.2.2.2 h _ _ hP hD hS ls (lv_sub hl [4, 5, 6, 3, 2, 1, 0] rfl)
    intro H locs hP hD hS ls hl
    unfold F_X4_laysWays_then_L48 at h
    refine lv_iload hx hb dX4_laysWays_48 (lv_at hl 6 rfl) ?_
    refine lv_bipush (v := (6 : Int32)) hx hb dX4_laysWays_50 (by decide) ?_
    refine lv_icmp_ge (tgt := 100) hx hb dX4_laysWays_52 (by decide) (fun c23 => ?_) (fun c23 => ?_)
    · have h := zif_t c23 h
      exact E100 v15 v16 v17 v18 v19 v20 v21 v22 h _ _ hP hD hS ls (lv_sub hl [0, 1, 2, 3, 4, 5, 6] rfl)
    · have h := zif_f c23 h
      refine lv_iload hx hb dX4_laysWays_55 (lv_at hl 4 rfl) ?_
      obtain ⟨v24, hv24, h⟩ := zbnd h
      refine zc_i (W.runS (As := [.int v4.2]) (rest := []) ⟨hx, hb, hml, hown, hts⟩ (c_X4_ones l D cI cC cO cJ fu v4.2 v24 hv24) (va_cwS 1 hts gX4_laysWays_X4_ones rfl rfl rfl (by decide +kernel) ⟨Nat.le_of_ble_eq_true rfl, Nat.le_of_ble_eq_true rfl⟩) (zPr_S hK zP_nil) rfl rfl hl.1 rfl (lv_room (Nat.le_of_ble_eq_true rfl)) dX4_laysWays_57 ⟨Nat.zero_le _, Nat.zero_le _⟩) ?_
      refine lv_iconst (v := (1 : Int32)) hx hb dX4_laysWays_60 (by decide) ?_
      refine lv_icmp_le (tgt := 100) hx hb dX4_laysWays_61 (by decide) (fun c25 => ?_) (fun c25 => ?_)
      · have h := zif_t c25 h
        exact E100 v15 v16 v17 v18 v19 v20 v21 v22 h _ _ hP hD hS ls (lv_sub hl [0, 1, 2, 3, 4, 5, 6] rfl)
      · have h := zif_f c25 h
        refine lv_aload_n hx hb dX4_laysWays_64 rfl (lv_at hl 0 rfl) ?_
        refine lv_iload hx hb dX4_laysWays_65 (lv_at hl 5 rfl) ?_
        refine va_put (D := D) (ci := 4) (v := .int v4.1) (ty := .int) (C := RX4) (T := TX4) (N := 28) hx hb hts hinX4 tyX4 tyX4_ok nmX4 hown hK hP hD hS 0 rfl rfl 7 (by decide) (hts (Cond.fieldLink RX4 72 "LadderRelaysModel" "counted" "I") (List.mem_of_getElem? (i := 3) rfl)) (fun _ h9 => h9) rfl (by decide +kernel) rfl rfl (Nat.le_of_ble_eq_true rfl) dX4_laysWays_67 (fun H locs hP hD hS => ?_)
        have hP : va_P D vwCl [(a_this, .inr (4, [.int f_thrown, .ref a_s, .ref a_then, .ref a_past, .int f_saved, .ref a_text, .int f_length, .int v4.1, .int v4.2, .ref a_met, .ref a_table, .ref a_ways, .ref a_waysOf, .ref a_into, .int v17, .int f_isTold, .int f_rests, .int f_leastRest, .int f_mostRest, .int f_isWheel, .int f_ended, .int f_spot, .ref a_orders, .int f_ordered, .int f_cureAmount, .int f_cureRelay, .int f_cureWhich, .long f_hash])), (a_then, .inl (cI, 88, .inl f_then)), (a_met, .inl (cI, 301, .inl v18)), (a_table, .inl (cI, 1024, .inl v19)), (a_ways, .inl (cI, 2107, .inl v20)), (a_waysOf, .inl (cI, 301, .inl v21)), (a_into, .inl (cI, 301, .inl v22))] H := hP
        have hD : va_D A [(a_this, .inr (4, [.int f_thrown, .ref a_s, .ref a_then, .ref a_past, .int f_saved, .ref a_text, .int f_length, .int v4.1, .int v4.2, .ref a_met, .ref a_table, .ref a_ways, .ref a_waysOf, .ref a_into, .int v17, .int f_isTold, .int f_rests, .int f_leastRest, .int f_mostRest, .int f_isWheel, .int f_ended, .int f_spot, .ref a_orders, .int f_ordered, .int f_cureAmount, .int f_cureRelay, .int f_cureWhich, .long f_hash])), (a_then, .inl (cI, 88, .inl f_then)), (a_met, .inl (cI, 301, .inl v18)), (a_table, .inl (cI, 1024, .inl v19)), (a_ways, .inl (cI, 2107, .inl v20)), (a_waysOf, .inl (cI, 301, .inl v21)), (a_into, .inl (cI, 301, .inl v22))] := hD
        refine lv_iload hx hb dX4_laysWays_70 (lv_at hl 4 rfl) ?_
        refine lv_iload hx hb dX4_laysWays_72 (lv_at hl 6 rfl) ?_
        refine lv_ishr hx hb dX4_laysWays_74 ?_
        refine lv_iconst (v := (1 : Int32)) hx hb dX4_laysWays_75 (by decide) ?_
        refine lv_iand hx hb dX4_laysWays_76 ?_
        refine lv_iconst (v := (1 : Int32)) hx hb dX4_laysWays_77 (by decide) ?_
        refine lv_icmp_ne (tgt := 94) hx hb dX4_laysWays_78 (by decide) (fun c26 => ?_) (fun c26 => ?_)
        · have h := zif_f c26 h
          refine lv_iinc (v := (v15 + (1 : Int32))) (lv' := [(6, .int (v15 + (1 : Int32))), (0, .ref a_this), (1, .ref a_then), (2, .int p1), (3, .int v1), (4, .int v4.2), (5, .int v4.1)]) hx hb dX4_laysWays_94 hl (k := 6) rfl rfl (by decide) rfl (fun ls hl => ?_)
          refine lv_goto (tgt := 48) hx hb dX4_laysWays_97 (by decide) ?_
          exact ih48 (v15 + (1 : Int32)) v4.1 v17 v18 v19 v20 v21 v22 h _ _ hP hD hS ls (lv_sub hl [1, 2, 3, 4, 5, 6, 0] rfl)
        · have h := zif_t c26 h
          refine lv_aload_n hx hb dX4_laysWays_81 rfl (lv_at hl 0 rfl) ?_
          refine lv_iload_n hx hb dX4_laysWays_82 rfl (lv_at hl 2 rfl) ?_
          refine lv_aload_n hx hb dX4_laysWays_83 rfl (lv_at hl 0 rfl) ?_
          refine lv_iconst (v := (1 : Int32)) hx hb dX4_laysWays_84 (by decide) ?_
          refine lv_iload hx hb dX4_laysWays_85 (lv_at hl 6 rfl) ?_
          refine lv_ishl hx hb dX4_laysWays_87 ?_
          obtain ⟨v27, hv27, h⟩ := zbnd h
          have hPc := hP.sub (ws' := [(a_this, .inr (4, [.int f_thrown, .ref a_s, .ref a_then, .ref a_past, .int f_saved, .ref a_text, .int f_length, .int v4.1, .int v4.2, .ref a_met, .ref a_table, .ref a_ways, .ref a_waysOf, .ref a_into, .int v17, .int f_isTold, .int f_rests, .int f_leastRest, .int f_mostRest, .int f_isWheel, .int f_ended, .int f_spot, .ref a_orders, .int f_ordered, .int f_cureAmount, .int f_cureRelay, .int f_cureWhich, .long f_hash]))]) [0] rfl
          refine zc_i (W.runV (C := RX4) (As := [.int ((1 : Int32) <<< (v15 &&& (31 : Int32)))]) (rest := [.int p1, .ref a_this]) ⟨hx, hb, hml, hown, hts⟩ (c_X4_changed l D cI cC cO cJ fu a_this a_s a_then a_past a_text a_met a_table a_ways a_waysOf a_into a_orders f_thrown f_saved f_length v4.1 v4.2 v17 f_isTold f_rests f_leastRest f_mostRest f_isWheel f_ended f_spot f_ordered f_cureAmount f_cureRelay f_cureWhich f_hash ((1 : Int32) <<< (v15 &&& (31 : Int32))) v27 hv27) (cwV 1 hts gX4_laysWays_X4_changed rfl rfl rfl (by decide +kernel) ⟨Nat.le_of_ble_eq_true rfl, Nat.le_of_ble_eq_true rfl⟩) ⟨zPr_blind, (va_recv hK hP (q0 := 0) (ci := 4) rfl rfl), zPr_pre hK hPc⟩ rfl rfl hl.1 rfl (lv_room (Nat.le_of_ble_eq_true rfl)) dX4_laysWays_88 ⟨Nat.zero_le _, Nat.zero_le _⟩) ?_
          obtain ⟨v28, hv28, h⟩ := zbnd h
          have hPc := hP.sub (ws' := [(a_this, .inr (4, [.int f_thrown, .ref a_s, .ref a_then, .ref a_past, .int f_saved, .ref a_text, .int f_length, .int v4.1, .int v4.2, .ref a_met, .ref a_table, .ref a_ways, .ref a_waysOf, .ref a_into, .int v17, .int f_isTold, .int f_rests, .int f_leastRest, .int f_mostRest, .int f_isWheel, .int f_ended, .int f_spot, .ref a_orders, .int f_ordered, .int f_cureAmount, .int f_cureRelay, .int f_cureWhich, .long f_hash])), (a_met, .inl (cI, 301, .inl v18)), (a_table, .inl (cI, 1024, .inl v19)), (a_ways, .inl (cI, 2107, .inl v20)), (a_waysOf, .inl (cI, 301, .inl v21)), (a_into, .inl (cI, 301, .inl v22))]) [0, 2, 3, 4, 5, 6] rfl
          have hDc := hD.sub (ws' := [(a_this, .inr (4, [.int f_thrown, .ref a_s, .ref a_then, .ref a_past, .int f_saved, .ref a_text, .int f_length, .int v4.1, .int v4.2, .ref a_met, .ref a_table, .ref a_ways, .ref a_waysOf, .ref a_into, .int v17, .int f_isTold, .int f_rests, .int f_leastRest, .int f_mostRest, .int f_isWheel, .int f_ended, .int f_spot, .ref a_orders, .int f_ordered, .int f_cureAmount, .int f_cureRelay, .int f_cureWhich, .long f_hash])), (a_met, .inl (cI, 301, .inl v18)), (a_table, .inl (cI, 1024, .inl v19)), (a_ways, .inl (cI, 2107, .inl v20)), (a_waysOf, .inl (cI, 301, .inl v21)), (a_into, .inl (cI, 301, .inl v22))]) [0, 2, 3, 4, 5, 6] (by decide) rfl
          have hFc := va_free (wc := [(a_this, .inr (4, [.int f_thrown, .ref a_s, .ref a_then, .ref a_past, .int f_saved, .ref a_text, .int f_length, .int v4.1, .int v4.2, .ref a_met, .ref a_table, .ref a_ways, .ref a_waysOf, .ref a_into, .int v17, .int f_isTold, .int f_rests, .int f_leastRest, .int f_mostRest, .int f_isWheel, .int f_ended, .int f_spot, .ref a_orders, .int f_ordered, .int f_cureAmount, .int f_cureRelay, .int f_cureWhich, .long f_hash])), (a_met, .inl (cI, 301, .inl v18)), (a_table, .inl (cI, 1024, .inl v19)), (a_ways, .inl (cI, 2107, .inl v20)), (a_waysOf, .inl (cI, 301, .inl v21)), (a_into, .inl (cI, 301, .inl v22))]) hD hS hA [0, 2, 3, 4, 5, 6] rfl
          refine zc_wv (va_runV (C := RX4) (As := [.int p1, .int v27]) (rest := []) ⟨hx, hb, hml, hown, hts⟩ (c_X4_laysWay l D cI cC cO cJ fu a_this a_s a_then a_past a_text a_met a_table a_ways a_waysOf a_into a_orders _ f_thrown f_saved f_length v4.1 v4.2 v17 f_isTold f_rests f_leastRest f_mostRest f_isWheel f_ended f_spot f_ordered f_cureAmount f_cureRelay f_cureWhich f_hash v18 v19 v20 v21 v22 p1 v27 v28 hv28) (cwV 2 hts gX4_laysWays_X4_laysWay rfl rfl rfl (by decide +kernel) ⟨Nat.le_of_ble_eq_true rfl, Nat.le_of_ble_eq_true rfl⟩) ⟨zPw_blind, (va_recv hK hP (q0 := 0) (ci := 4) rfl rfl), zPw_pre hK hPc hDc⟩ rfl rfl hl.1 rfl (lv_room (Nat.le_of_ble_eq_true rfl)) dX4_laysWays_91 ⟨Nat.zero_le _, Nat.zero_le _⟩) hS hFc (fun H locs hk1 hP1 hS => ?_)
          obtain ⟨hP, hD⟩ := zjn (ws' := [(a_this, .inr (4, [.int f_thrown, .ref a_s, .ref a_then, .ref a_past, .int f_saved, .ref a_text, .int f_length, .int v4.1, .int v4.2, .ref a_met, .ref a_table, .ref a_ways, .ref a_waysOf, .ref a_into, .int v28.1, .int f_isTold, .int f_rests, .int f_leastRest, .int f_mostRest, .int f_isWheel, .int f_ended, .int f_spot, .ref a_orders, .int f_ordered, .int f_cureAmount, .int f_cureRelay, .int f_cureWhich, .long f_hash])), (a_then, .inl (cI, 88, .inl f_then)), (a_met, .inl (cI, 301, .inl v28.2.1)), (a_table, .inl (cI, 1024, .inl v28.2.2.1)), (a_ways, .inl (cI, 2107, .inl v28.2.2.2.1)), (a_waysOf, .inl (cI, 301, .inl v28.2.2.2.2.1)), (a_into, .inl (cI, 301, .inl v28.2.2.2.2.2))]) hP hD [0, 2, 3, 4, 5, 6] [.inr 0, .inl 1, .inr 1, .inr 2, .inr 3, .inr 4, .inr 5] rfl rfl rfl hk1 hP1
          refine lv_iinc (v := (v15 + (1 : Int32))) (lv' := [(6, .int (v15 + (1 : Int32))), (0, .ref a_this), (1, .ref a_then), (2, .int p1), (3, .int v1), (4, .int v4.2), (5, .int v4.1)]) hx hb dX4_laysWays_94 hl (k := 6) rfl rfl (by decide) rfl (fun ls hl => ?_)
          refine lv_goto (tgt := 48) hx hb dX4_laysWays_97 (by decide) ?_
          exact ih48 (v15 + (1 : Int32)) v4.1 v28.1 v28.2.1 v28.2.2.1 v28.2.2.2.1 v28.2.2.2.2.1 v28.2.2.2.2.2 h _ _ hP hD hS ls (lv_sub hl [1, 2, 3, 4, 5, 6, 0] rfl)
  · have h := zif_f c3 h
    have hR := Option.some.inj h
    subst hR
    exact W.vret hx hb hr (fun t ht hW => ⟨⟨(), rfl, trivial, zhp ht hP⟩, hS.F ht⟩) hS.2.2 dX4_laysWays_15
def F_X4_hasWheel_E123 (f_meets : Int32) (v4 : Int32) (v5 : Int32) (v6 : Nat → Int32) (v7 : Nat → Int32) : Option (Int32 × (Nat → Int32) × (Nat → Int32)) := if f_meets ≤ v4 then some ((0 : Int32), v6, v7) else some ((1 : Int32), v6, v7)
def F_X4_hasWheel_E117 (rec39 : Int32 → Int32 → (Nat → Int32) → (Nat → Int32) → Option (Int32 × (Nat → Int32) × (Nat → Int32))) (v10 : Int32) (v15 : Int32) (v16 : Int32) (v17 : Nat → Int32) (v18 : Nat → Int32) : Option (Int32 × (Nat → Int32) × (Nat → Int32)) := rec39 v15 (v10 + (1 : Int32)) v17 v18
def F_X4_hasWheel_L54 (f_ways : Nat → Int32) (f_waysOf : Nat → Int32) (v14 : Int32) (k54 : Int32 → Int32 → (Nat → Int32) → (Nat → Int32) → Option (Int32 × (Nat → Int32) × (Nat → Int32))) (rec54 : Int32 → Int32 → (Nat → Int32) → (Nat → Int32) → Option (Int32 × (Nat → Int32) × (Nat → Int32))) (v19 : Int32) (v20 : Int32) (v21 : Nat → Int32) (v22 : Nat → Int32) : Option (Int32 × (Nat → Int32) × (Nat → Int32)) := (zrd f_waysOf 301 v14).bind fun v23 => if v23 ≤ v20 then k54 v19 v20 v21 v22 else (zrd f_ways 2107 (((7 : Int32) * v14) + v20)).bind fun v25 => (zrd v22 301 v25).bind fun v26 => (zwr v22 301 v25 (v26 - (1 : Int32))).bind fun v27 => (zrd v27 301 v25).bind fun v28 => if v28 = (0 : Int32) then (zwr v21 1024 v19 v25).bind fun v30 => rec54 (v19 + (1 : Int32)) (v20 + (1 : Int32)) v30 v27 else rec54 v19 (v20 + (1 : Int32)) v21 v27
def F_X4_hasWheel_L39 (fu : Nat) (f_ways : Nat → Int32) (f_waysOf : Nat → Int32) (k39 : Int32 → Int32 → (Nat → Int32) → (Nat → Int32) → Option (Int32 × (Nat → Int32) × (Nat → Int32))) (rec39 : Int32 → Int32 → (Nat → Int32) → (Nat → Int32) → Option (Int32 × (Nat → Int32) × (Nat → Int32))) (v9 : Int32) (v10 : Int32) (v11 : Nat → Int32) (v12 : Nat → Int32) : Option (Int32 × (Nat → Int32) × (Nat → Int32)) := if v9 ≤ v10 then k39 v9 v10 v11 v12 else (zrd v11 1024 v10).bind fun v14 => zlp4 (F_X4_hasWheel_L54 f_ways f_waysOf v14 (F_X4_hasWheel_E117 rec39 v10)) fu v9 (0 : Int32) v11 v12
def F_X4_hasWheel_E37 (fu : Nat) (f_into : Nat → Int32) (f_meets : Int32) (f_ways : Nat → Int32) (f_waysOf : Nat → Int32) (v1 : Int32) (v2 : Int32) (v3 : Nat → Int32) : Option (Int32 × (Nat → Int32) × (Nat → Int32)) := zlp4 (F_X4_hasWheel_L39 fu f_ways f_waysOf (F_X4_hasWheel_E123 f_meets)) fu v1 (0 : Int32) v3 f_into
def F_X4_hasWheel_L4 (f_into : Nat → Int32) (f_meets : Int32) (k4 : Int32 → Int32 → (Nat → Int32) → Option (Int32 × (Nat → Int32) × (Nat → Int32))) (rec4 : Int32 → Int32 → (Nat → Int32) → Option (Int32 × (Nat → Int32) × (Nat → Int32))) (v31 : Int32) (v32 : Int32) (v33 : Nat → Int32) : Option (Int32 × (Nat → Int32) × (Nat → Int32)) := if f_meets ≤ v32 then k4 v31 v32 v33 else (zrd f_into 301 v32).bind fun v35 => if v35 = (0 : Int32) then (zwr v33 1024 v31 v32).bind fun v37 => rec4 (v31 + (1 : Int32)) (v32 + (1 : Int32)) v37 else rec4 v31 (v32 + (1 : Int32)) v33
def F_X4_hasWheel (fu : Nat) (f_meets : Int32) (f_table : Nat → Int32) (f_ways : Nat → Int32) (f_waysOf : Nat → Int32) (f_into : Nat → Int32) : Option (Int32 × (Nat → Int32) × (Nat → Int32)) := zlp3 (F_X4_hasWheel_L4 f_into f_meets (F_X4_hasWheel_E37 fu f_into f_meets f_ways f_waysOf)) fu (0 : Int32) (0 : Int32) f_table
set_option maxHeartbeats 4000000 in
set_option maxRecDepth 100000 in
theorem c_X4_hasWheel (l : Launch) (D : va_G) (cI cC cO cJ : ClassId) (fu : Nat) (a_this a_s a_then a_past a_text a_met a_table a_ways a_waysOf a_into a_orders : Nat) (sz : Nat) (f_thrown : Int32) (f_saved : Int32) (f_length : Int32) (f_counted : Int32) (f_due : Int32) (f_meets : Int32) (f_isTold : Int32) (f_rests : Int32) (f_leastRest : Int32) (f_mostRest : Int32) (f_isWheel : Int32) (f_ended : Int32) (f_spot : Int32) (f_ordered : Int32) (f_cureAmount : Int32) (f_cureRelay : Int32) (f_cureWhich : Int32) (f_hash : Int64) (f_table : Nat → Int32) (f_ways : Nat → Int32) (f_waysOf : Nat → Int32) (f_into : Nat → Int32) (R : Int32 × (Nat → Int32) × (Nat → Int32)) (h : F_X4_hasWheel fu f_meets f_table f_ways f_waysOf f_into = some R) : Met l yX4_hasWheel wsX4_hasWheel ({ frames := 0, cells := 0, slots := 0, locals := 0 } : Room) (zPw D (ztys cI cC cO cJ) [(a_this, .inr (4, [.int f_thrown, .ref a_s, .ref a_then, .ref a_past, .int f_saved, .ref a_text, .int f_length, .int f_counted, .int f_due, .ref a_met, .ref a_table, .ref a_ways, .ref a_waysOf, .ref a_into, .int f_meets, .int f_isTold, .int f_rests, .int f_leastRest, .int f_mostRest, .int f_isWheel, .int f_ended, .int f_spot, .ref a_orders, .int f_ordered, .int f_cureAmount, .int f_cureRelay, .int f_cureWhich, .long f_hash])), (a_table, .inl (cI, 1024, .inl f_table)), (a_ways, .inl (cI, 2107, .inl f_ways)), (a_waysOf, .inl (cI, 301, .inl f_waysOf)), (a_into, .inl (cI, 301, .inl f_into))] sz [.ref a_this]) (zWi D R.1 [(a_this, .inr (4, [.int f_thrown, .ref a_s, .ref a_then, .ref a_past, .int f_saved, .ref a_text, .int f_length, .int f_counted, .int f_due, .ref a_met, .ref a_table, .ref a_ways, .ref a_waysOf, .ref a_into, .int f_meets, .int f_isTold, .int f_rests, .int f_leastRest, .int f_mostRest, .int f_isWheel, .int f_ended, .int f_spot, .ref a_orders, .int f_ordered, .int f_cureAmount, .int f_cureRelay, .int f_cureWhich, .long f_hash])), (a_table, .inl (cI, 1024, .inl R.2.1)), (a_ways, .inl (cI, 2107, .inl f_ways)), (a_waysOf, .inl (cI, 301, .inl f_waysOf)), (a_into, .inl (cI, 301, .inl R.2.2))] (va_A [(a_this, .inr (4, [.int f_thrown, .ref a_s, .ref a_then, .ref a_past, .int f_saved, .ref a_text, .int f_length, .int f_counted, .int f_due, .ref a_met, .ref a_table, .ref a_ways, .ref a_waysOf, .ref a_into, .int f_meets, .int f_isTold, .int f_rests, .int f_leastRest, .int f_mostRest, .int f_isWheel, .int f_ended, .int f_spot, .ref a_orders, .int f_ordered, .int f_cureAmount, .int f_cureRelay, .int f_cureWhich, .long f_hash])), (a_table, .inl (cI, 1024, .inl f_table)), (a_ways, .inl (cI, 2107, .inl f_ways)), (a_waysOf, .inl (cI, 301, .inl f_waysOf)), (a_into, .inl (cI, 301, .inl f_into))] sz)) 0 0 (va_A [(a_this, .inr (4, [.int f_thrown, .ref a_s, .ref a_then, .ref a_past, .int f_saved, .ref a_text, .int f_length, .int f_counted, .int f_due, .ref a_met, .ref a_table, .ref a_ways, .ref a_waysOf, .ref a_into, .int f_meets, .int f_isTold, .int f_rests, .int f_leastRest, .int f_mostRest, .int f_isWheel, .int f_ended, .int f_spot, .ref a_orders, .int f_ordered, .int f_cureAmount, .int f_cureRelay, .int f_cureWhich, .long f_hash])), (a_table, .inl (cI, 1024, .inl f_table)), (a_ways, .inl (cI, 2107, .inl f_ways)), (a_waysOf, .inl (cI, 301, .inl f_waysOf)), (a_into, .inl (cI, 301, .inl f_into))] sz) := by
  refine Met.ofW (cc := cX4_hasWheel) (maxL := 6) (ret := (some .boolean)) (by decide) rfl ?_
  intro p e s m args below meth c s₁ B hml hv
  obtain ⟨rfl, hsz, hP, hK, hD0⟩ := hv
  have hx := B.exec
  have hb := B.bytes
  have hr := B.returns
  have hts := atoms_spec (ws := wsX4_hasWheel) B.pre
  have hown : s.vm.findClass RX4 = some m.cls := findClass_of_methodNamed B.named
  have hlocks := B.notSynchronized
  have hinX4 : ∀ w ∈ wsX40, w ∈ wsX4_hasWheel := fun _ h => (List.mem_cons_of_mem _ (List.mem_append_right _ h))
  subst hsz
  have hD := hD0.self (sz := s.heap.size)
  generalize hAe : va_A [(a_this, .inr (4, [.int f_thrown, .ref a_s, .ref a_then, .ref a_past, .int f_saved, .ref a_text, .int f_length, .int f_counted, .int f_due, .ref a_met, .ref a_table, .ref a_ways, .ref a_waysOf, .ref a_into, .int f_meets, .int f_isTold, .int f_rests, .int f_leastRest, .int f_mostRest, .int f_isWheel, .int f_ended, .int f_spot, .ref a_orders, .int f_ordered, .int f_cureAmount, .int f_cureRelay, .int f_cureWhich, .long f_hash])), (a_table, .inl (cI, 1024, .inl f_table)), (a_ways, .inl (cI, 2107, .inl f_ways)), (a_waysOf, .inl (cI, 301, .inl f_waysOf)), (a_into, .inl (cI, 301, .inl f_into))] s.heap.size = A at hD ⊢
  have hA : ∀ q : Nat, s.heap.size ≤ q → A q := fun q h => by rw [← hAe]; exact Or.inr h
  have hS : va_S A s.heap s.heap [] := va_S.rf
  have hP : va_P D vwCl [(a_this, .inr (4, [.int f_thrown, .ref a_s, .ref a_then, .ref a_past, .int f_saved, .ref a_text, .int f_length, .int f_counted, .int f_due, .ref a_met, .ref a_table, .ref a_ways, .ref a_waysOf, .ref a_into, .int f_meets, .int f_isTold, .int f_rests, .int f_leastRest, .int f_mostRest, .int f_isWheel, .int f_ended, .int f_spot, .ref a_orders, .int f_ordered, .int f_cureAmount, .int f_cureRelay, .int f_cureWhich, .long f_hash])), (a_table, .inl (cI, 1024, .inl f_table)), (a_ways, .inl (cI, 2107, .inl f_ways)), (a_waysOf, .inl (cI, 301, .inl f_waysOf)), (a_into, .inl (cI, 301, .inl f_into))] s.heap := hP
  have hK : va_K D vwCl (ztys cI cC cO cJ) s := hK
  have hl := lv_entry ([.ref a_this]) (n := 6) (Nat.le_of_ble_eq_true rfl)
  rw [lg_entry_eq]
  generalize (lg_sl ([.ref a_this]) ++ List.replicate (6 - (lg_sl ([.ref a_this])).length) Slot.unset).toArray = ls at hl ⊢
  have hl : lv_has ls 6 [(0, .ref a_this)] := hl
  unfold F_X4_hasWheel at h
  refine lv_iconst (v := (0 : Int32)) hx hb dX4_hasWheel_0 (by decide) ?_
  refine lv_istore_n (lv' := [(1, .int (0 : Int32)), (0, .ref a_this)]) hx hb dX4_hasWheel_1 rfl hl (by decide) rfl (fun ls hl => ?_)
  refine lv_iconst (v := (0 : Int32)) hx hb dX4_hasWheel_2 (by decide) ?_
  refine lv_istore_n (lv' := [(2, .int (0 : Int32)), (1, .int (0 : Int32)), (0, .ref a_this)]) hx hb dX4_hasWheel_3 rfl hl (by decide) rfl (fun ls hl => ?_)
  have E37 : ∀ (v1 : Int32) (v2 : Int32) (v3 : Nat → Int32), F_X4_hasWheel_E37 fu f_into f_meets f_ways f_waysOf v1 v2 v3 = some R → ∀ (H : Heap) (locs : List Loc), va_P D vwCl [(a_this, .inr (4, [.int f_thrown, .ref a_s, .ref a_then, .ref a_past, .int f_saved, .ref a_text, .int f_length, .int f_counted, .int f_due, .ref a_met, .ref a_table, .ref a_ways, .ref a_waysOf, .ref a_into, .int f_meets, .int f_isTold, .int f_rests, .int f_leastRest, .int f_mostRest, .int f_isWheel, .int f_ended, .int f_spot, .ref a_orders, .int f_ordered, .int f_cureAmount, .int f_cureRelay, .int f_cureWhich, .long f_hash])), (a_table, .inl (cI, 1024, .inl v3)), (a_ways, .inl (cI, 2107, .inl f_ways)), (a_waysOf, .inl (cI, 301, .inl f_waysOf)), (a_into, .inl (cI, 301, .inl f_into))] H → va_D A [(a_this, .inr (4, [.int f_thrown, .ref a_s, .ref a_then, .ref a_past, .int f_saved, .ref a_text, .int f_length, .int f_counted, .int f_due, .ref a_met, .ref a_table, .ref a_ways, .ref a_waysOf, .ref a_into, .int f_meets, .int f_isTold, .int f_rests, .int f_leastRest, .int f_mostRest, .int f_isWheel, .int f_ended, .int f_spot, .ref a_orders, .int f_ordered, .int f_cureAmount, .int f_cureRelay, .int f_cureWhich, .long f_hash])), (a_table, .inl (cI, 1024, .inl v3)), (a_ways, .inl (cI, 2107, .inl f_ways)), (a_waysOf, .inl (cI, 301, .inl f_waysOf)), (a_into, .inl (cI, 301, .inl f_into))] → va_S A s.heap H locs → ∀ ls : Array Slot, lv_has ls 6 [(0, .ref a_this), (1, .int v1), (2, .int v2)] → W p l e ({ frames := 0, cells := 0, slots := 0, locals := 0 } : Room) s m (([.ref a_this] : List Value).toArray) below meth c H locs 0 0 (MQ below (zWi D R.1 [(a_this, .inr (4, [.int f_thrown, .ref a_s, .ref a_then, .ref a_past, .int f_saved, .ref a_text, .int f_length, .int f_counted, .int f_due, .ref a_met, .ref a_table, .ref a_ways, .ref a_waysOf, .ref a_into, .int f_meets, .int f_isTold, .int f_rests, .int f_leastRest, .int f_mostRest, .int f_isWheel, .int f_ended, .int f_spot, .ref a_orders, .int f_ordered, .int f_cureAmount, .int f_cureRelay, .int f_cureWhich, .long f_hash])), (a_table, .inl (cI, 1024, .inl R.2.1)), (a_ways, .inl (cI, 2107, .inl f_ways)), (a_waysOf, .inl (cI, 301, .inl f_waysOf)), (a_into, .inl (cI, 301, .inl R.2.2))] A) (([.ref a_this] : List Value).toArray) s 0 0 A) (F0 m 37 ls []) := by
    intro v1 v2 v3 h H locs hP hD hS ls hl
    unfold F_X4_hasWheel_E37 at h
    refine lv_iconst (v := (0 : Int32)) hx hb dX4_hasWheel_37 (by decide) ?_
    refine lv_istore_n (lv' := [(2, .int (0 : Int32)), (0, .ref a_this), (1, .int v1)]) hx hb dX4_hasWheel_38 rfl hl (by decide) rfl (fun ls hl => ?_)
    have E123 : ∀ (v4 : Int32) (v5 : Int32) (v6 : Nat → Int32) (v7 : Nat → Int32), F_X4_hasWheel_E123 f_meets v4 v5 v6 v7 = some R → ∀ (H : Heap) (locs : List Loc), va_P D vwCl [(a_this, .inr (4, [.int f_thrown, .ref a_s, .ref a_then, .ref a_past, .int f_saved, .ref a_text, .int f_length, .int f_counted, .int f_due, .ref a_met, .ref a_table, .ref a_ways, .ref a_waysOf, .ref a_into, .int f_meets, .int f_isTold, .int f_rests, .int f_leastRest, .int f_mostRest, .int f_isWheel, .int f_ended, .int f_spot, .ref a_orders, .int f_ordered, .int f_cureAmount, .int f_cureRelay, .int f_cureWhich, .long f_hash])), (a_table, .inl (cI, 1024, .inl v6)), (a_ways, .inl (cI, 2107, .inl f_ways)), (a_waysOf, .inl (cI, 301, .inl f_waysOf)), (a_into, .inl (cI, 301, .inl v7))] H → va_D A [(a_this, .inr (4, [.int f_thrown, .ref a_s, .ref a_then, .ref a_past, .int f_saved, .ref a_text, .int f_length, .int f_counted, .int f_due, .ref a_met, .ref a_table, .ref a_ways, .ref a_waysOf, .ref a_into, .int f_meets, .int f_isTold, .int f_rests, .int f_leastRest, .int f_mostRest, .int f_isWheel, .int f_ended, .int f_spot, .ref a_orders, .int f_ordered, .int f_cureAmount, .int f_cureRelay, .int f_cureWhich, .long f_hash])), (a_table, .inl (cI, 1024, .inl v6)), (a_ways, .inl (cI, 2107, .inl f_ways)), (a_waysOf, .inl (cI, 301, .inl f_waysOf)), (a_into, .inl (cI, 301, .inl v7))] → va_S A s.heap H locs → ∀ ls : Array Slot, lv_has ls 6 [(0, .ref a_this), (1, .int v4), (2, .int v5)] → W p l e ({ frames := 0, cells := 0, slots := 0, locals := 0 } : Room) s m (([.ref a_this] : List Value).toArray) below meth c H locs 0 0 (MQ below (zWi D R.1 [(a_this, .inr (4, [.int f_thrown, .ref a_s, .ref a_then, .ref a_past, .int f_saved, .ref a_text, .int f_length, .int f_counted, .int f_due, .ref a_met, .ref a_table, .ref a_ways, .ref a_waysOf, .ref a_into, .int f_meets, .int f_isTold, .int f_rests, .int f_leastRest, .int f_mostRest, .int f_isWheel, .int f_ended, .int f_spot, .ref a_orders, .int f_ordered, .int f_cureAmount, .int f_cureRelay, .int f_cureWhich, .long f_hash])), (a_table, .inl (cI, 1024, .inl R.2.1)), (a_ways, .inl (cI, 2107, .inl f_ways)), (a_waysOf, .inl (cI, 301, .inl f_waysOf)), (a_into, .inl (cI, 301, .inl R.2.2))] A) (([.ref a_this] : List Value).toArray) s 0 0 A) (F0 m 123 ls []) := by
      intro v4 v5 v6 v7 h H locs hP hD hS ls hl
      unfold F_X4_hasWheel_E123 at h
      refine lv_iload_n hx hb dX4_hasWheel_123 rfl (lv_at hl 1 rfl) ?_
      refine lv_aload_n hx hb dX4_hasWheel_124 rfl (lv_at hl 0 rfl) ?_
      refine va_get (D := D) (ci := 4) (v := .int f_meets) (C := RX4) (T := TX4) (N := 28) hx hb hts hinX4 hown hK hP 0 rfl rfl 14 (by decide) (hts (Cond.fieldLink RX4 82 "LadderRelaysModel" "meets" "I") (List.mem_of_getElem? (i := 1) rfl)) (fun _ h9 => h9) rfl dX4_hasWheel_125 ?_
      refine lv_icmp_ge (tgt := 135) hx hb dX4_hasWheel_128 (by decide) (fun c8 => ?_) (fun c8 => ?_)
      · have h := zif_t c8 h
        refine lv_iconst (v := (0 : Int32)) hx hb dX4_hasWheel_135 (by decide) ?_
        have hR := Option.some.inj h
        subst hR
        exact W.zret (v := (0 : Int32)) (ty := .boolean) hx hb hr rfl (fun t ht hW => ⟨⟨_, (), rfl, rfl, zhp ht hP⟩, hS.F ht⟩) hS.2.2 dX4_hasWheel_136
      · have h := zif_f c8 h
        refine lv_iconst (v := (1 : Int32)) hx hb dX4_hasWheel_131 (by decide) ?_
        refine lv_goto (tgt := 136) hx hb dX4_hasWheel_132 (by decide) ?_
        have hR := Option.some.inj h
        subst hR
        exact W.zret (v := (1 : Int32)) (ty := .boolean) hx hb hr rfl (fun t ht hW => ⟨⟨_, (), rfl, rfl, zhp ht hP⟩, hS.F ht⟩) hS.2.2 dX4_hasWheel_136
    refine zlp_i4 (R := R) (P := fun (v9 : Int32) (v10 : Int32) (v11 : Nat → Int32) (v12 : Nat → Int32) => ∀ (H : Heap) (locs : List Loc), va_P D vwCl [(a_this, .inr (4, [.int f_thrown, .ref a_s, .ref a_then, .ref a_past, .int f_saved, .ref a_text, .int f_length, .int f_counted, .int f_due, .ref a_met, .ref a_table, .ref a_ways, .ref a_waysOf, .ref a_into, .int f_meets, .int f_isTold, .int f_rests, .int f_leastRest, .int f_mostRest, .int f_isWheel, .int f_ended, .int f_spot, .ref a_orders, .int f_ordered, .int f_cureAmount, .int f_cureRelay, .int f_cureWhich, .long f_hash])), (a_table, .inl (cI, 1024, .inl v11)), (a_ways, .inl (cI, 2107, .inl f_ways)), (a_waysOf, .inl (cI, 301, .inl f_waysOf)), (a_into, .inl (cI, 301, .inl v12))] H → va_D A [(a_this, .inr (4, [.int f_thrown, .ref a_s, .ref a_then, .ref a_past, .int f_saved, .ref a_text, .int f_length, .int f_counted, .int f_due, .ref a_met, .ref a_table, .ref a_ways, .ref a_waysOf, .ref a_into, .int f_meets, .int f_isTold, .int f_rests, .int f_leastRest, .int f_mostRest, .int f_isWheel, .int f_ended, .int f_spot, .ref a_orders, .int f_ordered, .int f_cureAmount, .int f_cureRelay, .int f_cureWhich, .long f_hash])), (a_table, .inl (cI, 1024, .inl v11)), (a_ways, .inl (cI, 2107, .inl f_ways)), (a_waysOf, .inl (cI, 301, .inl f_waysOf)), (a_into, .inl (cI, 301, .inl v12))] → va_S A s.heap H locs → ∀ ls : Array Slot, lv_has ls 6 [(0, .ref a_this), (1, .int v9), (2, .int v10)] → W p l e ({ frames := 0, cells := 0, slots := 0, locals := 0 } : Room) s m (([.ref a_this] : List Value).toArray) below meth c H locs 0 0 (MQ below (zWi D R.1 [(a_this, .inr (4, [.int f_thrown, .ref a_s, .ref a_then, .ref a_past, .int f_saved, .ref a_text, .int f_length, .int f_counted, .int f_due, .ref a_met, .ref a_table, .ref a_ways, .ref a_waysOf, .ref a_into, .int f_meets, .int f_isTold, .int f_rests, .int f_leastRest, .int f_mostRest, .int f_isWheel, .int f_ended, .int f_spot, .ref a_orders, .int f_ordered, .int f_cureAmount, .int f_cureRelay, .int f_cureWhich, .long f_hash])), (a_table, .inl (cI, 1024, .inl R.2.1)), (a_ways, .inl (cI, 2107, .inl f_ways)), (a_waysOf, .inl (cI, 301, .inl f_waysOf)), (a_into, .inl (cI, 301, .inl R.2.2))] A) (([.ref a_this] : List Value).toArray) s 0 0 A) (F0 m 39 ls [])) (fun rec39 ih39 v9 v10 v11 v12 h => ?_) fu v1 (0 : Int32) v3 f_into h _ _ hP hD hS ls (lv_sub hl [1, 2, 0] rfl)
    intro H locs hP hD hS ls hl
    unfold F_X4_hasWheel_L39 at h
    refine lv_iload_n hx hb dX4_hasWheel_39 rfl (lv_at hl 2 rfl) ?_
    refine lv_iload_n hx hb dX4_hasWheel_40 rfl (lv_at hl 1 rfl) ?_
    refine lv_icmp_ge (tgt := 123) hx hb dX4_hasWheel_41 (by decide) (fun c13 => ?_) (fun c13 => ?_)
    · have h := zif_t c13 h
      exact E123 v9 v10 v11 v12 h _ _ hP hD hS ls (lv_sub hl [0, 1, 2] rfl)
    · have h := zif_f c13 h
      refine lv_aload_n hx hb dX4_hasWheel_44 rfl (lv_at hl 0 rfl) ?_
      refine va_get (D := D) (ci := 4) (v := .ref a_table) (C := RX4) (T := TX4) (N := 28) hx hb hts hinX4 hown hK hP 0 rfl rfl 10 (by decide) (hts (Cond.fieldLink RX4 26 "LadderRelaysModel" "table" "[I") (List.mem_of_getElem? (i := 3) rfl)) (fun _ h9 => h9) rfl dX4_hasWheel_45 ?_
      refine lv_iload_n hx hb dX4_hasWheel_48 rfl (lv_at hl 2 rfl) ?_
      obtain ⟨v14, hv14, h⟩ := zbnd h
      refine zr_iald hx hb hK hP 1 0 rfl rfl hv14 dX4_hasWheel_49 ?_
      refine lv_istore_n (lv' := [(3, .int v14), (0, .ref a_this), (1, .int v9), (2, .int v10)]) hx hb dX4_hasWheel_50 rfl hl (by decide) rfl (fun ls hl => ?_)
      refine lv_iconst (v := (0 : Int32)) hx hb dX4_hasWheel_51 (by decide) ?_
      refine lv_istore (lv' := [(4, .int (0 : Int32)), (3, .int v14), (0, .ref a_this), (1, .int v9), (2, .int v10)]) hx hb dX4_hasWheel_52 hl (by decide) rfl (fun ls hl => ?_)
      have E117 : ∀ (v15 : Int32) (v16 : Int32) (v17 : Nat → Int32) (v18 : Nat → Int32), F_X4_hasWheel_E117 rec39 v10 v15 v16 v17 v18 = some R → ∀ (H : Heap) (locs : List Loc), va_P D vwCl [(a_this, .inr (4, [.int f_thrown, .ref a_s, .ref a_then, .ref a_past, .int f_saved, .ref a_text, .int f_length, .int f_counted, .int f_due, .ref a_met, .ref a_table, .ref a_ways, .ref a_waysOf, .ref a_into, .int f_meets, .int f_isTold, .int f_rests, .int f_leastRest, .int f_mostRest, .int f_isWheel, .int f_ended, .int f_spot, .ref a_orders, .int f_ordered, .int f_cureAmount, .int f_cureRelay, .int f_cureWhich, .long f_hash])), (a_table, .inl (cI, 1024, .inl v17)), (a_ways, .inl (cI, 2107, .inl f_ways)), (a_waysOf, .inl (cI, 301, .inl f_waysOf)), (a_into, .inl (cI, 301, .inl v18))] H → va_D A [(a_this, .inr (4, [.int f_thrown, .ref a_s, .ref a_then, .ref a_past, .int f_saved, .ref a_text, .int f_length, .int f_counted, .int f_due, .ref a_met, .ref a_table, .ref a_ways, .ref a_waysOf, .ref a_into, .int f_meets, .int f_isTold, .int f_rests, .int f_leastRest, .int f_mostRest, .int f_isWheel, .int f_ended, .int f_spot, .ref a_orders, .int f_ordered, .int f_cureAmount, .int f_cureRelay, .int f_cureWhich, .long f_hash])), (a_table, .inl (cI, 1024, .inl v17)), (a_ways, .inl (cI, 2107, .inl f_ways)), (a_waysOf, .inl (cI, 301, .inl f_waysOf)), (a_into, .inl (cI, 301, .inl v18))] → va_S A s.heap H locs → ∀ ls : Array Slot, lv_has ls 6 [(0, .ref a_this), (1, .int v15), (2, .int v10), (3, .int v14), (4, .int v16)] → W p l e ({ frames := 0, cells := 0, slots := 0, locals := 0 } : Room) s m (([.ref a_this] : List Value).toArray) below meth c H locs 0 0 (MQ below (zWi D R.1 [(a_this, .inr (4, [.int f_thrown, .ref a_s, .ref a_then, .ref a_past, .int f_saved, .ref a_text, .int f_length, .int f_counted, .int f_due, .ref a_met, .ref a_table, .ref a_ways, .ref a_waysOf, .ref a_into, .int f_meets, .int f_isTold, .int f_rests, .int f_leastRest, .int f_mostRest, .int f_isWheel, .int f_ended, .int f_spot, .ref a_orders, .int f_ordered, .int f_cureAmount, .int f_cureRelay, .int f_cureWhich, .long f_hash])), (a_table, .inl (cI, 1024, .inl R.2.1)), (a_ways, .inl (cI, 2107, .inl f_ways)), (a_waysOf, .inl (cI, 301, .inl f_waysOf)), (a_into, .inl (cI, 301, .inl R.2.2))] A) (([.ref a_this] : List Value).toArray) s 0 0 A) (F0 m 117 ls []) := by
        intro v15 v16 v17 v18 h H locs hP hD hS ls hl
        unfold F_X4_hasWheel_E117 at h
        refine lv_iinc (v := (v10 + (1 : Int32))) (lv' := [(2, .int (v10 + (1 : Int32))), (0, .ref a_this), (1, .int v15), (3, .int v14), (4, .int v16)]) hx hb dX4_hasWheel_117 hl (k := 2) rfl rfl (by decide) rfl (fun ls hl => ?_)
        refine lv_goto (tgt := 39) hx hb dX4_hasWheel_120 (by decide) ?_
        exact ih39 v15 (v10 + (1 : Int32)) v17 v18 h _ _ hP hD hS ls (lv_sub hl [1, 2, 0] rfl)
      refine zlp_i4 (R := R) (P := fun (v19 : Int32) (v20 : Int32) (v21 : Nat → Int32) (v22 : Nat → Int32) => ∀ (H : Heap) (locs : List Loc), va_P D vwCl [(a_this, .inr (4, [.int f_thrown, .ref a_s, .ref a_then, .ref a_past, .int f_saved, .ref a_text, .int f_length, .int f_counted, .int f_due, .ref a_met, .ref a_table, .ref a_ways, .ref a_waysOf, .ref a_into, .int f_meets, .int f_isTold, .int f_rests, .int f_leastRest, .int f_mostRest, .int f_isWheel, .int f_ended, .int f_spot, .ref a_orders, .int f_ordered, .int f_cureAmount, .int f_cureRelay, .int f_cureWhich, .long f_hash])), (a_table, .inl (cI, 1024, .inl v21)), (a_ways, .inl (cI, 2107, .inl f_ways)), (a_waysOf, .inl (cI, 301, .inl f_waysOf)), (a_into, .inl (cI, 301, .inl v22))] H → va_D A [(a_this, .inr (4, [.int f_thrown, .ref a_s, .ref a_then, .ref a_past, .int f_saved, .ref a_text, .int f_length, .int f_counted, .int f_due, .ref a_met, .ref a_table, .ref a_ways, .ref a_waysOf, .ref a_into, .int f_meets, .int f_isTold, .int f_rests, .int f_leastRest, .int f_mostRest, .int f_isWheel, .int f_ended, .int f_spot, .ref a_orders, .int f_ordered, .int f_cureAmount, .int f_cureRelay, .int f_cureWhich, .long f_hash])), (a_table, .inl (cI, 1024, .inl v21)), (a_ways, .inl (cI, 2107, .inl f_ways)), (a_waysOf, .inl (cI, 301, .inl f_waysOf)), (a_into, .inl (cI, 301, .inl v22))] → va_S A s.heap H locs → ∀ ls : Array Slot, lv_has ls 6 [(0, .ref a_this), (1, .int v19), (2, .int v10), (3, .int v14), (4, .int v20)] → W p l e ({ frames := 0, cells := 0, slots := 0, locals := 0 } : Room) s m (([.ref a_this] : List Value).toArray) below meth c H locs 0 0 (MQ below (zWi D R.1 [(a_this, .inr (4, [.int f_thrown, .ref a_s, .ref a_then, .ref a_past, .int f_saved, .ref a_text, .int f_length, .int f_counted, .int f_due, .ref a_met, .ref a_table, .ref a_ways, .ref a_waysOf, .ref a_into, .int f_meets, .int f_isTold, .int f_rests, .int f_leastRest, .int f_mostRest, .int f_isWheel, .int f_ended, .int f_spot, .ref a_orders, .int f_ordered, .int f_cureAmount, .int f_cureRelay, .int f_cureWhich, .long f_hash])), (a_table, .inl (cI, 1024, .inl R.2.1)), (a_ways, .inl (cI, 2107, .inl f_ways)), (a_waysOf, .inl (cI, 301, .inl f_waysOf)), (a_into, .inl (cI, 301, .inl R.2.2))] A) (([.ref a_this] : List Value).toArray) s 0 0 A) (F0 m 54 ls [])) (fun rec54 ih54 v19 v20 v21 v22 h => ?_) fu v9 (0 : Int32) v11 v12 h _ _ hP hD hS ls (lv_sub hl [2, 3, 4, 1, 0] rfl)
      intro H locs hP hD hS ls hl
      unfold F_X4_hasWheel_L54 at h
      refine lv_iload hx hb dX4_hasWheel_54 (lv_at hl 4 rfl) ?_
      refine lv_aload_n hx hb dX4_hasWheel_56 rfl (lv_at hl 0 rfl) ?_
      refine va_get (D := D) (ci := 4) (v := .ref a_waysOf) (C := RX4) (T := TX4) (N := 28) hx hb hts hinX4 hown hK hP 0 rfl rfl 12 (by decide) (hts (Cond.fieldLink RX4 32 "LadderRelaysModel" "waysOf" "[I") (List.mem_of_getElem? (i := 4) rfl)) (fun _ h9 => h9) rfl dX4_hasWheel_57 ?_
      refine lv_iload_n hx hb dX4_hasWheel_60 rfl (lv_at hl 3 rfl) ?_
      obtain ⟨v23, hv23, h⟩ := zbnd h
      refine zr_iald hx hb hK hP 3 0 rfl rfl hv23 dX4_hasWheel_61 ?_
      refine lv_icmp_ge (tgt := 117) hx hb dX4_hasWheel_62 (by decide) (fun c24 => ?_) (fun c24 => ?_)
      · have h := zif_t c24 h
        exact E117 v19 v20 v21 v22 h _ _ hP hD hS ls (lv_sub hl [0, 1, 2, 3, 4] rfl)
      · have h := zif_f c24 h
        refine lv_aload_n hx hb dX4_hasWheel_65 rfl (lv_at hl 0 rfl) ?_
        refine va_get (D := D) (ci := 4) (v := .ref a_ways) (C := RX4) (T := TX4) (N := 28) hx hb hts hinX4 hown hK hP 0 rfl rfl 11 (by decide) (hts (Cond.fieldLink RX4 29 "LadderRelaysModel" "ways" "[I") (List.mem_of_getElem? (i := 5) rfl)) (fun _ h9 => h9) rfl dX4_hasWheel_66 ?_
        refine lv_bipush (v := (7 : Int32)) hx hb dX4_hasWheel_69 (by decide) ?_
        refine lv_iload_n hx hb dX4_hasWheel_71 rfl (lv_at hl 3 rfl) ?_
        refine lv_imul hx hb dX4_hasWheel_72 ?_
        refine lv_iload hx hb dX4_hasWheel_73 (lv_at hl 4 rfl) ?_
        refine lv_iadd hx hb dX4_hasWheel_75 ?_
        obtain ⟨v25, hv25, h⟩ := zbnd h
        refine zr_iald hx hb hK hP 2 0 rfl rfl hv25 dX4_hasWheel_76 ?_
        refine lv_istore (lv' := [(5, .int v25), (0, .ref a_this), (1, .int v19), (2, .int v10), (3, .int v14), (4, .int v20)]) hx hb dX4_hasWheel_77 hl (by decide) rfl (fun ls hl => ?_)
        refine lv_aload_n hx hb dX4_hasWheel_79 rfl (lv_at hl 1 rfl) ?_
        refine va_get (D := D) (ci := 4) (v := .ref a_into) (C := RX4) (T := TX4) (N := 28) hx hb hts hinX4 hown hK hP 0 rfl rfl 13 (by decide) (hts (Cond.fieldLink RX4 35 "LadderRelaysModel" "into" "[I") (List.mem_of_getElem? (i := 2) rfl)) (fun _ h9 => h9) rfl dX4_hasWheel_80 ?_
        refine lv_iload hx hb dX4_hasWheel_83 (lv_at hl 0 rfl) ?_
        refine lv_dup2_11 hx hb dX4_hasWheel_85 rfl rfl ?_
        obtain ⟨v26, hv26, h⟩ := zbnd h
        refine zr_iald hx hb hK hP 4 0 rfl rfl hv26 dX4_hasWheel_86 ?_
        refine lv_iconst (v := (1 : Int32)) hx hb dX4_hasWheel_87 (by decide) ?_
        refine lv_isub hx hb dX4_hasWheel_88 ?_
        obtain ⟨v27, hv27, h⟩ := zbnd h
        refine zr_iast hx hb hK hP hD hS 4 0 rfl rfl hv27 dX4_hasWheel_89 (fun H locs hP hD hS => ?_)
        have hP : va_P D vwCl [(a_this, .inr (4, [.int f_thrown, .ref a_s, .ref a_then, .ref a_past, .int f_saved, .ref a_text, .int f_length, .int f_counted, .int f_due, .ref a_met, .ref a_table, .ref a_ways, .ref a_waysOf, .ref a_into, .int f_meets, .int f_isTold, .int f_rests, .int f_leastRest, .int f_mostRest, .int f_isWheel, .int f_ended, .int f_spot, .ref a_orders, .int f_ordered, .int f_cureAmount, .int f_cureRelay, .int f_cureWhich, .long f_hash])), (a_table, .inl (cI, 1024, .inl v21)), (a_ways, .inl (cI, 2107, .inl f_ways)), (a_waysOf, .inl (cI, 301, .inl f_waysOf)), (a_into, .inl (cI, 301, .inl v27))] H := hP
        have hD : va_D A [(a_this, .inr (4, [.int f_thrown, .ref a_s, .ref a_then, .ref a_past, .int f_saved, .ref a_text, .int f_length, .int f_counted, .int f_due, .ref a_met, .ref a_table, .ref a_ways, .ref a_waysOf, .ref a_into, .int f_meets, .int f_isTold, .int f_rests, .int f_leastRest, .int f_mostRest, .int f_isWheel, .int f_ended, .int f_spot, .ref a_orders, .int f_ordered, .int f_cureAmount, .int f_cureRelay, .int f_cureWhich, .long f_hash])), (a_table, .inl (cI, 1024, .inl v21)), (a_ways, .inl (cI, 2107, .inl f_ways)), (a_waysOf, .inl (cI, 301, .inl f_waysOf)), (a_into, .inl (cI, 301, .inl v27))] := hD
        refine lv_aload_n hx hb dX4_hasWheel_90 rfl (lv_at hl 1 rfl) ?_
        refine va_get (D := D) (ci := 4) (v := .ref a_into) (C := RX4) (T := TX4) (N := 28) hx hb hts hinX4 hown hK hP 0 rfl rfl 13 (by decide) (hts (Cond.fieldLink RX4 35 "LadderRelaysModel" "into" "[I") (List.mem_of_getElem? (i := 2) rfl)) (fun _ h9 => h9) rfl dX4_hasWheel_91 ?_
        refine lv_iload hx hb dX4_hasWheel_94 (lv_at hl 0 rfl) ?_
        obtain ⟨v28, hv28, h⟩ := zbnd h
        refine zr_iald hx hb hK hP 4 0 rfl rfl hv28 dX4_hasWheel_96 ?_
        refine lv_if_ne (tgt := 111) hx hb dX4_hasWheel_97 (by decide) (fun c29 => ?_) (fun c29 => ?_)
        · have h := zif_f c29 h
          refine lv_iinc (v := (v20 + (1 : Int32))) (lv' := [(4, .int (v20 + (1 : Int32))), (5, .int v25), (0, .ref a_this), (1, .int v19), (2, .int v10), (3, .int v14)]) hx hb dX4_hasWheel_111 hl (k := 5) rfl rfl (by decide) rfl (fun ls hl => ?_)
          refine lv_goto (tgt := 54) hx hb dX4_hasWheel_114 (by decide) ?_
          exact ih54 v19 (v20 + (1 : Int32)) v21 v27 h _ _ hP hD hS ls (lv_sub hl [2, 3, 4, 5, 0] rfl)
        · have h := zif_t c29 h
          refine lv_aload_n hx hb dX4_hasWheel_100 rfl (lv_at hl 1 rfl) ?_
          refine va_get (D := D) (ci := 4) (v := .ref a_table) (C := RX4) (T := TX4) (N := 28) hx hb hts hinX4 hown hK hP 0 rfl rfl 10 (by decide) (hts (Cond.fieldLink RX4 26 "LadderRelaysModel" "table" "[I") (List.mem_of_getElem? (i := 3) rfl)) (fun _ h9 => h9) rfl dX4_hasWheel_101 ?_
          refine lv_iload_n hx hb dX4_hasWheel_104 rfl (lv_at hl 2 rfl) ?_
          refine lv_iload hx hb dX4_hasWheel_105 (lv_at hl 0 rfl) ?_
          obtain ⟨v30, hv30, h⟩ := zbnd h
          refine zr_iast hx hb hK hP hD hS 1 0 rfl rfl hv30 dX4_hasWheel_107 (fun H locs hP hD hS => ?_)
          have hP : va_P D vwCl [(a_this, .inr (4, [.int f_thrown, .ref a_s, .ref a_then, .ref a_past, .int f_saved, .ref a_text, .int f_length, .int f_counted, .int f_due, .ref a_met, .ref a_table, .ref a_ways, .ref a_waysOf, .ref a_into, .int f_meets, .int f_isTold, .int f_rests, .int f_leastRest, .int f_mostRest, .int f_isWheel, .int f_ended, .int f_spot, .ref a_orders, .int f_ordered, .int f_cureAmount, .int f_cureRelay, .int f_cureWhich, .long f_hash])), (a_table, .inl (cI, 1024, .inl v30)), (a_ways, .inl (cI, 2107, .inl f_ways)), (a_waysOf, .inl (cI, 301, .inl f_waysOf)), (a_into, .inl (cI, 301, .inl v27))] H := hP
          have hD : va_D A [(a_this, .inr (4, [.int f_thrown, .ref a_s, .ref a_then, .ref a_past, .int f_saved, .ref a_text, .int f_length, .int f_counted, .int f_due, .ref a_met, .ref a_table, .ref a_ways, .ref a_waysOf, .ref a_into, .int f_meets, .int f_isTold, .int f_rests, .int f_leastRest, .int f_mostRest, .int f_isWheel, .int f_ended, .int f_spot, .ref a_orders, .int f_ordered, .int f_cureAmount, .int f_cureRelay, .int f_cureWhich, .long f_hash])), (a_table, .inl (cI, 1024, .inl v30)), (a_ways, .inl (cI, 2107, .inl f_ways)), (a_waysOf, .inl (cI, 301, .inl f_waysOf)), (a_into, .inl (cI, 301, .inl v27))] := hD
          refine lv_iinc (v := (v19 + (1 : Int32))) (lv' := [(1, .int (v19 + (1 : Int32))), (5, .int v25), (0, .ref a_this), (2, .int v10), (3, .int v14), (4, .int v20)]) hx hb dX4_hasWheel_108 hl (k := 2) rfl rfl (by decide) rfl (fun ls hl => ?_)
          refine lv_iinc (v := (v20 + (1 : Int32))) (lv' := [(4, .int (v20 + (1 : Int32))), (1, .int (v19 + (1 : Int32))), (5, .int v25), (0, .ref a_this), (2, .int v10), (3, .int v14)]) hx hb dX4_hasWheel_111 hl (k := 5) rfl rfl (by decide) rfl (fun ls hl => ?_)
          refine lv_goto (tgt := 54) hx hb dX4_hasWheel_114 (by decide) ?_
          exact ih54 (v19 + (1 : Int32)) (v20 + (1 : Int32)) v30 v27 h _ _ hP hD hS ls (lv_sub hl [3, 1, 4, 5, 0] rfl)
  refine zlp_i3 (R := R) (P := fun (v31 : Int32) (v32 : Int32) (v33 : Nat → Int32) => ∀ (H : Heap) (locs : List Loc), va_P D vwCl [(a_this, .inr (4, [.int f_thrown, .ref a_s, .ref a_then, .ref a_past, .int f_saved, .ref a_text, .int f_length, .int f_counted, .int f_due, .ref a_met, .ref a_table, .ref a_ways, .ref a_waysOf, .ref a_into, .int f_meets, .int f_isTold, .int f_rests, .int f_leastRest, .int f_mostRest, .int f_isWheel, .int f_ended, .int f_spot, .ref a_orders, .int f_ordered, .int f_cureAmount, .int f_cureRelay, .int f_cureWhich, .long f_hash])), (a_table, .inl (cI, 1024, .inl v33)), (a_ways, .inl (cI, 2107, .inl f_ways)), (a_waysOf, .inl (cI, 301, .inl f_waysOf)), (a_into, .inl (cI, 301, .inl f_into))] H → va_D A [(a_this, .inr (4, [.int f_thrown, .ref a_s, .ref a_then, .ref a_past, .int f_saved, .ref a_text, .int f_length, .int f_counted, .int f_due, .ref a_met, .ref a_table, .ref a_ways, .ref a_waysOf, .ref a_into, .int f_meets, .int f_isTold, .int f_rests, .int f_leastRest, .int f_mostRest, .int f_isWheel, .int f_ended, .int f_spot, .ref a_orders, .int f_ordered, .int f_cureAmount, .int f_cureRelay, .int f_cureWhich, .long f_hash])), (a_table, .inl (cI, 1024, .inl v33)), (a_ways, .inl (cI, 2107, .inl f_ways)), (a_waysOf, .inl (cI, 301, .inl f_waysOf)), (a_into, .inl (cI, 301, .inl f_into))] → va_S A s.heap H locs → ∀ ls : Array Slot, lv_has ls 6 [(0, .ref a_this), (1, .int v31), (2, .int v32)] → W p l e ({ frames := 0, cells := 0, slots := 0, locals := 0 } : Room) s m (([.ref a_this] : List Value).toArray) below meth c H locs 0 0 (MQ below (zWi D R.1 [(a_this, .inr (4, [.int f_thrown, .ref a_s, .ref a_then, .ref a_past, .int f_saved, .ref a_text, .int f_length, .int f_counted, .int f_due, .ref a_met, .ref a_table, .ref a_ways, .ref a_waysOf, .ref a_into, .int f_meets, .int f_isTold, .int f_rests, .int f_leastRest, .int f_mostRest, .int f_isWheel, .int f_ended, .int f_spot, .ref a_orders, .int f_ordered, .int f_cureAmount, .int f_cureRelay, .int f_cureWhich, .long f_hash])), (a_table, .inl (cI, 1024, .inl R.2.1)), (a_ways, .inl (cI, 2107, .inl f_ways)), (a_waysOf, .inl (cI, 301, .inl f_waysOf)), (a_into, .inl (cI, 301, .inl R.2.2))] A) (([.ref a_this] : List Value).toArray) s 0 0 A) (F0 m 4 ls [])) (fun rec4 ih4 v31 v32 v33 h => ?_) fu (0 : Int32) (0 : Int32) f_table h _ _ hP hD hS ls (lv_sub hl [2, 1, 0] rfl)
  intro H locs hP hD hS ls hl
  unfold F_X4_hasWheel_L4 at h
  refine lv_iload_n hx hb dX4_hasWheel_4 rfl (lv_at hl 2 rfl) ?_
  refine lv_aload_n hx hb dX4_hasWheel_5 rfl (lv_at hl 0 rfl) ?_
  refine va_get (D := D) (ci := 4) (v := .int f_meets) (C := RX4) (T := TX4) (N := 28) hx hb hts hinX4 hown hK hP 0 rfl rfl 14 (by decide) (hts (Cond.fieldLink RX4 82 "LadderRelaysModel" "meets" "I") (List.mem_of_getElem? (i := 1) rfl)) (fun _ h9 => h9) rfl dX4_hasWheel_6 ?_
  refine lv_icmp_ge (tgt := 37) hx hb dX4_hasWheel_9 (by decide) (fun c34 => ?_) (fun c34 => ?_)
  · have h := zif_t c34 h
    exact E37 v31 v32 v33 h _ _ hP hD hS ls (lv_sub hl [0, 1, 2] rfl)
  · have h := zif_f c34 h
    refine lv_aload_n hx hb dX4_hasWheel_12 rfl (lv_at hl 0 rfl) ?_
    refine va_get (D := D) (ci := 4) (v := .ref a_into) (C := RX4) (T := TX4) (N := 28) hx hb hts hinX4 hown hK hP 0 rfl rfl 13 (by decide) (hts (Cond.fieldLink RX4 35 "LadderRelaysModel" "into" "[I") (List.mem_of_getElem? (i := 2) rfl)) (fun _ h9 => h9) rfl dX4_hasWheel_13 ?_
    refine lv_iload_n hx hb dX4_hasWheel_16 rfl (lv_at hl 2 rfl) ?_
    obtain ⟨v35, hv35, h⟩ := zbnd h
    refine zr_iald hx hb hK hP 4 0 rfl rfl hv35 dX4_hasWheel_17 ?_
    refine lv_if_ne (tgt := 31) hx hb dX4_hasWheel_18 (by decide) (fun c36 => ?_) (fun c36 => ?_)
    · have h := zif_f c36 h
      refine lv_iinc (v := (v32 + (1 : Int32))) (lv' := [(2, .int (v32 + (1 : Int32))), (0, .ref a_this), (1, .int v31)]) hx hb dX4_hasWheel_31 hl (k := 2) rfl rfl (by decide) rfl (fun ls hl => ?_)
      refine lv_goto (tgt := 4) hx hb dX4_hasWheel_34 (by decide) ?_
      exact ih4 v31 (v32 + (1 : Int32)) v33 h _ _ hP hD hS ls (lv_sub hl [1, 2, 0] rfl)
    · have h := zif_t c36 h
      refine lv_aload_n hx hb dX4_hasWheel_21 rfl (lv_at hl 0 rfl) ?_
      refine va_get (D := D) (ci := 4) (v := .ref a_table) (C := RX4) (T := TX4) (N := 28) hx hb hts hinX4 hown hK hP 0 rfl rfl 10 (by decide) (hts (Cond.fieldLink RX4 26 "LadderRelaysModel" "table" "[I") (List.mem_of_getElem? (i := 3) rfl)) (fun _ h9 => h9) rfl dX4_hasWheel_22 ?_
      refine lv_iload_n hx hb dX4_hasWheel_25 rfl (lv_at hl 1 rfl) ?_
      refine lv_iload_n hx hb dX4_hasWheel_26 rfl (lv_at hl 2 rfl) ?_
      obtain ⟨v37, hv37, h⟩ := zbnd h
      refine zr_iast hx hb hK hP hD hS 1 0 rfl rfl hv37 dX4_hasWheel_27 (fun H locs hP hD hS => ?_)
      have hP : va_P D vwCl [(a_this, .inr (4, [.int f_thrown, .ref a_s, .ref a_then, .ref a_past, .int f_saved, .ref a_text, .int f_length, .int f_counted, .int f_due, .ref a_met, .ref a_table, .ref a_ways, .ref a_waysOf, .ref a_into, .int f_meets, .int f_isTold, .int f_rests, .int f_leastRest, .int f_mostRest, .int f_isWheel, .int f_ended, .int f_spot, .ref a_orders, .int f_ordered, .int f_cureAmount, .int f_cureRelay, .int f_cureWhich, .long f_hash])), (a_table, .inl (cI, 1024, .inl v37)), (a_ways, .inl (cI, 2107, .inl f_ways)), (a_waysOf, .inl (cI, 301, .inl f_waysOf)), (a_into, .inl (cI, 301, .inl f_into))] H := hP
      have hD : va_D A [(a_this, .inr (4, [.int f_thrown, .ref a_s, .ref a_then, .ref a_past, .int f_saved, .ref a_text, .int f_length, .int f_counted, .int f_due, .ref a_met, .ref a_table, .ref a_ways, .ref a_waysOf, .ref a_into, .int f_meets, .int f_isTold, .int f_rests, .int f_leastRest, .int f_mostRest, .int f_isWheel, .int f_ended, .int f_spot, .ref a_orders, .int f_ordered, .int f_cureAmount, .int f_cureRelay, .int f_cureWhich, .long f_hash])), (a_table, .inl (cI, 1024, .inl v37)), (a_ways, .inl (cI, 2107, .inl f_ways)), (a_waysOf, .inl (cI, 301, .inl f_waysOf)), (a_into, .inl (cI, 301, .inl f_into))] := hD
      refine lv_iinc (v := (v31 + (1 : Int32))) (lv' := [(1, .int (v31 + (1 : Int32))), (0, .ref a_this), (2, .int v32)]) hx hb dX4_hasWheel_28 hl (k := 1) rfl rfl (by decide) rfl (fun ls hl => ?_)
      refine lv_iinc (v := (v32 + (1 : Int32))) (lv' := [(2, .int (v32 + (1 : Int32))), (1, .int (v31 + (1 : Int32))), (0, .ref a_this)]) hx hb dX4_hasWheel_31 hl (k := 2) rfl rfl (by decide) rfl (fun ls hl => ?_)
      refine lv_goto (tgt := 4) hx hb dX4_hasWheel_34 (by decide) ?_
      exact ih4 (v31 + (1 : Int32)) (v32 + (1 : Int32)) v37 h _ _ hP hD hS ls (lv_sub hl [2, 1, 0] rfl)
def F_X4_looksAtRests_s_E141  (v1 : Int64) (v2 : Int32) (v3 : Int32) (v4 : Int32) (v5 : Int32) : Option (Int32 × Int32 × Int32) := some (v3, v4, v5)
def F_X4_looksAtRests_s_J110 (rec20 : Int64 → Int32 → Int32 → Int32 → Int32 → Option (Int32 × Int32 × Int32)) (v6 : Int64) (v7 : Int32) (v8 : Int32) (v10 : Int32) (v13 : Int32) (v18 : Int32) : Option (Int32 × Int32 × Int32) := if v13 ≤ v10 then rec20 (v6 ||| ((1 : Int64) <<< (v13.toInt64 &&& 63))) (v7 + (1 : Int32)) (v8 + (1 : Int32)) v18 v10 else rec20 (v6 ||| ((1 : Int64) <<< (v13.toInt64 &&& 63))) (v7 + (1 : Int32)) (v8 + (1 : Int32)) v18 v13
def F_X4_looksAtRests_s_L20 (fu : Nat) (f_meets : Int32) (f_met : Nat → Int32) (f_s : Nat → Int32) (k20 : Int64 → Int32 → Int32 → Int32 → Int32 → Option (Int32 × Int32 × Int32)) (rec20 : Int64 → Int32 → Int32 → Int32 → Int32 → Option (Int32 × Int32 × Int32)) (v6 : Int64) (v7 : Int32) (v8 : Int32) (v9 : Int32) (v10 : Int32) : Option (Int32 × Int32 × Int32) := if f_meets ≤ v7 then k20 v6 v7 v8 v9 v10 else (zrd f_met 301 v7).bind fun v12 => (F_X4_upOf fu v12).bind fun v13 => (zrd f_met 301 v7).bind fun v14 => (F_X4_isQuiet fu f_s 88 v14).bind fun v15 => if v15 = (0 : Int32) then rec20 v6 (v7 + (1 : Int32)) v8 v9 v10 else if (lg_cmp ((v6 >>> (v13.toInt64 &&& 63)) &&& (1 : Int64)) (0 : Int64)) = (0 : Int32) then if v9 = (-1 : Int32) then F_X4_looksAtRests_s_J110 rec20 v6 v7 v8 v10 v13 v13 else if v9 ≤ v13 then F_X4_looksAtRests_s_J110 rec20 v6 v7 v8 v10 v13 v9 else F_X4_looksAtRests_s_J110 rec20 v6 v7 v8 v10 v13 v13 else rec20 v6 (v7 + (1 : Int32)) v8 v9 v10
def F_X4_looksAtRests_s (fu : Nat) (f_meets : Int32) (f_rests : Int32) (f_leastRest : Int32) (f_mostRest : Int32) (f_s : Nat → Int32) (f_met : Nat → Int32) : Option (Int32 × Int32 × Int32) := zlp5 (F_X4_looksAtRests_s_L20 fu f_meets f_met f_s (F_X4_looksAtRests_s_E141)) fu (0 : Int64) (0 : Int32) (0 : Int32) (-1 : Int32) (-1 : Int32)
set_option maxHeartbeats 4000000 in
set_option maxRecDepth 100000 in
theorem c_X4_looksAtRests_s (l : Launch) (D : va_G) (cI cC cO cJ : ClassId) (fu : Nat) (a_this a_s a_then a_past a_text a_met a_table a_ways a_waysOf a_into a_orders : Nat) (sz : Nat) (f_thrown : Int32) (f_saved : Int32) (f_length : Int32) (f_counted : Int32) (f_due : Int32) (f_meets : Int32) (f_isTold : Int32) (f_rests : Int32) (f_leastRest : Int32) (f_mostRest : Int32) (f_isWheel : Int32) (f_ended : Int32) (f_spot : Int32) (f_ordered : Int32) (f_cureAmount : Int32) (f_cureRelay : Int32) (f_cureWhich : Int32) (f_hash : Int64) (f_s : Nat → Int32) (f_met : Nat → Int32) (R : Int32 × Int32 × Int32) (h : F_X4_looksAtRests_s fu f_meets f_rests f_leastRest f_mostRest f_s f_met = some R) : Met l yX4_looksAtRests wsX4_looksAtRests ({ frames := 4, cells := 0, slots := 0, locals := 92 } : Room) (zPw D (ztys cI cC cO cJ) [(a_this, .inr (4, [.int f_thrown, .ref a_s, .ref a_then, .ref a_past, .int f_saved, .ref a_text, .int f_length, .int f_counted, .int f_due, .ref a_met, .ref a_table, .ref a_ways, .ref a_waysOf, .ref a_into, .int f_meets, .int f_isTold, .int f_rests, .int f_leastRest, .int f_mostRest, .int f_isWheel, .int f_ended, .int f_spot, .ref a_orders, .int f_ordered, .int f_cureAmount, .int f_cureRelay, .int f_cureWhich, .long f_hash])), (a_s, .inl (cI, 88, .inl f_s)), (a_met, .inl (cI, 301, .inl f_met))] sz [.ref a_this, .ref a_s]) (zWv D [(a_this, .inr (4, [.int f_thrown, .ref a_s, .ref a_then, .ref a_past, .int f_saved, .ref a_text, .int f_length, .int f_counted, .int f_due, .ref a_met, .ref a_table, .ref a_ways, .ref a_waysOf, .ref a_into, .int f_meets, .int f_isTold, .int R.1, .int R.2.1, .int R.2.2, .int f_isWheel, .int f_ended, .int f_spot, .ref a_orders, .int f_ordered, .int f_cureAmount, .int f_cureRelay, .int f_cureWhich, .long f_hash])), (a_s, .inl (cI, 88, .inl f_s)), (a_met, .inl (cI, 301, .inl f_met))] (va_A [(a_this, .inr (4, [.int f_thrown, .ref a_s, .ref a_then, .ref a_past, .int f_saved, .ref a_text, .int f_length, .int f_counted, .int f_due, .ref a_met, .ref a_table, .ref a_ways, .ref a_waysOf, .ref a_into, .int f_meets, .int f_isTold, .int f_rests, .int f_leastRest, .int f_mostRest, .int f_isWheel, .int f_ended, .int f_spot, .ref a_orders, .int f_ordered, .int f_cureAmount, .int f_cureRelay, .int f_cureWhich, .long f_hash])), (a_s, .inl (cI, 88, .inl f_s)), (a_met, .inl (cI, 301, .inl f_met))] sz)) 0 0 (va_A [(a_this, .inr (4, [.int f_thrown, .ref a_s, .ref a_then, .ref a_past, .int f_saved, .ref a_text, .int f_length, .int f_counted, .int f_due, .ref a_met, .ref a_table, .ref a_ways, .ref a_waysOf, .ref a_into, .int f_meets, .int f_isTold, .int f_rests, .int f_leastRest, .int f_mostRest, .int f_isWheel, .int f_ended, .int f_spot, .ref a_orders, .int f_ordered, .int f_cureAmount, .int f_cureRelay, .int f_cureWhich, .long f_hash])), (a_s, .inl (cI, 88, .inl f_s)), (a_met, .inl (cI, 301, .inl f_met))] sz) := by
  refine Met.ofW (cc := cX4_looksAtRests) (maxL := 6) (ret := none) (by decide) rfl ?_
  intro p e s m args below meth c s₁ B hml hv
  obtain ⟨rfl, hsz, hP, hK, hD0⟩ := hv
  have hx := B.exec
  have hb := B.bytes
  have hr := B.returns
  have hts := atoms_spec (ws := wsX4_looksAtRests) B.pre
  have hown : s.vm.findClass RX4 = some m.cls := findClass_of_methodNamed B.named
  have hlocks := B.notSynchronized
  have hinX4 : ∀ w ∈ wsX40, w ∈ wsX4_looksAtRests := fun _ h => (List.mem_cons_of_mem _ (List.mem_append_right _ h))
  subst hsz
  have hD := hD0.self (sz := s.heap.size)
  generalize hAe : va_A [(a_this, .inr (4, [.int f_thrown, .ref a_s, .ref a_then, .ref a_past, .int f_saved, .ref a_text, .int f_length, .int f_counted, .int f_due, .ref a_met, .ref a_table, .ref a_ways, .ref a_waysOf, .ref a_into, .int f_meets, .int f_isTold, .int f_rests, .int f_leastRest, .int f_mostRest, .int f_isWheel, .int f_ended, .int f_spot, .ref a_orders, .int f_ordered, .int f_cureAmount, .int f_cureRelay, .int f_cureWhich, .long f_hash])), (a_s, .inl (cI, 88, .inl f_s)), (a_met, .inl (cI, 301, .inl f_met))] s.heap.size = A at hD ⊢
  have hA : ∀ q : Nat, s.heap.size ≤ q → A q := fun q h => by rw [← hAe]; exact Or.inr h
  have hS : va_S A s.heap s.heap [] := va_S.rf
  have hP : va_P D vwCl [(a_this, .inr (4, [.int f_thrown, .ref a_s, .ref a_then, .ref a_past, .int f_saved, .ref a_text, .int f_length, .int f_counted, .int f_due, .ref a_met, .ref a_table, .ref a_ways, .ref a_waysOf, .ref a_into, .int f_meets, .int f_isTold, .int f_rests, .int f_leastRest, .int f_mostRest, .int f_isWheel, .int f_ended, .int f_spot, .ref a_orders, .int f_ordered, .int f_cureAmount, .int f_cureRelay, .int f_cureWhich, .long f_hash])), (a_s, .inl (cI, 88, .inl f_s)), (a_met, .inl (cI, 301, .inl f_met))] s.heap := hP
  have hK : va_K D vwCl (ztys cI cC cO cJ) s := hK
  have hl := lv_entry ([.ref a_this, .ref a_s]) (n := 6) (Nat.le_of_ble_eq_true rfl)
  rw [lg_entry_eq]
  generalize (lg_sl ([.ref a_this, .ref a_s]) ++ List.replicate (6 - (lg_sl ([.ref a_this, .ref a_s])).length) Slot.unset).toArray = ls at hl ⊢
  have hl : lv_has ls 6 [(0, .ref a_this), (1, .ref a_s)] := hl
  unfold F_X4_looksAtRests_s at h
  refine lv_lconst (v := (0 : Int64)) hx hb dX4_looksAtRests_0 (by decide) ?_
  refine lv_lstore_n (lv' := [(2, .long (0 : Int64)), (0, .ref a_this), (1, .ref a_s)]) hx hb dX4_looksAtRests_1 rfl hl (by decide) rfl (fun ls hl => ?_)
  refine lv_aload_n hx hb dX4_looksAtRests_2 rfl (lv_at hl 1 rfl) ?_
  refine lv_iconst (v := (0 : Int32)) hx hb dX4_looksAtRests_3 (by decide) ?_
  refine va_put (D := D) (ci := 4) (v := .int (0 : Int32)) (ty := .int) (C := RX4) (T := TX4) (N := 28) hx hb hts hinX4 tyX4 tyX4_ok nmX4 hown hK hP hD hS 0 rfl rfl 16 (by decide) (hts (Cond.fieldLink RX4 106 "LadderRelaysModel" "rests" "I") (List.mem_of_getElem? (i := 1) rfl)) (fun _ h9 => h9) rfl (by decide +kernel) rfl rfl (Nat.le_of_ble_eq_true rfl) dX4_looksAtRests_4 (fun H locs hP hD hS => ?_)
  have hP : va_P D vwCl [(a_this, .inr (4, [.int f_thrown, .ref a_s, .ref a_then, .ref a_past, .int f_saved, .ref a_text, .int f_length, .int f_counted, .int f_due, .ref a_met, .ref a_table, .ref a_ways, .ref a_waysOf, .ref a_into, .int f_meets, .int f_isTold, .int (0 : Int32), .int f_leastRest, .int f_mostRest, .int f_isWheel, .int f_ended, .int f_spot, .ref a_orders, .int f_ordered, .int f_cureAmount, .int f_cureRelay, .int f_cureWhich, .long f_hash])), (a_s, .inl (cI, 88, .inl f_s)), (a_met, .inl (cI, 301, .inl f_met))] H := hP
  have hD : va_D A [(a_this, .inr (4, [.int f_thrown, .ref a_s, .ref a_then, .ref a_past, .int f_saved, .ref a_text, .int f_length, .int f_counted, .int f_due, .ref a_met, .ref a_table, .ref a_ways, .ref a_waysOf, .ref a_into, .int f_meets, .int f_isTold, .int (0 : Int32), .int f_leastRest, .int f_mostRest, .int f_isWheel, .int f_ended, .int f_spot, .ref a_orders, .int f_ordered, .int f_cureAmount, .int f_cureRelay, .int f_cureWhich, .long f_hash])), (a_s, .inl (cI, 88, .inl f_s)), (a_met, .inl (cI, 301, .inl f_met))] := hD
  refine lv_aload_n hx hb dX4_looksAtRests_7 rfl (lv_at hl 1 rfl) ?_
  refine lv_iconst (v := (-1 : Int32)) hx hb dX4_looksAtRests_8 (by decide) ?_
  refine va_put (D := D) (ci := 4) (v := .int (-1 : Int32)) (ty := .int) (C := RX4) (T := TX4) (N := 28) hx hb hts hinX4 tyX4 tyX4_ok nmX4 hown hK hP hD hS 0 rfl rfl 17 (by decide) (hts (Cond.fieldLink RX4 109 "LadderRelaysModel" "leastRest" "I") (List.mem_of_getElem? (i := 2) rfl)) (fun _ h9 => h9) rfl (by decide +kernel) rfl rfl (Nat.le_of_ble_eq_true rfl) dX4_looksAtRests_9 (fun H locs hP hD hS => ?_)
  have hP : va_P D vwCl [(a_this, .inr (4, [.int f_thrown, .ref a_s, .ref a_then, .ref a_past, .int f_saved, .ref a_text, .int f_length, .int f_counted, .int f_due, .ref a_met, .ref a_table, .ref a_ways, .ref a_waysOf, .ref a_into, .int f_meets, .int f_isTold, .int (0 : Int32), .int (-1 : Int32), .int f_mostRest, .int f_isWheel, .int f_ended, .int f_spot, .ref a_orders, .int f_ordered, .int f_cureAmount, .int f_cureRelay, .int f_cureWhich, .long f_hash])), (a_s, .inl (cI, 88, .inl f_s)), (a_met, .inl (cI, 301, .inl f_met))] H := hP
  have hD : va_D A [(a_this, .inr (4, [.int f_thrown, .ref a_s, .ref a_then, .ref a_past, .int f_saved, .ref a_text, .int f_length, .int f_counted, .int f_due, .ref a_met, .ref a_table, .ref a_ways, .ref a_waysOf, .ref a_into, .int f_meets, .int f_isTold, .int (0 : Int32), .int (-1 : Int32), .int f_mostRest, .int f_isWheel, .int f_ended, .int f_spot, .ref a_orders, .int f_ordered, .int f_cureAmount, .int f_cureRelay, .int f_cureWhich, .long f_hash])), (a_s, .inl (cI, 88, .inl f_s)), (a_met, .inl (cI, 301, .inl f_met))] := hD
  refine lv_aload_n hx hb dX4_looksAtRests_12 rfl (lv_at hl 1 rfl) ?_
  refine lv_iconst (v := (-1 : Int32)) hx hb dX4_looksAtRests_13 (by decide) ?_
  refine va_put (D := D) (ci := 4) (v := .int (-1 : Int32)) (ty := .int) (C := RX4) (T := TX4) (N := 28) hx hb hts hinX4 tyX4 tyX4_ok nmX4 hown hK hP hD hS 0 rfl rfl 18 (by decide) (hts (Cond.fieldLink RX4 112 "LadderRelaysModel" "mostRest" "I") (List.mem_of_getElem? (i := 3) rfl)) (fun _ h9 => h9) rfl (by decide +kernel) rfl rfl (Nat.le_of_ble_eq_true rfl) dX4_looksAtRests_14 (fun H locs hP hD hS => ?_)
  have hP : va_P D vwCl [(a_this, .inr (4, [.int f_thrown, .ref a_s, .ref a_then, .ref a_past, .int f_saved, .ref a_text, .int f_length, .int f_counted, .int f_due, .ref a_met, .ref a_table, .ref a_ways, .ref a_waysOf, .ref a_into, .int f_meets, .int f_isTold, .int (0 : Int32), .int (-1 : Int32), .int (-1 : Int32), .int f_isWheel, .int f_ended, .int f_spot, .ref a_orders, .int f_ordered, .int f_cureAmount, .int f_cureRelay, .int f_cureWhich, .long f_hash])), (a_s, .inl (cI, 88, .inl f_s)), (a_met, .inl (cI, 301, .inl f_met))] H := hP
  have hD : va_D A [(a_this, .inr (4, [.int f_thrown, .ref a_s, .ref a_then, .ref a_past, .int f_saved, .ref a_text, .int f_length, .int f_counted, .int f_due, .ref a_met, .ref a_table, .ref a_ways, .ref a_waysOf, .ref a_into, .int f_meets, .int f_isTold, .int (0 : Int32), .int (-1 : Int32), .int (-1 : Int32), .int f_isWheel, .int f_ended, .int f_spot, .ref a_orders, .int f_ordered, .int f_cureAmount, .int f_cureRelay, .int f_cureWhich, .long f_hash])), (a_s, .inl (cI, 88, .inl f_s)), (a_met, .inl (cI, 301, .inl f_met))] := hD
  refine lv_iconst (v := (0 : Int32)) hx hb dX4_looksAtRests_17 (by decide) ?_
  refine lv_istore (lv' := [(4, .int (0 : Int32)), (2, .long (0 : Int64)), (0, .ref a_this), (1, .ref a_s)]) hx hb dX4_looksAtRests_18 hl (by decide) rfl (fun ls hl => ?_)
  have E141 : ∀ (v1 : Int64) (v2 : Int32) (v3 : Int32) (v4 : Int32) (v5 : Int32), F_X4_looksAtRests_s_E141 v1 v2 v3 v4 v5 = some R → ∀ (H : Heap) (locs : List Loc), va_P D vwCl [(a_this, .inr (4, [.int f_thrown, .ref a_s, .ref a_then, .ref a_past, .int f_saved, .ref a_text, .int f_length, .int f_counted, .int f_due, .ref a_met, .ref a_table, .ref a_ways, .ref a_waysOf, .ref a_into, .int f_meets, .int f_isTold, .int v3, .int v4, .int v5, .int f_isWheel, .int f_ended, .int f_spot, .ref a_orders, .int f_ordered, .int f_cureAmount, .int f_cureRelay, .int f_cureWhich, .long f_hash])), (a_s, .inl (cI, 88, .inl f_s)), (a_met, .inl (cI, 301, .inl f_met))] H → va_D A [(a_this, .inr (4, [.int f_thrown, .ref a_s, .ref a_then, .ref a_past, .int f_saved, .ref a_text, .int f_length, .int f_counted, .int f_due, .ref a_met, .ref a_table, .ref a_ways, .ref a_waysOf, .ref a_into, .int f_meets, .int f_isTold, .int v3, .int v4, .int v5, .int f_isWheel, .int f_ended, .int f_spot, .ref a_orders, .int f_ordered, .int f_cureAmount, .int f_cureRelay, .int f_cureWhich, .long f_hash])), (a_s, .inl (cI, 88, .inl f_s)), (a_met, .inl (cI, 301, .inl f_met))] → va_S A s.heap H locs → ∀ ls : Array Slot, lv_has ls 6 [(0, .ref a_this), (1, .ref a_s), (2, .long v1), (4, .int v2)] → W p l e ({ frames := 4, cells := 0, slots := 0, locals := 92 } : Room) s m (([.ref a_this, .ref a_s] : List Value).toArray) below meth c H locs 0 0 (MQ below (zWv D [(a_this, .inr (4, [.int f_thrown, .ref a_s, .ref a_then, .ref a_past, .int f_saved, .ref a_text, .int f_length, .int f_counted, .int f_due, .ref a_met, .ref a_table, .ref a_ways, .ref a_waysOf, .ref a_into, .int f_meets, .int f_isTold, .int R.1, .int R.2.1, .int R.2.2, .int f_isWheel, .int f_ended, .int f_spot, .ref a_orders, .int f_ordered, .int f_cureAmount, .int f_cureRelay, .int f_cureWhich, .long f_hash])), (a_s, .inl (cI, 88, .inl f_s)), (a_met, .inl (cI, 301, .inl f_met))] A) (([.ref a_this, .ref a_s] : List Value).toArray) s 0 0 A) (F0 m 141 ls []) := by
    intro v1 v2 v3 v4 v5 h H locs hP hD hS ls hl
    unfold F_X4_looksAtRests_s_E141 at h
    have hR := Option.some.inj h
    subst hR
    exact W.vret hx hb hr (fun t ht hW => ⟨⟨(), rfl, trivial, zhp ht hP⟩, hS.F ht⟩) hS.2.2 dX4_looksAtRests_141
  refine zlp_i5 (R := R) (P := fun (v6 : Int64) (v7 : Int32) (v8 : Int32) (v9 : Int32) (v10 : Int32) => ∀ (H : Heap) (locs : List Loc), va_P D vwCl [(a_this, .inr (4, [.int f_thrown, .ref a_s, .ref a_then, .ref a_past, .int f_saved, .ref a_text, .int f_length, .int f_counted, .int f_due, .ref a_met, .ref a_table, .ref a_ways, .ref a_waysOf, .ref a_into, .int f_meets, .int f_isTold, .int v8, .int v9, .int v10, .int f_isWheel, .int f_ended, .int f_spot, .ref a_orders, .int f_ordered, .int f_cureAmount, .int f_cureRelay, .int f_cureWhich, .long f_hash])), (a_s, .inl (cI, 88, .inl f_s)), (a_met, .inl (cI, 301, .inl f_met))] H → va_D A [(a_this, .inr (4, [.int f_thrown, .ref a_s, .ref a_then, .ref a_past, .int f_saved, .ref a_text, .int f_length, .int f_counted, .int f_due, .ref a_met, .ref a_table, .ref a_ways, .ref a_waysOf, .ref a_into, .int f_meets, .int f_isTold, .int v8, .int v9, .int v10, .int f_isWheel, .int f_ended, .int f_spot, .ref a_orders, .int f_ordered, .int f_cureAmount, .int f_cureRelay, .int f_cureWhich, .long f_hash])), (a_s, .inl (cI, 88, .inl f_s)), (a_met, .inl (cI, 301, .inl f_met))] → va_S A s.heap H locs → ∀ ls : Array Slot, lv_has ls 6 [(0, .ref a_this), (1, .ref a_s), (2, .long v6), (4, .int v7)] → W p l e ({ frames := 4, cells := 0, slots := 0, locals := 92 } : Room) s m (([.ref a_this, .ref a_s] : List Value).toArray) below meth c H locs 0 0 (MQ below (zWv D [(a_this, .inr (4, [.int f_thrown, .ref a_s, .ref a_then, .ref a_past, .int f_saved, .ref a_text, .int f_length, .int f_counted, .int f_due, .ref a_met, .ref a_table, .ref a_ways, .ref a_waysOf, .ref a_into, .int f_meets, .int f_isTold, .int R.1, .int R.2.1, .int R.2.2, .int f_isWheel, .int f_ended, .int f_spot, .ref a_orders, .int f_ordered, .int f_cureAmount, .int f_cureRelay, .int f_cureWhich, .long f_hash])), (a_s, .inl (cI, 88, .inl f_s)), (a_met, .inl (cI, 301, .inl f_met))] A) (([.ref a_this, .ref a_s] : List Value).toArray) s 0 0 A) (F0 m 20 ls [])) (fun rec20 ih20 v6 v7 v8 v9 v10 h => ?_) fu (0 : Int64) (0 : Int32) (0 : Int32) (-1 : Int32) (-1 : Int32) h _ _ hP hD hS ls (lv_sub hl [2, 3, 1, 0] rfl)
  intro H locs hP hD hS ls hl
  unfold F_X4_looksAtRests_s_L20 at h
  refine lv_iload hx hb dX4_looksAtRests_20 (lv_at hl 3 rfl) ?_
  refine lv_aload_n hx hb dX4_looksAtRests_22 rfl (lv_at hl 0 rfl) ?_
  refine va_get (D := D) (ci := 4) (v := .int f_meets) (C := RX4) (T := TX4) (N := 28) hx hb hts hinX4 hown hK hP 0 rfl rfl 14 (by decide) (hts (Cond.fieldLink RX4 82 "LadderRelaysModel" "meets" "I") (List.mem_of_getElem? (i := 4) rfl)) (fun _ h9 => h9) rfl dX4_looksAtRests_23 ?_
  refine lv_icmp_ge (tgt := 141) hx hb dX4_looksAtRests_26 (by decide) (fun c11 => ?_) (fun c11 => ?_)
  · have h := zif_t c11 h
    exact E141 v6 v7 v8 v9 v10 h _ _ hP hD hS ls (lv_sub hl [0, 1, 2, 3] rfl)
  · have h := zif_f c11 h
    refine lv_aload_n hx hb dX4_looksAtRests_29 rfl (lv_at hl 0 rfl) ?_
    refine va_get (D := D) (ci := 4) (v := .ref a_met) (C := RX4) (T := TX4) (N := 28) hx hb hts hinX4 hown hK hP 0 rfl rfl 9 (by decide) (hts (Cond.fieldLink RX4 23 "LadderRelaysModel" "met" "[I") (List.mem_of_getElem? (i := 5) rfl)) (fun _ h9 => h9) rfl dX4_looksAtRests_30 ?_
    refine lv_iload hx hb dX4_looksAtRests_33 (lv_at hl 3 rfl) ?_
    obtain ⟨v12, hv12, h⟩ := zbnd h
    refine zr_iald hx hb hK hP 2 0 rfl rfl hv12 dX4_looksAtRests_35 ?_
    obtain ⟨v13, hv13, h⟩ := zbnd h
    refine zc_i (W.runS (As := [.int v12]) (rest := []) ⟨hx, hb, hml, hown, hts⟩ (c_X4_upOf l D cI cC cO cJ fu v12 v13 hv13) (va_cwS 1 hts gX4_looksAtRests_X4_upOf rfl rfl rfl (by decide +kernel) ⟨Nat.le_of_ble_eq_true rfl, Nat.le_of_ble_eq_true rfl⟩) (zPr_S hK zP_nil) rfl rfl hl.1 rfl (lv_room (Nat.le_of_ble_eq_true rfl)) dX4_looksAtRests_36 ⟨Nat.zero_le _, Nat.zero_le _⟩) ?_
    refine lv_istore (lv' := [(5, .int v13), (0, .ref a_this), (1, .ref a_s), (2, .long v6), (4, .int v7)]) hx hb dX4_looksAtRests_39 hl (by decide) rfl (fun ls hl => ?_)
    refine lv_aload_n hx hb dX4_looksAtRests_41 rfl (lv_at hl 2 rfl) ?_
    refine lv_aload_n hx hb dX4_looksAtRests_42 rfl (lv_at hl 1 rfl) ?_
    refine va_get (D := D) (ci := 4) (v := .ref a_met) (C := RX4) (T := TX4) (N := 28) hx hb hts hinX4 hown hK hP 0 rfl rfl 9 (by decide) (hts (Cond.fieldLink RX4 23 "LadderRelaysModel" "met" "[I") (List.mem_of_getElem? (i := 5) rfl)) (fun _ h9 => h9) rfl dX4_looksAtRests_43 ?_
    refine lv_iload hx hb dX4_looksAtRests_46 (lv_at hl 4 rfl) ?_
    obtain ⟨v14, hv14, h⟩ := zbnd h
    refine zr_iald hx hb hK hP 2 0 rfl rfl hv14 dX4_looksAtRests_48 ?_
    obtain ⟨v15, hv15, h⟩ := zbnd h
    have hPc := hP.sub (ws' := [(a_s, .inl (cI, 88, .inl f_s))]) [1] rfl
    refine zc_i (W.runS (As := [.ref a_s, .int v14]) (rest := []) ⟨hx, hb, hml, hown, hts⟩ (c_X4_isQuiet l D cI cC cO cJ fu a_s f_s 88 v14 v15 hv15) (va_cwS 2 hts gX4_looksAtRests_X4_isQuiet rfl rfl rfl (by decide +kernel) ⟨Nat.le_of_ble_eq_true rfl, Nat.le_of_ble_eq_true rfl⟩) (zPr_S hK hPc) rfl rfl hl.1 rfl (lv_room (Nat.le_of_ble_eq_true rfl)) dX4_looksAtRests_49 ⟨Nat.zero_le _, Nat.zero_le _⟩) ?_
    refine lv_if_eq (tgt := 135) hx hb dX4_looksAtRests_52 (by decide) (fun c16 => ?_) (fun c16 => ?_)
    · have h := zif_t c16 h
      refine lv_iinc (v := (v7 + (1 : Int32))) (lv' := [(4, .int (v7 + (1 : Int32))), (5, .int v13), (0, .ref a_this), (1, .ref a_s), (2, .long v6)]) hx hb dX4_looksAtRests_135 hl (k := 4) rfl rfl (by decide) rfl (fun ls hl => ?_)
      refine lv_goto (tgt := 20) hx hb dX4_looksAtRests_138 (by decide) ?_
      exact ih20 v6 (v7 + (1 : Int32)) v8 v9 v10 h _ _ hP hD hS ls (lv_sub hl [2, 3, 4, 0] rfl)
    · have h := zif_f c16 h
      refine lv_lload_n hx hb dX4_looksAtRests_55 rfl (lv_at hl 3 rfl) ?_
      refine lv_iload hx hb dX4_looksAtRests_56 (lv_at hl 0 rfl) ?_
      refine lv_lshr (v := (v6 >>> (v13.toInt64 &&& 63))) hx hb dX4_looksAtRests_58 rfl ?_
      refine lv_lconst (v := (1 : Int64)) hx hb dX4_looksAtRests_59 (by decide) ?_
      refine lv_land hx hb dX4_looksAtRests_60 ?_
      refine lv_lconst (v := (0 : Int64)) hx hb dX4_looksAtRests_61 (by decide) ?_
      refine W.lcmp hx hb dX4_looksAtRests_62 ?_
      refine lv_if_ne (tgt := 135) hx hb dX4_looksAtRests_63 (by decide) (fun c17 => ?_) (fun c17 => ?_)
      · have h := zif_f c17 h
        refine lv_iinc (v := (v7 + (1 : Int32))) (lv' := [(4, .int (v7 + (1 : Int32))), (5, .int v13), (0, .ref a_this), (1, .ref a_s), (2, .long v6)]) hx hb dX4_looksAtRests_135 hl (k := 4) rfl rfl (by decide) rfl (fun ls hl => ?_)
        refine lv_goto (tgt := 20) hx hb dX4_looksAtRests_138 (by decide) ?_
        exact ih20 v6 (v7 + (1 : Int32)) v8 v9 v10 h _ _ hP hD hS ls (lv_sub hl [2, 3, 4, 0] rfl)
      · have h := zif_t c17 h
        refine lv_lload_n hx hb dX4_looksAtRests_66 rfl (lv_at hl 3 rfl) ?_
        refine lv_lconst (v := (1 : Int64)) hx hb dX4_looksAtRests_67 (by decide) ?_
        refine lv_iload hx hb dX4_looksAtRests_68 (lv_at hl 0 rfl) ?_
        refine lv_lshl (v := ((1 : Int64) <<< (v13.toInt64 &&& 63))) hx hb dX4_looksAtRests_70 rfl ?_
        refine lv_lor hx hb dX4_looksAtRests_71 ?_
        refine lv_lstore_n (lv' := [(2, .long (v6 ||| ((1 : Int64) <<< (v13.toInt64 &&& 63)))), (5, .int v13), (0, .ref a_this), (1, .ref a_s), (4, .int v7)]) hx hb dX4_looksAtRests_72 rfl hl (by decide) rfl (fun ls hl => ?_)
        refine lv_aload_n hx hb dX4_looksAtRests_73 rfl (lv_at hl 2 rfl) ?_
        refine lv_dup hx hb dX4_looksAtRests_74 rfl ?_
        refine va_get (D := D) (ci := 4) (v := .int v8) (C := RX4) (T := TX4) (N := 28) hx hb hts hinX4 hown hK hP 0 rfl rfl 16 (by decide) (hts (Cond.fieldLink RX4 106 "LadderRelaysModel" "rests" "I") (List.mem_of_getElem? (i := 1) rfl)) (fun _ h9 => h9) rfl dX4_looksAtRests_75 ?_
        refine lv_iconst (v := (1 : Int32)) hx hb dX4_looksAtRests_78 (by decide) ?_
        refine lv_iadd hx hb dX4_looksAtRests_79 ?_
        refine va_put (D := D) (ci := 4) (v := .int (v8 + (1 : Int32))) (ty := .int) (C := RX4) (T := TX4) (N := 28) hx hb hts hinX4 tyX4 tyX4_ok nmX4 hown hK hP hD hS 0 rfl rfl 16 (by decide) (hts (Cond.fieldLink RX4 106 "LadderRelaysModel" "rests" "I") (List.mem_of_getElem? (i := 1) rfl)) (fun _ h9 => h9) rfl (by decide +kernel) rfl rfl (Nat.le_of_ble_eq_true rfl) dX4_looksAtRests_80 (fun H locs hP hD hS => ?_)
        have hP : va_P D vwCl [(a_this, .inr (4, [.int f_thrown, .ref a_s, .ref a_then, .ref a_past, .int f_saved, .ref a_text, .int f_length, .int f_counted, .int f_due, .ref a_met, .ref a_table, .ref a_ways, .ref a_waysOf, .ref a_into, .int f_meets, .int f_isTold, .int (v8 + (1 : Int32)), .int v9, .int v10, .int f_isWheel, .int f_ended, .int f_spot, .ref a_orders, .int f_ordered, .int f_cureAmount, .int f_cureRelay, .int f_cureWhich, .long f_hash])), (a_s, .inl (cI, 88, .inl f_s)), (a_met, .inl (cI, 301, .inl f_met))] H := hP
        have hD : va_D A [(a_this, .inr (4, [.int f_thrown, .ref a_s, .ref a_then, .ref a_past, .int f_saved, .ref a_text, .int f_length, .int f_counted, .int f_due, .ref a_met, .ref a_table, .ref a_ways, .ref a_waysOf, .ref a_into, .int f_meets, .int f_isTold, .int (v8 + (1 : Int32)), .int v9, .int v10, .int f_isWheel, .int f_ended, .int f_spot, .ref a_orders, .int f_ordered, .int f_cureAmount, .int f_cureRelay, .int f_cureWhich, .long f_hash])), (a_s, .inl (cI, 88, .inl f_s)), (a_met, .inl (cI, 301, .inl f_met))] := hD
        refine lv_aload_n hx hb dX4_looksAtRests_83 rfl (lv_at hl 2 rfl) ?_
        refine lv_aload_n hx hb dX4_looksAtRests_84 rfl (lv_at hl 2 rfl) ?_
        refine va_get (D := D) (ci := 4) (v := .int v9) (C := RX4) (T := TX4) (N := 28) hx hb hts hinX4 hown hK hP 0 rfl rfl 17 (by decide) (hts (Cond.fieldLink RX4 109 "LadderRelaysModel" "leastRest" "I") (List.mem_of_getElem? (i := 2) rfl)) (fun _ h9 => h9) rfl dX4_looksAtRests_85 ?_
        refine lv_iconst (v := (-1 : Int32)) hx hb dX4_looksAtRests_88 (by decide) ?_
        have J110 : ∀ (v18 : Int32), F_X4_looksAtRests_s_J110 rec20 v6 v7 v8 v10 v13 v18 = some R → ∀ (H : Heap) (locs : List Loc), va_P D vwCl [(a_this, .inr (4, [.int f_thrown, .ref a_s, .ref a_then, .ref a_past, .int f_saved, .ref a_text, .int f_length, .int f_counted, .int f_due, .ref a_met, .ref a_table, .ref a_ways, .ref a_waysOf, .ref a_into, .int f_meets, .int f_isTold, .int (v8 + (1 : Int32)), .int v9, .int v10, .int f_isWheel, .int f_ended, .int f_spot, .ref a_orders, .int f_ordered, .int f_cureAmount, .int f_cureRelay, .int f_cureWhich, .long f_hash])), (a_s, .inl (cI, 88, .inl f_s)), (a_met, .inl (cI, 301, .inl f_met))] H → va_D A [(a_this, .inr (4, [.int f_thrown, .ref a_s, .ref a_then, .ref a_past, .int f_saved, .ref a_text, .int f_length, .int f_counted, .int f_due, .ref a_met, .ref a_table, .ref a_ways, .ref a_waysOf, .ref a_into, .int f_meets, .int f_isTold, .int (v8 + (1 : Int32)), .int v9, .int v10, .int f_isWheel, .int f_ended, .int f_spot, .ref a_orders, .int f_ordered, .int f_cureAmount, .int f_cureRelay, .int f_cureWhich, .long f_hash])), (a_s, .inl (cI, 88, .inl f_s)), (a_met, .inl (cI, 301, .inl f_met))] → va_S A s.heap H locs → ∀ ls : Array Slot, lv_has ls 6 [(0, .ref a_this), (1, .ref a_s), (2, .long (v6 ||| ((1 : Int64) <<< (v13.toInt64 &&& 63)))), (4, .int v7), (5, .int v13)] → W p l e ({ frames := 4, cells := 0, slots := 0, locals := 92 } : Room) s m (([.ref a_this, .ref a_s] : List Value).toArray) below meth c H locs 0 0 (MQ below (zWv D [(a_this, .inr (4, [.int f_thrown, .ref a_s, .ref a_then, .ref a_past, .int f_saved, .ref a_text, .int f_length, .int f_counted, .int f_due, .ref a_met, .ref a_table, .ref a_ways, .ref a_waysOf, .ref a_into, .int f_meets, .int f_isTold, .int R.1, .int R.2.1, .int R.2.2, .int f_isWheel, .int f_ended, .int f_spot, .ref a_orders, .int f_ordered, .int f_cureAmount, .int f_cureRelay, .int f_cureWhich, .long f_hash])), (a_s, .inl (cI, 88, .inl f_s)), (a_met, .inl (cI, 301, .inl f_met))] A) (([.ref a_this, .ref a_s] : List Value).toArray) s 0 0 A) (F0 m 110 ls [.int v18, .ref a_this]) := by
          intro v18 h H locs hP hD hS ls hl
          unfold F_X4_looksAtRests_s_J110 at h
          refine va_put (D := D) (ci := 4) (v := .int v18) (ty := .int) (C := RX4) (T := TX4) (N := 28) hx hb hts hinX4 tyX4 tyX4_ok nmX4 hown hK hP hD hS 0 rfl rfl 17 (by decide) (hts (Cond.fieldLink RX4 109 "LadderRelaysModel" "leastRest" "I") (List.mem_of_getElem? (i := 2) rfl)) (fun _ h9 => h9) rfl (by decide +kernel) rfl rfl (Nat.le_of_ble_eq_true rfl) dX4_looksAtRests_110 (fun H locs hP hD hS => ?_)
          have hP : va_P D vwCl [(a_this, .inr (4, [.int f_thrown, .ref a_s, .ref a_then, .ref a_past, .int f_saved, .ref a_text, .int f_length, .int f_counted, .int f_due, .ref a_met, .ref a_table, .ref a_ways, .ref a_waysOf, .ref a_into, .int f_meets, .int f_isTold, .int (v8 + (1 : Int32)), .int v18, .int v10, .int f_isWheel, .int f_ended, .int f_spot, .ref a_orders, .int f_ordered, .int f_cureAmount, .int f_cureRelay, .int f_cureWhich, .long f_hash])), (a_s, .inl (cI, 88, .inl f_s)), (a_met, .inl (cI, 301, .inl f_met))] H := hP
          have hD : va_D A [(a_this, .inr (4, [.int f_thrown, .ref a_s, .ref a_then, .ref a_past, .int f_saved, .ref a_text, .int f_length, .int f_counted, .int f_due, .ref a_met, .ref a_table, .ref a_ways, .ref a_waysOf, .ref a_into, .int f_meets, .int f_isTold, .int (v8 + (1 : Int32)), .int v18, .int v10, .int f_isWheel, .int f_ended, .int f_spot, .ref a_orders, .int f_ordered, .int f_cureAmount, .int f_cureRelay, .int f_cureWhich, .long f_hash])), (a_s, .inl (cI, 88, .inl f_s)), (a_met, .inl (cI, 301, .inl f_met))] := hD
          refine lv_aload_n hx hb dX4_looksAtRests_113 rfl (lv_at hl 0 rfl) ?_
          refine lv_iload hx hb dX4_looksAtRests_114 (lv_at hl 4 rfl) ?_
          refine lv_aload_n hx hb dX4_looksAtRests_116 rfl (lv_at hl 0 rfl) ?_
          refine va_get (D := D) (ci := 4) (v := .int v10) (C := RX4) (T := TX4) (N := 28) hx hb hts hinX4 hown hK hP 0 rfl rfl 18 (by decide) (hts (Cond.fieldLink RX4 112 "LadderRelaysModel" "mostRest" "I") (List.mem_of_getElem? (i := 3) rfl)) (fun _ h9 => h9) rfl dX4_looksAtRests_117 ?_
          refine lv_icmp_le (tgt := 128) hx hb dX4_looksAtRests_120 (by decide) (fun c19 => ?_) (fun c19 => ?_)
          · have h := zif_t c19 h
            refine lv_aload_n hx hb dX4_looksAtRests_128 rfl (lv_at hl 0 rfl) ?_
            refine va_get (D := D) (ci := 4) (v := .int v10) (C := RX4) (T := TX4) (N := 28) hx hb hts hinX4 hown hK hP 0 rfl rfl 18 (by decide) (hts (Cond.fieldLink RX4 112 "LadderRelaysModel" "mostRest" "I") (List.mem_of_getElem? (i := 3) rfl)) (fun _ h9 => h9) rfl dX4_looksAtRests_129 ?_
            refine va_put (D := D) (ci := 4) (v := .int v10) (ty := .int) (C := RX4) (T := TX4) (N := 28) hx hb hts hinX4 tyX4 tyX4_ok nmX4 hown hK hP hD hS 0 rfl rfl 18 (by decide) (hts (Cond.fieldLink RX4 112 "LadderRelaysModel" "mostRest" "I") (List.mem_of_getElem? (i := 3) rfl)) (fun _ h9 => h9) rfl (by decide +kernel) rfl rfl (Nat.le_of_ble_eq_true rfl) dX4_looksAtRests_132 (fun H locs hP hD hS => ?_)
            have hP : va_P D vwCl [(a_this, .inr (4, [.int f_thrown, .ref a_s, .ref a_then, .ref a_past, .int f_saved, .ref a_text, .int f_length, .int f_counted, .int f_due, .ref a_met, .ref a_table, .ref a_ways, .ref a_waysOf, .ref a_into, .int f_meets, .int f_isTold, .int (v8 + (1 : Int32)), .int v18, .int v10, .int f_isWheel, .int f_ended, .int f_spot, .ref a_orders, .int f_ordered, .int f_cureAmount, .int f_cureRelay, .int f_cureWhich, .long f_hash])), (a_s, .inl (cI, 88, .inl f_s)), (a_met, .inl (cI, 301, .inl f_met))] H := hP
            have hD : va_D A [(a_this, .inr (4, [.int f_thrown, .ref a_s, .ref a_then, .ref a_past, .int f_saved, .ref a_text, .int f_length, .int f_counted, .int f_due, .ref a_met, .ref a_table, .ref a_ways, .ref a_waysOf, .ref a_into, .int f_meets, .int f_isTold, .int (v8 + (1 : Int32)), .int v18, .int v10, .int f_isWheel, .int f_ended, .int f_spot, .ref a_orders, .int f_ordered, .int f_cureAmount, .int f_cureRelay, .int f_cureWhich, .long f_hash])), (a_s, .inl (cI, 88, .inl f_s)), (a_met, .inl (cI, 301, .inl f_met))] := hD
            refine lv_iinc (v := (v7 + (1 : Int32))) (lv' := [(4, .int (v7 + (1 : Int32))), (0, .ref a_this), (1, .ref a_s), (2, .long (v6 ||| ((1 : Int64) <<< (v13.toInt64 &&& 63)))), (5, .int v13)]) hx hb dX4_looksAtRests_135 hl (k := 3) rfl rfl (by decide) rfl (fun ls hl => ?_)
            refine lv_goto (tgt := 20) hx hb dX4_looksAtRests_138 (by decide) ?_
            exact ih20 (v6 ||| ((1 : Int64) <<< (v13.toInt64 &&& 63))) (v7 + (1 : Int32)) (v8 + (1 : Int32)) v18 v10 h _ _ hP hD hS ls (lv_sub hl [1, 2, 3, 0] rfl)
          · have h := zif_f c19 h
            refine lv_iload hx hb dX4_looksAtRests_123 (lv_at hl 4 rfl) ?_
            refine lv_goto (tgt := 132) hx hb dX4_looksAtRests_125 (by decide) ?_
            refine va_put (D := D) (ci := 4) (v := .int v13) (ty := .int) (C := RX4) (T := TX4) (N := 28) hx hb hts hinX4 tyX4 tyX4_ok nmX4 hown hK hP hD hS 0 rfl rfl 18 (by decide) (hts (Cond.fieldLink RX4 112 "LadderRelaysModel" "mostRest" "I") (List.mem_of_getElem? (i := 3) rfl)) (fun _ h9 => h9) rfl (by decide +kernel) rfl rfl (Nat.le_of_ble_eq_true rfl) dX4_looksAtRests_132 (fun H locs hP hD hS => ?_)
            have hP : va_P D vwCl [(a_this, .inr (4, [.int f_thrown, .ref a_s, .ref a_then, .ref a_past, .int f_saved, .ref a_text, .int f_length, .int f_counted, .int f_due, .ref a_met, .ref a_table, .ref a_ways, .ref a_waysOf, .ref a_into, .int f_meets, .int f_isTold, .int (v8 + (1 : Int32)), .int v18, .int v13, .int f_isWheel, .int f_ended, .int f_spot, .ref a_orders, .int f_ordered, .int f_cureAmount, .int f_cureRelay, .int f_cureWhich, .long f_hash])), (a_s, .inl (cI, 88, .inl f_s)), (a_met, .inl (cI, 301, .inl f_met))] H := hP
            have hD : va_D A [(a_this, .inr (4, [.int f_thrown, .ref a_s, .ref a_then, .ref a_past, .int f_saved, .ref a_text, .int f_length, .int f_counted, .int f_due, .ref a_met, .ref a_table, .ref a_ways, .ref a_waysOf, .ref a_into, .int f_meets, .int f_isTold, .int (v8 + (1 : Int32)), .int v18, .int v13, .int f_isWheel, .int f_ended, .int f_spot, .ref a_orders, .int f_ordered, .int f_cureAmount, .int f_cureRelay, .int f_cureWhich, .long f_hash])), (a_s, .inl (cI, 88, .inl f_s)), (a_met, .inl (cI, 301, .inl f_met))] := hD
            refine lv_iinc (v := (v7 + (1 : Int32))) (lv' := [(4, .int (v7 + (1 : Int32))), (0, .ref a_this), (1, .ref a_s), (2, .long (v6 ||| ((1 : Int64) <<< (v13.toInt64 &&& 63)))), (5, .int v13)]) hx hb dX4_looksAtRests_135 hl (k := 3) rfl rfl (by decide) rfl (fun ls hl => ?_)
            refine lv_goto (tgt := 20) hx hb dX4_looksAtRests_138 (by decide) ?_
            exact ih20 (v6 ||| ((1 : Int64) <<< (v13.toInt64 &&& 63))) (v7 + (1 : Int32)) (v8 + (1 : Int32)) v18 v13 h _ _ hP hD hS ls (lv_sub hl [1, 2, 3, 0] rfl)
        refine lv_icmp_eq (tgt := 101) hx hb dX4_looksAtRests_89 (by decide) (fun c20 => ?_) (fun c20 => ?_)
        · have h := zif_t c20 h
          refine lv_iload hx hb dX4_looksAtRests_101 (lv_at hl 1 rfl) ?_
          refine lv_goto (tgt := 110) hx hb dX4_looksAtRests_103 (by decide) ?_
          exact J110 v13 h _ _ hP hD hS ls (lv_sub hl [2, 3, 0, 4, 1] rfl)
        · have h := zif_f c20 h
          refine lv_iload hx hb dX4_looksAtRests_92 (lv_at hl 1 rfl) ?_
          refine lv_aload_n hx hb dX4_looksAtRests_94 rfl (lv_at hl 2 rfl) ?_
          refine va_get (D := D) (ci := 4) (v := .int v9) (C := RX4) (T := TX4) (N := 28) hx hb hts hinX4 hown hK hP 0 rfl rfl 17 (by decide) (hts (Cond.fieldLink RX4 109 "LadderRelaysModel" "leastRest" "I") (List.mem_of_getElem? (i := 2) rfl)) (fun _ h9 => h9) rfl dX4_looksAtRests_95 ?_
          refine lv_icmp_ge (tgt := 106) hx hb dX4_looksAtRests_98 (by decide) (fun c21 => ?_) (fun c21 => ?_)
          · have h := zif_t c21 h
            refine lv_aload_n hx hb dX4_looksAtRests_106 rfl (lv_at hl 2 rfl) ?_
            refine va_get (D := D) (ci := 4) (v := .int v9) (C := RX4) (T := TX4) (N := 28) hx hb hts hinX4 hown hK hP 0 rfl rfl 17 (by decide) (hts (Cond.fieldLink RX4 109 "LadderRelaysModel" "leastRest" "I") (List.mem_of_getElem? (i := 2) rfl)) (fun _ h9 => h9) rfl dX4_looksAtRests_107 ?_
            exact J110 v9 h _ _ hP hD hS ls (lv_sub hl [2, 3, 0, 4, 1] rfl)
          · have h := zif_f c21 h
            refine lv_iload hx hb dX4_looksAtRests_101 (lv_at hl 1 rfl) ?_
            refine lv_goto (tgt := 110) hx hb dX4_looksAtRests_103 (by decide) ?_
            exact J110 v13 h _ _ hP hD hS ls (lv_sub hl [2, 3, 0, 4, 1] rfl)
def F_X4_looksAtRests_then_E141  (v1 : Int64) (v2 : Int32) (v3 : Int32) (v4 : Int32) (v5 : Int32) : Option (Int32 × Int32 × Int32) := some (v3, v4, v5)
def F_X4_looksAtRests_then_J110 (rec20 : Int64 → Int32 → Int32 → Int32 → Int32 → Option (Int32 × Int32 × Int32)) (v6 : Int64) (v7 : Int32) (v8 : Int32) (v10 : Int32) (v13 : Int32) (v18 : Int32) : Option (Int32 × Int32 × Int32) := if v13 ≤ v10 then rec20 (v6 ||| ((1 : Int64) <<< (v13.toInt64 &&& 63))) (v7 + (1 : Int32)) (v8 + (1 : Int32)) v18 v10 else rec20 (v6 ||| ((1 : Int64) <<< (v13.toInt64 &&& 63))) (v7 + (1 : Int32)) (v8 + (1 : Int32)) v18 v13
def F_X4_looksAtRests_then_L20 (fu : Nat) (f_meets : Int32) (f_met : Nat → Int32) (f_then : Nat → Int32) (k20 : Int64 → Int32 → Int32 → Int32 → Int32 → Option (Int32 × Int32 × Int32)) (rec20 : Int64 → Int32 → Int32 → Int32 → Int32 → Option (Int32 × Int32 × Int32)) (v6 : Int64) (v7 : Int32) (v8 : Int32) (v9 : Int32) (v10 : Int32) : Option (Int32 × Int32 × Int32) := if f_meets ≤ v7 then k20 v6 v7 v8 v9 v10 else (zrd f_met 301 v7).bind fun v12 => (F_X4_upOf fu v12).bind fun v13 => (zrd f_met 301 v7).bind fun v14 => (F_X4_isQuiet fu f_then 88 v14).bind fun v15 => if v15 = (0 : Int32) then rec20 v6 (v7 + (1 : Int32)) v8 v9 v10 else if (lg_cmp ((v6 >>> (v13.toInt64 &&& 63)) &&& (1 : Int64)) (0 : Int64)) = (0 : Int32) then if v9 = (-1 : Int32) then F_X4_looksAtRests_then_J110 rec20 v6 v7 v8 v10 v13 v13 else if v9 ≤ v13 then F_X4_looksAtRests_then_J110 rec20 v6 v7 v8 v10 v13 v9 else F_X4_looksAtRests_then_J110 rec20 v6 v7 v8 v10 v13 v13 else rec20 v6 (v7 + (1 : Int32)) v8 v9 v10
def F_X4_looksAtRests_then (fu : Nat) (f_meets : Int32) (f_rests : Int32) (f_leastRest : Int32) (f_mostRest : Int32) (f_then : Nat → Int32) (f_met : Nat → Int32) : Option (Int32 × Int32 × Int32) := zlp5 (F_X4_looksAtRests_then_L20 fu f_meets f_met f_then (F_X4_looksAtRests_then_E141)) fu (0 : Int64) (0 : Int32) (0 : Int32) (-1 : Int32) (-1 : Int32)
set_option maxHeartbeats 4000000 in
set_option maxRecDepth 100000 in
theorem c_X4_looksAtRests_then (l : Launch) (D : va_G) (cI cC cO cJ : ClassId) (fu : Nat) (a_this a_s a_then a_past a_text a_met a_table a_ways a_waysOf a_into a_orders : Nat) (sz : Nat) (f_thrown : Int32) (f_saved : Int32) (f_length : Int32) (f_counted : Int32) (f_due : Int32) (f_meets : Int32) (f_isTold : Int32) (f_rests : Int32) (f_leastRest : Int32) (f_mostRest : Int32) (f_isWheel : Int32) (f_ended : Int32) (f_spot : Int32) (f_ordered : Int32) (f_cureAmount : Int32) (f_cureRelay : Int32) (f_cureWhich : Int32) (f_hash : Int64) (f_then : Nat → Int32) (f_met : Nat → Int32) (R : Int32 × Int32 × Int32) (h : F_X4_looksAtRests_then fu f_meets f_rests f_leastRest f_mostRest f_then f_met = some R) : Met l yX4_looksAtRests wsX4_looksAtRests ({ frames := 4, cells := 0, slots := 0, locals := 92 } : Room) (zPw D (ztys cI cC cO cJ) [(a_this, .inr (4, [.int f_thrown, .ref a_s, .ref a_then, .ref a_past, .int f_saved, .ref a_text, .int f_length, .int f_counted, .int f_due, .ref a_met, .ref a_table, .ref a_ways, .ref a_waysOf, .ref a_into, .int f_meets, .int f_isTold, .int f_rests, .int f_leastRest, .int f_mostRest, .int f_isWheel, .int f_ended, .int f_spot, .ref a_orders, .int f_ordered, .int f_cureAmount, .int f_cureRelay, .int f_cureWhich, .long f_hash])), (a_then, .inl (cI, 88, .inl f_then)), (a_met, .inl (cI, 301, .inl f_met))] sz [.ref a_this, .ref a_then]) (zWv D [(a_this, .inr (4, [.int f_thrown, .ref a_s, .ref a_then, .ref a_past, .int f_saved, .ref a_text, .int f_length, .int f_counted, .int f_due, .ref a_met, .ref a_table, .ref a_ways, .ref a_waysOf, .ref a_into, .int f_meets, .int f_isTold, .int R.1, .int R.2.1, .int R.2.2, .int f_isWheel, .int f_ended, .int f_spot, .ref a_orders, .int f_ordered, .int f_cureAmount, .int f_cureRelay, .int f_cureWhich, .long f_hash])), (a_then, .inl (cI, 88, .inl f_then)), (a_met, .inl (cI, 301, .inl f_met))] (va_A [(a_this, .inr (4, [.int f_thrown, .ref a_s, .ref a_then, .ref a_past, .int f_saved, .ref a_text, .int f_length, .int f_counted, .int f_due, .ref a_met, .ref a_table, .ref a_ways, .ref a_waysOf, .ref a_into, .int f_meets, .int f_isTold, .int f_rests, .int f_leastRest, .int f_mostRest, .int f_isWheel, .int f_ended, .int f_spot, .ref a_orders, .int f_ordered, .int f_cureAmount, .int f_cureRelay, .int f_cureWhich, .long f_hash])), (a_then, .inl (cI, 88, .inl f_then)), (a_met, .inl (cI, 301, .inl f_met))] sz)) 0 0 (va_A [(a_this, .inr (4, [.int f_thrown, .ref a_s, .ref a_then, .ref a_past, .int f_saved, .ref a_text, .int f_length, .int f_counted, .int f_due, .ref a_met, .ref a_table, .ref a_ways, .ref a_waysOf, .ref a_into, .int f_meets, .int f_isTold, .int f_rests, .int f_leastRest, .int f_mostRest, .int f_isWheel, .int f_ended, .int f_spot, .ref a_orders, .int f_ordered, .int f_cureAmount, .int f_cureRelay, .int f_cureWhich, .long f_hash])), (a_then, .inl (cI, 88, .inl f_then)), (a_met, .inl (cI, 301, .inl f_met))] sz) := by
  refine Met.ofW (cc := cX4_looksAtRests) (maxL := 6) (ret := none) (by decide) rfl ?_
  intro p e s m args below meth c s₁ B hml hv
  obtain ⟨rfl, hsz, hP, hK, hD0⟩ := hv
  have hx := B.exec
  have hb := B.bytes
  have hr := B.returns
  have hts := atoms_spec (ws := wsX4_looksAtRests) B.pre
  have hown : s.vm.findClass RX4 = some m.cls := findClass_of_methodNamed B.named
  have hlocks := B.notSynchronized
  have hinX4 : ∀ w ∈ wsX40, w ∈ wsX4_looksAtRests := fun _ h => (List.mem_cons_of_mem _ (List.mem_append_right _ h))
  subst hsz
  have hD := hD0.self (sz := s.heap.size)
  generalize hAe : va_A [(a_this, .inr (4, [.int f_thrown, .ref a_s, .ref a_then, .ref a_past, .int f_saved, .ref a_text, .int f_length, .int f_counted, .int f_due, .ref a_met, .ref a_table, .ref a_ways, .ref a_waysOf, .ref a_into, .int f_meets, .int f_isTold, .int f_rests, .int f_leastRest, .int f_mostRest, .int f_isWheel, .int f_ended, .int f_spot, .ref a_orders, .int f_ordered, .int f_cureAmount, .int f_cureRelay, .int f_cureWhich, .long f_hash])), (a_then, .inl (cI, 88, .inl f_then)), (a_met, .inl (cI, 301, .inl f_met))] s.heap.size = A at hD ⊢
  have hA : ∀ q : Nat, s.heap.size ≤ q → A q := fun q h => by rw [← hAe]; exact Or.inr h
  have hS : va_S A s.heap s.heap [] := va_S.rf
  have hP : va_P D vwCl [(a_this, .inr (4, [.int f_thrown, .ref a_s, .ref a_then, .ref a_past, .int f_saved, .ref a_text, .int f_length, .int f_counted, .int f_due, .ref a_met, .ref a_table, .ref a_ways, .ref a_waysOf, .ref a_into, .int f_meets, .int f_isTold, .int f_rests, .int f_leastRest, .int f_mostRest, .int f_isWheel, .int f_ended, .int f_spot, .ref a_orders, .int f_ordered, .int f_cureAmount, .int f_cureRelay, .int f_cureWhich, .long f_hash])), (a_then, .inl (cI, 88, .inl f_then)), (a_met, .inl (cI, 301, .inl f_met))] s.heap := hP
  have hK : va_K D vwCl (ztys cI cC cO cJ) s := hK
  have hl := lv_entry ([.ref a_this, .ref a_then]) (n := 6) (Nat.le_of_ble_eq_true rfl)
  rw [lg_entry_eq]
  generalize (lg_sl ([.ref a_this, .ref a_then]) ++ List.replicate (6 - (lg_sl ([.ref a_this, .ref a_then])).length) Slot.unset).toArray = ls at hl ⊢
  have hl : lv_has ls 6 [(0, .ref a_this), (1, .ref a_then)] := hl
  unfold F_X4_looksAtRests_then at h
  refine lv_lconst (v := (0 : Int64)) hx hb dX4_looksAtRests_0 (by decide) ?_
  refine lv_lstore_n (lv' := [(2, .long (0 : Int64)), (0, .ref a_this), (1, .ref a_then)]) hx hb dX4_looksAtRests_1 rfl hl (by decide) rfl (fun ls hl => ?_)
  refine lv_aload_n hx hb dX4_looksAtRests_2 rfl (lv_at hl 1 rfl) ?_
  refine lv_iconst (v := (0 : Int32)) hx hb dX4_looksAtRests_3 (by decide) ?_
  refine va_put (D := D) (ci := 4) (v := .int (0 : Int32)) (ty := .int) (C := RX4) (T := TX4) (N := 28) hx hb hts hinX4 tyX4 tyX4_ok nmX4 hown hK hP hD hS 0 rfl rfl 16 (by decide) (hts (Cond.fieldLink RX4 106 "LadderRelaysModel" "rests" "I") (List.mem_of_getElem? (i := 1) rfl)) (fun _ h9 => h9) rfl (by decide +kernel) rfl rfl (Nat.le_of_ble_eq_true rfl) dX4_looksAtRests_4 (fun H locs hP hD hS => ?_)
  have hP : va_P D vwCl [(a_this, .inr (4, [.int f_thrown, .ref a_s, .ref a_then, .ref a_past, .int f_saved, .ref a_text, .int f_length, .int f_counted, .int f_due, .ref a_met, .ref a_table, .ref a_ways, .ref a_waysOf, .ref a_into, .int f_meets, .int f_isTold, .int (0 : Int32), .int f_leastRest, .int f_mostRest, .int f_isWheel, .int f_ended, .int f_spot, .ref a_orders, .int f_ordered, .int f_cureAmount, .int f_cureRelay, .int f_cureWhich, .long f_hash])), (a_then, .inl (cI, 88, .inl f_then)), (a_met, .inl (cI, 301, .inl f_met))] H := hP
  have hD : va_D A [(a_this, .inr (4, [.int f_thrown, .ref a_s, .ref a_then, .ref a_past, .int f_saved, .ref a_text, .int f_length, .int f_counted, .int f_due, .ref a_met, .ref a_table, .ref a_ways, .ref a_waysOf, .ref a_into, .int f_meets, .int f_isTold, .int (0 : Int32), .int f_leastRest, .int f_mostRest, .int f_isWheel, .int f_ended, .int f_spot, .ref a_orders, .int f_ordered, .int f_cureAmount, .int f_cureRelay, .int f_cureWhich, .long f_hash])), (a_then, .inl (cI, 88, .inl f_then)), (a_met, .inl (cI, 301, .inl f_met))] := hD
  refine lv_aload_n hx hb dX4_looksAtRests_7 rfl (lv_at hl 1 rfl) ?_
  refine lv_iconst (v := (-1 : Int32)) hx hb dX4_looksAtRests_8 (by decide) ?_
  refine va_put (D := D) (ci := 4) (v := .int (-1 : Int32)) (ty := .int) (C := RX4) (T := TX4) (N := 28) hx hb hts hinX4 tyX4 tyX4_ok nmX4 hown hK hP hD hS 0 rfl rfl 17 (by decide) (hts (Cond.fieldLink RX4 109 "LadderRelaysModel" "leastRest" "I") (List.mem_of_getElem? (i := 2) rfl)) (fun _ h9 => h9) rfl (by decide +kernel) rfl rfl (Nat.le_of_ble_eq_true rfl) dX4_looksAtRests_9 (fun H locs hP hD hS => ?_)
  have hP : va_P D vwCl [(a_this, .inr (4, [.int f_thrown, .ref a_s, .ref a_then, .ref a_past, .int f_saved, .ref a_text, .int f_length, .int f_counted, .int f_due, .ref a_met, .ref a_table, .ref a_ways, .ref a_waysOf, .ref a_into, .int f_meets, .int f_isTold, .int (0 : Int32), .int (-1 : Int32), .int f_mostRest, .int f_isWheel, .int f_ended, .int f_spot, .ref a_orders, .int f_ordered, .int f_cureAmount, .int f_cureRelay, .int f_cureWhich, .long f_hash])), (a_then, .inl (cI, 88, .inl f_then)), (a_met, .inl (cI, 301, .inl f_met))] H := hP
  have hD : va_D A [(a_this, .inr (4, [.int f_thrown, .ref a_s, .ref a_then, .ref a_past, .int f_saved, .ref a_text, .int f_length, .int f_counted, .int f_due, .ref a_met, .ref a_table, .ref a_ways, .ref a_waysOf, .ref a_into, .int f_meets, .int f_isTold, .int (0 : Int32), .int (-1 : Int32), .int f_mostRest, .int f_isWheel, .int f_ended, .int f_spot, .ref a_orders, .int f_ordered, .int f_cureAmount, .int f_cureRelay, .int f_cureWhich, .long f_hash])), (a_then, .inl (cI, 88, .inl f_then)), (a_met, .inl (cI, 301, .inl f_met))] := hD
  refine lv_aload_n hx hb dX4_looksAtRests_12 rfl (lv_at hl 1 rfl) ?_
  refine lv_iconst (v := (-1 : Int32)) hx hb dX4_looksAtRests_13 (by decide) ?_
  refine va_put (D := D) (ci := 4) (v := .int (-1 : Int32)) (ty := .int) (C := RX4) (T := TX4) (N := 28) hx hb hts hinX4 tyX4 tyX4_ok nmX4 hown hK hP hD hS 0 rfl rfl 18 (by decide) (hts (Cond.fieldLink RX4 112 "LadderRelaysModel" "mostRest" "I") (List.mem_of_getElem? (i := 3) rfl)) (fun _ h9 => h9) rfl (by decide +kernel) rfl rfl (Nat.le_of_ble_eq_true rfl) dX4_looksAtRests_14 (fun H locs hP hD hS => ?_)
  have hP : va_P D vwCl [(a_this, .inr (4, [.int f_thrown, .ref a_s, .ref a_then, .ref a_past, .int f_saved, .ref a_text, .int f_length, .int f_counted, .int f_due, .ref a_met, .ref a_table, .ref a_ways, .ref a_waysOf, .ref a_into, .int f_meets, .int f_isTold, .int (0 : Int32), .int (-1 : Int32), .int (-1 : Int32), .int f_isWheel, .int f_ended, .int f_spot, .ref a_orders, .int f_ordered, .int f_cureAmount, .int f_cureRelay, .int f_cureWhich, .long f_hash])), (a_then, .inl (cI, 88, .inl f_then)), (a_met, .inl (cI, 301, .inl f_met))] H := hP
  have hD : va_D A [(a_this, .inr (4, [.int f_thrown, .ref a_s, .ref a_then, .ref a_past, .int f_saved, .ref a_text, .int f_length, .int f_counted, .int f_due, .ref a_met, .ref a_table, .ref a_ways, .ref a_waysOf, .ref a_into, .int f_meets, .int f_isTold, .int (0 : Int32), .int (-1 : Int32), .int (-1 : Int32), .int f_isWheel, .int f_ended, .int f_spot, .ref a_orders, .int f_ordered, .int f_cureAmount, .int f_cureRelay, .int f_cureWhich, .long f_hash])), (a_then, .inl (cI, 88, .inl f_then)), (a_met, .inl (cI, 301, .inl f_met))] := hD
  refine lv_iconst (v := (0 : Int32)) hx hb dX4_looksAtRests_17 (by decide) ?_
  refine lv_istore (lv' := [(4, .int (0 : Int32)), (2, .long (0 : Int64)), (0, .ref a_this), (1, .ref a_then)]) hx hb dX4_looksAtRests_18 hl (by decide) rfl (fun ls hl => ?_)
  have E141 : ∀ (v1 : Int64) (v2 : Int32) (v3 : Int32) (v4 : Int32) (v5 : Int32), F_X4_looksAtRests_then_E141 v1 v2 v3 v4 v5 = some R → ∀ (H : Heap) (locs : List Loc), va_P D vwCl [(a_this, .inr (4, [.int f_thrown, .ref a_s, .ref a_then, .ref a_past, .int f_saved, .ref a_text, .int f_length, .int f_counted, .int f_due, .ref a_met, .ref a_table, .ref a_ways, .ref a_waysOf, .ref a_into, .int f_meets, .int f_isTold, .int v3, .int v4, .int v5, .int f_isWheel, .int f_ended, .int f_spot, .ref a_orders, .int f_ordered, .int f_cureAmount, .int f_cureRelay, .int f_cureWhich, .long f_hash])), (a_then, .inl (cI, 88, .inl f_then)), (a_met, .inl (cI, 301, .inl f_met))] H → va_D A [(a_this, .inr (4, [.int f_thrown, .ref a_s, .ref a_then, .ref a_past, .int f_saved, .ref a_text, .int f_length, .int f_counted, .int f_due, .ref a_met, .ref a_table, .ref a_ways, .ref a_waysOf, .ref a_into, .int f_meets, .int f_isTold, .int v3, .int v4, .int v5, .int f_isWheel, .int f_ended, .int f_spot, .ref a_orders, .int f_ordered, .int f_cureAmount, .int f_cureRelay, .int f_cureWhich, .long f_hash])), (a_then, .inl (cI, 88, .inl f_then)), (a_met, .inl (cI, 301, .inl f_met))] → va_S A s.heap H locs → ∀ ls : Array Slot, lv_has ls 6 [(0, .ref a_this), (1, .ref a_then), (2, .long v1), (4, .int v2)] → W p l e ({ frames := 4, cells := 0, slots := 0, locals := 92 } : Room) s m (([.ref a_this, .ref a_then] : List Value).toArray) below meth c H locs 0 0 (MQ below (zWv D [(a_this, .inr (4, [.int f_thrown, .ref a_s, .ref a_then, .ref a_past, .int f_saved, .ref a_text, .int f_length, .int f_counted, .int f_due, .ref a_met, .ref a_table, .ref a_ways, .ref a_waysOf, .ref a_into, .int f_meets, .int f_isTold, .int R.1, .int R.2.1, .int R.2.2, .int f_isWheel, .int f_ended, .int f_spot, .ref a_orders, .int f_ordered, .int f_cureAmount, .int f_cureRelay, .int f_cureWhich, .long f_hash])), (a_then, .inl (cI, 88, .inl f_then)), (a_met, .inl (cI, 301, .inl f_met))] A) (([.ref a_this, .ref a_then] : List Value).toArray) s 0 0 A) (F0 m 141 ls []) := by
    intro v1 v2 v3 v4 v5 h H locs hP hD hS ls hl
    unfold F_X4_looksAtRests_then_E141 at h
    have hR := Option.some.inj h
    subst hR
    exact W.vret hx hb hr (fun t ht hW => ⟨⟨(), rfl, trivial, zhp ht hP⟩, hS.F ht⟩) hS.2.2 dX4_looksAtRests_141
  refine zlp_i5 (R := R) (P := fun (v6 : Int64) (v7 : Int32) (v8 : Int32) (v9 : Int32) (v10 : Int32) => ∀ (H : Heap) (locs : List Loc), va_P D vwCl [(a_this, .inr (4, [.int f_thrown, .ref a_s, .ref a_then, .ref a_past, .int f_saved, .ref a_text, .int f_length, .int f_counted, .int f_due, .ref a_met, .ref a_table, .ref a_ways, .ref a_waysOf, .ref a_into, .int f_meets, .int f_isTold, .int v8, .int v9, .int v10, .int f_isWheel, .int f_ended, .int f_spot, .ref a_orders, .int f_ordered, .int f_cureAmount, .int f_cureRelay, .int f_cureWhich, .long f_hash])), (a_then, .inl (cI, 88, .inl f_then)), (a_met, .inl (cI, 301, .inl f_met))] H → va_D A [(a_this, .inr (4, [.int f_thrown, .ref a_s, .ref a_then, .ref a_past, .int f_saved, .ref a_text, .int f_length, .int f_counted, .int f_due, .ref a_met, .ref a_table, .ref a_ways, .ref a_waysOf, .ref a_into, .int f_meets, .int f_isTold, .int v8, .int v9, .int v10, .int f_isWheel, .int f_ended, .int f_spot, .ref a_orders, .int f_ordered, .int f_cureAmount, .int f_cureRelay, .int f_cureWhich, .long f_hash])), (a_then, .inl (cI, 88, .inl f_then)), (a_met, .inl (cI, 301, .inl f_met))] → va_S A s.heap H locs → ∀ ls : Array Slot, lv_has ls 6 [(0, .ref a_this), (1, .ref a_then), (2, .long v6), (4, .int v7)] → W p l e ({ frames := 4, cells := 0, slots := 0, locals := 92 } : Room) s m (([.ref a_this, .ref a_then] : List Value).toArray) below meth c H locs 0 0 (MQ below (zWv D [(a_this, .inr (4, [.int f_thrown, .ref a_s, .ref a_then, .ref a_past, .int f_saved, .ref a_text, .int f_length, .int f_counted, .int f_due, .ref a_met, .ref a_table, .ref a_ways, .ref a_waysOf, .ref a_into, .int f_meets, .int f_isTold, .int R.1, .int R.2.1, .int R.2.2, .int f_isWheel, .int f_ended, .int f_spot, .ref a_orders, .int f_ordered, .int f_cureAmount, .int f_cureRelay, .int f_cureWhich, .long f_hash])), (a_then, .inl (cI, 88, .inl f_then)), (a_met, .inl (cI, 301, .inl f_met))] A) (([.ref a_this, .ref a_then] : List Value).toArray) s 0 0 A) (F0 m 20 ls [])) (fun rec20 ih20 v6 v7 v8 v9 v10 h => ?_) fu (0 : Int64) (0 : Int32) (0 : Int32) (-1 : Int32) (-1 : Int32) h _ _ hP hD hS ls (lv_sub hl [2, 3, 1, 0] rfl)
  intro H locs hP hD hS ls hl
  unfold F_X4_looksAtRests_then_L20 at h
  refine lv_iload hx hb dX4_looksAtRests_20 (lv_at hl 3 rfl) ?_
  refine lv_aload_n hx hb dX4_looksAtRests_22 rfl (lv_at hl 0 rfl) ?_
  refine va_get (D := D) (ci := 4) (v := .int f_meets) (C := RX4) (T := TX4) (N := 28) hx hb hts hinX4 hown hK hP 0 rfl rfl 14 (by decide) (hts (Cond.fieldLink RX4 82 "LadderRelaysModel" "meets" "I") (List.mem_of_getElem? (i := 4) rfl)) (fun _ h9 => h9) rfl dX4_looksAtRests_23 ?_
  refine lv_icmp_ge (tgt := 141) hx hb dX4_looksAtRests_26 (by decide) (fun c11 => ?_) (fun c11 => ?_)
  · have h := zif_t c11 h
    exact E141 v6 v7 v8 v9 v10 h _ _ hP hD hS ls (lv_sub hl [0, 1, 2, 3] rfl)
  · have h := zif_f c11 h
    refine lv_aload_n hx hb dX4_looksAtRests_29 rfl (lv_at hl 0 rfl) ?_
    refine va_get (D := D) (ci := 4) (v := .ref a_met) (C := RX4) (T := TX4) (N := 28) hx hb hts hinX4 hown hK hP 0 rfl rfl 9 (by decide) (hts (Cond.fieldLink RX4 23 "LadderRelaysModel" "met" "[I") (List.mem_of_getElem? (i := 5) rfl)) (fun _ h9 => h9) rfl dX4_looksAtRests_30 ?_
    refine lv_iload hx hb dX4_looksAtRests_33 (lv_at hl 3 rfl) ?_
    obtain ⟨v12, hv12, h⟩ := zbnd h
    refine zr_iald hx hb hK hP 2 0 rfl rfl hv12 dX4_looksAtRests_35 ?_
    obtain ⟨v13, hv13, h⟩ := zbnd h
    refine zc_i (W.runS (As := [.int v12]) (rest := []) ⟨hx, hb, hml, hown, hts⟩ (c_X4_upOf l D cI cC cO cJ fu v12 v13 hv13) (va_cwS 1 hts gX4_looksAtRests_X4_upOf rfl rfl rfl (by decide +kernel) ⟨Nat.le_of_ble_eq_true rfl, Nat.le_of_ble_eq_true rfl⟩) (zPr_S hK zP_nil) rfl rfl hl.1 rfl (lv_room (Nat.le_of_ble_eq_true rfl)) dX4_looksAtRests_36 ⟨Nat.zero_le _, Nat.zero_le _⟩) ?_
    refine lv_istore (lv' := [(5, .int v13), (0, .ref a_this), (1, .ref a_then), (2, .long v6), (4, .int v7)]) hx hb dX4_looksAtRests_39 hl (by decide) rfl (fun ls hl => ?_)
    refine lv_aload_n hx hb dX4_looksAtRests_41 rfl (lv_at hl 2 rfl) ?_
    refine lv_aload_n hx hb dX4_looksAtRests_42 rfl (lv_at hl 1 rfl) ?_
    refine va_get (D := D) (ci := 4) (v := .ref a_met) (C := RX4) (T := TX4) (N := 28) hx hb hts hinX4 hown hK hP 0 rfl rfl 9 (by decide) (hts (Cond.fieldLink RX4 23 "LadderRelaysModel" "met" "[I") (List.mem_of_getElem? (i := 5) rfl)) (fun _ h9 => h9) rfl dX4_looksAtRests_43 ?_
    refine lv_iload hx hb dX4_looksAtRests_46 (lv_at hl 4 rfl) ?_
    obtain ⟨v14, hv14, h⟩ := zbnd h
    refine zr_iald hx hb hK hP 2 0 rfl rfl hv14 dX4_looksAtRests_48 ?_
    obtain ⟨v15, hv15, h⟩ := zbnd h
    have hPc := hP.sub (ws' := [(a_then, .inl (cI, 88, .inl f_then))]) [1] rfl
    refine zc_i (W.runS (As := [.ref a_then, .int v14]) (rest := []) ⟨hx, hb, hml, hown, hts⟩ (c_X4_isQuiet l D cI cC cO cJ fu a_then f_then 88 v14 v15 hv15) (va_cwS 2 hts gX4_looksAtRests_X4_isQuiet rfl rfl rfl (by decide +kernel) ⟨Nat.le_of_ble_eq_true rfl, Nat.le_of_ble_eq_true rfl⟩) (zPr_S hK hPc) rfl rfl hl.1 rfl (lv_room (Nat.le_of_ble_eq_true rfl)) dX4_looksAtRests_49 ⟨Nat.zero_le _, Nat.zero_le _⟩) ?_
    refine lv_if_eq (tgt := 135) hx hb dX4_looksAtRests_52 (by decide) (fun c16 => ?_) (fun c16 => ?_)
    · have h := zif_t c16 h
      refine lv_iinc (v := (v7 + (1 : Int32))) (lv' := [(4, .int (v7 + (1 : Int32))), (5, .int v13), (0, .ref a_this), (1, .ref a_then), (2, .long v6)]) hx hb dX4_looksAtRests_135 hl (k := 4) rfl rfl (by decide) rfl (fun ls hl => ?_)
      refine lv_goto (tgt := 20) hx hb dX4_looksAtRests_138 (by decide) ?_
      exact ih20 v6 (v7 + (1 : Int32)) v8 v9 v10 h _ _ hP hD hS ls (lv_sub hl [2, 3, 4, 0] rfl)
    · have h := zif_f c16 h
      refine lv_lload_n hx hb dX4_looksAtRests_55 rfl (lv_at hl 3 rfl) ?_
      refine lv_iload hx hb dX4_looksAtRests_56 (lv_at hl 0 rfl) ?_
      refine lv_lshr (v := (v6 >>> (v13.toInt64 &&& 63))) hx hb dX4_looksAtRests_58 rfl ?_
      refine lv_lconst (v := (1 : Int64)) hx hb dX4_looksAtRests_59 (by decide) ?_
      refine lv_land hx hb dX4_looksAtRests_60 ?_
      refine lv_lconst (v := (0 : Int64)) hx hb dX4_looksAtRests_61 (by decide) ?_
      refine W.lcmp hx hb dX4_looksAtRests_62 ?_
      refine lv_if_ne (tgt := 135) hx hb dX4_looksAtRests_63 (by decide) (fun c17 => ?_) (fun c17 => ?_)
      · have h := zif_f c17 h
        refine lv_iinc (v := (v7 + (1 : Int32))) (lv' := [(4, .int (v7 + (1 : Int32))), (5, .int v13), (0, .ref a_this), (1, .ref a_then), (2, .long v6)]) hx hb dX4_looksAtRests_135 hl (k := 4) rfl rfl (by decide) rfl (fun ls hl => ?_)
        refine lv_goto (tgt := 20) hx hb dX4_looksAtRests_138 (by decide) ?_
        exact ih20 v6 (v7 + (1 : Int32)) v8 v9 v10 h _ _ hP hD hS ls (lv_sub hl [2, 3, 4, 0] rfl)
      · have h := zif_t c17 h
        refine lv_lload_n hx hb dX4_looksAtRests_66 rfl (lv_at hl 3 rfl) ?_
        refine lv_lconst (v := (1 : Int64)) hx hb dX4_looksAtRests_67 (by decide) ?_
        refine lv_iload hx hb dX4_looksAtRests_68 (lv_at hl 0 rfl) ?_
        refine lv_lshl (v := ((1 : Int64) <<< (v13.toInt64 &&& 63))) hx hb dX4_looksAtRests_70 rfl ?_
        refine lv_lor hx hb dX4_looksAtRests_71 ?_
        refine lv_lstore_n (lv' := [(2, .long (v6 ||| ((1 : Int64) <<< (v13.toInt64 &&& 63)))), (5, .int v13), (0, .ref a_this), (1, .ref a_then), (4, .int v7)]) hx hb dX4_looksAtRests_72 rfl hl (by decide) rfl (fun ls hl => ?_)
        refine lv_aload_n hx hb dX4_looksAtRests_73 rfl (lv_at hl 2 rfl) ?_
        refine lv_dup hx hb dX4_looksAtRests_74 rfl ?_
        refine va_get (D := D) (ci := 4) (v := .int v8) (C := RX4) (T := TX4) (N := 28) hx hb hts hinX4 hown hK hP 0 rfl rfl 16 (by decide) (hts (Cond.fieldLink RX4 106 "LadderRelaysModel" "rests" "I") (List.mem_of_getElem? (i := 1) rfl)) (fun _ h9 => h9) rfl dX4_looksAtRests_75 ?_
        refine lv_iconst (v := (1 : Int32)) hx hb dX4_looksAtRests_78 (by decide) ?_
        refine lv_iadd hx hb dX4_looksAtRests_79 ?_
        refine va_put (D := D) (ci := 4) (v := .int (v8 + (1 : Int32))) (ty := .int) (C := RX4) (T := TX4) (N := 28) hx hb hts hinX4 tyX4 tyX4_ok nmX4 hown hK hP hD hS 0 rfl rfl 16 (by decide) (hts (Cond.fieldLink RX4 106 "LadderRelaysModel" "rests" "I") (List.mem_of_getElem? (i := 1) rfl)) (fun _ h9 => h9) rfl (by decide +kernel) rfl rfl (Nat.le_of_ble_eq_true rfl) dX4_looksAtRests_80 (fun H locs hP hD hS => ?_)
        have hP : va_P D vwCl [(a_this, .inr (4, [.int f_thrown, .ref a_s, .ref a_then, .ref a_past, .int f_saved, .ref a_text, .int f_length, .int f_counted, .int f_due, .ref a_met, .ref a_table, .ref a_ways, .ref a_waysOf, .ref a_into, .int f_meets, .int f_isTold, .int (v8 + (1 : Int32)), .int v9, .int v10, .int f_isWheel, .int f_ended, .int f_spot, .ref a_orders, .int f_ordered, .int f_cureAmount, .int f_cureRelay, .int f_cureWhich, .long f_hash])), (a_then, .inl (cI, 88, .inl f_then)), (a_met, .inl (cI, 301, .inl f_met))] H := hP
        have hD : va_D A [(a_this, .inr (4, [.int f_thrown, .ref a_s, .ref a_then, .ref a_past, .int f_saved, .ref a_text, .int f_length, .int f_counted, .int f_due, .ref a_met, .ref a_table, .ref a_ways, .ref a_waysOf, .ref a_into, .int f_meets, .int f_isTold, .int (v8 + (1 : Int32)), .int v9, .int v10, .int f_isWheel, .int f_ended, .int f_spot, .ref a_orders, .int f_ordered, .int f_cureAmount, .int f_cureRelay, .int f_cureWhich, .long f_hash])), (a_then, .inl (cI, 88, .inl f_then)), (a_met, .inl (cI, 301, .inl f_met))] := hD
        refine lv_aload_n hx hb dX4_looksAtRests_83 rfl (lv_at hl 2 rfl) ?_
        refine lv_aload_n hx hb dX4_looksAtRests_84 rfl (lv_at hl 2 rfl) ?_
        refine va_get (D := D) (ci := 4) (v := .int v9) (C := RX4) (T := TX4) (N := 28) hx hb hts hinX4 hown hK hP 0 rfl rfl 17 (by decide) (hts (Cond.fieldLink RX4 109 "LadderRelaysModel" "leastRest" "I") (List.mem_of_getElem? (i := 2) rfl)) (fun _ h9 => h9) rfl dX4_looksAtRests_85 ?_
        refine lv_iconst (v := (-1 : Int32)) hx hb dX4_looksAtRests_88 (by decide) ?_
        have J110 : ∀ (v18 : Int32), F_X4_looksAtRests_then_J110 rec20 v6 v7 v8 v10 v13 v18 = some R → ∀ (H : Heap) (locs : List Loc), va_P D vwCl [(a_this, .inr (4, [.int f_thrown, .ref a_s, .ref a_then, .ref a_past, .int f_saved, .ref a_text, .int f_length, .int f_counted, .int f_due, .ref a_met, .ref a_table, .ref a_ways, .ref a_waysOf, .ref a_into, .int f_meets, .int f_isTold, .int (v8 + (1 : Int32)), .int v9, .int v10, .int f_isWheel, .int f_ended, .int f_spot, .ref a_orders, .int f_ordered, .int f_cureAmount, .int f_cureRelay, .int f_cureWhich, .long f_hash])), (a_then, .inl (cI, 88, .inl f_then)), (a_met, .inl (cI, 301, .inl f_met))] H → va_D A [(a_this, .inr (4, [.int f_thrown, .ref a_s, .ref a_then, .ref a_past, .int f_saved, .ref a_text, .int f_length, .int f_counted, .int f_due, .ref a_met, .ref a_table, .ref a_ways, .ref a_waysOf, .ref a_into, .int f_meets, .int f_isTold, .int (v8 + (1 : Int32)), .int v9, .int v10, .int f_isWheel, .int f_ended, .int f_spot, .ref a_orders, .int f_ordered, .int f_cureAmount, .int f_cureRelay, .int f_cureWhich, .long f_hash])), (a_then, .inl (cI, 88, .inl f_then)), (a_met, .inl (cI, 301, .inl f_met))] → va_S A s.heap H locs → ∀ ls : Array Slot, lv_has ls 6 [(0, .ref a_this), (1, .ref a_then), (2, .long (v6 ||| ((1 : Int64) <<< (v13.toInt64 &&& 63)))), (4, .int v7), (5, .int v13)] → W p l e ({ frames := 4, cells := 0, slots := 0, locals := 92 } : Room) s m (([.ref a_this, .ref a_then] : List Value).toArray) below meth c H locs 0 0 (MQ below (zWv D [(a_this, .inr (4, [.int f_thrown, .ref a_s, .ref a_then, .ref a_past, .int f_saved, .ref a_text, .int f_length, .int f_counted, .int f_due, .ref a_met, .ref a_table, .ref a_ways, .ref a_waysOf, .ref a_into, .int f_meets, .int f_isTold, .int R.1, .int R.2.1, .int R.2.2, .int f_isWheel, .int f_ended, .int f_spot, .ref a_orders, .int f_ordered, .int f_cureAmount, .int f_cureRelay, .int f_cureWhich, .long f_hash])), (a_then, .inl (cI, 88, .inl f_then)), (a_met, .inl (cI, 301, .inl f_met))] A) (([.ref a_this, .ref a_then] : List Value).toArray) s 0 0 A) (F0 m 110 ls [.int v18, .ref a_this]) := by
          intro v18 h H locs hP hD hS ls hl
          unfold F_X4_looksAtRests_then_J110 at h
          refine va_put (D := D) (ci := 4) (v := .int v18) (ty := .int) (C := RX4) (T := TX4) (N := 28) hx hb hts hinX4 tyX4 tyX4_ok nmX4 hown hK hP hD hS 0 rfl rfl 17 (by decide) (hts (Cond.fieldLink RX4 109 "LadderRelaysModel" "leastRest" "I") (List.mem_of_getElem? (i := 2) rfl)) (fun _ h9 => h9) rfl (by decide +kernel) rfl rfl (Nat.le_of_ble_eq_true rfl) dX4_looksAtRests_110 (fun H locs hP hD hS => ?_)
          have hP : va_P D vwCl [(a_this, .inr (4, [.int f_thrown, .ref a_s, .ref a_then, .ref a_past, .int f_saved, .ref a_text, .int f_length, .int f_counted, .int f_due, .ref a_met, .ref a_table, .ref a_ways, .ref a_waysOf, .ref a_into, .int f_meets, .int f_isTold, .int (v8 + (1 : Int32)), .int v18, .int v10, .int f_isWheel, .int f_ended, .int f_spot, .ref a_orders, .int f_ordered, .int f_cureAmount, .int f_cureRelay, .int f_cureWhich, .long f_hash])), (a_then, .inl (cI, 88, .inl f_then)), (a_met, .inl (cI, 301, .inl f_met))] H := hP
          have hD : va_D A [(a_this, .inr (4, [.int f_thrown, .ref a_s, .ref a_then, .ref a_past, .int f_saved, .ref a_text, .int f_length, .int f_counted, .int f_due, .ref a_met, .ref a_table, .ref a_ways, .ref a_waysOf, .ref a_into, .int f_meets, .int f_isTold, .int (v8 + (1 : Int32)), .int v18, .int v10, .int f_isWheel, .int f_ended, .int f_spot, .ref a_orders, .int f_ordered, .int f_cureAmount, .int f_cureRelay, .int f_cureWhich, .long f_hash])), (a_then, .inl (cI, 88, .inl f_then)), (a_met, .inl (cI, 301, .inl f_met))] := hD
          refine lv_aload_n hx hb dX4_looksAtRests_113 rfl (lv_at hl 0 rfl) ?_
          refine lv_iload hx hb dX4_looksAtRests_114 (lv_at hl 4 rfl) ?_
          refine lv_aload_n hx hb dX4_looksAtRests_116 rfl (lv_at hl 0 rfl) ?_
          refine va_get (D := D) (ci := 4) (v := .int v10) (C := RX4) (T := TX4) (N := 28) hx hb hts hinX4 hown hK hP 0 rfl rfl 18 (by decide) (hts (Cond.fieldLink RX4 112 "LadderRelaysModel" "mostRest" "I") (List.mem_of_getElem? (i := 3) rfl)) (fun _ h9 => h9) rfl dX4_looksAtRests_117 ?_
          refine lv_icmp_le (tgt := 128) hx hb dX4_looksAtRests_120 (by decide) (fun c19 => ?_) (fun c19 => ?_)
          · have h := zif_t c19 h
            refine lv_aload_n hx hb dX4_looksAtRests_128 rfl (lv_at hl 0 rfl) ?_
            refine va_get (D := D) (ci := 4) (v := .int v10) (C := RX4) (T := TX4) (N := 28) hx hb hts hinX4 hown hK hP 0 rfl rfl 18 (by decide) (hts (Cond.fieldLink RX4 112 "LadderRelaysModel" "mostRest" "I") (List.mem_of_getElem? (i := 3) rfl)) (fun _ h9 => h9) rfl dX4_looksAtRests_129 ?_
            refine va_put (D := D) (ci := 4) (v := .int v10) (ty := .int) (C := RX4) (T := TX4) (N := 28) hx hb hts hinX4 tyX4 tyX4_ok nmX4 hown hK hP hD hS 0 rfl rfl 18 (by decide) (hts (Cond.fieldLink RX4 112 "LadderRelaysModel" "mostRest" "I") (List.mem_of_getElem? (i := 3) rfl)) (fun _ h9 => h9) rfl (by decide +kernel) rfl rfl (Nat.le_of_ble_eq_true rfl) dX4_looksAtRests_132 (fun H locs hP hD hS => ?_)
            have hP : va_P D vwCl [(a_this, .inr (4, [.int f_thrown, .ref a_s, .ref a_then, .ref a_past, .int f_saved, .ref a_text, .int f_length, .int f_counted, .int f_due, .ref a_met, .ref a_table, .ref a_ways, .ref a_waysOf, .ref a_into, .int f_meets, .int f_isTold, .int (v8 + (1 : Int32)), .int v18, .int v10, .int f_isWheel, .int f_ended, .int f_spot, .ref a_orders, .int f_ordered, .int f_cureAmount, .int f_cureRelay, .int f_cureWhich, .long f_hash])), (a_then, .inl (cI, 88, .inl f_then)), (a_met, .inl (cI, 301, .inl f_met))] H := hP
            have hD : va_D A [(a_this, .inr (4, [.int f_thrown, .ref a_s, .ref a_then, .ref a_past, .int f_saved, .ref a_text, .int f_length, .int f_counted, .int f_due, .ref a_met, .ref a_table, .ref a_ways, .ref a_waysOf, .ref a_into, .int f_meets, .int f_isTold, .int (v8 + (1 : Int32)), .int v18, .int v10, .int f_isWheel, .int f_ended, .int f_spot, .ref a_orders, .int f_ordered, .int f_cureAmount, .int f_cureRelay, .int f_cureWhich, .long f_hash])), (a_then, .inl (cI, 88, .inl f_then)), (a_met, .inl (cI, 301, .inl f_met))] := hD
            refine lv_iinc (v := (v7 + (1 : Int32))) (lv' := [(4, .int (v7 + (1 : Int32))), (0, .ref a_this), (1, .ref a_then), (2, .long (v6 ||| ((1 : Int64) <<< (v13.toInt64 &&& 63)))), (5, .int v13)]) hx hb dX4_looksAtRests_135 hl (k := 3) rfl rfl (by decide) rfl (fun ls hl => ?_)
            refine lv_goto (tgt := 20) hx hb dX4_looksAtRests_138 (by decide) ?_
            exact ih20 (v6 ||| ((1 : Int64) <<< (v13.toInt64 &&& 63))) (v7 + (1 : Int32)) (v8 + (1 : Int32)) v18 v10 h _ _ hP hD hS ls (lv_sub hl [1, 2, 3, 0] rfl)
          · have h := zif_f c19 h
            refine lv_iload hx hb dX4_looksAtRests_123 (lv_at hl 4 rfl) ?_
            refine lv_goto (tgt := 132) hx hb dX4_looksAtRests_125 (by decide) ?_
            refine va_put (D := D) (ci := 4) (v := .int v13) (ty := .int) (C := RX4) (T := TX4) (N := 28) hx hb hts hinX4 tyX4 tyX4_ok nmX4 hown hK hP hD hS 0 rfl rfl 18 (by decide) (hts (Cond.fieldLink RX4 112 "LadderRelaysModel" "mostRest" "I") (List.mem_of_getElem? (i := 3) rfl)) (fun _ h9 => h9) rfl (by decide +kernel) rfl rfl (Nat.le_of_ble_eq_true rfl) dX4_looksAtRests_132 (fun H locs hP hD hS => ?_)
            have hP : va_P D vwCl [(a_this, .inr (4, [.int f_thrown, .ref a_s, .ref a_then, .ref a_past, .int f_saved, .ref a_text, .int f_length, .int f_counted, .int f_due, .ref a_met, .ref a_table, .ref a_ways, .ref a_waysOf, .ref a_into, .int f_meets, .int f_isTold, .int (v8 + (1 : Int32)), .int v18, .int v13, .int f_isWheel, .int f_ended, .int f_spot, .ref a_orders, .int f_ordered, .int f_cureAmount, .int f_cureRelay, .int f_cureWhich, .long f_hash])), (a_then, .inl (cI, 88, .inl f_then)), (a_met, .inl (cI, 301, .inl f_met))] H := hP
            have hD : va_D A [(a_this, .inr (4, [.int f_thrown, .ref a_s, .ref a_then, .ref a_past, .int f_saved, .ref a_text, .int f_length, .int f_counted, .int f_due, .ref a_met, .ref a_table, .ref a_ways, .ref a_waysOf, .ref a_into, .int f_meets, .int f_isTold, .int (v8 + (1 : Int32)), .int v18, .int v13, .int f_isWheel, .int f_ended, .int f_spot, .ref a_orders, .int f_ordered, .int f_cureAmount, .int f_cureRelay, .int f_cureWhich, .long f_hash])), (a_then, .inl (cI, 88, .inl f_then)), (a_met, .inl (cI, 301, .inl f_met))] := hD
            refine lv_iinc (v := (v7 + (1 : Int32))) (lv' := [(4, .int (v7 + (1 : Int32))), (0, .ref a_this), (1, .ref a_then), (2, .long (v6 ||| ((1 : Int64) <<< (v13.toInt64 &&& 63)))), (5, .int v13)]) hx hb dX4_looksAtRests_135 hl (k := 3) rfl rfl (by decide) rfl (fun ls hl => ?_)
            refine lv_goto (tgt := 20) hx hb dX4_looksAtRests_138 (by decide) ?_
            exact ih20 (v6 ||| ((1 : Int64) <<< (v13.toInt64 &&& 63))) (v7 + (1 : Int32)) (v8 + (1 : Int32)) v18 v13 h _ _ hP hD hS ls (lv_sub hl [1, 2, 3, 0] rfl)
        refine lv_icmp_eq (tgt := 101) hx hb dX4_looksAtRests_89 (by decide) (fun c20 => ?_) (fun c20 => ?_)
        · have h := zif_t c20 h
          refine lv_iload hx hb dX4_looksAtRests_101 (lv_at hl 1 rfl) ?_
          refine lv_goto (tgt := 110) hx hb dX4_looksAtRests_103 (by decide) ?_
          exact J110 v13 h _ _ hP hD hS ls (lv_sub hl [2, 3, 0, 4, 1] rfl)
        · have h := zif_f c20 h
          refine lv_iload hx hb dX4_looksAtRests_92 (lv_at hl 1 rfl) ?_
          refine lv_aload_n hx hb dX4_looksAtRests_94 rfl (lv_at hl 2 rfl) ?_
          refine va_get (D := D) (ci := 4) (v := .int v9) (C := RX4) (T := TX4) (N := 28) hx hb hts hinX4 hown hK hP 0 rfl rfl 17 (by decide) (hts (Cond.fieldLink RX4 109 "LadderRelaysModel" "leastRest" "I") (List.mem_of_getElem? (i := 2) rfl)) (fun _ h9 => h9) rfl dX4_looksAtRests_95 ?_
          refine lv_icmp_ge (tgt := 106) hx hb dX4_looksAtRests_98 (by decide) (fun c21 => ?_) (fun c21 => ?_)
          · have h := zif_t c21 h
            refine lv_aload_n hx hb dX4_looksAtRests_106 rfl (lv_at hl 2 rfl) ?_
            refine va_get (D := D) (ci := 4) (v := .int v9) (C := RX4) (T := TX4) (N := 28) hx hb hts hinX4 hown hK hP 0 rfl rfl 17 (by decide) (hts (Cond.fieldLink RX4 109 "LadderRelaysModel" "leastRest" "I") (List.mem_of_getElem? (i := 2) rfl)) (fun _ h9 => h9) rfl dX4_looksAtRests_107 ?_
            exact J110 v9 h _ _ hP hD hS ls (lv_sub hl [2, 3, 0, 4, 1] rfl)
          · have h := zif_f c21 h
            refine lv_iload hx hb dX4_looksAtRests_101 (lv_at hl 1 rfl) ?_
            refine lv_goto (tgt := 110) hx hb dX4_looksAtRests_103 (by decide) ?_
            exact J110 v13 h _ _ hP hD hS ls (lv_sub hl [2, 3, 0, 4, 1] rfl)
def F_X4_races_s_J84 (fu : Nat) (f_isWheel : Int32) (f_leastRest : Int32) (f_mostRest : Int32) (f_rests : Int32) (f_s : Nat → Int32) (v6 : Int32) (v7 : Int32) (v8 : Int32) (v9 : Nat → Int32) (v10 : Nat → Int32) (v11 : Nat → Int32) (v12 : Nat → Int32) (v13 : Nat → Int32) (v14 : Int32) : Option (Int32 × Int32 × Int32 × Int32 × Int32 × Int32 × Int32 × Int32 × (Nat → Int32) × (Nat → Int32) × (Nat → Int32) × (Nat → Int32) × (Nat → Int32)) := (zbo v14).bind fun v15 => if v15 = (0 : Int32) then some (v6, v7, v8, v15, f_rests, f_leastRest, f_mostRest, f_isWheel, v9, v10, v11, v12, v13) else (F_X4_looksAtRests_s fu v8 f_rests f_leastRest f_mostRest f_s v9).bind fun v17 => (F_X4_hasWheel fu v8 v10 v11 v12 v13).bind fun v18 => (zbo v18.1).bind fun v19 => some (v6, v7, v8, v15, v17.1, v17.2.1, v17.2.2, v19, v9, v18.2.1, v11, v12, v18.2.2)
def F_X4_races_s_E68 (fu : Nat) (f_isWheel : Int32) (f_leastRest : Int32) (f_mostRest : Int32) (f_rests : Int32) (f_s : Nat → Int32) (v5 : Int32) (v6 : Int32) (v7 : Int32) (v8 : Int32) (v9 : Nat → Int32) (v10 : Nat → Int32) (v11 : Nat → Int32) (v12 : Nat → Int32) (v13 : Nat → Int32) : Option (Int32 × Int32 × Int32 × Int32 × Int32 × Int32 × Int32 × Int32 × (Nat → Int32) × (Nat → Int32) × (Nat → Int32) × (Nat → Int32) × (Nat → Int32)) := if (300 : Int32) < v8 then F_X4_races_s_J84 fu f_isWheel f_leastRest f_mostRest f_rests f_s v6 v7 v8 v9 v10 v11 v12 v13 (0 : Int32) else F_X4_races_s_J84 fu f_isWheel f_leastRest f_mostRest f_rests f_s v6 v7 v8 v9 v10 v11 v12 v13 (1 : Int32)
def F_X4_races_s_L38 (fu : Nat) (f_s : Nat → Int32) (k38 : Int32 → Int32 → Int32 → Int32 → (Nat → Int32) → (Nat → Int32) → (Nat → Int32) → (Nat → Int32) → (Nat → Int32) → Option (Int32 × Int32 × Int32 × Int32 × Int32 × Int32 × Int32 × Int32 × (Nat → Int32) × (Nat → Int32) × (Nat → Int32) × (Nat → Int32) × (Nat → Int32))) (rec38 : Int32 → Int32 → Int32 → Int32 → (Nat → Int32) → (Nat → Int32) → (Nat → Int32) → (Nat → Int32) → (Nat → Int32) → Option (Int32 × Int32 × Int32 × Int32 × Int32 × Int32 × Int32 × Int32 × (Nat → Int32) × (Nat → Int32) × (Nat → Int32) × (Nat → Int32) × (Nat → Int32))) (v21 : Int32) (v22 : Int32) (v23 : Int32) (v24 : Int32) (v25 : Nat → Int32) (v26 : Nat → Int32) (v27 : Nat → Int32) (v28 : Nat → Int32) (v29 : Nat → Int32) : Option (Int32 × Int32 × Int32 × Int32 × Int32 × Int32 × Int32 × Int32 × (Nat → Int32) × (Nat → Int32) × (Nat → Int32) × (Nat → Int32) × (Nat → Int32)) := if v24 ≤ v21 then k38 v21 v22 v23 v24 v25 v26 v27 v28 v29 else if (300 : Int32) < v24 then k38 v21 v22 v23 v24 v25 v26 v27 v28 v29 else (F_X4_laysWays_s fu v22 v23 v24 f_s v25 v26 v27 v28 v29 v21).bind fun v32 => rec38 (v21 + (1 : Int32)) v32.1 v32.2.1 v32.2.2.1 v32.2.2.2.1 v32.2.2.2.2.1 v32.2.2.2.2.2.1 v32.2.2.2.2.2.2.1 v32.2.2.2.2.2.2.2
def F_X4_races_s_E22 (fu : Nat) (f_counted : Int32) (f_due : Int32) (f_into : Nat → Int32) (f_isWheel : Int32) (f_leastRest : Int32) (f_met : Nat → Int32) (f_mostRest : Int32) (f_rests : Int32) (f_s : Nat → Int32) (f_ways : Nat → Int32) (f_waysOf : Nat → Int32) (v1 : Int32) (v2 : Nat → Int32) : Option (Int32 × Int32 × Int32 × Int32 × Int32 × Int32 × Int32 × Int32 × (Nat → Int32) × (Nat → Int32) × (Nat → Int32) × (Nat → Int32) × (Nat → Int32)) := (F_X4_codeOf fu f_s 88).bind fun v3 => (F_X4_metAt fu (0 : Int32) f_met v2 f_waysOf f_into v3).bind fun v4 => zlp9 (F_X4_races_s_L38 fu f_s (F_X4_races_s_E68 fu f_isWheel f_leastRest f_mostRest f_rests f_s)) fu v4.1 f_counted f_due v4.2.1 v4.2.2.1 v4.2.2.2.1 f_ways v4.2.2.2.2.1 v4.2.2.2.2.2
def F_X4_races_s_L2  (k2 : Int32 → (Nat → Int32) → Option (Int32 × Int32 × Int32 × Int32 × Int32 × Int32 × Int32 × Int32 × (Nat → Int32) × (Nat → Int32) × (Nat → Int32) × (Nat → Int32) × (Nat → Int32))) (rec2 : Int32 → (Nat → Int32) → Option (Int32 × Int32 × Int32 × Int32 × Int32 × Int32 × Int32 × Int32 × (Nat → Int32) × (Nat → Int32) × (Nat → Int32) × (Nat → Int32) × (Nat → Int32))) (v33 : Int32) (v34 : Nat → Int32) : Option (Int32 × Int32 × Int32 × Int32 × Int32 × Int32 × Int32 × Int32 × (Nat → Int32) × (Nat → Int32) × (Nat → Int32) × (Nat → Int32) × (Nat → Int32)) := if (1024 : Int32) ≤ v33 then k2 v33 v34 else (zwr v34 1024 v33 (0 : Int32)).bind fun v36 => rec2 (v33 + (1 : Int32)) v36
def F_X4_races_s (fu : Nat) (f_counted : Int32) (f_due : Int32) (f_meets : Int32) (f_isTold : Int32) (f_rests : Int32) (f_leastRest : Int32) (f_mostRest : Int32) (f_isWheel : Int32) (f_s : Nat → Int32) (f_met : Nat → Int32) (f_table : Nat → Int32) (f_ways : Nat → Int32) (f_waysOf : Nat → Int32) (f_into : Nat → Int32) : Option (Int32 × Int32 × Int32 × Int32 × Int32 × Int32 × Int32 × Int32 × (Nat → Int32) × (Nat → Int32) × (Nat → Int32) × (Nat → Int32) × (Nat → Int32)) := zlp2 (F_X4_races_s_L2 (F_X4_races_s_E22 fu f_counted f_due f_into f_isWheel f_leastRest f_met f_mostRest f_rests f_s f_ways f_waysOf)) fu (0 : Int32) f_table
set_option maxHeartbeats 4000000 in
set_option maxRecDepth 100000 in
theorem c_X4_races_s (l : Launch) (D : va_G) (cI cC cO cJ : ClassId) (fu : Nat) (a_this a_s a_then a_past a_text a_met a_table a_ways a_waysOf a_into a_orders : Nat) (sz : Nat) (f_thrown : Int32) (f_saved : Int32) (f_length : Int32) (f_counted : Int32) (f_due : Int32) (f_meets : Int32) (f_isTold : Int32) (f_rests : Int32) (f_leastRest : Int32) (f_mostRest : Int32) (f_isWheel : Int32) (f_ended : Int32) (f_spot : Int32) (f_ordered : Int32) (f_cureAmount : Int32) (f_cureRelay : Int32) (f_cureWhich : Int32) (f_hash : Int64) (f_s : Nat → Int32) (f_met : Nat → Int32) (f_table : Nat → Int32) (f_ways : Nat → Int32) (f_waysOf : Nat → Int32) (f_into : Nat → Int32) (R : Int32 × Int32 × Int32 × Int32 × Int32 × Int32 × Int32 × Int32 × (Nat → Int32) × (Nat → Int32) × (Nat → Int32) × (Nat → Int32) × (Nat → Int32)) (h : F_X4_races_s fu f_counted f_due f_meets f_isTold f_rests f_leastRest f_mostRest f_isWheel f_s f_met f_table f_ways f_waysOf f_into = some R) : Met l yX4_races wsX4_races ({ frames := 5, cells := 0, slots := 0, locals := 123 } : Room) (zPw D (ztys cI cC cO cJ) [(a_this, .inr (4, [.int f_thrown, .ref a_s, .ref a_then, .ref a_past, .int f_saved, .ref a_text, .int f_length, .int f_counted, .int f_due, .ref a_met, .ref a_table, .ref a_ways, .ref a_waysOf, .ref a_into, .int f_meets, .int f_isTold, .int f_rests, .int f_leastRest, .int f_mostRest, .int f_isWheel, .int f_ended, .int f_spot, .ref a_orders, .int f_ordered, .int f_cureAmount, .int f_cureRelay, .int f_cureWhich, .long f_hash])), (a_s, .inl (cI, 88, .inl f_s)), (a_met, .inl (cI, 301, .inl f_met)), (a_table, .inl (cI, 1024, .inl f_table)), (a_ways, .inl (cI, 2107, .inl f_ways)), (a_waysOf, .inl (cI, 301, .inl f_waysOf)), (a_into, .inl (cI, 301, .inl f_into))] sz [.ref a_this, .ref a_s]) (zWv D [(a_this, .inr (4, [.int f_thrown, .ref a_s, .ref a_then, .ref a_past, .int f_saved, .ref a_text, .int f_length, .int R.1, .int R.2.1, .ref a_met, .ref a_table, .ref a_ways, .ref a_waysOf, .ref a_into, .int R.2.2.1, .int R.2.2.2.1, .int R.2.2.2.2.1, .int R.2.2.2.2.2.1, .int R.2.2.2.2.2.2.1, .int R.2.2.2.2.2.2.2.1, .int f_ended, .int f_spot, .ref a_orders, .int f_ordered, .int f_cureAmount, .int f_cureRelay, .int f_cureWhich, .long f_hash])), (a_s, .inl (cI, 88, .inl f_s)), (a_met, .inl (cI, 301, .inl R.2.2.2.2.2.2.2.2.1)), (a_table, .inl (cI, 1024, .inl R.2.2.2.2.2.2.2.2.2.1)), (a_ways, .inl (cI, 2107, .inl R.2.2.2.2.2.2.2.2.2.2.1)), (a_waysOf, .inl (cI, 301, .inl R.2.2.2.2.2.2.2.2.2.2.2.1)), (a_into, .inl (cI, 301, .inl R.2.2.2.2.2.2.2.2.2.2.2.2))] (va_A [(a_this, .inr (4, [.int f_thrown, .ref a_s, .ref a_then, .ref a_past, .int f_saved, .ref a_text, .int f_length, .int f_counted, .int f_due, .ref a_met, .ref a_table, .ref a_ways, .ref a_waysOf, .ref a_into, .int f_meets, .int f_isTold, .int f_rests, .int f_leastRest, .int f_mostRest, .int f_isWheel, .int f_ended, .int f_spot, .ref a_orders, .int f_ordered, .int f_cureAmount, .int f_cureRelay, .int f_cureWhich, .long f_hash])), (a_s, .inl (cI, 88, .inl f_s)), (a_met, .inl (cI, 301, .inl f_met)), (a_table, .inl (cI, 1024, .inl f_table)), (a_ways, .inl (cI, 2107, .inl f_ways)), (a_waysOf, .inl (cI, 301, .inl f_waysOf)), (a_into, .inl (cI, 301, .inl f_into))] sz)) 0 0 (va_A [(a_this, .inr (4, [.int f_thrown, .ref a_s, .ref a_then, .ref a_past, .int f_saved, .ref a_text, .int f_length, .int f_counted, .int f_due, .ref a_met, .ref a_table, .ref a_ways, .ref a_waysOf, .ref a_into, .int f_meets, .int f_isTold, .int f_rests, .int f_leastRest, .int f_mostRest, .int f_isWheel, .int f_ended, .int f_spot, .ref a_orders, .int f_ordered, .int f_cureAmount, .int f_cureRelay, .int f_cureWhich, .long f_hash])), (a_s, .inl (cI, 88, .inl f_s)), (a_met, .inl (cI, 301, .inl f_met)), (a_table, .inl (cI, 1024, .inl f_table)), (a_ways, .inl (cI, 2107, .inl f_ways)), (a_waysOf, .inl (cI, 301, .inl f_waysOf)), (a_into, .inl (cI, 301, .inl f_into))] sz) := by
  refine Met.ofW (cc := cX4_races) (maxL := 4) (ret := none) (by decide) rfl ?_
  intro p e s m args below meth c s₁ B hml hv
  obtain ⟨rfl, hsz, hP, hK, hD0⟩ := hv
  have hx := B.exec
  have hb := B.bytes
  have hr := B.returns
  have hts := atoms_spec (ws := wsX4_races) B.pre
  have hown : s.vm.findClass RX4 = some m.cls := findClass_of_methodNamed B.named
  have hlocks := B.notSynchronized
  have hinX4 : ∀ w ∈ wsX40, w ∈ wsX4_races := fun _ h => (List.mem_cons_of_mem _ (List.mem_append_right _ h))
  subst hsz
  have hD := hD0.self (sz := s.heap.size)
  generalize hAe : va_A [(a_this, .inr (4, [.int f_thrown, .ref a_s, .ref a_then, .ref a_past, .int f_saved, .ref a_text, .int f_length, .int f_counted, .int f_due, .ref a_met, .ref a_table, .ref a_ways, .ref a_waysOf, .ref a_into, .int f_meets, .int f_isTold, .int f_rests, .int f_leastRest, .int f_mostRest, .int f_isWheel, .int f_ended, .int f_spot, .ref a_orders, .int f_ordered, .int f_cureAmount, .int f_cureRelay, .int f_cureWhich, .long f_hash])), (a_s, .inl (cI, 88, .inl f_s)), (a_met, .inl (cI, 301, .inl f_met)), (a_table, .inl (cI, 1024, .inl f_table)), (a_ways, .inl (cI, 2107, .inl f_ways)), (a_waysOf, .inl (cI, 301, .inl f_waysOf)), (a_into, .inl (cI, 301, .inl f_into))] s.heap.size = A at hD ⊢
  have hA : ∀ q : Nat, s.heap.size ≤ q → A q := fun q h => by rw [← hAe]; exact Or.inr h
  have hS : va_S A s.heap s.heap [] := va_S.rf
  have hP : va_P D vwCl [(a_this, .inr (4, [.int f_thrown, .ref a_s, .ref a_then, .ref a_past, .int f_saved, .ref a_text, .int f_length, .int f_counted, .int f_due, .ref a_met, .ref a_table, .ref a_ways, .ref a_waysOf, .ref a_into, .int f_meets, .int f_isTold, .int f_rests, .int f_leastRest, .int f_mostRest, .int f_isWheel, .int f_ended, .int f_spot, .ref a_orders, .int f_ordered, .int f_cureAmount, .int f_cureRelay, .int f_cureWhich, .long f_hash])), (a_s, .inl (cI, 88, .inl f_s)), (a_met, .inl (cI, 301, .inl f_met)), (a_table, .inl (cI, 1024, .inl f_table)), (a_ways, .inl (cI, 2107, .inl f_ways)), (a_waysOf, .inl (cI, 301, .inl f_waysOf)), (a_into, .inl (cI, 301, .inl f_into))] s.heap := hP
  have hK : va_K D vwCl (ztys cI cC cO cJ) s := hK
  have hl := lv_entry ([.ref a_this, .ref a_s]) (n := 4) (Nat.le_of_ble_eq_true rfl)
  rw [lg_entry_eq]
  generalize (lg_sl ([.ref a_this, .ref a_s]) ++ List.replicate (4 - (lg_sl ([.ref a_this, .ref a_s])).length) Slot.unset).toArray = ls at hl ⊢
  have hl : lv_has ls 4 [(0, .ref a_this), (1, .ref a_s)] := hl
  unfold F_X4_races_s at h
  refine lv_iconst (v := (0 : Int32)) hx hb dX4_races_0 (by decide) ?_
  refine lv_istore_n (lv' := [(2, .int (0 : Int32)), (0, .ref a_this), (1, .ref a_s)]) hx hb dX4_races_1 rfl hl (by decide) rfl (fun ls hl => ?_)
  have E22 : ∀ (v1 : Int32) (v2 : Nat → Int32), F_X4_races_s_E22 fu f_counted f_due f_into f_isWheel f_leastRest f_met f_mostRest f_rests f_s f_ways f_waysOf v1 v2 = some R → ∀ (H : Heap) (locs : List Loc), va_P D vwCl [(a_this, .inr (4, [.int f_thrown, .ref a_s, .ref a_then, .ref a_past, .int f_saved, .ref a_text, .int f_length, .int f_counted, .int f_due, .ref a_met, .ref a_table, .ref a_ways, .ref a_waysOf, .ref a_into, .int f_meets, .int f_isTold, .int f_rests, .int f_leastRest, .int f_mostRest, .int f_isWheel, .int f_ended, .int f_spot, .ref a_orders, .int f_ordered, .int f_cureAmount, .int f_cureRelay, .int f_cureWhich, .long f_hash])), (a_s, .inl (cI, 88, .inl f_s)), (a_met, .inl (cI, 301, .inl f_met)), (a_table, .inl (cI, 1024, .inl v2)), (a_ways, .inl (cI, 2107, .inl f_ways)), (a_waysOf, .inl (cI, 301, .inl f_waysOf)), (a_into, .inl (cI, 301, .inl f_into))] H → va_D A [(a_this, .inr (4, [.int f_thrown, .ref a_s, .ref a_then, .ref a_past, .int f_saved, .ref a_text, .int f_length, .int f_counted, .int f_due, .ref a_met, .ref a_table, .ref a_ways, .ref a_waysOf, .ref a_into, .int f_meets, .int f_isTold, .int f_rests, .int f_leastRest, .int f_mostRest, .int f_isWheel, .int f_ended, .int f_spot, .ref a_orders, .int f_ordered, .int f_cureAmount, .int f_cureRelay, .int f_cureWhich, .long f_hash])), (a_s, .inl (cI, 88, .inl f_s)), (a_met, .inl (cI, 301, .inl f_met)), (a_table, .inl (cI, 1024, .inl v2)), (a_ways, .inl (cI, 2107, .inl f_ways)), (a_waysOf, .inl (cI, 301, .inl f_waysOf)), (a_into, .inl (cI, 301, .inl f_into))] → va_S A s.heap H locs → ∀ ls : Array Slot, lv_has ls 4 [(0, .ref a_this), (1, .ref a_s), (2, .int v1)] → W p l e ({ frames := 5, cells := 0, slots := 0, locals := 123 } : Room) s m (([.ref a_this, .ref a_s] : List Value).toArray) below meth c H locs 0 0 (MQ below (zWv D [(a_this, .inr (4, [.int f_thrown, .ref a_s, .ref a_then, .ref a_past, .int f_saved, .ref a_text, .int f_length, .int R.1, .int R.2.1, .ref a_met, .ref a_table, .ref a_ways, .ref a_waysOf, .ref a_into, .int R.2.2.1, .int R.2.2.2.1, .int R.2.2.2.2.1, .int R.2.2.2.2.2.1, .int R.2.2.2.2.2.2.1, .int R.2.2.2.2.2.2.2.1, .int f_ended, .int f_spot, .ref a_orders, .int f_ordered, .int f_cureAmount, .int f_cureRelay, .int f_cureWhich, .long f_hash])), (a_s, .inl (cI, 88, .inl f_s)), (a_met, .inl (cI, 301, .inl R.2.2.2.2.2.2.2.2.1)), (a_table, .inl (cI, 1024, .inl R.2.2.2.2.2.2.2.2.2.1)), (a_ways, .inl (cI, 2107, .inl R.2.2.2.2.2.2.2.2.2.2.1)), (a_waysOf, .inl (cI, 301, .inl R.2.2.2.2.2.2.2.2.2.2.2.1)), (a_into, .inl (cI, 301, .inl R.2.2.2.2.2.2.2.2.2.2.2.2))] A) (([.ref a_this, .ref a_s] : List Value).toArray) s 0 0 A) (F0 m 22 ls []) := by
    intro v1 v2 h H locs hP hD hS ls hl
    unfold F_X4_races_s_E22 at h
    refine lv_aload_n hx hb dX4_races_22 rfl (lv_at hl 0 rfl) ?_
    refine lv_iconst (v := (0 : Int32)) hx hb dX4_races_23 (by decide) ?_
    refine va_put (D := D) (ci := 4) (v := .int (0 : Int32)) (ty := .int) (C := RX4) (T := TX4) (N := 28) hx hb hts hinX4 tyX4 tyX4_ok nmX4 hown hK hP hD hS 0 rfl rfl 14 (by decide) (hts (Cond.fieldLink RX4 82 "LadderRelaysModel" "meets" "I") (List.mem_of_getElem? (i := 2) rfl)) (fun _ h9 => h9) rfl (by decide +kernel) rfl rfl (Nat.le_of_ble_eq_true rfl) dX4_races_24 (fun H locs hP hD hS => ?_)
    have hP : va_P D vwCl [(a_this, .inr (4, [.int f_thrown, .ref a_s, .ref a_then, .ref a_past, .int f_saved, .ref a_text, .int f_length, .int f_counted, .int f_due, .ref a_met, .ref a_table, .ref a_ways, .ref a_waysOf, .ref a_into, .int (0 : Int32), .int f_isTold, .int f_rests, .int f_leastRest, .int f_mostRest, .int f_isWheel, .int f_ended, .int f_spot, .ref a_orders, .int f_ordered, .int f_cureAmount, .int f_cureRelay, .int f_cureWhich, .long f_hash])), (a_s, .inl (cI, 88, .inl f_s)), (a_met, .inl (cI, 301, .inl f_met)), (a_table, .inl (cI, 1024, .inl v2)), (a_ways, .inl (cI, 2107, .inl f_ways)), (a_waysOf, .inl (cI, 301, .inl f_waysOf)), (a_into, .inl (cI, 301, .inl f_into))] H := hP
    have hD : va_D A [(a_this, .inr (4, [.int f_thrown, .ref a_s, .ref a_then, .ref a_past, .int f_saved, .ref a_text, .int f_length, .int f_counted, .int f_due, .ref a_met, .ref a_table, .ref a_ways, .ref a_waysOf, .ref a_into, .int (0 : Int32), .int f_isTold, .int f_rests, .int f_leastRest, .int f_mostRest, .int f_isWheel, .int f_ended, .int f_spot, .ref a_orders, .int f_ordered, .int f_cureAmount, .int f_cureRelay, .int f_cureWhich, .long f_hash])), (a_s, .inl (cI, 88, .inl f_s)), (a_met, .inl (cI, 301, .inl f_met)), (a_table, .inl (cI, 1024, .inl v2)), (a_ways, .inl (cI, 2107, .inl f_ways)), (a_waysOf, .inl (cI, 301, .inl f_waysOf)), (a_into, .inl (cI, 301, .inl f_into))] := hD
    refine lv_aload_n hx hb dX4_races_27 rfl (lv_at hl 0 rfl) ?_
    refine lv_aload_n hx hb dX4_races_28 rfl (lv_at hl 1 rfl) ?_
    obtain ⟨v3, hv3, h⟩ := zbnd h
    have hPc := hP.sub (ws' := [(a_s, .inl (cI, 88, .inl f_s))]) [1] rfl
    refine zc_i (W.runS (As := [.ref a_s]) (rest := [.ref a_this]) ⟨hx, hb, hml, hown, hts⟩ (c_X4_codeOf l D cI cC cO cJ fu a_s f_s 88 v3 hv3) (va_cwS 1 hts gX4_races_X4_codeOf rfl rfl rfl (by decide +kernel) ⟨Nat.le_of_ble_eq_true rfl, Nat.le_of_ble_eq_true rfl⟩) (zPr_S hK hPc) rfl rfl hl.1 rfl (lv_room (Nat.le_of_ble_eq_true rfl)) dX4_races_29 ⟨Nat.zero_le _, Nat.zero_le _⟩) ?_
    obtain ⟨v4, hv4, h⟩ := zbnd h
    have hPc := hP.sub (ws' := [(a_this, .inr (4, [.int f_thrown, .ref a_s, .ref a_then, .ref a_past, .int f_saved, .ref a_text, .int f_length, .int f_counted, .int f_due, .ref a_met, .ref a_table, .ref a_ways, .ref a_waysOf, .ref a_into, .int (0 : Int32), .int f_isTold, .int f_rests, .int f_leastRest, .int f_mostRest, .int f_isWheel, .int f_ended, .int f_spot, .ref a_orders, .int f_ordered, .int f_cureAmount, .int f_cureRelay, .int f_cureWhich, .long f_hash])), (a_met, .inl (cI, 301, .inl f_met)), (a_table, .inl (cI, 1024, .inl v2)), (a_waysOf, .inl (cI, 301, .inl f_waysOf)), (a_into, .inl (cI, 301, .inl f_into))]) [0, 2, 3, 5, 6] rfl
    have hDc := hD.sub (ws' := [(a_this, .inr (4, [.int f_thrown, .ref a_s, .ref a_then, .ref a_past, .int f_saved, .ref a_text, .int f_length, .int f_counted, .int f_due, .ref a_met, .ref a_table, .ref a_ways, .ref a_waysOf, .ref a_into, .int (0 : Int32), .int f_isTold, .int f_rests, .int f_leastRest, .int f_mostRest, .int f_isWheel, .int f_ended, .int f_spot, .ref a_orders, .int f_ordered, .int f_cureAmount, .int f_cureRelay, .int f_cureWhich, .long f_hash])), (a_met, .inl (cI, 301, .inl f_met)), (a_table, .inl (cI, 1024, .inl v2)), (a_waysOf, .inl (cI, 301, .inl f_waysOf)), (a_into, .inl (cI, 301, .inl f_into))]) [0, 2, 3, 5, 6] (by decide) rfl
    have hFc := va_free (wc := [(a_this, .inr (4, [.int f_thrown, .ref a_s, .ref a_then, .ref a_past, .int f_saved, .ref a_text, .int f_length, .int f_counted, .int f_due, .ref a_met, .ref a_table, .ref a_ways, .ref a_waysOf, .ref a_into, .int (0 : Int32), .int f_isTold, .int f_rests, .int f_leastRest, .int f_mostRest, .int f_isWheel, .int f_ended, .int f_spot, .ref a_orders, .int f_ordered, .int f_cureAmount, .int f_cureRelay, .int f_cureWhich, .long f_hash])), (a_met, .inl (cI, 301, .inl f_met)), (a_table, .inl (cI, 1024, .inl v2)), (a_waysOf, .inl (cI, 301, .inl f_waysOf)), (a_into, .inl (cI, 301, .inl f_into))]) hD hS hA [0, 2, 3, 5, 6] rfl
    refine zc_wi (va_runV (C := RX4) (As := [.int v3]) (rest := []) ⟨hx, hb, hml, hown, hts⟩ (c_X4_metAt l D cI cC cO cJ fu a_this a_s a_then a_past a_text a_met a_table a_ways a_waysOf a_into a_orders _ f_thrown f_saved f_length f_counted f_due (0 : Int32) f_isTold f_rests f_leastRest f_mostRest f_isWheel f_ended f_spot f_ordered f_cureAmount f_cureRelay f_cureWhich f_hash f_met v2 f_waysOf f_into v3 v4 hv4) (cwV 1 hts gX4_races_X4_metAt rfl rfl rfl (by decide +kernel) ⟨Nat.le_of_ble_eq_true rfl, Nat.le_of_ble_eq_true rfl⟩) ⟨zPw_blind, (va_recv hK hP (q0 := 0) (ci := 4) rfl rfl), zPw_pre hK hPc hDc⟩ rfl rfl hl.1 rfl (lv_room (Nat.le_of_ble_eq_true rfl)) dX4_races_32 ⟨Nat.zero_le _, Nat.zero_le _⟩) hS hFc (fun H locs hk1 hP1 hS => ?_)
    obtain ⟨hP, hD⟩ := zjn (ws' := [(a_this, .inr (4, [.int f_thrown, .ref a_s, .ref a_then, .ref a_past, .int f_saved, .ref a_text, .int f_length, .int f_counted, .int f_due, .ref a_met, .ref a_table, .ref a_ways, .ref a_waysOf, .ref a_into, .int v4.2.1, .int f_isTold, .int f_rests, .int f_leastRest, .int f_mostRest, .int f_isWheel, .int f_ended, .int f_spot, .ref a_orders, .int f_ordered, .int f_cureAmount, .int f_cureRelay, .int f_cureWhich, .long f_hash])), (a_s, .inl (cI, 88, .inl f_s)), (a_met, .inl (cI, 301, .inl v4.2.2.1)), (a_table, .inl (cI, 1024, .inl v4.2.2.2.1)), (a_ways, .inl (cI, 2107, .inl f_ways)), (a_waysOf, .inl (cI, 301, .inl v4.2.2.2.2.1)), (a_into, .inl (cI, 301, .inl v4.2.2.2.2.2))]) hP hD [0, 2, 3, 5, 6] [.inr 0, .inl 1, .inr 1, .inr 2, .inl 4, .inr 3, .inr 4] rfl rfl rfl hk1 hP1
    refine lv_istore_n (lv' := [(2, .int v4.1), (0, .ref a_this), (1, .ref a_s)]) hx hb dX4_races_35 rfl hl (by decide) rfl (fun ls hl => ?_)
    refine lv_iload_n hx hb dX4_races_36 rfl (lv_at hl 0 rfl) ?_
    refine lv_istore_n (lv' := [(3, .int v4.1), (2, .int v4.1), (0, .ref a_this), (1, .ref a_s)]) hx hb dX4_races_37 rfl hl (by decide) rfl (fun ls hl => ?_)
    have E68 : ∀ (v5 : Int32) (v6 : Int32) (v7 : Int32) (v8 : Int32) (v9 : Nat → Int32) (v10 : Nat → Int32) (v11 : Nat → Int32) (v12 : Nat → Int32) (v13 : Nat → Int32), F_X4_races_s_E68 fu f_isWheel f_leastRest f_mostRest f_rests f_s v5 v6 v7 v8 v9 v10 v11 v12 v13 = some R → ∀ (H : Heap) (locs : List Loc), va_P D vwCl [(a_this, .inr (4, [.int f_thrown, .ref a_s, .ref a_then, .ref a_past, .int f_saved, .ref a_text, .int f_length, .int v6, .int v7, .ref a_met, .ref a_table, .ref a_ways, .ref a_waysOf, .ref a_into, .int v8, .int f_isTold, .int f_rests, .int f_leastRest, .int f_mostRest, .int f_isWheel, .int f_ended, .int f_spot, .ref a_orders, .int f_ordered, .int f_cureAmount, .int f_cureRelay, .int f_cureWhich, .long f_hash])), (a_s, .inl (cI, 88, .inl f_s)), (a_met, .inl (cI, 301, .inl v9)), (a_table, .inl (cI, 1024, .inl v10)), (a_ways, .inl (cI, 2107, .inl v11)), (a_waysOf, .inl (cI, 301, .inl v12)), (a_into, .inl (cI, 301, .inl v13))] H → va_D A [(a_this, .inr (4, [.int f_thrown, .ref a_s, .ref a_then, .ref a_past, .int f_saved, .ref a_text, .int f_length, .int v6, .int v7, .ref a_met, .ref a_table, .ref a_ways, .ref a_waysOf, .ref a_into, .int v8, .int f_isTold, .int f_rests, .int f_leastRest, .int f_mostRest, .int f_isWheel, .int f_ended, .int f_spot, .ref a_orders, .int f_ordered, .int f_cureAmount, .int f_cureRelay, .int f_cureWhich, .long f_hash])), (a_s, .inl (cI, 88, .inl f_s)), (a_met, .inl (cI, 301, .inl v9)), (a_table, .inl (cI, 1024, .inl v10)), (a_ways, .inl (cI, 2107, .inl v11)), (a_waysOf, .inl (cI, 301, .inl v12)), (a_into, .inl (cI, 301, .inl v13))] → va_S A s.heap H locs → ∀ ls : Array Slot, lv_has ls 4 [(0, .ref a_this), (1, .ref a_s), (2, .int v4.1), (3, .int v5)] → W p l e ({ frames := 5, cells := 0, slots := 0, locals := 123 } : Room) s m (([.ref a_this, .ref a_s] : List Value).toArray) below meth c H locs 0 0 (MQ below (zWv D [(a_this, .inr (4, [.int f_thrown, .ref a_s, .ref a_then, .ref a_past, .int f_saved, .ref a_text, .int f_length, .int R.1, .int R.2.1, .ref a_met, .ref a_table, .ref a_ways, .ref a_waysOf, .ref a_into, .int R.2.2.1, .int R.2.2.2.1, .int R.2.2.2.2.1, .int R.2.2.2.2.2.1, .int R.2.2.2.2.2.2.1, .int R.2.2.2.2.2.2.2.1, .int f_ended, .int f_spot, .ref a_orders, .int f_ordered, .int f_cureAmount, .int f_cureRelay, .int f_cureWhich, .long f_hash])), (a_s, .inl (cI, 88, .inl f_s)), (a_met, .inl (cI, 301, .inl R.2.2.2.2.2.2.2.2.1)), (a_table, .inl (cI, 1024, .inl R.2.2.2.2.2.2.2.2.2.1)), (a_ways, .inl (cI, 2107, .inl R.2.2.2.2.2.2.2.2.2.2.1)), (a_waysOf, .inl (cI, 301, .inl R.2.2.2.2.2.2.2.2.2.2.2.1)), (a_into, .inl (cI, 301, .inl R.2.2.2.2.2.2.2.2.2.2.2.2))] A) (([.ref a_this, .ref a_s] : List Value).toArray) s 0 0 A) (F0 m 68 ls []) := by
      intro v5 v6 v7 v8 v9 v10 v11 v12 v13 h H locs hP hD hS ls hl
      unfold F_X4_races_s_E68 at h
      refine lv_aload_n hx hb dX4_races_68 rfl (lv_at hl 0 rfl) ?_
      refine lv_aload_n hx hb dX4_races_69 rfl (lv_at hl 0 rfl) ?_
      refine va_get (D := D) (ci := 4) (v := .int v8) (C := RX4) (T := TX4) (N := 28) hx hb hts hinX4 hown hK hP 0 rfl rfl 14 (by decide) (hts (Cond.fieldLink RX4 82 "LadderRelaysModel" "meets" "I") (List.mem_of_getElem? (i := 2) rfl)) (fun _ h9 => h9) rfl dX4_races_70 ?_
      refine lv_sipush (v := (300 : Int32)) hx hb dX4_races_73 (by decide) ?_
      have J84 : ∀ (v14 : Int32), F_X4_races_s_J84 fu f_isWheel f_leastRest f_mostRest f_rests f_s v6 v7 v8 v9 v10 v11 v12 v13 v14 = some R → ∀ (H : Heap) (locs : List Loc), va_P D vwCl [(a_this, .inr (4, [.int f_thrown, .ref a_s, .ref a_then, .ref a_past, .int f_saved, .ref a_text, .int f_length, .int v6, .int v7, .ref a_met, .ref a_table, .ref a_ways, .ref a_waysOf, .ref a_into, .int v8, .int f_isTold, .int f_rests, .int f_leastRest, .int f_mostRest, .int f_isWheel, .int f_ended, .int f_spot, .ref a_orders, .int f_ordered, .int f_cureAmount, .int f_cureRelay, .int f_cureWhich, .long f_hash])), (a_s, .inl (cI, 88, .inl f_s)), (a_met, .inl (cI, 301, .inl v9)), (a_table, .inl (cI, 1024, .inl v10)), (a_ways, .inl (cI, 2107, .inl v11)), (a_waysOf, .inl (cI, 301, .inl v12)), (a_into, .inl (cI, 301, .inl v13))] H → va_D A [(a_this, .inr (4, [.int f_thrown, .ref a_s, .ref a_then, .ref a_past, .int f_saved, .ref a_text, .int f_length, .int v6, .int v7, .ref a_met, .ref a_table, .ref a_ways, .ref a_waysOf, .ref a_into, .int v8, .int f_isTold, .int f_rests, .int f_leastRest, .int f_mostRest, .int f_isWheel, .int f_ended, .int f_spot, .ref a_orders, .int f_ordered, .int f_cureAmount, .int f_cureRelay, .int f_cureWhich, .long f_hash])), (a_s, .inl (cI, 88, .inl f_s)), (a_met, .inl (cI, 301, .inl v9)), (a_table, .inl (cI, 1024, .inl v10)), (a_ways, .inl (cI, 2107, .inl v11)), (a_waysOf, .inl (cI, 301, .inl v12)), (a_into, .inl (cI, 301, .inl v13))] → va_S A s.heap H locs → ∀ ls : Array Slot, lv_has ls 4 [(0, .ref a_this), (1, .ref a_s), (2, .int v4.1), (3, .int v5)] → W p l e ({ frames := 5, cells := 0, slots := 0, locals := 123 } : Room) s m (([.ref a_this, .ref a_s] : List Value).toArray) below meth c H locs 0 0 (MQ below (zWv D [(a_this, .inr (4, [.int f_thrown, .ref a_s, .ref a_then, .ref a_past, .int f_saved, .ref a_text, .int f_length, .int R.1, .int R.2.1, .ref a_met, .ref a_table, .ref a_ways, .ref a_waysOf, .ref a_into, .int R.2.2.1, .int R.2.2.2.1, .int R.2.2.2.2.1, .int R.2.2.2.2.2.1, .int R.2.2.2.2.2.2.1, .int R.2.2.2.2.2.2.2.1, .int f_ended, .int f_spot, .ref a_orders, .int f_ordered, .int f_cureAmount, .int f_cureRelay, .int f_cureWhich, .long f_hash])), (a_s, .inl (cI, 88, .inl f_s)), (a_met, .inl (cI, 301, .inl R.2.2.2.2.2.2.2.2.1)), (a_table, .inl (cI, 1024, .inl R.2.2.2.2.2.2.2.2.2.1)), (a_ways, .inl (cI, 2107, .inl R.2.2.2.2.2.2.2.2.2.2.1)), (a_waysOf, .inl (cI, 301, .inl R.2.2.2.2.2.2.2.2.2.2.2.1)), (a_into, .inl (cI, 301, .inl R.2.2.2.2.2.2.2.2.2.2.2.2))] A) (([.ref a_this, .ref a_s] : List Value).toArray) s 0 0 A) (F0 m 84 ls [.int v14, .ref a_this]) := by
        intro v14 h H locs hP hD hS ls hl
        unfold F_X4_races_s_J84 at h
        obtain ⟨v15, hbv15, h⟩ := zbnd h
        obtain ⟨hbv15, hev15⟩ := zbo_some hbv15
        rw [hev15]
        refine va_put (D := D) (ci := 4) (v := .int v15) (ty := .boolean) (C := RX4) (T := TX4) (N := 28) hx hb hts hinX4 tyX4 tyX4_ok nmX4 hown hK hP hD hS 0 rfl rfl 15 (by decide) (hts (Cond.fieldLink RX4 122 "LadderRelaysModel" "isTold" "Z") (List.mem_of_getElem? (i := 3) rfl)) (fun _ h9 => h9) rfl (by decide +kernel) (by rcases hbv15 with q | q <;> rw [q] <;> rfl) (by rcases hbv15 with q | q <;> rw [q] <;> rfl) (Nat.le_of_ble_eq_true rfl) dX4_races_84 (fun H locs hP hD hS => ?_)
        have hP : va_P D vwCl [(a_this, .inr (4, [.int f_thrown, .ref a_s, .ref a_then, .ref a_past, .int f_saved, .ref a_text, .int f_length, .int v6, .int v7, .ref a_met, .ref a_table, .ref a_ways, .ref a_waysOf, .ref a_into, .int v8, .int v15, .int f_rests, .int f_leastRest, .int f_mostRest, .int f_isWheel, .int f_ended, .int f_spot, .ref a_orders, .int f_ordered, .int f_cureAmount, .int f_cureRelay, .int f_cureWhich, .long f_hash])), (a_s, .inl (cI, 88, .inl f_s)), (a_met, .inl (cI, 301, .inl v9)), (a_table, .inl (cI, 1024, .inl v10)), (a_ways, .inl (cI, 2107, .inl v11)), (a_waysOf, .inl (cI, 301, .inl v12)), (a_into, .inl (cI, 301, .inl v13))] H := hP
        have hD : va_D A [(a_this, .inr (4, [.int f_thrown, .ref a_s, .ref a_then, .ref a_past, .int f_saved, .ref a_text, .int f_length, .int v6, .int v7, .ref a_met, .ref a_table, .ref a_ways, .ref a_waysOf, .ref a_into, .int v8, .int v15, .int f_rests, .int f_leastRest, .int f_mostRest, .int f_isWheel, .int f_ended, .int f_spot, .ref a_orders, .int f_ordered, .int f_cureAmount, .int f_cureRelay, .int f_cureWhich, .long f_hash])), (a_s, .inl (cI, 88, .inl f_s)), (a_met, .inl (cI, 301, .inl v9)), (a_table, .inl (cI, 1024, .inl v10)), (a_ways, .inl (cI, 2107, .inl v11)), (a_waysOf, .inl (cI, 301, .inl v12)), (a_into, .inl (cI, 301, .inl v13))] := hD
        refine lv_aload_n hx hb dX4_races_87 rfl (lv_at hl 0 rfl) ?_
        refine va_get (D := D) (ci := 4) (v := .int v15) (C := RX4) (T := TX4) (N := 28) hx hb hts hinX4 hown hK hP 0 rfl rfl 15 (by decide) (hts (Cond.fieldLink RX4 122 "LadderRelaysModel" "isTold" "Z") (List.mem_of_getElem? (i := 3) rfl)) (fun _ h9 => h9) rfl dX4_races_88 ?_
        refine lv_if_eq (tgt := 107) hx hb dX4_races_91 (by decide) (fun c16 => ?_) (fun c16 => ?_)
        · have h := zif_t c16 h
          have hR := Option.some.inj h
          subst hR
          exact W.vret hx hb hr (fun t ht hW => ⟨⟨(), rfl, trivial, zhp ht hP⟩, hS.F ht⟩) hS.2.2 dX4_races_107
        · have h := zif_f c16 h
          refine lv_aload_n hx hb dX4_races_94 rfl (lv_at hl 0 rfl) ?_
          refine lv_aload_n hx hb dX4_races_95 rfl (lv_at hl 1 rfl) ?_
          obtain ⟨v17, hv17, h⟩ := zbnd h
          have hPc := hP.sub (ws' := [(a_this, .inr (4, [.int f_thrown, .ref a_s, .ref a_then, .ref a_past, .int f_saved, .ref a_text, .int f_length, .int v6, .int v7, .ref a_met, .ref a_table, .ref a_ways, .ref a_waysOf, .ref a_into, .int v8, .int v15, .int f_rests, .int f_leastRest, .int f_mostRest, .int f_isWheel, .int f_ended, .int f_spot, .ref a_orders, .int f_ordered, .int f_cureAmount, .int f_cureRelay, .int f_cureWhich, .long f_hash])), (a_s, .inl (cI, 88, .inl f_s)), (a_met, .inl (cI, 301, .inl v9))]) [0, 1, 2] rfl
          have hDc := hD.sub (ws' := [(a_this, .inr (4, [.int f_thrown, .ref a_s, .ref a_then, .ref a_past, .int f_saved, .ref a_text, .int f_length, .int v6, .int v7, .ref a_met, .ref a_table, .ref a_ways, .ref a_waysOf, .ref a_into, .int v8, .int v15, .int f_rests, .int f_leastRest, .int f_mostRest, .int f_isWheel, .int f_ended, .int f_spot, .ref a_orders, .int f_ordered, .int f_cureAmount, .int f_cureRelay, .int f_cureWhich, .long f_hash])), (a_s, .inl (cI, 88, .inl f_s)), (a_met, .inl (cI, 301, .inl v9))]) [0, 1, 2] (by decide) rfl
          have hFc := va_free (wc := [(a_this, .inr (4, [.int f_thrown, .ref a_s, .ref a_then, .ref a_past, .int f_saved, .ref a_text, .int f_length, .int v6, .int v7, .ref a_met, .ref a_table, .ref a_ways, .ref a_waysOf, .ref a_into, .int v8, .int v15, .int f_rests, .int f_leastRest, .int f_mostRest, .int f_isWheel, .int f_ended, .int f_spot, .ref a_orders, .int f_ordered, .int f_cureAmount, .int f_cureRelay, .int f_cureWhich, .long f_hash])), (a_s, .inl (cI, 88, .inl f_s)), (a_met, .inl (cI, 301, .inl v9))]) hD hS hA [0, 1, 2] rfl
          refine zc_wv (va_runV (C := RX4) (As := [.ref a_s]) (rest := []) ⟨hx, hb, hml, hown, hts⟩ (c_X4_looksAtRests_s l D cI cC cO cJ fu a_this a_s a_then a_past a_text a_met a_table a_ways a_waysOf a_into a_orders _ f_thrown f_saved f_length v6 v7 v8 v15 f_rests f_leastRest f_mostRest f_isWheel f_ended f_spot f_ordered f_cureAmount f_cureRelay f_cureWhich f_hash f_s v9 v17 hv17) (cwV 1 hts gX4_races_X4_looksAtRests rfl rfl rfl (by decide +kernel) ⟨Nat.le_of_ble_eq_true rfl, Nat.le_of_ble_eq_true rfl⟩) ⟨zPw_blind, (va_recv hK hP (q0 := 0) (ci := 4) rfl rfl), zPw_pre hK hPc hDc⟩ rfl rfl hl.1 rfl (lv_room (Nat.le_of_ble_eq_true rfl)) dX4_races_96 ⟨Nat.zero_le _, Nat.zero_le _⟩) hS hFc (fun H locs hk1 hP1 hS => ?_)
          obtain ⟨hP, hD⟩ := zjn (ws' := [(a_this, .inr (4, [.int f_thrown, .ref a_s, .ref a_then, .ref a_past, .int f_saved, .ref a_text, .int f_length, .int v6, .int v7, .ref a_met, .ref a_table, .ref a_ways, .ref a_waysOf, .ref a_into, .int v8, .int v15, .int v17.1, .int v17.2.1, .int v17.2.2, .int f_isWheel, .int f_ended, .int f_spot, .ref a_orders, .int f_ordered, .int f_cureAmount, .int f_cureRelay, .int f_cureWhich, .long f_hash])), (a_s, .inl (cI, 88, .inl f_s)), (a_met, .inl (cI, 301, .inl v9)), (a_table, .inl (cI, 1024, .inl v10)), (a_ways, .inl (cI, 2107, .inl v11)), (a_waysOf, .inl (cI, 301, .inl v12)), (a_into, .inl (cI, 301, .inl v13))]) hP hD [0, 1, 2] [.inr 0, .inr 1, .inr 2, .inl 3, .inl 4, .inl 5, .inl 6] rfl rfl rfl hk1 hP1
          refine lv_aload_n hx hb dX4_races_99 rfl (lv_at hl 0 rfl) ?_
          refine lv_aload_n hx hb dX4_races_100 rfl (lv_at hl 0 rfl) ?_
          obtain ⟨v18, hv18, h⟩ := zbnd h
          have hPc := hP.sub (ws' := [(a_this, .inr (4, [.int f_thrown, .ref a_s, .ref a_then, .ref a_past, .int f_saved, .ref a_text, .int f_length, .int v6, .int v7, .ref a_met, .ref a_table, .ref a_ways, .ref a_waysOf, .ref a_into, .int v8, .int v15, .int v17.1, .int v17.2.1, .int v17.2.2, .int f_isWheel, .int f_ended, .int f_spot, .ref a_orders, .int f_ordered, .int f_cureAmount, .int f_cureRelay, .int f_cureWhich, .long f_hash])), (a_table, .inl (cI, 1024, .inl v10)), (a_ways, .inl (cI, 2107, .inl v11)), (a_waysOf, .inl (cI, 301, .inl v12)), (a_into, .inl (cI, 301, .inl v13))]) [0, 3, 4, 5, 6] rfl
          have hDc := hD.sub (ws' := [(a_this, .inr (4, [.int f_thrown, .ref a_s, .ref a_then, .ref a_past, .int f_saved, .ref a_text, .int f_length, .int v6, .int v7, .ref a_met, .ref a_table, .ref a_ways, .ref a_waysOf, .ref a_into, .int v8, .int v15, .int v17.1, .int v17.2.1, .int v17.2.2, .int f_isWheel, .int f_ended, .int f_spot, .ref a_orders, .int f_ordered, .int f_cureAmount, .int f_cureRelay, .int f_cureWhich, .long f_hash])), (a_table, .inl (cI, 1024, .inl v10)), (a_ways, .inl (cI, 2107, .inl v11)), (a_waysOf, .inl (cI, 301, .inl v12)), (a_into, .inl (cI, 301, .inl v13))]) [0, 3, 4, 5, 6] (by decide) rfl
          have hFc := va_free (wc := [(a_this, .inr (4, [.int f_thrown, .ref a_s, .ref a_then, .ref a_past, .int f_saved, .ref a_text, .int f_length, .int v6, .int v7, .ref a_met, .ref a_table, .ref a_ways, .ref a_waysOf, .ref a_into, .int v8, .int v15, .int v17.1, .int v17.2.1, .int v17.2.2, .int f_isWheel, .int f_ended, .int f_spot, .ref a_orders, .int f_ordered, .int f_cureAmount, .int f_cureRelay, .int f_cureWhich, .long f_hash])), (a_table, .inl (cI, 1024, .inl v10)), (a_ways, .inl (cI, 2107, .inl v11)), (a_waysOf, .inl (cI, 301, .inl v12)), (a_into, .inl (cI, 301, .inl v13))]) hD hS hA [0, 3, 4, 5, 6] rfl
          refine zc_wi (va_runV (C := RX4) (As := []) (rest := [.ref a_this]) ⟨hx, hb, hml, hown, hts⟩ (c_X4_hasWheel l D cI cC cO cJ fu a_this a_s a_then a_past a_text a_met a_table a_ways a_waysOf a_into a_orders _ f_thrown f_saved f_length v6 v7 v8 v15 v17.1 v17.2.1 v17.2.2 f_isWheel f_ended f_spot f_ordered f_cureAmount f_cureRelay f_cureWhich f_hash v10 v11 v12 v13 v18 hv18) (cwV 0 hts gX4_races_X4_hasWheel rfl rfl rfl (by decide +kernel) ⟨Nat.le_of_ble_eq_true rfl, Nat.le_of_ble_eq_true rfl⟩) ⟨zPw_blind, (va_recv hK hP (q0 := 0) (ci := 4) rfl rfl), zPw_pre hK hPc hDc⟩ rfl rfl hl.1 rfl (lv_room (Nat.le_of_ble_eq_true rfl)) dX4_races_101 ⟨Nat.zero_le _, Nat.zero_le _⟩) hS hFc (fun H locs hk1 hP1 hS => ?_)
          obtain ⟨hP, hD⟩ := zjn (ws' := [(a_this, .inr (4, [.int f_thrown, .ref a_s, .ref a_then, .ref a_past, .int f_saved, .ref a_text, .int f_length, .int v6, .int v7, .ref a_met, .ref a_table, .ref a_ways, .ref a_waysOf, .ref a_into, .int v8, .int v15, .int v17.1, .int v17.2.1, .int v17.2.2, .int f_isWheel, .int f_ended, .int f_spot, .ref a_orders, .int f_ordered, .int f_cureAmount, .int f_cureRelay, .int f_cureWhich, .long f_hash])), (a_s, .inl (cI, 88, .inl f_s)), (a_met, .inl (cI, 301, .inl v9)), (a_table, .inl (cI, 1024, .inl v18.2.1)), (a_ways, .inl (cI, 2107, .inl v11)), (a_waysOf, .inl (cI, 301, .inl v12)), (a_into, .inl (cI, 301, .inl v18.2.2))]) hP hD [0, 3, 4, 5, 6] [.inr 0, .inl 1, .inl 2, .inr 1, .inr 2, .inr 3, .inr 4] rfl rfl rfl hk1 hP1
          obtain ⟨v19, hbv19, h⟩ := zbnd h
          obtain ⟨hbv19, hev19⟩ := zbo_some hbv19
          rw [hev19]
          refine va_put (D := D) (ci := 4) (v := .int v19) (ty := .boolean) (C := RX4) (T := TX4) (N := 28) hx hb hts hinX4 tyX4 tyX4_ok nmX4 hown hK hP hD hS 0 rfl rfl 19 (by decide) (hts (Cond.fieldLink RX4 134 "LadderRelaysModel" "isWheel" "Z") (List.mem_of_getElem? (i := 4) rfl)) (fun _ h9 => h9) rfl (by decide +kernel) (by rcases hbv19 with q | q <;> rw [q] <;> rfl) (by rcases hbv19 with q | q <;> rw [q] <;> rfl) (Nat.le_of_ble_eq_true rfl) dX4_races_104 (fun H locs hP hD hS => ?_)
          have hP : va_P D vwCl [(a_this, .inr (4, [.int f_thrown, .ref a_s, .ref a_then, .ref a_past, .int f_saved, .ref a_text, .int f_length, .int v6, .int v7, .ref a_met, .ref a_table, .ref a_ways, .ref a_waysOf, .ref a_into, .int v8, .int v15, .int v17.1, .int v17.2.1, .int v17.2.2, .int v19, .int f_ended, .int f_spot, .ref a_orders, .int f_ordered, .int f_cureAmount, .int f_cureRelay, .int f_cureWhich, .long f_hash])), (a_s, .inl (cI, 88, .inl f_s)), (a_met, .inl (cI, 301, .inl v9)), (a_table, .inl (cI, 1024, .inl v18.2.1)), (a_ways, .inl (cI, 2107, .inl v11)), (a_waysOf, .inl (cI, 301, .inl v12)), (a_into, .inl (cI, 301, .inl v18.2.2))] H := hP
          have hD : va_D A [(a_this, .inr (4, [.int f_thrown, .ref a_s, .ref a_then, .ref a_past, .int f_saved, .ref a_text, .int f_length, .int v6, .int v7, .ref a_met, .ref a_table, .ref a_ways, .ref a_waysOf, .ref a_into, .int v8, .int v15, .int v17.1, .int v17.2.1, .int v17.2.2, .int v19, .int f_ended, .int f_spot, .ref a_orders, .int f_ordered, .int f_cureAmount, .int f_cureRelay, .int f_cureWhich, .long f_hash])), (a_s, .inl (cI, 88, .inl f_s)), (a_met, .inl (cI, 301, .inl v9)), (a_table, .inl (cI, 1024, .inl v18.2.1)), (a_ways, .inl (cI, 2107, .inl v11)), (a_waysOf, .inl (cI, 301, .inl v12)), (a_into, .inl (cI, 301, .inl v18.2.2))] := hD
          have hR := Option.some.inj h
          subst hR
          exact W.vret hx hb hr (fun t ht hW => ⟨⟨(), rfl, trivial, zhp ht hP⟩, hS.F ht⟩) hS.2.2 dX4_races_107
      refine lv_icmp_gt (tgt := 83) hx hb dX4_races_76 (by decide) (fun c20 => ?_) (fun c20 => ?_)
      · have h := zif_t c20 h
        refine lv_iconst (v := (0 : Int32)) hx hb dX4_races_83 (by decide) ?_
        exact J84 (0 : Int32) h _ _ hP hD hS ls (lv_sub hl [0, 1, 2, 3] rfl)
      · have h := zif_f c20 h
        refine lv_iconst (v := (1 : Int32)) hx hb dX4_races_79 (by decide) ?_
        refine lv_goto (tgt := 84) hx hb dX4_races_80 (by decide) ?_
        exact J84 (1 : Int32) h _ _ hP hD hS ls (lv_sub hl [0, 1, 2, 3] rfl)
    refine zlp_i9 (R := R) (P := fun (v21 : Int32) (v22 : Int32) (v23 : Int32) (v24 : Int32) (v25 : Nat → Int32) (v26 : Nat → Int32) (v27 : Nat → Int32) (v28 : Nat → Int32) (v29 : Nat → Int32) => ∀ (H : Heap) (locs : List Loc), va_P D vwCl [(a_this, .inr (4, [.int f_thrown, .ref a_s, .ref a_then, .ref a_past, .int f_saved, .ref a_text, .int f_length, .int v22, .int v23, .ref a_met, .ref a_table, .ref a_ways, .ref a_waysOf, .ref a_into, .int v24, .int f_isTold, .int f_rests, .int f_leastRest, .int f_mostRest, .int f_isWheel, .int f_ended, .int f_spot, .ref a_orders, .int f_ordered, .int f_cureAmount, .int f_cureRelay, .int f_cureWhich, .long f_hash])), (a_s, .inl (cI, 88, .inl f_s)), (a_met, .inl (cI, 301, .inl v25)), (a_table, .inl (cI, 1024, .inl v26)), (a_ways, .inl (cI, 2107, .inl v27)), (a_waysOf, .inl (cI, 301, .inl v28)), (a_into, .inl (cI, 301, .inl v29))] H → va_D A [(a_this, .inr (4, [.int f_thrown, .ref a_s, .ref a_then, .ref a_past, .int f_saved, .ref a_text, .int f_length, .int v22, .int v23, .ref a_met, .ref a_table, .ref a_ways, .ref a_waysOf, .ref a_into, .int v24, .int f_isTold, .int f_rests, .int f_leastRest, .int f_mostRest, .int f_isWheel, .int f_ended, .int f_spot, .ref a_orders, .int f_ordered, .int f_cureAmount, .int f_cureRelay, .int f_cureWhich, .long f_hash])), (a_s, .inl (cI, 88, .inl f_s)), (a_met, .inl (cI, 301, .inl v25)), (a_table, .inl (cI, 1024, .inl v26)), (a_ways, .inl (cI, 2107, .inl v27)), (a_waysOf, .inl (cI, 301, .inl v28)), (a_into, .inl (cI, 301, .inl v29))] → va_S A s.heap H locs → ∀ ls : Array Slot, lv_has ls 4 [(0, .ref a_this), (1, .ref a_s), (2, .int v4.1), (3, .int v21)] → W p l e ({ frames := 5, cells := 0, slots := 0, locals := 123 } : Room) s m (([.ref a_this, .ref a_s] : List Value).toArray) below meth c H locs 0 0 (MQ below (zWv D [(a_this, .inr (4, [.int f_thrown, .ref a_s, .ref a_then, .ref a_past, .int f_saved, .ref a_text, .int f_length, .int R.1, .int R.2.1, .ref a_met, .ref a_table, .ref a_ways, .ref a_waysOf, .ref a_into, .int R.2.2.1, .int R.2.2.2.1, .int R.2.2.2.2.1, .int R.2.2.2.2.2.1, .int R.2.2.2.2.2.2.1, .int R.2.2.2.2.2.2.2.1, .int f_ended, .int f_spot, .ref a_orders, .int f_ordered, .int f_cureAmount, .int f_cureRelay, .int f_cureWhich, .long f_hash])), (a_s, .inl (cI, 88, .inl f_s)), (a_met, .inl (cI, 301, .inl R.2.2.2.2.2.2.2.2.1)), (a_table, .inl (cI, 1024, .inl R.2.2.2.2.2.2.2.2.2.1)), (a_ways, .inl (cI, 2107, .inl R.2.2.2.2.2.2.2.2.2.2.1)), (a_waysOf, .inl (cI, 301, .inl R.2.2.2.2.2.2.2.2.2.2.2.1)), (a_into, .inl (cI, 301, .inl R.2.2.2.2.2.2.2.2.2.2.2.2))] A) (([.ref a_this, .ref a_s] : List Value).toArray) s 0 0 A) (F0 m 38 ls [])) (fun rec38 ih38 v21 v22 v23 v24 v25 v26 v27 v28 v29 h => ?_) fu v4.1 f_counted f_due v4.2.1 v4.2.2.1 v4.2.2.2.1 f_ways v4.2.2.2.2.1 v4.2.2.2.2.2 h _ _ hP hD hS ls (lv_sub hl [2, 3, 1, 0] rfl)
    intro H locs hP hD hS ls hl
    unfold F_X4_races_s_L38 at h
    refine lv_iload_n hx hb dX4_races_38 rfl (lv_at hl 3 rfl) ?_
    refine lv_aload_n hx hb dX4_races_39 rfl (lv_at hl 0 rfl) ?_
    refine va_get (D := D) (ci := 4) (v := .int v24) (C := RX4) (T := TX4) (N := 28) hx hb hts hinX4 hown hK hP 0 rfl rfl 14 (by decide) (hts (Cond.fieldLink RX4 82 "LadderRelaysModel" "meets" "I") (List.mem_of_getElem? (i := 2) rfl)) (fun _ h9 => h9) rfl dX4_races_40 ?_
    refine lv_icmp_ge (tgt := 68) hx hb dX4_races_43 (by decide) (fun c30 => ?_) (fun c30 => ?_)
    · have h := zif_t c30 h
      exact E68 v21 v22 v23 v24 v25 v26 v27 v28 v29 h _ _ hP hD hS ls (lv_sub hl [0, 1, 2, 3] rfl)
    · have h := zif_f c30 h
      refine lv_aload_n hx hb dX4_races_46 rfl (lv_at hl 0 rfl) ?_
      refine va_get (D := D) (ci := 4) (v := .int v24) (C := RX4) (T := TX4) (N := 28) hx hb hts hinX4 hown hK hP 0 rfl rfl 14 (by decide) (hts (Cond.fieldLink RX4 82 "LadderRelaysModel" "meets" "I") (List.mem_of_getElem? (i := 2) rfl)) (fun _ h9 => h9) rfl dX4_races_47 ?_
      refine lv_sipush (v := (300 : Int32)) hx hb dX4_races_50 (by decide) ?_
      refine lv_icmp_gt (tgt := 68) hx hb dX4_races_53 (by decide) (fun c31 => ?_) (fun c31 => ?_)
      · have h := zif_t c31 h
        exact E68 v21 v22 v23 v24 v25 v26 v27 v28 v29 h _ _ hP hD hS ls (lv_sub hl [0, 1, 2, 3] rfl)
      · have h := zif_f c31 h
        refine lv_aload_n hx hb dX4_races_56 rfl (lv_at hl 0 rfl) ?_
        refine lv_aload_n hx hb dX4_races_57 rfl (lv_at hl 1 rfl) ?_
        refine lv_iload_n hx hb dX4_races_58 rfl (lv_at hl 3 rfl) ?_
        obtain ⟨v32, hv32, h⟩ := zbnd h
        have hFc := va_free (wc := [(a_this, .inr (4, [.int f_thrown, .ref a_s, .ref a_then, .ref a_past, .int f_saved, .ref a_text, .int f_length, .int v22, .int v23, .ref a_met, .ref a_table, .ref a_ways, .ref a_waysOf, .ref a_into, .int v24, .int f_isTold, .int f_rests, .int f_leastRest, .int f_mostRest, .int f_isWheel, .int f_ended, .int f_spot, .ref a_orders, .int f_ordered, .int f_cureAmount, .int f_cureRelay, .int f_cureWhich, .long f_hash])), (a_s, .inl (cI, 88, .inl f_s)), (a_met, .inl (cI, 301, .inl v25)), (a_table, .inl (cI, 1024, .inl v26)), (a_ways, .inl (cI, 2107, .inl v27)), (a_waysOf, .inl (cI, 301, .inl v28)), (a_into, .inl (cI, 301, .inl v29))]) hD hS hA [0, 1, 2, 3, 4, 5, 6] rfl
        refine zc_wv (va_runV (C := RX4) (As := [.ref a_s, .int v21]) (rest := []) ⟨hx, hb, hml, hown, hts⟩ (c_X4_laysWays_s l D cI cC cO cJ fu a_this a_s a_then a_past a_text a_met a_table a_ways a_waysOf a_into a_orders _ f_thrown f_saved f_length v22 v23 v24 f_isTold f_rests f_leastRest f_mostRest f_isWheel f_ended f_spot f_ordered f_cureAmount f_cureRelay f_cureWhich f_hash f_s v25 v26 v27 v28 v29 v21 v32 hv32) (cwV 2 hts gX4_races_X4_laysWays rfl rfl rfl (by decide +kernel) ⟨Nat.le_of_ble_eq_true rfl, Nat.le_of_ble_eq_true rfl⟩) ⟨zPw_blind, (va_recv hK hP (q0 := 0) (ci := 4) rfl rfl), zPw_pre hK hP hD⟩ rfl rfl hl.1 rfl (lv_room (Nat.le_of_ble_eq_true rfl)) dX4_races_59 ⟨Nat.zero_le _, Nat.zero_le _⟩) hS hFc (fun H locs hk1 hP1 hS => ?_)
        obtain ⟨hP, hD⟩ := zjn (ws' := [(a_this, .inr (4, [.int f_thrown, .ref a_s, .ref a_then, .ref a_past, .int f_saved, .ref a_text, .int f_length, .int v32.1, .int v32.2.1, .ref a_met, .ref a_table, .ref a_ways, .ref a_waysOf, .ref a_into, .int v32.2.2.1, .int f_isTold, .int f_rests, .int f_leastRest, .int f_mostRest, .int f_isWheel, .int f_ended, .int f_spot, .ref a_orders, .int f_ordered, .int f_cureAmount, .int f_cureRelay, .int f_cureWhich, .long f_hash])), (a_s, .inl (cI, 88, .inl f_s)), (a_met, .inl (cI, 301, .inl v32.2.2.2.1)), (a_table, .inl (cI, 1024, .inl v32.2.2.2.2.1)), (a_ways, .inl (cI, 2107, .inl v32.2.2.2.2.2.1)), (a_waysOf, .inl (cI, 301, .inl v32.2.2.2.2.2.2.1)), (a_into, .inl (cI, 301, .inl v32.2.2.2.2.2.2.2))]) hP hD [0, 1, 2, 3, 4, 5, 6] [.inr 0, .inr 1, .inr 2, .inr 3, .inr 4, .inr 5, .inr 6] rfl rfl rfl hk1 hP1
        refine lv_iinc (v := (v21 + (1 : Int32))) (lv' := [(3, .int (v21 + (1 : Int32))), (0, .ref a_this), (1, .ref a_s), (2, .int v4.1)]) hx hb dX4_races_62 hl (k := 3) rfl rfl (by decide) rfl (fun ls hl => ?_)
        refine lv_goto (tgt := 38) hx hb dX4_races_65 (by decide) ?_
        exact ih38 (v21 + (1 : Int32)) v32.1 v32.2.1 v32.2.2.1 v32.2.2.2.1 v32.2.2.2.2.1 v32.2.2.2.2.2.1 v32.2.2.2.2.2.2.1 v32.2.2.2.2.2.2.2 h _ _ hP hD hS ls (lv_sub hl [1, 2, 3, 0] rfl)
  refine zlp_i2 (R := R) (P := fun (v33 : Int32) (v34 : Nat → Int32) => ∀ (H : Heap) (locs : List Loc), va_P D vwCl [(a_this, .inr (4, [.int f_thrown, .ref a_s, .ref a_then, .ref a_past, .int f_saved, .ref a_text, .int f_length, .int f_counted, .int f_due, .ref a_met, .ref a_table, .ref a_ways, .ref a_waysOf, .ref a_into, .int f_meets, .int f_isTold, .int f_rests, .int f_leastRest, .int f_mostRest, .int f_isWheel, .int f_ended, .int f_spot, .ref a_orders, .int f_ordered, .int f_cureAmount, .int f_cureRelay, .int f_cureWhich, .long f_hash])), (a_s, .inl (cI, 88, .inl f_s)), (a_met, .inl (cI, 301, .inl f_met)), (a_table, .inl (cI, 1024, .inl v34)), (a_ways, .inl (cI, 2107, .inl f_ways)), (a_waysOf, .inl (cI, 301, .inl f_waysOf)), (a_into, .inl (cI, 301, .inl f_into))] H → va_D A [(a_this, .inr (4, [.int f_thrown, .ref a_s, .ref a_then, .ref a_past, .int f_saved, .ref a_text, .int f_length, .int f_counted, .int f_due, .ref a_met, .ref a_table, .ref a_ways, .ref a_waysOf, .ref a_into, .int f_meets, .int f_isTold, .int f_rests, .int f_leastRest, .int f_mostRest, .int f_isWheel, .int f_ended, .int f_spot, .ref a_orders, .int f_ordered, .int f_cureAmount, .int f_cureRelay, .int f_cureWhich, .long f_hash])), (a_s, .inl (cI, 88, .inl f_s)), (a_met, .inl (cI, 301, .inl f_met)), (a_table, .inl (cI, 1024, .inl v34)), (a_ways, .inl (cI, 2107, .inl f_ways)), (a_waysOf, .inl (cI, 301, .inl f_waysOf)), (a_into, .inl (cI, 301, .inl f_into))] → va_S A s.heap H locs → ∀ ls : Array Slot, lv_has ls 4 [(0, .ref a_this), (1, .ref a_s), (2, .int v33)] → W p l e ({ frames := 5, cells := 0, slots := 0, locals := 123 } : Room) s m (([.ref a_this, .ref a_s] : List Value).toArray) below meth c H locs 0 0 (MQ below (zWv D [(a_this, .inr (4, [.int f_thrown, .ref a_s, .ref a_then, .ref a_past, .int f_saved, .ref a_text, .int f_length, .int R.1, .int R.2.1, .ref a_met, .ref a_table, .ref a_ways, .ref a_waysOf, .ref a_into, .int R.2.2.1, .int R.2.2.2.1, .int R.2.2.2.2.1, .int R.2.2.2.2.2.1, .int R.2.2.2.2.2.2.1, .int R.2.2.2.2.2.2.2.1, .int f_ended, .int f_spot, .ref a_orders, .int f_ordered, .int f_cureAmount, .int f_cureRelay, .int f_cureWhich, .long f_hash])), (a_s, .inl (cI, 88, .inl f_s)), (a_met, .inl (cI, 301, .inl R.2.2.2.2.2.2.2.2.1)), (a_table, .inl (cI, 1024, .inl R.2.2.2.2.2.2.2.2.2.1)), (a_ways, .inl (cI, 2107, .inl R.2.2.2.2.2.2.2.2.2.2.1)), (a_waysOf, .inl (cI, 301, .inl R.2.2.2.2.2.2.2.2.2.2.2.1)), (a_into, .inl (cI, 301, .inl R.2.2.2.2.2.2.2.2.2.2.2.2))] A) (([.ref a_this, .ref a_s] : List Value).toArray) s 0 0 A) (F0 m 2 ls [])) (fun rec2 ih2 v33 v34 h => ?_) fu (0 : Int32) f_table h _ _ hP hD hS ls (lv_sub hl [1, 2, 0] rfl)
  intro H locs hP hD hS ls hl
  unfold F_X4_races_s_L2 at h
  refine lv_iload_n hx hb dX4_races_2 rfl (lv_at hl 2 rfl) ?_
  refine lv_sipush (v := (1024 : Int32)) hx hb dX4_races_3 (by decide) ?_
  refine lv_icmp_ge (tgt := 22) hx hb dX4_races_6 (by decide) (fun c35 => ?_) (fun c35 => ?_)
  · have h := zif_t c35 h
    exact E22 v33 v34 h _ _ hP hD hS ls (lv_sub hl [0, 1, 2] rfl)
  · have h := zif_f c35 h
    refine lv_aload_n hx hb dX4_races_9 rfl (lv_at hl 0 rfl) ?_
    refine va_get (D := D) (ci := 4) (v := .ref a_table) (C := RX4) (T := TX4) (N := 28) hx hb hts hinX4 hown hK hP 0 rfl rfl 10 (by decide) (hts (Cond.fieldLink RX4 26 "LadderRelaysModel" "table" "[I") (List.mem_of_getElem? (i := 1) rfl)) (fun _ h9 => h9) rfl dX4_races_10 ?_
    refine lv_iload_n hx hb dX4_races_13 rfl (lv_at hl 2 rfl) ?_
    refine lv_iconst (v := (0 : Int32)) hx hb dX4_races_14 (by decide) ?_
    obtain ⟨v36, hv36, h⟩ := zbnd h
    refine zr_iast hx hb hK hP hD hS 3 0 rfl rfl hv36 dX4_races_15 (fun H locs hP hD hS => ?_)
    have hP : va_P D vwCl [(a_this, .inr (4, [.int f_thrown, .ref a_s, .ref a_then, .ref a_past, .int f_saved, .ref a_text, .int f_length, .int f_counted, .int f_due, .ref a_met, .ref a_table, .ref a_ways, .ref a_waysOf, .ref a_into, .int f_meets, .int f_isTold, .int f_rests, .int f_leastRest, .int f_mostRest, .int f_isWheel, .int f_ended, .int f_spot, .ref a_orders, .int f_ordered, .int f_cureAmount, .int f_cureRelay, .int f_cureWhich, .long f_hash])), (a_s, .inl (cI, 88, .inl f_s)), (a_met, .inl (cI, 301, .inl f_met)), (a_table, .inl (cI, 1024, .inl v36)), (a_ways, .inl (cI, 2107, .inl f_ways)), (a_waysOf, .inl (cI, 301, .inl f_waysOf)), (a_into, .inl (cI, 301, .inl f_into))] H := hP
    have hD : va_D A [(a_this, .inr (4, [.int f_thrown, .ref a_s, .ref a_then, .ref a_past, .int f_saved, .ref a_text, .int f_length, .int f_counted, .int f_due, .ref a_met, .ref a_table, .ref a_ways, .ref a_waysOf, .ref a_into, .int f_meets, .int f_isTold, .int f_rests, .int f_leastRest, .int f_mostRest, .int f_isWheel, .int f_ended, .int f_spot, .ref a_orders, .int f_ordered, .int f_cureAmount, .int f_cureRelay, .int f_cureWhich, .long f_hash])), (a_s, .inl (cI, 88, .inl f_s)), (a_met, .inl (cI, 301, .inl f_met)), (a_table, .inl (cI, 1024, .inl v36)), (a_ways, .inl (cI, 2107, .inl f_ways)), (a_waysOf, .inl (cI, 301, .inl f_waysOf)), (a_into, .inl (cI, 301, .inl f_into))] := hD
    refine lv_iinc (v := (v33 + (1 : Int32))) (lv' := [(2, .int (v33 + (1 : Int32))), (0, .ref a_this), (1, .ref a_s)]) hx hb dX4_races_16 hl (k := 2) rfl rfl (by decide) rfl (fun ls hl => ?_)
    refine lv_goto (tgt := 2) hx hb dX4_races_19 (by decide) ?_
    exact ih2 (v33 + (1 : Int32)) v36 h _ _ hP hD hS ls (lv_sub hl [1, 2, 0] rfl)
def F_X4_races_then_J84 (fu : Nat) (f_isWheel : Int32) (f_leastRest : Int32) (f_mostRest : Int32) (f_rests : Int32) (f_then : Nat → Int32) (v6 : Int32) (v7 : Int32) (v8 : Int32) (v9 : Nat → Int32) (v10 : Nat → Int32) (v11 : Nat → Int32) (v12 : Nat → Int32) (v13 : Nat → Int32) (v14 : Int32) : Option (Int32 × Int32 × Int32 × Int32 × Int32 × Int32 × Int32 × Int32 × (Nat → Int32) × (Nat → Int32) × (Nat → Int32) × (Nat → Int32) × (Nat → Int32)) := (zbo v14).bind fun v15 => if v15 = (0 : Int32) then some (v6, v7, v8, v15, f_rests, f_leastRest, f_mostRest, f_isWheel, v9, v10, v11, v12, v13) else (F_X4_looksAtRests_then fu v8 f_rests f_leastRest f_mostRest f_then v9).bind fun v17 => (F_X4_hasWheel fu v8 v10 v11 v12 v13).bind fun v18 => (zbo v18.1).bind fun v19 => some (v6, v7, v8, v15, v17.1, v17.2.1, v17.2.2, v19, v9, v18.2.1, v11, v12, v18.2.2)
def F_X4_races_then_E68 (fu : Nat) (f_isWheel : Int32) (f_leastRest : Int32) (f_mostRest : Int32) (f_rests : Int32) (f_then : Nat → Int32) (v5 : Int32) (v6 : Int32) (v7 : Int32) (v8 : Int32) (v9 : Nat → Int32) (v10 : Nat → Int32) (v11 : Nat → Int32) (v12 : Nat → Int32) (v13 : Nat → Int32) : Option (Int32 × Int32 × Int32 × Int32 × Int32 × Int32 × Int32 × Int32 × (Nat → Int32) × (Nat → Int32) × (Nat → Int32) × (Nat → Int32) × (Nat → Int32)) := if (300 : Int32) < v8 then F_X4_races_then_J84 fu f_isWheel f_leastRest f_mostRest f_rests f_then v6 v7 v8 v9 v10 v11 v12 v13 (0 : Int32) else F_X4_races_then_J84 fu f_isWheel f_leastRest f_mostRest f_rests f_then v6 v7 v8 v9 v10 v11 v12 v13 (1 : Int32)
def F_X4_races_then_L38 (fu : Nat) (f_then : Nat → Int32) (k38 : Int32 → Int32 → Int32 → Int32 → (Nat → Int32) → (Nat → Int32) → (Nat → Int32) → (Nat → Int32) → (Nat → Int32) → Option (Int32 × Int32 × Int32 × Int32 × Int32 × Int32 × Int32 × Int32 × (Nat → Int32) × (Nat → Int32) × (Nat → Int32) × (Nat → Int32) × (Nat → Int32))) (rec38 : Int32 → Int32 → Int32 → Int32 → (Nat → Int32) → (Nat → Int32) → (Nat → Int32) → (Nat → Int32) → (Nat → Int32) → Option (Int32 × Int32 × Int32 × Int32 × Int32 × Int32 × Int32 × Int32 × (Nat → Int32) × (Nat → Int32) × (Nat → Int32) × (Nat → Int32) × (Nat → Int32))) (v21 : Int32) (v22 : Int32) (v23 : Int32) (v24 : Int32) (v25 : Nat → Int32) (v26 : Nat → Int32) (v27 : Nat → Int32) (v28 : Nat → Int32) (v29 : Nat → Int32) : Option (Int32 × Int32 × Int32 × Int32 × Int32 × Int32 × Int32 × Int32 × (Nat → Int32) × (Nat → Int32) × (Nat → Int32) × (Nat → Int32) × (Nat → Int32)) := if v24 ≤ v21 then k38 v21 v22 v23 v24 v25 v26 v27 v28 v29 else if (300 : Int32) < v24 then k38 v21 v22 v23 v24 v25 v26 v27 v28 v29 else (F_X4_laysWays_then fu v22 v23 v24 f_then v25 v26 v27 v28 v29 v21).bind fun v32 => rec38 (v21 + (1 : Int32)) v32.1 v32.2.1 v32.2.2.1 v32.2.2.2.1 v32.2.2.2.2.1 v32.2.2.2.2.2.1 v32.2.2.2.2.2.2.1 v32.2.2.2.2.2.2.2
def F_X4_races_then_E22 (fu : Nat) (f_counted : Int32) (f_due : Int32) (f_into : Nat → Int32) (f_isWheel : Int32) (f_leastRest : Int32) (f_met : Nat → Int32) (f_mostRest : Int32) (f_rests : Int32) (f_then : Nat → Int32) (f_ways : Nat → Int32) (f_waysOf : Nat → Int32) (v1 : Int32) (v2 : Nat → Int32) : Option (Int32 × Int32 × Int32 × Int32 × Int32 × Int32 × Int32 × Int32 × (Nat → Int32) × (Nat → Int32) × (Nat → Int32) × (Nat → Int32) × (Nat → Int32)) := (F_X4_codeOf fu f_then 88).bind fun v3 => (F_X4_metAt fu (0 : Int32) f_met v2 f_waysOf f_into v3).bind fun v4 => zlp9 (F_X4_races_then_L38 fu f_then (F_X4_races_then_E68 fu f_isWheel f_leastRest f_mostRest f_rests f_then)) fu v4.1 f_counted f_due v4.2.1 v4.2.2.1 v4.2.2.2.1 f_ways v4.2.2.2.2.1 v4.2.2.2.2.2
def F_X4_races_then_L2  (k2 : Int32 → (Nat → Int32) → Option (Int32 × Int32 × Int32 × Int32 × Int32 × Int32 × Int32 × Int32 × (Nat → Int32) × (Nat → Int32) × (Nat → Int32) × (Nat → Int32) × (Nat → Int32))) (rec2 : Int32 → (Nat → Int32) → Option (Int32 × Int32 × Int32 × Int32 × Int32 × Int32 × Int32 × Int32 × (Nat → Int32) × (Nat → Int32) × (Nat → Int32) × (Nat → Int32) × (Nat → Int32))) (v33 : Int32) (v34 : Nat → Int32) : Option (Int32 × Int32 × Int32 × Int32 × Int32 × Int32 × Int32 × Int32 × (Nat → Int32) × (Nat → Int32) × (Nat → Int32) × (Nat → Int32) × (Nat → Int32)) := if (1024 : Int32) ≤ v33 then k2 v33 v34 else (zwr v34 1024 v33 (0 : Int32)).bind fun v36 => rec2 (v33 + (1 : Int32)) v36
def F_X4_races_then (fu : Nat) (f_counted : Int32) (f_due : Int32) (f_meets : Int32) (f_isTold : Int32) (f_rests : Int32) (f_leastRest : Int32) (f_mostRest : Int32) (f_isWheel : Int32) (f_then : Nat → Int32) (f_met : Nat → Int32) (f_table : Nat → Int32) (f_ways : Nat → Int32) (f_waysOf : Nat → Int32) (f_into : Nat → Int32) : Option (Int32 × Int32 × Int32 × Int32 × Int32 × Int32 × Int32 × Int32 × (Nat → Int32) × (Nat → Int32) × (Nat → Int32) × (Nat → Int32) × (Nat → Int32)) := zlp2 (F_X4_races_then_L2 (F_X4_races_then_E22 fu f_counted f_due f_into f_isWheel f_leastRest f_met f_mostRest f_rests f_then f_ways f_waysOf)) fu (0 : Int32) f_table
set_option maxHeartbeats 4000000 in
set_option maxRecDepth 100000 in
theorem c_X4_races_then (l : Launch) (D : va_G) (cI cC cO cJ : ClassId) (fu : Nat) (a_this a_s a_then a_past a_text a_met a_table a_ways a_waysOf a_into a_orders : Nat) (sz : Nat) (f_thrown : Int32) (f_saved : Int32) (f_length : Int32) (f_counted : Int32) (f_due : Int32) (f_meets : Int32) (f_isTold : Int32) (f_rests : Int32) (f_leastRest : Int32) (f_mostRest : Int32) (f_isWheel : Int32) (f_ended : Int32) (f_spot : Int32) (f_ordered : Int32) (f_cureAmount : Int32) (f_cureRelay : Int32) (f_cureWhich : Int32) (f_hash : Int64) (f_then : Nat → Int32) (f_met : Nat → Int32) (f_table : Nat → Int32) (f_ways : Nat → Int32) (f_waysOf : Nat → Int32) (f_into : Nat → Int32) (R : Int32 × Int32 × Int32 × Int32 × Int32 × Int32 × Int32 × Int32 × (Nat → Int32) × (Nat → Int32) × (Nat → Int32) × (Nat → Int32) × (Nat → Int32)) (h : F_X4_races_then fu f_counted f_due f_meets f_isTold f_rests f_leastRest f_mostRest f_isWheel f_then f_met f_table f_ways f_waysOf f_into = some R) : Met l yX4_races wsX4_races ({ frames := 5, cells := 0, slots := 0, locals := 123 } : Room) (zPw D (ztys cI cC cO cJ) [(a_this, .inr (4, [.int f_thrown, .ref a_s, .ref a_then, .ref a_past, .int f_saved, .ref a_text, .int f_length, .int f_counted, .int f_due, .ref a_met, .ref a_table, .ref a_ways, .ref a_waysOf, .ref a_into, .int f_meets, .int f_isTold, .int f_rests, .int f_leastRest, .int f_mostRest, .int f_isWheel, .int f_ended, .int f_spot, .ref a_orders, .int f_ordered, .int f_cureAmount, .int f_cureRelay, .int f_cureWhich, .long f_hash])), (a_then, .inl (cI, 88, .inl f_then)), (a_met, .inl (cI, 301, .inl f_met)), (a_table, .inl (cI, 1024, .inl f_table)), (a_ways, .inl (cI, 2107, .inl f_ways)), (a_waysOf, .inl (cI, 301, .inl f_waysOf)), (a_into, .inl (cI, 301, .inl f_into))] sz [.ref a_this, .ref a_then]) (zWv D [(a_this, .inr (4, [.int f_thrown, .ref a_s, .ref a_then, .ref a_past, .int f_saved, .ref a_text, .int f_length, .int R.1, .int R.2.1, .ref a_met, .ref a_table, .ref a_ways, .ref a_waysOf, .ref a_into, .int R.2.2.1, .int R.2.2.2.1, .int R.2.2.2.2.1, .int R.2.2.2.2.2.1, .int R.2.2.2.2.2.2.1, .int R.2.2.2.2.2.2.2.1, .int f_ended, .int f_spot, .ref a_orders, .int f_ordered, .int f_cureAmount, .int f_cureRelay, .int f_cureWhich, .long f_hash])), (a_then, .inl (cI, 88, .inl f_then)), (a_met, .inl (cI, 301, .inl R.2.2.2.2.2.2.2.2.1)), (a_table, .inl (cI, 1024, .inl R.2.2.2.2.2.2.2.2.2.1)), (a_ways, .inl (cI, 2107, .inl R.2.2.2.2.2.2.2.2.2.2.1)), (a_waysOf, .inl (cI, 301, .inl R.2.2.2.2.2.2.2.2.2.2.2.1)), (a_into, .inl (cI, 301, .inl R.2.2.2.2.2.2.2.2.2.2.2.2))] (va_A [(a_this, .inr (4, [.int f_thrown, .ref a_s, .ref a_then, .ref a_past, .int f_saved, .ref a_text, .int f_length, .int f_counted, .int f_due, .ref a_met, .ref a_table, .ref a_ways, .ref a_waysOf, .ref a_into, .int f_meets, .int f_isTold, .int f_rests, .int f_leastRest, .int f_mostRest, .int f_isWheel, .int f_ended, .int f_spot, .ref a_orders, .int f_ordered, .int f_cureAmount, .int f_cureRelay, .int f_cureWhich, .long f_hash])), (a_then, .inl (cI, 88, .inl f_then)), (a_met, .inl (cI, 301, .inl f_met)), (a_table, .inl (cI, 1024, .inl f_table)), (a_ways, .inl (cI, 2107, .inl f_ways)), (a_waysOf, .inl (cI, 301, .inl f_waysOf)), (a_into, .inl (cI, 301, .inl f_into))] sz)) 0 0 (va_A [(a_this, .inr (4, [.int f_thrown, .ref a_s, .ref a_then, .ref a_past, .int f_saved, .ref a_text, .int f_length, .int f_counted, .int f_due, .ref a_met, .ref a_table, .ref a_ways, .ref a_waysOf, .ref a_into, .int f_meets, .int f_isTold, .int f_rests, .int f_leastRest, .int f_mostRest, .int f_isWheel, .int f_ended, .int f_spot, .ref a_orders, .int f_ordered, .int f_cureAmount, .int f_cureRelay, .int f_cureWhich, .long f_hash])), (a_then, .inl (cI, 88, .inl f_then)), (a_met, .inl (cI, 301, .inl f_met)), (a_table, .inl (cI, 1024, .inl f_table)), (a_ways, .inl (cI, 2107, .inl f_ways)), (a_waysOf, .inl (cI, 301, .inl f_waysOf)), (a_into, .inl (cI, 301, .inl f_into))] sz) := by
  refine Met.ofW (cc := cX4_races) (maxL := 4) (ret := none) (by decide) rfl ?_
  intro p e s m args below meth c s₁ B hml hv
  obtain ⟨rfl, hsz, hP, hK, hD0⟩ := hv
  have hx := B.exec
  have hb := B.bytes
  have hr := B.returns
  have hts := atoms_spec (ws := wsX4_races) B.pre
  have hown : s.vm.findClass RX4 = some m.cls := findClass_of_methodNamed B.named
  have hlocks := B.notSynchronized
  have hinX4 : ∀ w ∈ wsX40, w ∈ wsX4_races := fun _ h => (List.mem_cons_of_mem _ (List.mem_append_right _ h))
  subst hsz
  have hD := hD0.self (sz := s.heap.size)
  generalize hAe : va_A [(a_this, .inr (4, [.int f_thrown, .ref a_s, .ref a_then, .ref a_past, .int f_saved, .ref a_text, .int f_length, .int f_counted, .int f_due, .ref a_met, .ref a_table, .ref a_ways, .ref a_waysOf, .ref a_into, .int f_meets, .int f_isTold, .int f_rests, .int f_leastRest, .int f_mostRest, .int f_isWheel, .int f_ended, .int f_spot, .ref a_orders, .int f_ordered, .int f_cureAmount, .int f_cureRelay, .int f_cureWhich, .long f_hash])), (a_then, .inl (cI, 88, .inl f_then)), (a_met, .inl (cI, 301, .inl f_met)), (a_table, .inl (cI, 1024, .inl f_table)), (a_ways, .inl (cI, 2107, .inl f_ways)), (a_waysOf, .inl (cI, 301, .inl f_waysOf)), (a_into, .inl (cI, 301, .inl f_into))] s.heap.size = A at hD ⊢
  have hA : ∀ q : Nat, s.heap.size ≤ q → A q := fun q h => by rw [← hAe]; exact Or.inr h
  have hS : va_S A s.heap s.heap [] := va_S.rf
  have hP : va_P D vwCl [(a_this, .inr (4, [.int f_thrown, .ref a_s, .ref a_then, .ref a_past, .int f_saved, .ref a_text, .int f_length, .int f_counted, .int f_due, .ref a_met, .ref a_table, .ref a_ways, .ref a_waysOf, .ref a_into, .int f_meets, .int f_isTold, .int f_rests, .int f_leastRest, .int f_mostRest, .int f_isWheel, .int f_ended, .int f_spot, .ref a_orders, .int f_ordered, .int f_cureAmount, .int f_cureRelay, .int f_cureWhich, .long f_hash])), (a_then, .inl (cI, 88, .inl f_then)), (a_met, .inl (cI, 301, .inl f_met)), (a_table, .inl (cI, 1024, .inl f_table)), (a_ways, .inl (cI, 2107, .inl f_ways)), (a_waysOf, .inl (cI, 301, .inl f_waysOf)), (a_into, .inl (cI, 301, .inl f_into))] s.heap := hP
  have hK : va_K D vwCl (ztys cI cC cO cJ) s := hK
  have hl := lv_entry ([.ref a_this, .ref a_then]) (n := 4) (Nat.le_of_ble_eq_true rfl)
  rw [lg_entry_eq]
  generalize (lg_sl ([.ref a_this, .ref a_then]) ++ List.replicate (4 - (lg_sl ([.ref a_this, .ref a_then])).length) Slot.unset).toArray = ls at hl ⊢
  have hl : lv_has ls 4 [(0, .ref a_this), (1, .ref a_then)] := hl
  unfold F_X4_races_then at h
  refine lv_iconst (v := (0 : Int32)) hx hb dX4_races_0 (by decide) ?_
  refine lv_istore_n (lv' := [(2, .int (0 : Int32)), (0, .ref a_this), (1, .ref a_then)]) hx hb dX4_races_1 rfl hl (by decide) rfl (fun ls hl => ?_)
  have E22 : ∀ (v1 : Int32) (v2 : Nat → Int32), F_X4_races_then_E22 fu f_counted f_due f_into f_isWheel f_leastRest f_met f_mostRest f_rests f_then f_ways f_waysOf v1 v2 = some R → ∀ (H : Heap) (locs : List Loc), va_P D vwCl [(a_this, .inr (4, [.int f_thrown, .ref a_s, .ref a_then, .ref a_past, .int f_saved, .ref a_text, .int f_length, .int f_counted, .int f_due, .ref a_met, .ref a_table, .ref a_ways, .ref a_waysOf, .ref a_into, .int f_meets, .int f_isTold, .int f_rests, .int f_leastRest, .int f_mostRest, .int f_isWheel, .int f_ended, .int f_spot, .ref a_orders, .int f_ordered, .int f_cureAmount, .int f_cureRelay, .int f_cureWhich, .long f_hash])), (a_then, .inl (cI, 88, .inl f_then)), (a_met, .inl (cI, 301, .inl f_met)), (a_table, .inl (cI, 1024, .inl v2)), (a_ways, .inl (cI, 2107, .inl f_ways)), (a_waysOf, .inl (cI, 301, .inl f_waysOf)), (a_into, .inl (cI, 301, .inl f_into))] H → va_D A [(a_this, .inr (4, [.int f_thrown, .ref a_s, .ref a_then, .ref a_past, .int f_saved, .ref a_text, .int f_length, .int f_counted, .int f_due, .ref a_met, .ref a_table, .ref a_ways, .ref a_waysOf, .ref a_into, .int f_meets, .int f_isTold, .int f_rests, .int f_leastRest, .int f_mostRest, .int f_isWheel, .int f_ended, .int f_spot, .ref a_orders, .int f_ordered, .int f_cureAmount, .int f_cureRelay, .int f_cureWhich, .long f_hash])), (a_then, .inl (cI, 88, .inl f_then)), (a_met, .inl (cI, 301, .inl f_met)), (a_table, .inl (cI, 1024, .inl v2)), (a_ways, .inl (cI, 2107, .inl f_ways)), (a_waysOf, .inl (cI, 301, .inl f_waysOf)), (a_into, .inl (cI, 301, .inl f_into))] → va_S A s.heap H locs → ∀ ls : Array Slot, lv_has ls 4 [(0, .ref a_this), (1, .ref a_then), (2, .int v1)] → W p l e ({ frames := 5, cells := 0, slots := 0, locals := 123 } : Room) s m (([.ref a_this, .ref a_then] : List Value).toArray) below meth c H locs 0 0 (MQ below (zWv D [(a_this, .inr (4, [.int f_thrown, .ref a_s, .ref a_then, .ref a_past, .int f_saved, .ref a_text, .int f_length, .int R.1, .int R.2.1, .ref a_met, .ref a_table, .ref a_ways, .ref a_waysOf, .ref a_into, .int R.2.2.1, .int R.2.2.2.1, .int R.2.2.2.2.1, .int R.2.2.2.2.2.1, .int R.2.2.2.2.2.2.1, .int R.2.2.2.2.2.2.2.1, .int f_ended, .int f_spot, .ref a_orders, .int f_ordered, .int f_cureAmount, .int f_cureRelay, .int f_cureWhich, .long f_hash])), (a_then, .inl (cI, 88, .inl f_then)), (a_met, .inl (cI, 301, .inl R.2.2.2.2.2.2.2.2.1)), (a_table, .inl (cI, 1024, .inl R.2.2.2.2.2.2.2.2.2.1)), (a_ways, .inl (cI, 2107, .inl R.2.2.2.2.2.2.2.2.2.2.1)), (a_waysOf, .inl (cI, 301, .inl R.2.2.2.2.2.2.2.2.2.2.2.1)), (a_into, .inl (cI, 301, .inl R.2.2.2.2.2.2.2.2.2.2.2.2))] A) (([.ref a_this, .ref a_then] : List Value).toArray) s 0 0 A) (F0 m 22 ls []) := by
    intro v1 v2 h H locs hP hD hS ls hl
    unfold F_X4_races_then_E22 at h
    refine lv_aload_n hx hb dX4_races_22 rfl (lv_at hl 0 rfl) ?_
    refine lv_iconst (v := (0 : Int32)) hx hb dX4_races_23 (by decide) ?_
    refine va_put (D := D) (ci := 4) (v := .int (0 : Int32)) (ty := .int) (C := RX4) (T := TX4) (N := 28) hx hb hts hinX4 tyX4 tyX4_ok nmX4 hown hK hP hD hS 0 rfl rfl 14 (by decide) (hts (Cond.fieldLink RX4 82 "LadderRelaysModel" "meets" "I") (List.mem_of_getElem? (i := 2) rfl)) (fun _ h9 => h9) rfl (by decide +kernel) rfl rfl (Nat.le_of_ble_eq_true rfl) dX4_races_24 (fun H locs hP hD hS => ?_)
    have hP : va_P D vwCl [(a_this, .inr (4, [.int f_thrown, .ref a_s, .ref a_then, .ref a_past, .int f_saved, .ref a_text, .int f_length, .int f_counted, .int f_due, .ref a_met, .ref a_table, .ref a_ways, .ref a_waysOf, .ref a_into, .int (0 : Int32), .int f_isTold, .int f_rests, .int f_leastRest, .int f_mostRest, .int f_isWheel, .int f_ended, .int f_spot, .ref a_orders, .int f_ordered, .int f_cureAmount, .int f_cureRelay, .int f_cureWhich, .long f_hash])), (a_then, .inl (cI, 88, .inl f_then)), (a_met, .inl (cI, 301, .inl f_met)), (a_table, .inl (cI, 1024, .inl v2)), (a_ways, .inl (cI, 2107, .inl f_ways)), (a_waysOf, .inl (cI, 301, .inl f_waysOf)), (a_into, .inl (cI, 301, .inl f_into))] H := hP
    have hD : va_D A [(a_this, .inr (4, [.int f_thrown, .ref a_s, .ref a_then, .ref a_past, .int f_saved, .ref a_text, .int f_length, .int f_counted, .int f_due, .ref a_met, .ref a_table, .ref a_ways, .ref a_waysOf, .ref a_into, .int (0 : Int32), .int f_isTold, .int f_rests, .int f_leastRest, .int f_mostRest, .int f_isWheel, .int f_ended, .int f_spot, .ref a_orders, .int f_ordered, .int f_cureAmount, .int f_cureRelay, .int f_cureWhich, .long f_hash])), (a_then, .inl (cI, 88, .inl f_then)), (a_met, .inl (cI, 301, .inl f_met)), (a_table, .inl (cI, 1024, .inl v2)), (a_ways, .inl (cI, 2107, .inl f_ways)), (a_waysOf, .inl (cI, 301, .inl f_waysOf)), (a_into, .inl (cI, 301, .inl f_into))] := hD
    refine lv_aload_n hx hb dX4_races_27 rfl (lv_at hl 0 rfl) ?_
    refine lv_aload_n hx hb dX4_races_28 rfl (lv_at hl 1 rfl) ?_
    obtain ⟨v3, hv3, h⟩ := zbnd h
    have hPc := hP.sub (ws' := [(a_then, .inl (cI, 88, .inl f_then))]) [1] rfl
    refine zc_i (W.runS (As := [.ref a_then]) (rest := [.ref a_this]) ⟨hx, hb, hml, hown, hts⟩ (c_X4_codeOf l D cI cC cO cJ fu a_then f_then 88 v3 hv3) (va_cwS 1 hts gX4_races_X4_codeOf rfl rfl rfl (by decide +kernel) ⟨Nat.le_of_ble_eq_true rfl, Nat.le_of_ble_eq_true rfl⟩) (zPr_S hK hPc) rfl rfl hl.1 rfl (lv_room (Nat.le_of_ble_eq_true rfl)) dX4_races_29 ⟨Nat.zero_le _, Nat.zero_le _⟩) ?_
    obtain ⟨v4, hv4, h⟩ := zbnd h
    have hPc := hP.sub (ws' := [(a_this, .inr (4, [.int f_thrown, .ref a_s, .ref a_then, .ref a_past, .int f_saved, .ref a_text, .int f_length, .int f_counted, .int f_due, .ref a_met, .ref a_table, .ref a_ways, .ref a_waysOf, .ref a_into, .int (0 : Int32), .int f_isTold, .int f_rests, .int f_leastRest, .int f_mostRest, .int f_isWheel, .int f_ended, .int f_spot, .ref a_orders, .int f_ordered, .int f_cureAmount, .int f_cureRelay, .int f_cureWhich, .long f_hash])), (a_met, .inl (cI, 301, .inl f_met)), (a_table, .inl (cI, 1024, .inl v2)), (a_waysOf, .inl (cI, 301, .inl f_waysOf)), (a_into, .inl (cI, 301, .inl f_into))]) [0, 2, 3, 5, 6] rfl
    have hDc := hD.sub (ws' := [(a_this, .inr (4, [.int f_thrown, .ref a_s, .ref a_then, .ref a_past, .int f_saved, .ref a_text, .int f_length, .int f_counted, .int f_due, .ref a_met, .ref a_table, .ref a_ways, .ref a_waysOf, .ref a_into, .int (0 : Int32), .int f_isTold, .int f_rests, .int f_leastRest, .int f_mostRest, .int f_isWheel, .int f_ended, .int f_spot, .ref a_orders, .int f_ordered, .int f_cureAmount, .int f_cureRelay, .int f_cureWhich, .long f_hash])), (a_met, .inl (cI, 301, .inl f_met)), (a_table, .inl (cI, 1024, .inl v2)), (a_waysOf, .inl (cI, 301, .inl f_waysOf)), (a_into, .inl (cI, 301, .inl f_into))]) [0, 2, 3, 5, 6] (by decide) rfl
    have hFc := va_free (wc := [(a_this, .inr (4, [.int f_thrown, .ref a_s, .ref a_then, .ref a_past, .int f_saved, .ref a_text, .int f_length, .int f_counted, .int f_due, .ref a_met, .ref a_table, .ref a_ways, .ref a_waysOf, .ref a_into, .int (0 : Int32), .int f_isTold, .int f_rests, .int f_leastRest, .int f_mostRest, .int f_isWheel, .int f_ended, .int f_spot, .ref a_orders, .int f_ordered, .int f_cureAmount, .int f_cureRelay, .int f_cureWhich, .long f_hash])), (a_met, .inl (cI, 301, .inl f_met)), (a_table, .inl (cI, 1024, .inl v2)), (a_waysOf, .inl (cI, 301, .inl f_waysOf)), (a_into, .inl (cI, 301, .inl f_into))]) hD hS hA [0, 2, 3, 5, 6] rfl
    refine zc_wi (va_runV (C := RX4) (As := [.int v3]) (rest := []) ⟨hx, hb, hml, hown, hts⟩ (c_X4_metAt l D cI cC cO cJ fu a_this a_s a_then a_past a_text a_met a_table a_ways a_waysOf a_into a_orders _ f_thrown f_saved f_length f_counted f_due (0 : Int32) f_isTold f_rests f_leastRest f_mostRest f_isWheel f_ended f_spot f_ordered f_cureAmount f_cureRelay f_cureWhich f_hash f_met v2 f_waysOf f_into v3 v4 hv4) (cwV 1 hts gX4_races_X4_metAt rfl rfl rfl (by decide +kernel) ⟨Nat.le_of_ble_eq_true rfl, Nat.le_of_ble_eq_true rfl⟩) ⟨zPw_blind, (va_recv hK hP (q0 := 0) (ci := 4) rfl rfl), zPw_pre hK hPc hDc⟩ rfl rfl hl.1 rfl (lv_room (Nat.le_of_ble_eq_true rfl)) dX4_races_32 ⟨Nat.zero_le _, Nat.zero_le _⟩) hS hFc (fun H locs hk1 hP1 hS => ?_)
    obtain ⟨hP, hD⟩ := zjn (ws' := [(a_this, .inr (4, [.int f_thrown, .ref a_s, .ref a_then, .ref a_past, .int f_saved, .ref a_text, .int f_length, .int f_counted, .int f_due, .ref a_met, .ref a_table, .ref a_ways, .ref a_waysOf, .ref a_into, .int v4.2.1, .int f_isTold, .int f_rests, .int f_leastRest, .int f_mostRest, .int f_isWheel, .int f_ended, .int f_spot, .ref a_orders, .int f_ordered, .int f_cureAmount, .int f_cureRelay, .int f_cureWhich, .long f_hash])), (a_then, .inl (cI, 88, .inl f_then)), (a_met, .inl (cI, 301, .inl v4.2.2.1)), (a_table, .inl (cI, 1024, .inl v4.2.2.2.1)), (a_ways, .inl (cI, 2107, .inl f_ways)), (a_waysOf, .inl (cI, 301, .inl v4.2.2.2.2.1)), (a_into, .inl (cI, 301, .inl v4.2.2.2.2.2))]) hP hD [0, 2, 3, 5, 6] [.inr 0, .inl 1, .inr 1, .inr 2, .inl 4, .inr 3, .inr 4] rfl rfl rfl hk1 hP1
    refine lv_istore_n (lv' := [(2, .int v4.1), (0, .ref a_this), (1, .ref a_then)]) hx hb dX4_races_35 rfl hl (by decide) rfl (fun ls hl => ?_)
    refine lv_iload_n hx hb dX4_races_36 rfl (lv_at hl 0 rfl) ?_
    refine lv_istore_n (lv' := [(3, .int v4.1), (2, .int v4.1), (0, .ref a_this), (1, .ref a_then)]) hx hb dX4_races_37 rfl hl (by decide) rfl (fun ls hl => ?_)
    have E68 : ∀ (v5 : Int32) (v6 : Int32) (v7 : Int32) (v8 : Int32) (v9 : Nat → Int32) (v10 : Nat → Int32) (v11 : Nat → Int32) (v12 : Nat → Int32) (v13 : Nat → Int32), F_X4_races_then_E68 fu f_isWheel f_leastRest f_mostRest f_rests f_then v5 v6 v7 v8 v9 v10 v11 v12 v13 = some R → ∀ (H : Heap) (locs : List Loc), va_P D vwCl [(a_this, .inr (4, [.int f_thrown, .ref a_s, .ref a_then, .ref a_past, .int f_saved, .ref a_text, .int f_length, .int v6, .int v7, .ref a_met, .ref a_table, .ref a_ways, .ref a_waysOf, .ref a_into, .int v8, .int f_isTold, .int f_rests, .int f_leastRest, .int f_mostRest, .int f_isWheel, .int f_ended, .int f_spot, .ref a_orders, .int f_ordered, .int f_cureAmount, .int f_cureRelay, .int f_cureWhich, .long f_hash])), (a_then, .inl (cI, 88, .inl f_then)), (a_met, .inl (cI, 301, .inl v9)), (a_table, .inl (cI, 1024, .inl v10)), (a_ways, .inl (cI, 2107, .inl v11)), (a_waysOf, .inl (cI, 301, .inl v12)), (a_into, .inl (cI, 301, .inl v13))] H → va_D A [(a_this, .inr (4, [.int f_thrown, .ref a_s, .ref a_then, .ref a_past, .int f_saved, .ref a_text, .int f_length, .int v6, .int v7, .ref a_met, .ref a_table, .ref a_ways, .ref a_waysOf, .ref a_into, .int v8, .int f_isTold, .int f_rests, .int f_leastRest, .int f_mostRest, .int f_isWheel, .int f_ended, .int f_spot, .ref a_orders, .int f_ordered, .int f_cureAmount, .int f_cureRelay, .int f_cureWhich, .long f_hash])), (a_then, .inl (cI, 88, .inl f_then)), (a_met, .inl (cI, 301, .inl v9)), (a_table, .inl (cI, 1024, .inl v10)), (a_ways, .inl (cI, 2107, .inl v11)), (a_waysOf, .inl (cI, 301, .inl v12)), (a_into, .inl (cI, 301, .inl v13))] → va_S A s.heap H locs → ∀ ls : Array Slot, lv_has ls 4 [(0, .ref a_this), (1, .ref a_then), (2, .int v4.1), (3, .int v5)] → W p l e ({ frames := 5, cells := 0, slots := 0, locals := 123 } : Room) s m (([.ref a_this, .ref a_then] : List Value).toArray) below meth c H locs 0 0 (MQ below (zWv D [(a_this, .inr (4, [.int f_thrown, .ref a_s, .ref a_then, .ref a_past, .int f_saved, .ref a_text, .int f_length, .int R.1, .int R.2.1, .ref a_met, .ref a_table, .ref a_ways, .ref a_waysOf, .ref a_into, .int R.2.2.1, .int R.2.2.2.1, .int R.2.2.2.2.1, .int R.2.2.2.2.2.1, .int R.2.2.2.2.2.2.1, .int R.2.2.2.2.2.2.2.1, .int f_ended, .int f_spot, .ref a_orders, .int f_ordered, .int f_cureAmount, .int f_cureRelay, .int f_cureWhich, .long f_hash])), (a_then, .inl (cI, 88, .inl f_then)), (a_met, .inl (cI, 301, .inl R.2.2.2.2.2.2.2.2.1)), (a_table, .inl (cI, 1024, .inl R.2.2.2.2.2.2.2.2.2.1)), (a_ways, .inl (cI, 2107, .inl R.2.2.2.2.2.2.2.2.2.2.1)), (a_waysOf, .inl (cI, 301, .inl R.2.2.2.2.2.2.2.2.2.2.2.1)), (a_into, .inl (cI, 301, .inl R.2.2.2.2.2.2.2.2.2.2.2.2))] A) (([.ref a_this, .ref a_then] : List Value).toArray) s 0 0 A) (F0 m 68 ls []) := by
      intro v5 v6 v7 v8 v9 v10 v11 v12 v13 h H locs hP hD hS ls hl
      unfold F_X4_races_then_E68 at h
      refine lv_aload_n hx hb dX4_races_68 rfl (lv_at hl 0 rfl) ?_
      refine lv_aload_n hx hb dX4_races_69 rfl (lv_at hl 0 rfl) ?_
      refine va_get (D := D) (ci := 4) (v := .int v8) (C := RX4) (T := TX4) (N := 28) hx hb hts hinX4 hown hK hP 0 rfl rfl 14 (by decide) (hts (Cond.fieldLink RX4 82 "LadderRelaysModel" "meets" "I") (List.mem_of_getElem? (i := 2) rfl)) (fun _ h9 => h9) rfl dX4_races_70 ?_
      refine lv_sipush (v := (300 : Int32)) hx hb dX4_races_73 (by decide) ?_
      have J84 : ∀ (v14 : Int32), F_X4_races_then_J84 fu f_isWheel f_leastRest f_mostRest f_rests f_then v6 v7 v8 v9 v10 v11 v12 v13 v14 = some R → ∀ (H : Heap) (locs : List Loc), va_P D vwCl [(a_this, .inr (4, [.int f_thrown, .ref a_s, .ref a_then, .ref a_past, .int f_saved, .ref a_text, .int f_length, .int v6, .int v7, .ref a_met, .ref a_table, .ref a_ways, .ref a_waysOf, .ref a_into, .int v8, .int f_isTold, .int f_rests, .int f_leastRest, .int f_mostRest, .int f_isWheel, .int f_ended, .int f_spot, .ref a_orders, .int f_ordered, .int f_cureAmount, .int f_cureRelay, .int f_cureWhich, .long f_hash])), (a_then, .inl (cI, 88, .inl f_then)), (a_met, .inl (cI, 301, .inl v9)), (a_table, .inl (cI, 1024, .inl v10)), (a_ways, .inl (cI, 2107, .inl v11)), (a_waysOf, .inl (cI, 301, .inl v12)), (a_into, .inl (cI, 301, .inl v13))] H → va_D A [(a_this, .inr (4, [.int f_thrown, .ref a_s, .ref a_then, .ref a_past, .int f_saved, .ref a_text, .int f_length, .int v6, .int v7, .ref a_met, .ref a_table, .ref a_ways, .ref a_waysOf, .ref a_into, .int v8, .int f_isTold, .int f_rests, .int f_leastRest, .int f_mostRest, .int f_isWheel, .int f_ended, .int f_spot, .ref a_orders, .int f_ordered, .int f_cureAmount, .int f_cureRelay, .int f_cureWhich, .long f_hash])), (a_then, .inl (cI, 88, .inl f_then)), (a_met, .inl (cI, 301, .inl v9)), (a_table, .inl (cI, 1024, .inl v10)), (a_ways, .inl (cI, 2107, .inl v11)), (a_waysOf, .inl (cI, 301, .inl v12)), (a_into, .inl (cI, 301, .inl v13))] → va_S A s.heap H locs → ∀ ls : Array Slot, lv_has ls 4 [(0, .ref a_this), (1, .ref a_then), (2, .int v4.1), (3, .int v5)] → W p l e ({ frames := 5, cells := 0, slots := 0, locals := 123 } : Room) s m (([.ref a_this, .ref a_then] : List Value).toArray) below meth c H locs 0 0 (MQ below (zWv D [(a_this, .inr (4, [.int f_thrown, .ref a_s, .ref a_then, .ref a_past, .int f_saved, .ref a_text, .int f_length, .int R.1, .int R.2.1, .ref a_met, .ref a_table, .ref a_ways, .ref a_waysOf, .ref a_into, .int R.2.2.1, .int R.2.2.2.1, .int R.2.2.2.2.1, .int R.2.2.2.2.2.1, .int R.2.2.2.2.2.2.1, .int R.2.2.2.2.2.2.2.1, .int f_ended, .int f_spot, .ref a_orders, .int f_ordered, .int f_cureAmount, .int f_cureRelay, .int f_cureWhich, .long f_hash])), (a_then, .inl (cI, 88, .inl f_then)), (a_met, .inl (cI, 301, .inl R.2.2.2.2.2.2.2.2.1)), (a_table, .inl (cI, 1024, .inl R.2.2.2.2.2.2.2.2.2.1)), (a_ways, .inl (cI, 2107, .inl R.2.2.2.2.2.2.2.2.2.2.1)), (a_waysOf, .inl (cI, 301, .inl R.2.2.2.2.2.2.2.2.2.2.2.1)), (a_into, .inl (cI, 301, .inl R.2.2.2.2.2.2.2.2.2.2.2.2))] A) (([.ref a_this, .ref a_then] : List Value).toArray) s 0 0 A) (F0 m 84 ls [.int v14, .ref a_this]) := by
        intro v14 h H locs hP hD hS ls hl
        unfold F_X4_races_then_J84 at h
        obtain ⟨v15, hbv15, h⟩ := zbnd h
        obtain ⟨hbv15, hev15⟩ := zbo_some hbv15
        rw [hev15]
        refine va_put (D := D) (ci := 4) (v := .int v15) (ty := .boolean) (C := RX4) (T := TX4) (N := 28) hx hb hts hinX4 tyX4 tyX4_ok nmX4 hown hK hP hD hS 0 rfl rfl 15 (by decide) (hts (Cond.fieldLink RX4 122 "LadderRelaysModel" "isTold" "Z") (List.mem_of_getElem? (i := 3) rfl)) (fun _ h9 => h9) rfl (by decide +kernel) (by rcases hbv15 with q | q <;> rw [q] <;> rfl) (by rcases hbv15 with q | q <;> rw [q] <;> rfl) (Nat.le_of_ble_eq_true rfl) dX4_races_84 (fun H locs hP hD hS => ?_)
        have hP : va_P D vwCl [(a_this, .inr (4, [.int f_thrown, .ref a_s, .ref a_then, .ref a_past, .int f_saved, .ref a_text, .int f_length, .int v6, .int v7, .ref a_met, .ref a_table, .ref a_ways, .ref a_waysOf, .ref a_into, .int v8, .int v15, .int f_rests, .int f_leastRest, .int f_mostRest, .int f_isWheel, .int f_ended, .int f_spot, .ref a_orders, .int f_ordered, .int f_cureAmount, .int f_cureRelay, .int f_cureWhich, .long f_hash])), (a_then, .inl (cI, 88, .inl f_then)), (a_met, .inl (cI, 301, .inl v9)), (a_table, .inl (cI, 1024, .inl v10)), (a_ways, .inl (cI, 2107, .inl v11)), (a_waysOf, .inl (cI, 301, .inl v12)), (a_into, .inl (cI, 301, .inl v13))] H := hP
        have hD : va_D A [(a_this, .inr (4, [.int f_thrown, .ref a_s, .ref a_then, .ref a_past, .int f_saved, .ref a_text, .int f_length, .int v6, .int v7, .ref a_met, .ref a_table, .ref a_ways, .ref a_waysOf, .ref a_into, .int v8, .int v15, .int f_rests, .int f_leastRest, .int f_mostRest, .int f_isWheel, .int f_ended, .int f_spot, .ref a_orders, .int f_ordered, .int f_cureAmount, .int f_cureRelay, .int f_cureWhich, .long f_hash])), (a_then, .inl (cI, 88, .inl f_then)), (a_met, .inl (cI, 301, .inl v9)), (a_table, .inl (cI, 1024, .inl v10)), (a_ways, .inl (cI, 2107, .inl v11)), (a_waysOf, .inl (cI, 301, .inl v12)), (a_into, .inl (cI, 301, .inl v13))] := hD
        refine lv_aload_n hx hb dX4_races_87 rfl (lv_at hl 0 rfl) ?_
        refine va_get (D := D) (ci := 4) (v := .int v15) (C := RX4) (T := TX4) (N := 28) hx hb hts hinX4 hown hK hP 0 rfl rfl 15 (by decide) (hts (Cond.fieldLink RX4 122 "LadderRelaysModel" "isTold" "Z") (List.mem_of_getElem? (i := 3) rfl)) (fun _ h9 => h9) rfl dX4_races_88 ?_
        refine lv_if_eq (tgt := 107) hx hb dX4_races_91 (by decide) (fun c16 => ?_) (fun c16 => ?_)
        · have h := zif_t c16 h
          have hR := Option.some.inj h
          subst hR
          exact W.vret hx hb hr (fun t ht hW => ⟨⟨(), rfl, trivial, zhp ht hP⟩, hS.F ht⟩) hS.2.2 dX4_races_107
        · have h := zif_f c16 h
          refine lv_aload_n hx hb dX4_races_94 rfl (lv_at hl 0 rfl) ?_
          refine lv_aload_n hx hb dX4_races_95 rfl (lv_at hl 1 rfl) ?_
          obtain ⟨v17, hv17, h⟩ := zbnd h
          have hPc := hP.sub (ws' := [(a_this, .inr (4, [.int f_thrown, .ref a_s, .ref a_then, .ref a_past, .int f_saved, .ref a_text, .int f_length, .int v6, .int v7, .ref a_met, .ref a_table, .ref a_ways, .ref a_waysOf, .ref a_into, .int v8, .int v15, .int f_rests, .int f_leastRest, .int f_mostRest, .int f_isWheel, .int f_ended, .int f_spot, .ref a_orders, .int f_ordered, .int f_cureAmount, .int f_cureRelay, .int f_cureWhich, .long f_hash])), (a_then, .inl (cI, 88, .inl f_then)), (a_met, .inl (cI, 301, .inl v9))]) [0, 1, 2] rfl
          have hDc := hD.sub (ws' := [(a_this, .inr (4, [.int f_thrown, .ref a_s, .ref a_then, .ref a_past, .int f_saved, .ref a_text, .int f_length, .int v6, .int v7, .ref a_met, .ref a_table, .ref a_ways, .ref a_waysOf, .ref a_into, .int v8, .int v15, .int f_rests, .int f_leastRest, .int f_mostRest, .int f_isWheel, .int f_ended, .int f_spot, .ref a_orders, .int f_ordered, .int f_cureAmount, .int f_cureRelay, .int f_cureWhich, .long f_hash])), (a_then, .inl (cI, 88, .inl f_then)), (a_met, .inl (cI, 301, .inl v9))]) [0, 1, 2] (by decide) rfl
          have hFc := va_free (wc := [(a_this, .inr (4, [.int f_thrown, .ref a_s, .ref a_then, .ref a_past, .int f_saved, .ref a_text, .int f_length, .int v6, .int v7, .ref a_met, .ref a_table, .ref a_ways, .ref a_waysOf, .ref a_into, .int v8, .int v15, .int f_rests, .int f_leastRest, .int f_mostRest, .int f_isWheel, .int f_ended, .int f_spot, .ref a_orders, .int f_ordered, .int f_cureAmount, .int f_cureRelay, .int f_cureWhich, .long f_hash])), (a_then, .inl (cI, 88, .inl f_then)), (a_met, .inl (cI, 301, .inl v9))]) hD hS hA [0, 1, 2] rfl
          refine zc_wv (va_runV (C := RX4) (As := [.ref a_then]) (rest := []) ⟨hx, hb, hml, hown, hts⟩ (c_X4_looksAtRests_then l D cI cC cO cJ fu a_this a_s a_then a_past a_text a_met a_table a_ways a_waysOf a_into a_orders _ f_thrown f_saved f_length v6 v7 v8 v15 f_rests f_leastRest f_mostRest f_isWheel f_ended f_spot f_ordered f_cureAmount f_cureRelay f_cureWhich f_hash f_then v9 v17 hv17) (cwV 1 hts gX4_races_X4_looksAtRests rfl rfl rfl (by decide +kernel) ⟨Nat.le_of_ble_eq_true rfl, Nat.le_of_ble_eq_true rfl⟩) ⟨zPw_blind, (va_recv hK hP (q0 := 0) (ci := 4) rfl rfl), zPw_pre hK hPc hDc⟩ rfl rfl hl.1 rfl (lv_room (Nat.le_of_ble_eq_true rfl)) dX4_races_96 ⟨Nat.zero_le _, Nat.zero_le _⟩) hS hFc (fun H locs hk1 hP1 hS => ?_)
          obtain ⟨hP, hD⟩ := zjn (ws' := [(a_this, .inr (4, [.int f_thrown, .ref a_s, .ref a_then, .ref a_past, .int f_saved, .ref a_text, .int f_length, .int v6, .int v7, .ref a_met, .ref a_table, .ref a_ways, .ref a_waysOf, .ref a_into, .int v8, .int v15, .int v17.1, .int v17.2.1, .int v17.2.2, .int f_isWheel, .int f_ended, .int f_spot, .ref a_orders, .int f_ordered, .int f_cureAmount, .int f_cureRelay, .int f_cureWhich, .long f_hash])), (a_then, .inl (cI, 88, .inl f_then)), (a_met, .inl (cI, 301, .inl v9)), (a_table, .inl (cI, 1024, .inl v10)), (a_ways, .inl (cI, 2107, .inl v11)), (a_waysOf, .inl (cI, 301, .inl v12)), (a_into, .inl (cI, 301, .inl v13))]) hP hD [0, 1, 2] [.inr 0, .inr 1, .inr 2, .inl 3, .inl 4, .inl 5, .inl 6] rfl rfl rfl hk1 hP1
          refine lv_aload_n hx hb dX4_races_99 rfl (lv_at hl 0 rfl) ?_
          refine lv_aload_n hx hb dX4_races_100 rfl (lv_at hl 0 rfl) ?_
          obtain ⟨v18, hv18, h⟩ := zbnd h
          have hPc := hP.sub (ws' := [(a_this, .inr (4, [.int f_thrown, .ref a_s, .ref a_then, .ref a_past, .int f_saved, .ref a_text, .int f_length, .int v6, .int v7, .ref a_met, .ref a_table, .ref a_ways, .ref a_waysOf, .ref a_into, .int v8, .int v15, .int v17.1, .int v17.2.1, .int v17.2.2, .int f_isWheel, .int f_ended, .int f_spot, .ref a_orders, .int f_ordered, .int f_cureAmount, .int f_cureRelay, .int f_cureWhich, .long f_hash])), (a_table, .inl (cI, 1024, .inl v10)), (a_ways, .inl (cI, 2107, .inl v11)), (a_waysOf, .inl (cI, 301, .inl v12)), (a_into, .inl (cI, 301, .inl v13))]) [0, 3, 4, 5, 6] rfl
          have hDc := hD.sub (ws' := [(a_this, .inr (4, [.int f_thrown, .ref a_s, .ref a_then, .ref a_past, .int f_saved, .ref a_text, .int f_length, .int v6, .int v7, .ref a_met, .ref a_table, .ref a_ways, .ref a_waysOf, .ref a_into, .int v8, .int v15, .int v17.1, .int v17.2.1, .int v17.2.2, .int f_isWheel, .int f_ended, .int f_spot, .ref a_orders, .int f_ordered, .int f_cureAmount, .int f_cureRelay, .int f_cureWhich, .long f_hash])), (a_table, .inl (cI, 1024, .inl v10)), (a_ways, .inl (cI, 2107, .inl v11)), (a_waysOf, .inl (cI, 301, .inl v12)), (a_into, .inl (cI, 301, .inl v13))]) [0, 3, 4, 5, 6] (by decide) rfl
          have hFc := va_free (wc := [(a_this, .inr (4, [.int f_thrown, .ref a_s, .ref a_then, .ref a_past, .int f_saved, .ref a_text, .int f_length, .int v6, .int v7, .ref a_met, .ref a_table, .ref a_ways, .ref a_waysOf, .ref a_into, .int v8, .int v15, .int v17.1, .int v17.2.1, .int v17.2.2, .int f_isWheel, .int f_ended, .int f_spot, .ref a_orders, .int f_ordered, .int f_cureAmount, .int f_cureRelay, .int f_cureWhich, .long f_hash])), (a_table, .inl (cI, 1024, .inl v10)), (a_ways, .inl (cI, 2107, .inl v11)), (a_waysOf, .inl (cI, 301, .inl v12)), (a_into, .inl (cI, 301, .inl v13))]) hD hS hA [0, 3, 4, 5, 6] rfl
          refine zc_wi (va_runV (C := RX4) (As := []) (rest := [.ref a_this]) ⟨hx, hb, hml, hown, hts⟩ (c_X4_hasWheel l D cI cC cO cJ fu a_this a_s a_then a_past a_text a_met a_table a_ways a_waysOf a_into a_orders _ f_thrown f_saved f_length v6 v7 v8 v15 v17.1 v17.2.1 v17.2.2 f_isWheel f_ended f_spot f_ordered f_cureAmount f_cureRelay f_cureWhich f_hash v10 v11 v12 v13 v18 hv18) (cwV 0 hts gX4_races_X4_hasWheel rfl rfl rfl (by decide +kernel) ⟨Nat.le_of_ble_eq_true rfl, Nat.le_of_ble_eq_true rfl⟩) ⟨zPw_blind, (va_recv hK hP (q0 := 0) (ci := 4) rfl rfl), zPw_pre hK hPc hDc⟩ rfl rfl hl.1 rfl (lv_room (Nat.le_of_ble_eq_true rfl)) dX4_races_101 ⟨Nat.zero_le _, Nat.zero_le _⟩) hS hFc (fun H locs hk1 hP1 hS => ?_)
          obtain ⟨hP, hD⟩ := zjn (ws' := [(a_this, .inr (4, [.int f_thrown, .ref a_s, .ref a_then, .ref a_past, .int f_saved, .ref a_text, .int f_length, .int v6, .int v7, .ref a_met, .ref a_table, .ref a_ways, .ref a_waysOf, .ref a_into, .int v8, .int v15, .int v17.1, .int v17.2.1, .int v17.2.2, .int f_isWheel, .int f_ended, .int f_spot, .ref a_orders, .int f_ordered, .int f_cureAmount, .int f_cureRelay, .int f_cureWhich, .long f_hash])), (a_then, .inl (cI, 88, .inl f_then)), (a_met, .inl (cI, 301, .inl v9)), (a_table, .inl (cI, 1024, .inl v18.2.1)), (a_ways, .inl (cI, 2107, .inl v11)), (a_waysOf, .inl (cI, 301, .inl v12)), (a_into, .inl (cI, 301, .inl v18.2.2))]) hP hD [0, 3, 4, 5, 6] [.inr 0, .inl 1, .inl 2, .inr 1, .inr 2, .inr 3, .inr 4] rfl rfl rfl hk1 hP1
          obtain ⟨v19, hbv19, h⟩ := zbnd h
          obtain ⟨hbv19, hev19⟩ := zbo_some hbv19
          rw [hev19]
          refine va_put (D := D) (ci := 4) (v := .int v19) (ty := .boolean) (C := RX4) (T := TX4) (N := 28) hx hb hts hinX4 tyX4 tyX4_ok nmX4 hown hK hP hD hS 0 rfl rfl 19 (by decide) (hts (Cond.fieldLink RX4 134 "LadderRelaysModel" "isWheel" "Z") (List.mem_of_getElem? (i := 4) rfl)) (fun _ h9 => h9) rfl (by decide +kernel) (by rcases hbv19 with q | q <;> rw [q] <;> rfl) (by rcases hbv19 with q | q <;> rw [q] <;> rfl) (Nat.le_of_ble_eq_true rfl) dX4_races_104 (fun H locs hP hD hS => ?_)
          have hP : va_P D vwCl [(a_this, .inr (4, [.int f_thrown, .ref a_s, .ref a_then, .ref a_past, .int f_saved, .ref a_text, .int f_length, .int v6, .int v7, .ref a_met, .ref a_table, .ref a_ways, .ref a_waysOf, .ref a_into, .int v8, .int v15, .int v17.1, .int v17.2.1, .int v17.2.2, .int v19, .int f_ended, .int f_spot, .ref a_orders, .int f_ordered, .int f_cureAmount, .int f_cureRelay, .int f_cureWhich, .long f_hash])), (a_then, .inl (cI, 88, .inl f_then)), (a_met, .inl (cI, 301, .inl v9)), (a_table, .inl (cI, 1024, .inl v18.2.1)), (a_ways, .inl (cI, 2107, .inl v11)), (a_waysOf, .inl (cI, 301, .inl v12)), (a_into, .inl (cI, 301, .inl v18.2.2))] H := hP
          have hD : va_D A [(a_this, .inr (4, [.int f_thrown, .ref a_s, .ref a_then, .ref a_past, .int f_saved, .ref a_text, .int f_length, .int v6, .int v7, .ref a_met, .ref a_table, .ref a_ways, .ref a_waysOf, .ref a_into, .int v8, .int v15, .int v17.1, .int v17.2.1, .int v17.2.2, .int v19, .int f_ended, .int f_spot, .ref a_orders, .int f_ordered, .int f_cureAmount, .int f_cureRelay, .int f_cureWhich, .long f_hash])), (a_then, .inl (cI, 88, .inl f_then)), (a_met, .inl (cI, 301, .inl v9)), (a_table, .inl (cI, 1024, .inl v18.2.1)), (a_ways, .inl (cI, 2107, .inl v11)), (a_waysOf, .inl (cI, 301, .inl v12)), (a_into, .inl (cI, 301, .inl v18.2.2))] := hD
          have hR := Option.some.inj h
          subst hR
          exact W.vret hx hb hr (fun t ht hW => ⟨⟨(), rfl, trivial, zhp ht hP⟩, hS.F ht⟩) hS.2.2 dX4_races_107
      refine lv_icmp_gt (tgt := 83) hx hb dX4_races_76 (by decide) (fun c20 => ?_) (fun c20 => ?_)
      · have h := zif_t c20 h
        refine lv_iconst (v := (0 : Int32)) hx hb dX4_races_83 (by decide) ?_
        exact J84 (0 : Int32) h _ _ hP hD hS ls (lv_sub hl [0, 1, 2, 3] rfl)
      · have h := zif_f c20 h
        refine lv_iconst (v := (1 : Int32)) hx hb dX4_races_79 (by decide) ?_
        refine lv_goto (tgt := 84) hx hb dX4_races_80 (by decide) ?_
        exact J84 (1 : Int32) h _ _ hP hD hS ls (lv_sub hl [0, 1, 2, 3] rfl)
    refine zlp_i9 (R := R) (P := fun (v21 : Int32) (v22 : Int32) (v23 : Int32) (v24 : Int32) (v25 : Nat → Int32) (v26 : Nat → Int32) (v27 : Nat → Int32) (v28 : Nat → Int32) (v29 : Nat → Int32) => ∀ (H : Heap) (locs : List Loc), va_P D vwCl [(a_this, .inr (4, [.int f_thrown, .ref a_s, .ref a_then, .ref a_past, .int f_saved, .ref a_text, .int f_length, .int v22, .int v23, .ref a_met, .ref a_table, .ref a_ways, .ref a_waysOf, .ref a_into, .int v24, .int f_isTold, .int f_rests, .int f_leastRest, .int f_mostRest, .int f_isWheel, .int f_ended, .int f_spot, .ref a_orders, .int f_ordered, .int f_cureAmount, .int f_cureRelay, .int f_cureWhich, .long f_hash])), (a_then, .inl (cI, 88, .inl f_then)), (a_met, .inl (cI, 301, .inl v25)), (a_table, .inl (cI, 1024, .inl v26)), (a_ways, .inl (cI, 2107, .inl v27)), (a_waysOf, .inl (cI, 301, .inl v28)), (a_into, .inl (cI, 301, .inl v29))] H → va_D A [(a_this, .inr (4, [.int f_thrown, .ref a_s, .ref a_then, .ref a_past, .int f_saved, .ref a_text, .int f_length, .int v22, .int v23, .ref a_met, .ref a_table, .ref a_ways, .ref a_waysOf, .ref a_into, .int v24, .int f_isTold, .int f_rests, .int f_leastRest, .int f_mostRest, .int f_isWheel, .int f_ended, .int f_spot, .ref a_orders, .int f_ordered, .int f_cureAmount, .int f_cureRelay, .int f_cureWhich, .long f_hash])), (a_then, .inl (cI, 88, .inl f_then)), (a_met, .inl (cI, 301, .inl v25)), (a_table, .inl (cI, 1024, .inl v26)), (a_ways, .inl (cI, 2107, .inl v27)), (a_waysOf, .inl (cI, 301, .inl v28)), (a_into, .inl (cI, 301, .inl v29))] → va_S A s.heap H locs → ∀ ls : Array Slot, lv_has ls 4 [(0, .ref a_this), (1, .ref a_then), (2, .int v4.1), (3, .int v21)] → W p l e ({ frames := 5, cells := 0, slots := 0, locals := 123 } : Room) s m (([.ref a_this, .ref a_then] : List Value).toArray) below meth c H locs 0 0 (MQ below (zWv D [(a_this, .inr (4, [.int f_thrown, .ref a_s, .ref a_then, .ref a_past, .int f_saved, .ref a_text, .int f_length, .int R.1, .int R.2.1, .ref a_met, .ref a_table, .ref a_ways, .ref a_waysOf, .ref a_into, .int R.2.2.1, .int R.2.2.2.1, .int R.2.2.2.2.1, .int R.2.2.2.2.2.1, .int R.2.2.2.2.2.2.1, .int R.2.2.2.2.2.2.2.1, .int f_ended, .int f_spot, .ref a_orders, .int f_ordered, .int f_cureAmount, .int f_cureRelay, .int f_cureWhich, .long f_hash])), (a_then, .inl (cI, 88, .inl f_then)), (a_met, .inl (cI, 301, .inl R.2.2.2.2.2.2.2.2.1)), (a_table, .inl (cI, 1024, .inl R.2.2.2.2.2.2.2.2.2.1)), (a_ways, .inl (cI, 2107, .inl R.2.2.2.2.2.2.2.2.2.2.1)), (a_waysOf, .inl (cI, 301, .inl R.2.2.2.2.2.2.2.2.2.2.2.1)), (a_into, .inl (cI, 301, .inl R.2.2.2.2.2.2.2.2.2.2.2.2))] A) (([.ref a_this, .ref a_then] : List Value).toArray) s 0 0 A) (F0 m 38 ls [])) (fun rec38 ih38 v21 v22 v23 v24 v25 v26 v27 v28 v29 h => ?_) fu v4.1 f_counted f_due v4.2.1 v4.2.2.1 v4.2.2.2.1 f_ways v4.2.2.2.2.1 v4.2.2.2.2.2 h _ _ hP hD hS ls (lv_sub hl [2, 3, 1, 0] rfl)
    intro H locs hP hD hS ls hl
    unfold F_X4_races_then_L38 at h
    refine lv_iload_n hx hb dX4_races_38 rfl (lv_at hl 3 rfl) ?_
    refine lv_aload_n hx hb dX4_races_39 rfl (lv_at hl 0 rfl) ?_
    refine va_get (D := D) (ci := 4) (v := .int v24) (C := RX4) (T := TX4) (N := 28) hx hb hts hinX4 hown hK hP 0 rfl rfl 14 (by decide) (hts (Cond.fieldLink RX4 82 "LadderRelaysModel" "meets" "I") (List.mem_of_getElem? (i := 2) rfl)) (fun _ h9 => h9) rfl dX4_races_40 ?_
    refine lv_icmp_ge (tgt := 68) hx hb dX4_races_43 (by decide) (fun c30 => ?_) (fun c30 => ?_)
    · have h := zif_t c30 h
      exact E68 v21 v22 v23 v24 v25 v26 v27 v28 v29 h _ _ hP hD hS ls (lv_sub hl [0, 1, 2, 3] rfl)
    · have h := zif_f c30 h
      refine lv_aload_n hx hb dX4_races_46 rfl (lv_at hl 0 rfl) ?_
      refine va_get (D := D) (ci := 4) (v := .int v24) (C := RX4) (T := TX4) (N := 28) hx hb hts hinX4 hown hK hP 0 rfl rfl 14 (by decide) (hts (Cond.fieldLink RX4 82 "LadderRelaysModel" "meets" "I") (List.mem_of_getElem? (i := 2) rfl)) (fun _ h9 => h9) rfl dX4_races_47 ?_
      refine lv_sipush (v := (300 : Int32)) hx hb dX4_races_50 (by decide) ?_
      refine lv_icmp_gt (tgt := 68) hx hb dX4_races_53 (by decide) (fun c31 => ?_) (fun c31 => ?_)
      · have h := zif_t c31 h
        exact E68 v21 v22 v23 v24 v25 v26 v27 v28 v29 h _ _ hP hD hS ls (lv_sub hl [0, 1, 2, 3] rfl)
      · have h := zif_f c31 h
        refine lv_aload_n hx hb dX4_races_56 rfl (lv_at hl 0 rfl) ?_
        refine lv_aload_n hx hb dX4_races_57 rfl (lv_at hl 1 rfl) ?_
        refine lv_iload_n hx hb dX4_races_58 rfl (lv_at hl 3 rfl) ?_
        obtain ⟨v32, hv32, h⟩ := zbnd h
        have hFc := va_free (wc := [(a_this, .inr (4, [.int f_thrown, .ref a_s, .ref a_then, .ref a_past, .int f_saved, .ref a_text, .int f_length, .int v22, .int v23, .ref a_met, .ref a_table, .ref a_ways, .ref a_waysOf, .ref a_into, .int v24, .int f_isTold, .int f_rests, .int f_leastRest, .int f_mostRest, .int f_isWheel, .int f_ended, .int f_spot, .ref a_orders, .int f_ordered, .int f_cureAmount, .int f_cureRelay, .int f_cureWhich, .long f_hash])), (a_then, .inl (cI, 88, .inl f_then)), (a_met, .inl (cI, 301, .inl v25)), (a_table, .inl (cI, 1024, .inl v26)), (a_ways, .inl (cI, 2107, .inl v27)), (a_waysOf, .inl (cI, 301, .inl v28)), (a_into, .inl (cI, 301, .inl v29))]) hD hS hA [0, 1, 2, 3, 4, 5, 6] rfl
        refine zc_wv (va_runV (C := RX4) (As := [.ref a_then, .int v21]) (rest := []) ⟨hx, hb, hml, hown, hts⟩ (c_X4_laysWays_then l D cI cC cO cJ fu a_this a_s a_then a_past a_text a_met a_table a_ways a_waysOf a_into a_orders _ f_thrown f_saved f_length v22 v23 v24 f_isTold f_rests f_leastRest f_mostRest f_isWheel f_ended f_spot f_ordered f_cureAmount f_cureRelay f_cureWhich f_hash f_then v25 v26 v27 v28 v29 v21 v32 hv32) (cwV 2 hts gX4_races_X4_laysWays rfl rfl rfl (by decide +kernel) ⟨Nat.le_of_ble_eq_true rfl, Nat.le_of_ble_eq_true rfl⟩) ⟨zPw_blind, (va_recv hK hP (q0 := 0) (ci := 4) rfl rfl), zPw_pre hK hP hD⟩ rfl rfl hl.1 rfl (lv_room (Nat.le_of_ble_eq_true rfl)) dX4_races_59 ⟨Nat.zero_le _, Nat.zero_le _⟩) hS hFc (fun H locs hk1 hP1 hS => ?_)
        obtain ⟨hP, hD⟩ := zjn (ws' := [(a_this, .inr (4, [.int f_thrown, .ref a_s, .ref a_then, .ref a_past, .int f_saved, .ref a_text, .int f_length, .int v32.1, .int v32.2.1, .ref a_met, .ref a_table, .ref a_ways, .ref a_waysOf, .ref a_into, .int v32.2.2.1, .int f_isTold, .int f_rests, .int f_leastRest, .int f_mostRest, .int f_isWheel, .int f_ended, .int f_spot, .ref a_orders, .int f_ordered, .int f_cureAmount, .int f_cureRelay, .int f_cureWhich, .long f_hash])), (a_then, .inl (cI, 88, .inl f_then)), (a_met, .inl (cI, 301, .inl v32.2.2.2.1)), (a_table, .inl (cI, 1024, .inl v32.2.2.2.2.1)), (a_ways, .inl (cI, 2107, .inl v32.2.2.2.2.2.1)), (a_waysOf, .inl (cI, 301, .inl v32.2.2.2.2.2.2.1)), (a_into, .inl (cI, 301, .inl v32.2.2.2.2.2.2.2))]) hP hD [0, 1, 2, 3, 4, 5, 6] [.inr 0, .inr 1, .inr 2, .inr 3, .inr 4, .inr 5, .inr 6] rfl rfl rfl hk1 hP1
        refine lv_iinc (v := (v21 + (1 : Int32))) (lv' := [(3, .int (v21 + (1 : Int32))), (0, .ref a_this), (1, .ref a_then), (2, .int v4.1)]) hx hb dX4_races_62 hl (k := 3) rfl rfl (by decide) rfl (fun ls hl => ?_)
        refine lv_goto (tgt := 38) hx hb dX4_races_65 (by decide) ?_
        exact ih38 (v21 + (1 : Int32)) v32.1 v32.2.1 v32.2.2.1 v32.2.2.2.1 v32.2.2.2.2.1 v32.2.2.2.2.2.1 v32.2.2.2.2.2.2.1 v32.2.2.2.2.2.2.2 h _ _ hP hD hS ls (lv_sub hl [1, 2, 3, 0] rfl)
  refine zlp_i2 (R := R) (P := fun (v33 : Int32) (v34 : Nat → Int32) => ∀ (H : Heap) (locs : List Loc), va_P D vwCl [(a_this, .inr (4, [.int f_thrown, .ref a_s, .ref a_then, .ref a_past, .int f_saved, .ref a_text, .int f_length, .int f_counted, .int f_due, .ref a_met, .ref a_table, .ref a_ways, .ref a_waysOf, .ref a_into, .int f_meets, .int f_isTold, .int f_rests, .int f_leastRest, .int f_mostRest, .int f_isWheel, .int f_ended, .int f_spot, .ref a_orders, .int f_ordered, .int f_cureAmount, .int f_cureRelay, .int f_cureWhich, .long f_hash])), (a_then, .inl (cI, 88, .inl f_then)), (a_met, .inl (cI, 301, .inl f_met)), (a_table, .inl (cI, 1024, .inl v34)), (a_ways, .inl (cI, 2107, .inl f_ways)), (a_waysOf, .inl (cI, 301, .inl f_waysOf)), (a_into, .inl (cI, 301, .inl f_into))] H → va_D A [(a_this, .inr (4, [.int f_thrown, .ref a_s, .ref a_then, .ref a_past, .int f_saved, .ref a_text, .int f_length, .int f_counted, .int f_due, .ref a_met, .ref a_table, .ref a_ways, .ref a_waysOf, .ref a_into, .int f_meets, .int f_isTold, .int f_rests, .int f_leastRest, .int f_mostRest, .int f_isWheel, .int f_ended, .int f_spot, .ref a_orders, .int f_ordered, .int f_cureAmount, .int f_cureRelay, .int f_cureWhich, .long f_hash])), (a_then, .inl (cI, 88, .inl f_then)), (a_met, .inl (cI, 301, .inl f_met)), (a_table, .inl (cI, 1024, .inl v34)), (a_ways, .inl (cI, 2107, .inl f_ways)), (a_waysOf, .inl (cI, 301, .inl f_waysOf)), (a_into, .inl (cI, 301, .inl f_into))] → va_S A s.heap H locs → ∀ ls : Array Slot, lv_has ls 4 [(0, .ref a_this), (1, .ref a_then), (2, .int v33)] → W p l e ({ frames := 5, cells := 0, slots := 0, locals := 123 } : Room) s m (([.ref a_this, .ref a_then] : List Value).toArray) below meth c H locs 0 0 (MQ below (zWv D [(a_this, .inr (4, [.int f_thrown, .ref a_s, .ref a_then, .ref a_past, .int f_saved, .ref a_text, .int f_length, .int R.1, .int R.2.1, .ref a_met, .ref a_table, .ref a_ways, .ref a_waysOf, .ref a_into, .int R.2.2.1, .int R.2.2.2.1, .int R.2.2.2.2.1, .int R.2.2.2.2.2.1, .int R.2.2.2.2.2.2.1, .int R.2.2.2.2.2.2.2.1, .int f_ended, .int f_spot, .ref a_orders, .int f_ordered, .int f_cureAmount, .int f_cureRelay, .int f_cureWhich, .long f_hash])), (a_then, .inl (cI, 88, .inl f_then)), (a_met, .inl (cI, 301, .inl R.2.2.2.2.2.2.2.2.1)), (a_table, .inl (cI, 1024, .inl R.2.2.2.2.2.2.2.2.2.1)), (a_ways, .inl (cI, 2107, .inl R.2.2.2.2.2.2.2.2.2.2.1)), (a_waysOf, .inl (cI, 301, .inl R.2.2.2.2.2.2.2.2.2.2.2.1)), (a_into, .inl (cI, 301, .inl R.2.2.2.2.2.2.2.2.2.2.2.2))] A) (([.ref a_this, .ref a_then] : List Value).toArray) s 0 0 A) (F0 m 2 ls [])) (fun rec2 ih2 v33 v34 h => ?_) fu (0 : Int32) f_table h _ _ hP hD hS ls (lv_sub hl [1, 2, 0] rfl)
  intro H locs hP hD hS ls hl
  unfold F_X4_races_then_L2 at h
  refine lv_iload_n hx hb dX4_races_2 rfl (lv_at hl 2 rfl) ?_
  refine lv_sipush (v := (1024 : Int32)) hx hb dX4_races_3 (by decide) ?_
  refine lv_icmp_ge (tgt := 22) hx hb dX4_races_6 (by decide) (fun c35 => ?_) (fun c35 => ?_)
  · have h := zif_t c35 h
    exact E22 v33 v34 h _ _ hP hD hS ls (lv_sub hl [0, 1, 2] rfl)
  · have h := zif_f c35 h
    refine lv_aload_n hx hb dX4_races_9 rfl (lv_at hl 0 rfl) ?_
    refine va_get (D := D) (ci := 4) (v := .ref a_table) (C := RX4) (T := TX4) (N := 28) hx hb hts hinX4 hown hK hP 0 rfl rfl 10 (by decide) (hts (Cond.fieldLink RX4 26 "LadderRelaysModel" "table" "[I") (List.mem_of_getElem? (i := 1) rfl)) (fun _ h9 => h9) rfl dX4_races_10 ?_
    refine lv_iload_n hx hb dX4_races_13 rfl (lv_at hl 2 rfl) ?_
    refine lv_iconst (v := (0 : Int32)) hx hb dX4_races_14 (by decide) ?_
    obtain ⟨v36, hv36, h⟩ := zbnd h
    refine zr_iast hx hb hK hP hD hS 3 0 rfl rfl hv36 dX4_races_15 (fun H locs hP hD hS => ?_)
    have hP : va_P D vwCl [(a_this, .inr (4, [.int f_thrown, .ref a_s, .ref a_then, .ref a_past, .int f_saved, .ref a_text, .int f_length, .int f_counted, .int f_due, .ref a_met, .ref a_table, .ref a_ways, .ref a_waysOf, .ref a_into, .int f_meets, .int f_isTold, .int f_rests, .int f_leastRest, .int f_mostRest, .int f_isWheel, .int f_ended, .int f_spot, .ref a_orders, .int f_ordered, .int f_cureAmount, .int f_cureRelay, .int f_cureWhich, .long f_hash])), (a_then, .inl (cI, 88, .inl f_then)), (a_met, .inl (cI, 301, .inl f_met)), (a_table, .inl (cI, 1024, .inl v36)), (a_ways, .inl (cI, 2107, .inl f_ways)), (a_waysOf, .inl (cI, 301, .inl f_waysOf)), (a_into, .inl (cI, 301, .inl f_into))] H := hP
    have hD : va_D A [(a_this, .inr (4, [.int f_thrown, .ref a_s, .ref a_then, .ref a_past, .int f_saved, .ref a_text, .int f_length, .int f_counted, .int f_due, .ref a_met, .ref a_table, .ref a_ways, .ref a_waysOf, .ref a_into, .int f_meets, .int f_isTold, .int f_rests, .int f_leastRest, .int f_mostRest, .int f_isWheel, .int f_ended, .int f_spot, .ref a_orders, .int f_ordered, .int f_cureAmount, .int f_cureRelay, .int f_cureWhich, .long f_hash])), (a_then, .inl (cI, 88, .inl f_then)), (a_met, .inl (cI, 301, .inl f_met)), (a_table, .inl (cI, 1024, .inl v36)), (a_ways, .inl (cI, 2107, .inl f_ways)), (a_waysOf, .inl (cI, 301, .inl f_waysOf)), (a_into, .inl (cI, 301, .inl f_into))] := hD
    refine lv_iinc (v := (v33 + (1 : Int32))) (lv' := [(2, .int (v33 + (1 : Int32))), (0, .ref a_this), (1, .ref a_then)]) hx hb dX4_races_16 hl (k := 2) rfl rfl (by decide) rfl (fun ls hl => ?_)
    refine lv_goto (tgt := 2) hx hb dX4_races_19 (by decide) ?_
    exact ih2 (v33 + (1 : Int32)) v36 h _ _ hP hD hS ls (lv_sub hl [1, 2, 0] rfl)
def F_X4_isCured (fu : Nat) (f_isTold : Int32) (f_rests : Int32) (f_isWheel : Int32) : Option (Int32) := if f_isTold = (0 : Int32) then some (0 : Int32) else if f_rests = (1 : Int32) then if f_isWheel = (0 : Int32) then some (1 : Int32) else some (0 : Int32) else some (0 : Int32)
set_option maxHeartbeats 4000000 in
set_option maxRecDepth 100000 in
theorem c_X4_isCured (l : Launch) (D : va_G) (cI cC cO cJ : ClassId) (fu : Nat) (a_this a_s a_then a_past a_text a_met a_table a_ways a_waysOf a_into a_orders : Nat) (f_thrown : Int32) (f_saved : Int32) (f_length : Int32) (f_counted : Int32) (f_due : Int32) (f_meets : Int32) (f_isTold : Int32) (f_rests : Int32) (f_leastRest : Int32) (f_mostRest : Int32) (f_isWheel : Int32) (f_ended : Int32) (f_spot : Int32) (f_ordered : Int32) (f_cureAmount : Int32) (f_cureRelay : Int32) (f_cureWhich : Int32) (f_hash : Int64) (R : Int32) (h : F_X4_isCured fu f_isTold f_rests f_isWheel = some R) : Met l yX4_isCured wsX4_isCured ({ frames := 0, cells := 0, slots := 0, locals := 0 } : Room) (zPr D (ztys cI cC cO cJ) [(a_this, .inr (4, [.int f_thrown, .ref a_s, .ref a_then, .ref a_past, .int f_saved, .ref a_text, .int f_length, .int f_counted, .int f_due, .ref a_met, .ref a_table, .ref a_ways, .ref a_waysOf, .ref a_into, .int f_meets, .int f_isTold, .int f_rests, .int f_leastRest, .int f_mostRest, .int f_isWheel, .int f_ended, .int f_spot, .ref a_orders, .int f_ordered, .int f_cureAmount, .int f_cureRelay, .int f_cureWhich, .long f_hash]))] [.ref a_this]) (zQi R) 0 0 (fun _ => False) := by
  refine Met.ofW (cc := cX4_isCured) (maxL := 1) (ret := (some .boolean)) (by decide) rfl ?_
  intro p e s m args below meth c s₁ B hml hv
  obtain ⟨rfl, hP, hK⟩ := hv
  have hx := B.exec
  have hb := B.bytes
  have hr := B.returns
  have hts := atoms_spec (ws := wsX4_isCured) B.pre
  have hown : s.vm.findClass RX4 = some m.cls := findClass_of_methodNamed B.named
  have hlocks := B.notSynchronized
  have hinX4 : ∀ w ∈ wsX40, w ∈ wsX4_isCured := fun _ h => (List.mem_cons_of_mem _ (List.mem_append_right _ h))
  have hP : va_P D vwCl [(a_this, .inr (4, [.int f_thrown, .ref a_s, .ref a_then, .ref a_past, .int f_saved, .ref a_text, .int f_length, .int f_counted, .int f_due, .ref a_met, .ref a_table, .ref a_ways, .ref a_waysOf, .ref a_into, .int f_meets, .int f_isTold, .int f_rests, .int f_leastRest, .int f_mostRest, .int f_isWheel, .int f_ended, .int f_spot, .ref a_orders, .int f_ordered, .int f_cureAmount, .int f_cureRelay, .int f_cureWhich, .long f_hash]))] s.heap := hP
  have hK : va_K D vwCl (ztys cI cC cO cJ) s := hK
  have hl := lv_entry ([.ref a_this]) (n := 1) (Nat.le_of_ble_eq_true rfl)
  rw [lg_entry_eq]
  generalize (lg_sl ([.ref a_this]) ++ List.replicate (1 - (lg_sl ([.ref a_this])).length) Slot.unset).toArray = ls at hl ⊢
  have hl : lv_has ls 1 [(0, .ref a_this)] := hl
  unfold F_X4_isCured at h
  refine lv_aload_n hx hb dX4_isCured_0 rfl (lv_at hl 0 rfl) ?_
  refine va_get (D := D) (ci := 4) (v := .int f_isTold) (C := RX4) (T := TX4) (N := 28) hx hb hts hinX4 hown hK hP 0 rfl rfl 15 (by decide) (hts (Cond.fieldLink RX4 122 "LadderRelaysModel" "isTold" "Z") (List.mem_of_getElem? (i := 1) rfl)) (fun _ h9 => h9) rfl dX4_isCured_1 ?_
  refine lv_if_eq (tgt := 26) hx hb dX4_isCured_4 (by decide) (fun c1 => ?_) (fun c1 => ?_)
  · have h := zif_t c1 h
    refine lv_iconst (v := (0 : Int32)) hx hb dX4_isCured_26 (by decide) ?_
    have hR := Option.some.inj h
    subst hR
    exact W.zret (v := (0 : Int32)) (ty := .boolean) hx hb hr rfl (fun t ht hW => ⟨_, rfl, rfl, ht⟩) (fun q hq => absurd hq List.not_mem_nil) dX4_isCured_27
  · have h := zif_f c1 h
    refine lv_aload_n hx hb dX4_isCured_7 rfl (lv_at hl 0 rfl) ?_
    refine va_get (D := D) (ci := 4) (v := .int f_rests) (C := RX4) (T := TX4) (N := 28) hx hb hts hinX4 hown hK hP 0 rfl rfl 16 (by decide) (hts (Cond.fieldLink RX4 106 "LadderRelaysModel" "rests" "I") (List.mem_of_getElem? (i := 2) rfl)) (fun _ h9 => h9) rfl dX4_isCured_8 ?_
    refine lv_iconst (v := (1 : Int32)) hx hb dX4_isCured_11 (by decide) ?_
    refine lv_icmp_ne (tgt := 26) hx hb dX4_isCured_12 (by decide) (fun c2 => ?_) (fun c2 => ?_)
    · have h := zif_f c2 h
      refine lv_iconst (v := (0 : Int32)) hx hb dX4_isCured_26 (by decide) ?_
      have hR := Option.some.inj h
      subst hR
      exact W.zret (v := (0 : Int32)) (ty := .boolean) hx hb hr rfl (fun t ht hW => ⟨_, rfl, rfl, ht⟩) (fun q hq => absurd hq List.not_mem_nil) dX4_isCured_27
    · have h := zif_t c2 h
      refine lv_aload_n hx hb dX4_isCured_15 rfl (lv_at hl 0 rfl) ?_
      refine va_get (D := D) (ci := 4) (v := .int f_isWheel) (C := RX4) (T := TX4) (N := 28) hx hb hts hinX4 hown hK hP 0 rfl rfl 19 (by decide) (hts (Cond.fieldLink RX4 134 "LadderRelaysModel" "isWheel" "Z") (List.mem_of_getElem? (i := 3) rfl)) (fun _ h9 => h9) rfl dX4_isCured_16 ?_
      refine lv_if_ne (tgt := 26) hx hb dX4_isCured_19 (by decide) (fun c3 => ?_) (fun c3 => ?_)
      · have h := zif_f c3 h
        refine lv_iconst (v := (0 : Int32)) hx hb dX4_isCured_26 (by decide) ?_
        have hR := Option.some.inj h
        subst hR
        exact W.zret (v := (0 : Int32)) (ty := .boolean) hx hb hr rfl (fun t ht hW => ⟨_, rfl, rfl, ht⟩) (fun q hq => absurd hq List.not_mem_nil) dX4_isCured_27
      · have h := zif_t c3 h
        refine lv_iconst (v := (1 : Int32)) hx hb dX4_isCured_22 (by decide) ?_
        refine lv_goto (tgt := 27) hx hb dX4_isCured_23 (by decide) ?_
        have hR := Option.some.inj h
        subst hR
        exact W.zret (v := (1 : Int32)) (ty := .boolean) hx hb hr rfl (fun t ht hW => ⟨_, rfl, rfl, ht⟩) (fun q hq => absurd hq List.not_mem_nil) dX4_isCured_27
