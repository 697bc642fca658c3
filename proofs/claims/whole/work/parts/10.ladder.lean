def F_X0_isIn (fu : Nat) (p0 : Int32) (p1 : Int32) : Option (Int32) := if ((p0 >>> (p1 &&& (31 : Int32))) &&& (1 : Int32)) = (1 : Int32) then some (1 : Int32) else some (0 : Int32)
set_option maxHeartbeats 4000000 in
set_option maxRecDepth 100000 in
theorem c_X0_isIn (l : Launch) (D : va_G) (cI cC cO cJ : ClassId) (fu : Nat) (p0 : Int32) (p1 : Int32) (R : Int32) (h : F_X0_isIn fu p0 p1 = some R) : Met l yX0_isIn wsX0_isIn ({ frames := 0, cells := 0, slots := 0, locals := 0 } : Room) (zPr D (ztys cI cC cO cJ) [] [.int p0, .int p1]) (zQi R) 0 0 (fun _ => False) := by
  refine Met.ofW (cc := cX0_isIn) (maxL := 2) (ret := (some .boolean)) (by decide) rfl ?_
  intro p e s m args below meth c s₁ B hml hv
  obtain ⟨rfl, hP, hK⟩ := hv
  have hx := B.exec
  have hb := B.bytes
  have hr := B.returns
  have hts := atoms_spec (ws := wsX0_isIn) B.pre
  have hown : s.vm.findClass RX0 = some m.cls := findClass_of_methodNamed B.named
  have hlocks := B.notSynchronized
  have hP : va_P D vwCl [] s.heap := hP
  have hK : va_K D vwCl (ztys cI cC cO cJ) s := hK
  have hl := lv_entry ([.int p0, .int p1]) (n := 2) (Nat.le_of_ble_eq_true rfl)
  rw [lg_entry_eq]
  generalize (lg_sl ([.int p0, .int p1]) ++ List.replicate (2 - (lg_sl ([.int p0, .int p1])).length) Slot.unset).toArray = ls at hl ⊢
  have hl : lv_has ls 2 [(0, .int p0), (1, .int p1)] := hl
  unfold F_X0_isIn at h
  refine lv_iload_n hx hb dX0_isIn_0 rfl (lv_at hl 0 rfl) ?_
  refine lv_iload_n hx hb dX0_isIn_1 rfl (lv_at hl 1 rfl) ?_
  refine lv_ishr hx hb dX0_isIn_2 ?_
  refine lv_iconst (v := (1 : Int32)) hx hb dX0_isIn_3 (by decide) ?_
  refine lv_iand hx hb dX0_isIn_4 ?_
  refine lv_iconst (v := (1 : Int32)) hx hb dX0_isIn_5 (by decide) ?_
  refine lv_icmp_ne (tgt := 13) hx hb dX0_isIn_6 (by decide) (fun c1 => ?_) (fun c1 => ?_)
  · have h := zif_f c1 h
    refine lv_iconst (v := (0 : Int32)) hx hb dX0_isIn_13 (by decide) ?_
    have hR := Option.some.inj h
    subst hR
    exact W.zret (v := (0 : Int32)) (ty := .boolean) hx hb hr rfl (fun t ht hW => ⟨_, rfl, rfl, ht⟩) (fun q hq => absurd hq List.not_mem_nil) dX0_isIn_14
  · have h := zif_t c1 h
    refine lv_iconst (v := (1 : Int32)) hx hb dX0_isIn_9 (by decide) ?_
    refine lv_goto (tgt := 14) hx hb dX0_isIn_10 (by decide) ?_
    have hR := Option.some.inj h
    subst hR
    exact W.zret (v := (1 : Int32)) (ty := .boolean) hx hb hr rfl (fun t ht hW => ⟨_, rfl, rfl, ht⟩) (fun q hq => absurd hq List.not_mem_nil) dX0_isIn_14
def F_X0_placeOf (fu : Nat) (p0 : Int32) (p1 : Int32) : Option (Int32) := some ((p0 * (4 : Int32)) + p1)
set_option maxHeartbeats 4000000 in
set_option maxRecDepth 100000 in
theorem c_X0_placeOf (l : Launch) (D : va_G) (cI cC cO cJ : ClassId) (fu : Nat) (p0 : Int32) (p1 : Int32) (R : Int32) (h : F_X0_placeOf fu p0 p1 = some R) : Met l yX0_placeOf wsX0_placeOf ({ frames := 0, cells := 0, slots := 0, locals := 0 } : Room) (zPr D (ztys cI cC cO cJ) [] [.int p0, .int p1]) (zQi R) 0 0 (fun _ => False) := by
  refine Met.ofW (cc := cX0_placeOf) (maxL := 2) (ret := (some .int)) (by decide) rfl ?_
  intro p e s m args below meth c s₁ B hml hv
  obtain ⟨rfl, hP, hK⟩ := hv
  have hx := B.exec
  have hb := B.bytes
  have hr := B.returns
  have hts := atoms_spec (ws := wsX0_placeOf) B.pre
  have hown : s.vm.findClass RX0 = some m.cls := findClass_of_methodNamed B.named
  have hlocks := B.notSynchronized
  have hP : va_P D vwCl [] s.heap := hP
  have hK : va_K D vwCl (ztys cI cC cO cJ) s := hK
  have hl := lv_entry ([.int p0, .int p1]) (n := 2) (Nat.le_of_ble_eq_true rfl)
  rw [lg_entry_eq]
  generalize (lg_sl ([.int p0, .int p1]) ++ List.replicate (2 - (lg_sl ([.int p0, .int p1])).length) Slot.unset).toArray = ls at hl ⊢
  have hl : lv_has ls 2 [(0, .int p0), (1, .int p1)] := hl
  unfold F_X0_placeOf at h
  refine lv_iload_n hx hb dX0_placeOf_0 rfl (lv_at hl 0 rfl) ?_
  refine lv_iconst (v := (4 : Int32)) hx hb dX0_placeOf_1 (by decide) ?_
  refine lv_imul hx hb dX0_placeOf_2 ?_
  refine lv_iload_n hx hb dX0_placeOf_3 rfl (lv_at hl 1 rfl) ?_
  refine lv_iadd hx hb dX0_placeOf_4 ?_
  have hR := Option.some.inj h
  subst hR
  exact W.iret (v := ((p0 * (4 : Int32)) + p1)) hx hb hr (fun t ht hW => ⟨_, rfl, rfl, ht⟩) (fun q hq => absurd hq List.not_mem_nil) dX0_placeOf_5
def F_X0_upIn (fu : Nat) (p0 : Int32) : Option (Int32) := some (p0 &&& (63 : Int32))
set_option maxHeartbeats 4000000 in
set_option maxRecDepth 100000 in
theorem c_X0_upIn (l : Launch) (D : va_G) (cI cC cO cJ : ClassId) (fu : Nat) (p0 : Int32) (R : Int32) (h : F_X0_upIn fu p0 = some R) : Met l yX0_upIn wsX0_upIn ({ frames := 0, cells := 0, slots := 0, locals := 0 } : Room) (zPr D (ztys cI cC cO cJ) [] [.int p0]) (zQi R) 0 0 (fun _ => False) := by
  refine Met.ofW (cc := cX0_upIn) (maxL := 1) (ret := (some .int)) (by decide) rfl ?_
  intro p e s m args below meth c s₁ B hml hv
  obtain ⟨rfl, hP, hK⟩ := hv
  have hx := B.exec
  have hb := B.bytes
  have hr := B.returns
  have hts := atoms_spec (ws := wsX0_upIn) B.pre
  have hown : s.vm.findClass RX0 = some m.cls := findClass_of_methodNamed B.named
  have hlocks := B.notSynchronized
  have hP : va_P D vwCl [] s.heap := hP
  have hK : va_K D vwCl (ztys cI cC cO cJ) s := hK
  have hl := lv_entry ([.int p0]) (n := 1) (Nat.le_of_ble_eq_true rfl)
  rw [lg_entry_eq]
  generalize (lg_sl ([.int p0]) ++ List.replicate (1 - (lg_sl ([.int p0])).length) Slot.unset).toArray = ls at hl ⊢
  have hl : lv_has ls 1 [(0, .int p0)] := hl
  unfold F_X0_upIn at h
  refine lv_iload_n hx hb dX0_upIn_0 rfl (lv_at hl 0 rfl) ?_
  refine lv_bipush (v := (63 : Int32)) hx hb dX0_upIn_1 (by decide) ?_
  refine lv_iand hx hb dX0_upIn_3 ?_
  have hR := Option.some.inj h
  subst hR
  exact W.iret (v := (p0 &&& (63 : Int32))) hx hb hr (fun t ht hW => ⟨_, rfl, rfl, ht⟩) (fun q hq => absurd hq List.not_mem_nil) dX0_upIn_4
def F_X0_countIn (fu : Nat) (p0 : Int32) (p1 : Int32) : Option (Int32) := some ((p0 >>> (((6 : Int32) + ((4 : Int32) * p1)) &&& (31 : Int32))) &&& (15 : Int32))
set_option maxHeartbeats 4000000 in
set_option maxRecDepth 100000 in
theorem c_X0_countIn (l : Launch) (D : va_G) (cI cC cO cJ : ClassId) (fu : Nat) (p0 : Int32) (p1 : Int32) (R : Int32) (h : F_X0_countIn fu p0 p1 = some R) : Met l yX0_countIn wsX0_countIn ({ frames := 0, cells := 0, slots := 0, locals := 0 } : Room) (zPr D (ztys cI cC cO cJ) [] [.int p0, .int p1]) (zQi R) 0 0 (fun _ => False) := by
  refine Met.ofW (cc := cX0_countIn) (maxL := 2) (ret := (some .int)) (by decide) rfl ?_
  intro p e s m args below meth c s₁ B hml hv
  obtain ⟨rfl, hP, hK⟩ := hv
  have hx := B.exec
  have hb := B.bytes
  have hr := B.returns
  have hts := atoms_spec (ws := wsX0_countIn) B.pre
  have hown : s.vm.findClass RX0 = some m.cls := findClass_of_methodNamed B.named
  have hlocks := B.notSynchronized
  have hP : va_P D vwCl [] s.heap := hP
  have hK : va_K D vwCl (ztys cI cC cO cJ) s := hK
  have hl := lv_entry ([.int p0, .int p1]) (n := 2) (Nat.le_of_ble_eq_true rfl)
  rw [lg_entry_eq]
  generalize (lg_sl ([.int p0, .int p1]) ++ List.replicate (2 - (lg_sl ([.int p0, .int p1])).length) Slot.unset).toArray = ls at hl ⊢
  have hl : lv_has ls 2 [(0, .int p0), (1, .int p1)] := hl
  unfold F_X0_countIn at h
  refine lv_iload_n hx hb dX0_countIn_0 rfl (lv_at hl 0 rfl) ?_
  refine lv_bipush (v := (6 : Int32)) hx hb dX0_countIn_1 (by decide) ?_
  refine lv_iconst (v := (4 : Int32)) hx hb dX0_countIn_3 (by decide) ?_
  refine lv_iload_n hx hb dX0_countIn_4 rfl (lv_at hl 1 rfl) ?_
  refine lv_imul hx hb dX0_countIn_5 ?_
  refine lv_iadd hx hb dX0_countIn_6 ?_
  refine lv_ishr hx hb dX0_countIn_7 ?_
  refine lv_bipush (v := (15 : Int32)) hx hb dX0_countIn_8 (by decide) ?_
  refine lv_iand hx hb dX0_countIn_10 ?_
  have hR := Option.some.inj h
  subst hR
  exact W.iret (v := ((p0 >>> (((6 : Int32) + ((4 : Int32) * p1)) &&& (31 : Int32))) &&& (15 : Int32))) hx hb hr (fun t ht hW => ⟨_, rfl, rfl, ht⟩) (fun q hq => absurd hq List.not_mem_nil) dX0_countIn_11
def F_X0_withCount (fu : Nat) (p0 : Int32) (p1 : Int32) (p2 : Int32) : Option (Int32) := some ((p0 &&& (((15 : Int32) <<< (((6 : Int32) + ((4 : Int32) * p1)) &&& (31 : Int32))) ^^^ (-1 : Int32))) ||| (p2 <<< (((6 : Int32) + ((4 : Int32) * p1)) &&& (31 : Int32))))
set_option maxHeartbeats 4000000 in
set_option maxRecDepth 100000 in
theorem c_X0_withCount (l : Launch) (D : va_G) (cI cC cO cJ : ClassId) (fu : Nat) (p0 : Int32) (p1 : Int32) (p2 : Int32) (R : Int32) (h : F_X0_withCount fu p0 p1 p2 = some R) : Met l yX0_withCount wsX0_withCount ({ frames := 0, cells := 0, slots := 0, locals := 0 } : Room) (zPr D (ztys cI cC cO cJ) [] [.int p0, .int p1, .int p2]) (zQi R) 0 0 (fun _ => False) := by
  refine Met.ofW (cc := cX0_withCount) (maxL := 4) (ret := (some .int)) (by decide) rfl ?_
  intro p e s m args below meth c s₁ B hml hv
  obtain ⟨rfl, hP, hK⟩ := hv
  have hx := B.exec
  have hb := B.bytes
  have hr := B.returns
  have hts := atoms_spec (ws := wsX0_withCount) B.pre
  have hown : s.vm.findClass RX0 = some m.cls := findClass_of_methodNamed B.named
  have hlocks := B.notSynchronized
  have hP : va_P D vwCl [] s.heap := hP
  have hK : va_K D vwCl (ztys cI cC cO cJ) s := hK
  have hl := lv_entry ([.int p0, .int p1, .int p2]) (n := 4) (Nat.le_of_ble_eq_true rfl)
  rw [lg_entry_eq]
  generalize (lg_sl ([.int p0, .int p1, .int p2]) ++ List.replicate (4 - (lg_sl ([.int p0, .int p1, .int p2])).length) Slot.unset).toArray = ls at hl ⊢
  have hl : lv_has ls 4 [(0, .int p0), (1, .int p1), (2, .int p2)] := hl
  unfold F_X0_withCount at h
  refine lv_bipush (v := (6 : Int32)) hx hb dX0_withCount_0 (by decide) ?_
  refine lv_iconst (v := (4 : Int32)) hx hb dX0_withCount_2 (by decide) ?_
  refine lv_iload_n hx hb dX0_withCount_3 rfl (lv_at hl 1 rfl) ?_
  refine lv_imul hx hb dX0_withCount_4 ?_
  refine lv_iadd hx hb dX0_withCount_5 ?_
  refine lv_istore_n (lv' := [(3, .int ((6 : Int32) + ((4 : Int32) * p1))), (0, .int p0), (1, .int p1), (2, .int p2)]) hx hb dX0_withCount_6 rfl hl (by decide) rfl (fun ls hl => ?_)
  refine lv_iload_n hx hb dX0_withCount_7 rfl (lv_at hl 1 rfl) ?_
  refine lv_bipush (v := (15 : Int32)) hx hb dX0_withCount_8 (by decide) ?_
  refine lv_iload_n hx hb dX0_withCount_10 rfl (lv_at hl 0 rfl) ?_
  refine lv_ishl hx hb dX0_withCount_11 ?_
  refine lv_iconst (v := (-1 : Int32)) hx hb dX0_withCount_12 (by decide) ?_
  refine lv_ixor hx hb dX0_withCount_13 ?_
  refine lv_iand hx hb dX0_withCount_14 ?_
  refine lv_iload_n hx hb dX0_withCount_15 rfl (lv_at hl 3 rfl) ?_
  refine lv_iload_n hx hb dX0_withCount_16 rfl (lv_at hl 0 rfl) ?_
  refine lv_ishl hx hb dX0_withCount_17 ?_
  refine lv_ior hx hb dX0_withCount_18 ?_
  have hR := Option.some.inj h
  subst hR
  exact W.iret (v := ((p0 &&& (((15 : Int32) <<< (((6 : Int32) + ((4 : Int32) * p1)) &&& (31 : Int32))) ^^^ (-1 : Int32))) ||| (p2 <<< (((6 : Int32) + ((4 : Int32) * p1)) &&& (31 : Int32))))) hx hb hr (fun t ht hW => ⟨_, rfl, rfl, ht⟩) (fun q hq => absurd hq List.not_mem_nil) dX0_withCount_19
def F_X0_hasRelay (fu : Nat) (f_relays : Int32) (p0 : Int32) : Option (Int32) := if p0 < (0 : Int32) then some (0 : Int32) else if f_relays ≤ p0 then some (0 : Int32) else some (1 : Int32)
set_option maxHeartbeats 4000000 in
set_option maxRecDepth 100000 in
theorem c_X0_hasRelay (l : Launch) (D : va_G) (cI cC cO cJ : ClassId) (fu : Nat) (a_this a_branches a_closing a_opening a_pull a_drop a_changed : Nat) (f_relays : Int32) (f_inputs : Int32) (f_motion : Int32) (f_ticks : Int32) (f_changes : Int32) (p0 : Int32) (R : Int32) (h : F_X0_hasRelay fu f_relays p0 = some R) : Met l yX0_hasRelay wsX0_hasRelay ({ frames := 0, cells := 0, slots := 0, locals := 0 } : Room) (zPr D (ztys cI cC cO cJ) [(a_this, .inr (0, [.int f_relays, .ref a_branches, .ref a_closing, .ref a_opening, .ref a_pull, .ref a_drop, .ref a_changed, .int f_inputs, .int f_motion, .int f_ticks, .int f_changes]))] [.ref a_this, .int p0]) (zQi R) 0 0 (fun _ => False) := by
  refine Met.ofW (cc := cX0_hasRelay) (maxL := 2) (ret := (some .boolean)) (by decide) rfl ?_
  intro p e s m args below meth c s₁ B hml hv
  obtain ⟨rfl, hP, hK⟩ := hv
  have hx := B.exec
  have hb := B.bytes
  have hr := B.returns
  have hts := atoms_spec (ws := wsX0_hasRelay) B.pre
  have hown : s.vm.findClass RX0 = some m.cls := findClass_of_methodNamed B.named
  have hlocks := B.notSynchronized
  have hinX0 : ∀ w ∈ wsX00, w ∈ wsX0_hasRelay := fun _ h => (List.mem_cons_of_mem _ (List.mem_append_right _ h))
  have hP : va_P D vwCl [(a_this, .inr (0, [.int f_relays, .ref a_branches, .ref a_closing, .ref a_opening, .ref a_pull, .ref a_drop, .ref a_changed, .int f_inputs, .int f_motion, .int f_ticks, .int f_changes]))] s.heap := hP
  have hK : va_K D vwCl (ztys cI cC cO cJ) s := hK
  have hl := lv_entry ([.ref a_this, .int p0]) (n := 2) (Nat.le_of_ble_eq_true rfl)
  rw [lg_entry_eq]
  generalize (lg_sl ([.ref a_this, .int p0]) ++ List.replicate (2 - (lg_sl ([.ref a_this, .int p0])).length) Slot.unset).toArray = ls at hl ⊢
  have hl : lv_has ls 2 [(0, .ref a_this), (1, .int p0)] := hl
  unfold F_X0_hasRelay at h
  refine lv_iload_n hx hb dX0_hasRelay_0 rfl (lv_at hl 1 rfl) ?_
  refine lv_if_lt (tgt := 16) hx hb dX0_hasRelay_1 (by decide) (fun c1 => ?_) (fun c1 => ?_)
  · have h := zif_t c1 h
    refine lv_iconst (v := (0 : Int32)) hx hb dX0_hasRelay_16 (by decide) ?_
    have hR := Option.some.inj h
    subst hR
    exact W.zret (v := (0 : Int32)) (ty := .boolean) hx hb hr rfl (fun t ht hW => ⟨_, rfl, rfl, ht⟩) (fun q hq => absurd hq List.not_mem_nil) dX0_hasRelay_17
  · have h := zif_f c1 h
    refine lv_iload_n hx hb dX0_hasRelay_4 rfl (lv_at hl 1 rfl) ?_
    refine lv_aload_n hx hb dX0_hasRelay_5 rfl (lv_at hl 0 rfl) ?_
    refine va_get (D := D) (ci := 0) (v := .int f_relays) (C := RX0) (T := TX0) (N := 11) hx hb hts hinX0 hown hK hP 0 rfl rfl 0 (by decide) (hts (Cond.fieldLink RX0 30 "LadderRelays$Ladder" "relays" "I") (List.mem_of_getElem? (i := 1) rfl)) (fun _ h9 => h9) rfl dX0_hasRelay_6 ?_
    refine lv_icmp_ge (tgt := 16) hx hb dX0_hasRelay_9 (by decide) (fun c2 => ?_) (fun c2 => ?_)
    · have h := zif_t c2 h
      refine lv_iconst (v := (0 : Int32)) hx hb dX0_hasRelay_16 (by decide) ?_
      have hR := Option.some.inj h
      subst hR
      exact W.zret (v := (0 : Int32)) (ty := .boolean) hx hb hr rfl (fun t ht hW => ⟨_, rfl, rfl, ht⟩) (fun q hq => absurd hq List.not_mem_nil) dX0_hasRelay_17
    · have h := zif_f c2 h
      refine lv_iconst (v := (1 : Int32)) hx hb dX0_hasRelay_12 (by decide) ?_
      refine lv_goto (tgt := 17) hx hb dX0_hasRelay_13 (by decide) ?_
      have hR := Option.some.inj h
      subst hR
      exact W.zret (v := (1 : Int32)) (ty := .boolean) hx hb hr rfl (fun t ht hW => ⟨_, rfl, rfl, ht⟩) (fun q hq => absurd hq List.not_mem_nil) dX0_hasRelay_17
def F_X0_hasContacts (fu : Nat) (f_relays : Int32) (p0 : Int32) : Option (Int32) := if p0 < (0 : Int32) then some (0 : Int32) else if ((1 : Int32) <<< (((4 : Int32) + f_relays) &&& (31 : Int32))) ≤ p0 then some (0 : Int32) else some (1 : Int32)
set_option maxHeartbeats 4000000 in
set_option maxRecDepth 100000 in
theorem c_X0_hasContacts (l : Launch) (D : va_G) (cI cC cO cJ : ClassId) (fu : Nat) (a_this a_branches a_closing a_opening a_pull a_drop a_changed : Nat) (f_relays : Int32) (f_inputs : Int32) (f_motion : Int32) (f_ticks : Int32) (f_changes : Int32) (p0 : Int32) (R : Int32) (h : F_X0_hasContacts fu f_relays p0 = some R) : Met l yX0_hasContacts wsX0_hasContacts ({ frames := 0, cells := 0, slots := 0, locals := 0 } : Room) (zPr D (ztys cI cC cO cJ) [(a_this, .inr (0, [.int f_relays, .ref a_branches, .ref a_closing, .ref a_opening, .ref a_pull, .ref a_drop, .ref a_changed, .int f_inputs, .int f_motion, .int f_ticks, .int f_changes]))] [.ref a_this, .int p0]) (zQi R) 0 0 (fun _ => False) := by
  refine Met.ofW (cc := cX0_hasContacts) (maxL := 2) (ret := (some .boolean)) (by decide) rfl ?_
  intro p e s m args below meth c s₁ B hml hv
  obtain ⟨rfl, hP, hK⟩ := hv
  have hx := B.exec
  have hb := B.bytes
  have hr := B.returns
  have hts := atoms_spec (ws := wsX0_hasContacts) B.pre
  have hown : s.vm.findClass RX0 = some m.cls := findClass_of_methodNamed B.named
  have hlocks := B.notSynchronized
  have hinX0 : ∀ w ∈ wsX00, w ∈ wsX0_hasContacts := fun _ h => (List.mem_cons_of_mem _ (List.mem_append_right _ h))
  have hP : va_P D vwCl [(a_this, .inr (0, [.int f_relays, .ref a_branches, .ref a_closing, .ref a_opening, .ref a_pull, .ref a_drop, .ref a_changed, .int f_inputs, .int f_motion, .int f_ticks, .int f_changes]))] s.heap := hP
  have hK : va_K D vwCl (ztys cI cC cO cJ) s := hK
  have hl := lv_entry ([.ref a_this, .int p0]) (n := 2) (Nat.le_of_ble_eq_true rfl)
  rw [lg_entry_eq]
  generalize (lg_sl ([.ref a_this, .int p0]) ++ List.replicate (2 - (lg_sl ([.ref a_this, .int p0])).length) Slot.unset).toArray = ls at hl ⊢
  have hl : lv_has ls 2 [(0, .ref a_this), (1, .int p0)] := hl
  unfold F_X0_hasContacts at h
  refine lv_iload_n hx hb dX0_hasContacts_0 rfl (lv_at hl 1 rfl) ?_
  refine lv_if_lt (tgt := 20) hx hb dX0_hasContacts_1 (by decide) (fun c1 => ?_) (fun c1 => ?_)
  · have h := zif_t c1 h
    refine lv_iconst (v := (0 : Int32)) hx hb dX0_hasContacts_20 (by decide) ?_
    have hR := Option.some.inj h
    subst hR
    exact W.zret (v := (0 : Int32)) (ty := .boolean) hx hb hr rfl (fun t ht hW => ⟨_, rfl, rfl, ht⟩) (fun q hq => absurd hq List.not_mem_nil) dX0_hasContacts_21
  · have h := zif_f c1 h
    refine lv_iload_n hx hb dX0_hasContacts_4 rfl (lv_at hl 1 rfl) ?_
    refine lv_iconst (v := (1 : Int32)) hx hb dX0_hasContacts_5 (by decide) ?_
    refine lv_iconst (v := (4 : Int32)) hx hb dX0_hasContacts_6 (by decide) ?_
    refine lv_aload_n hx hb dX0_hasContacts_7 rfl (lv_at hl 0 rfl) ?_
    refine va_get (D := D) (ci := 0) (v := .int f_relays) (C := RX0) (T := TX0) (N := 11) hx hb hts hinX0 hown hK hP 0 rfl rfl 0 (by decide) (hts (Cond.fieldLink RX0 30 "LadderRelays$Ladder" "relays" "I") (List.mem_of_getElem? (i := 1) rfl)) (fun _ h9 => h9) rfl dX0_hasContacts_8 ?_
    refine lv_iadd hx hb dX0_hasContacts_11 ?_
    refine lv_ishl hx hb dX0_hasContacts_12 ?_
    refine lv_icmp_ge (tgt := 20) hx hb dX0_hasContacts_13 (by decide) (fun c2 => ?_) (fun c2 => ?_)
    · have h := zif_t c2 h
      refine lv_iconst (v := (0 : Int32)) hx hb dX0_hasContacts_20 (by decide) ?_
      have hR := Option.some.inj h
      subst hR
      exact W.zret (v := (0 : Int32)) (ty := .boolean) hx hb hr rfl (fun t ht hW => ⟨_, rfl, rfl, ht⟩) (fun q hq => absurd hq List.not_mem_nil) dX0_hasContacts_21
    · have h := zif_f c2 h
      refine lv_iconst (v := (1 : Int32)) hx hb dX0_hasContacts_16 (by decide) ?_
      refine lv_goto (tgt := 21) hx hb dX0_hasContacts_17 (by decide) ?_
      have hR := Option.some.inj h
      subst hR
      exact W.zret (v := (1 : Int32)) (ty := .boolean) hx hb hr rfl (fun t ht hW => ⟨_, rfl, rfl, ht⟩) (fun q hq => absurd hq List.not_mem_nil) dX0_hasContacts_21
def F_J6_bitCount_0f7a4 (fu : Nat) (p0 : Int32) : Option (Int32) := (some (p0 - (((p0.toUInt32 >>> ((1 : Int32).toUInt32 &&& Int32.toUInt32 31)).toInt32) &&& (1431655765 : Int32)))).bind fun v1 => (some ((v1 &&& (858993459 : Int32)) + (((v1.toUInt32 >>> ((2 : Int32).toUInt32 &&& Int32.toUInt32 31)).toInt32) &&& (858993459 : Int32)))).bind fun v2 => (some ((v2 + ((v2.toUInt32 >>> ((4 : Int32).toUInt32 &&& Int32.toUInt32 31)).toInt32)) &&& (252645135 : Int32))).bind fun v3 => (some (v3 + ((v3.toUInt32 >>> ((8 : Int32).toUInt32 &&& Int32.toUInt32 31)).toInt32))).bind fun v4 => (some (v4 + ((v4.toUInt32 >>> ((16 : Int32).toUInt32 &&& Int32.toUInt32 31)).toInt32))).bind fun v5 => some (v5 &&& (63 : Int32))
set_option maxHeartbeats 4000000 in
set_option maxRecDepth 100000 in
theorem c_J6_bitCount_0f7a4 (l : Launch) (D : va_G) (cI cC cO cJ : ClassId) (fu : Nat) (p0 : Int32) (R : Int32) (h : F_J6_bitCount_0f7a4 fu p0 = some R) : Met l yJ6_bitCount_0f7a4 wsJ6_bitCount_0f7a4 ({ frames := 0, cells := 0, slots := 0, locals := 0 } : Room) (zPr D (ztys cI cC cO cJ) [] [.int p0]) (zQi R) 0 0 (fun _ => False) := by
  refine Met.ofW (cc := cJ6_bitCount_0f7a4) (maxL := 1) (ret := (some .int)) (by decide) rfl ?_
  intro p e s m args below meth c s₁ B hml hv
  obtain ⟨rfl, hP, hK⟩ := hv
  have hx := B.exec
  have hb := B.bytes
  have hr := B.returns
  have hts := atoms_spec (ws := wsJ6_bitCount_0f7a4) B.pre
  have hown : s.vm.findClass RJ6 = some m.cls := findClass_of_methodNamed B.named
  have hlocks := B.notSynchronized
  have hP : va_P D vwCl [] s.heap := hP
  have hK : va_K D vwCl (ztys cI cC cO cJ) s := hK
  have hl := lv_entry ([.int p0]) (n := 1) (Nat.le_of_ble_eq_true rfl)
  rw [lg_entry_eq]
  generalize (lg_sl ([.int p0]) ++ List.replicate (1 - (lg_sl ([.int p0])).length) Slot.unset).toArray = ls at hl ⊢
  have hl : lv_has ls 1 [(0, .int p0)] := hl
  unfold F_J6_bitCount_0f7a4 at h
  refine lv_iload_n hx hb dJ6_bitCount_0f7a4_0 rfl (lv_at hl 0 rfl) ?_
  refine lv_iload_n hx hb dJ6_bitCount_0f7a4_1 rfl (lv_at hl 0 rfl) ?_
  refine lv_iconst (v := (1 : Int32)) hx hb dJ6_bitCount_0f7a4_2 (by decide) ?_
  refine lv_iushr (v := (p0.toUInt32 >>> ((1 : Int32).toUInt32 &&& Int32.toUInt32 31)).toInt32) hx hb dJ6_bitCount_0f7a4_3 rfl ?_
  refine lv_ldcw hx hb (v := (1431655765 : Int32)) hown (hts (Cond.constant RJ6 265 (1431655765)) (List.mem_of_getElem? (i := 1) rfl)) dJ6_bitCount_0f7a4_4 ?_
  refine lv_iand hx hb dJ6_bitCount_0f7a4_7 ?_
  refine lv_isub hx hb dJ6_bitCount_0f7a4_8 ?_
  obtain ⟨v1, hv1, h⟩ := zbnd h
  rw [Option.some.inj hv1]
  refine lv_istore_n (lv' := [(0, .int v1)]) hx hb dJ6_bitCount_0f7a4_9 rfl hl (by decide) rfl (fun ls hl => ?_)
  refine lv_iload_n hx hb dJ6_bitCount_0f7a4_10 rfl (lv_at hl 0 rfl) ?_
  refine lv_ldcw hx hb (v := (858993459 : Int32)) hown (hts (Cond.constant RJ6 266 (858993459)) (List.mem_of_getElem? (i := 2) rfl)) dJ6_bitCount_0f7a4_11 ?_
  refine lv_iand hx hb dJ6_bitCount_0f7a4_14 ?_
  refine lv_iload_n hx hb dJ6_bitCount_0f7a4_15 rfl (lv_at hl 0 rfl) ?_
  refine lv_iconst (v := (2 : Int32)) hx hb dJ6_bitCount_0f7a4_16 (by decide) ?_
  refine lv_iushr (v := (v1.toUInt32 >>> ((2 : Int32).toUInt32 &&& Int32.toUInt32 31)).toInt32) hx hb dJ6_bitCount_0f7a4_17 rfl ?_
  refine lv_ldcw hx hb (v := (858993459 : Int32)) hown (hts (Cond.constant RJ6 266 (858993459)) (List.mem_of_getElem? (i := 2) rfl)) dJ6_bitCount_0f7a4_18 ?_
  refine lv_iand hx hb dJ6_bitCount_0f7a4_21 ?_
  refine lv_iadd hx hb dJ6_bitCount_0f7a4_22 ?_
  obtain ⟨v2, hv2, h⟩ := zbnd h
  rw [Option.some.inj hv2]
  refine lv_istore_n (lv' := [(0, .int v2)]) hx hb dJ6_bitCount_0f7a4_23 rfl hl (by decide) rfl (fun ls hl => ?_)
  refine lv_iload_n hx hb dJ6_bitCount_0f7a4_24 rfl (lv_at hl 0 rfl) ?_
  refine lv_iload_n hx hb dJ6_bitCount_0f7a4_25 rfl (lv_at hl 0 rfl) ?_
  refine lv_iconst (v := (4 : Int32)) hx hb dJ6_bitCount_0f7a4_26 (by decide) ?_
  refine lv_iushr (v := (v2.toUInt32 >>> ((4 : Int32).toUInt32 &&& Int32.toUInt32 31)).toInt32) hx hb dJ6_bitCount_0f7a4_27 rfl ?_
  refine lv_iadd hx hb dJ6_bitCount_0f7a4_28 ?_
  refine lv_ldcw hx hb (v := (252645135 : Int32)) hown (hts (Cond.constant RJ6 267 (252645135)) (List.mem_of_getElem? (i := 3) rfl)) dJ6_bitCount_0f7a4_29 ?_
  refine lv_iand hx hb dJ6_bitCount_0f7a4_32 ?_
  obtain ⟨v3, hv3, h⟩ := zbnd h
  rw [Option.some.inj hv3]
  refine lv_istore_n (lv' := [(0, .int v3)]) hx hb dJ6_bitCount_0f7a4_33 rfl hl (by decide) rfl (fun ls hl => ?_)
  refine lv_iload_n hx hb dJ6_bitCount_0f7a4_34 rfl (lv_at hl 0 rfl) ?_
  refine lv_iload_n hx hb dJ6_bitCount_0f7a4_35 rfl (lv_at hl 0 rfl) ?_
  refine lv_bipush (v := (8 : Int32)) hx hb dJ6_bitCount_0f7a4_36 (by decide) ?_
  refine lv_iushr (v := (v3.toUInt32 >>> ((8 : Int32).toUInt32 &&& Int32.toUInt32 31)).toInt32) hx hb dJ6_bitCount_0f7a4_38 rfl ?_
  refine lv_iadd hx hb dJ6_bitCount_0f7a4_39 ?_
  obtain ⟨v4, hv4, h⟩ := zbnd h
  rw [Option.some.inj hv4]
  refine lv_istore_n (lv' := [(0, .int v4)]) hx hb dJ6_bitCount_0f7a4_40 rfl hl (by decide) rfl (fun ls hl => ?_)
  refine lv_iload_n hx hb dJ6_bitCount_0f7a4_41 rfl (lv_at hl 0 rfl) ?_
  refine lv_iload_n hx hb dJ6_bitCount_0f7a4_42 rfl (lv_at hl 0 rfl) ?_
  refine lv_bipush (v := (16 : Int32)) hx hb dJ6_bitCount_0f7a4_43 (by decide) ?_
  refine lv_iushr (v := (v4.toUInt32 >>> ((16 : Int32).toUInt32 &&& Int32.toUInt32 31)).toInt32) hx hb dJ6_bitCount_0f7a4_45 rfl ?_
  refine lv_iadd hx hb dJ6_bitCount_0f7a4_46 ?_
  obtain ⟨v5, hv5, h⟩ := zbnd h
  rw [Option.some.inj hv5]
  refine lv_istore_n (lv' := [(0, .int v5)]) hx hb dJ6_bitCount_0f7a4_47 rfl hl (by decide) rfl (fun ls hl => ?_)
  refine lv_iload_n hx hb dJ6_bitCount_0f7a4_48 rfl (lv_at hl 0 rfl) ?_
  refine lv_bipush (v := (63 : Int32)) hx hb dJ6_bitCount_0f7a4_49 (by decide) ?_
  refine lv_iand hx hb dJ6_bitCount_0f7a4_51 ?_
  have hR := Option.some.inj h
  subst hR
  exact W.iret (v := (v5 &&& (63 : Int32))) hx hb hr (fun t ht hW => ⟨_, rfl, rfl, ht⟩) (fun q hq => absurd hq List.not_mem_nil) dJ6_bitCount_0f7a4_52
def F_X0_up (fu : Nat) (f_motion : Int32) : Option (Int32) := (F_X0_upIn fu f_motion).bind fun v1 => some v1
set_option maxHeartbeats 4000000 in
set_option maxRecDepth 100000 in
theorem c_X0_up (l : Launch) (D : va_G) (cI cC cO cJ : ClassId) (fu : Nat) (a_this a_branches a_closing a_opening a_pull a_drop a_changed : Nat) (f_relays : Int32) (f_inputs : Int32) (f_motion : Int32) (f_ticks : Int32) (f_changes : Int32) (R : Int32) (h : F_X0_up fu f_motion = some R) : Met l yX0_up wsX0_up ({ frames := 1, cells := 0, slots := 0, locals := 20 } : Room) (zPr D (ztys cI cC cO cJ) [(a_this, .inr (0, [.int f_relays, .ref a_branches, .ref a_closing, .ref a_opening, .ref a_pull, .ref a_drop, .ref a_changed, .int f_inputs, .int f_motion, .int f_ticks, .int f_changes]))] [.ref a_this]) (zQi R) 0 0 (fun _ => False) := by
  refine Met.ofW (cc := cX0_up) (maxL := 1) (ret := (some .int)) (by decide) rfl ?_
  intro p e s m args below meth c s₁ B hml hv
  obtain ⟨rfl, hP, hK⟩ := hv
  have hx := B.exec
  have hb := B.bytes
  have hr := B.returns
  have hts := atoms_spec (ws := wsX0_up) B.pre
  have hown : s.vm.findClass RX0 = some m.cls := findClass_of_methodNamed B.named
  have hlocks := B.notSynchronized
  have hinX0 : ∀ w ∈ wsX00, w ∈ wsX0_up := fun _ h => (List.mem_cons_of_mem _ (List.mem_append_right _ h))
  have hP : va_P D vwCl [(a_this, .inr (0, [.int f_relays, .ref a_branches, .ref a_closing, .ref a_opening, .ref a_pull, .ref a_drop, .ref a_changed, .int f_inputs, .int f_motion, .int f_ticks, .int f_changes]))] s.heap := hP
  have hK : va_K D vwCl (ztys cI cC cO cJ) s := hK
  have hl := lv_entry ([.ref a_this]) (n := 1) (Nat.le_of_ble_eq_true rfl)
  rw [lg_entry_eq]
  generalize (lg_sl ([.ref a_this]) ++ List.replicate (1 - (lg_sl ([.ref a_this])).length) Slot.unset).toArray = ls at hl ⊢
  have hl : lv_has ls 1 [(0, .ref a_this)] := hl
  unfold F_X0_up at h
  refine lv_aload_n hx hb dX0_up_0 rfl (lv_at hl 0 rfl) ?_
  refine va_get (D := D) (ci := 0) (v := .int f_motion) (C := RX0) (T := TX0) (N := 11) hx hb hts hinX0 hown hK hP 0 rfl rfl 8 (by decide) (hts (Cond.fieldLink RX0 43 "LadderRelays$Ladder" "motion" "I") (List.mem_of_getElem? (i := 1) rfl)) (fun _ h9 => h9) rfl dX0_up_1 ?_
  obtain ⟨v1, hv1, h⟩ := zbnd h
  refine zc_i (W.runS (As := [.int f_motion]) (rest := []) ⟨hx, hb, hml, hown, hts⟩ (c_X0_upIn l D cI cC cO cJ fu f_motion v1 hv1) (va_cwS 1 hts gX0_up_X0_upIn rfl rfl rfl (by decide +kernel) ⟨Nat.le_of_ble_eq_true rfl, Nat.le_of_ble_eq_true rfl⟩) (zPr_S hK zP_nil) rfl rfl hl.1 rfl (lv_room (Nat.le_of_ble_eq_true rfl)) dX0_up_4 ⟨Nat.zero_le _, Nat.zero_le _⟩) ?_
  have hR := Option.some.inj h
  subst hR
  exact W.iret (v := v1) hx hb hr (fun t ht hW => ⟨_, rfl, rfl, ht⟩) (fun q hq => absurd hq List.not_mem_nil) dX0_up_7
def F_X0_signals (fu : Nat) (f_inputs : Int32) (f_motion : Int32) : Option (Int32) := (F_X0_upIn fu f_motion).bind fun v1 => some (f_inputs ||| (v1 <<< ((4 : Int32) &&& (31 : Int32))))
set_option maxHeartbeats 4000000 in
set_option maxRecDepth 100000 in
theorem c_X0_signals (l : Launch) (D : va_G) (cI cC cO cJ : ClassId) (fu : Nat) (a_this a_branches a_closing a_opening a_pull a_drop a_changed : Nat) (f_relays : Int32) (f_inputs : Int32) (f_motion : Int32) (f_ticks : Int32) (f_changes : Int32) (R : Int32) (h : F_X0_signals fu f_inputs f_motion = some R) : Met l yX0_signals wsX0_signals ({ frames := 1, cells := 0, slots := 0, locals := 20 } : Room) (zPr D (ztys cI cC cO cJ) [(a_this, .inr (0, [.int f_relays, .ref a_branches, .ref a_closing, .ref a_opening, .ref a_pull, .ref a_drop, .ref a_changed, .int f_inputs, .int f_motion, .int f_ticks, .int f_changes]))] [.ref a_this]) (zQi R) 0 0 (fun _ => False) := by
  refine Met.ofW (cc := cX0_signals) (maxL := 1) (ret := (some .int)) (by decide) rfl ?_
  intro p e s m args below meth c s₁ B hml hv
  obtain ⟨rfl, hP, hK⟩ := hv
  have hx := B.exec
  have hb := B.bytes
  have hr := B.returns
  have hts := atoms_spec (ws := wsX0_signals) B.pre
  have hown : s.vm.findClass RX0 = some m.cls := findClass_of_methodNamed B.named
  have hlocks := B.notSynchronized
  have hinX0 : ∀ w ∈ wsX00, w ∈ wsX0_signals := fun _ h => (List.mem_cons_of_mem _ (List.mem_append_right _ h))
  have hP : va_P D vwCl [(a_this, .inr (0, [.int f_relays, .ref a_branches, .ref a_closing, .ref a_opening, .ref a_pull, .ref a_drop, .ref a_changed, .int f_inputs, .int f_motion, .int f_ticks, .int f_changes]))] s.heap := hP
  have hK : va_K D vwCl (ztys cI cC cO cJ) s := hK
  have hl := lv_entry ([.ref a_this]) (n := 1) (Nat.le_of_ble_eq_true rfl)
  rw [lg_entry_eq]
  generalize (lg_sl ([.ref a_this]) ++ List.replicate (1 - (lg_sl ([.ref a_this])).length) Slot.unset).toArray = ls at hl ⊢
  have hl : lv_has ls 1 [(0, .ref a_this)] := hl
  unfold F_X0_signals at h
  refine lv_aload_n hx hb dX0_signals_0 rfl (lv_at hl 0 rfl) ?_
  refine va_get (D := D) (ci := 0) (v := .int f_inputs) (C := RX0) (T := TX0) (N := 11) hx hb hts hinX0 hown hK hP 0 rfl rfl 7 (by decide) (hts (Cond.fieldLink RX0 40 "LadderRelays$Ladder" "inputs" "I") (List.mem_of_getElem? (i := 1) rfl)) (fun _ h9 => h9) rfl dX0_signals_1 ?_
  refine lv_aload_n hx hb dX0_signals_4 rfl (lv_at hl 0 rfl) ?_
  refine va_get (D := D) (ci := 0) (v := .int f_motion) (C := RX0) (T := TX0) (N := 11) hx hb hts hinX0 hown hK hP 0 rfl rfl 8 (by decide) (hts (Cond.fieldLink RX0 43 "LadderRelays$Ladder" "motion" "I") (List.mem_of_getElem? (i := 2) rfl)) (fun _ h9 => h9) rfl dX0_signals_5 ?_
  obtain ⟨v1, hv1, h⟩ := zbnd h
  refine zc_i (W.runS (As := [.int f_motion]) (rest := [.int f_inputs]) ⟨hx, hb, hml, hown, hts⟩ (c_X0_upIn l D cI cC cO cJ fu f_motion v1 hv1) (va_cwS 1 hts gX0_signals_X0_upIn rfl rfl rfl (by decide +kernel) ⟨Nat.le_of_ble_eq_true rfl, Nat.le_of_ble_eq_true rfl⟩) (zPr_S hK zP_nil) rfl rfl hl.1 rfl (lv_room (Nat.le_of_ble_eq_true rfl)) dX0_signals_8 ⟨Nat.zero_le _, Nat.zero_le _⟩) ?_
  refine lv_iconst (v := (4 : Int32)) hx hb dX0_signals_11 (by decide) ?_
  refine lv_ishl hx hb dX0_signals_12 ?_
  refine lv_ior hx hb dX0_signals_13 ?_
  have hR := Option.some.inj h
  subst hR
  exact W.iret (v := (f_inputs ||| (v1 <<< ((4 : Int32) &&& (31 : Int32))))) hx hb hr (fun t ht hW => ⟨_, rfl, rfl, ht⟩) (fun q hq => absurd hq List.not_mem_nil) dX0_signals_14
def F_X0_contactsAgainst (fu : Nat) (f_closing : Nat → Int32) (f_opening : Nat → Int32) (p0 : Int32) (p1 : Int32) : Option (Int32) := (zrd f_closing 24 p0).bind fun v1 => (zrd f_opening 24 p0).bind fun v2 => some ((v1 &&& (p1 ^^^ (-1 : Int32))) ||| (v2 &&& p1))
set_option maxHeartbeats 4000000 in
set_option maxRecDepth 100000 in
theorem c_X0_contactsAgainst (l : Launch) (D : va_G) (cI cC cO cJ : ClassId) (fu : Nat) (a_this a_branches a_closing a_opening a_pull a_drop a_changed : Nat) (f_relays : Int32) (f_inputs : Int32) (f_motion : Int32) (f_ticks : Int32) (f_changes : Int32) (f_closing : Nat → Int32) (f_opening : Nat → Int32) (p0 : Int32) (p1 : Int32) (R : Int32) (h : F_X0_contactsAgainst fu f_closing f_opening p0 p1 = some R) : Met l yX0_contactsAgainst wsX0_contactsAgainst ({ frames := 0, cells := 0, slots := 0, locals := 0 } : Room) (zPr D (ztys cI cC cO cJ) [(a_this, .inr (0, [.int f_relays, .ref a_branches, .ref a_closing, .ref a_opening, .ref a_pull, .ref a_drop, .ref a_changed, .int f_inputs, .int f_motion, .int f_ticks, .int f_changes])), (a_closing, .inl (cI, 24, .inl f_closing)), (a_opening, .inl (cI, 24, .inl f_opening))] [.ref a_this, .int p0, .int p1]) (zQi R) 0 0 (fun _ => False) := by
  refine Met.ofW (cc := cX0_contactsAgainst) (maxL := 3) (ret := (some .int)) (by decide) rfl ?_
  intro p e s m args below meth c s₁ B hml hv
  obtain ⟨rfl, hP, hK⟩ := hv
  have hx := B.exec
  have hb := B.bytes
  have hr := B.returns
  have hts := atoms_spec (ws := wsX0_contactsAgainst) B.pre
  have hown : s.vm.findClass RX0 = some m.cls := findClass_of_methodNamed B.named
  have hlocks := B.notSynchronized
  have hinX0 : ∀ w ∈ wsX00, w ∈ wsX0_contactsAgainst := fun _ h => (List.mem_cons_of_mem _ (List.mem_append_right _ h))
  have hP : va_P D vwCl [(a_this, .inr (0, [.int f_relays, .ref a_branches, .ref a_closing, .ref a_opening, .ref a_pull, .ref a_drop, .ref a_changed, .int f_inputs, .int f_motion, .int f_ticks, .int f_changes])), (a_closing, .inl (cI, 24, .inl f_closing)), (a_opening, .inl (cI, 24, .inl f_opening))] s.heap := hP
  have hK : va_K D vwCl (ztys cI cC cO cJ) s := hK
  have hl := lv_entry ([.ref a_this, .int p0, .int p1]) (n := 3) (Nat.le_of_ble_eq_true rfl)
  rw [lg_entry_eq]
  generalize (lg_sl ([.ref a_this, .int p0, .int p1]) ++ List.replicate (3 - (lg_sl ([.ref a_this, .int p0, .int p1])).length) Slot.unset).toArray = ls at hl ⊢
  have hl : lv_has ls 3 [(0, .ref a_this), (1, .int p0), (2, .int p1)] := hl
  unfold F_X0_contactsAgainst at h
  refine lv_aload_n hx hb dX0_contactsAgainst_0 rfl (lv_at hl 0 rfl) ?_
  refine va_get (D := D) (ci := 0) (v := .ref a_closing) (C := RX0) (T := TX0) (N := 11) hx hb hts hinX0 hown hK hP 0 rfl rfl 2 (by decide) (hts (Cond.fieldLink RX0 15 "LadderRelays$Ladder" "closing" "[I") (List.mem_of_getElem? (i := 1) rfl)) (fun _ h9 => h9) rfl dX0_contactsAgainst_1 ?_
  refine lv_iload_n hx hb dX0_contactsAgainst_4 rfl (lv_at hl 1 rfl) ?_
  obtain ⟨v1, hv1, h⟩ := zbnd h
  refine zr_iald hx hb hK hP 1 0 rfl rfl hv1 dX0_contactsAgainst_5 ?_
  refine lv_iload_n hx hb dX0_contactsAgainst_6 rfl (lv_at hl 2 rfl) ?_
  refine lv_iconst (v := (-1 : Int32)) hx hb dX0_contactsAgainst_7 (by decide) ?_
  refine lv_ixor hx hb dX0_contactsAgainst_8 ?_
  refine lv_iand hx hb dX0_contactsAgainst_9 ?_
  refine lv_aload_n hx hb dX0_contactsAgainst_10 rfl (lv_at hl 0 rfl) ?_
  refine va_get (D := D) (ci := 0) (v := .ref a_opening) (C := RX0) (T := TX0) (N := 11) hx hb hts hinX0 hown hK hP 0 rfl rfl 3 (by decide) (hts (Cond.fieldLink RX0 18 "LadderRelays$Ladder" "opening" "[I") (List.mem_of_getElem? (i := 2) rfl)) (fun _ h9 => h9) rfl dX0_contactsAgainst_11 ?_
  refine lv_iload_n hx hb dX0_contactsAgainst_14 rfl (lv_at hl 1 rfl) ?_
  obtain ⟨v2, hv2, h⟩ := zbnd h
  refine zr_iald hx hb hK hP 2 0 rfl rfl hv2 dX0_contactsAgainst_15 ?_
  refine lv_iload_n hx hb dX0_contactsAgainst_16 rfl (lv_at hl 2 rfl) ?_
  refine lv_iand hx hb dX0_contactsAgainst_17 ?_
  refine lv_ior hx hb dX0_contactsAgainst_18 ?_
  have hR := Option.some.inj h
  subst hR
  exact W.iret (v := ((v1 &&& (p1 ^^^ (-1 : Int32))) ||| (v2 &&& p1))) hx hb hr (fun t ht hW => ⟨_, rfl, rfl, ht⟩) (fun q hq => absurd hq List.not_mem_nil) dX0_contactsAgainst_19
def F_X0_calledBy_E78  (v1 : Int32) (v2 : Int32) : Option (Int32) := some v1
def F_X0_calledBy_E72 (rec4 : Int32 → Int32 → Option (Int32)) (v4 : Int32) (v6 : Int32) (v7 : Int32) : Option (Int32) := rec4 v6 (v4 + (1 : Int32))
def F_X0_calledBy_L15 (f_branches : Nat → Int32) (f_closing : Nat → Int32) (f_opening : Nat → Int32) (p0 : Int32) (v4 : Int32) (k15 : Int32 → Int32 → Option (Int32)) (rec15 : Int32 → Int32 → Option (Int32)) (v8 : Int32) (v9 : Int32) : Option (Int32) := (zrd f_branches 6 v4).bind fun v10 => if v10 ≤ v9 then k15 v8 v9 else (zrd f_closing 24 ((v4 * (4 : Int32)) + v9)).bind fun v12 => if (v12 &&& (p0 ^^^ (-1 : Int32))) = (0 : Int32) then (zrd f_opening 24 ((v4 * (4 : Int32)) + v9)).bind fun v14 => if (v14 &&& p0) = (0 : Int32) then rec15 (v8 ||| ((1 : Int32) <<< (v4 &&& (31 : Int32)))) (v9 + (1 : Int32)) else rec15 v8 (v9 + (1 : Int32)) else rec15 v8 (v9 + (1 : Int32))
def F_X0_calledBy_L4 (fu : Nat) (f_branches : Nat → Int32) (f_closing : Nat → Int32) (f_opening : Nat → Int32) (f_relays : Int32) (p0 : Int32) (k4 : Int32 → Int32 → Option (Int32)) (rec4 : Int32 → Int32 → Option (Int32)) (v3 : Int32) (v4 : Int32) : Option (Int32) := if f_relays ≤ v4 then k4 v3 v4 else zlp2 (F_X0_calledBy_L15 f_branches f_closing f_opening p0 v4 (F_X0_calledBy_E72 rec4 v4)) fu v3 (0 : Int32)
def F_X0_calledBy (fu : Nat) (f_relays : Int32) (f_branches : Nat → Int32) (f_closing : Nat → Int32) (f_opening : Nat → Int32) (p0 : Int32) : Option (Int32) := zlp2 (F_X0_calledBy_L4 fu f_branches f_closing f_opening f_relays p0 (F_X0_calledBy_E78)) fu (0 : Int32) (0 : Int32)
set_option maxHeartbeats 4000000 in
set_option maxRecDepth 100000 in
theorem c_X0_calledBy (l : Launch) (D : va_G) (cI cC cO cJ : ClassId) (fu : Nat) (a_this a_branches a_closing a_opening a_pull a_drop a_changed : Nat) (f_relays : Int32) (f_inputs : Int32) (f_motion : Int32) (f_ticks : Int32) (f_changes : Int32) (f_branches : Nat → Int32) (f_closing : Nat → Int32) (f_opening : Nat → Int32) (p0 : Int32) (R : Int32) (h : F_X0_calledBy fu f_relays f_branches f_closing f_opening p0 = some R) : Met l yX0_calledBy wsX0_calledBy ({ frames := 0, cells := 0, slots := 0, locals := 0 } : Room) (zPr D (ztys cI cC cO cJ) [(a_this, .inr (0, [.int f_relays, .ref a_branches, .ref a_closing, .ref a_opening, .ref a_pull, .ref a_drop, .ref a_changed, .int f_inputs, .int f_motion, .int f_ticks, .int f_changes])), (a_branches, .inl (cI, 6, .inl f_branches)), (a_closing, .inl (cI, 24, .inl f_closing)), (a_opening, .inl (cI, 24, .inl f_opening))] [.ref a_this, .int p0]) (zQi R) 0 0 (fun _ => False) := by
  refine Met.ofW (cc := cX0_calledBy) (maxL := 6) (ret := (some .int)) (by decide) rfl ?_
  intro p e s m args below meth c s₁ B hml hv
  obtain ⟨rfl, hP, hK⟩ := hv
  have hx := B.exec
  have hb := B.bytes
  have hr := B.returns
  have hts := atoms_spec (ws := wsX0_calledBy) B.pre
  have hown : s.vm.findClass RX0 = some m.cls := findClass_of_methodNamed B.named
  have hlocks := B.notSynchronized
  have hinX0 : ∀ w ∈ wsX00, w ∈ wsX0_calledBy := fun _ h => (List.mem_cons_of_mem _ (List.mem_append_right _ h))
  have hP : va_P D vwCl [(a_this, .inr (0, [.int f_relays, .ref a_branches, .ref a_closing, .ref a_opening, .ref a_pull, .ref a_drop, .ref a_changed, .int f_inputs, .int f_motion, .int f_ticks, .int f_changes])), (a_branches, .inl (cI, 6, .inl f_branches)), (a_closing, .inl (cI, 24, .inl f_closing)), (a_opening, .inl (cI, 24, .inl f_opening))] s.heap := hP
  have hK : va_K D vwCl (ztys cI cC cO cJ) s := hK
  have hl := lv_entry ([.ref a_this, .int p0]) (n := 6) (Nat.le_of_ble_eq_true rfl)
  rw [lg_entry_eq]
  generalize (lg_sl ([.ref a_this, .int p0]) ++ List.replicate (6 - (lg_sl ([.ref a_this, .int p0])).length) Slot.unset).toArray = ls at hl ⊢
  have hl : lv_has ls 6 [(0, .ref a_this), (1, .int p0)] := hl
  unfold F_X0_calledBy at h
  refine lv_iconst (v := (0 : Int32)) hx hb dX0_calledBy_0 (by decide) ?_
  refine lv_istore_n (lv' := [(2, .int (0 : Int32)), (0, .ref a_this), (1, .int p0)]) hx hb dX0_calledBy_1 rfl hl (by decide) rfl (fun ls hl => ?_)
  refine lv_iconst (v := (0 : Int32)) hx hb dX0_calledBy_2 (by decide) ?_
  refine lv_istore_n (lv' := [(3, .int (0 : Int32)), (2, .int (0 : Int32)), (0, .ref a_this), (1, .int p0)]) hx hb dX0_calledBy_3 rfl hl (by decide) rfl (fun ls hl => ?_)
  have E78 : ∀ (v1 : Int32) (v2 : Int32), F_X0_calledBy_E78 v1 v2 = some R → ∀ ls : Array Slot, lv_has ls 6 [(0, .ref a_this), (1, .int p0), (2, .int v1), (3, .int v2)] → W p l e ({ frames := 0, cells := 0, slots := 0, locals := 0 } : Room) s m (([.ref a_this, .int p0] : List Value).toArray) below meth c s.heap [] 0 0 (MQ below (zQi R) (([.ref a_this, .int p0] : List Value).toArray) s 0 0 (fun _ => False)) (F0 m 78 ls []) := by
    intro v1 v2 h ls hl
    unfold F_X0_calledBy_E78 at h
    refine lv_iload_n hx hb dX0_calledBy_78 rfl (lv_at hl 2 rfl) ?_
    have hR := Option.some.inj h
    subst hR
    exact W.iret (v := v1) hx hb hr (fun t ht hW => ⟨_, rfl, rfl, ht⟩) (fun q hq => absurd hq List.not_mem_nil) dX0_calledBy_79
  refine zlp_i2 (R := R) (P := fun (v3 : Int32) (v4 : Int32) => ∀ ls : Array Slot, lv_has ls 6 [(0, .ref a_this), (1, .int p0), (2, .int v3), (3, .int v4)] → W p l e ({ frames := 0, cells := 0, slots := 0, locals := 0 } : Room) s m (([.ref a_this, .int p0] : List Value).toArray) below meth c s.heap [] 0 0 (MQ below (zQi R) (([.ref a_this, .int p0] : List Value).toArray) s 0 0 (fun _ => False)) (F0 m 4 ls [])) (fun rec4 ih4 v3 v4 h => ?_) fu (0 : Int32) (0 : Int32) h ls (lv_sub hl [2, 3, 1, 0] rfl)
  intro ls hl
  unfold F_X0_calledBy_L4 at h
  refine lv_iload_n hx hb dX0_calledBy_4 rfl (lv_at hl 3 rfl) ?_
  refine lv_aload_n hx hb dX0_calledBy_5 rfl (lv_at hl 0 rfl) ?_
  refine va_get (D := D) (ci := 0) (v := .int f_relays) (C := RX0) (T := TX0) (N := 11) hx hb hts hinX0 hown hK hP 0 rfl rfl 0 (by decide) (hts (Cond.fieldLink RX0 30 "LadderRelays$Ladder" "relays" "I") (List.mem_of_getElem? (i := 1) rfl)) (fun _ h9 => h9) rfl dX0_calledBy_6 ?_
  refine lv_icmp_ge (tgt := 78) hx hb dX0_calledBy_9 (by decide) (fun c5 => ?_) (fun c5 => ?_)
  · have h := zif_t c5 h
    exact E78 v3 v4 h ls (lv_sub hl [0, 1, 2, 3] rfl)
  · have h := zif_f c5 h
    refine lv_iconst (v := (0 : Int32)) hx hb dX0_calledBy_12 (by decide) ?_
    refine lv_istore (lv' := [(4, .int (0 : Int32)), (0, .ref a_this), (1, .int p0), (2, .int v3), (3, .int v4)]) hx hb dX0_calledBy_13 hl (by decide) rfl (fun ls hl => ?_)
    have E72 : ∀ (v6 : Int32) (v7 : Int32), F_X0_calledBy_E72 rec4 v4 v6 v7 = some R → ∀ ls : Array Slot, lv_has ls 6 [(0, .ref a_this), (1, .int p0), (2, .int v6), (3, .int v4), (4, .int v7)] → W p l e ({ frames := 0, cells := 0, slots := 0, locals := 0 } : Room) s m (([.ref a_this, .int p0] : List Value).toArray) below meth c s.heap [] 0 0 (MQ below (zQi R) (([.ref a_this, .int p0] : List Value).toArray) s 0 0 (fun _ => False)) (F0 m 72 ls []) := by
      intro v6 v7 h ls hl
      unfold F_X0_calledBy_E72 at h
      refine lv_iinc (v := (v4 + (1 : Int32))) (lv' := [(3, .int (v4 + (1 : Int32))), (0, .ref a_this), (1, .int p0), (2, .int v6), (4, .int v7)]) hx hb dX0_calledBy_72 hl (k := 3) rfl rfl (by decide) rfl (fun ls hl => ?_)
      refine lv_goto (tgt := 4) hx hb dX0_calledBy_75 (by decide) ?_
      exact ih4 v6 (v4 + (1 : Int32)) h ls (lv_sub hl [1, 2, 3, 0] rfl)
    refine zlp_i2 (R := R) (P := fun (v8 : Int32) (v9 : Int32) => ∀ ls : Array Slot, lv_has ls 6 [(0, .ref a_this), (1, .int p0), (2, .int v8), (3, .int v4), (4, .int v9)] → W p l e ({ frames := 0, cells := 0, slots := 0, locals := 0 } : Room) s m (([.ref a_this, .int p0] : List Value).toArray) below meth c s.heap [] 0 0 (MQ below (zQi R) (([.ref a_this, .int p0] : List Value).toArray) s 0 0 (fun _ => False)) (F0 m 15 ls [])) (fun rec15 ih15 v8 v9 h => ?_) fu v3 (0 : Int32) h ls (lv_sub hl [1, 2, 3, 4, 0] rfl)
    intro ls hl
    unfold F_X0_calledBy_L15 at h
    refine lv_iload hx hb dX0_calledBy_15 (lv_at hl 4 rfl) ?_
    refine lv_aload_n hx hb dX0_calledBy_17 rfl (lv_at hl 0 rfl) ?_
    refine va_get (D := D) (ci := 0) (v := .ref a_branches) (C := RX0) (T := TX0) (N := 11) hx hb hts hinX0 hown hK hP 0 rfl rfl 1 (by decide) (hts (Cond.fieldLink RX0 9 "LadderRelays$Ladder" "branches" "[I") (List.mem_of_getElem? (i := 2) rfl)) (fun _ h9 => h9) rfl dX0_calledBy_18 ?_
    refine lv_iload_n hx hb dX0_calledBy_21 rfl (lv_at hl 3 rfl) ?_
    obtain ⟨v10, hv10, h⟩ := zbnd h
    refine zr_iald hx hb hK hP 1 0 rfl rfl hv10 dX0_calledBy_22 ?_
    refine lv_icmp_ge (tgt := 72) hx hb dX0_calledBy_23 (by decide) (fun c11 => ?_) (fun c11 => ?_)
    · have h := zif_t c11 h
      exact E72 v8 v9 h ls (lv_sub hl [0, 1, 2, 3, 4] rfl)
    · have h := zif_f c11 h
      refine lv_iload_n hx hb dX0_calledBy_26 rfl (lv_at hl 3 rfl) ?_
      refine lv_iconst (v := (4 : Int32)) hx hb dX0_calledBy_27 (by decide) ?_
      refine lv_imul hx hb dX0_calledBy_28 ?_
      refine lv_iload hx hb dX0_calledBy_29 (lv_at hl 4 rfl) ?_
      refine lv_iadd hx hb dX0_calledBy_31 ?_
      refine lv_istore (lv' := [(5, .int ((v4 * (4 : Int32)) + v9)), (0, .ref a_this), (1, .int p0), (2, .int v8), (3, .int v4), (4, .int v9)]) hx hb dX0_calledBy_32 hl (by decide) rfl (fun ls hl => ?_)
      refine lv_aload_n hx hb dX0_calledBy_34 rfl (lv_at hl 1 rfl) ?_
      refine va_get (D := D) (ci := 0) (v := .ref a_closing) (C := RX0) (T := TX0) (N := 11) hx hb hts hinX0 hown hK hP 0 rfl rfl 2 (by decide) (hts (Cond.fieldLink RX0 15 "LadderRelays$Ladder" "closing" "[I") (List.mem_of_getElem? (i := 3) rfl)) (fun _ h9 => h9) rfl dX0_calledBy_35 ?_
      refine lv_iload hx hb dX0_calledBy_38 (lv_at hl 0 rfl) ?_
      obtain ⟨v12, hv12, h⟩ := zbnd h
      refine zr_iald hx hb hK hP 2 0 rfl rfl hv12 dX0_calledBy_40 ?_
      refine lv_iload_n hx hb dX0_calledBy_41 rfl (lv_at hl 2 rfl) ?_
      refine lv_iconst (v := (-1 : Int32)) hx hb dX0_calledBy_42 (by decide) ?_
      refine lv_ixor hx hb dX0_calledBy_43 ?_
      refine lv_iand hx hb dX0_calledBy_44 ?_
      refine lv_if_ne (tgt := 66) hx hb dX0_calledBy_45 (by decide) (fun c13 => ?_) (fun c13 => ?_)
      · have h := zif_f c13 h
        refine lv_iinc (v := (v9 + (1 : Int32))) (lv' := [(4, .int (v9 + (1 : Int32))), (5, .int ((v4 * (4 : Int32)) + v9)), (0, .ref a_this), (1, .int p0), (2, .int v8), (3, .int v4)]) hx hb dX0_calledBy_66 hl (k := 5) rfl rfl (by decide) rfl (fun ls hl => ?_)
        refine lv_goto (tgt := 15) hx hb dX0_calledBy_69 (by decide) ?_
        exact ih15 v8 (v9 + (1 : Int32)) h ls (lv_sub hl [2, 3, 4, 5, 0] rfl)
      · have h := zif_t c13 h
        refine lv_aload_n hx hb dX0_calledBy_48 rfl (lv_at hl 1 rfl) ?_
        refine va_get (D := D) (ci := 0) (v := .ref a_opening) (C := RX0) (T := TX0) (N := 11) hx hb hts hinX0 hown hK hP 0 rfl rfl 3 (by decide) (hts (Cond.fieldLink RX0 18 "LadderRelays$Ladder" "opening" "[I") (List.mem_of_getElem? (i := 4) rfl)) (fun _ h9 => h9) rfl dX0_calledBy_49 ?_
        refine lv_iload hx hb dX0_calledBy_52 (lv_at hl 0 rfl) ?_
        obtain ⟨v14, hv14, h⟩ := zbnd h
        refine zr_iald hx hb hK hP 3 0 rfl rfl hv14 dX0_calledBy_54 ?_
        refine lv_iload_n hx hb dX0_calledBy_55 rfl (lv_at hl 2 rfl) ?_
        refine lv_iand hx hb dX0_calledBy_56 ?_
        refine lv_if_ne (tgt := 66) hx hb dX0_calledBy_57 (by decide) (fun c15 => ?_) (fun c15 => ?_)
        · have h := zif_f c15 h
          refine lv_iinc (v := (v9 + (1 : Int32))) (lv' := [(4, .int (v9 + (1 : Int32))), (5, .int ((v4 * (4 : Int32)) + v9)), (0, .ref a_this), (1, .int p0), (2, .int v8), (3, .int v4)]) hx hb dX0_calledBy_66 hl (k := 5) rfl rfl (by decide) rfl (fun ls hl => ?_)
          refine lv_goto (tgt := 15) hx hb dX0_calledBy_69 (by decide) ?_
          exact ih15 v8 (v9 + (1 : Int32)) h ls (lv_sub hl [2, 3, 4, 5, 0] rfl)
        · have h := zif_t c15 h
          refine lv_iload_n hx hb dX0_calledBy_60 rfl (lv_at hl 3 rfl) ?_
          refine lv_iconst (v := (1 : Int32)) hx hb dX0_calledBy_61 (by decide) ?_
          refine lv_iload_n hx hb dX0_calledBy_62 rfl (lv_at hl 4 rfl) ?_
          refine lv_ishl hx hb dX0_calledBy_63 ?_
          refine lv_ior hx hb dX0_calledBy_64 ?_
          refine lv_istore_n (lv' := [(2, .int (v8 ||| ((1 : Int32) <<< (v4 &&& (31 : Int32))))), (5, .int ((v4 * (4 : Int32)) + v9)), (0, .ref a_this), (1, .int p0), (3, .int v4), (4, .int v9)]) hx hb dX0_calledBy_65 rfl hl (by decide) rfl (fun ls hl => ?_)
          refine lv_iinc (v := (v9 + (1 : Int32))) (lv' := [(4, .int (v9 + (1 : Int32))), (2, .int (v8 ||| ((1 : Int32) <<< (v4 &&& (31 : Int32))))), (5, .int ((v4 * (4 : Int32)) + v9)), (0, .ref a_this), (1, .int p0), (3, .int v4)]) hx hb dX0_calledBy_66 hl (k := 5) rfl rfl (by decide) rfl (fun ls hl => ?_)
          refine lv_goto (tgt := 15) hx hb dX0_calledBy_69 (by decide) ?_
          exact ih15 (v8 ||| ((1 : Int32) <<< (v4 &&& (31 : Int32)))) (v9 + (1 : Int32)) h ls (lv_sub hl [3, 4, 1, 5, 0] rfl)
def F_X0_called (fu : Nat) (f_relays : Int32) (f_inputs : Int32) (f_motion : Int32) (f_branches : Nat → Int32) (f_closing : Nat → Int32) (f_opening : Nat → Int32) : Option (Int32) := (F_X0_signals fu f_inputs f_motion).bind fun v1 => (F_X0_calledBy fu f_relays f_branches f_closing f_opening v1).bind fun v2 => some v2
set_option maxHeartbeats 4000000 in
set_option maxRecDepth 100000 in
theorem c_X0_called (l : Launch) (D : va_G) (cI cC cO cJ : ClassId) (fu : Nat) (a_this a_branches a_closing a_opening a_pull a_drop a_changed : Nat) (f_relays : Int32) (f_inputs : Int32) (f_motion : Int32) (f_ticks : Int32) (f_changes : Int32) (f_branches : Nat → Int32) (f_closing : Nat → Int32) (f_opening : Nat → Int32) (R : Int32) (h : F_X0_called fu f_relays f_inputs f_motion f_branches f_closing f_opening = some R) : Met l yX0_called wsX0_called ({ frames := 2, cells := 0, slots := 0, locals := 40 } : Room) (zPr D (ztys cI cC cO cJ) [(a_this, .inr (0, [.int f_relays, .ref a_branches, .ref a_closing, .ref a_opening, .ref a_pull, .ref a_drop, .ref a_changed, .int f_inputs, .int f_motion, .int f_ticks, .int f_changes])), (a_branches, .inl (cI, 6, .inl f_branches)), (a_closing, .inl (cI, 24, .inl f_closing)), (a_opening, .inl (cI, 24, .inl f_opening))] [.ref a_this]) (zQi R) 0 0 (fun _ => False) := by
  refine Met.ofW (cc := cX0_called) (maxL := 1) (ret := (some .int)) (by decide) rfl ?_
  intro p e s m args below meth c s₁ B hml hv
  obtain ⟨rfl, hP, hK⟩ := hv
  have hx := B.exec
  have hb := B.bytes
  have hr := B.returns
  have hts := atoms_spec (ws := wsX0_called) B.pre
  have hown : s.vm.findClass RX0 = some m.cls := findClass_of_methodNamed B.named
  have hlocks := B.notSynchronized
  have hP : va_P D vwCl [(a_this, .inr (0, [.int f_relays, .ref a_branches, .ref a_closing, .ref a_opening, .ref a_pull, .ref a_drop, .ref a_changed, .int f_inputs, .int f_motion, .int f_ticks, .int f_changes])), (a_branches, .inl (cI, 6, .inl f_branches)), (a_closing, .inl (cI, 24, .inl f_closing)), (a_opening, .inl (cI, 24, .inl f_opening))] s.heap := hP
  have hK : va_K D vwCl (ztys cI cC cO cJ) s := hK
  have hl := lv_entry ([.ref a_this]) (n := 1) (Nat.le_of_ble_eq_true rfl)
  rw [lg_entry_eq]
  generalize (lg_sl ([.ref a_this]) ++ List.replicate (1 - (lg_sl ([.ref a_this])).length) Slot.unset).toArray = ls at hl ⊢
  have hl : lv_has ls 1 [(0, .ref a_this)] := hl
  unfold F_X0_called at h
  refine lv_aload_n hx hb dX0_called_0 rfl (lv_at hl 0 rfl) ?_
  refine lv_aload_n hx hb dX0_called_1 rfl (lv_at hl 0 rfl) ?_
  obtain ⟨v1, hv1, h⟩ := zbnd h
  have hPc := hP.sub (ws' := [(a_this, .inr (0, [.int f_relays, .ref a_branches, .ref a_closing, .ref a_opening, .ref a_pull, .ref a_drop, .ref a_changed, .int f_inputs, .int f_motion, .int f_ticks, .int f_changes]))]) [0] rfl
  refine zc_i (W.runV (C := RX0) (As := []) (rest := [.ref a_this]) ⟨hx, hb, hml, hown, hts⟩ (c_X0_signals l D cI cC cO cJ fu a_this a_branches a_closing a_opening a_pull a_drop a_changed f_relays f_inputs f_motion f_ticks f_changes v1 hv1) (cwV 0 hts gX0_called_X0_signals rfl rfl rfl (by decide +kernel) ⟨Nat.le_of_ble_eq_true rfl, Nat.le_of_ble_eq_true rfl⟩) ⟨zPr_blind, (va_recv hK hP (q0 := 0) (ci := 0) rfl rfl), zPr_pre hK hPc⟩ rfl rfl hl.1 rfl (lv_room (Nat.le_of_ble_eq_true rfl)) dX0_called_2 ⟨Nat.zero_le _, Nat.zero_le _⟩) ?_
  obtain ⟨v2, hv2, h⟩ := zbnd h
  refine zc_i (W.runV (C := RX0) (As := [.int v1]) (rest := []) ⟨hx, hb, hml, hown, hts⟩ (c_X0_calledBy l D cI cC cO cJ fu a_this a_branches a_closing a_opening a_pull a_drop a_changed f_relays f_inputs f_motion f_ticks f_changes f_branches f_closing f_opening v1 v2 hv2) (cwV 1 hts gX0_called_X0_calledBy rfl rfl rfl (by decide +kernel) ⟨Nat.le_of_ble_eq_true rfl, Nat.le_of_ble_eq_true rfl⟩) ⟨zPr_blind, (va_recv hK hP (q0 := 0) (ci := 0) rfl rfl), zPr_pre hK hP⟩ rfl rfl hl.1 rfl (lv_room (Nat.le_of_ble_eq_true rfl)) dX0_called_5 ⟨Nat.zero_le _, Nat.zero_le _⟩) ?_
  have hR := Option.some.inj h
  subst hR
  exact W.iret (v := v2) hx hb hr (fun t ht hW => ⟨_, rfl, rfl, ht⟩) (fun q hq => absurd hq List.not_mem_nil) dX0_called_8
def F_X0_restless (fu : Nat) (f_relays : Int32) (f_inputs : Int32) (f_motion : Int32) (f_branches : Nat → Int32) (f_closing : Nat → Int32) (f_opening : Nat → Int32) : Option (Int32) := (F_X0_signals fu f_inputs f_motion).bind fun v1 => (F_X0_calledBy fu f_relays f_branches f_closing f_opening v1).bind fun v2 => (F_X0_up fu f_motion).bind fun v3 => some (v2 ^^^ v3)
set_option maxHeartbeats 4000000 in
set_option maxRecDepth 100000 in
theorem c_X0_restless (l : Launch) (D : va_G) (cI cC cO cJ : ClassId) (fu : Nat) (a_this a_branches a_closing a_opening a_pull a_drop a_changed : Nat) (f_relays : Int32) (f_inputs : Int32) (f_motion : Int32) (f_ticks : Int32) (f_changes : Int32) (f_branches : Nat → Int32) (f_closing : Nat → Int32) (f_opening : Nat → Int32) (R : Int32) (h : F_X0_restless fu f_relays f_inputs f_motion f_branches f_closing f_opening = some R) : Met l yX0_restless wsX0_restless ({ frames := 2, cells := 0, slots := 0, locals := 40 } : Room) (zPr D (ztys cI cC cO cJ) [(a_this, .inr (0, [.int f_relays, .ref a_branches, .ref a_closing, .ref a_opening, .ref a_pull, .ref a_drop, .ref a_changed, .int f_inputs, .int f_motion, .int f_ticks, .int f_changes])), (a_branches, .inl (cI, 6, .inl f_branches)), (a_closing, .inl (cI, 24, .inl f_closing)), (a_opening, .inl (cI, 24, .inl f_opening))] [.ref a_this]) (zQi R) 0 0 (fun _ => False) := by
  refine Met.ofW (cc := cX0_restless) (maxL := 1) (ret := (some .int)) (by decide) rfl ?_
  intro p e s m args below meth c s₁ B hml hv
  obtain ⟨rfl, hP, hK⟩ := hv
  have hx := B.exec
  have hb := B.bytes
  have hr := B.returns
  have hts := atoms_spec (ws := wsX0_restless) B.pre
  have hown : s.vm.findClass RX0 = some m.cls := findClass_of_methodNamed B.named
  have hlocks := B.notSynchronized
  have hP : va_P D vwCl [(a_this, .inr (0, [.int f_relays, .ref a_branches, .ref a_closing, .ref a_opening, .ref a_pull, .ref a_drop, .ref a_changed, .int f_inputs, .int f_motion, .int f_ticks, .int f_changes])), (a_branches, .inl (cI, 6, .inl f_branches)), (a_closing, .inl (cI, 24, .inl f_closing)), (a_opening, .inl (cI, 24, .inl f_opening))] s.heap := hP
  have hK : va_K D vwCl (ztys cI cC cO cJ) s := hK
  have hl := lv_entry ([.ref a_this]) (n := 1) (Nat.le_of_ble_eq_true rfl)
  rw [lg_entry_eq]
  generalize (lg_sl ([.ref a_this]) ++ List.replicate (1 - (lg_sl ([.ref a_this])).length) Slot.unset).toArray = ls at hl ⊢
  have hl : lv_has ls 1 [(0, .ref a_this)] := hl
  unfold F_X0_restless at h
  refine lv_aload_n hx hb dX0_restless_0 rfl (lv_at hl 0 rfl) ?_
  refine lv_aload_n hx hb dX0_restless_1 rfl (lv_at hl 0 rfl) ?_
  obtain ⟨v1, hv1, h⟩ := zbnd h
  have hPc := hP.sub (ws' := [(a_this, .inr (0, [.int f_relays, .ref a_branches, .ref a_closing, .ref a_opening, .ref a_pull, .ref a_drop, .ref a_changed, .int f_inputs, .int f_motion, .int f_ticks, .int f_changes]))]) [0] rfl
  refine zc_i (W.runV (C := RX0) (As := []) (rest := [.ref a_this]) ⟨hx, hb, hml, hown, hts⟩ (c_X0_signals l D cI cC cO cJ fu a_this a_branches a_closing a_opening a_pull a_drop a_changed f_relays f_inputs f_motion f_ticks f_changes v1 hv1) (cwV 0 hts gX0_restless_X0_signals rfl rfl rfl (by decide +kernel) ⟨Nat.le_of_ble_eq_true rfl, Nat.le_of_ble_eq_true rfl⟩) ⟨zPr_blind, (va_recv hK hP (q0 := 0) (ci := 0) rfl rfl), zPr_pre hK hPc⟩ rfl rfl hl.1 rfl (lv_room (Nat.le_of_ble_eq_true rfl)) dX0_restless_2 ⟨Nat.zero_le _, Nat.zero_le _⟩) ?_
  obtain ⟨v2, hv2, h⟩ := zbnd h
  refine zc_i (W.runV (C := RX0) (As := [.int v1]) (rest := []) ⟨hx, hb, hml, hown, hts⟩ (c_X0_calledBy l D cI cC cO cJ fu a_this a_branches a_closing a_opening a_pull a_drop a_changed f_relays f_inputs f_motion f_ticks f_changes f_branches f_closing f_opening v1 v2 hv2) (cwV 1 hts gX0_restless_X0_calledBy rfl rfl rfl (by decide +kernel) ⟨Nat.le_of_ble_eq_true rfl, Nat.le_of_ble_eq_true rfl⟩) ⟨zPr_blind, (va_recv hK hP (q0 := 0) (ci := 0) rfl rfl), zPr_pre hK hP⟩ rfl rfl hl.1 rfl (lv_room (Nat.le_of_ble_eq_true rfl)) dX0_restless_5 ⟨Nat.zero_le _, Nat.zero_le _⟩) ?_
  refine lv_aload_n hx hb dX0_restless_8 rfl (lv_at hl 0 rfl) ?_
  obtain ⟨v3, hv3, h⟩ := zbnd h
  have hPc := hP.sub (ws' := [(a_this, .inr (0, [.int f_relays, .ref a_branches, .ref a_closing, .ref a_opening, .ref a_pull, .ref a_drop, .ref a_changed, .int f_inputs, .int f_motion, .int f_ticks, .int f_changes]))]) [0] rfl
  refine zc_i (W.runV (C := RX0) (As := []) (rest := [.int v2]) ⟨hx, hb, hml, hown, hts⟩ (c_X0_up l D cI cC cO cJ fu a_this a_branches a_closing a_opening a_pull a_drop a_changed f_relays f_inputs f_motion f_ticks f_changes v3 hv3) (cwV 0 hts gX0_restless_X0_up rfl rfl rfl (by decide +kernel) ⟨Nat.le_of_ble_eq_true rfl, Nat.le_of_ble_eq_true rfl⟩) ⟨zPr_blind, (va_recv hK hP (q0 := 0) (ci := 0) rfl rfl), zPr_pre hK hPc⟩ rfl rfl hl.1 rfl (lv_room (Nat.le_of_ble_eq_true rfl)) dX0_restless_9 ⟨Nat.zero_le _, Nat.zero_le _⟩) ?_
  refine lv_ixor hx hb dX0_restless_12 ?_
  have hR := Option.some.inj h
  subst hR
  exact W.iret (v := (v2 ^^^ v3)) hx hb hr (fun t ht hW => ⟨_, rfl, rfl, ht⟩) (fun q hq => absurd hq List.not_mem_nil) dX0_restless_13
def F_X0_counted_E56  (v1 : Int32) (v2 : Int32) : Option (Int32) := some v1
def F_X0_counted_J41 (fu : Nat) (rec5 : Int32 → Int32 → Option (Int32)) (v3 : Int32) (v4 : Int32) (v7 : Int32) : Option (Int32) := (F_X0_withCount fu v3 v4 v7).bind fun v8 => rec5 v8 (v4 + (1 : Int32))
def F_X0_counted_L5 (fu : Nat) (f_relays : Int32) (p0 : Int32) (p1 : Int32) (k5 : Int32 → Int32 → Option (Int32)) (rec5 : Int32 → Int32 → Option (Int32)) (v3 : Int32) (v4 : Int32) : Option (Int32) := if f_relays ≤ v4 then k5 v3 v4 else (F_X0_isIn fu p1 v4).bind fun v6 => if v6 = (0 : Int32) then F_X0_counted_J41 fu rec5 v3 v4 (0 : Int32) else (F_X0_countIn fu p0 v4).bind fun v10 => (some (if (10 : Int32) < (v10 + (1 : Int32)) then (10 : Int32) else (v10 + (1 : Int32)))).bind fun v11 => F_X0_counted_J41 fu rec5 v3 v4 v11
def F_X0_counted (fu : Nat) (f_relays : Int32) (p0 : Int32) (p1 : Int32) : Option (Int32) := zlp2 (F_X0_counted_L5 fu f_relays p0 p1 (F_X0_counted_E56)) fu p0 (0 : Int32)
set_option maxHeartbeats 4000000 in
set_option maxRecDepth 100000 in
theorem c_X0_counted (l : Launch) (D : va_G) (cI cC cO cJ : ClassId) (fu : Nat) (a_this a_branches a_closing a_opening a_pull a_drop a_changed : Nat) (f_relays : Int32) (f_inputs : Int32) (f_motion : Int32) (f_ticks : Int32) (f_changes : Int32) (p0 : Int32) (p1 : Int32) (R : Int32) (h : F_X0_counted fu f_relays p0 p1 = some R) : Met l yX0_counted wsX0_counted ({ frames := 1, cells := 0, slots := 0, locals := 23 } : Room) (zPr D (ztys cI cC cO cJ) [(a_this, .inr (0, [.int f_relays, .ref a_branches, .ref a_closing, .ref a_opening, .ref a_pull, .ref a_drop, .ref a_changed, .int f_inputs, .int f_motion, .int f_ticks, .int f_changes]))] [.ref a_this, .int p0, .int p1]) (zQi R) 0 0 (fun _ => False) := by
  refine Met.ofW (cc := cX0_counted) (maxL := 6) (ret := (some .int)) (by decide) rfl ?_
  intro p e s m args below meth c s₁ B hml hv
  obtain ⟨rfl, hP, hK⟩ := hv
  have hx := B.exec
  have hb := B.bytes
  have hr := B.returns
  have hts := atoms_spec (ws := wsX0_counted) B.pre
  have hown : s.vm.findClass RX0 = some m.cls := findClass_of_methodNamed B.named
  have hlocks := B.notSynchronized
  have hinX0 : ∀ w ∈ wsX00, w ∈ wsX0_counted := fun _ h => (List.mem_cons_of_mem _ (List.mem_append_right _ h))
  have hP : va_P D vwCl [(a_this, .inr (0, [.int f_relays, .ref a_branches, .ref a_closing, .ref a_opening, .ref a_pull, .ref a_drop, .ref a_changed, .int f_inputs, .int f_motion, .int f_ticks, .int f_changes]))] s.heap := hP
  have hK : va_K D vwCl (ztys cI cC cO cJ) s := hK
  have hl := lv_entry ([.ref a_this, .int p0, .int p1]) (n := 6) (Nat.le_of_ble_eq_true rfl)
  rw [lg_entry_eq]
  generalize (lg_sl ([.ref a_this, .int p0, .int p1]) ++ List.replicate (6 - (lg_sl ([.ref a_this, .int p0, .int p1])).length) Slot.unset).toArray = ls at hl ⊢
  have hl : lv_has ls 6 [(0, .ref a_this), (1, .int p0), (2, .int p1)] := hl
  unfold F_X0_counted at h
  refine lv_iload_n hx hb dX0_counted_0 rfl (lv_at hl 1 rfl) ?_
  refine lv_istore_n (lv' := [(3, .int p0), (0, .ref a_this), (1, .int p0), (2, .int p1)]) hx hb dX0_counted_1 rfl hl (by decide) rfl (fun ls hl => ?_)
  refine lv_iconst (v := (0 : Int32)) hx hb dX0_counted_2 (by decide) ?_
  refine lv_istore (lv' := [(4, .int (0 : Int32)), (3, .int p0), (0, .ref a_this), (1, .int p0), (2, .int p1)]) hx hb dX0_counted_3 hl (by decide) rfl (fun ls hl => ?_)
  have E56 : ∀ (v1 : Int32) (v2 : Int32), F_X0_counted_E56 v1 v2 = some R → ∀ ls : Array Slot, lv_has ls 6 [(0, .ref a_this), (1, .int p0), (2, .int p1), (3, .int v1), (4, .int v2)] → W p l e ({ frames := 1, cells := 0, slots := 0, locals := 23 } : Room) s m (([.ref a_this, .int p0, .int p1] : List Value).toArray) below meth c s.heap [] 0 0 (MQ below (zQi R) (([.ref a_this, .int p0, .int p1] : List Value).toArray) s 0 0 (fun _ => False)) (F0 m 56 ls []) := by
    intro v1 v2 h ls hl
    unfold F_X0_counted_E56 at h
    refine lv_iload_n hx hb dX0_counted_56 rfl (lv_at hl 3 rfl) ?_
    have hR := Option.some.inj h
    subst hR
    exact W.iret (v := v1) hx hb hr (fun t ht hW => ⟨_, rfl, rfl, ht⟩) (fun q hq => absurd hq List.not_mem_nil) dX0_counted_57
  refine zlp_i2 (R := R) (P := fun (v3 : Int32) (v4 : Int32) => ∀ ls : Array Slot, lv_has ls 6 [(0, .ref a_this), (1, .int p0), (2, .int p1), (3, .int v3), (4, .int v4)] → W p l e ({ frames := 1, cells := 0, slots := 0, locals := 23 } : Room) s m (([.ref a_this, .int p0, .int p1] : List Value).toArray) below meth c s.heap [] 0 0 (MQ below (zQi R) (([.ref a_this, .int p0, .int p1] : List Value).toArray) s 0 0 (fun _ => False)) (F0 m 5 ls [])) (fun rec5 ih5 v3 v4 h => ?_) fu p0 (0 : Int32) h ls (lv_sub hl [2, 3, 4, 1, 0] rfl)
  intro ls hl
  unfold F_X0_counted_L5 at h
  refine lv_iload hx hb dX0_counted_5 (lv_at hl 4 rfl) ?_
  refine lv_aload_n hx hb dX0_counted_7 rfl (lv_at hl 0 rfl) ?_
  refine va_get (D := D) (ci := 0) (v := .int f_relays) (C := RX0) (T := TX0) (N := 11) hx hb hts hinX0 hown hK hP 0 rfl rfl 0 (by decide) (hts (Cond.fieldLink RX0 30 "LadderRelays$Ladder" "relays" "I") (List.mem_of_getElem? (i := 1) rfl)) (fun _ h9 => h9) rfl dX0_counted_8 ?_
  refine lv_icmp_ge (tgt := 56) hx hb dX0_counted_11 (by decide) (fun c5 => ?_) (fun c5 => ?_)
  · have h := zif_t c5 h
    exact E56 v3 v4 h ls (lv_sub hl [0, 1, 2, 3, 4] rfl)
  · have h := zif_f c5 h
    refine lv_iconst (v := (0 : Int32)) hx hb dX0_counted_14 (by decide) ?_
    refine lv_istore (lv' := [(5, .int (0 : Int32)), (0, .ref a_this), (1, .int p0), (2, .int p1), (3, .int v3), (4, .int v4)]) hx hb dX0_counted_15 hl (by decide) rfl (fun ls hl => ?_)
    refine lv_iload_n hx hb dX0_counted_17 rfl (lv_at hl 3 rfl) ?_
    refine lv_iload hx hb dX0_counted_18 (lv_at hl 5 rfl) ?_
    obtain ⟨v6, hv6, h⟩ := zbnd h
    refine zc_i (W.runS (As := [.int p1, .int v4]) (rest := []) ⟨hx, hb, hml, hown, hts⟩ (c_X0_isIn l D cI cC cO cJ fu p1 v4 v6 hv6) (va_cwS 2 hts gX0_counted_X0_isIn rfl rfl rfl (by decide +kernel) ⟨Nat.le_of_ble_eq_true rfl, Nat.le_of_ble_eq_true rfl⟩) (zPr_S hK zP_nil) rfl rfl hl.1 rfl (lv_room (Nat.le_of_ble_eq_true rfl)) dX0_counted_20 ⟨Nat.zero_le _, Nat.zero_le _⟩) ?_
    have J41 : ∀ (v7 : Int32), F_X0_counted_J41 fu rec5 v3 v4 v7 = some R → ∀ ls : Array Slot, lv_has ls 6 [(0, .ref a_this), (1, .int p0), (2, .int p1), (3, .int v3), (4, .int v4), (5, .int v7)] → W p l e ({ frames := 1, cells := 0, slots := 0, locals := 23 } : Room) s m (([.ref a_this, .int p0, .int p1] : List Value).toArray) below meth c s.heap [] 0 0 (MQ below (zQi R) (([.ref a_this, .int p0, .int p1] : List Value).toArray) s 0 0 (fun _ => False)) (F0 m 41 ls []) := by
      intro v7 h ls hl
      unfold F_X0_counted_J41 at h
      refine lv_iload_n hx hb dX0_counted_41 rfl (lv_at hl 3 rfl) ?_
      refine lv_iload hx hb dX0_counted_42 (lv_at hl 4 rfl) ?_
      refine lv_iload hx hb dX0_counted_44 (lv_at hl 5 rfl) ?_
      obtain ⟨v8, hv8, h⟩ := zbnd h
      refine zc_i (W.runS (As := [.int v3, .int v4, .int v7]) (rest := []) ⟨hx, hb, hml, hown, hts⟩ (c_X0_withCount l D cI cC cO cJ fu v3 v4 v7 v8 hv8) (va_cwS 3 hts gX0_counted_X0_withCount rfl rfl rfl (by decide +kernel) ⟨Nat.le_of_ble_eq_true rfl, Nat.le_of_ble_eq_true rfl⟩) (zPr_S hK zP_nil) rfl rfl hl.1 rfl (lv_room (Nat.le_of_ble_eq_true rfl)) dX0_counted_46 ⟨Nat.zero_le _, Nat.zero_le _⟩) ?_
      refine lv_istore_n (lv' := [(3, .int v8), (0, .ref a_this), (1, .int p0), (2, .int p1), (4, .int v4), (5, .int v7)]) hx hb dX0_counted_49 rfl hl (by decide) rfl (fun ls hl => ?_)
      refine lv_iinc (v := (v4 + (1 : Int32))) (lv' := [(4, .int (v4 + (1 : Int32))), (3, .int v8), (0, .ref a_this), (1, .int p0), (2, .int p1), (5, .int v7)]) hx hb dX0_counted_50 hl (k := 4) rfl rfl (by decide) rfl (fun ls hl => ?_)
      refine lv_goto (tgt := 5) hx hb dX0_counted_53 (by decide) ?_
      exact ih5 v8 (v4 + (1 : Int32)) h ls (lv_sub hl [2, 3, 4, 1, 0] rfl)
    refine lv_if_eq (tgt := 41) hx hb dX0_counted_23 (by decide) (fun c9 => ?_) (fun c9 => ?_)
    · have h := zif_t c9 h
      exact J41 (0 : Int32) h ls (lv_sub hl [1, 2, 3, 4, 5, 0] rfl)
    · have h := zif_f c9 h
      refine lv_iload_n hx hb dX0_counted_26 rfl (lv_at hl 2 rfl) ?_
      refine lv_iload hx hb dX0_counted_27 (lv_at hl 5 rfl) ?_
      obtain ⟨v10, hv10, h⟩ := zbnd h
      refine zc_i (W.runS (As := [.int p0, .int v4]) (rest := []) ⟨hx, hb, hml, hown, hts⟩ (c_X0_countIn l D cI cC cO cJ fu p0 v4 v10 hv10) (va_cwS 2 hts gX0_counted_X0_countIn rfl rfl rfl (by decide +kernel) ⟨Nat.le_of_ble_eq_true rfl, Nat.le_of_ble_eq_true rfl⟩) (zPr_S hK zP_nil) rfl rfl hl.1 rfl (lv_room (Nat.le_of_ble_eq_true rfl)) dX0_counted_29 ⟨Nat.zero_le _, Nat.zero_le _⟩) ?_
      refine lv_iconst (v := (1 : Int32)) hx hb dX0_counted_32 (by decide) ?_
      refine lv_iadd hx hb dX0_counted_33 ?_
      refine lv_bipush (v := (10 : Int32)) hx hb dX0_counted_34 (by decide) ?_
      refine va_mmin hx hb (by rw [hml]; exact hl.1.symm) hown (hts (Cond.methodLink RX0 77 Lib.Math.min.name) (List.mem_of_getElem? (i := 2) rfl)) (hts (Cond.static Lib.Math.min.name) (List.mem_of_getElem? (i := 3) rfl)) (hts (Cond.initialized "java/lang/Math") (List.mem_of_getElem? (i := 4) rfl)) (hts (Cond.code Lib.Math.min.name Lib.Math.min.code 2 (some .int)) (List.mem_of_getElem? (i := 5) rfl)) (Nat.le_of_ble_eq_true rfl) (Nat.le_of_ble_eq_true rfl) (Nat.zero_le _) (Nat.zero_le _) dX0_counted_36 ?_
      obtain ⟨v11, hv11, h⟩ := zbnd h
      rw [Option.some.inj hv11]
      refine lv_istore (lv' := [(5, .int v11), (0, .ref a_this), (1, .int p0), (2, .int p1), (3, .int v3), (4, .int v4)]) hx hb dX0_counted_39 hl (by decide) rfl (fun ls hl => ?_)
      exact J41 v11 h ls (lv_sub hl [1, 2, 3, 4, 5, 0] rfl)
def F_X0_timeIn (fu : Nat) (f_pull : Nat → Int32) (f_drop : Nat → Int32) (p0 : Int32) (p1 : Int32) : Option (Int32) := if ((p0 >>> (p1 &&& (31 : Int32))) &&& (1 : Int32)) = (1 : Int32) then (zrd f_drop 6 p1).bind fun v3 => some v3 else (zrd f_pull 6 p1).bind fun v2 => some v2
set_option maxHeartbeats 4000000 in
set_option maxRecDepth 100000 in
theorem c_X0_timeIn (l : Launch) (D : va_G) (cI cC cO cJ : ClassId) (fu : Nat) (a_this a_branches a_closing a_opening a_pull a_drop a_changed : Nat) (f_relays : Int32) (f_inputs : Int32) (f_motion : Int32) (f_ticks : Int32) (f_changes : Int32) (f_pull : Nat → Int32) (f_drop : Nat → Int32) (p0 : Int32) (p1 : Int32) (R : Int32) (h : F_X0_timeIn fu f_pull f_drop p0 p1 = some R) : Met l yX0_timeIn wsX0_timeIn ({ frames := 0, cells := 0, slots := 0, locals := 0 } : Room) (zPr D (ztys cI cC cO cJ) [(a_this, .inr (0, [.int f_relays, .ref a_branches, .ref a_closing, .ref a_opening, .ref a_pull, .ref a_drop, .ref a_changed, .int f_inputs, .int f_motion, .int f_ticks, .int f_changes])), (a_pull, .inl (cI, 6, .inl f_pull)), (a_drop, .inl (cI, 6, .inl f_drop))] [.ref a_this, .int p0, .int p1]) (zQi R) 0 0 (fun _ => False) := by
  refine Met.ofW (cc := cX0_timeIn) (maxL := 3) (ret := (some .int)) (by decide) rfl ?_
  intro p e s m args below meth c s₁ B hml hv
  obtain ⟨rfl, hP, hK⟩ := hv
  have hx := B.exec
  have hb := B.bytes
  have hr := B.returns
  have hts := atoms_spec (ws := wsX0_timeIn) B.pre
  have hown : s.vm.findClass RX0 = some m.cls := findClass_of_methodNamed B.named
  have hlocks := B.notSynchronized
  have hinX0 : ∀ w ∈ wsX00, w ∈ wsX0_timeIn := fun _ h => (List.mem_cons_of_mem _ (List.mem_append_right _ h))
  have hP : va_P D vwCl [(a_this, .inr (0, [.int f_relays, .ref a_branches, .ref a_closing, .ref a_opening, .ref a_pull, .ref a_drop, .ref a_changed, .int f_inputs, .int f_motion, .int f_ticks, .int f_changes])), (a_pull, .inl (cI, 6, .inl f_pull)), (a_drop, .inl (cI, 6, .inl f_drop))] s.heap := hP
  have hK : va_K D vwCl (ztys cI cC cO cJ) s := hK
  have hl := lv_entry ([.ref a_this, .int p0, .int p1]) (n := 3) (Nat.le_of_ble_eq_true rfl)
  rw [lg_entry_eq]
  generalize (lg_sl ([.ref a_this, .int p0, .int p1]) ++ List.replicate (3 - (lg_sl ([.ref a_this, .int p0, .int p1])).length) Slot.unset).toArray = ls at hl ⊢
  have hl : lv_has ls 3 [(0, .ref a_this), (1, .int p0), (2, .int p1)] := hl
  unfold F_X0_timeIn at h
  refine lv_iload_n hx hb dX0_timeIn_0 rfl (lv_at hl 1 rfl) ?_
  refine lv_iload_n hx hb dX0_timeIn_1 rfl (lv_at hl 2 rfl) ?_
  refine lv_ishr hx hb dX0_timeIn_2 ?_
  refine lv_iconst (v := (1 : Int32)) hx hb dX0_timeIn_3 (by decide) ?_
  refine lv_iand hx hb dX0_timeIn_4 ?_
  refine lv_iconst (v := (1 : Int32)) hx hb dX0_timeIn_5 (by decide) ?_
  refine lv_icmp_ne (tgt := 18) hx hb dX0_timeIn_6 (by decide) (fun c1 => ?_) (fun c1 => ?_)
  · have h := zif_f c1 h
    refine lv_aload_n hx hb dX0_timeIn_18 rfl (lv_at hl 0 rfl) ?_
    refine va_get (D := D) (ci := 0) (v := .ref a_pull) (C := RX0) (T := TX0) (N := 11) hx hb hts hinX0 hown hK hP 0 rfl rfl 4 (by decide) (hts (Cond.fieldLink RX0 21 "LadderRelays$Ladder" "pull" "[I") (List.mem_of_getElem? (i := 2) rfl)) (fun _ h9 => h9) rfl dX0_timeIn_19 ?_
    refine lv_iload_n hx hb dX0_timeIn_22 rfl (lv_at hl 2 rfl) ?_
    obtain ⟨v2, hv2, h⟩ := zbnd h
    refine zr_iald hx hb hK hP 1 0 rfl rfl hv2 dX0_timeIn_23 ?_
    have hR := Option.some.inj h
    subst hR
    exact W.iret (v := v2) hx hb hr (fun t ht hW => ⟨_, rfl, rfl, ht⟩) (fun q hq => absurd hq List.not_mem_nil) dX0_timeIn_24
  · have h := zif_t c1 h
    refine lv_aload_n hx hb dX0_timeIn_9 rfl (lv_at hl 0 rfl) ?_
    refine va_get (D := D) (ci := 0) (v := .ref a_drop) (C := RX0) (T := TX0) (N := 11) hx hb hts hinX0 hown hK hP 0 rfl rfl 5 (by decide) (hts (Cond.fieldLink RX0 24 "LadderRelays$Ladder" "drop" "[I") (List.mem_of_getElem? (i := 1) rfl)) (fun _ h9 => h9) rfl dX0_timeIn_10 ?_
    refine lv_iload_n hx hb dX0_timeIn_13 rfl (lv_at hl 2 rfl) ?_
    obtain ⟨v3, hv3, h⟩ := zbnd h
    refine zr_iald hx hb hK hP 2 0 rfl rfl hv3 dX0_timeIn_14 ?_
    refine lv_goto (tgt := 24) hx hb dX0_timeIn_15 (by decide) ?_
    have hR := Option.some.inj h
    subst hR
    exact W.iret (v := v3) hx hb hr (fun t ht hW => ⟨_, rfl, rfl, ht⟩) (fun q hq => absurd hq List.not_mem_nil) dX0_timeIn_24
def F_X0_dueIn_E52  (v1 : Int32) (v2 : Int32) : Option (Int32) := some v1
def F_X0_dueIn_L5 (fu : Nat) (f_drop : Nat → Int32) (f_pull : Nat → Int32) (f_relays : Int32) (p0 : Int32) (p1 : Int32) (k5 : Int32 → Int32 → Option (Int32)) (rec5 : Int32 → Int32 → Option (Int32)) (v3 : Int32) (v4 : Int32) : Option (Int32) := if f_relays ≤ v4 then k5 v3 v4 else (F_X0_isIn fu p1 v4).bind fun v6 => if v6 = (0 : Int32) then rec5 v3 (v4 + (1 : Int32)) else (F_X0_countIn fu p0 v4).bind fun v8 => (F_X0_timeIn fu f_pull f_drop p0 v4).bind fun v9 => if v8 ≤ v9 then rec5 v3 (v4 + (1 : Int32)) else rec5 (v3 ||| ((1 : Int32) <<< (v4 &&& (31 : Int32)))) (v4 + (1 : Int32))
def F_X0_dueIn (fu : Nat) (f_relays : Int32) (f_pull : Nat → Int32) (f_drop : Nat → Int32) (p0 : Int32) (p1 : Int32) : Option (Int32) := zlp2 (F_X0_dueIn_L5 fu f_drop f_pull f_relays p0 p1 (F_X0_dueIn_E52)) fu (0 : Int32) (0 : Int32)
set_option maxHeartbeats 4000000 in
set_option maxRecDepth 100000 in
theorem c_X0_dueIn (l : Launch) (D : va_G) (cI cC cO cJ : ClassId) (fu : Nat) (a_this a_branches a_closing a_opening a_pull a_drop a_changed : Nat) (f_relays : Int32) (f_inputs : Int32) (f_motion : Int32) (f_ticks : Int32) (f_changes : Int32) (f_pull : Nat → Int32) (f_drop : Nat → Int32) (p0 : Int32) (p1 : Int32) (R : Int32) (h : F_X0_dueIn fu f_relays f_pull f_drop p0 p1 = some R) : Met l yX0_dueIn wsX0_dueIn ({ frames := 1, cells := 0, slots := 0, locals := 22 } : Room) (zPr D (ztys cI cC cO cJ) [(a_this, .inr (0, [.int f_relays, .ref a_branches, .ref a_closing, .ref a_opening, .ref a_pull, .ref a_drop, .ref a_changed, .int f_inputs, .int f_motion, .int f_ticks, .int f_changes])), (a_pull, .inl (cI, 6, .inl f_pull)), (a_drop, .inl (cI, 6, .inl f_drop))] [.ref a_this, .int p0, .int p1]) (zQi R) 0 0 (fun _ => False) := by
  refine Met.ofW (cc := cX0_dueIn) (maxL := 5) (ret := (some .int)) (by decide) rfl ?_
  intro p e s m args below meth c s₁ B hml hv
  obtain ⟨rfl, hP, hK⟩ := hv
  have hx := B.exec
  have hb := B.bytes
  have hr := B.returns
  have hts := atoms_spec (ws := wsX0_dueIn) B.pre
  have hown : s.vm.findClass RX0 = some m.cls := findClass_of_methodNamed B.named
  have hlocks := B.notSynchronized
  have hinX0 : ∀ w ∈ wsX00, w ∈ wsX0_dueIn := fun _ h => (List.mem_cons_of_mem _ (List.mem_append_right _ h))
  have hP : va_P D vwCl [(a_this, .inr (0, [.int f_relays, .ref a_branches, .ref a_closing, .ref a_opening, .ref a_pull, .ref a_drop, .ref a_changed, .int f_inputs, .int f_motion, .int f_ticks, .int f_changes])), (a_pull, .inl (cI, 6, .inl f_pull)), (a_drop, .inl (cI, 6, .inl f_drop))] s.heap := hP
  have hK : va_K D vwCl (ztys cI cC cO cJ) s := hK
  have hl := lv_entry ([.ref a_this, .int p0, .int p1]) (n := 5) (Nat.le_of_ble_eq_true rfl)
  rw [lg_entry_eq]
  generalize (lg_sl ([.ref a_this, .int p0, .int p1]) ++ List.replicate (5 - (lg_sl ([.ref a_this, .int p0, .int p1])).length) Slot.unset).toArray = ls at hl ⊢
  have hl : lv_has ls 5 [(0, .ref a_this), (1, .int p0), (2, .int p1)] := hl
  unfold F_X0_dueIn at h
  refine lv_iconst (v := (0 : Int32)) hx hb dX0_dueIn_0 (by decide) ?_
  refine lv_istore_n (lv' := [(3, .int (0 : Int32)), (0, .ref a_this), (1, .int p0), (2, .int p1)]) hx hb dX0_dueIn_1 rfl hl (by decide) rfl (fun ls hl => ?_)
  refine lv_iconst (v := (0 : Int32)) hx hb dX0_dueIn_2 (by decide) ?_
  refine lv_istore (lv' := [(4, .int (0 : Int32)), (3, .int (0 : Int32)), (0, .ref a_this), (1, .int p0), (2, .int p1)]) hx hb dX0_dueIn_3 hl (by decide) rfl (fun ls hl => ?_)
  have E52 : ∀ (v1 : Int32) (v2 : Int32), F_X0_dueIn_E52 v1 v2 = some R → ∀ ls : Array Slot, lv_has ls 5 [(0, .ref a_this), (1, .int p0), (2, .int p1), (3, .int v1), (4, .int v2)] → W p l e ({ frames := 1, cells := 0, slots := 0, locals := 22 } : Room) s m (([.ref a_this, .int p0, .int p1] : List Value).toArray) below meth c s.heap [] 0 0 (MQ below (zQi R) (([.ref a_this, .int p0, .int p1] : List Value).toArray) s 0 0 (fun _ => False)) (F0 m 52 ls []) := by
    intro v1 v2 h ls hl
    unfold F_X0_dueIn_E52 at h
    refine lv_iload_n hx hb dX0_dueIn_52 rfl (lv_at hl 3 rfl) ?_
    have hR := Option.some.inj h
    subst hR
    exact W.iret (v := v1) hx hb hr (fun t ht hW => ⟨_, rfl, rfl, ht⟩) (fun q hq => absurd hq List.not_mem_nil) dX0_dueIn_53
  refine zlp_i2 (R := R) (P := fun (v3 : Int32) (v4 : Int32) => ∀ ls : Array Slot, lv_has ls 5 [(0, .ref a_this), (1, .int p0), (2, .int p1), (3, .int v3), (4, .int v4)] → W p l e ({ frames := 1, cells := 0, slots := 0, locals := 22 } : Room) s m (([.ref a_this, .int p0, .int p1] : List Value).toArray) below meth c s.heap [] 0 0 (MQ below (zQi R) (([.ref a_this, .int p0, .int p1] : List Value).toArray) s 0 0 (fun _ => False)) (F0 m 5 ls [])) (fun rec5 ih5 v3 v4 h => ?_) fu (0 : Int32) (0 : Int32) h ls (lv_sub hl [2, 3, 4, 1, 0] rfl)
  intro ls hl
  unfold F_X0_dueIn_L5 at h
  refine lv_iload hx hb dX0_dueIn_5 (lv_at hl 4 rfl) ?_
  refine lv_aload_n hx hb dX0_dueIn_7 rfl (lv_at hl 0 rfl) ?_
  refine va_get (D := D) (ci := 0) (v := .int f_relays) (C := RX0) (T := TX0) (N := 11) hx hb hts hinX0 hown hK hP 0 rfl rfl 0 (by decide) (hts (Cond.fieldLink RX0 30 "LadderRelays$Ladder" "relays" "I") (List.mem_of_getElem? (i := 1) rfl)) (fun _ h9 => h9) rfl dX0_dueIn_8 ?_
  refine lv_icmp_ge (tgt := 52) hx hb dX0_dueIn_11 (by decide) (fun c5 => ?_) (fun c5 => ?_)
  · have h := zif_t c5 h
    exact E52 v3 v4 h ls (lv_sub hl [0, 1, 2, 3, 4] rfl)
  · have h := zif_f c5 h
    refine lv_iload_n hx hb dX0_dueIn_14 rfl (lv_at hl 2 rfl) ?_
    refine lv_iload hx hb dX0_dueIn_15 (lv_at hl 4 rfl) ?_
    obtain ⟨v6, hv6, h⟩ := zbnd h
    refine zc_i (W.runS (As := [.int p1, .int v4]) (rest := []) ⟨hx, hb, hml, hown, hts⟩ (c_X0_isIn l D cI cC cO cJ fu p1 v4 v6 hv6) (va_cwS 2 hts gX0_dueIn_X0_isIn rfl rfl rfl (by decide +kernel) ⟨Nat.le_of_ble_eq_true rfl, Nat.le_of_ble_eq_true rfl⟩) (zPr_S hK zP_nil) rfl rfl hl.1 rfl (lv_room (Nat.le_of_ble_eq_true rfl)) dX0_dueIn_17 ⟨Nat.zero_le _, Nat.zero_le _⟩) ?_
    refine lv_if_eq (tgt := 46) hx hb dX0_dueIn_20 (by decide) (fun c7 => ?_) (fun c7 => ?_)
    · have h := zif_t c7 h
      refine lv_iinc (v := (v4 + (1 : Int32))) (lv' := [(4, .int (v4 + (1 : Int32))), (0, .ref a_this), (1, .int p0), (2, .int p1), (3, .int v3)]) hx hb dX0_dueIn_46 hl (k := 4) rfl rfl (by decide) rfl (fun ls hl => ?_)
      refine lv_goto (tgt := 5) hx hb dX0_dueIn_49 (by decide) ?_
      exact ih5 v3 (v4 + (1 : Int32)) h ls (lv_sub hl [1, 2, 3, 4, 0] rfl)
    · have h := zif_f c7 h
      refine lv_iload_n hx hb dX0_dueIn_23 rfl (lv_at hl 1 rfl) ?_
      refine lv_iload hx hb dX0_dueIn_24 (lv_at hl 4 rfl) ?_
      obtain ⟨v8, hv8, h⟩ := zbnd h
      refine zc_i (W.runS (As := [.int p0, .int v4]) (rest := []) ⟨hx, hb, hml, hown, hts⟩ (c_X0_countIn l D cI cC cO cJ fu p0 v4 v8 hv8) (va_cwS 2 hts gX0_dueIn_X0_countIn rfl rfl rfl (by decide +kernel) ⟨Nat.le_of_ble_eq_true rfl, Nat.le_of_ble_eq_true rfl⟩) (zPr_S hK zP_nil) rfl rfl hl.1 rfl (lv_room (Nat.le_of_ble_eq_true rfl)) dX0_dueIn_26 ⟨Nat.zero_le _, Nat.zero_le _⟩) ?_
      refine lv_aload_n hx hb dX0_dueIn_29 rfl (lv_at hl 0 rfl) ?_
      refine lv_iload_n hx hb dX0_dueIn_30 rfl (lv_at hl 1 rfl) ?_
      refine lv_iload hx hb dX0_dueIn_31 (lv_at hl 4 rfl) ?_
      obtain ⟨v9, hv9, h⟩ := zbnd h
      refine zc_i (W.runV (C := RX0) (As := [.int p0, .int v4]) (rest := [.int v8]) ⟨hx, hb, hml, hown, hts⟩ (c_X0_timeIn l D cI cC cO cJ fu a_this a_branches a_closing a_opening a_pull a_drop a_changed f_relays f_inputs f_motion f_ticks f_changes f_pull f_drop p0 v4 v9 hv9) (cwV 2 hts gX0_dueIn_X0_timeIn rfl rfl rfl (by decide +kernel) ⟨Nat.le_of_ble_eq_true rfl, Nat.le_of_ble_eq_true rfl⟩) ⟨zPr_blind, (va_recv hK hP (q0 := 0) (ci := 0) rfl rfl), zPr_pre hK hP⟩ rfl rfl hl.1 rfl (lv_room (Nat.le_of_ble_eq_true rfl)) dX0_dueIn_33 ⟨Nat.zero_le _, Nat.zero_le _⟩) ?_
      refine lv_icmp_le (tgt := 46) hx hb dX0_dueIn_36 (by decide) (fun c10 => ?_) (fun c10 => ?_)
      · have h := zif_t c10 h
        refine lv_iinc (v := (v4 + (1 : Int32))) (lv' := [(4, .int (v4 + (1 : Int32))), (0, .ref a_this), (1, .int p0), (2, .int p1), (3, .int v3)]) hx hb dX0_dueIn_46 hl (k := 4) rfl rfl (by decide) rfl (fun ls hl => ?_)
        refine lv_goto (tgt := 5) hx hb dX0_dueIn_49 (by decide) ?_
        exact ih5 v3 (v4 + (1 : Int32)) h ls (lv_sub hl [1, 2, 3, 4, 0] rfl)
      · have h := zif_f c10 h
        refine lv_iload_n hx hb dX0_dueIn_39 rfl (lv_at hl 3 rfl) ?_
        refine lv_iconst (v := (1 : Int32)) hx hb dX0_dueIn_40 (by decide) ?_
        refine lv_iload hx hb dX0_dueIn_41 (lv_at hl 4 rfl) ?_
        refine lv_ishl hx hb dX0_dueIn_43 ?_
        refine lv_ior hx hb dX0_dueIn_44 ?_
        refine lv_istore_n (lv' := [(3, .int (v3 ||| ((1 : Int32) <<< (v4 &&& (31 : Int32))))), (0, .ref a_this), (1, .int p0), (2, .int p1), (4, .int v4)]) hx hb dX0_dueIn_45 rfl hl (by decide) rfl (fun ls hl => ?_)
        refine lv_iinc (v := (v4 + (1 : Int32))) (lv' := [(4, .int (v4 + (1 : Int32))), (3, .int (v3 ||| ((1 : Int32) <<< (v4 &&& (31 : Int32))))), (0, .ref a_this), (1, .int p0), (2, .int p1)]) hx hb dX0_dueIn_46 hl (k := 4) rfl rfl (by decide) rfl (fun ls hl => ?_)
        refine lv_goto (tgt := 5) hx hb dX0_dueIn_49 (by decide) ?_
        exact ih5 (v3 ||| ((1 : Int32) <<< (v4 &&& (31 : Int32)))) (v4 + (1 : Int32)) h ls (lv_sub hl [2, 3, 4, 1, 0] rfl)
def F_X0_turned_E39  (v1 : Int32) (v2 : Int32) : Option (Int32) := some v1
def F_X0_turned_L7 (fu : Nat) (f_relays : Int32) (p1 : Int32) (k7 : Int32 → Int32 → Option (Int32)) (rec7 : Int32 → Int32 → Option (Int32)) (v3 : Int32) (v4 : Int32) : Option (Int32) := if f_relays ≤ v4 then k7 v3 v4 else (F_X0_isIn fu p1 v4).bind fun v6 => if v6 = (0 : Int32) then rec7 v3 (v4 + (1 : Int32)) else (F_X0_withCount fu v3 v4 (0 : Int32)).bind fun v8 => rec7 v8 (v4 + (1 : Int32))
def F_X0_turned (fu : Nat) (f_relays : Int32) (p0 : Int32) (p1 : Int32) : Option (Int32) := zlp2 (F_X0_turned_L7 fu f_relays p1 (F_X0_turned_E39)) fu (p0 ^^^ p1) (0 : Int32)
set_option maxHeartbeats 4000000 in
set_option maxRecDepth 100000 in
theorem c_X0_turned (l : Launch) (D : va_G) (cI cC cO cJ : ClassId) (fu : Nat) (a_this a_branches a_closing a_opening a_pull a_drop a_changed : Nat) (f_relays : Int32) (f_inputs : Int32) (f_motion : Int32) (f_ticks : Int32) (f_changes : Int32) (p0 : Int32) (p1 : Int32) (R : Int32) (h : F_X0_turned fu f_relays p0 p1 = some R) : Met l yX0_turned wsX0_turned ({ frames := 1, cells := 0, slots := 0, locals := 23 } : Room) (zPr D (ztys cI cC cO cJ) [(a_this, .inr (0, [.int f_relays, .ref a_branches, .ref a_closing, .ref a_opening, .ref a_pull, .ref a_drop, .ref a_changed, .int f_inputs, .int f_motion, .int f_ticks, .int f_changes]))] [.ref a_this, .int p0, .int p1]) (zQi R) 0 0 (fun _ => False) := by
  refine Met.ofW (cc := cX0_turned) (maxL := 5) (ret := (some .int)) (by decide) rfl ?_
  intro p e s m args below meth c s₁ B hml hv
  obtain ⟨rfl, hP, hK⟩ := hv
  have hx := B.exec
  have hb := B.bytes
  have hr := B.returns
  have hts := atoms_spec (ws := wsX0_turned) B.pre
  have hown : s.vm.findClass RX0 = some m.cls := findClass_of_methodNamed B.named
  have hlocks := B.notSynchronized
  have hinX0 : ∀ w ∈ wsX00, w ∈ wsX0_turned := fun _ h => (List.mem_cons_of_mem _ (List.mem_append_right _ h))
  have hP : va_P D vwCl [(a_this, .inr (0, [.int f_relays, .ref a_branches, .ref a_closing, .ref a_opening, .ref a_pull, .ref a_drop, .ref a_changed, .int f_inputs, .int f_motion, .int f_ticks, .int f_changes]))] s.heap := hP
  have hK : va_K D vwCl (ztys cI cC cO cJ) s := hK
  have hl := lv_entry ([.ref a_this, .int p0, .int p1]) (n := 5) (Nat.le_of_ble_eq_true rfl)
  rw [lg_entry_eq]
  generalize (lg_sl ([.ref a_this, .int p0, .int p1]) ++ List.replicate (5 - (lg_sl ([.ref a_this, .int p0, .int p1])).length) Slot.unset).toArray = ls at hl ⊢
  have hl : lv_has ls 5 [(0, .ref a_this), (1, .int p0), (2, .int p1)] := hl
  unfold F_X0_turned at h
  refine lv_iload_n hx hb dX0_turned_0 rfl (lv_at hl 1 rfl) ?_
  refine lv_iload_n hx hb dX0_turned_1 rfl (lv_at hl 2 rfl) ?_
  refine lv_ixor hx hb dX0_turned_2 ?_
  refine lv_istore_n (lv' := [(3, .int (p0 ^^^ p1)), (0, .ref a_this), (1, .int p0), (2, .int p1)]) hx hb dX0_turned_3 rfl hl (by decide) rfl (fun ls hl => ?_)
  refine lv_iconst (v := (0 : Int32)) hx hb dX0_turned_4 (by decide) ?_
  refine lv_istore (lv' := [(4, .int (0 : Int32)), (3, .int (p0 ^^^ p1)), (0, .ref a_this), (1, .int p0), (2, .int p1)]) hx hb dX0_turned_5 hl (by decide) rfl (fun ls hl => ?_)
  have E39 : ∀ (v1 : Int32) (v2 : Int32), F_X0_turned_E39 v1 v2 = some R → ∀ ls : Array Slot, lv_has ls 5 [(0, .ref a_this), (1, .int p0), (2, .int p1), (3, .int v1), (4, .int v2)] → W p l e ({ frames := 1, cells := 0, slots := 0, locals := 23 } : Room) s m (([.ref a_this, .int p0, .int p1] : List Value).toArray) below meth c s.heap [] 0 0 (MQ below (zQi R) (([.ref a_this, .int p0, .int p1] : List Value).toArray) s 0 0 (fun _ => False)) (F0 m 39 ls []) := by
    intro v1 v2 h ls hl
    unfold F_X0_turned_E39 at h
    refine lv_iload_n hx hb dX0_turned_39 rfl (lv_at hl 3 rfl) ?_
    have hR := Option.some.inj h
    subst hR
    exact W.iret (v := v1) hx hb hr (fun t ht hW => ⟨_, rfl, rfl, ht⟩) (fun q hq => absurd hq List.not_mem_nil) dX0_turned_40
  refine zlp_i2 (R := R) (P := fun (v3 : Int32) (v4 : Int32) => ∀ ls : Array Slot, lv_has ls 5 [(0, .ref a_this), (1, .int p0), (2, .int p1), (3, .int v3), (4, .int v4)] → W p l e ({ frames := 1, cells := 0, slots := 0, locals := 23 } : Room) s m (([.ref a_this, .int p0, .int p1] : List Value).toArray) below meth c s.heap [] 0 0 (MQ below (zQi R) (([.ref a_this, .int p0, .int p1] : List Value).toArray) s 0 0 (fun _ => False)) (F0 m 7 ls [])) (fun rec7 ih7 v3 v4 h => ?_) fu (p0 ^^^ p1) (0 : Int32) h ls (lv_sub hl [2, 3, 4, 1, 0] rfl)
  intro ls hl
  unfold F_X0_turned_L7 at h
  refine lv_iload hx hb dX0_turned_7 (lv_at hl 4 rfl) ?_
  refine lv_aload_n hx hb dX0_turned_9 rfl (lv_at hl 0 rfl) ?_
  refine va_get (D := D) (ci := 0) (v := .int f_relays) (C := RX0) (T := TX0) (N := 11) hx hb hts hinX0 hown hK hP 0 rfl rfl 0 (by decide) (hts (Cond.fieldLink RX0 30 "LadderRelays$Ladder" "relays" "I") (List.mem_of_getElem? (i := 1) rfl)) (fun _ h9 => h9) rfl dX0_turned_10 ?_
  refine lv_icmp_ge (tgt := 39) hx hb dX0_turned_13 (by decide) (fun c5 => ?_) (fun c5 => ?_)
  · have h := zif_t c5 h
    exact E39 v3 v4 h ls (lv_sub hl [0, 1, 2, 3, 4] rfl)
  · have h := zif_f c5 h
    refine lv_iload_n hx hb dX0_turned_16 rfl (lv_at hl 2 rfl) ?_
    refine lv_iload hx hb dX0_turned_17 (lv_at hl 4 rfl) ?_
    obtain ⟨v6, hv6, h⟩ := zbnd h
    refine zc_i (W.runS (As := [.int p1, .int v4]) (rest := []) ⟨hx, hb, hml, hown, hts⟩ (c_X0_isIn l D cI cC cO cJ fu p1 v4 v6 hv6) (va_cwS 2 hts gX0_turned_X0_isIn rfl rfl rfl (by decide +kernel) ⟨Nat.le_of_ble_eq_true rfl, Nat.le_of_ble_eq_true rfl⟩) (zPr_S hK zP_nil) rfl rfl hl.1 rfl (lv_room (Nat.le_of_ble_eq_true rfl)) dX0_turned_19 ⟨Nat.zero_le _, Nat.zero_le _⟩) ?_
    refine lv_if_eq (tgt := 33) hx hb dX0_turned_22 (by decide) (fun c7 => ?_) (fun c7 => ?_)
    · have h := zif_t c7 h
      refine lv_iinc (v := (v4 + (1 : Int32))) (lv' := [(4, .int (v4 + (1 : Int32))), (0, .ref a_this), (1, .int p0), (2, .int p1), (3, .int v3)]) hx hb dX0_turned_33 hl (k := 4) rfl rfl (by decide) rfl (fun ls hl => ?_)
      refine lv_goto (tgt := 7) hx hb dX0_turned_36 (by decide) ?_
      exact ih7 v3 (v4 + (1 : Int32)) h ls (lv_sub hl [1, 2, 3, 4, 0] rfl)
    · have h := zif_f c7 h
      refine lv_iload_n hx hb dX0_turned_25 rfl (lv_at hl 3 rfl) ?_
      refine lv_iload hx hb dX0_turned_26 (lv_at hl 4 rfl) ?_
      refine lv_iconst (v := (0 : Int32)) hx hb dX0_turned_28 (by decide) ?_
      obtain ⟨v8, hv8, h⟩ := zbnd h
      refine zc_i (W.runS (As := [.int v3, .int v4, .int (0 : Int32)]) (rest := []) ⟨hx, hb, hml, hown, hts⟩ (c_X0_withCount l D cI cC cO cJ fu v3 v4 (0 : Int32) v8 hv8) (va_cwS 3 hts gX0_turned_X0_withCount rfl rfl rfl (by decide +kernel) ⟨Nat.le_of_ble_eq_true rfl, Nat.le_of_ble_eq_true rfl⟩) (zPr_S hK zP_nil) rfl rfl hl.1 rfl (lv_room (Nat.le_of_ble_eq_true rfl)) dX0_turned_29 ⟨Nat.zero_le _, Nat.zero_le _⟩) ?_
      refine lv_istore_n (lv' := [(3, .int v8), (0, .ref a_this), (1, .int p0), (2, .int p1), (4, .int v4)]) hx hb dX0_turned_32 rfl hl (by decide) rfl (fun ls hl => ?_)
      refine lv_iinc (v := (v4 + (1 : Int32))) (lv' := [(4, .int (v4 + (1 : Int32))), (3, .int v8), (0, .ref a_this), (1, .int p0), (2, .int p1)]) hx hb dX0_turned_33 hl (k := 4) rfl rfl (by decide) rfl (fun ls hl => ?_)
      refine lv_goto (tgt := 7) hx hb dX0_turned_36 (by decide) ?_
      exact ih7 v8 (v4 + (1 : Int32)) h ls (lv_sub hl [2, 3, 4, 1, 0] rfl)
def F_X0_tick_E66 (fu : Nat) (f_changes : Int32) (f_ticks : Int32) (v3 : Int32) (v4 : Int32) (v5 : Int32) (v6 : Nat → Int32) : Option (Int32 × Int32 × Int32 × (Nat → Int32)) := (F_J6_bitCount_0f7a4 fu v3).bind fun v7 => some (v4, (f_ticks + (1 : Int32)), (f_changes + v7), v6)
def F_X0_tick_L35 (f_relays : Int32) (v3 : Int32) (k35 : Int32 → (Nat → Int32) → Option (Int32 × Int32 × Int32 × (Nat → Int32))) (rec35 : Int32 → (Nat → Int32) → Option (Int32 × Int32 × Int32 × (Nat → Int32))) (v8 : Int32) (v9 : Nat → Int32) : Option (Int32 × Int32 × Int32 × (Nat → Int32)) := if f_relays ≤ v8 then k35 v8 v9 else (zrd v9 6 v8).bind fun v11 => (zwr v9 6 v8 (v11 + ((v3 >>> (v8 &&& (31 : Int32))) &&& (1 : Int32)))).bind fun v12 => rec35 (v8 + (1 : Int32)) v12
def F_X0_tick (fu : Nat) (f_relays : Int32) (f_inputs : Int32) (f_motion : Int32) (f_ticks : Int32) (f_changes : Int32) (f_branches : Nat → Int32) (f_closing : Nat → Int32) (f_opening : Nat → Int32) (f_pull : Nat → Int32) (f_drop : Nat → Int32) (f_changed : Nat → Int32) : Option (Int32 × Int32 × Int32 × (Nat → Int32)) := (F_X0_restless fu f_relays f_inputs f_motion f_branches f_closing f_opening).bind fun v1 => (F_X0_counted fu f_relays f_motion v1).bind fun v2 => (F_X0_dueIn fu f_relays f_pull f_drop v2 v1).bind fun v3 => (F_X0_turned fu f_relays v2 v3).bind fun v4 => zlp2 (F_X0_tick_L35 f_relays v3 (F_X0_tick_E66 fu f_changes f_ticks v3 v4)) fu (0 : Int32) f_changed
set_option maxHeartbeats 4000000 in
set_option maxRecDepth 100000 in
theorem c_X0_tick (l : Launch) (D : va_G) (cI cC cO cJ : ClassId) (fu : Nat) (a_this a_branches a_closing a_opening a_pull a_drop a_changed : Nat) (sz : Nat) (f_relays : Int32) (f_inputs : Int32) (f_motion : Int32) (f_ticks : Int32) (f_changes : Int32) (f_branches : Nat → Int32) (f_closing : Nat → Int32) (f_opening : Nat → Int32) (f_pull : Nat → Int32) (f_drop : Nat → Int32) (f_changed : Nat → Int32) (R : Int32 × Int32 × Int32 × (Nat → Int32)) (h : F_X0_tick fu f_relays f_inputs f_motion f_ticks f_changes f_branches f_closing f_opening f_pull f_drop f_changed = some R) : Met l yX0_tick wsX0_tick ({ frames := 3, cells := 0, slots := 0, locals := 60 } : Room) (zPw D (ztys cI cC cO cJ) [(a_this, .inr (0, [.int f_relays, .ref a_branches, .ref a_closing, .ref a_opening, .ref a_pull, .ref a_drop, .ref a_changed, .int f_inputs, .int f_motion, .int f_ticks, .int f_changes])), (a_branches, .inl (cI, 6, .inl f_branches)), (a_closing, .inl (cI, 24, .inl f_closing)), (a_opening, .inl (cI, 24, .inl f_opening)), (a_pull, .inl (cI, 6, .inl f_pull)), (a_drop, .inl (cI, 6, .inl f_drop)), (a_changed, .inl (cI, 6, .inl f_changed))] sz [.ref a_this]) (zWv D [(a_this, .inr (0, [.int f_relays, .ref a_branches, .ref a_closing, .ref a_opening, .ref a_pull, .ref a_drop, .ref a_changed, .int f_inputs, .int R.1, .int R.2.1, .int R.2.2.1])), (a_branches, .inl (cI, 6, .inl f_branches)), (a_closing, .inl (cI, 24, .inl f_closing)), (a_opening, .inl (cI, 24, .inl f_opening)), (a_pull, .inl (cI, 6, .inl f_pull)), (a_drop, .inl (cI, 6, .inl f_drop)), (a_changed, .inl (cI, 6, .inl R.2.2.2))] (va_A [(a_this, .inr (0, [.int f_relays, .ref a_branches, .ref a_closing, .ref a_opening, .ref a_pull, .ref a_drop, .ref a_changed, .int f_inputs, .int f_motion, .int f_ticks, .int f_changes])), (a_branches, .inl (cI, 6, .inl f_branches)), (a_closing, .inl (cI, 24, .inl f_closing)), (a_opening, .inl (cI, 24, .inl f_opening)), (a_pull, .inl (cI, 6, .inl f_pull)), (a_drop, .inl (cI, 6, .inl f_drop)), (a_changed, .inl (cI, 6, .inl f_changed))] sz)) 0 0 (va_A [(a_this, .inr (0, [.int f_relays, .ref a_branches, .ref a_closing, .ref a_opening, .ref a_pull, .ref a_drop, .ref a_changed, .int f_inputs, .int f_motion, .int f_ticks, .int f_changes])), (a_branches, .inl (cI, 6, .inl f_branches)), (a_closing, .inl (cI, 24, .inl f_closing)), (a_opening, .inl (cI, 24, .inl f_opening)), (a_pull, .inl (cI, 6, .inl f_pull)), (a_drop, .inl (cI, 6, .inl f_drop)), (a_changed, .inl (cI, 6, .inl f_changed))] sz) := by
  refine Met.ofW (cc := cX0_tick) (maxL := 5) (ret := none) (by decide) rfl ?_
  intro p e s m args below meth c s₁ B hml hv
  obtain ⟨rfl, hsz, hP, hK, hD0⟩ := hv
  have hx := B.exec
  have hb := B.bytes
  have hr := B.returns
  have hts := atoms_spec (ws := wsX0_tick) B.pre
  have hown : s.vm.findClass RX0 = some m.cls := findClass_of_methodNamed B.named
  have hlocks := B.notSynchronized
  have hinX0 : ∀ w ∈ wsX00, w ∈ wsX0_tick := fun _ h => (List.mem_cons_of_mem _ (List.mem_append_right _ h))
  subst hsz
  have hD := hD0.self (sz := s.heap.size)
  generalize hAe : va_A [(a_this, .inr (0, [.int f_relays, .ref a_branches, .ref a_closing, .ref a_opening, .ref a_pull, .ref a_drop, .ref a_changed, .int f_inputs, .int f_motion, .int f_ticks, .int f_changes])), (a_branches, .inl (cI, 6, .inl f_branches)), (a_closing, .inl (cI, 24, .inl f_closing)), (a_opening, .inl (cI, 24, .inl f_opening)), (a_pull, .inl (cI, 6, .inl f_pull)), (a_drop, .inl (cI, 6, .inl f_drop)), (a_changed, .inl (cI, 6, .inl f_changed))] s.heap.size = A at hD ⊢
  have hA : ∀ q : Nat, s.heap.size ≤ q → A q := fun q h => by rw [← hAe]; exact Or.inr h
  have hS : va_S A s.heap s.heap [] := va_S.rf
  have hP : va_P D vwCl [(a_this, .inr (0, [.int f_relays, .ref a_branches, .ref a_closing, .ref a_opening, .ref a_pull, .ref a_drop, .ref a_changed, .int f_inputs, .int f_motion, .int f_ticks, .int f_changes])), (a_branches, .inl (cI, 6, .inl f_branches)), (a_closing, .inl (cI, 24, .inl f_closing)), (a_opening, .inl (cI, 24, .inl f_opening)), (a_pull, .inl (cI, 6, .inl f_pull)), (a_drop, .inl (cI, 6, .inl f_drop)), (a_changed, .inl (cI, 6, .inl f_changed))] s.heap := hP
  have hK : va_K D vwCl (ztys cI cC cO cJ) s := hK
  have hl := lv_entry ([.ref a_this]) (n := 5) (Nat.le_of_ble_eq_true rfl)
  rw [lg_entry_eq]
  generalize (lg_sl ([.ref a_this]) ++ List.replicate (5 - (lg_sl ([.ref a_this])).length) Slot.unset).toArray = ls at hl ⊢
  have hl : lv_has ls 5 [(0, .ref a_this)] := hl
  unfold F_X0_tick at h
  refine lv_aload_n hx hb dX0_tick_0 rfl (lv_at hl 0 rfl) ?_
  obtain ⟨v1, hv1, h⟩ := zbnd h
  have hPc := hP.sub (ws' := [(a_this, .inr (0, [.int f_relays, .ref a_branches, .ref a_closing, .ref a_opening, .ref a_pull, .ref a_drop, .ref a_changed, .int f_inputs, .int f_motion, .int f_ticks, .int f_changes])), (a_branches, .inl (cI, 6, .inl f_branches)), (a_closing, .inl (cI, 24, .inl f_closing)), (a_opening, .inl (cI, 24, .inl f_opening))]) [0, 1, 2, 3] rfl
  refine zc_i (W.runV (C := RX0) (As := []) (rest := []) ⟨hx, hb, hml, hown, hts⟩ (c_X0_restless l D cI cC cO cJ fu a_this a_branches a_closing a_opening a_pull a_drop a_changed f_relays f_inputs f_motion f_ticks f_changes f_branches f_closing f_opening v1 hv1) (cwV 0 hts gX0_tick_X0_restless rfl rfl rfl (by decide +kernel) ⟨Nat.le_of_ble_eq_true rfl, Nat.le_of_ble_eq_true rfl⟩) ⟨zPr_blind, (va_recv hK hP (q0 := 0) (ci := 0) rfl rfl), zPr_pre hK hPc⟩ rfl rfl hl.1 rfl (lv_room (Nat.le_of_ble_eq_true rfl)) dX0_tick_1 ⟨Nat.zero_le _, Nat.zero_le _⟩) ?_
  refine lv_istore_n (lv' := [(1, .int v1), (0, .ref a_this)]) hx hb dX0_tick_4 rfl hl (by decide) rfl (fun ls hl => ?_)
  refine lv_aload_n hx hb dX0_tick_5 rfl (lv_at hl 1 rfl) ?_
  refine lv_aload_n hx hb dX0_tick_6 rfl (lv_at hl 1 rfl) ?_
  refine va_get (D := D) (ci := 0) (v := .int f_motion) (C := RX0) (T := TX0) (N := 11) hx hb hts hinX0 hown hK hP 0 rfl rfl 8 (by decide) (hts (Cond.fieldLink RX0 43 "LadderRelays$Ladder" "motion" "I") (List.mem_of_getElem? (i := 1) rfl)) (fun _ h9 => h9) rfl dX0_tick_7 ?_
  refine lv_iload_n hx hb dX0_tick_10 rfl (lv_at hl 0 rfl) ?_
  obtain ⟨v2, hv2, h⟩ := zbnd h
  have hPc := hP.sub (ws' := [(a_this, .inr (0, [.int f_relays, .ref a_branches, .ref a_closing, .ref a_opening, .ref a_pull, .ref a_drop, .ref a_changed, .int f_inputs, .int f_motion, .int f_ticks, .int f_changes]))]) [0] rfl
  refine zc_i (W.runV (C := RX0) (As := [.int f_motion, .int v1]) (rest := []) ⟨hx, hb, hml, hown, hts⟩ (c_X0_counted l D cI cC cO cJ fu a_this a_branches a_closing a_opening a_pull a_drop a_changed f_relays f_inputs f_motion f_ticks f_changes f_motion v1 v2 hv2) (cwV 2 hts gX0_tick_X0_counted rfl rfl rfl (by decide +kernel) ⟨Nat.le_of_ble_eq_true rfl, Nat.le_of_ble_eq_true rfl⟩) ⟨zPr_blind, (va_recv hK hP (q0 := 0) (ci := 0) rfl rfl), zPr_pre hK hPc⟩ rfl rfl hl.1 rfl (lv_room (Nat.le_of_ble_eq_true rfl)) dX0_tick_11 ⟨Nat.zero_le _, Nat.zero_le _⟩) ?_
  refine lv_istore_n (lv' := [(2, .int v2), (1, .int v1), (0, .ref a_this)]) hx hb dX0_tick_14 rfl hl (by decide) rfl (fun ls hl => ?_)
  refine lv_aload_n hx hb dX0_tick_15 rfl (lv_at hl 2 rfl) ?_
  refine lv_iload_n hx hb dX0_tick_16 rfl (lv_at hl 0 rfl) ?_
  refine lv_iload_n hx hb dX0_tick_17 rfl (lv_at hl 1 rfl) ?_
  obtain ⟨v3, hv3, h⟩ := zbnd h
  have hPc := hP.sub (ws' := [(a_this, .inr (0, [.int f_relays, .ref a_branches, .ref a_closing, .ref a_opening, .ref a_pull, .ref a_drop, .ref a_changed, .int f_inputs, .int f_motion, .int f_ticks, .int f_changes])), (a_pull, .inl (cI, 6, .inl f_pull)), (a_drop, .inl (cI, 6, .inl f_drop))]) [0, 4, 5] rfl
  refine zc_i (W.runV (C := RX0) (As := [.int v2, .int v1]) (rest := []) ⟨hx, hb, hml, hown, hts⟩ (c_X0_dueIn l D cI cC cO cJ fu a_this a_branches a_closing a_opening a_pull a_drop a_changed f_relays f_inputs f_motion f_ticks f_changes f_pull f_drop v2 v1 v3 hv3) (cwV 2 hts gX0_tick_X0_dueIn rfl rfl rfl (by decide +kernel) ⟨Nat.le_of_ble_eq_true rfl, Nat.le_of_ble_eq_true rfl⟩) ⟨zPr_blind, (va_recv hK hP (q0 := 0) (ci := 0) rfl rfl), zPr_pre hK hPc⟩ rfl rfl hl.1 rfl (lv_room (Nat.le_of_ble_eq_true rfl)) dX0_tick_18 ⟨Nat.zero_le _, Nat.zero_le _⟩) ?_
  refine lv_istore_n (lv' := [(3, .int v3), (2, .int v2), (1, .int v1), (0, .ref a_this)]) hx hb dX0_tick_21 rfl hl (by decide) rfl (fun ls hl => ?_)
  refine lv_aload_n hx hb dX0_tick_22 rfl (lv_at hl 3 rfl) ?_
  refine lv_aload_n hx hb dX0_tick_23 rfl (lv_at hl 3 rfl) ?_
  refine lv_iload_n hx hb dX0_tick_24 rfl (lv_at hl 1 rfl) ?_
  refine lv_iload_n hx hb dX0_tick_25 rfl (lv_at hl 0 rfl) ?_
  obtain ⟨v4, hv4, h⟩ := zbnd h
  have hPc := hP.sub (ws' := [(a_this, .inr (0, [.int f_relays, .ref a_branches, .ref a_closing, .ref a_opening, .ref a_pull, .ref a_drop, .ref a_changed, .int f_inputs, .int f_motion, .int f_ticks, .int f_changes]))]) [0] rfl
  refine zc_i (W.runV (C := RX0) (As := [.int v2, .int v3]) (rest := [.ref a_this]) ⟨hx, hb, hml, hown, hts⟩ (c_X0_turned l D cI cC cO cJ fu a_this a_branches a_closing a_opening a_pull a_drop a_changed f_relays f_inputs f_motion f_ticks f_changes v2 v3 v4 hv4) (cwV 2 hts gX0_tick_X0_turned rfl rfl rfl (by decide +kernel) ⟨Nat.le_of_ble_eq_true rfl, Nat.le_of_ble_eq_true rfl⟩) ⟨zPr_blind, (va_recv hK hP (q0 := 0) (ci := 0) rfl rfl), zPr_pre hK hPc⟩ rfl rfl hl.1 rfl (lv_room (Nat.le_of_ble_eq_true rfl)) dX0_tick_26 ⟨Nat.zero_le _, Nat.zero_le _⟩) ?_
  refine va_put (D := D) (ci := 0) (v := .int v4) (ty := .int) (C := RX0) (T := TX0) (N := 11) hx hb hts hinX0 tyX0 tyX0_ok nmX0 hown hK hP hD hS 0 rfl rfl 8 (by decide) (hts (Cond.fieldLink RX0 43 "LadderRelays$Ladder" "motion" "I") (List.mem_of_getElem? (i := 1) rfl)) (fun _ h9 => h9) rfl (by decide +kernel) rfl rfl (Nat.le_of_ble_eq_true rfl) dX0_tick_29 (fun H locs hP hD hS => ?_)
  have hP : va_P D vwCl [(a_this, .inr (0, [.int f_relays, .ref a_branches, .ref a_closing, .ref a_opening, .ref a_pull, .ref a_drop, .ref a_changed, .int f_inputs, .int v4, .int f_ticks, .int f_changes])), (a_branches, .inl (cI, 6, .inl f_branches)), (a_closing, .inl (cI, 24, .inl f_closing)), (a_opening, .inl (cI, 24, .inl f_opening)), (a_pull, .inl (cI, 6, .inl f_pull)), (a_drop, .inl (cI, 6, .inl f_drop)), (a_changed, .inl (cI, 6, .inl f_changed))] H := hP
  have hD : va_D A [(a_this, .inr (0, [.int f_relays, .ref a_branches, .ref a_closing, .ref a_opening, .ref a_pull, .ref a_drop, .ref a_changed, .int f_inputs, .int v4, .int f_ticks, .int f_changes])), (a_branches, .inl (cI, 6, .inl f_branches)), (a_closing, .inl (cI, 24, .inl f_closing)), (a_opening, .inl (cI, 24, .inl f_opening)), (a_pull, .inl (cI, 6, .inl f_pull)), (a_drop, .inl (cI, 6, .inl f_drop)), (a_changed, .inl (cI, 6, .inl f_changed))] := hD
  refine lv_iconst (v := (0 : Int32)) hx hb dX0_tick_32 (by decide) ?_
  refine lv_istore (lv' := [(4, .int (0 : Int32)), (3, .int v3), (2, .int v2), (1, .int v1), (0, .ref a_this)]) hx hb dX0_tick_33 hl (by decide) rfl (fun ls hl => ?_)
  have E66 : ∀ (v5 : Int32) (v6 : Nat → Int32), F_X0_tick_E66 fu f_changes f_ticks v3 v4 v5 v6 = some R → ∀ (H : Heap) (locs : List Loc), va_P D vwCl [(a_this, .inr (0, [.int f_relays, .ref a_branches, .ref a_closing, .ref a_opening, .ref a_pull, .ref a_drop, .ref a_changed, .int f_inputs, .int v4, .int f_ticks, .int f_changes])), (a_branches, .inl (cI, 6, .inl f_branches)), (a_closing, .inl (cI, 24, .inl f_closing)), (a_opening, .inl (cI, 24, .inl f_opening)), (a_pull, .inl (cI, 6, .inl f_pull)), (a_drop, .inl (cI, 6, .inl f_drop)), (a_changed, .inl (cI, 6, .inl v6))] H → va_D A [(a_this, .inr (0, [.int f_relays, .ref a_branches, .ref a_closing, .ref a_opening, .ref a_pull, .ref a_drop, .ref a_changed, .int f_inputs, .int v4, .int f_ticks, .int f_changes])), (a_branches, .inl (cI, 6, .inl f_branches)), (a_closing, .inl (cI, 24, .inl f_closing)), (a_opening, .inl (cI, 24, .inl f_opening)), (a_pull, .inl (cI, 6, .inl f_pull)), (a_drop, .inl (cI, 6, .inl f_drop)), (a_changed, .inl (cI, 6, .inl v6))] → va_S A s.heap H locs → ∀ ls : Array Slot, lv_has ls 5 [(0, .ref a_this), (1, .int v1), (2, .int v2), (3, .int v3), (4, .int v5)] → W p l e ({ frames := 3, cells := 0, slots := 0, locals := 60 } : Room) s m (([.ref a_this] : List Value).toArray) below meth c H locs 0 0 (MQ below (zWv D [(a_this, .inr (0, [.int f_relays, .ref a_branches, .ref a_closing, .ref a_opening, .ref a_pull, .ref a_drop, .ref a_changed, .int f_inputs, .int R.1, .int R.2.1, .int R.2.2.1])), (a_branches, .inl (cI, 6, .inl f_branches)), (a_closing, .inl (cI, 24, .inl f_closing)), (a_opening, .inl (cI, 24, .inl f_opening)), (a_pull, .inl (cI, 6, .inl f_pull)), (a_drop, .inl (cI, 6, .inl f_drop)), (a_changed, .inl (cI, 6, .inl R.2.2.2))] A) (([.ref a_this] : List Value).toArray) s 0 0 A) (F0 m 66 ls []) := by
    intro v5 v6 h H locs hP hD hS ls hl
    unfold F_X0_tick_E66 at h
    refine lv_aload_n hx hb dX0_tick_66 rfl (lv_at hl 0 rfl) ?_
    refine lv_dup hx hb dX0_tick_67 rfl ?_
    refine va_get (D := D) (ci := 0) (v := .int f_changes) (C := RX0) (T := TX0) (N := 11) hx hb hts hinX0 hown hK hP 0 rfl rfl 10 (by decide) (hts (Cond.fieldLink RX0 49 "LadderRelays$Ladder" "changes" "I") (List.mem_of_getElem? (i := 4) rfl)) (fun _ h9 => h9) rfl dX0_tick_68 ?_
    refine lv_iload_n hx hb dX0_tick_71 rfl (lv_at hl 3 rfl) ?_
    obtain ⟨v7, hv7, h⟩ := zbnd h
    refine zc_i (W.runS (As := [.int v3]) (rest := [.int f_changes, .ref a_this]) ⟨hx, hb, hml, hown, hts⟩ (c_J6_bitCount_0f7a4 l D cI cC cO cJ fu v3 v7 hv7) (va_cwS 1 hts gX0_tick_J6_bitCount_0f7a4 rfl rfl rfl (by decide +kernel) ⟨Nat.le_of_ble_eq_true rfl, Nat.le_of_ble_eq_true rfl⟩) (zPr_S hK zP_nil) rfl rfl hl.1 rfl (lv_room (Nat.le_of_ble_eq_true rfl)) dX0_tick_72 ⟨Nat.zero_le _, Nat.zero_le _⟩) ?_
    refine lv_iadd hx hb dX0_tick_75 ?_
    refine va_put (D := D) (ci := 0) (v := .int (f_changes + v7)) (ty := .int) (C := RX0) (T := TX0) (N := 11) hx hb hts hinX0 tyX0 tyX0_ok nmX0 hown hK hP hD hS 0 rfl rfl 10 (by decide) (hts (Cond.fieldLink RX0 49 "LadderRelays$Ladder" "changes" "I") (List.mem_of_getElem? (i := 4) rfl)) (fun _ h9 => h9) rfl (by decide +kernel) rfl rfl (Nat.le_of_ble_eq_true rfl) dX0_tick_76 (fun H locs hP hD hS => ?_)
    have hP : va_P D vwCl [(a_this, .inr (0, [.int f_relays, .ref a_branches, .ref a_closing, .ref a_opening, .ref a_pull, .ref a_drop, .ref a_changed, .int f_inputs, .int v4, .int f_ticks, .int (f_changes + v7)])), (a_branches, .inl (cI, 6, .inl f_branches)), (a_closing, .inl (cI, 24, .inl f_closing)), (a_opening, .inl (cI, 24, .inl f_opening)), (a_pull, .inl (cI, 6, .inl f_pull)), (a_drop, .inl (cI, 6, .inl f_drop)), (a_changed, .inl (cI, 6, .inl v6))] H := hP
    have hD : va_D A [(a_this, .inr (0, [.int f_relays, .ref a_branches, .ref a_closing, .ref a_opening, .ref a_pull, .ref a_drop, .ref a_changed, .int f_inputs, .int v4, .int f_ticks, .int (f_changes + v7)])), (a_branches, .inl (cI, 6, .inl f_branches)), (a_closing, .inl (cI, 24, .inl f_closing)), (a_opening, .inl (cI, 24, .inl f_opening)), (a_pull, .inl (cI, 6, .inl f_pull)), (a_drop, .inl (cI, 6, .inl f_drop)), (a_changed, .inl (cI, 6, .inl v6))] := hD
    refine lv_aload_n hx hb dX0_tick_79 rfl (lv_at hl 0 rfl) ?_
    refine lv_dup hx hb dX0_tick_80 rfl ?_
    refine va_get (D := D) (ci := 0) (v := .int f_ticks) (C := RX0) (T := TX0) (N := 11) hx hb hts hinX0 hown hK hP 0 rfl rfl 9 (by decide) (hts (Cond.fieldLink RX0 46 "LadderRelays$Ladder" "ticks" "I") (List.mem_of_getElem? (i := 5) rfl)) (fun _ h9 => h9) rfl dX0_tick_81 ?_
    refine lv_iconst (v := (1 : Int32)) hx hb dX0_tick_84 (by decide) ?_
    refine lv_iadd hx hb dX0_tick_85 ?_
    refine va_put (D := D) (ci := 0) (v := .int (f_ticks + (1 : Int32))) (ty := .int) (C := RX0) (T := TX0) (N := 11) hx hb hts hinX0 tyX0 tyX0_ok nmX0 hown hK hP hD hS 0 rfl rfl 9 (by decide) (hts (Cond.fieldLink RX0 46 "LadderRelays$Ladder" "ticks" "I") (List.mem_of_getElem? (i := 5) rfl)) (fun _ h9 => h9) rfl (by decide +kernel) rfl rfl (Nat.le_of_ble_eq_true rfl) dX0_tick_86 (fun H locs hP hD hS => ?_)
    have hP : va_P D vwCl [(a_this, .inr (0, [.int f_relays, .ref a_branches, .ref a_closing, .ref a_opening, .ref a_pull, .ref a_drop, .ref a_changed, .int f_inputs, .int v4, .int (f_ticks + (1 : Int32)), .int (f_changes + v7)])), (a_branches, .inl (cI, 6, .inl f_branches)), (a_closing, .inl (cI, 24, .inl f_closing)), (a_opening, .inl (cI, 24, .inl f_opening)), (a_pull, .inl (cI, 6, .inl f_pull)), (a_drop, .inl (cI, 6, .inl f_drop)), (a_changed, .inl (cI, 6, .inl v6))] H := hP
    have hD : va_D A [(a_this, .inr (0, [.int f_relays, .ref a_branches, .ref a_closing, .ref a_opening, .ref a_pull, .ref a_drop, .ref a_changed, .int f_inputs, .int v4, .int (f_ticks + (1 : Int32)), .int (f_changes + v7)])), (a_branches, .inl (cI, 6, .inl f_branches)), (a_closing, .inl (cI, 24, .inl f_closing)), (a_opening, .inl (cI, 24, .inl f_opening)), (a_pull, .inl (cI, 6, .inl f_pull)), (a_drop, .inl (cI, 6, .inl f_drop)), (a_changed, .inl (cI, 6, .inl v6))] := hD
    have hR := Option.some.inj h
    subst hR
    exact W.vret hx hb hr (fun t ht hW => ⟨⟨(), rfl, trivial, zhp ht hP⟩, hS.F ht⟩) hS.2.2 dX0_tick_89
  refine zlp_i2 (R := R) (P := fun (v8 : Int32) (v9 : Nat → Int32) => ∀ (H : Heap) (locs : List Loc), va_P D vwCl [(a_this, .inr (0, [.int f_relays, .ref a_branches, .ref a_closing, .ref a_opening, .ref a_pull, .ref a_drop, .ref a_changed, .int f_inputs, .int v4, .int f_ticks, .int f_changes])), (a_branches, .inl (cI, 6, .inl f_branches)), (a_closing, .inl (cI, 24, .inl f_closing)), (a_opening, .inl (cI, 24, .inl f_opening)), (a_pull, .inl (cI, 6, .inl f_pull)), (a_drop, .inl (cI, 6, .inl f_drop)), (a_changed, .inl (cI, 6, .inl v9))] H → va_D A [(a_this, .inr (0, [.int f_relays, .ref a_branches, .ref a_closing, .ref a_opening, .ref a_pull, .ref a_drop, .ref a_changed, .int f_inputs, .int v4, .int f_ticks, .int f_changes])), (a_branches, .inl (cI, 6, .inl f_branches)), (a_closing, .inl (cI, 24, .inl f_closing)), (a_opening, .inl (cI, 24, .inl f_opening)), (a_pull, .inl (cI, 6, .inl f_pull)), (a_drop, .inl (cI, 6, .inl f_drop)), (a_changed, .inl (cI, 6, .inl v9))] → va_S A s.heap H locs → ∀ ls : Array Slot, lv_has ls 5 [(0, .ref a_this), (1, .int v1), (2, .int v2), (3, .int v3), (4, .int v8)] → W p l e ({ frames := 3, cells := 0, slots := 0, locals := 60 } : Room) s m (([.ref a_this] : List Value).toArray) below meth c H locs 0 0 (MQ below (zWv D [(a_this, .inr (0, [.int f_relays, .ref a_branches, .ref a_closing, .ref a_opening, .ref a_pull, .ref a_drop, .ref a_changed, .int f_inputs, .int R.1, .int R.2.1, .int R.2.2.1])), (a_branches, .inl (cI, 6, .inl f_branches)), (a_closing, .inl (cI, 24, .inl f_closing)), (a_opening, .inl (cI, 24, .inl f_opening)), (a_pull, .inl (cI, 6, .inl f_pull)), (a_drop, .inl (cI, 6, .inl f_drop)), (a_changed, .inl (cI, 6, .inl R.2.2.2))] A) (([.ref a_this] : List Value).toArray) s 0 0 A) (F0 m 35 ls [])) (fun rec35 ih35 v8 v9 h => ?_) fu (0 : Int32) f_changed h _ _ hP hD hS ls (lv_sub hl [4, 3, 2, 1, 0] rfl)
  intro H locs hP hD hS ls hl
  unfold F_X0_tick_L35 at h
  refine lv_iload hx hb dX0_tick_35 (lv_at hl 4 rfl) ?_
  refine lv_aload_n hx hb dX0_tick_37 rfl (lv_at hl 0 rfl) ?_
  refine va_get (D := D) (ci := 0) (v := .int f_relays) (C := RX0) (T := TX0) (N := 11) hx hb hts hinX0 hown hK hP 0 rfl rfl 0 (by decide) (hts (Cond.fieldLink RX0 30 "LadderRelays$Ladder" "relays" "I") (List.mem_of_getElem? (i := 2) rfl)) (fun _ h9 => h9) rfl dX0_tick_38 ?_
  refine lv_icmp_ge (tgt := 66) hx hb dX0_tick_41 (by decide) (fun c10 => ?_) (fun c10 => ?_)
  · have h := zif_t c10 h
    exact E66 v8 v9 h _ _ hP hD hS ls (lv_sub hl [0, 1, 2, 3, 4] rfl)
  · have h := zif_f c10 h
    refine lv_aload_n hx hb dX0_tick_44 rfl (lv_at hl 0 rfl) ?_
    refine va_get (D := D) (ci := 0) (v := .ref a_changed) (C := RX0) (T := TX0) (N := 11) hx hb hts hinX0 hown hK hP 0 rfl rfl 6 (by decide) (hts (Cond.fieldLink RX0 27 "LadderRelays$Ladder" "changed" "[I") (List.mem_of_getElem? (i := 3) rfl)) (fun _ h9 => h9) rfl dX0_tick_45 ?_
    refine lv_iload hx hb dX0_tick_48 (lv_at hl 4 rfl) ?_
    refine lv_dup2_11 hx hb dX0_tick_50 rfl rfl ?_
    obtain ⟨v11, hv11, h⟩ := zbnd h
    refine zr_iald hx hb hK hP 6 0 rfl rfl hv11 dX0_tick_51 ?_
    refine lv_iload_n hx hb dX0_tick_52 rfl (lv_at hl 3 rfl) ?_
    refine lv_iload hx hb dX0_tick_53 (lv_at hl 4 rfl) ?_
    refine lv_ishr hx hb dX0_tick_55 ?_
    refine lv_iconst (v := (1 : Int32)) hx hb dX0_tick_56 (by decide) ?_
    refine lv_iand hx hb dX0_tick_57 ?_
    refine lv_iadd hx hb dX0_tick_58 ?_
    obtain ⟨v12, hv12, h⟩ := zbnd h
    refine zr_iast hx hb hK hP hD hS 6 0 rfl rfl hv12 dX0_tick_59 (fun H locs hP hD hS => ?_)
    have hP : va_P D vwCl [(a_this, .inr (0, [.int f_relays, .ref a_branches, .ref a_closing, .ref a_opening, .ref a_pull, .ref a_drop, .ref a_changed, .int f_inputs, .int v4, .int f_ticks, .int f_changes])), (a_branches, .inl (cI, 6, .inl f_branches)), (a_closing, .inl (cI, 24, .inl f_closing)), (a_opening, .inl (cI, 24, .inl f_opening)), (a_pull, .inl (cI, 6, .inl f_pull)), (a_drop, .inl (cI, 6, .inl f_drop)), (a_changed, .inl (cI, 6, .inl v12))] H := hP
    have hD : va_D A [(a_this, .inr (0, [.int f_relays, .ref a_branches, .ref a_closing, .ref a_opening, .ref a_pull, .ref a_drop, .ref a_changed, .int f_inputs, .int v4, .int f_ticks, .int f_changes])), (a_branches, .inl (cI, 6, .inl f_branches)), (a_closing, .inl (cI, 24, .inl f_closing)), (a_opening, .inl (cI, 24, .inl f_opening)), (a_pull, .inl (cI, 6, .inl f_pull)), (a_drop, .inl (cI, 6, .inl f_drop)), (a_changed, .inl (cI, 6, .inl v12))] := hD
    refine lv_iinc (v := (v8 + (1 : Int32))) (lv' := [(4, .int (v8 + (1 : Int32))), (0, .ref a_this), (1, .int v1), (2, .int v2), (3, .int v3)]) hx hb dX0_tick_60 hl (k := 4) rfl rfl (by decide) rfl (fun ls hl => ?_)
    refine lv_goto (tgt := 35) hx hb dX0_tick_63 (by decide) ?_
    exact ih35 (v8 + (1 : Int32)) v12 h _ _ hP hD hS ls (lv_sub hl [1, 2, 3, 4, 0] rfl)
def F_X0_ticksToQuiet_E28  (v1 : Int32) (v2 : Int32) (v3 : Int32) (v4 : Int32) (v5 : Nat → Int32) : Option (Int32 × Int32 × Int32 × Int32 × (Nat → Int32)) := some ((-1 : Int32), v2, v3, v4, v5)
def F_X0_ticksToQuiet_L2 (fu : Nat) (f_branches : Nat → Int32) (f_closing : Nat → Int32) (f_drop : Nat → Int32) (f_inputs : Int32) (f_opening : Nat → Int32) (f_pull : Nat → Int32) (f_relays : Int32) (k2 : Int32 → Int32 → Int32 → Int32 → (Nat → Int32) → Option (Int32 × Int32 × Int32 × Int32 × (Nat → Int32))) (rec2 : Int32 → Int32 → Int32 → Int32 → (Nat → Int32) → Option (Int32 × Int32 × Int32 × Int32 × (Nat → Int32))) (v6 : Int32) (v7 : Int32) (v8 : Int32) (v9 : Int32) (v10 : Nat → Int32) : Option (Int32 × Int32 × Int32 × Int32 × (Nat → Int32)) := if (200 : Int32) < v6 then k2 v6 v7 v8 v9 v10 else (F_X0_restless fu f_relays f_inputs v7 f_branches f_closing f_opening).bind fun v12 => if v12 = (0 : Int32) then some (v6, v7, v8, v9, v10) else (F_X0_tick fu f_relays f_inputs v7 v8 v9 f_branches f_closing f_opening f_pull f_drop v10).bind fun v14 => rec2 (v6 + (1 : Int32)) v14.1 v14.2.1 v14.2.2.1 v14.2.2.2
def F_X0_ticksToQuiet (fu : Nat) (f_relays : Int32) (f_inputs : Int32) (f_motion : Int32) (f_ticks : Int32) (f_changes : Int32) (f_branches : Nat → Int32) (f_closing : Nat → Int32) (f_opening : Nat → Int32) (f_pull : Nat → Int32) (f_drop : Nat → Int32) (f_changed : Nat → Int32) : Option (Int32 × Int32 × Int32 × Int32 × (Nat → Int32)) := zlp5 (F_X0_ticksToQuiet_L2 fu f_branches f_closing f_drop f_inputs f_opening f_pull f_relays (F_X0_ticksToQuiet_E28)) fu (0 : Int32) f_motion f_ticks f_changes f_changed
set_option maxHeartbeats 4000000 in
set_option maxRecDepth 100000 in
theorem c_X0_ticksToQuiet (l : Launch) (D : va_G) (cI cC cO cJ : ClassId) (fu : Nat) (a_this a_branches a_closing a_opening a_pull a_drop a_changed : Nat) (sz : Nat) (f_relays : Int32) (f_inputs : Int32) (f_motion : Int32) (f_ticks : Int32) (f_changes : Int32) (f_branches : Nat → Int32) (f_closing : Nat → Int32) (f_opening : Nat → Int32) (f_pull : Nat → Int32) (f_drop : Nat → Int32) (f_changed : Nat → Int32) (R : Int32 × Int32 × Int32 × Int32 × (Nat → Int32)) (h : F_X0_ticksToQuiet fu f_relays f_inputs f_motion f_ticks f_changes f_branches f_closing f_opening f_pull f_drop f_changed = some R) : Met l yX0_ticksToQuiet wsX0_ticksToQuiet ({ frames := 4, cells := 0, slots := 0, locals := 84 } : Room) (zPw D (ztys cI cC cO cJ) [(a_this, .inr (0, [.int f_relays, .ref a_branches, .ref a_closing, .ref a_opening, .ref a_pull, .ref a_drop, .ref a_changed, .int f_inputs, .int f_motion, .int f_ticks, .int f_changes])), (a_branches, .inl (cI, 6, .inl f_branches)), (a_closing, .inl (cI, 24, .inl f_closing)), (a_opening, .inl (cI, 24, .inl f_opening)), (a_pull, .inl (cI, 6, .inl f_pull)), (a_drop, .inl (cI, 6, .inl f_drop)), (a_changed, .inl (cI, 6, .inl f_changed))] sz [.ref a_this]) (zWi D R.1 [(a_this, .inr (0, [.int f_relays, .ref a_branches, .ref a_closing, .ref a_opening, .ref a_pull, .ref a_drop, .ref a_changed, .int f_inputs, .int R.2.1, .int R.2.2.1, .int R.2.2.2.1])), (a_branches, .inl (cI, 6, .inl f_branches)), (a_closing, .inl (cI, 24, .inl f_closing)), (a_opening, .inl (cI, 24, .inl f_opening)), (a_pull, .inl (cI, 6, .inl f_pull)), (a_drop, .inl (cI, 6, .inl f_drop)), (a_changed, .inl (cI, 6, .inl R.2.2.2.2))] (va_A [(a_this, .inr (0, [.int f_relays, .ref a_branches, .ref a_closing, .ref a_opening, .ref a_pull, .ref a_drop, .ref a_changed, .int f_inputs, .int f_motion, .int f_ticks, .int f_changes])), (a_branches, .inl (cI, 6, .inl f_branches)), (a_closing, .inl (cI, 24, .inl f_closing)), (a_opening, .inl (cI, 24, .inl f_opening)), (a_pull, .inl (cI, 6, .inl f_pull)), (a_drop, .inl (cI, 6, .inl f_drop)), (a_changed, .inl (cI, 6, .inl f_changed))] sz)) 0 0 (va_A [(a_this, .inr (0, [.int f_relays, .ref a_branches, .ref a_closing, .ref a_opening, .ref a_pull, .ref a_drop, .ref a_changed, .int f_inputs, .int f_motion, .int f_ticks, .int f_changes])), (a_branches, .inl (cI, 6, .inl f_branches)), (a_closing, .inl (cI, 24, .inl f_closing)), (a_opening, .inl (cI, 24, .inl f_opening)), (a_pull, .inl (cI, 6, .inl f_pull)), (a_drop, .inl (cI, 6, .inl f_drop)), (a_changed, .inl (cI, 6, .inl f_changed))] sz) := by
  refine Met.ofW (cc := cX0_ticksToQuiet) (maxL := 2) (ret := (some .int)) (by decide) rfl ?_
  intro p e s m args below meth c s₁ B hml hv
  obtain ⟨rfl, hsz, hP, hK, hD0⟩ := hv
  have hx := B.exec
  have hb := B.bytes
  have hr := B.returns
  have hts := atoms_spec (ws := wsX0_ticksToQuiet) B.pre
  have hown : s.vm.findClass RX0 = some m.cls := findClass_of_methodNamed B.named
  have hlocks := B.notSynchronized
  subst hsz
  have hD := hD0.self (sz := s.heap.size)
  generalize hAe : va_A [(a_this, .inr (0, [.int f_relays, .ref a_branches, .ref a_closing, .ref a_opening, .ref a_pull, .ref a_drop, .ref a_changed, .int f_inputs, .int f_motion, .int f_ticks, .int f_changes])), (a_branches, .inl (cI, 6, .inl f_branches)), (a_closing, .inl (cI, 24, .inl f_closing)), (a_opening, .inl (cI, 24, .inl f_opening)), (a_pull, .inl (cI, 6, .inl f_pull)), (a_drop, .inl (cI, 6, .inl f_drop)), (a_changed, .inl (cI, 6, .inl f_changed))] s.heap.size = A at hD ⊢
  have hA : ∀ q : Nat, s.heap.size ≤ q → A q := fun q h => by rw [← hAe]; exact Or.inr h
  have hS : va_S A s.heap s.heap [] := va_S.rf
  have hP : va_P D vwCl [(a_this, .inr (0, [.int f_relays, .ref a_branches, .ref a_closing, .ref a_opening, .ref a_pull, .ref a_drop, .ref a_changed, .int f_inputs, .int f_motion, .int f_ticks, .int f_changes])), (a_branches, .inl (cI, 6, .inl f_branches)), (a_closing, .inl (cI, 24, .inl f_closing)), (a_opening, .inl (cI, 24, .inl f_opening)), (a_pull, .inl (cI, 6, .inl f_pull)), (a_drop, .inl (cI, 6, .inl f_drop)), (a_changed, .inl (cI, 6, .inl f_changed))] s.heap := hP
  have hK : va_K D vwCl (ztys cI cC cO cJ) s := hK
  have hl := lv_entry ([.ref a_this]) (n := 2) (Nat.le_of_ble_eq_true rfl)
  rw [lg_entry_eq]
  generalize (lg_sl ([.ref a_this]) ++ List.replicate (2 - (lg_sl ([.ref a_this])).length) Slot.unset).toArray = ls at hl ⊢
  have hl : lv_has ls 2 [(0, .ref a_this)] := hl
  unfold F_X0_ticksToQuiet at h
  refine lv_iconst (v := (0 : Int32)) hx hb dX0_ticksToQuiet_0 (by decide) ?_
  refine lv_istore_n (lv' := [(1, .int (0 : Int32)), (0, .ref a_this)]) hx hb dX0_ticksToQuiet_1 rfl hl (by decide) rfl (fun ls hl => ?_)
  have E28 : ∀ (v1 : Int32) (v2 : Int32) (v3 : Int32) (v4 : Int32) (v5 : Nat → Int32), F_X0_ticksToQuiet_E28 v1 v2 v3 v4 v5 = some R → ∀ (H : Heap) (locs : List Loc), va_P D vwCl [(a_this, .inr (0, [.int f_relays, .ref a_branches, .ref a_closing, .ref a_opening, .ref a_pull, .ref a_drop, .ref a_changed, .int f_inputs, .int v2, .int v3, .int v4])), (a_branches, .inl (cI, 6, .inl f_branches)), (a_closing, .inl (cI, 24, .inl f_closing)), (a_opening, .inl (cI, 24, .inl f_opening)), (a_pull, .inl (cI, 6, .inl f_pull)), (a_drop, .inl (cI, 6, .inl f_drop)), (a_changed, .inl (cI, 6, .inl v5))] H → va_D A [(a_this, .inr (0, [.int f_relays, .ref a_branches, .ref a_closing, .ref a_opening, .ref a_pull, .ref a_drop, .ref a_changed, .int f_inputs, .int v2, .int v3, .int v4])), (a_branches, .inl (cI, 6, .inl f_branches)), (a_closing, .inl (cI, 24, .inl f_closing)), (a_opening, .inl (cI, 24, .inl f_opening)), (a_pull, .inl (cI, 6, .inl f_pull)), (a_drop, .inl (cI, 6, .inl f_drop)), (a_changed, .inl (cI, 6, .inl v5))] → va_S A s.heap H locs → ∀ ls : Array Slot, lv_has ls 2 [(0, .ref a_this), (1, .int v1)] → W p l e ({ frames := 4, cells := 0, slots := 0, locals := 84 } : Room) s m (([.ref a_this] : List Value).toArray) below meth c H locs 0 0 (MQ below (zWi D R.1 [(a_this, .inr (0, [.int f_relays, .ref a_branches, .ref a_closing, .ref a_opening, .ref a_pull, .ref a_drop, .ref a_changed, .int f_inputs, .int R.2.1, .int R.2.2.1, .int R.2.2.2.1])), (a_branches, .inl (cI, 6, .inl f_branches)), (a_closing, .inl (cI, 24, .inl f_closing)), (a_opening, .inl (cI, 24, .inl f_opening)), (a_pull, .inl (cI, 6, .inl f_pull)), (a_drop, .inl (cI, 6, .inl f_drop)), (a_changed, .inl (cI, 6, .inl R.2.2.2.2))] A) (([.ref a_this] : List Value).toArray) s 0 0 A) (F0 m 28 ls []) := by
    intro v1 v2 v3 v4 v5 h H locs hP hD hS ls hl
    unfold F_X0_ticksToQuiet_E28 at h
    refine lv_iconst (v := (-1 : Int32)) hx hb dX0_ticksToQuiet_28 (by decide) ?_
    have hR := Option.some.inj h
    subst hR
    exact W.iret (v := (-1 : Int32)) hx hb hr (fun t ht hW => ⟨⟨_, (), rfl, rfl, zhp ht hP⟩, hS.F ht⟩) hS.2.2 dX0_ticksToQuiet_29
  refine zlp_i5 (R := R) (P := fun (v6 : Int32) (v7 : Int32) (v8 : Int32) (v9 : Int32) (v10 : Nat → Int32) => ∀ (H : Heap) (locs : List Loc), va_P D vwCl [(a_this, .inr (0, [.int f_relays, .ref a_branches, .ref a_closing, .ref a_opening, .ref a_pull, .ref a_drop, .ref a_changed, .int f_inputs, .int v7, .int v8, .int v9])), (a_branches, .inl (cI, 6, .inl f_branches)), (a_closing, .inl (cI, 24, .inl f_closing)), (a_opening, .inl (cI, 24, .inl f_opening)), (a_pull, .inl (cI, 6, .inl f_pull)), (a_drop, .inl (cI, 6, .inl f_drop)), (a_changed, .inl (cI, 6, .inl v10))] H → va_D A [(a_this, .inr (0, [.int f_relays, .ref a_branches, .ref a_closing, .ref a_opening, .ref a_pull, .ref a_drop, .ref a_changed, .int f_inputs, .int v7, .int v8, .int v9])), (a_branches, .inl (cI, 6, .inl f_branches)), (a_closing, .inl (cI, 24, .inl f_closing)), (a_opening, .inl (cI, 24, .inl f_opening)), (a_pull, .inl (cI, 6, .inl f_pull)), (a_drop, .inl (cI, 6, .inl f_drop)), (a_changed, .inl (cI, 6, .inl v10))] → va_S A s.heap H locs → ∀ ls : Array Slot, lv_has ls 2 [(0, .ref a_this), (1, .int v6)] → W p l e ({ frames := 4, cells := 0, slots := 0, locals := 84 } : Room) s m (([.ref a_this] : List Value).toArray) below meth c H locs 0 0 (MQ below (zWi D R.1 [(a_this, .inr (0, [.int f_relays, .ref a_branches, .ref a_closing, .ref a_opening, .ref a_pull, .ref a_drop, .ref a_changed, .int f_inputs, .int R.2.1, .int R.2.2.1, .int R.2.2.2.1])), (a_branches, .inl (cI, 6, .inl f_branches)), (a_closing, .inl (cI, 24, .inl f_closing)), (a_opening, .inl (cI, 24, .inl f_opening)), (a_pull, .inl (cI, 6, .inl f_pull)), (a_drop, .inl (cI, 6, .inl f_drop)), (a_changed, .inl (cI, 6, .inl R.2.2.2.2))] A) (([.ref a_this] : List Value).toArray) s 0 0 A) (F0 m 2 ls [])) (fun rec2 ih2 v6 v7 v8 v9 v10 h => ?_) fu (0 : Int32) f_motion f_ticks f_changes f_changed h _ _ hP hD hS ls (lv_sub hl [1, 0] rfl)
  intro H locs hP hD hS ls hl
  unfold F_X0_ticksToQuiet_L2 at h
  refine lv_iload_n hx hb dX0_ticksToQuiet_2 rfl (lv_at hl 1 rfl) ?_
  refine lv_sipush (v := (200 : Int32)) hx hb dX0_ticksToQuiet_3 (by decide) ?_
  refine lv_icmp_gt (tgt := 28) hx hb dX0_ticksToQuiet_6 (by decide) (fun c11 => ?_) (fun c11 => ?_)
  · have h := zif_t c11 h
    exact E28 v6 v7 v8 v9 v10 h _ _ hP hD hS ls (lv_sub hl [0, 1] rfl)
  · have h := zif_f c11 h
    refine lv_aload_n hx hb dX0_ticksToQuiet_9 rfl (lv_at hl 0 rfl) ?_
    obtain ⟨v12, hv12, h⟩ := zbnd h
    have hPc := hP.sub (ws' := [(a_this, .inr (0, [.int f_relays, .ref a_branches, .ref a_closing, .ref a_opening, .ref a_pull, .ref a_drop, .ref a_changed, .int f_inputs, .int v7, .int v8, .int v9])), (a_branches, .inl (cI, 6, .inl f_branches)), (a_closing, .inl (cI, 24, .inl f_closing)), (a_opening, .inl (cI, 24, .inl f_opening))]) [0, 1, 2, 3] rfl
    refine zc_i (W.runV (C := RX0) (As := []) (rest := []) ⟨hx, hb, hml, hown, hts⟩ (c_X0_restless l D cI cC cO cJ fu a_this a_branches a_closing a_opening a_pull a_drop a_changed f_relays f_inputs v7 v8 v9 f_branches f_closing f_opening v12 hv12) (cwV 0 hts gX0_ticksToQuiet_X0_restless rfl rfl rfl (by decide +kernel) ⟨Nat.le_of_ble_eq_true rfl, Nat.le_of_ble_eq_true rfl⟩) ⟨zPr_blind, (va_recv hK hP (q0 := 0) (ci := 0) rfl rfl), zPr_pre hK hPc⟩ rfl rfl hl.1 rfl (lv_room (Nat.le_of_ble_eq_true rfl)) dX0_ticksToQuiet_10 ⟨Nat.zero_le _, Nat.zero_le _⟩) ?_
    refine lv_if_ne (tgt := 18) hx hb dX0_ticksToQuiet_13 (by decide) (fun c13 => ?_) (fun c13 => ?_)
    · have h := zif_f c13 h
      refine lv_aload_n hx hb dX0_ticksToQuiet_18 rfl (lv_at hl 0 rfl) ?_
      obtain ⟨v14, hv14, h⟩ := zbnd h
      have hFc := va_free (wc := [(a_this, .inr (0, [.int f_relays, .ref a_branches, .ref a_closing, .ref a_opening, .ref a_pull, .ref a_drop, .ref a_changed, .int f_inputs, .int v7, .int v8, .int v9])), (a_branches, .inl (cI, 6, .inl f_branches)), (a_closing, .inl (cI, 24, .inl f_closing)), (a_opening, .inl (cI, 24, .inl f_opening)), (a_pull, .inl (cI, 6, .inl f_pull)), (a_drop, .inl (cI, 6, .inl f_drop)), (a_changed, .inl (cI, 6, .inl v10))]) hD hS hA [0, 1, 2, 3, 4, 5, 6] rfl
      refine zc_wv (va_runV (C := RX0) (As := []) (rest := []) ⟨hx, hb, hml, hown, hts⟩ (c_X0_tick l D cI cC cO cJ fu a_this a_branches a_closing a_opening a_pull a_drop a_changed _ f_relays f_inputs v7 v8 v9 f_branches f_closing f_opening f_pull f_drop v10 v14 hv14) (cwV 0 hts gX0_ticksToQuiet_X0_tick rfl rfl rfl (by decide +kernel) ⟨Nat.le_of_ble_eq_true rfl, Nat.le_of_ble_eq_true rfl⟩) ⟨zPw_blind, (va_recv hK hP (q0 := 0) (ci := 0) rfl rfl), zPw_pre hK hP hD⟩ rfl rfl hl.1 rfl (lv_room (Nat.le_of_ble_eq_true rfl)) dX0_ticksToQuiet_19 ⟨Nat.zero_le _, Nat.zero_le _⟩) hS hFc (fun H locs hk1 hP1 hS => ?_)
      obtain ⟨hP, hD⟩ := zjn (ws' := [(a_this, .inr (0, [.int f_relays, .ref a_branches, .ref a_closing, .ref a_opening, .ref a_pull, .ref a_drop, .ref a_changed, .int f_inputs, .int v14.1, .int v14.2.1, .int v14.2.2.1])), (a_branches, .inl (cI, 6, .inl f_branches)), (a_closing, .inl (cI, 24, .inl f_closing)), (a_opening, .inl (cI, 24, .inl f_opening)), (a_pull, .inl (cI, 6, .inl f_pull)), (a_drop, .inl (cI, 6, .inl f_drop)), (a_changed, .inl (cI, 6, .inl v14.2.2.2))]) hP hD [0, 1, 2, 3, 4, 5, 6] [.inr 0, .inr 1, .inr 2, .inr 3, .inr 4, .inr 5, .inr 6] rfl rfl rfl hk1 hP1
      refine lv_iinc (v := (v6 + (1 : Int32))) (lv' := [(1, .int (v6 + (1 : Int32))), (0, .ref a_this)]) hx hb dX0_ticksToQuiet_22 hl (k := 1) rfl rfl (by decide) rfl (fun ls hl => ?_)
      refine lv_goto (tgt := 2) hx hb dX0_ticksToQuiet_25 (by decide) ?_
      exact ih2 (v6 + (1 : Int32)) v14.1 v14.2.1 v14.2.2.1 v14.2.2.2 h _ _ hP hD hS ls (lv_sub hl [1, 0] rfl)
    · have h := zif_t c13 h
      refine lv_iload_n hx hb dX0_ticksToQuiet_16 rfl (lv_at hl 1 rfl) ?_
      have hR := Option.some.inj h
      subst hR
      exact W.iret (v := v6) hx hb hr (fun t ht hW => ⟨⟨_, (), rfl, rfl, zhp ht hP⟩, hS.F ht⟩) hS.2.2 dX0_ticksToQuiet_17
def F_X0_holdsItself_E41  (v1 : Int32) : Option (Int32) := some (0 : Int32)
def F_X0_holdsItself_L8 (fu : Nat) (f_branches : Nat → Int32) (f_closing : Nat → Int32) (p0 : Int32) (k8 : Int32 → Option (Int32)) (rec8 : Int32 → Option (Int32)) (v2 : Int32) : Option (Int32) := (zrd f_branches 6 p0).bind fun v3 => if v3 ≤ v2 then k8 v2 else (F_X0_placeOf fu p0 v2).bind fun v5 => (zrd f_closing 24 v5).bind fun v6 => if (v6 &&& ((1 : Int32) <<< (((4 : Int32) + p0) &&& (31 : Int32)))) = (0 : Int32) then rec8 (v2 + (1 : Int32)) else some (1 : Int32)
def F_X0_holdsItself (fu : Nat) (f_branches : Nat → Int32) (f_closing : Nat → Int32) (p0 : Int32) : Option (Int32) := zlp1 (F_X0_holdsItself_L8 fu f_branches f_closing p0 (F_X0_holdsItself_E41)) fu (0 : Int32)
set_option maxHeartbeats 4000000 in
set_option maxRecDepth 100000 in
theorem c_X0_holdsItself (l : Launch) (D : va_G) (cI cC cO cJ : ClassId) (fu : Nat) (a_this a_branches a_closing a_opening a_pull a_drop a_changed : Nat) (f_relays : Int32) (f_inputs : Int32) (f_motion : Int32) (f_ticks : Int32) (f_changes : Int32) (f_branches : Nat → Int32) (f_closing : Nat → Int32) (p0 : Int32) (R : Int32) (h : F_X0_holdsItself fu f_branches f_closing p0 = some R) : Met l yX0_holdsItself wsX0_holdsItself ({ frames := 1, cells := 0, slots := 0, locals := 21 } : Room) (zPr D (ztys cI cC cO cJ) [(a_this, .inr (0, [.int f_relays, .ref a_branches, .ref a_closing, .ref a_opening, .ref a_pull, .ref a_drop, .ref a_changed, .int f_inputs, .int f_motion, .int f_ticks, .int f_changes])), (a_branches, .inl (cI, 6, .inl f_branches)), (a_closing, .inl (cI, 24, .inl f_closing))] [.ref a_this, .int p0]) (zQi R) 0 0 (fun _ => False) := by
  refine Met.ofW (cc := cX0_holdsItself) (maxL := 4) (ret := (some .boolean)) (by decide) rfl ?_
  intro p e s m args below meth c s₁ B hml hv
  obtain ⟨rfl, hP, hK⟩ := hv
  have hx := B.exec
  have hb := B.bytes
  have hr := B.returns
  have hts := atoms_spec (ws := wsX0_holdsItself) B.pre
  have hown : s.vm.findClass RX0 = some m.cls := findClass_of_methodNamed B.named
  have hlocks := B.notSynchronized
  have hinX0 : ∀ w ∈ wsX00, w ∈ wsX0_holdsItself := fun _ h => (List.mem_cons_of_mem _ (List.mem_append_right _ h))
  have hP : va_P D vwCl [(a_this, .inr (0, [.int f_relays, .ref a_branches, .ref a_closing, .ref a_opening, .ref a_pull, .ref a_drop, .ref a_changed, .int f_inputs, .int f_motion, .int f_ticks, .int f_changes])), (a_branches, .inl (cI, 6, .inl f_branches)), (a_closing, .inl (cI, 24, .inl f_closing))] s.heap := hP
  have hK : va_K D vwCl (ztys cI cC cO cJ) s := hK
  have hl := lv_entry ([.ref a_this, .int p0]) (n := 4) (Nat.le_of_ble_eq_true rfl)
  rw [lg_entry_eq]
  generalize (lg_sl ([.ref a_this, .int p0]) ++ List.replicate (4 - (lg_sl ([.ref a_this, .int p0])).length) Slot.unset).toArray = ls at hl ⊢
  have hl : lv_has ls 4 [(0, .ref a_this), (1, .int p0)] := hl
  unfold F_X0_holdsItself at h
  refine lv_iconst (v := (1 : Int32)) hx hb dX0_holdsItself_0 (by decide) ?_
  refine lv_iconst (v := (4 : Int32)) hx hb dX0_holdsItself_1 (by decide) ?_
  refine lv_iload_n hx hb dX0_holdsItself_2 rfl (lv_at hl 1 rfl) ?_
  refine lv_iadd hx hb dX0_holdsItself_3 ?_
  refine lv_ishl hx hb dX0_holdsItself_4 ?_
  refine lv_istore_n (lv' := [(2, .int ((1 : Int32) <<< (((4 : Int32) + p0) &&& (31 : Int32)))), (0, .ref a_this), (1, .int p0)]) hx hb dX0_holdsItself_5 rfl hl (by decide) rfl (fun ls hl => ?_)
  refine lv_iconst (v := (0 : Int32)) hx hb dX0_holdsItself_6 (by decide) ?_
  refine lv_istore_n (lv' := [(3, .int (0 : Int32)), (2, .int ((1 : Int32) <<< (((4 : Int32) + p0) &&& (31 : Int32)))), (0, .ref a_this), (1, .int p0)]) hx hb dX0_holdsItself_7 rfl hl (by decide) rfl (fun ls hl => ?_)
  have E41 : ∀ (v1 : Int32), F_X0_holdsItself_E41 v1 = some R → ∀ ls : Array Slot, lv_has ls 4 [(0, .ref a_this), (1, .int p0), (2, .int ((1 : Int32) <<< (((4 : Int32) + p0) &&& (31 : Int32)))), (3, .int v1)] → W p l e ({ frames := 1, cells := 0, slots := 0, locals := 21 } : Room) s m (([.ref a_this, .int p0] : List Value).toArray) below meth c s.heap [] 0 0 (MQ below (zQi R) (([.ref a_this, .int p0] : List Value).toArray) s 0 0 (fun _ => False)) (F0 m 41 ls []) := by
    intro v1 h ls hl
    unfold F_X0_holdsItself_E41 at h
    refine lv_iconst (v := (0 : Int32)) hx hb dX0_holdsItself_41 (by decide) ?_
    have hR := Option.some.inj h
    subst hR
    exact W.zret (v := (0 : Int32)) (ty := .boolean) hx hb hr rfl (fun t ht hW => ⟨_, rfl, rfl, ht⟩) (fun q hq => absurd hq List.not_mem_nil) dX0_holdsItself_42
  refine zlp_i1 (R := R) (P := fun (v2 : Int32) => ∀ ls : Array Slot, lv_has ls 4 [(0, .ref a_this), (1, .int p0), (2, .int ((1 : Int32) <<< (((4 : Int32) + p0) &&& (31 : Int32)))), (3, .int v2)] → W p l e ({ frames := 1, cells := 0, slots := 0, locals := 21 } : Room) s m (([.ref a_this, .int p0] : List Value).toArray) below meth c s.heap [] 0 0 (MQ below (zQi R) (([.ref a_this, .int p0] : List Value).toArray) s 0 0 (fun _ => False)) (F0 m 8 ls [])) (fun rec8 ih8 v2 h => ?_) fu (0 : Int32) h ls (lv_sub hl [2, 3, 1, 0] rfl)
  intro ls hl
  unfold F_X0_holdsItself_L8 at h
  refine lv_iload_n hx hb dX0_holdsItself_8 rfl (lv_at hl 3 rfl) ?_
  refine lv_aload_n hx hb dX0_holdsItself_9 rfl (lv_at hl 0 rfl) ?_
  refine va_get (D := D) (ci := 0) (v := .ref a_branches) (C := RX0) (T := TX0) (N := 11) hx hb hts hinX0 hown hK hP 0 rfl rfl 1 (by decide) (hts (Cond.fieldLink RX0 9 "LadderRelays$Ladder" "branches" "[I") (List.mem_of_getElem? (i := 1) rfl)) (fun _ h9 => h9) rfl dX0_holdsItself_10 ?_
  refine lv_iload_n hx hb dX0_holdsItself_13 rfl (lv_at hl 1 rfl) ?_
  obtain ⟨v3, hv3, h⟩ := zbnd h
  refine zr_iald hx hb hK hP 1 0 rfl rfl hv3 dX0_holdsItself_14 ?_
  refine lv_icmp_ge (tgt := 41) hx hb dX0_holdsItself_15 (by decide) (fun c4 => ?_) (fun c4 => ?_)
  · have h := zif_t c4 h
    exact E41 v2 h ls (lv_sub hl [0, 1, 2, 3] rfl)
  · have h := zif_f c4 h
    refine lv_aload_n hx hb dX0_holdsItself_18 rfl (lv_at hl 0 rfl) ?_
    refine va_get (D := D) (ci := 0) (v := .ref a_closing) (C := RX0) (T := TX0) (N := 11) hx hb hts hinX0 hown hK hP 0 rfl rfl 2 (by decide) (hts (Cond.fieldLink RX0 15 "LadderRelays$Ladder" "closing" "[I") (List.mem_of_getElem? (i := 2) rfl)) (fun _ h9 => h9) rfl dX0_holdsItself_19 ?_
    refine lv_iload_n hx hb dX0_holdsItself_22 rfl (lv_at hl 1 rfl) ?_
    refine lv_iload_n hx hb dX0_holdsItself_23 rfl (lv_at hl 3 rfl) ?_
    obtain ⟨v5, hv5, h⟩ := zbnd h
    refine zc_i (W.runS (As := [.int p0, .int v2]) (rest := [.ref a_closing]) ⟨hx, hb, hml, hown, hts⟩ (c_X0_placeOf l D cI cC cO cJ fu p0 v2 v5 hv5) (va_cwS 2 hts gX0_holdsItself_X0_placeOf rfl rfl rfl (by decide +kernel) ⟨Nat.le_of_ble_eq_true rfl, Nat.le_of_ble_eq_true rfl⟩) (zPr_S hK zP_nil) rfl rfl hl.1 rfl (lv_room (Nat.le_of_ble_eq_true rfl)) dX0_holdsItself_24 ⟨Nat.zero_le _, Nat.zero_le _⟩) ?_
    obtain ⟨v6, hv6, h⟩ := zbnd h
    refine zr_iald hx hb hK hP 2 0 rfl rfl hv6 dX0_holdsItself_27 ?_
    refine lv_iload_n hx hb dX0_holdsItself_28 rfl (lv_at hl 2 rfl) ?_
    refine lv_iand hx hb dX0_holdsItself_29 ?_
    refine lv_if_eq (tgt := 35) hx hb dX0_holdsItself_30 (by decide) (fun c7 => ?_) (fun c7 => ?_)
    · have h := zif_t c7 h
      refine lv_iinc (v := (v2 + (1 : Int32))) (lv' := [(3, .int (v2 + (1 : Int32))), (0, .ref a_this), (1, .int p0), (2, .int ((1 : Int32) <<< (((4 : Int32) + p0) &&& (31 : Int32))))]) hx hb dX0_holdsItself_35 hl (k := 3) rfl rfl (by decide) rfl (fun ls hl => ?_)
      refine lv_goto (tgt := 8) hx hb dX0_holdsItself_38 (by decide) ?_
      exact ih8 (v2 + (1 : Int32)) h ls (lv_sub hl [1, 2, 3, 0] rfl)
    · have h := zif_f c7 h
      refine lv_iconst (v := (1 : Int32)) hx hb dX0_holdsItself_33 (by decide) ?_
      have hR := Option.some.inj h
      subst hR
      exact W.zret (v := (1 : Int32)) (ty := .boolean) hx hb hr rfl (fun t ht hW => ⟨_, rfl, rfl, ht⟩) (fun q hq => absurd hq List.not_mem_nil) dX0_holdsItself_34
def F_X0_ticksUntilDue (fu : Nat) (f_relays : Int32) (f_inputs : Int32) (f_motion : Int32) (f_branches : Nat → Int32) (f_closing : Nat → Int32) (f_opening : Nat → Int32) (f_pull : Nat → Int32) (f_drop : Nat → Int32) (p0 : Int32) : Option (Int32) := (F_X0_restless fu f_relays f_inputs f_motion f_branches f_closing f_opening).bind fun v1 => (F_X0_isIn fu v1 p0).bind fun v2 => if v2 = (0 : Int32) then some (0 : Int32) else (F_X0_timeIn fu f_pull f_drop f_motion p0).bind fun v4 => (F_X0_countIn fu f_motion p0).bind fun v5 => some (if (1 : Int32) < ((v4 + (1 : Int32)) - v5) then ((v4 + (1 : Int32)) - v5) else (1 : Int32))
set_option maxHeartbeats 4000000 in
set_option maxRecDepth 100000 in
theorem c_X0_ticksUntilDue (l : Launch) (D : va_G) (cI cC cO cJ : ClassId) (fu : Nat) (a_this a_branches a_closing a_opening a_pull a_drop a_changed : Nat) (f_relays : Int32) (f_inputs : Int32) (f_motion : Int32) (f_ticks : Int32) (f_changes : Int32) (f_branches : Nat → Int32) (f_closing : Nat → Int32) (f_opening : Nat → Int32) (f_pull : Nat → Int32) (f_drop : Nat → Int32) (p0 : Int32) (R : Int32) (h : F_X0_ticksUntilDue fu f_relays f_inputs f_motion f_branches f_closing f_opening f_pull f_drop p0 = some R) : Met l yX0_ticksUntilDue wsX0_ticksUntilDue ({ frames := 3, cells := 0, slots := 0, locals := 60 } : Room) (zPr D (ztys cI cC cO cJ) [(a_this, .inr (0, [.int f_relays, .ref a_branches, .ref a_closing, .ref a_opening, .ref a_pull, .ref a_drop, .ref a_changed, .int f_inputs, .int f_motion, .int f_ticks, .int f_changes])), (a_branches, .inl (cI, 6, .inl f_branches)), (a_closing, .inl (cI, 24, .inl f_closing)), (a_opening, .inl (cI, 24, .inl f_opening)), (a_pull, .inl (cI, 6, .inl f_pull)), (a_drop, .inl (cI, 6, .inl f_drop))] [.ref a_this, .int p0]) (zQi R) 0 0 (fun _ => False) := by
  refine Met.ofW (cc := cX0_ticksUntilDue) (maxL := 2) (ret := (some .int)) (by decide) rfl ?_
  intro p e s m args below meth c s₁ B hml hv
  obtain ⟨rfl, hP, hK⟩ := hv
  have hx := B.exec
  have hb := B.bytes
  have hr := B.returns
  have hts := atoms_spec (ws := wsX0_ticksUntilDue) B.pre
  have hown : s.vm.findClass RX0 = some m.cls := findClass_of_methodNamed B.named
  have hlocks := B.notSynchronized
  have hinX0 : ∀ w ∈ wsX00, w ∈ wsX0_ticksUntilDue := fun _ h => (List.mem_cons_of_mem _ (List.mem_append_right _ h))
  have hP : va_P D vwCl [(a_this, .inr (0, [.int f_relays, .ref a_branches, .ref a_closing, .ref a_opening, .ref a_pull, .ref a_drop, .ref a_changed, .int f_inputs, .int f_motion, .int f_ticks, .int f_changes])), (a_branches, .inl (cI, 6, .inl f_branches)), (a_closing, .inl (cI, 24, .inl f_closing)), (a_opening, .inl (cI, 24, .inl f_opening)), (a_pull, .inl (cI, 6, .inl f_pull)), (a_drop, .inl (cI, 6, .inl f_drop))] s.heap := hP
  have hK : va_K D vwCl (ztys cI cC cO cJ) s := hK
  have hl := lv_entry ([.ref a_this, .int p0]) (n := 2) (Nat.le_of_ble_eq_true rfl)
  rw [lg_entry_eq]
  generalize (lg_sl ([.ref a_this, .int p0]) ++ List.replicate (2 - (lg_sl ([.ref a_this, .int p0])).length) Slot.unset).toArray = ls at hl ⊢
  have hl : lv_has ls 2 [(0, .ref a_this), (1, .int p0)] := hl
  unfold F_X0_ticksUntilDue at h
  refine lv_aload_n hx hb dX0_ticksUntilDue_0 rfl (lv_at hl 0 rfl) ?_
  obtain ⟨v1, hv1, h⟩ := zbnd h
  have hPc := hP.sub (ws' := [(a_this, .inr (0, [.int f_relays, .ref a_branches, .ref a_closing, .ref a_opening, .ref a_pull, .ref a_drop, .ref a_changed, .int f_inputs, .int f_motion, .int f_ticks, .int f_changes])), (a_branches, .inl (cI, 6, .inl f_branches)), (a_closing, .inl (cI, 24, .inl f_closing)), (a_opening, .inl (cI, 24, .inl f_opening))]) [0, 1, 2, 3] rfl
  refine zc_i (W.runV (C := RX0) (As := []) (rest := []) ⟨hx, hb, hml, hown, hts⟩ (c_X0_restless l D cI cC cO cJ fu a_this a_branches a_closing a_opening a_pull a_drop a_changed f_relays f_inputs f_motion f_ticks f_changes f_branches f_closing f_opening v1 hv1) (cwV 0 hts gX0_ticksUntilDue_X0_restless rfl rfl rfl (by decide +kernel) ⟨Nat.le_of_ble_eq_true rfl, Nat.le_of_ble_eq_true rfl⟩) ⟨zPr_blind, (va_recv hK hP (q0 := 0) (ci := 0) rfl rfl), zPr_pre hK hPc⟩ rfl rfl hl.1 rfl (lv_room (Nat.le_of_ble_eq_true rfl)) dX0_ticksUntilDue_1 ⟨Nat.zero_le _, Nat.zero_le _⟩) ?_
  refine lv_iload_n hx hb dX0_ticksUntilDue_4 rfl (lv_at hl 1 rfl) ?_
  obtain ⟨v2, hv2, h⟩ := zbnd h
  refine zc_i (W.runS (As := [.int v1, .int p0]) (rest := []) ⟨hx, hb, hml, hown, hts⟩ (c_X0_isIn l D cI cC cO cJ fu v1 p0 v2 hv2) (va_cwS 2 hts gX0_ticksUntilDue_X0_isIn rfl rfl rfl (by decide +kernel) ⟨Nat.le_of_ble_eq_true rfl, Nat.le_of_ble_eq_true rfl⟩) (zPr_S hK zP_nil) rfl rfl hl.1 rfl (lv_room (Nat.le_of_ble_eq_true rfl)) dX0_ticksUntilDue_5 ⟨Nat.zero_le _, Nat.zero_le _⟩) ?_
  refine lv_if_ne (tgt := 13) hx hb dX0_ticksUntilDue_8 (by decide) (fun c3 => ?_) (fun c3 => ?_)
  · have h := zif_f c3 h
    refine lv_iconst (v := (1 : Int32)) hx hb dX0_ticksUntilDue_13 (by decide) ?_
    refine lv_aload_n hx hb dX0_ticksUntilDue_14 rfl (lv_at hl 0 rfl) ?_
    refine lv_aload_n hx hb dX0_ticksUntilDue_15 rfl (lv_at hl 0 rfl) ?_
    refine va_get (D := D) (ci := 0) (v := .int f_motion) (C := RX0) (T := TX0) (N := 11) hx hb hts hinX0 hown hK hP 0 rfl rfl 8 (by decide) (hts (Cond.fieldLink RX0 43 "LadderRelays$Ladder" "motion" "I") (List.mem_of_getElem? (i := 1) rfl)) (fun _ h9 => h9) rfl dX0_ticksUntilDue_16 ?_
    refine lv_iload_n hx hb dX0_ticksUntilDue_19 rfl (lv_at hl 1 rfl) ?_
    obtain ⟨v4, hv4, h⟩ := zbnd h
    have hPc := hP.sub (ws' := [(a_this, .inr (0, [.int f_relays, .ref a_branches, .ref a_closing, .ref a_opening, .ref a_pull, .ref a_drop, .ref a_changed, .int f_inputs, .int f_motion, .int f_ticks, .int f_changes])), (a_pull, .inl (cI, 6, .inl f_pull)), (a_drop, .inl (cI, 6, .inl f_drop))]) [0, 4, 5] rfl
    refine zc_i (W.runV (C := RX0) (As := [.int f_motion, .int p0]) (rest := [.int (1 : Int32)]) ⟨hx, hb, hml, hown, hts⟩ (c_X0_timeIn l D cI cC cO cJ fu a_this a_branches a_closing a_opening a_pull a_drop a_changed f_relays f_inputs f_motion f_ticks f_changes f_pull f_drop f_motion p0 v4 hv4) (cwV 2 hts gX0_ticksUntilDue_X0_timeIn rfl rfl rfl (by decide +kernel) ⟨Nat.le_of_ble_eq_true rfl, Nat.le_of_ble_eq_true rfl⟩) ⟨zPr_blind, (va_recv hK hP (q0 := 0) (ci := 0) rfl rfl), zPr_pre hK hPc⟩ rfl rfl hl.1 rfl (lv_room (Nat.le_of_ble_eq_true rfl)) dX0_ticksUntilDue_20 ⟨Nat.zero_le _, Nat.zero_le _⟩) ?_
    refine lv_iconst (v := (1 : Int32)) hx hb dX0_ticksUntilDue_23 (by decide) ?_
    refine lv_iadd hx hb dX0_ticksUntilDue_24 ?_
    refine lv_aload_n hx hb dX0_ticksUntilDue_25 rfl (lv_at hl 0 rfl) ?_
    refine va_get (D := D) (ci := 0) (v := .int f_motion) (C := RX0) (T := TX0) (N := 11) hx hb hts hinX0 hown hK hP 0 rfl rfl 8 (by decide) (hts (Cond.fieldLink RX0 43 "LadderRelays$Ladder" "motion" "I") (List.mem_of_getElem? (i := 1) rfl)) (fun _ h9 => h9) rfl dX0_ticksUntilDue_26 ?_
    refine lv_iload_n hx hb dX0_ticksUntilDue_29 rfl (lv_at hl 1 rfl) ?_
    obtain ⟨v5, hv5, h⟩ := zbnd h
    refine zc_i (W.runS (As := [.int f_motion, .int p0]) (rest := [.int (v4 + (1 : Int32)), .int (1 : Int32)]) ⟨hx, hb, hml, hown, hts⟩ (c_X0_countIn l D cI cC cO cJ fu f_motion p0 v5 hv5) (va_cwS 2 hts gX0_ticksUntilDue_X0_countIn rfl rfl rfl (by decide +kernel) ⟨Nat.le_of_ble_eq_true rfl, Nat.le_of_ble_eq_true rfl⟩) (zPr_S hK zP_nil) rfl rfl hl.1 rfl (lv_room (Nat.le_of_ble_eq_true rfl)) dX0_ticksUntilDue_30 ⟨Nat.zero_le _, Nat.zero_le _⟩) ?_
    refine lv_isub hx hb dX0_ticksUntilDue_33 ?_
    refine va_mmax hx hb (by rw [hml]; exact hl.1.symm) hown (hts (Cond.methodLink RX0 109 Lib.Math.max.name) (List.mem_of_getElem? (i := 2) rfl)) (hts (Cond.static Lib.Math.max.name) (List.mem_of_getElem? (i := 3) rfl)) (hts (Cond.initialized "java/lang/Math") (List.mem_of_getElem? (i := 4) rfl)) (hts (Cond.code Lib.Math.max.name Lib.Math.max.code 2 (some .int)) (List.mem_of_getElem? (i := 5) rfl)) (Nat.le_of_ble_eq_true rfl) (Nat.le_of_ble_eq_true rfl) (Nat.zero_le _) (Nat.zero_le _) dX0_ticksUntilDue_34 ?_
    have hR := Option.some.inj h
    subst hR
    exact W.iret (v := (if (1 : Int32) < ((v4 + (1 : Int32)) - v5) then ((v4 + (1 : Int32)) - v5) else (1 : Int32))) hx hb hr (fun t ht hW => ⟨_, rfl, rfl, ht⟩) (fun q hq => absurd hq List.not_mem_nil) dX0_ticksUntilDue_37
  · have h := zif_t c3 h
    refine lv_iconst (v := (0 : Int32)) hx hb dX0_ticksUntilDue_11 (by decide) ?_
    have hR := Option.some.inj h
    subst hR
    exact W.iret (v := (0 : Int32)) hx hb hr (fun t ht hW => ⟨_, rfl, rfl, ht⟩) (fun q hq => absurd hq List.not_mem_nil) dX0_ticksUntilDue_12
def F_X0_allBranches_E27  (v1 : Int32) (v2 : Int32) : Option (Int32) := some v1
def F_X0_allBranches_L4 (f_branches : Nat → Int32) (f_relays : Int32) (k4 : Int32 → Int32 → Option (Int32)) (rec4 : Int32 → Int32 → Option (Int32)) (v3 : Int32) (v4 : Int32) : Option (Int32) := if f_relays ≤ v4 then k4 v3 v4 else (zrd f_branches 6 v4).bind fun v6 => rec4 (v3 + v6) (v4 + (1 : Int32))
def F_X0_allBranches (fu : Nat) (f_relays : Int32) (f_branches : Nat → Int32) : Option (Int32) := zlp2 (F_X0_allBranches_L4 f_branches f_relays (F_X0_allBranches_E27)) fu (0 : Int32) (0 : Int32)
set_option maxHeartbeats 4000000 in
set_option maxRecDepth 100000 in
theorem c_X0_allBranches (l : Launch) (D : va_G) (cI cC cO cJ : ClassId) (fu : Nat) (a_this a_branches a_closing a_opening a_pull a_drop a_changed : Nat) (f_relays : Int32) (f_inputs : Int32) (f_motion : Int32) (f_ticks : Int32) (f_changes : Int32) (f_branches : Nat → Int32) (R : Int32) (h : F_X0_allBranches fu f_relays f_branches = some R) : Met l yX0_allBranches wsX0_allBranches ({ frames := 0, cells := 0, slots := 0, locals := 0 } : Room) (zPr D (ztys cI cC cO cJ) [(a_this, .inr (0, [.int f_relays, .ref a_branches, .ref a_closing, .ref a_opening, .ref a_pull, .ref a_drop, .ref a_changed, .int f_inputs, .int f_motion, .int f_ticks, .int f_changes])), (a_branches, .inl (cI, 6, .inl f_branches))] [.ref a_this]) (zQi R) 0 0 (fun _ => False) := by
  refine Met.ofW (cc := cX0_allBranches) (maxL := 3) (ret := (some .int)) (by decide) rfl ?_
  intro p e s m args below meth c s₁ B hml hv
  obtain ⟨rfl, hP, hK⟩ := hv
  have hx := B.exec
  have hb := B.bytes
  have hr := B.returns
  have hts := atoms_spec (ws := wsX0_allBranches) B.pre
  have hown : s.vm.findClass RX0 = some m.cls := findClass_of_methodNamed B.named
  have hlocks := B.notSynchronized
  have hinX0 : ∀ w ∈ wsX00, w ∈ wsX0_allBranches := fun _ h => (List.mem_cons_of_mem _ (List.mem_append_right _ h))
  have hP : va_P D vwCl [(a_this, .inr (0, [.int f_relays, .ref a_branches, .ref a_closing, .ref a_opening, .ref a_pull, .ref a_drop, .ref a_changed, .int f_inputs, .int f_motion, .int f_ticks, .int f_changes])), (a_branches, .inl (cI, 6, .inl f_branches))] s.heap := hP
  have hK : va_K D vwCl (ztys cI cC cO cJ) s := hK
  have hl := lv_entry ([.ref a_this]) (n := 3) (Nat.le_of_ble_eq_true rfl)
  rw [lg_entry_eq]
  generalize (lg_sl ([.ref a_this]) ++ List.replicate (3 - (lg_sl ([.ref a_this])).length) Slot.unset).toArray = ls at hl ⊢
  have hl : lv_has ls 3 [(0, .ref a_this)] := hl
  unfold F_X0_allBranches at h
  refine lv_iconst (v := (0 : Int32)) hx hb dX0_allBranches_0 (by decide) ?_
  refine lv_istore_n (lv' := [(1, .int (0 : Int32)), (0, .ref a_this)]) hx hb dX0_allBranches_1 rfl hl (by decide) rfl (fun ls hl => ?_)
  refine lv_iconst (v := (0 : Int32)) hx hb dX0_allBranches_2 (by decide) ?_
  refine lv_istore_n (lv' := [(2, .int (0 : Int32)), (1, .int (0 : Int32)), (0, .ref a_this)]) hx hb dX0_allBranches_3 rfl hl (by decide) rfl (fun ls hl => ?_)
  have E27 : ∀ (v1 : Int32) (v2 : Int32), F_X0_allBranches_E27 v1 v2 = some R → ∀ ls : Array Slot, lv_has ls 3 [(0, .ref a_this), (1, .int v1), (2, .int v2)] → W p l e ({ frames := 0, cells := 0, slots := 0, locals := 0 } : Room) s m (([.ref a_this] : List Value).toArray) below meth c s.heap [] 0 0 (MQ below (zQi R) (([.ref a_this] : List Value).toArray) s 0 0 (fun _ => False)) (F0 m 27 ls []) := by
    intro v1 v2 h ls hl
    unfold F_X0_allBranches_E27 at h
    refine lv_iload_n hx hb dX0_allBranches_27 rfl (lv_at hl 1 rfl) ?_
    have hR := Option.some.inj h
    subst hR
    exact W.iret (v := v1) hx hb hr (fun t ht hW => ⟨_, rfl, rfl, ht⟩) (fun q hq => absurd hq List.not_mem_nil) dX0_allBranches_28
  refine zlp_i2 (R := R) (P := fun (v3 : Int32) (v4 : Int32) => ∀ ls : Array Slot, lv_has ls 3 [(0, .ref a_this), (1, .int v3), (2, .int v4)] → W p l e ({ frames := 0, cells := 0, slots := 0, locals := 0 } : Room) s m (([.ref a_this] : List Value).toArray) below meth c s.heap [] 0 0 (MQ below (zQi R) (([.ref a_this] : List Value).toArray) s 0 0 (fun _ => False)) (F0 m 4 ls [])) (fun rec4 ih4 v3 v4 h => ?_) fu (0 : Int32) (0 : Int32) h ls (lv_sub hl [2, 1, 0] rfl)
  intro ls hl
  unfold F_X0_allBranches_L4 at h
  refine lv_iload_n hx hb dX0_allBranches_4 rfl (lv_at hl 2 rfl) ?_
  refine lv_aload_n hx hb dX0_allBranches_5 rfl (lv_at hl 0 rfl) ?_
  refine va_get (D := D) (ci := 0) (v := .int f_relays) (C := RX0) (T := TX0) (N := 11) hx hb hts hinX0 hown hK hP 0 rfl rfl 0 (by decide) (hts (Cond.fieldLink RX0 30 "LadderRelays$Ladder" "relays" "I") (List.mem_of_getElem? (i := 1) rfl)) (fun _ h9 => h9) rfl dX0_allBranches_6 ?_
  refine lv_icmp_ge (tgt := 27) hx hb dX0_allBranches_9 (by decide) (fun c5 => ?_) (fun c5 => ?_)
  · have h := zif_t c5 h
    exact E27 v3 v4 h ls (lv_sub hl [0, 1, 2] rfl)
  · have h := zif_f c5 h
    refine lv_iload_n hx hb dX0_allBranches_12 rfl (lv_at hl 1 rfl) ?_
    refine lv_aload_n hx hb dX0_allBranches_13 rfl (lv_at hl 0 rfl) ?_
    refine va_get (D := D) (ci := 0) (v := .ref a_branches) (C := RX0) (T := TX0) (N := 11) hx hb hts hinX0 hown hK hP 0 rfl rfl 1 (by decide) (hts (Cond.fieldLink RX0 9 "LadderRelays$Ladder" "branches" "[I") (List.mem_of_getElem? (i := 2) rfl)) (fun _ h9 => h9) rfl dX0_allBranches_14 ?_
    refine lv_iload_n hx hb dX0_allBranches_17 rfl (lv_at hl 2 rfl) ?_
    obtain ⟨v6, hv6, h⟩ := zbnd h
    refine zr_iald hx hb hK hP 1 0 rfl rfl hv6 dX0_allBranches_18 ?_
    refine lv_iadd hx hb dX0_allBranches_19 ?_
    refine lv_istore_n (lv' := [(1, .int (v3 + v6)), (0, .ref a_this), (2, .int v4)]) hx hb dX0_allBranches_20 rfl hl (by decide) rfl (fun ls hl => ?_)
    refine lv_iinc (v := (v4 + (1 : Int32))) (lv' := [(2, .int (v4 + (1 : Int32))), (1, .int (v3 + v6)), (0, .ref a_this)]) hx hb dX0_allBranches_21 hl (k := 2) rfl rfl (by decide) rfl (fun ls hl => ?_)
    refine lv_goto (tgt := 4) hx hb dX0_allBranches_24 (by decide) ?_
    exact ih4 (v3 + v6) (v4 + (1 : Int32)) h ls (lv_sub hl [2, 1, 0] rfl)
def F_X0_allContacts_E67  (v1 : Int32) (v2 : Int32) : Option (Int32) := some v1
def F_X0_allContacts_E61 (rec4 : Int32 → Int32 → Option (Int32)) (v4 : Int32) (v6 : Int32) (v7 : Int32) : Option (Int32) := rec4 v6 (v4 + (1 : Int32))
def F_X0_allContacts_L14 (fu : Nat) (f_branches : Nat → Int32) (f_closing : Nat → Int32) (f_opening : Nat → Int32) (v4 : Int32) (k14 : Int32 → Int32 → Option (Int32)) (rec14 : Int32 → Int32 → Option (Int32)) (v8 : Int32) (v9 : Int32) : Option (Int32) := (zrd f_branches 6 v4).bind fun v10 => if v10 ≤ v9 then k14 v8 v9 else (F_X0_placeOf fu v4 v9).bind fun v12 => (zrd f_closing 24 v12).bind fun v13 => (F_J6_bitCount_0f7a4 fu v13).bind fun v14 => (zrd f_opening 24 v12).bind fun v15 => (F_J6_bitCount_0f7a4 fu v15).bind fun v16 => rec14 (v8 + (v14 + v16)) (v9 + (1 : Int32))
def F_X0_allContacts_L4 (fu : Nat) (f_branches : Nat → Int32) (f_closing : Nat → Int32) (f_opening : Nat → Int32) (f_relays : Int32) (k4 : Int32 → Int32 → Option (Int32)) (rec4 : Int32 → Int32 → Option (Int32)) (v3 : Int32) (v4 : Int32) : Option (Int32) := if f_relays ≤ v4 then k4 v3 v4 else zlp2 (F_X0_allContacts_L14 fu f_branches f_closing f_opening v4 (F_X0_allContacts_E61 rec4 v4)) fu v3 (0 : Int32)
def F_X0_allContacts (fu : Nat) (f_relays : Int32) (f_branches : Nat → Int32) (f_closing : Nat → Int32) (f_opening : Nat → Int32) : Option (Int32) := zlp2 (F_X0_allContacts_L4 fu f_branches f_closing f_opening f_relays (F_X0_allContacts_E67)) fu (0 : Int32) (0 : Int32)
set_option maxHeartbeats 4000000 in
set_option maxRecDepth 100000 in
theorem c_X0_allContacts (l : Launch) (D : va_G) (cI cC cO cJ : ClassId) (fu : Nat) (a_this a_branches a_closing a_opening a_pull a_drop a_changed : Nat) (f_relays : Int32) (f_inputs : Int32) (f_motion : Int32) (f_ticks : Int32) (f_changes : Int32) (f_branches : Nat → Int32) (f_closing : Nat → Int32) (f_opening : Nat → Int32) (R : Int32) (h : F_X0_allContacts fu f_relays f_branches f_closing f_opening = some R) : Met l yX0_allContacts wsX0_allContacts ({ frames := 1, cells := 0, slots := 0, locals := 21 } : Room) (zPr D (ztys cI cC cO cJ) [(a_this, .inr (0, [.int f_relays, .ref a_branches, .ref a_closing, .ref a_opening, .ref a_pull, .ref a_drop, .ref a_changed, .int f_inputs, .int f_motion, .int f_ticks, .int f_changes])), (a_branches, .inl (cI, 6, .inl f_branches)), (a_closing, .inl (cI, 24, .inl f_closing)), (a_opening, .inl (cI, 24, .inl f_opening))] [.ref a_this]) (zQi R) 0 0 (fun _ => False) := by
  refine Met.ofW (cc := cX0_allContacts) (maxL := 5) (ret := (some .int)) (by decide) rfl ?_
  intro p e s m args below meth c s₁ B hml hv
  obtain ⟨rfl, hP, hK⟩ := hv
  have hx := B.exec
  have hb := B.bytes
  have hr := B.returns
  have hts := atoms_spec (ws := wsX0_allContacts) B.pre
  have hown : s.vm.findClass RX0 = some m.cls := findClass_of_methodNamed B.named
  have hlocks := B.notSynchronized
  have hinX0 : ∀ w ∈ wsX00, w ∈ wsX0_allContacts := fun _ h => (List.mem_cons_of_mem _ (List.mem_append_right _ h))
  have hP : va_P D vwCl [(a_this, .inr (0, [.int f_relays, .ref a_branches, .ref a_closing, .ref a_opening, .ref a_pull, .ref a_drop, .ref a_changed, .int f_inputs, .int f_motion, .int f_ticks, .int f_changes])), (a_branches, .inl (cI, 6, .inl f_branches)), (a_closing, .inl (cI, 24, .inl f_closing)), (a_opening, .inl (cI, 24, .inl f_opening))] s.heap := hP
  have hK : va_K D vwCl (ztys cI cC cO cJ) s := hK
  have hl := lv_entry ([.ref a_this]) (n := 5) (Nat.le_of_ble_eq_true rfl)
  rw [lg_entry_eq]
  generalize (lg_sl ([.ref a_this]) ++ List.replicate (5 - (lg_sl ([.ref a_this])).length) Slot.unset).toArray = ls at hl ⊢
  have hl : lv_has ls 5 [(0, .ref a_this)] := hl
  unfold F_X0_allContacts at h
  refine lv_iconst (v := (0 : Int32)) hx hb dX0_allContacts_0 (by decide) ?_
  refine lv_istore_n (lv' := [(1, .int (0 : Int32)), (0, .ref a_this)]) hx hb dX0_allContacts_1 rfl hl (by decide) rfl (fun ls hl => ?_)
  refine lv_iconst (v := (0 : Int32)) hx hb dX0_allContacts_2 (by decide) ?_
  refine lv_istore_n (lv' := [(2, .int (0 : Int32)), (1, .int (0 : Int32)), (0, .ref a_this)]) hx hb dX0_allContacts_3 rfl hl (by decide) rfl (fun ls hl => ?_)
  have E67 : ∀ (v1 : Int32) (v2 : Int32), F_X0_allContacts_E67 v1 v2 = some R → ∀ ls : Array Slot, lv_has ls 5 [(0, .ref a_this), (1, .int v1), (2, .int v2)] → W p l e ({ frames := 1, cells := 0, slots := 0, locals := 21 } : Room) s m (([.ref a_this] : List Value).toArray) below meth c s.heap [] 0 0 (MQ below (zQi R) (([.ref a_this] : List Value).toArray) s 0 0 (fun _ => False)) (F0 m 67 ls []) := by
    intro v1 v2 h ls hl
    unfold F_X0_allContacts_E67 at h
    refine lv_iload_n hx hb dX0_allContacts_67 rfl (lv_at hl 1 rfl) ?_
    have hR := Option.some.inj h
    subst hR
    exact W.iret (v := v1) hx hb hr (fun t ht hW => ⟨_, rfl, rfl, ht⟩) (fun q hq => absurd hq List.not_mem_nil) dX0_allContacts_68
  refine zlp_i2 (R := R) (P := fun (v3 : Int32) (v4 : Int32) => ∀ ls : Array Slot, lv_has ls 5 [(0, .ref a_this), (1, .int v3), (2, .int v4)] → W p l e ({ frames := 1, cells := 0, slots := 0, locals := 21 } : Room) s m (([.ref a_this] : List Value).toArray) below meth c s.heap [] 0 0 (MQ below (zQi R) (([.ref a_this] : List Value).toArray) s 0 0 (fun _ => False)) (F0 m 4 ls [])) (fun rec4 ih4 v3 v4 h => ?_) fu (0 : Int32) (0 : Int32) h ls (lv_sub hl [2, 1, 0] rfl)
  intro ls hl
  unfold F_X0_allContacts_L4 at h
  refine lv_iload_n hx hb dX0_allContacts_4 rfl (lv_at hl 2 rfl) ?_
  refine lv_aload_n hx hb dX0_allContacts_5 rfl (lv_at hl 0 rfl) ?_
  refine va_get (D := D) (ci := 0) (v := .int f_relays) (C := RX0) (T := TX0) (N := 11) hx hb hts hinX0 hown hK hP 0 rfl rfl 0 (by decide) (hts (Cond.fieldLink RX0 30 "LadderRelays$Ladder" "relays" "I") (List.mem_of_getElem? (i := 1) rfl)) (fun _ h9 => h9) rfl dX0_allContacts_6 ?_
  refine lv_icmp_ge (tgt := 67) hx hb dX0_allContacts_9 (by decide) (fun c5 => ?_) (fun c5 => ?_)
  · have h := zif_t c5 h
    exact E67 v3 v4 h ls (lv_sub hl [0, 1, 2] rfl)
  · have h := zif_f c5 h
    refine lv_iconst (v := (0 : Int32)) hx hb dX0_allContacts_12 (by decide) ?_
    refine lv_istore_n (lv' := [(3, .int (0 : Int32)), (0, .ref a_this), (1, .int v3), (2, .int v4)]) hx hb dX0_allContacts_13 rfl hl (by decide) rfl (fun ls hl => ?_)
    have E61 : ∀ (v6 : Int32) (v7 : Int32), F_X0_allContacts_E61 rec4 v4 v6 v7 = some R → ∀ ls : Array Slot, lv_has ls 5 [(0, .ref a_this), (1, .int v6), (2, .int v4), (3, .int v7)] → W p l e ({ frames := 1, cells := 0, slots := 0, locals := 21 } : Room) s m (([.ref a_this] : List Value).toArray) below meth c s.heap [] 0 0 (MQ below (zQi R) (([.ref a_this] : List Value).toArray) s 0 0 (fun _ => False)) (F0 m 61 ls []) := by
      intro v6 v7 h ls hl
      unfold F_X0_allContacts_E61 at h
      refine lv_iinc (v := (v4 + (1 : Int32))) (lv' := [(2, .int (v4 + (1 : Int32))), (0, .ref a_this), (1, .int v6), (3, .int v7)]) hx hb dX0_allContacts_61 hl (k := 2) rfl rfl (by decide) rfl (fun ls hl => ?_)
      refine lv_goto (tgt := 4) hx hb dX0_allContacts_64 (by decide) ?_
      exact ih4 v6 (v4 + (1 : Int32)) h ls (lv_sub hl [1, 2, 0] rfl)
    refine zlp_i2 (R := R) (P := fun (v8 : Int32) (v9 : Int32) => ∀ ls : Array Slot, lv_has ls 5 [(0, .ref a_this), (1, .int v8), (2, .int v4), (3, .int v9)] → W p l e ({ frames := 1, cells := 0, slots := 0, locals := 21 } : Room) s m (([.ref a_this] : List Value).toArray) below meth c s.heap [] 0 0 (MQ below (zQi R) (([.ref a_this] : List Value).toArray) s 0 0 (fun _ => False)) (F0 m 14 ls [])) (fun rec14 ih14 v8 v9 h => ?_) fu v3 (0 : Int32) h ls (lv_sub hl [1, 2, 3, 0] rfl)
    intro ls hl
    unfold F_X0_allContacts_L14 at h
    refine lv_iload_n hx hb dX0_allContacts_14 rfl (lv_at hl 3 rfl) ?_
    refine lv_aload_n hx hb dX0_allContacts_15 rfl (lv_at hl 0 rfl) ?_
    refine va_get (D := D) (ci := 0) (v := .ref a_branches) (C := RX0) (T := TX0) (N := 11) hx hb hts hinX0 hown hK hP 0 rfl rfl 1 (by decide) (hts (Cond.fieldLink RX0 9 "LadderRelays$Ladder" "branches" "[I") (List.mem_of_getElem? (i := 2) rfl)) (fun _ h9 => h9) rfl dX0_allContacts_16 ?_
    refine lv_iload_n hx hb dX0_allContacts_19 rfl (lv_at hl 2 rfl) ?_
    obtain ⟨v10, hv10, h⟩ := zbnd h
    refine zr_iald hx hb hK hP 1 0 rfl rfl hv10 dX0_allContacts_20 ?_
    refine lv_icmp_ge (tgt := 61) hx hb dX0_allContacts_21 (by decide) (fun c11 => ?_) (fun c11 => ?_)
    · have h := zif_t c11 h
      exact E61 v8 v9 h ls (lv_sub hl [0, 1, 2, 3] rfl)
    · have h := zif_f c11 h
      refine lv_iload_n hx hb dX0_allContacts_24 rfl (lv_at hl 2 rfl) ?_
      refine lv_iload_n hx hb dX0_allContacts_25 rfl (lv_at hl 3 rfl) ?_
      obtain ⟨v12, hv12, h⟩ := zbnd h
      refine zc_i (W.runS (As := [.int v4, .int v9]) (rest := []) ⟨hx, hb, hml, hown, hts⟩ (c_X0_placeOf l D cI cC cO cJ fu v4 v9 v12 hv12) (va_cwS 2 hts gX0_allContacts_X0_placeOf rfl rfl rfl (by decide +kernel) ⟨Nat.le_of_ble_eq_true rfl, Nat.le_of_ble_eq_true rfl⟩) (zPr_S hK zP_nil) rfl rfl hl.1 rfl (lv_room (Nat.le_of_ble_eq_true rfl)) dX0_allContacts_26 ⟨Nat.zero_le _, Nat.zero_le _⟩) ?_
      refine lv_istore (lv' := [(4, .int v12), (0, .ref a_this), (1, .int v8), (2, .int v4), (3, .int v9)]) hx hb dX0_allContacts_29 hl (by decide) rfl (fun ls hl => ?_)
      refine lv_iload_n hx hb dX0_allContacts_31 rfl (lv_at hl 2 rfl) ?_
      refine lv_aload_n hx hb dX0_allContacts_32 rfl (lv_at hl 1 rfl) ?_
      refine va_get (D := D) (ci := 0) (v := .ref a_closing) (C := RX0) (T := TX0) (N := 11) hx hb hts hinX0 hown hK hP 0 rfl rfl 2 (by decide) (hts (Cond.fieldLink RX0 15 "LadderRelays$Ladder" "closing" "[I") (List.mem_of_getElem? (i := 3) rfl)) (fun _ h9 => h9) rfl dX0_allContacts_33 ?_
      refine lv_iload hx hb dX0_allContacts_36 (lv_at hl 0 rfl) ?_
      obtain ⟨v13, hv13, h⟩ := zbnd h
      refine zr_iald hx hb hK hP 2 0 rfl rfl hv13 dX0_allContacts_38 ?_
      obtain ⟨v14, hv14, h⟩ := zbnd h
      refine zc_i (W.runS (As := [.int v13]) (rest := [.int v8]) ⟨hx, hb, hml, hown, hts⟩ (c_J6_bitCount_0f7a4 l D cI cC cO cJ fu v13 v14 hv14) (va_cwS 1 hts gX0_allContacts_J6_bitCount_0f7a4 rfl rfl rfl (by decide +kernel) ⟨Nat.le_of_ble_eq_true rfl, Nat.le_of_ble_eq_true rfl⟩) (zPr_S hK zP_nil) rfl rfl hl.1 rfl (lv_room (Nat.le_of_ble_eq_true rfl)) dX0_allContacts_39 ⟨Nat.zero_le _, Nat.zero_le _⟩) ?_
      refine lv_aload_n hx hb dX0_allContacts_42 rfl (lv_at hl 1 rfl) ?_
      refine va_get (D := D) (ci := 0) (v := .ref a_opening) (C := RX0) (T := TX0) (N := 11) hx hb hts hinX0 hown hK hP 0 rfl rfl 3 (by decide) (hts (Cond.fieldLink RX0 18 "LadderRelays$Ladder" "opening" "[I") (List.mem_of_getElem? (i := 4) rfl)) (fun _ h9 => h9) rfl dX0_allContacts_43 ?_
      refine lv_iload hx hb dX0_allContacts_46 (lv_at hl 0 rfl) ?_
      obtain ⟨v15, hv15, h⟩ := zbnd h
      refine zr_iald hx hb hK hP 3 0 rfl rfl hv15 dX0_allContacts_48 ?_
      obtain ⟨v16, hv16, h⟩ := zbnd h
      refine zc_i (W.runS (As := [.int v15]) (rest := [.int v14, .int v8]) ⟨hx, hb, hml, hown, hts⟩ (c_J6_bitCount_0f7a4 l D cI cC cO cJ fu v15 v16 hv16) (va_cwS 1 hts gX0_allContacts_J6_bitCount_0f7a4 rfl rfl rfl (by decide +kernel) ⟨Nat.le_of_ble_eq_true rfl, Nat.le_of_ble_eq_true rfl⟩) (zPr_S hK zP_nil) rfl rfl hl.1 rfl (lv_room (Nat.le_of_ble_eq_true rfl)) dX0_allContacts_49 ⟨Nat.zero_le _, Nat.zero_le _⟩) ?_
      refine lv_iadd hx hb dX0_allContacts_52 ?_
      refine lv_iadd hx hb dX0_allContacts_53 ?_
      refine lv_istore_n (lv' := [(1, .int (v8 + (v14 + v16))), (4, .int v12), (0, .ref a_this), (2, .int v4), (3, .int v9)]) hx hb dX0_allContacts_54 rfl hl (by decide) rfl (fun ls hl => ?_)
      refine lv_iinc (v := (v9 + (1 : Int32))) (lv' := [(3, .int (v9 + (1 : Int32))), (1, .int (v8 + (v14 + v16))), (4, .int v12), (0, .ref a_this), (2, .int v4)]) hx hb dX0_allContacts_55 hl (k := 4) rfl rfl (by decide) rfl (fun ls hl => ?_)
      refine lv_goto (tgt := 14) hx hb dX0_allContacts_58 (by decide) ?_
      exact ih14 (v8 + (v14 + v16)) (v9 + (1 : Int32)) h ls (lv_sub hl [3, 1, 4, 0] rfl)
def F_X0_contactsOf_E45  (v1 : Int32) (v2 : Int32) : Option (Int32) := some v1
def F_X0_contactsOf_L4 (fu : Nat) (f_branches : Nat → Int32) (f_closing : Nat → Int32) (f_opening : Nat → Int32) (p0 : Int32) (k4 : Int32 → Int32 → Option (Int32)) (rec4 : Int32 → Int32 → Option (Int32)) (v3 : Int32) (v4 : Int32) : Option (Int32) := (zrd f_branches 6 p0).bind fun v5 => if v5 ≤ v4 then k4 v3 v4 else (F_X0_placeOf fu p0 v4).bind fun v7 => (zrd f_closing 24 v7).bind fun v8 => (zrd f_opening 24 v7).bind fun v9 => rec4 (v3 ||| (v8 ||| v9)) (v4 + (1 : Int32))
def F_X0_contactsOf (fu : Nat) (f_branches : Nat → Int32) (f_closing : Nat → Int32) (f_opening : Nat → Int32) (p0 : Int32) : Option (Int32) := zlp2 (F_X0_contactsOf_L4 fu f_branches f_closing f_opening p0 (F_X0_contactsOf_E45)) fu (0 : Int32) (0 : Int32)
set_option maxHeartbeats 4000000 in
set_option maxRecDepth 100000 in
theorem c_X0_contactsOf (l : Launch) (D : va_G) (cI cC cO cJ : ClassId) (fu : Nat) (a_this a_branches a_closing a_opening a_pull a_drop a_changed : Nat) (f_relays : Int32) (f_inputs : Int32) (f_motion : Int32) (f_ticks : Int32) (f_changes : Int32) (f_branches : Nat → Int32) (f_closing : Nat → Int32) (f_opening : Nat → Int32) (p0 : Int32) (R : Int32) (h : F_X0_contactsOf fu f_branches f_closing f_opening p0 = some R) : Met l yX0_contactsOf wsX0_contactsOf ({ frames := 1, cells := 0, slots := 0, locals := 21 } : Room) (zPr D (ztys cI cC cO cJ) [(a_this, .inr (0, [.int f_relays, .ref a_branches, .ref a_closing, .ref a_opening, .ref a_pull, .ref a_drop, .ref a_changed, .int f_inputs, .int f_motion, .int f_ticks, .int f_changes])), (a_branches, .inl (cI, 6, .inl f_branches)), (a_closing, .inl (cI, 24, .inl f_closing)), (a_opening, .inl (cI, 24, .inl f_opening))] [.ref a_this, .int p0]) (zQi R) 0 0 (fun _ => False) := by
  refine Met.ofW (cc := cX0_contactsOf) (maxL := 5) (ret := (some .int)) (by decide) rfl ?_
  intro p e s m args below meth c s₁ B hml hv
  obtain ⟨rfl, hP, hK⟩ := hv
  have hx := B.exec
  have hb := B.bytes
  have hr := B.returns
  have hts := atoms_spec (ws := wsX0_contactsOf) B.pre
  have hown : s.vm.findClass RX0 = some m.cls := findClass_of_methodNamed B.named
  have hlocks := B.notSynchronized
  have hinX0 : ∀ w ∈ wsX00, w ∈ wsX0_contactsOf := fun _ h => (List.mem_cons_of_mem _ (List.mem_append_right _ h))
  have hP : va_P D vwCl [(a_this, .inr (0, [.int f_relays, .ref a_branches, .ref a_closing, .ref a_opening, .ref a_pull, .ref a_drop, .ref a_changed, .int f_inputs, .int f_motion, .int f_ticks, .int f_changes])), (a_branches, .inl (cI, 6, .inl f_branches)), (a_closing, .inl (cI, 24, .inl f_closing)), (a_opening, .inl (cI, 24, .inl f_opening))] s.heap := hP
  have hK : va_K D vwCl (ztys cI cC cO cJ) s := hK
  have hl := lv_entry ([.ref a_this, .int p0]) (n := 5) (Nat.le_of_ble_eq_true rfl)
  rw [lg_entry_eq]
  generalize (lg_sl ([.ref a_this, .int p0]) ++ List.replicate (5 - (lg_sl ([.ref a_this, .int p0])).length) Slot.unset).toArray = ls at hl ⊢
  have hl : lv_has ls 5 [(0, .ref a_this), (1, .int p0)] := hl
  unfold F_X0_contactsOf at h
  refine lv_iconst (v := (0 : Int32)) hx hb dX0_contactsOf_0 (by decide) ?_
  refine lv_istore_n (lv' := [(2, .int (0 : Int32)), (0, .ref a_this), (1, .int p0)]) hx hb dX0_contactsOf_1 rfl hl (by decide) rfl (fun ls hl => ?_)
  refine lv_iconst (v := (0 : Int32)) hx hb dX0_contactsOf_2 (by decide) ?_
  refine lv_istore_n (lv' := [(3, .int (0 : Int32)), (2, .int (0 : Int32)), (0, .ref a_this), (1, .int p0)]) hx hb dX0_contactsOf_3 rfl hl (by decide) rfl (fun ls hl => ?_)
  have E45 : ∀ (v1 : Int32) (v2 : Int32), F_X0_contactsOf_E45 v1 v2 = some R → ∀ ls : Array Slot, lv_has ls 5 [(0, .ref a_this), (1, .int p0), (2, .int v1), (3, .int v2)] → W p l e ({ frames := 1, cells := 0, slots := 0, locals := 21 } : Room) s m (([.ref a_this, .int p0] : List Value).toArray) below meth c s.heap [] 0 0 (MQ below (zQi R) (([.ref a_this, .int p0] : List Value).toArray) s 0 0 (fun _ => False)) (F0 m 45 ls []) := by
    intro v1 v2 h ls hl
    unfold F_X0_contactsOf_E45 at h
    refine lv_iload_n hx hb dX0_contactsOf_45 rfl (lv_at hl 2 rfl) ?_
    have hR := Option.some.inj h
    subst hR
    exact W.iret (v := v1) hx hb hr (fun t ht hW => ⟨_, rfl, rfl, ht⟩) (fun q hq => absurd hq List.not_mem_nil) dX0_contactsOf_46
  refine zlp_i2 (R := R) (P := fun (v3 : Int32) (v4 : Int32) => ∀ ls : Array Slot, lv_has ls 5 [(0, .ref a_this), (1, .int p0), (2, .int v3), (3, .int v4)] → W p l e ({ frames := 1, cells := 0, slots := 0, locals := 21 } : Room) s m (([.ref a_this, .int p0] : List Value).toArray) below meth c s.heap [] 0 0 (MQ below (zQi R) (([.ref a_this, .int p0] : List Value).toArray) s 0 0 (fun _ => False)) (F0 m 4 ls [])) (fun rec4 ih4 v3 v4 h => ?_) fu (0 : Int32) (0 : Int32) h ls (lv_sub hl [2, 3, 1, 0] rfl)
  intro ls hl
  unfold F_X0_contactsOf_L4 at h
  refine lv_iload_n hx hb dX0_contactsOf_4 rfl (lv_at hl 3 rfl) ?_
  refine lv_aload_n hx hb dX0_contactsOf_5 rfl (lv_at hl 0 rfl) ?_
  refine va_get (D := D) (ci := 0) (v := .ref a_branches) (C := RX0) (T := TX0) (N := 11) hx hb hts hinX0 hown hK hP 0 rfl rfl 1 (by decide) (hts (Cond.fieldLink RX0 9 "LadderRelays$Ladder" "branches" "[I") (List.mem_of_getElem? (i := 1) rfl)) (fun _ h9 => h9) rfl dX0_contactsOf_6 ?_
  refine lv_iload_n hx hb dX0_contactsOf_9 rfl (lv_at hl 1 rfl) ?_
  obtain ⟨v5, hv5, h⟩ := zbnd h
  refine zr_iald hx hb hK hP 1 0 rfl rfl hv5 dX0_contactsOf_10 ?_
  refine lv_icmp_ge (tgt := 45) hx hb dX0_contactsOf_11 (by decide) (fun c6 => ?_) (fun c6 => ?_)
  · have h := zif_t c6 h
    exact E45 v3 v4 h ls (lv_sub hl [0, 1, 2, 3] rfl)
  · have h := zif_f c6 h
    refine lv_iload_n hx hb dX0_contactsOf_14 rfl (lv_at hl 1 rfl) ?_
    refine lv_iload_n hx hb dX0_contactsOf_15 rfl (lv_at hl 3 rfl) ?_
    obtain ⟨v7, hv7, h⟩ := zbnd h
    refine zc_i (W.runS (As := [.int p0, .int v4]) (rest := []) ⟨hx, hb, hml, hown, hts⟩ (c_X0_placeOf l D cI cC cO cJ fu p0 v4 v7 hv7) (va_cwS 2 hts gX0_contactsOf_X0_placeOf rfl rfl rfl (by decide +kernel) ⟨Nat.le_of_ble_eq_true rfl, Nat.le_of_ble_eq_true rfl⟩) (zPr_S hK zP_nil) rfl rfl hl.1 rfl (lv_room (Nat.le_of_ble_eq_true rfl)) dX0_contactsOf_16 ⟨Nat.zero_le _, Nat.zero_le _⟩) ?_
    refine lv_istore (lv' := [(4, .int v7), (0, .ref a_this), (1, .int p0), (2, .int v3), (3, .int v4)]) hx hb dX0_contactsOf_19 hl (by decide) rfl (fun ls hl => ?_)
    refine lv_iload_n hx hb dX0_contactsOf_21 rfl (lv_at hl 3 rfl) ?_
    refine lv_aload_n hx hb dX0_contactsOf_22 rfl (lv_at hl 1 rfl) ?_
    refine va_get (D := D) (ci := 0) (v := .ref a_closing) (C := RX0) (T := TX0) (N := 11) hx hb hts hinX0 hown hK hP 0 rfl rfl 2 (by decide) (hts (Cond.fieldLink RX0 15 "LadderRelays$Ladder" "closing" "[I") (List.mem_of_getElem? (i := 2) rfl)) (fun _ h9 => h9) rfl dX0_contactsOf_23 ?_
    refine lv_iload hx hb dX0_contactsOf_26 (lv_at hl 0 rfl) ?_
    obtain ⟨v8, hv8, h⟩ := zbnd h
    refine zr_iald hx hb hK hP 2 0 rfl rfl hv8 dX0_contactsOf_28 ?_
    refine lv_aload_n hx hb dX0_contactsOf_29 rfl (lv_at hl 1 rfl) ?_
    refine va_get (D := D) (ci := 0) (v := .ref a_opening) (C := RX0) (T := TX0) (N := 11) hx hb hts hinX0 hown hK hP 0 rfl rfl 3 (by decide) (hts (Cond.fieldLink RX0 18 "LadderRelays$Ladder" "opening" "[I") (List.mem_of_getElem? (i := 3) rfl)) (fun _ h9 => h9) rfl dX0_contactsOf_30 ?_
    refine lv_iload hx hb dX0_contactsOf_33 (lv_at hl 0 rfl) ?_
    obtain ⟨v9, hv9, h⟩ := zbnd h
    refine zr_iald hx hb hK hP 3 0 rfl rfl hv9 dX0_contactsOf_35 ?_
    refine lv_ior hx hb dX0_contactsOf_36 ?_
    refine lv_ior hx hb dX0_contactsOf_37 ?_
    refine lv_istore_n (lv' := [(2, .int (v3 ||| (v8 ||| v9))), (4, .int v7), (0, .ref a_this), (1, .int p0), (3, .int v4)]) hx hb dX0_contactsOf_38 rfl hl (by decide) rfl (fun ls hl => ?_)
    refine lv_iinc (v := (v4 + (1 : Int32))) (lv' := [(3, .int (v4 + (1 : Int32))), (2, .int (v3 ||| (v8 ||| v9))), (4, .int v7), (0, .ref a_this), (1, .int p0)]) hx hb dX0_contactsOf_39 hl (k := 4) rfl rfl (by decide) rfl (fun ls hl => ?_)
    refine lv_goto (tgt := 4) hx hb dX0_contactsOf_42 (by decide) ?_
    exact ih4 (v3 ||| (v8 ||| v9)) (v4 + (1 : Int32)) h ls (lv_sub hl [3, 4, 1, 0] rfl)
def F_X0_branchesThatLead_E43  (v1 : Int32) (v2 : Int32) : Option (Int32) := some v1
def F_X0_branchesThatLead_L5 (fu : Nat) (f_branches : Nat → Int32) (f_closing : Nat → Int32) (f_opening : Nat → Int32) (p0 : Int32) (p1 : Int32) (k5 : Int32 → Int32 → Option (Int32)) (rec5 : Int32 → Int32 → Option (Int32)) (v3 : Int32) (v4 : Int32) : Option (Int32) := (zrd f_branches 6 p0).bind fun v5 => if v5 ≤ v4 then k5 v3 v4 else (F_X0_placeOf fu p0 v4).bind fun v7 => (F_X0_contactsAgainst fu f_closing f_opening v7 p1).bind fun v8 => if v8 = (0 : Int32) then rec5 (v3 ||| ((1 : Int32) <<< (v4 &&& (31 : Int32)))) (v4 + (1 : Int32)) else rec5 v3 (v4 + (1 : Int32))
def F_X0_branchesThatLead (fu : Nat) (f_branches : Nat → Int32) (f_closing : Nat → Int32) (f_opening : Nat → Int32) (p0 : Int32) (p1 : Int32) : Option (Int32) := zlp2 (F_X0_branchesThatLead_L5 fu f_branches f_closing f_opening p0 p1 (F_X0_branchesThatLead_E43)) fu (0 : Int32) (0 : Int32)
set_option maxHeartbeats 4000000 in
set_option maxRecDepth 100000 in
theorem c_X0_branchesThatLead (l : Launch) (D : va_G) (cI cC cO cJ : ClassId) (fu : Nat) (a_this a_branches a_closing a_opening a_pull a_drop a_changed : Nat) (f_relays : Int32) (f_inputs : Int32) (f_motion : Int32) (f_ticks : Int32) (f_changes : Int32) (f_branches : Nat → Int32) (f_closing : Nat → Int32) (f_opening : Nat → Int32) (p0 : Int32) (p1 : Int32) (R : Int32) (h : F_X0_branchesThatLead fu f_branches f_closing f_opening p0 p1 = some R) : Met l yX0_branchesThatLead wsX0_branchesThatLead ({ frames := 1, cells := 0, slots := 0, locals := 22 } : Room) (zPr D (ztys cI cC cO cJ) [(a_this, .inr (0, [.int f_relays, .ref a_branches, .ref a_closing, .ref a_opening, .ref a_pull, .ref a_drop, .ref a_changed, .int f_inputs, .int f_motion, .int f_ticks, .int f_changes])), (a_branches, .inl (cI, 6, .inl f_branches)), (a_closing, .inl (cI, 24, .inl f_closing)), (a_opening, .inl (cI, 24, .inl f_opening))] [.ref a_this, .int p0, .int p1]) (zQi R) 0 0 (fun _ => False) := by
  refine Met.ofW (cc := cX0_branchesThatLead) (maxL := 5) (ret := (some .int)) (by decide) rfl ?_
  intro p e s m args below meth c s₁ B hml hv
  obtain ⟨rfl, hP, hK⟩ := hv
  have hx := B.exec
  have hb := B.bytes
  have hr := B.returns
  have hts := atoms_spec (ws := wsX0_branchesThatLead) B.pre
  have hown : s.vm.findClass RX0 = some m.cls := findClass_of_methodNamed B.named
  have hlocks := B.notSynchronized
  have hinX0 : ∀ w ∈ wsX00, w ∈ wsX0_branchesThatLead := fun _ h => (List.mem_cons_of_mem _ (List.mem_append_right _ h))
  have hP : va_P D vwCl [(a_this, .inr (0, [.int f_relays, .ref a_branches, .ref a_closing, .ref a_opening, .ref a_pull, .ref a_drop, .ref a_changed, .int f_inputs, .int f_motion, .int f_ticks, .int f_changes])), (a_branches, .inl (cI, 6, .inl f_branches)), (a_closing, .inl (cI, 24, .inl f_closing)), (a_opening, .inl (cI, 24, .inl f_opening))] s.heap := hP
  have hK : va_K D vwCl (ztys cI cC cO cJ) s := hK
  have hl := lv_entry ([.ref a_this, .int p0, .int p1]) (n := 5) (Nat.le_of_ble_eq_true rfl)
  rw [lg_entry_eq]
  generalize (lg_sl ([.ref a_this, .int p0, .int p1]) ++ List.replicate (5 - (lg_sl ([.ref a_this, .int p0, .int p1])).length) Slot.unset).toArray = ls at hl ⊢
  have hl : lv_has ls 5 [(0, .ref a_this), (1, .int p0), (2, .int p1)] := hl
  unfold F_X0_branchesThatLead at h
  refine lv_iconst (v := (0 : Int32)) hx hb dX0_branchesThatLead_0 (by decide) ?_
  refine lv_istore_n (lv' := [(3, .int (0 : Int32)), (0, .ref a_this), (1, .int p0), (2, .int p1)]) hx hb dX0_branchesThatLead_1 rfl hl (by decide) rfl (fun ls hl => ?_)
  refine lv_iconst (v := (0 : Int32)) hx hb dX0_branchesThatLead_2 (by decide) ?_
  refine lv_istore (lv' := [(4, .int (0 : Int32)), (3, .int (0 : Int32)), (0, .ref a_this), (1, .int p0), (2, .int p1)]) hx hb dX0_branchesThatLead_3 hl (by decide) rfl (fun ls hl => ?_)
  have E43 : ∀ (v1 : Int32) (v2 : Int32), F_X0_branchesThatLead_E43 v1 v2 = some R → ∀ ls : Array Slot, lv_has ls 5 [(0, .ref a_this), (1, .int p0), (2, .int p1), (3, .int v1), (4, .int v2)] → W p l e ({ frames := 1, cells := 0, slots := 0, locals := 22 } : Room) s m (([.ref a_this, .int p0, .int p1] : List Value).toArray) below meth c s.heap [] 0 0 (MQ below (zQi R) (([.ref a_this, .int p0, .int p1] : List Value).toArray) s 0 0 (fun _ => False)) (F0 m 43 ls []) := by
    intro v1 v2 h ls hl
    unfold F_X0_branchesThatLead_E43 at h
    refine lv_iload_n hx hb dX0_branchesThatLead_43 rfl (lv_at hl 3 rfl) ?_
    have hR := Option.some.inj h
    subst hR
    exact W.iret (v := v1) hx hb hr (fun t ht hW => ⟨_, rfl, rfl, ht⟩) (fun q hq => absurd hq List.not_mem_nil) dX0_branchesThatLead_44
  refine zlp_i2 (R := R) (P := fun (v3 : Int32) (v4 : Int32) => ∀ ls : Array Slot, lv_has ls 5 [(0, .ref a_this), (1, .int p0), (2, .int p1), (3, .int v3), (4, .int v4)] → W p l e ({ frames := 1, cells := 0, slots := 0, locals := 22 } : Room) s m (([.ref a_this, .int p0, .int p1] : List Value).toArray) below meth c s.heap [] 0 0 (MQ below (zQi R) (([.ref a_this, .int p0, .int p1] : List Value).toArray) s 0 0 (fun _ => False)) (F0 m 5 ls [])) (fun rec5 ih5 v3 v4 h => ?_) fu (0 : Int32) (0 : Int32) h ls (lv_sub hl [2, 3, 4, 1, 0] rfl)
  intro ls hl
  unfold F_X0_branchesThatLead_L5 at h
  refine lv_iload hx hb dX0_branchesThatLead_5 (lv_at hl 4 rfl) ?_
  refine lv_aload_n hx hb dX0_branchesThatLead_7 rfl (lv_at hl 0 rfl) ?_
  refine va_get (D := D) (ci := 0) (v := .ref a_branches) (C := RX0) (T := TX0) (N := 11) hx hb hts hinX0 hown hK hP 0 rfl rfl 1 (by decide) (hts (Cond.fieldLink RX0 9 "LadderRelays$Ladder" "branches" "[I") (List.mem_of_getElem? (i := 1) rfl)) (fun _ h9 => h9) rfl dX0_branchesThatLead_8 ?_
  refine lv_iload_n hx hb dX0_branchesThatLead_11 rfl (lv_at hl 1 rfl) ?_
  obtain ⟨v5, hv5, h⟩ := zbnd h
  refine zr_iald hx hb hK hP 1 0 rfl rfl hv5 dX0_branchesThatLead_12 ?_
  refine lv_icmp_ge (tgt := 43) hx hb dX0_branchesThatLead_13 (by decide) (fun c6 => ?_) (fun c6 => ?_)
  · have h := zif_t c6 h
    exact E43 v3 v4 h ls (lv_sub hl [0, 1, 2, 3, 4] rfl)
  · have h := zif_f c6 h
    refine lv_aload_n hx hb dX0_branchesThatLead_16 rfl (lv_at hl 0 rfl) ?_
    refine lv_iload_n hx hb dX0_branchesThatLead_17 rfl (lv_at hl 1 rfl) ?_
    refine lv_iload hx hb dX0_branchesThatLead_18 (lv_at hl 4 rfl) ?_
    obtain ⟨v7, hv7, h⟩ := zbnd h
    refine zc_i (W.runS (As := [.int p0, .int v4]) (rest := [.ref a_this]) ⟨hx, hb, hml, hown, hts⟩ (c_X0_placeOf l D cI cC cO cJ fu p0 v4 v7 hv7) (va_cwS 2 hts gX0_branchesThatLead_X0_placeOf rfl rfl rfl (by decide +kernel) ⟨Nat.le_of_ble_eq_true rfl, Nat.le_of_ble_eq_true rfl⟩) (zPr_S hK zP_nil) rfl rfl hl.1 rfl (lv_room (Nat.le_of_ble_eq_true rfl)) dX0_branchesThatLead_20 ⟨Nat.zero_le _, Nat.zero_le _⟩) ?_
    refine lv_iload_n hx hb dX0_branchesThatLead_23 rfl (lv_at hl 2 rfl) ?_
    obtain ⟨v8, hv8, h⟩ := zbnd h
    have hPc := hP.sub (ws' := [(a_this, .inr (0, [.int f_relays, .ref a_branches, .ref a_closing, .ref a_opening, .ref a_pull, .ref a_drop, .ref a_changed, .int f_inputs, .int f_motion, .int f_ticks, .int f_changes])), (a_closing, .inl (cI, 24, .inl f_closing)), (a_opening, .inl (cI, 24, .inl f_opening))]) [0, 2, 3] rfl
    refine zc_i (W.runV (C := RX0) (As := [.int v7, .int p1]) (rest := []) ⟨hx, hb, hml, hown, hts⟩ (c_X0_contactsAgainst l D cI cC cO cJ fu a_this a_branches a_closing a_opening a_pull a_drop a_changed f_relays f_inputs f_motion f_ticks f_changes f_closing f_opening v7 p1 v8 hv8) (cwV 2 hts gX0_branchesThatLead_X0_contactsAgainst rfl rfl rfl (by decide +kernel) ⟨Nat.le_of_ble_eq_true rfl, Nat.le_of_ble_eq_true rfl⟩) ⟨zPr_blind, (va_recv hK hP (q0 := 0) (ci := 0) rfl rfl), zPr_pre hK hPc⟩ rfl rfl hl.1 rfl (lv_room (Nat.le_of_ble_eq_true rfl)) dX0_branchesThatLead_24 ⟨Nat.zero_le _, Nat.zero_le _⟩) ?_
    refine lv_if_ne (tgt := 37) hx hb dX0_branchesThatLead_27 (by decide) (fun c9 => ?_) (fun c9 => ?_)
    · have h := zif_f c9 h
      refine lv_iinc (v := (v4 + (1 : Int32))) (lv' := [(4, .int (v4 + (1 : Int32))), (0, .ref a_this), (1, .int p0), (2, .int p1), (3, .int v3)]) hx hb dX0_branchesThatLead_37 hl (k := 4) rfl rfl (by decide) rfl (fun ls hl => ?_)
      refine lv_goto (tgt := 5) hx hb dX0_branchesThatLead_40 (by decide) ?_
      exact ih5 v3 (v4 + (1 : Int32)) h ls (lv_sub hl [1, 2, 3, 4, 0] rfl)
    · have h := zif_t c9 h
      refine lv_iload_n hx hb dX0_branchesThatLead_30 rfl (lv_at hl 3 rfl) ?_
      refine lv_iconst (v := (1 : Int32)) hx hb dX0_branchesThatLead_31 (by decide) ?_
      refine lv_iload hx hb dX0_branchesThatLead_32 (lv_at hl 4 rfl) ?_
      refine lv_ishl hx hb dX0_branchesThatLead_34 ?_
      refine lv_ior hx hb dX0_branchesThatLead_35 ?_
      refine lv_istore_n (lv' := [(3, .int (v3 ||| ((1 : Int32) <<< (v4 &&& (31 : Int32))))), (0, .ref a_this), (1, .int p0), (2, .int p1), (4, .int v4)]) hx hb dX0_branchesThatLead_36 rfl hl (by decide) rfl (fun ls hl => ?_)
      refine lv_iinc (v := (v4 + (1 : Int32))) (lv' := [(4, .int (v4 + (1 : Int32))), (3, .int (v3 ||| ((1 : Int32) <<< (v4 &&& (31 : Int32))))), (0, .ref a_this), (1, .int p0), (2, .int p1)]) hx hb dX0_branchesThatLead_37 hl (k := 4) rfl rfl (by decide) rfl (fun ls hl => ?_)
      refine lv_goto (tgt := 5) hx hb dX0_branchesThatLead_40 (by decide) ?_
      exact ih5 (v3 ||| ((1 : Int32) <<< (v4 &&& (31 : Int32)))) (v4 + (1 : Int32)) h ls (lv_sub hl [2, 3, 4, 1, 0] rfl)
def F_X0_branchesLeadingAlone_E67  (v2 : Int32) (v3 : Int32) (v4 : Int32) : Option (Int32) := some v2
def F_X0_branchesLeadingAlone_J45 (k14 : Int32 → Int32 → Int32 → Option (Int32)) (rec14 : Int32 → Int32 → Int32 → Option (Int32)) (v1 : Int32) (v6 : Int32) (v7 : Int32) (v11 : Int32) : Option (Int32) := if ((v6 - v1) &&& v1) = (0 : Int32) then k14 v11 ((v6 - v1) &&& v1) v7 else rec14 v11 ((v6 - v1) &&& v1) (v7 + (1 : Int32))
def F_X0_branchesLeadingAlone_L14 (fu : Nat) (f_branches : Nat → Int32) (f_closing : Nat → Int32) (f_opening : Nat → Int32) (p0 : Int32) (v1 : Int32) (k14 : Int32 → Int32 → Int32 → Option (Int32)) (rec14 : Int32 → Int32 → Int32 → Option (Int32)) (v5 : Int32) (v6 : Int32) (v7 : Int32) : Option (Int32) := if (1023 : Int32) < v7 then k14 v5 v6 v7 else (F_X0_branchesThatLead fu f_branches f_closing f_opening p0 v6).bind fun v9 => (F_J6_bitCount_0f7a4 fu v9).bind fun v10 => if v10 = (1 : Int32) then F_X0_branchesLeadingAlone_J45 k14 rec14 v1 v6 v7 (v5 ||| v9) else F_X0_branchesLeadingAlone_J45 k14 rec14 v1 v6 v7 v5
def F_X0_branchesLeadingAlone (fu : Nat) (f_branches : Nat → Int32) (f_closing : Nat → Int32) (f_opening : Nat → Int32) (p0 : Int32) : Option (Int32) := (F_X0_contactsOf fu f_branches f_closing f_opening p0).bind fun v1 => zlp3 (F_X0_branchesLeadingAlone_L14 fu f_branches f_closing f_opening p0 v1 (F_X0_branchesLeadingAlone_E67)) fu (0 : Int32) (0 : Int32) (0 : Int32)
set_option maxHeartbeats 4000000 in
set_option maxRecDepth 100000 in
theorem c_X0_branchesLeadingAlone (l : Launch) (D : va_G) (cI cC cO cJ : ClassId) (fu : Nat) (a_this a_branches a_closing a_opening a_pull a_drop a_changed : Nat) (f_relays : Int32) (f_inputs : Int32) (f_motion : Int32) (f_ticks : Int32) (f_changes : Int32) (f_branches : Nat → Int32) (f_closing : Nat → Int32) (f_opening : Nat → Int32) (p0 : Int32) (R : Int32) (h : F_X0_branchesLeadingAlone fu f_branches f_closing f_opening p0 = some R) : Met l yX0_branchesLeadingAlone wsX0_branchesLeadingAlone ({ frames := 2, cells := 0, slots := 0, locals := 46 } : Room) (zPr D (ztys cI cC cO cJ) [(a_this, .inr (0, [.int f_relays, .ref a_branches, .ref a_closing, .ref a_opening, .ref a_pull, .ref a_drop, .ref a_changed, .int f_inputs, .int f_motion, .int f_ticks, .int f_changes])), (a_branches, .inl (cI, 6, .inl f_branches)), (a_closing, .inl (cI, 24, .inl f_closing)), (a_opening, .inl (cI, 24, .inl f_opening))] [.ref a_this, .int p0]) (zQi R) 0 0 (fun _ => False) := by
  refine Met.ofW (cc := cX0_branchesLeadingAlone) (maxL := 7) (ret := (some .int)) (by decide) rfl ?_
  intro p e s m args below meth c s₁ B hml hv
  obtain ⟨rfl, hP, hK⟩ := hv
  have hx := B.exec
  have hb := B.bytes
  have hr := B.returns
  have hts := atoms_spec (ws := wsX0_branchesLeadingAlone) B.pre
  have hown : s.vm.findClass RX0 = some m.cls := findClass_of_methodNamed B.named
  have hlocks := B.notSynchronized
  have hP : va_P D vwCl [(a_this, .inr (0, [.int f_relays, .ref a_branches, .ref a_closing, .ref a_opening, .ref a_pull, .ref a_drop, .ref a_changed, .int f_inputs, .int f_motion, .int f_ticks, .int f_changes])), (a_branches, .inl (cI, 6, .inl f_branches)), (a_closing, .inl (cI, 24, .inl f_closing)), (a_opening, .inl (cI, 24, .inl f_opening))] s.heap := hP
  have hK : va_K D vwCl (ztys cI cC cO cJ) s := hK
  have hl := lv_entry ([.ref a_this, .int p0]) (n := 7) (Nat.le_of_ble_eq_true rfl)
  rw [lg_entry_eq]
  generalize (lg_sl ([.ref a_this, .int p0]) ++ List.replicate (7 - (lg_sl ([.ref a_this, .int p0])).length) Slot.unset).toArray = ls at hl ⊢
  have hl : lv_has ls 7 [(0, .ref a_this), (1, .int p0)] := hl
  unfold F_X0_branchesLeadingAlone at h
  refine lv_aload_n hx hb dX0_branchesLeadingAlone_0 rfl (lv_at hl 0 rfl) ?_
  refine lv_iload_n hx hb dX0_branchesLeadingAlone_1 rfl (lv_at hl 1 rfl) ?_
  obtain ⟨v1, hv1, h⟩ := zbnd h
  refine zc_i (W.runV (C := RX0) (As := [.int p0]) (rest := []) ⟨hx, hb, hml, hown, hts⟩ (c_X0_contactsOf l D cI cC cO cJ fu a_this a_branches a_closing a_opening a_pull a_drop a_changed f_relays f_inputs f_motion f_ticks f_changes f_branches f_closing f_opening p0 v1 hv1) (cwV 1 hts gX0_branchesLeadingAlone_X0_contactsOf rfl rfl rfl (by decide +kernel) ⟨Nat.le_of_ble_eq_true rfl, Nat.le_of_ble_eq_true rfl⟩) ⟨zPr_blind, (va_recv hK hP (q0 := 0) (ci := 0) rfl rfl), zPr_pre hK hP⟩ rfl rfl hl.1 rfl (lv_room (Nat.le_of_ble_eq_true rfl)) dX0_branchesLeadingAlone_2 ⟨Nat.zero_le _, Nat.zero_le _⟩) ?_
  refine lv_istore_n (lv' := [(2, .int v1), (0, .ref a_this), (1, .int p0)]) hx hb dX0_branchesLeadingAlone_5 rfl hl (by decide) rfl (fun ls hl => ?_)
  refine lv_iconst (v := (0 : Int32)) hx hb dX0_branchesLeadingAlone_6 (by decide) ?_
  refine lv_istore_n (lv' := [(3, .int (0 : Int32)), (2, .int v1), (0, .ref a_this), (1, .int p0)]) hx hb dX0_branchesLeadingAlone_7 rfl hl (by decide) rfl (fun ls hl => ?_)
  refine lv_iconst (v := (0 : Int32)) hx hb dX0_branchesLeadingAlone_8 (by decide) ?_
  refine lv_istore (lv' := [(4, .int (0 : Int32)), (3, .int (0 : Int32)), (2, .int v1), (0, .ref a_this), (1, .int p0)]) hx hb dX0_branchesLeadingAlone_9 hl (by decide) rfl (fun ls hl => ?_)
  refine lv_iconst (v := (0 : Int32)) hx hb dX0_branchesLeadingAlone_11 (by decide) ?_
  refine lv_istore (lv' := [(5, .int (0 : Int32)), (4, .int (0 : Int32)), (3, .int (0 : Int32)), (2, .int v1), (0, .ref a_this), (1, .int p0)]) hx hb dX0_branchesLeadingAlone_12 hl (by decide) rfl (fun ls hl => ?_)
  have E67 : ∀ (v2 : Int32) (v3 : Int32) (v4 : Int32), F_X0_branchesLeadingAlone_E67 v2 v3 v4 = some R → ∀ ls : Array Slot, lv_has ls 7 [(0, .ref a_this), (1, .int p0), (2, .int v1), (3, .int v2), (4, .int v3), (5, .int v4)] → W p l e ({ frames := 2, cells := 0, slots := 0, locals := 46 } : Room) s m (([.ref a_this, .int p0] : List Value).toArray) below meth c s.heap [] 0 0 (MQ below (zQi R) (([.ref a_this, .int p0] : List Value).toArray) s 0 0 (fun _ => False)) (F0 m 67 ls []) := by
    intro v2 v3 v4 h ls hl
    unfold F_X0_branchesLeadingAlone_E67 at h
    refine lv_iload_n hx hb dX0_branchesLeadingAlone_67 rfl (lv_at hl 3 rfl) ?_
    have hR := Option.some.inj h
    subst hR
    exact W.iret (v := v2) hx hb hr (fun t ht hW => ⟨_, rfl, rfl, ht⟩) (fun q hq => absurd hq List.not_mem_nil) dX0_branchesLeadingAlone_68
  refine zlp_i3 (R := R) (P := fun (v5 : Int32) (v6 : Int32) (v7 : Int32) => ∀ ls : Array Slot, lv_has ls 7 [(0, .ref a_this), (1, .int p0), (2, .int v1), (3, .int v5), (4, .int v6), (5, .int v7)] → W p l e ({ frames := 2, cells := 0, slots := 0, locals := 46 } : Room) s m (([.ref a_this, .int p0] : List Value).toArray) below meth c s.heap [] 0 0 (MQ below (zQi R) (([.ref a_this, .int p0] : List Value).toArray) s 0 0 (fun _ => False)) (F0 m 14 ls [])) (fun rec14 ih14 v5 v6 v7 h => ?_) fu (0 : Int32) (0 : Int32) (0 : Int32) h ls (lv_sub hl [4, 5, 3, 2, 1, 0] rfl)
  intro ls hl
  unfold F_X0_branchesLeadingAlone_L14 at h
  refine lv_iload hx hb dX0_branchesLeadingAlone_14 (lv_at hl 5 rfl) ?_
  refine lv_sipush (v := (1023 : Int32)) hx hb dX0_branchesLeadingAlone_16 (by decide) ?_
  refine lv_icmp_gt (tgt := 67) hx hb dX0_branchesLeadingAlone_19 (by decide) (fun c8 => ?_) (fun c8 => ?_)
  · have h := zif_t c8 h
    exact E67 v5 v6 v7 h ls (lv_sub hl [0, 1, 2, 3, 4, 5] rfl)
  · have h := zif_f c8 h
    refine lv_aload_n hx hb dX0_branchesLeadingAlone_22 rfl (lv_at hl 0 rfl) ?_
    refine lv_iload_n hx hb dX0_branchesLeadingAlone_23 rfl (lv_at hl 1 rfl) ?_
    refine lv_iload hx hb dX0_branchesLeadingAlone_24 (lv_at hl 4 rfl) ?_
    obtain ⟨v9, hv9, h⟩ := zbnd h
    refine zc_i (W.runV (C := RX0) (As := [.int p0, .int v6]) (rest := []) ⟨hx, hb, hml, hown, hts⟩ (c_X0_branchesThatLead l D cI cC cO cJ fu a_this a_branches a_closing a_opening a_pull a_drop a_changed f_relays f_inputs f_motion f_ticks f_changes f_branches f_closing f_opening p0 v6 v9 hv9) (cwV 2 hts gX0_branchesLeadingAlone_X0_branchesThatLead rfl rfl rfl (by decide +kernel) ⟨Nat.le_of_ble_eq_true rfl, Nat.le_of_ble_eq_true rfl⟩) ⟨zPr_blind, (va_recv hK hP (q0 := 0) (ci := 0) rfl rfl), zPr_pre hK hP⟩ rfl rfl hl.1 rfl (lv_room (Nat.le_of_ble_eq_true rfl)) dX0_branchesLeadingAlone_26 ⟨Nat.zero_le _, Nat.zero_le _⟩) ?_
    refine lv_istore (lv' := [(6, .int v9), (0, .ref a_this), (1, .int p0), (2, .int v1), (3, .int v5), (4, .int v6), (5, .int v7)]) hx hb dX0_branchesLeadingAlone_29 hl (by decide) rfl (fun ls hl => ?_)
    refine lv_iload hx hb dX0_branchesLeadingAlone_31 (lv_at hl 0 rfl) ?_
    obtain ⟨v10, hv10, h⟩ := zbnd h
    refine zc_i (W.runS (As := [.int v9]) (rest := []) ⟨hx, hb, hml, hown, hts⟩ (c_J6_bitCount_0f7a4 l D cI cC cO cJ fu v9 v10 hv10) (va_cwS 1 hts gX0_branchesLeadingAlone_J6_bitCount_0f7a4 rfl rfl rfl (by decide +kernel) ⟨Nat.le_of_ble_eq_true rfl, Nat.le_of_ble_eq_true rfl⟩) (zPr_S hK zP_nil) rfl rfl hl.1 rfl (lv_room (Nat.le_of_ble_eq_true rfl)) dX0_branchesLeadingAlone_33 ⟨Nat.zero_le _, Nat.zero_le _⟩) ?_
    refine lv_iconst (v := (1 : Int32)) hx hb dX0_branchesLeadingAlone_36 (by decide) ?_
    have J45 : ∀ (v11 : Int32), F_X0_branchesLeadingAlone_J45 (F_X0_branchesLeadingAlone_E67) rec14 v1 v6 v7 v11 = some R → ∀ ls : Array Slot, lv_has ls 7 [(0, .ref a_this), (1, .int p0), (2, .int v1), (3, .int v11), (4, .int v6), (5, .int v7), (6, .int v9)] → W p l e ({ frames := 2, cells := 0, slots := 0, locals := 46 } : Room) s m (([.ref a_this, .int p0] : List Value).toArray) below meth c s.heap [] 0 0 (MQ below (zQi R) (([.ref a_this, .int p0] : List Value).toArray) s 0 0 (fun _ => False)) (F0 m 45 ls []) := by
      intro v11 h ls hl
      unfold F_X0_branchesLeadingAlone_J45 at h
      refine lv_iload hx hb dX0_branchesLeadingAlone_45 (lv_at hl 4 rfl) ?_
      refine lv_iload_n hx hb dX0_branchesLeadingAlone_47 rfl (lv_at hl 2 rfl) ?_
      refine lv_isub hx hb dX0_branchesLeadingAlone_48 ?_
      refine lv_iload_n hx hb dX0_branchesLeadingAlone_49 rfl (lv_at hl 2 rfl) ?_
      refine lv_iand hx hb dX0_branchesLeadingAlone_50 ?_
      refine lv_istore (lv' := [(4, .int ((v6 - v1) &&& v1)), (0, .ref a_this), (1, .int p0), (2, .int v1), (3, .int v11), (5, .int v7), (6, .int v9)]) hx hb dX0_branchesLeadingAlone_51 hl (by decide) rfl (fun ls hl => ?_)
      refine lv_iload hx hb dX0_branchesLeadingAlone_53 (lv_at hl 0 rfl) ?_
      refine lv_if_ne (tgt := 61) hx hb dX0_branchesLeadingAlone_55 (by decide) (fun c12 => ?_) (fun c12 => ?_)
      · have h := zif_f c12 h
        refine lv_iinc (v := (v7 + (1 : Int32))) (lv' := [(5, .int (v7 + (1 : Int32))), (4, .int ((v6 - v1) &&& v1)), (0, .ref a_this), (1, .int p0), (2, .int v1), (3, .int v11), (6, .int v9)]) hx hb dX0_branchesLeadingAlone_61 hl (k := 5) rfl rfl (by decide) rfl (fun ls hl => ?_)
        refine lv_goto (tgt := 14) hx hb dX0_branchesLeadingAlone_64 (by decide) ?_
        exact ih14 v11 ((v6 - v1) &&& v1) (v7 + (1 : Int32)) h ls (lv_sub hl [2, 3, 4, 5, 1, 0] rfl)
      · have h := zif_t c12 h
        refine lv_goto (tgt := 67) hx hb dX0_branchesLeadingAlone_58 (by decide) ?_
        exact E67 v11 ((v6 - v1) &&& v1) v7 h ls (lv_sub hl [1, 2, 3, 4, 0, 5] rfl)
    refine lv_icmp_ne (tgt := 45) hx hb dX0_branchesLeadingAlone_37 (by decide) (fun c13 => ?_) (fun c13 => ?_)
    · have h := zif_f c13 h
      exact J45 v5 h ls (lv_sub hl [1, 2, 3, 4, 5, 6, 0] rfl)
    · have h := zif_t c13 h
      refine lv_iload_n hx hb dX0_branchesLeadingAlone_40 rfl (lv_at hl 4 rfl) ?_
      refine lv_iload hx hb dX0_branchesLeadingAlone_41 (lv_at hl 0 rfl) ?_
      refine lv_ior hx hb dX0_branchesLeadingAlone_43 ?_
      refine lv_istore_n (lv' := [(3, .int (v5 ||| v9)), (6, .int v9), (0, .ref a_this), (1, .int p0), (2, .int v1), (4, .int v6), (5, .int v7)]) hx hb dX0_branchesLeadingAlone_44 rfl hl (by decide) rfl (fun ls hl => ?_)
      exact J45 (v5 ||| v9) h ls (lv_sub hl [2, 3, 4, 0, 5, 6, 1] rfl)
def F_X0_idleBranch_E34  (v2 : Int32) : Option (Int32) := some (-1 : Int32)
def F_X0_idleBranch_L8 (fu : Nat) (f_branches : Nat → Int32) (p0 : Int32) (v1 : Int32) (k8 : Int32 → Option (Int32)) (rec8 : Int32 → Option (Int32)) (v3 : Int32) : Option (Int32) := (zrd f_branches 6 p0).bind fun v4 => if v4 ≤ v3 then k8 v3 else (F_X0_isIn fu v1 v3).bind fun v6 => if v6 = (0 : Int32) then some v3 else rec8 (v3 + (1 : Int32))
def F_X0_idleBranch (fu : Nat) (f_branches : Nat → Int32) (f_closing : Nat → Int32) (f_opening : Nat → Int32) (p0 : Int32) : Option (Int32) := (F_X0_branchesLeadingAlone fu f_branches f_closing f_opening p0).bind fun v1 => zlp1 (F_X0_idleBranch_L8 fu f_branches p0 v1 (F_X0_idleBranch_E34)) fu (0 : Int32)
set_option maxHeartbeats 4000000 in
set_option maxRecDepth 100000 in
theorem c_X0_idleBranch (l : Launch) (D : va_G) (cI cC cO cJ : ClassId) (fu : Nat) (a_this a_branches a_closing a_opening a_pull a_drop a_changed : Nat) (f_relays : Int32) (f_inputs : Int32) (f_motion : Int32) (f_ticks : Int32) (f_changes : Int32) (f_branches : Nat → Int32) (f_closing : Nat → Int32) (f_opening : Nat → Int32) (p0 : Int32) (R : Int32) (h : F_X0_idleBranch fu f_branches f_closing f_opening p0 = some R) : Met l yX0_idleBranch wsX0_idleBranch ({ frames := 3, cells := 0, slots := 0, locals := 72 } : Room) (zPr D (ztys cI cC cO cJ) [(a_this, .inr (0, [.int f_relays, .ref a_branches, .ref a_closing, .ref a_opening, .ref a_pull, .ref a_drop, .ref a_changed, .int f_inputs, .int f_motion, .int f_ticks, .int f_changes])), (a_branches, .inl (cI, 6, .inl f_branches)), (a_closing, .inl (cI, 24, .inl f_closing)), (a_opening, .inl (cI, 24, .inl f_opening))] [.ref a_this, .int p0]) (zQi R) 0 0 (fun _ => False) := by
  refine Met.ofW (cc := cX0_idleBranch) (maxL := 4) (ret := (some .int)) (by decide) rfl ?_
  intro p e s m args below meth c s₁ B hml hv
  obtain ⟨rfl, hP, hK⟩ := hv
  have hx := B.exec
  have hb := B.bytes
  have hr := B.returns
  have hts := atoms_spec (ws := wsX0_idleBranch) B.pre
  have hown : s.vm.findClass RX0 = some m.cls := findClass_of_methodNamed B.named
  have hlocks := B.notSynchronized
  have hinX0 : ∀ w ∈ wsX00, w ∈ wsX0_idleBranch := fun _ h => (List.mem_cons_of_mem _ (List.mem_append_right _ h))
  have hP : va_P D vwCl [(a_this, .inr (0, [.int f_relays, .ref a_branches, .ref a_closing, .ref a_opening, .ref a_pull, .ref a_drop, .ref a_changed, .int f_inputs, .int f_motion, .int f_ticks, .int f_changes])), (a_branches, .inl (cI, 6, .inl f_branches)), (a_closing, .inl (cI, 24, .inl f_closing)), (a_opening, .inl (cI, 24, .inl f_opening))] s.heap := hP
  have hK : va_K D vwCl (ztys cI cC cO cJ) s := hK
  have hl := lv_entry ([.ref a_this, .int p0]) (n := 4) (Nat.le_of_ble_eq_true rfl)
  rw [lg_entry_eq]
  generalize (lg_sl ([.ref a_this, .int p0]) ++ List.replicate (4 - (lg_sl ([.ref a_this, .int p0])).length) Slot.unset).toArray = ls at hl ⊢
  have hl : lv_has ls 4 [(0, .ref a_this), (1, .int p0)] := hl
  unfold F_X0_idleBranch at h
  refine lv_aload_n hx hb dX0_idleBranch_0 rfl (lv_at hl 0 rfl) ?_
  refine lv_iload_n hx hb dX0_idleBranch_1 rfl (lv_at hl 1 rfl) ?_
  obtain ⟨v1, hv1, h⟩ := zbnd h
  refine zc_i (W.runV (C := RX0) (As := [.int p0]) (rest := []) ⟨hx, hb, hml, hown, hts⟩ (c_X0_branchesLeadingAlone l D cI cC cO cJ fu a_this a_branches a_closing a_opening a_pull a_drop a_changed f_relays f_inputs f_motion f_ticks f_changes f_branches f_closing f_opening p0 v1 hv1) (cwV 1 hts gX0_idleBranch_X0_branchesLeadingAlone rfl rfl rfl (by decide +kernel) ⟨Nat.le_of_ble_eq_true rfl, Nat.le_of_ble_eq_true rfl⟩) ⟨zPr_blind, (va_recv hK hP (q0 := 0) (ci := 0) rfl rfl), zPr_pre hK hP⟩ rfl rfl hl.1 rfl (lv_room (Nat.le_of_ble_eq_true rfl)) dX0_idleBranch_2 ⟨Nat.zero_le _, Nat.zero_le _⟩) ?_
  refine lv_istore_n (lv' := [(2, .int v1), (0, .ref a_this), (1, .int p0)]) hx hb dX0_idleBranch_5 rfl hl (by decide) rfl (fun ls hl => ?_)
  refine lv_iconst (v := (0 : Int32)) hx hb dX0_idleBranch_6 (by decide) ?_
  refine lv_istore_n (lv' := [(3, .int (0 : Int32)), (2, .int v1), (0, .ref a_this), (1, .int p0)]) hx hb dX0_idleBranch_7 rfl hl (by decide) rfl (fun ls hl => ?_)
  have E34 : ∀ (v2 : Int32), F_X0_idleBranch_E34 v2 = some R → ∀ ls : Array Slot, lv_has ls 4 [(0, .ref a_this), (1, .int p0), (2, .int v1), (3, .int v2)] → W p l e ({ frames := 3, cells := 0, slots := 0, locals := 72 } : Room) s m (([.ref a_this, .int p0] : List Value).toArray) below meth c s.heap [] 0 0 (MQ below (zQi R) (([.ref a_this, .int p0] : List Value).toArray) s 0 0 (fun _ => False)) (F0 m 34 ls []) := by
    intro v2 h ls hl
    unfold F_X0_idleBranch_E34 at h
    refine lv_iconst (v := (-1 : Int32)) hx hb dX0_idleBranch_34 (by decide) ?_
    have hR := Option.some.inj h
    subst hR
    exact W.iret (v := (-1 : Int32)) hx hb hr (fun t ht hW => ⟨_, rfl, rfl, ht⟩) (fun q hq => absurd hq List.not_mem_nil) dX0_idleBranch_35
  refine zlp_i1 (R := R) (P := fun (v3 : Int32) => ∀ ls : Array Slot, lv_has ls 4 [(0, .ref a_this), (1, .int p0), (2, .int v1), (3, .int v3)] → W p l e ({ frames := 3, cells := 0, slots := 0, locals := 72 } : Room) s m (([.ref a_this, .int p0] : List Value).toArray) below meth c s.heap [] 0 0 (MQ below (zQi R) (([.ref a_this, .int p0] : List Value).toArray) s 0 0 (fun _ => False)) (F0 m 8 ls [])) (fun rec8 ih8 v3 h => ?_) fu (0 : Int32) h ls (lv_sub hl [2, 3, 1, 0] rfl)
  intro ls hl
  unfold F_X0_idleBranch_L8 at h
  refine lv_iload_n hx hb dX0_idleBranch_8 rfl (lv_at hl 3 rfl) ?_
  refine lv_aload_n hx hb dX0_idleBranch_9 rfl (lv_at hl 0 rfl) ?_
  refine va_get (D := D) (ci := 0) (v := .ref a_branches) (C := RX0) (T := TX0) (N := 11) hx hb hts hinX0 hown hK hP 0 rfl rfl 1 (by decide) (hts (Cond.fieldLink RX0 9 "LadderRelays$Ladder" "branches" "[I") (List.mem_of_getElem? (i := 1) rfl)) (fun _ h9 => h9) rfl dX0_idleBranch_10 ?_
  refine lv_iload_n hx hb dX0_idleBranch_13 rfl (lv_at hl 1 rfl) ?_
  obtain ⟨v4, hv4, h⟩ := zbnd h
  refine zr_iald hx hb hK hP 1 0 rfl rfl hv4 dX0_idleBranch_14 ?_
  refine lv_icmp_ge (tgt := 34) hx hb dX0_idleBranch_15 (by decide) (fun c5 => ?_) (fun c5 => ?_)
  · have h := zif_t c5 h
    exact E34 v3 h ls (lv_sub hl [0, 1, 2, 3] rfl)
  · have h := zif_f c5 h
    refine lv_iload_n hx hb dX0_idleBranch_18 rfl (lv_at hl 2 rfl) ?_
    refine lv_iload_n hx hb dX0_idleBranch_19 rfl (lv_at hl 3 rfl) ?_
    obtain ⟨v6, hv6, h⟩ := zbnd h
    refine zc_i (W.runS (As := [.int v1, .int v3]) (rest := []) ⟨hx, hb, hml, hown, hts⟩ (c_X0_isIn l D cI cC cO cJ fu v1 v3 v6 hv6) (va_cwS 2 hts gX0_idleBranch_X0_isIn rfl rfl rfl (by decide +kernel) ⟨Nat.le_of_ble_eq_true rfl, Nat.le_of_ble_eq_true rfl⟩) (zPr_S hK zP_nil) rfl rfl hl.1 rfl (lv_room (Nat.le_of_ble_eq_true rfl)) dX0_idleBranch_20 ⟨Nat.zero_le _, Nat.zero_le _⟩) ?_
    refine lv_if_ne (tgt := 28) hx hb dX0_idleBranch_23 (by decide) (fun c7 => ?_) (fun c7 => ?_)
    · have h := zif_f c7 h
      refine lv_iinc (v := (v3 + (1 : Int32))) (lv' := [(3, .int (v3 + (1 : Int32))), (0, .ref a_this), (1, .int p0), (2, .int v1)]) hx hb dX0_idleBranch_28 hl (k := 3) rfl rfl (by decide) rfl (fun ls hl => ?_)
      refine lv_goto (tgt := 8) hx hb dX0_idleBranch_31 (by decide) ?_
      exact ih8 (v3 + (1 : Int32)) h ls (lv_sub hl [1, 2, 3, 0] rfl)
    · have h := zif_t c7 h
      refine lv_iload_n hx hb dX0_idleBranch_26 rfl (lv_at hl 3 rfl) ?_
      have hR := Option.some.inj h
      subst hR
      exact W.iret (v := v3) hx hb hr (fun t ht hW => ⟨_, rfl, rfl, ht⟩) (fun q hq => absurd hq List.not_mem_nil) dX0_idleBranch_27
def F_X0_addRelay (fu : Nat) (f_relays : Int32) (f_branches : Nat → Int32) (f_pull : Nat → Int32) (f_drop : Nat → Int32) (f_changed : Nat → Int32) (p0 : Int32) (p1 : Int32) : Option (Int32 × Int32 × (Nat → Int32) × (Nat → Int32) × (Nat → Int32) × (Nat → Int32)) := (zwr f_pull 6 f_relays p0).bind fun v1 => (zwr f_drop 6 f_relays p1).bind fun v2 => (zwr f_branches 6 f_relays (0 : Int32)).bind fun v3 => (zwr f_changed 6 f_relays (0 : Int32)).bind fun v4 => some (f_relays, (f_relays + (1 : Int32)), v3, v1, v2, v4)
set_option maxHeartbeats 4000000 in
set_option maxRecDepth 100000 in
theorem c_X0_addRelay (l : Launch) (D : va_G) (cI cC cO cJ : ClassId) (fu : Nat) (a_this a_branches a_closing a_opening a_pull a_drop a_changed : Nat) (sz : Nat) (f_relays : Int32) (f_inputs : Int32) (f_motion : Int32) (f_ticks : Int32) (f_changes : Int32) (f_branches : Nat → Int32) (f_pull : Nat → Int32) (f_drop : Nat → Int32) (f_changed : Nat → Int32) (p0 : Int32) (p1 : Int32) (R : Int32 × Int32 × (Nat → Int32) × (Nat → Int32) × (Nat → Int32) × (Nat → Int32)) (h : F_X0_addRelay fu f_relays f_branches f_pull f_drop f_changed p0 p1 = some R) : Met l yX0_addRelay wsX0_addRelay ({ frames := 0, cells := 0, slots := 0, locals := 0 } : Room) (zPw D (ztys cI cC cO cJ) [(a_this, .inr (0, [.int f_relays, .ref a_branches, .ref a_closing, .ref a_opening, .ref a_pull, .ref a_drop, .ref a_changed, .int f_inputs, .int f_motion, .int f_ticks, .int f_changes])), (a_branches, .inl (cI, 6, .inl f_branches)), (a_pull, .inl (cI, 6, .inl f_pull)), (a_drop, .inl (cI, 6, .inl f_drop)), (a_changed, .inl (cI, 6, .inl f_changed))] sz [.ref a_this, .int p0, .int p1]) (zWi D R.1 [(a_this, .inr (0, [.int R.2.1, .ref a_branches, .ref a_closing, .ref a_opening, .ref a_pull, .ref a_drop, .ref a_changed, .int f_inputs, .int f_motion, .int f_ticks, .int f_changes])), (a_branches, .inl (cI, 6, .inl R.2.2.1)), (a_pull, .inl (cI, 6, .inl R.2.2.2.1)), (a_drop, .inl (cI, 6, .inl R.2.2.2.2.1)), (a_changed, .inl (cI, 6, .inl R.2.2.2.2.2))] (va_A [(a_this, .inr (0, [.int f_relays, .ref a_branches, .ref a_closing, .ref a_opening, .ref a_pull, .ref a_drop, .ref a_changed, .int f_inputs, .int f_motion, .int f_ticks, .int f_changes])), (a_branches, .inl (cI, 6, .inl f_branches)), (a_pull, .inl (cI, 6, .inl f_pull)), (a_drop, .inl (cI, 6, .inl f_drop)), (a_changed, .inl (cI, 6, .inl f_changed))] sz)) 0 0 (va_A [(a_this, .inr (0, [.int f_relays, .ref a_branches, .ref a_closing, .ref a_opening, .ref a_pull, .ref a_drop, .ref a_changed, .int f_inputs, .int f_motion, .int f_ticks, .int f_changes])), (a_branches, .inl (cI, 6, .inl f_branches)), (a_pull, .inl (cI, 6, .inl f_pull)), (a_drop, .inl (cI, 6, .inl f_drop)), (a_changed, .inl (cI, 6, .inl f_changed))] sz) := by
  refine Met.ofW (cc := cX0_addRelay) (maxL := 4) (ret := (some .int)) (by decide) rfl ?_
  intro p e s m args below meth c s₁ B hml hv
  obtain ⟨rfl, hsz, hP, hK, hD0⟩ := hv
  have hx := B.exec
  have hb := B.bytes
  have hr := B.returns
  have hts := atoms_spec (ws := wsX0_addRelay) B.pre
  have hown : s.vm.findClass RX0 = some m.cls := findClass_of_methodNamed B.named
  have hlocks := B.notSynchronized
  have hinX0 : ∀ w ∈ wsX00, w ∈ wsX0_addRelay := fun _ h => (List.mem_cons_of_mem _ (List.mem_append_right _ h))
  subst hsz
  have hD := hD0.self (sz := s.heap.size)
  generalize hAe : va_A [(a_this, .inr (0, [.int f_relays, .ref a_branches, .ref a_closing, .ref a_opening, .ref a_pull, .ref a_drop, .ref a_changed, .int f_inputs, .int f_motion, .int f_ticks, .int f_changes])), (a_branches, .inl (cI, 6, .inl f_branches)), (a_pull, .inl (cI, 6, .inl f_pull)), (a_drop, .inl (cI, 6, .inl f_drop)), (a_changed, .inl (cI, 6, .inl f_changed))] s.heap.size = A at hD ⊢
  have hA : ∀ q : Nat, s.heap.size ≤ q → A q := fun q h => by rw [← hAe]; exact Or.inr h
  have hS : va_S A s.heap s.heap [] := va_S.rf
  have hP : va_P D vwCl [(a_this, .inr (0, [.int f_relays, .ref a_branches, .ref a_closing, .ref a_opening, .ref a_pull, .ref a_drop, .ref a_changed, .int f_inputs, .int f_motion, .int f_ticks, .int f_changes])), (a_branches, .inl (cI, 6, .inl f_branches)), (a_pull, .inl (cI, 6, .inl f_pull)), (a_drop, .inl (cI, 6, .inl f_drop)), (a_changed, .inl (cI, 6, .inl f_changed))] s.heap := hP
  have hK : va_K D vwCl (ztys cI cC cO cJ) s := hK
  have hl := lv_entry ([.ref a_this, .int p0, .int p1]) (n := 4) (Nat.le_of_ble_eq_true rfl)
  rw [lg_entry_eq]
  generalize (lg_sl ([.ref a_this, .int p0, .int p1]) ++ List.replicate (4 - (lg_sl ([.ref a_this, .int p0, .int p1])).length) Slot.unset).toArray = ls at hl ⊢
  have hl : lv_has ls 4 [(0, .ref a_this), (1, .int p0), (2, .int p1)] := hl
  unfold F_X0_addRelay at h
  refine lv_aload_n hx hb dX0_addRelay_0 rfl (lv_at hl 0 rfl) ?_
  refine va_get (D := D) (ci := 0) (v := .int f_relays) (C := RX0) (T := TX0) (N := 11) hx hb hts hinX0 hown hK hP 0 rfl rfl 0 (by decide) (hts (Cond.fieldLink RX0 30 "LadderRelays$Ladder" "relays" "I") (List.mem_of_getElem? (i := 1) rfl)) (fun _ h9 => h9) rfl dX0_addRelay_1 ?_
  refine lv_istore_n (lv' := [(3, .int f_relays), (0, .ref a_this), (1, .int p0), (2, .int p1)]) hx hb dX0_addRelay_4 rfl hl (by decide) rfl (fun ls hl => ?_)
  refine lv_aload_n hx hb dX0_addRelay_5 rfl (lv_at hl 1 rfl) ?_
  refine va_get (D := D) (ci := 0) (v := .ref a_pull) (C := RX0) (T := TX0) (N := 11) hx hb hts hinX0 hown hK hP 0 rfl rfl 4 (by decide) (hts (Cond.fieldLink RX0 21 "LadderRelays$Ladder" "pull" "[I") (List.mem_of_getElem? (i := 2) rfl)) (fun _ h9 => h9) rfl dX0_addRelay_6 ?_
  refine lv_iload_n hx hb dX0_addRelay_9 rfl (lv_at hl 0 rfl) ?_
  refine lv_iload_n hx hb dX0_addRelay_10 rfl (lv_at hl 2 rfl) ?_
  obtain ⟨v1, hv1, h⟩ := zbnd h
  refine zr_iast hx hb hK hP hD hS 2 0 rfl rfl hv1 dX0_addRelay_11 (fun H locs hP hD hS => ?_)
  have hP : va_P D vwCl [(a_this, .inr (0, [.int f_relays, .ref a_branches, .ref a_closing, .ref a_opening, .ref a_pull, .ref a_drop, .ref a_changed, .int f_inputs, .int f_motion, .int f_ticks, .int f_changes])), (a_branches, .inl (cI, 6, .inl f_branches)), (a_pull, .inl (cI, 6, .inl v1)), (a_drop, .inl (cI, 6, .inl f_drop)), (a_changed, .inl (cI, 6, .inl f_changed))] H := hP
  have hD : va_D A [(a_this, .inr (0, [.int f_relays, .ref a_branches, .ref a_closing, .ref a_opening, .ref a_pull, .ref a_drop, .ref a_changed, .int f_inputs, .int f_motion, .int f_ticks, .int f_changes])), (a_branches, .inl (cI, 6, .inl f_branches)), (a_pull, .inl (cI, 6, .inl v1)), (a_drop, .inl (cI, 6, .inl f_drop)), (a_changed, .inl (cI, 6, .inl f_changed))] := hD
  refine lv_aload_n hx hb dX0_addRelay_12 rfl (lv_at hl 1 rfl) ?_
  refine va_get (D := D) (ci := 0) (v := .ref a_drop) (C := RX0) (T := TX0) (N := 11) hx hb hts hinX0 hown hK hP 0 rfl rfl 5 (by decide) (hts (Cond.fieldLink RX0 24 "LadderRelays$Ladder" "drop" "[I") (List.mem_of_getElem? (i := 3) rfl)) (fun _ h9 => h9) rfl dX0_addRelay_13 ?_
  refine lv_iload_n hx hb dX0_addRelay_16 rfl (lv_at hl 0 rfl) ?_
  refine lv_iload_n hx hb dX0_addRelay_17 rfl (lv_at hl 3 rfl) ?_
  obtain ⟨v2, hv2, h⟩ := zbnd h
  refine zr_iast hx hb hK hP hD hS 3 0 rfl rfl hv2 dX0_addRelay_18 (fun H locs hP hD hS => ?_)
  have hP : va_P D vwCl [(a_this, .inr (0, [.int f_relays, .ref a_branches, .ref a_closing, .ref a_opening, .ref a_pull, .ref a_drop, .ref a_changed, .int f_inputs, .int f_motion, .int f_ticks, .int f_changes])), (a_branches, .inl (cI, 6, .inl f_branches)), (a_pull, .inl (cI, 6, .inl v1)), (a_drop, .inl (cI, 6, .inl v2)), (a_changed, .inl (cI, 6, .inl f_changed))] H := hP
  have hD : va_D A [(a_this, .inr (0, [.int f_relays, .ref a_branches, .ref a_closing, .ref a_opening, .ref a_pull, .ref a_drop, .ref a_changed, .int f_inputs, .int f_motion, .int f_ticks, .int f_changes])), (a_branches, .inl (cI, 6, .inl f_branches)), (a_pull, .inl (cI, 6, .inl v1)), (a_drop, .inl (cI, 6, .inl v2)), (a_changed, .inl (cI, 6, .inl f_changed))] := hD
  refine lv_aload_n hx hb dX0_addRelay_19 rfl (lv_at hl 1 rfl) ?_
  refine va_get (D := D) (ci := 0) (v := .ref a_branches) (C := RX0) (T := TX0) (N := 11) hx hb hts hinX0 hown hK hP 0 rfl rfl 1 (by decide) (hts (Cond.fieldLink RX0 9 "LadderRelays$Ladder" "branches" "[I") (List.mem_of_getElem? (i := 4) rfl)) (fun _ h9 => h9) rfl dX0_addRelay_20 ?_
  refine lv_iload_n hx hb dX0_addRelay_23 rfl (lv_at hl 0 rfl) ?_
  refine lv_iconst (v := (0 : Int32)) hx hb dX0_addRelay_24 (by decide) ?_
  obtain ⟨v3, hv3, h⟩ := zbnd h
  refine zr_iast hx hb hK hP hD hS 1 0 rfl rfl hv3 dX0_addRelay_25 (fun H locs hP hD hS => ?_)
  have hP : va_P D vwCl [(a_this, .inr (0, [.int f_relays, .ref a_branches, .ref a_closing, .ref a_opening, .ref a_pull, .ref a_drop, .ref a_changed, .int f_inputs, .int f_motion, .int f_ticks, .int f_changes])), (a_branches, .inl (cI, 6, .inl v3)), (a_pull, .inl (cI, 6, .inl v1)), (a_drop, .inl (cI, 6, .inl v2)), (a_changed, .inl (cI, 6, .inl f_changed))] H := hP
  have hD : va_D A [(a_this, .inr (0, [.int f_relays, .ref a_branches, .ref a_closing, .ref a_opening, .ref a_pull, .ref a_drop, .ref a_changed, .int f_inputs, .int f_motion, .int f_ticks, .int f_changes])), (a_branches, .inl (cI, 6, .inl v3)), (a_pull, .inl (cI, 6, .inl v1)), (a_drop, .inl (cI, 6, .inl v2)), (a_changed, .inl (cI, 6, .inl f_changed))] := hD
  refine lv_aload_n hx hb dX0_addRelay_26 rfl (lv_at hl 1 rfl) ?_
  refine va_get (D := D) (ci := 0) (v := .ref a_changed) (C := RX0) (T := TX0) (N := 11) hx hb hts hinX0 hown hK hP 0 rfl rfl 6 (by decide) (hts (Cond.fieldLink RX0 27 "LadderRelays$Ladder" "changed" "[I") (List.mem_of_getElem? (i := 5) rfl)) (fun _ h9 => h9) rfl dX0_addRelay_27 ?_
  refine lv_iload_n hx hb dX0_addRelay_30 rfl (lv_at hl 0 rfl) ?_
  refine lv_iconst (v := (0 : Int32)) hx hb dX0_addRelay_31 (by decide) ?_
  obtain ⟨v4, hv4, h⟩ := zbnd h
  refine zr_iast hx hb hK hP hD hS 4 0 rfl rfl hv4 dX0_addRelay_32 (fun H locs hP hD hS => ?_)
  have hP : va_P D vwCl [(a_this, .inr (0, [.int f_relays, .ref a_branches, .ref a_closing, .ref a_opening, .ref a_pull, .ref a_drop, .ref a_changed, .int f_inputs, .int f_motion, .int f_ticks, .int f_changes])), (a_branches, .inl (cI, 6, .inl v3)), (a_pull, .inl (cI, 6, .inl v1)), (a_drop, .inl (cI, 6, .inl v2)), (a_changed, .inl (cI, 6, .inl v4))] H := hP
  have hD : va_D A [(a_this, .inr (0, [.int f_relays, .ref a_branches, .ref a_closing, .ref a_opening, .ref a_pull, .ref a_drop, .ref a_changed, .int f_inputs, .int f_motion, .int f_ticks, .int f_changes])), (a_branches, .inl (cI, 6, .inl v3)), (a_pull, .inl (cI, 6, .inl v1)), (a_drop, .inl (cI, 6, .inl v2)), (a_changed, .inl (cI, 6, .inl v4))] := hD
  refine lv_aload_n hx hb dX0_addRelay_33 rfl (lv_at hl 1 rfl) ?_
  refine lv_dup hx hb dX0_addRelay_34 rfl ?_
  refine va_get (D := D) (ci := 0) (v := .int f_relays) (C := RX0) (T := TX0) (N := 11) hx hb hts hinX0 hown hK hP 0 rfl rfl 0 (by decide) (hts (Cond.fieldLink RX0 30 "LadderRelays$Ladder" "relays" "I") (List.mem_of_getElem? (i := 1) rfl)) (fun _ h9 => h9) rfl dX0_addRelay_35 ?_
  refine lv_iconst (v := (1 : Int32)) hx hb dX0_addRelay_38 (by decide) ?_
  refine lv_iadd hx hb dX0_addRelay_39 ?_
  refine va_put (D := D) (ci := 0) (v := .int (f_relays + (1 : Int32))) (ty := .int) (C := RX0) (T := TX0) (N := 11) hx hb hts hinX0 tyX0 tyX0_ok nmX0 hown hK hP hD hS 0 rfl rfl 0 (by decide) (hts (Cond.fieldLink RX0 30 "LadderRelays$Ladder" "relays" "I") (List.mem_of_getElem? (i := 1) rfl)) (fun _ h9 => h9) rfl (by decide +kernel) rfl rfl (Nat.le_of_ble_eq_true rfl) dX0_addRelay_40 (fun H locs hP hD hS => ?_)
  have hP : va_P D vwCl [(a_this, .inr (0, [.int (f_relays + (1 : Int32)), .ref a_branches, .ref a_closing, .ref a_opening, .ref a_pull, .ref a_drop, .ref a_changed, .int f_inputs, .int f_motion, .int f_ticks, .int f_changes])), (a_branches, .inl (cI, 6, .inl v3)), (a_pull, .inl (cI, 6, .inl v1)), (a_drop, .inl (cI, 6, .inl v2)), (a_changed, .inl (cI, 6, .inl v4))] H := hP
  have hD : va_D A [(a_this, .inr (0, [.int (f_relays + (1 : Int32)), .ref a_branches, .ref a_closing, .ref a_opening, .ref a_pull, .ref a_drop, .ref a_changed, .int f_inputs, .int f_motion, .int f_ticks, .int f_changes])), (a_branches, .inl (cI, 6, .inl v3)), (a_pull, .inl (cI, 6, .inl v1)), (a_drop, .inl (cI, 6, .inl v2)), (a_changed, .inl (cI, 6, .inl v4))] := hD
  refine lv_iload_n hx hb dX0_addRelay_43 rfl (lv_at hl 0 rfl) ?_
  have hR := Option.some.inj h
  subst hR
  exact W.iret (v := f_relays) hx hb hr (fun t ht hW => ⟨⟨_, (), rfl, rfl, zhp ht hP⟩, hS.F ht⟩) hS.2.2 dX0_addRelay_44
def F_X0_addBranch (fu : Nat) (f_branches : Nat → Int32) (f_closing : Nat → Int32) (f_opening : Nat → Int32) (p0 : Int32) (p1 : Int32) (p2 : Int32) : Option (Int32 × (Nat → Int32) × (Nat → Int32) × (Nat → Int32)) := (zrd f_branches 6 p0).bind fun v1 => (F_X0_placeOf fu p0 v1).bind fun v2 => (zwr f_closing 24 v2 p1).bind fun v3 => (zwr f_opening 24 v2 p2).bind fun v4 => (zrd f_branches 6 p0).bind fun v5 => (zwr f_branches 6 p0 (v5 + (1 : Int32))).bind fun v6 => (zrd v6 6 p0).bind fun v7 => some (v7, v6, v3, v4)
set_option maxHeartbeats 4000000 in
set_option maxRecDepth 100000 in
theorem c_X0_addBranch (l : Launch) (D : va_G) (cI cC cO cJ : ClassId) (fu : Nat) (a_this a_branches a_closing a_opening a_pull a_drop a_changed : Nat) (sz : Nat) (f_relays : Int32) (f_inputs : Int32) (f_motion : Int32) (f_ticks : Int32) (f_changes : Int32) (f_branches : Nat → Int32) (f_closing : Nat → Int32) (f_opening : Nat → Int32) (p0 : Int32) (p1 : Int32) (p2 : Int32) (R : Int32 × (Nat → Int32) × (Nat → Int32) × (Nat → Int32)) (h : F_X0_addBranch fu f_branches f_closing f_opening p0 p1 p2 = some R) : Met l yX0_addBranch wsX0_addBranch ({ frames := 1, cells := 0, slots := 0, locals := 21 } : Room) (zPw D (ztys cI cC cO cJ) [(a_this, .inr (0, [.int f_relays, .ref a_branches, .ref a_closing, .ref a_opening, .ref a_pull, .ref a_drop, .ref a_changed, .int f_inputs, .int f_motion, .int f_ticks, .int f_changes])), (a_branches, .inl (cI, 6, .inl f_branches)), (a_closing, .inl (cI, 24, .inl f_closing)), (a_opening, .inl (cI, 24, .inl f_opening))] sz [.ref a_this, .int p0, .int p1, .int p2]) (zWi D R.1 [(a_this, .inr (0, [.int f_relays, .ref a_branches, .ref a_closing, .ref a_opening, .ref a_pull, .ref a_drop, .ref a_changed, .int f_inputs, .int f_motion, .int f_ticks, .int f_changes])), (a_branches, .inl (cI, 6, .inl R.2.1)), (a_closing, .inl (cI, 24, .inl R.2.2.1)), (a_opening, .inl (cI, 24, .inl R.2.2.2))] (va_A [(a_this, .inr (0, [.int f_relays, .ref a_branches, .ref a_closing, .ref a_opening, .ref a_pull, .ref a_drop, .ref a_changed, .int f_inputs, .int f_motion, .int f_ticks, .int f_changes])), (a_branches, .inl (cI, 6, .inl f_branches)), (a_closing, .inl (cI, 24, .inl f_closing)), (a_opening, .inl (cI, 24, .inl f_opening))] sz)) 0 0 (va_A [(a_this, .inr (0, [.int f_relays, .ref a_branches, .ref a_closing, .ref a_opening, .ref a_pull, .ref a_drop, .ref a_changed, .int f_inputs, .int f_motion, .int f_ticks, .int f_changes])), (a_branches, .inl (cI, 6, .inl f_branches)), (a_closing, .inl (cI, 24, .inl f_closing)), (a_opening, .inl (cI, 24, .inl f_opening))] sz) := by
  refine Met.ofW (cc := cX0_addBranch) (maxL := 5) (ret := (some .int)) (by decide) rfl ?_
  intro p e s m args below meth c s₁ B hml hv
  obtain ⟨rfl, hsz, hP, hK, hD0⟩ := hv
  have hx := B.exec
  have hb := B.bytes
  have hr := B.returns
  have hts := atoms_spec (ws := wsX0_addBranch) B.pre
  have hown : s.vm.findClass RX0 = some m.cls := findClass_of_methodNamed B.named
  have hlocks := B.notSynchronized
  have hinX0 : ∀ w ∈ wsX00, w ∈ wsX0_addBranch := fun _ h => (List.mem_cons_of_mem _ (List.mem_append_right _ h))
  subst hsz
  have hD := hD0.self (sz := s.heap.size)
  generalize hAe : va_A [(a_this, .inr (0, [.int f_relays, .ref a_branches, .ref a_closing, .ref a_opening, .ref a_pull, .ref a_drop, .ref a_changed, .int f_inputs, .int f_motion, .int f_ticks, .int f_changes])), (a_branches, .inl (cI, 6, .inl f_branches)), (a_closing, .inl (cI, 24, .inl f_closing)), (a_opening, .inl (cI, 24, .inl f_opening))] s.heap.size = A at hD ⊢
  have hA : ∀ q : Nat, s.heap.size ≤ q → A q := fun q h => by rw [← hAe]; exact Or.inr h
  have hS : va_S A s.heap s.heap [] := va_S.rf
  have hP : va_P D vwCl [(a_this, .inr (0, [.int f_relays, .ref a_branches, .ref a_closing, .ref a_opening, .ref a_pull, .ref a_drop, .ref a_changed, .int f_inputs, .int f_motion, .int f_ticks, .int f_changes])), (a_branches, .inl (cI, 6, .inl f_branches)), (a_closing, .inl (cI, 24, .inl f_closing)), (a_opening, .inl (cI, 24, .inl f_opening))] s.heap := hP
  have hK : va_K D vwCl (ztys cI cC cO cJ) s := hK
  have hl := lv_entry ([.ref a_this, .int p0, .int p1, .int p2]) (n := 5) (Nat.le_of_ble_eq_true rfl)
  rw [lg_entry_eq]
  generalize (lg_sl ([.ref a_this, .int p0, .int p1, .int p2]) ++ List.replicate (5 - (lg_sl ([.ref a_this, .int p0, .int p1, .int p2])).length) Slot.unset).toArray = ls at hl ⊢
  have hl : lv_has ls 5 [(0, .ref a_this), (1, .int p0), (2, .int p1), (3, .int p2)] := hl
  unfold F_X0_addBranch at h
  refine lv_iload_n hx hb dX0_addBranch_0 rfl (lv_at hl 1 rfl) ?_
  refine lv_aload_n hx hb dX0_addBranch_1 rfl (lv_at hl 0 rfl) ?_
  refine va_get (D := D) (ci := 0) (v := .ref a_branches) (C := RX0) (T := TX0) (N := 11) hx hb hts hinX0 hown hK hP 0 rfl rfl 1 (by decide) (hts (Cond.fieldLink RX0 9 "LadderRelays$Ladder" "branches" "[I") (List.mem_of_getElem? (i := 1) rfl)) (fun _ h9 => h9) rfl dX0_addBranch_2 ?_
  refine lv_iload_n hx hb dX0_addBranch_5 rfl (lv_at hl 1 rfl) ?_
  obtain ⟨v1, hv1, h⟩ := zbnd h
  refine zr_iald hx hb hK hP 1 0 rfl rfl hv1 dX0_addBranch_6 ?_
  obtain ⟨v2, hv2, h⟩ := zbnd h
  refine zc_i (W.runS (As := [.int p0, .int v1]) (rest := []) ⟨hx, hb, hml, hown, hts⟩ (c_X0_placeOf l D cI cC cO cJ fu p0 v1 v2 hv2) (va_cwS 2 hts gX0_addBranch_X0_placeOf rfl rfl rfl (by decide +kernel) ⟨Nat.le_of_ble_eq_true rfl, Nat.le_of_ble_eq_true rfl⟩) (zPr_S hK zP_nil) rfl rfl hl.1 rfl (lv_room (Nat.le_of_ble_eq_true rfl)) dX0_addBranch_7 ⟨Nat.zero_le _, Nat.zero_le _⟩) ?_
  refine lv_istore (lv' := [(4, .int v2), (0, .ref a_this), (1, .int p0), (2, .int p1), (3, .int p2)]) hx hb dX0_addBranch_10 hl (by decide) rfl (fun ls hl => ?_)
  refine lv_aload_n hx hb dX0_addBranch_12 rfl (lv_at hl 1 rfl) ?_
  refine va_get (D := D) (ci := 0) (v := .ref a_closing) (C := RX0) (T := TX0) (N := 11) hx hb hts hinX0 hown hK hP 0 rfl rfl 2 (by decide) (hts (Cond.fieldLink RX0 15 "LadderRelays$Ladder" "closing" "[I") (List.mem_of_getElem? (i := 2) rfl)) (fun _ h9 => h9) rfl dX0_addBranch_13 ?_
  refine lv_iload hx hb dX0_addBranch_16 (lv_at hl 0 rfl) ?_
  refine lv_iload_n hx hb dX0_addBranch_18 rfl (lv_at hl 3 rfl) ?_
  obtain ⟨v3, hv3, h⟩ := zbnd h
  refine zr_iast hx hb hK hP hD hS 2 0 rfl rfl hv3 dX0_addBranch_19 (fun H locs hP hD hS => ?_)
  have hP : va_P D vwCl [(a_this, .inr (0, [.int f_relays, .ref a_branches, .ref a_closing, .ref a_opening, .ref a_pull, .ref a_drop, .ref a_changed, .int f_inputs, .int f_motion, .int f_ticks, .int f_changes])), (a_branches, .inl (cI, 6, .inl f_branches)), (a_closing, .inl (cI, 24, .inl v3)), (a_opening, .inl (cI, 24, .inl f_opening))] H := hP
  have hD : va_D A [(a_this, .inr (0, [.int f_relays, .ref a_branches, .ref a_closing, .ref a_opening, .ref a_pull, .ref a_drop, .ref a_changed, .int f_inputs, .int f_motion, .int f_ticks, .int f_changes])), (a_branches, .inl (cI, 6, .inl f_branches)), (a_closing, .inl (cI, 24, .inl v3)), (a_opening, .inl (cI, 24, .inl f_opening))] := hD
  refine lv_aload_n hx hb dX0_addBranch_20 rfl (lv_at hl 1 rfl) ?_
  refine va_get (D := D) (ci := 0) (v := .ref a_opening) (C := RX0) (T := TX0) (N := 11) hx hb hts hinX0 hown hK hP 0 rfl rfl 3 (by decide) (hts (Cond.fieldLink RX0 18 "LadderRelays$Ladder" "opening" "[I") (List.mem_of_getElem? (i := 3) rfl)) (fun _ h9 => h9) rfl dX0_addBranch_21 ?_
  refine lv_iload hx hb dX0_addBranch_24 (lv_at hl 0 rfl) ?_
  refine lv_iload_n hx hb dX0_addBranch_26 rfl (lv_at hl 4 rfl) ?_
  obtain ⟨v4, hv4, h⟩ := zbnd h
  refine zr_iast hx hb hK hP hD hS 3 0 rfl rfl hv4 dX0_addBranch_27 (fun H locs hP hD hS => ?_)
  have hP : va_P D vwCl [(a_this, .inr (0, [.int f_relays, .ref a_branches, .ref a_closing, .ref a_opening, .ref a_pull, .ref a_drop, .ref a_changed, .int f_inputs, .int f_motion, .int f_ticks, .int f_changes])), (a_branches, .inl (cI, 6, .inl f_branches)), (a_closing, .inl (cI, 24, .inl v3)), (a_opening, .inl (cI, 24, .inl v4))] H := hP
  have hD : va_D A [(a_this, .inr (0, [.int f_relays, .ref a_branches, .ref a_closing, .ref a_opening, .ref a_pull, .ref a_drop, .ref a_changed, .int f_inputs, .int f_motion, .int f_ticks, .int f_changes])), (a_branches, .inl (cI, 6, .inl f_branches)), (a_closing, .inl (cI, 24, .inl v3)), (a_opening, .inl (cI, 24, .inl v4))] := hD
  refine lv_aload_n hx hb dX0_addBranch_28 rfl (lv_at hl 1 rfl) ?_
  refine va_get (D := D) (ci := 0) (v := .ref a_branches) (C := RX0) (T := TX0) (N := 11) hx hb hts hinX0 hown hK hP 0 rfl rfl 1 (by decide) (hts (Cond.fieldLink RX0 9 "LadderRelays$Ladder" "branches" "[I") (List.mem_of_getElem? (i := 1) rfl)) (fun _ h9 => h9) rfl dX0_addBranch_29 ?_
  refine lv_iload_n hx hb dX0_addBranch_32 rfl (lv_at hl 2 rfl) ?_
  refine lv_dup2_11 hx hb dX0_addBranch_33 rfl rfl ?_
  obtain ⟨v5, hv5, h⟩ := zbnd h
  refine zr_iald hx hb hK hP 1 0 rfl rfl hv5 dX0_addBranch_34 ?_
  refine lv_iconst (v := (1 : Int32)) hx hb dX0_addBranch_35 (by decide) ?_
  refine lv_iadd hx hb dX0_addBranch_36 ?_
  obtain ⟨v6, hv6, h⟩ := zbnd h
  refine zr_iast hx hb hK hP hD hS 1 0 rfl rfl hv6 dX0_addBranch_37 (fun H locs hP hD hS => ?_)
  have hP : va_P D vwCl [(a_this, .inr (0, [.int f_relays, .ref a_branches, .ref a_closing, .ref a_opening, .ref a_pull, .ref a_drop, .ref a_changed, .int f_inputs, .int f_motion, .int f_ticks, .int f_changes])), (a_branches, .inl (cI, 6, .inl v6)), (a_closing, .inl (cI, 24, .inl v3)), (a_opening, .inl (cI, 24, .inl v4))] H := hP
  have hD : va_D A [(a_this, .inr (0, [.int f_relays, .ref a_branches, .ref a_closing, .ref a_opening, .ref a_pull, .ref a_drop, .ref a_changed, .int f_inputs, .int f_motion, .int f_ticks, .int f_changes])), (a_branches, .inl (cI, 6, .inl v6)), (a_closing, .inl (cI, 24, .inl v3)), (a_opening, .inl (cI, 24, .inl v4))] := hD
  refine lv_aload_n hx hb dX0_addBranch_38 rfl (lv_at hl 1 rfl) ?_
  refine va_get (D := D) (ci := 0) (v := .ref a_branches) (C := RX0) (T := TX0) (N := 11) hx hb hts hinX0 hown hK hP 0 rfl rfl 1 (by decide) (hts (Cond.fieldLink RX0 9 "LadderRelays$Ladder" "branches" "[I") (List.mem_of_getElem? (i := 1) rfl)) (fun _ h9 => h9) rfl dX0_addBranch_39 ?_
  refine lv_iload_n hx hb dX0_addBranch_42 rfl (lv_at hl 2 rfl) ?_
  obtain ⟨v7, hv7, h⟩ := zbnd h
  refine zr_iald hx hb hK hP 1 0 rfl rfl hv7 dX0_addBranch_43 ?_
  have hR := Option.some.inj h
  subst hR
  exact W.iret (v := v7) hx hb hr (fun t ht hW => ⟨⟨_, (), rfl, rfl, zhp ht hP⟩, hS.F ht⟩) hS.2.2 dX0_addBranch_44
def F_X0_dropBranches (fu : Nat) (f_branches : Nat → Int32) (p0 : Int32) : Option (Int32 × (Nat → Int32)) := (zrd f_branches 6 p0).bind fun v1 => (zwr f_branches 6 p0 (0 : Int32)).bind fun v2 => some (v1, v2)
set_option maxHeartbeats 4000000 in
set_option maxRecDepth 100000 in
theorem c_X0_dropBranches (l : Launch) (D : va_G) (cI cC cO cJ : ClassId) (fu : Nat) (a_this a_branches a_closing a_opening a_pull a_drop a_changed : Nat) (sz : Nat) (f_relays : Int32) (f_inputs : Int32) (f_motion : Int32) (f_ticks : Int32) (f_changes : Int32) (f_branches : Nat → Int32) (p0 : Int32) (R : Int32 × (Nat → Int32)) (h : F_X0_dropBranches fu f_branches p0 = some R) : Met l yX0_dropBranches wsX0_dropBranches ({ frames := 0, cells := 0, slots := 0, locals := 0 } : Room) (zPw D (ztys cI cC cO cJ) [(a_this, .inr (0, [.int f_relays, .ref a_branches, .ref a_closing, .ref a_opening, .ref a_pull, .ref a_drop, .ref a_changed, .int f_inputs, .int f_motion, .int f_ticks, .int f_changes])), (a_branches, .inl (cI, 6, .inl f_branches))] sz [.ref a_this, .int p0]) (zWi D R.1 [(a_this, .inr (0, [.int f_relays, .ref a_branches, .ref a_closing, .ref a_opening, .ref a_pull, .ref a_drop, .ref a_changed, .int f_inputs, .int f_motion, .int f_ticks, .int f_changes])), (a_branches, .inl (cI, 6, .inl R.2))] (va_A [(a_this, .inr (0, [.int f_relays, .ref a_branches, .ref a_closing, .ref a_opening, .ref a_pull, .ref a_drop, .ref a_changed, .int f_inputs, .int f_motion, .int f_ticks, .int f_changes])), (a_branches, .inl (cI, 6, .inl f_branches))] sz)) 0 0 (va_A [(a_this, .inr (0, [.int f_relays, .ref a_branches, .ref a_closing, .ref a_opening, .ref a_pull, .ref a_drop, .ref a_changed, .int f_inputs, .int f_motion, .int f_ticks, .int f_changes])), (a_branches, .inl (cI, 6, .inl f_branches))] sz) := by
  refine Met.ofW (cc := cX0_dropBranches) (maxL := 3) (ret := (some .int)) (by decide) rfl ?_
  intro p e s m args below meth c s₁ B hml hv
  obtain ⟨rfl, hsz, hP, hK, hD0⟩ := hv
  have hx := B.exec
  have hb := B.bytes
  have hr := B.returns
  have hts := atoms_spec (ws := wsX0_dropBranches) B.pre
  have hown : s.vm.findClass RX0 = some m.cls := findClass_of_methodNamed B.named
  have hlocks := B.notSynchronized
  have hinX0 : ∀ w ∈ wsX00, w ∈ wsX0_dropBranches := fun _ h => (List.mem_cons_of_mem _ (List.mem_append_right _ h))
  subst hsz
  have hD := hD0.self (sz := s.heap.size)
  generalize hAe : va_A [(a_this, .inr (0, [.int f_relays, .ref a_branches, .ref a_closing, .ref a_opening, .ref a_pull, .ref a_drop, .ref a_changed, .int f_inputs, .int f_motion, .int f_ticks, .int f_changes])), (a_branches, .inl (cI, 6, .inl f_branches))] s.heap.size = A at hD ⊢
  have hA : ∀ q : Nat, s.heap.size ≤ q → A q := fun q h => by rw [← hAe]; exact Or.inr h
  have hS : va_S A s.heap s.heap [] := va_S.rf
  have hP : va_P D vwCl [(a_this, .inr (0, [.int f_relays, .ref a_branches, .ref a_closing, .ref a_opening, .ref a_pull, .ref a_drop, .ref a_changed, .int f_inputs, .int f_motion, .int f_ticks, .int f_changes])), (a_branches, .inl (cI, 6, .inl f_branches))] s.heap := hP
  have hK : va_K D vwCl (ztys cI cC cO cJ) s := hK
  have hl := lv_entry ([.ref a_this, .int p0]) (n := 3) (Nat.le_of_ble_eq_true rfl)
  rw [lg_entry_eq]
  generalize (lg_sl ([.ref a_this, .int p0]) ++ List.replicate (3 - (lg_sl ([.ref a_this, .int p0])).length) Slot.unset).toArray = ls at hl ⊢
  have hl : lv_has ls 3 [(0, .ref a_this), (1, .int p0)] := hl
  unfold F_X0_dropBranches at h
  refine lv_aload_n hx hb dX0_dropBranches_0 rfl (lv_at hl 0 rfl) ?_
  refine va_get (D := D) (ci := 0) (v := .ref a_branches) (C := RX0) (T := TX0) (N := 11) hx hb hts hinX0 hown hK hP 0 rfl rfl 1 (by decide) (hts (Cond.fieldLink RX0 9 "LadderRelays$Ladder" "branches" "[I") (List.mem_of_getElem? (i := 1) rfl)) (fun _ h9 => h9) rfl dX0_dropBranches_1 ?_
  refine lv_iload_n hx hb dX0_dropBranches_4 rfl (lv_at hl 1 rfl) ?_
  obtain ⟨v1, hv1, h⟩ := zbnd h
  refine zr_iald hx hb hK hP 1 0 rfl rfl hv1 dX0_dropBranches_5 ?_
  refine lv_istore_n (lv' := [(2, .int v1), (0, .ref a_this), (1, .int p0)]) hx hb dX0_dropBranches_6 rfl hl (by decide) rfl (fun ls hl => ?_)
  refine lv_aload_n hx hb dX0_dropBranches_7 rfl (lv_at hl 1 rfl) ?_
  refine va_get (D := D) (ci := 0) (v := .ref a_branches) (C := RX0) (T := TX0) (N := 11) hx hb hts hinX0 hown hK hP 0 rfl rfl 1 (by decide) (hts (Cond.fieldLink RX0 9 "LadderRelays$Ladder" "branches" "[I") (List.mem_of_getElem? (i := 1) rfl)) (fun _ h9 => h9) rfl dX0_dropBranches_8 ?_
  refine lv_iload_n hx hb dX0_dropBranches_11 rfl (lv_at hl 2 rfl) ?_
  refine lv_iconst (v := (0 : Int32)) hx hb dX0_dropBranches_12 (by decide) ?_
  obtain ⟨v2, hv2, h⟩ := zbnd h
  refine zr_iast hx hb hK hP hD hS 1 0 rfl rfl hv2 dX0_dropBranches_13 (fun H locs hP hD hS => ?_)
  have hP : va_P D vwCl [(a_this, .inr (0, [.int f_relays, .ref a_branches, .ref a_closing, .ref a_opening, .ref a_pull, .ref a_drop, .ref a_changed, .int f_inputs, .int f_motion, .int f_ticks, .int f_changes])), (a_branches, .inl (cI, 6, .inl v2))] H := hP
  have hD : va_D A [(a_this, .inr (0, [.int f_relays, .ref a_branches, .ref a_closing, .ref a_opening, .ref a_pull, .ref a_drop, .ref a_changed, .int f_inputs, .int f_motion, .int f_ticks, .int f_changes])), (a_branches, .inl (cI, 6, .inl v2))] := hD
  refine lv_iload_n hx hb dX0_dropBranches_14 rfl (lv_at hl 0 rfl) ?_
  have hR := Option.some.inj h
  subst hR
  exact W.iret (v := v1) hx hb hr (fun t ht hW => ⟨⟨_, (), rfl, rfl, zhp ht hP⟩, hS.F ht⟩) hS.2.2 dX0_dropBranches_15
def F_X0_copyFrom (fu : Nat) (f_relays : Int32) (f_inputs : Int32) (f_motion : Int32) (f_ticks : Int32) (f_changes : Int32) (f_branches : Nat → Int32) (f_closing : Nat → Int32) (f_opening : Nat → Int32) (f_pull : Nat → Int32) (f_drop : Nat → Int32) (f_changed : Nat → Int32) (f_p0_relays : Int32) (f_p0_inputs : Int32) (f_p0_motion : Int32) (f_p0_ticks : Int32) (f_p0_changes : Int32) (f_p0_branches : Nat → Int32) (f_p0_changed : Nat → Int32) (f_p0_closing : Nat → Int32) (f_p0_drop : Nat → Int32) (f_p0_opening : Nat → Int32) (f_p0_pull : Nat → Int32) : Option (Int32 × Int32 × Int32 × Int32 × Int32 × (Nat → Int32) × (Nat → Int32) × (Nat → Int32) × (Nat → Int32) × (Nat → Int32) × (Nat → Int32)) := (zcy f_p0_branches 6 (0 : Int32) f_branches 6 (0 : Int32) (6 : Int32)).bind fun v1 => (zcy f_p0_closing 24 (0 : Int32) f_closing 24 (0 : Int32) (24 : Int32)).bind fun v2 => (zcy f_p0_opening 24 (0 : Int32) f_opening 24 (0 : Int32) (24 : Int32)).bind fun v3 => (zcy f_p0_pull 6 (0 : Int32) f_pull 6 (0 : Int32) (6 : Int32)).bind fun v4 => (zcy f_p0_drop 6 (0 : Int32) f_drop 6 (0 : Int32) (6 : Int32)).bind fun v5 => (zcy f_p0_changed 6 (0 : Int32) f_changed 6 (0 : Int32) (6 : Int32)).bind fun v6 => some (f_p0_relays, f_p0_inputs, f_p0_motion, f_p0_ticks, f_p0_changes, v1, v2, v3, v4, v5, v6)
set_option maxHeartbeats 4000000 in
set_option maxRecDepth 100000 in
theorem c_X0_copyFrom (l : Launch) (D : va_G) (cI cC cO cJ : ClassId) (fu : Nat) (a_this a_branches a_closing a_opening a_pull a_drop a_changed a_p0 a_p0_branches a_p0_closing a_p0_opening a_p0_pull a_p0_drop a_p0_changed : Nat) (sz : Nat) (f_relays : Int32) (f_inputs : Int32) (f_motion : Int32) (f_ticks : Int32) (f_changes : Int32) (f_branches : Nat → Int32) (f_closing : Nat → Int32) (f_opening : Nat → Int32) (f_pull : Nat → Int32) (f_drop : Nat → Int32) (f_changed : Nat → Int32) (f_p0_relays : Int32) (f_p0_inputs : Int32) (f_p0_motion : Int32) (f_p0_ticks : Int32) (f_p0_changes : Int32) (f_p0_branches : Nat → Int32) (f_p0_changed : Nat → Int32) (f_p0_closing : Nat → Int32) (f_p0_drop : Nat → Int32) (f_p0_opening : Nat → Int32) (f_p0_pull : Nat → Int32) (R : Int32 × Int32 × Int32 × Int32 × Int32 × (Nat → Int32) × (Nat → Int32) × (Nat → Int32) × (Nat → Int32) × (Nat → Int32) × (Nat → Int32)) (h : F_X0_copyFrom fu f_relays f_inputs f_motion f_ticks f_changes f_branches f_closing f_opening f_pull f_drop f_changed f_p0_relays f_p0_inputs f_p0_motion f_p0_ticks f_p0_changes f_p0_branches f_p0_changed f_p0_closing f_p0_drop f_p0_opening f_p0_pull = some R) : Met l yX0_copyFrom wsX0_copyFrom ({ frames := 1, cells := 0, slots := 0, locals := 32 } : Room) (zPw D (ztys cI cC cO cJ) [(a_this, .inr (0, [.int f_relays, .ref a_branches, .ref a_closing, .ref a_opening, .ref a_pull, .ref a_drop, .ref a_changed, .int f_inputs, .int f_motion, .int f_ticks, .int f_changes])), (a_branches, .inl (cI, 6, .inl f_branches)), (a_closing, .inl (cI, 24, .inl f_closing)), (a_opening, .inl (cI, 24, .inl f_opening)), (a_pull, .inl (cI, 6, .inl f_pull)), (a_drop, .inl (cI, 6, .inl f_drop)), (a_changed, .inl (cI, 6, .inl f_changed)), (a_p0, .inr (0, [.int f_p0_relays, .ref a_p0_branches, .ref a_p0_closing, .ref a_p0_opening, .ref a_p0_pull, .ref a_p0_drop, .ref a_p0_changed, .int f_p0_inputs, .int f_p0_motion, .int f_p0_ticks, .int f_p0_changes])), (a_p0_branches, .inl (cI, 6, .inl f_p0_branches)), (a_p0_changed, .inl (cI, 6, .inl f_p0_changed)), (a_p0_closing, .inl (cI, 24, .inl f_p0_closing)), (a_p0_drop, .inl (cI, 6, .inl f_p0_drop)), (a_p0_opening, .inl (cI, 24, .inl f_p0_opening)), (a_p0_pull, .inl (cI, 6, .inl f_p0_pull))] sz [.ref a_this, .ref a_p0]) (zWv D [(a_this, .inr (0, [.int R.1, .ref a_branches, .ref a_closing, .ref a_opening, .ref a_pull, .ref a_drop, .ref a_changed, .int R.2.1, .int R.2.2.1, .int R.2.2.2.1, .int R.2.2.2.2.1])), (a_branches, .inl (cI, 6, .inl R.2.2.2.2.2.1)), (a_closing, .inl (cI, 24, .inl R.2.2.2.2.2.2.1)), (a_opening, .inl (cI, 24, .inl R.2.2.2.2.2.2.2.1)), (a_pull, .inl (cI, 6, .inl R.2.2.2.2.2.2.2.2.1)), (a_drop, .inl (cI, 6, .inl R.2.2.2.2.2.2.2.2.2.1)), (a_changed, .inl (cI, 6, .inl R.2.2.2.2.2.2.2.2.2.2)), (a_p0, .inr (0, [.int f_p0_relays, .ref a_p0_branches, .ref a_p0_closing, .ref a_p0_opening, .ref a_p0_pull, .ref a_p0_drop, .ref a_p0_changed, .int f_p0_inputs, .int f_p0_motion, .int f_p0_ticks, .int f_p0_changes])), (a_p0_branches, .inl (cI, 6, .inl f_p0_branches)), (a_p0_changed, .inl (cI, 6, .inl f_p0_changed)), (a_p0_closing, .inl (cI, 24, .inl f_p0_closing)), (a_p0_drop, .inl (cI, 6, .inl f_p0_drop)), (a_p0_opening, .inl (cI, 24, .inl f_p0_opening)), (a_p0_pull, .inl (cI, 6, .inl f_p0_pull))] (va_A [(a_this, .inr (0, [.int f_relays, .ref a_branches, .ref a_closing, .ref a_opening, .ref a_pull, .ref a_drop, .ref a_changed, .int f_inputs, .int f_motion, .int f_ticks, .int f_changes])), (a_branches, .inl (cI, 6, .inl f_branches)), (a_closing, .inl (cI, 24, .inl f_closing)), (a_opening, .inl (cI, 24, .inl f_opening)), (a_pull, .inl (cI, 6, .inl f_pull)), (a_drop, .inl (cI, 6, .inl f_drop)), (a_changed, .inl (cI, 6, .inl f_changed)), (a_p0, .inr (0, [.int f_p0_relays, .ref a_p0_branches, .ref a_p0_closing, .ref a_p0_opening, .ref a_p0_pull, .ref a_p0_drop, .ref a_p0_changed, .int f_p0_inputs, .int f_p0_motion, .int f_p0_ticks, .int f_p0_changes])), (a_p0_branches, .inl (cI, 6, .inl f_p0_branches)), (a_p0_changed, .inl (cI, 6, .inl f_p0_changed)), (a_p0_closing, .inl (cI, 24, .inl f_p0_closing)), (a_p0_drop, .inl (cI, 6, .inl f_p0_drop)), (a_p0_opening, .inl (cI, 24, .inl f_p0_opening)), (a_p0_pull, .inl (cI, 6, .inl f_p0_pull))] sz)) 0 0 (va_A [(a_this, .inr (0, [.int f_relays, .ref a_branches, .ref a_closing, .ref a_opening, .ref a_pull, .ref a_drop, .ref a_changed, .int f_inputs, .int f_motion, .int f_ticks, .int f_changes])), (a_branches, .inl (cI, 6, .inl f_branches)), (a_closing, .inl (cI, 24, .inl f_closing)), (a_opening, .inl (cI, 24, .inl f_opening)), (a_pull, .inl (cI, 6, .inl f_pull)), (a_drop, .inl (cI, 6, .inl f_drop)), (a_changed, .inl (cI, 6, .inl f_changed)), (a_p0, .inr (0, [.int f_p0_relays, .ref a_p0_branches, .ref a_p0_closing, .ref a_p0_opening, .ref a_p0_pull, .ref a_p0_drop, .ref a_p0_changed, .int f_p0_inputs, .int f_p0_motion, .int f_p0_ticks, .int f_p0_changes])), (a_p0_branches, .inl (cI, 6, .inl f_p0_branches)), (a_p0_changed, .inl (cI, 6, .inl f_p0_changed)), (a_p0_closing, .inl (cI, 24, .inl f_p0_closing)), (a_p0_drop, .inl (cI, 6, .inl f_p0_drop)), (a_p0_opening, .inl (cI, 24, .inl f_p0_opening)), (a_p0_pull, .inl (cI, 6, .inl f_p0_pull))] sz) := by
  refine Met.ofW (cc := cX0_copyFrom) (maxL := 2) (ret := none) (by decide) rfl ?_
  intro p e s m args below meth c s₁ B hml hv
  obtain ⟨rfl, hsz, hP, hK, hD0⟩ := hv
  have hx := B.exec
  have hb := B.bytes
  have hr := B.returns
  have hts := atoms_spec (ws := wsX0_copyFrom) B.pre
  have hown : s.vm.findClass RX0 = some m.cls := findClass_of_methodNamed B.named
  have hlocks := B.notSynchronized
  have hinX0 : ∀ w ∈ wsX00, w ∈ wsX0_copyFrom := fun _ h => (List.mem_cons_of_mem _ (List.mem_append_right _ h))
  subst hsz
  have hD := hD0.self (sz := s.heap.size)
  generalize hAe : va_A [(a_this, .inr (0, [.int f_relays, .ref a_branches, .ref a_closing, .ref a_opening, .ref a_pull, .ref a_drop, .ref a_changed, .int f_inputs, .int f_motion, .int f_ticks, .int f_changes])), (a_branches, .inl (cI, 6, .inl f_branches)), (a_closing, .inl (cI, 24, .inl f_closing)), (a_opening, .inl (cI, 24, .inl f_opening)), (a_pull, .inl (cI, 6, .inl f_pull)), (a_drop, .inl (cI, 6, .inl f_drop)), (a_changed, .inl (cI, 6, .inl f_changed)), (a_p0, .inr (0, [.int f_p0_relays, .ref a_p0_branches, .ref a_p0_closing, .ref a_p0_opening, .ref a_p0_pull, .ref a_p0_drop, .ref a_p0_changed, .int f_p0_inputs, .int f_p0_motion, .int f_p0_ticks, .int f_p0_changes])), (a_p0_branches, .inl (cI, 6, .inl f_p0_branches)), (a_p0_changed, .inl (cI, 6, .inl f_p0_changed)), (a_p0_closing, .inl (cI, 24, .inl f_p0_closing)), (a_p0_drop, .inl (cI, 6, .inl f_p0_drop)), (a_p0_opening, .inl (cI, 24, .inl f_p0_opening)), (a_p0_pull, .inl (cI, 6, .inl f_p0_pull))] s.heap.size = A at hD ⊢
  have hA : ∀ q : Nat, s.heap.size ≤ q → A q := fun q h => by rw [← hAe]; exact Or.inr h
  have hS : va_S A s.heap s.heap [] := va_S.rf
  have hP : va_P D vwCl [(a_this, .inr (0, [.int f_relays, .ref a_branches, .ref a_closing, .ref a_opening, .ref a_pull, .ref a_drop, .ref a_changed, .int f_inputs, .int f_motion, .int f_ticks, .int f_changes])), (a_branches, .inl (cI, 6, .inl f_branches)), (a_closing, .inl (cI, 24, .inl f_closing)), (a_opening, .inl (cI, 24, .inl f_opening)), (a_pull, .inl (cI, 6, .inl f_pull)), (a_drop, .inl (cI, 6, .inl f_drop)), (a_changed, .inl (cI, 6, .inl f_changed)), (a_p0, .inr (0, [.int f_p0_relays, .ref a_p0_branches, .ref a_p0_closing, .ref a_p0_opening, .ref a_p0_pull, .ref a_p0_drop, .ref a_p0_changed, .int f_p0_inputs, .int f_p0_motion, .int f_p0_ticks, .int f_p0_changes])), (a_p0_branches, .inl (cI, 6, .inl f_p0_branches)), (a_p0_changed, .inl (cI, 6, .inl f_p0_changed)), (a_p0_closing, .inl (cI, 24, .inl f_p0_closing)), (a_p0_drop, .inl (cI, 6, .inl f_p0_drop)), (a_p0_opening, .inl (cI, 24, .inl f_p0_opening)), (a_p0_pull, .inl (cI, 6, .inl f_p0_pull))] s.heap := hP
  have hK : va_K D vwCl (ztys cI cC cO cJ) s := hK
  have hl := lv_entry ([.ref a_this, .ref a_p0]) (n := 2) (Nat.le_of_ble_eq_true rfl)
  rw [lg_entry_eq]
  generalize (lg_sl ([.ref a_this, .ref a_p0]) ++ List.replicate (2 - (lg_sl ([.ref a_this, .ref a_p0])).length) Slot.unset).toArray = ls at hl ⊢
  have hl : lv_has ls 2 [(0, .ref a_this), (1, .ref a_p0)] := hl
  unfold F_X0_copyFrom at h
  refine lv_aload_n hx hb dX0_copyFrom_0 rfl (lv_at hl 0 rfl) ?_
  refine lv_aload_n hx hb dX0_copyFrom_1 rfl (lv_at hl 1 rfl) ?_
  refine va_get (D := D) (ci := 0) (v := .int f_p0_relays) (C := RX0) (T := TX0) (N := 11) hx hb hts hinX0 hown hK hP 7 rfl rfl 0 (by decide) (hts (Cond.fieldLink RX0 30 "LadderRelays$Ladder" "relays" "I") (List.mem_of_getElem? (i := 1) rfl)) (fun _ h9 => h9) rfl dX0_copyFrom_2 ?_
  refine va_put (D := D) (ci := 0) (v := .int f_p0_relays) (ty := .int) (C := RX0) (T := TX0) (N := 11) hx hb hts hinX0 tyX0 tyX0_ok nmX0 hown hK hP hD hS 0 rfl rfl 0 (by decide) (hts (Cond.fieldLink RX0 30 "LadderRelays$Ladder" "relays" "I") (List.mem_of_getElem? (i := 1) rfl)) (fun _ h9 => h9) rfl (by decide +kernel) rfl rfl (Nat.le_of_ble_eq_true rfl) dX0_copyFrom_5 (fun H locs hP hD hS => ?_)
  have hP : va_P D vwCl [(a_this, .inr (0, [.int f_p0_relays, .ref a_branches, .ref a_closing, .ref a_opening, .ref a_pull, .ref a_drop, .ref a_changed, .int f_inputs, .int f_motion, .int f_ticks, .int f_changes])), (a_branches, .inl (cI, 6, .inl f_branches)), (a_closing, .inl (cI, 24, .inl f_closing)), (a_opening, .inl (cI, 24, .inl f_opening)), (a_pull, .inl (cI, 6, .inl f_pull)), (a_drop, .inl (cI, 6, .inl f_drop)), (a_changed, .inl (cI, 6, .inl f_changed)), (a_p0, .inr (0, [.int f_p0_relays, .ref a_p0_branches, .ref a_p0_closing, .ref a_p0_opening, .ref a_p0_pull, .ref a_p0_drop, .ref a_p0_changed, .int f_p0_inputs, .int f_p0_motion, .int f_p0_ticks, .int f_p0_changes])), (a_p0_branches, .inl (cI, 6, .inl f_p0_branches)), (a_p0_changed, .inl (cI, 6, .inl f_p0_changed)), (a_p0_closing, .inl (cI, 24, .inl f_p0_closing)), (a_p0_drop, .inl (cI, 6, .inl f_p0_drop)), (a_p0_opening, .inl (cI, 24, .inl f_p0_opening)), (a_p0_pull, .inl (cI, 6, .inl f_p0_pull))] H := hP
  have hD : va_D A [(a_this, .inr (0, [.int f_p0_relays, .ref a_branches, .ref a_closing, .ref a_opening, .ref a_pull, .ref a_drop, .ref a_changed, .int f_inputs, .int f_motion, .int f_ticks, .int f_changes])), (a_branches, .inl (cI, 6, .inl f_branches)), (a_closing, .inl (cI, 24, .inl f_closing)), (a_opening, .inl (cI, 24, .inl f_opening)), (a_pull, .inl (cI, 6, .inl f_pull)), (a_drop, .inl (cI, 6, .inl f_drop)), (a_changed, .inl (cI, 6, .inl f_changed)), (a_p0, .inr (0, [.int f_p0_relays, .ref a_p0_branches, .ref a_p0_closing, .ref a_p0_opening, .ref a_p0_pull, .ref a_p0_drop, .ref a_p0_changed, .int f_p0_inputs, .int f_p0_motion, .int f_p0_ticks, .int f_p0_changes])), (a_p0_branches, .inl (cI, 6, .inl f_p0_branches)), (a_p0_changed, .inl (cI, 6, .inl f_p0_changed)), (a_p0_closing, .inl (cI, 24, .inl f_p0_closing)), (a_p0_drop, .inl (cI, 6, .inl f_p0_drop)), (a_p0_opening, .inl (cI, 24, .inl f_p0_opening)), (a_p0_pull, .inl (cI, 6, .inl f_p0_pull))] := hD
  refine lv_aload_n hx hb dX0_copyFrom_8 rfl (lv_at hl 1 rfl) ?_
  refine va_get (D := D) (ci := 0) (v := .ref a_p0_branches) (C := RX0) (T := TX0) (N := 11) hx hb hts hinX0 hown hK hP 7 rfl rfl 1 (by decide) (hts (Cond.fieldLink RX0 9 "LadderRelays$Ladder" "branches" "[I") (List.mem_of_getElem? (i := 2) rfl)) (fun _ h9 => h9) rfl dX0_copyFrom_9 ?_
  refine lv_iconst (v := (0 : Int32)) hx hb dX0_copyFrom_12 (by decide) ?_
  refine lv_aload_n hx hb dX0_copyFrom_13 rfl (lv_at hl 0 rfl) ?_
  refine va_get (D := D) (ci := 0) (v := .ref a_branches) (C := RX0) (T := TX0) (N := 11) hx hb hts hinX0 hown hK hP 0 rfl rfl 1 (by decide) (hts (Cond.fieldLink RX0 9 "LadderRelays$Ladder" "branches" "[I") (List.mem_of_getElem? (i := 2) rfl)) (fun _ h9 => h9) rfl dX0_copyFrom_14 ?_
  refine lv_iconst (v := (0 : Int32)) hx hb dX0_copyFrom_17 (by decide) ?_
  refine lv_bipush (v := (6 : Int32)) hx hb dX0_copyFrom_18 (by decide) ?_
  obtain ⟨v1, hv1, h⟩ := zbnd h
  refine zr_copy hx hb (by rw [hml]; exact hl.1.symm) hown (hts (Cond.methodLink RX0 34 arraycopyName) (List.mem_of_getElem? (i := 3) rfl)) (hts (Cond.native arraycopyName) (List.mem_of_getElem? (i := 4) rfl)) (hts (Cond.static arraycopyName) (List.mem_of_getElem? (i := 5) rfl)) (hts (Cond.initialized "java/lang/System") (List.mem_of_getElem? (i := 6) rfl)) hK hP hD hS 8 1 0 0 rfl rfl rfl rfl hv1 (Nat.le_of_ble_eq_true rfl) (Nat.le_of_ble_eq_true rfl) dX0_copyFrom_20 (fun H locs hP hD hS => ?_)
  have hP : va_P D vwCl [(a_this, .inr (0, [.int f_p0_relays, .ref a_branches, .ref a_closing, .ref a_opening, .ref a_pull, .ref a_drop, .ref a_changed, .int f_inputs, .int f_motion, .int f_ticks, .int f_changes])), (a_branches, .inl (cI, 6, .inl v1)), (a_closing, .inl (cI, 24, .inl f_closing)), (a_opening, .inl (cI, 24, .inl f_opening)), (a_pull, .inl (cI, 6, .inl f_pull)), (a_drop, .inl (cI, 6, .inl f_drop)), (a_changed, .inl (cI, 6, .inl f_changed)), (a_p0, .inr (0, [.int f_p0_relays, .ref a_p0_branches, .ref a_p0_closing, .ref a_p0_opening, .ref a_p0_pull, .ref a_p0_drop, .ref a_p0_changed, .int f_p0_inputs, .int f_p0_motion, .int f_p0_ticks, .int f_p0_changes])), (a_p0_branches, .inl (cI, 6, .inl f_p0_branches)), (a_p0_changed, .inl (cI, 6, .inl f_p0_changed)), (a_p0_closing, .inl (cI, 24, .inl f_p0_closing)), (a_p0_drop, .inl (cI, 6, .inl f_p0_drop)), (a_p0_opening, .inl (cI, 24, .inl f_p0_opening)), (a_p0_pull, .inl (cI, 6, .inl f_p0_pull))] H := hP
  have hD : va_D A [(a_this, .inr (0, [.int f_p0_relays, .ref a_branches, .ref a_closing, .ref a_opening, .ref a_pull, .ref a_drop, .ref a_changed, .int f_inputs, .int f_motion, .int f_ticks, .int f_changes])), (a_branches, .inl (cI, 6, .inl v1)), (a_closing, .inl (cI, 24, .inl f_closing)), (a_opening, .inl (cI, 24, .inl f_opening)), (a_pull, .inl (cI, 6, .inl f_pull)), (a_drop, .inl (cI, 6, .inl f_drop)), (a_changed, .inl (cI, 6, .inl f_changed)), (a_p0, .inr (0, [.int f_p0_relays, .ref a_p0_branches, .ref a_p0_closing, .ref a_p0_opening, .ref a_p0_pull, .ref a_p0_drop, .ref a_p0_changed, .int f_p0_inputs, .int f_p0_motion, .int f_p0_ticks, .int f_p0_changes])), (a_p0_branches, .inl (cI, 6, .inl f_p0_branches)), (a_p0_changed, .inl (cI, 6, .inl f_p0_changed)), (a_p0_closing, .inl (cI, 24, .inl f_p0_closing)), (a_p0_drop, .inl (cI, 6, .inl f_p0_drop)), (a_p0_opening, .inl (cI, 24, .inl f_p0_opening)), (a_p0_pull, .inl (cI, 6, .inl f_p0_pull))] := hD
  refine lv_aload_n hx hb dX0_copyFrom_23 rfl (lv_at hl 1 rfl) ?_
  refine va_get (D := D) (ci := 0) (v := .ref a_p0_closing) (C := RX0) (T := TX0) (N := 11) hx hb hts hinX0 hown hK hP 7 rfl rfl 2 (by decide) (hts (Cond.fieldLink RX0 15 "LadderRelays$Ladder" "closing" "[I") (List.mem_of_getElem? (i := 7) rfl)) (fun _ h9 => h9) rfl dX0_copyFrom_24 ?_
  refine lv_iconst (v := (0 : Int32)) hx hb dX0_copyFrom_27 (by decide) ?_
  refine lv_aload_n hx hb dX0_copyFrom_28 rfl (lv_at hl 0 rfl) ?_
  refine va_get (D := D) (ci := 0) (v := .ref a_closing) (C := RX0) (T := TX0) (N := 11) hx hb hts hinX0 hown hK hP 0 rfl rfl 2 (by decide) (hts (Cond.fieldLink RX0 15 "LadderRelays$Ladder" "closing" "[I") (List.mem_of_getElem? (i := 7) rfl)) (fun _ h9 => h9) rfl dX0_copyFrom_29 ?_
  refine lv_iconst (v := (0 : Int32)) hx hb dX0_copyFrom_32 (by decide) ?_
  refine lv_bipush (v := (24 : Int32)) hx hb dX0_copyFrom_33 (by decide) ?_
  obtain ⟨v2, hv2, h⟩ := zbnd h
  refine zr_copy hx hb (by rw [hml]; exact hl.1.symm) hown (hts (Cond.methodLink RX0 34 arraycopyName) (List.mem_of_getElem? (i := 3) rfl)) (hts (Cond.native arraycopyName) (List.mem_of_getElem? (i := 4) rfl)) (hts (Cond.static arraycopyName) (List.mem_of_getElem? (i := 5) rfl)) (hts (Cond.initialized "java/lang/System") (List.mem_of_getElem? (i := 6) rfl)) hK hP hD hS 10 2 0 0 rfl rfl rfl rfl hv2 (Nat.le_of_ble_eq_true rfl) (Nat.le_of_ble_eq_true rfl) dX0_copyFrom_35 (fun H locs hP hD hS => ?_)
  have hP : va_P D vwCl [(a_this, .inr (0, [.int f_p0_relays, .ref a_branches, .ref a_closing, .ref a_opening, .ref a_pull, .ref a_drop, .ref a_changed, .int f_inputs, .int f_motion, .int f_ticks, .int f_changes])), (a_branches, .inl (cI, 6, .inl v1)), (a_closing, .inl (cI, 24, .inl v2)), (a_opening, .inl (cI, 24, .inl f_opening)), (a_pull, .inl (cI, 6, .inl f_pull)), (a_drop, .inl (cI, 6, .inl f_drop)), (a_changed, .inl (cI, 6, .inl f_changed)), (a_p0, .inr (0, [.int f_p0_relays, .ref a_p0_branches, .ref a_p0_closing, .ref a_p0_opening, .ref a_p0_pull, .ref a_p0_drop, .ref a_p0_changed, .int f_p0_inputs, .int f_p0_motion, .int f_p0_ticks, .int f_p0_changes])), (a_p0_branches, .inl (cI, 6, .inl f_p0_branches)), (a_p0_changed, .inl (cI, 6, .inl f_p0_changed)), (a_p0_closing, .inl (cI, 24, .inl f_p0_closing)), (a_p0_drop, .inl (cI, 6, .inl f_p0_drop)), (a_p0_opening, .inl (cI, 24, .inl f_p0_opening)), (a_p0_pull, .inl (cI, 6, .inl f_p0_pull))] H := hP
  have hD : va_D A [(a_this, .inr (0, [.int f_p0_relays, .ref a_branches, .ref a_closing, .ref a_opening, .ref a_pull, .ref a_drop, .ref a_changed, .int f_inputs, .int f_motion, .int f_ticks, .int f_changes])), (a_branches, .inl (cI, 6, .inl v1)), (a_closing, .inl (cI, 24, .inl v2)), (a_opening, .inl (cI, 24, .inl f_opening)), (a_pull, .inl (cI, 6, .inl f_pull)), (a_drop, .inl (cI, 6, .inl f_drop)), (a_changed, .inl (cI, 6, .inl f_changed)), (a_p0, .inr (0, [.int f_p0_relays, .ref a_p0_branches, .ref a_p0_closing, .ref a_p0_opening, .ref a_p0_pull, .ref a_p0_drop, .ref a_p0_changed, .int f_p0_inputs, .int f_p0_motion, .int f_p0_ticks, .int f_p0_changes])), (a_p0_branches, .inl (cI, 6, .inl f_p0_branches)), (a_p0_changed, .inl (cI, 6, .inl f_p0_changed)), (a_p0_closing, .inl (cI, 24, .inl f_p0_closing)), (a_p0_drop, .inl (cI, 6, .inl f_p0_drop)), (a_p0_opening, .inl (cI, 24, .inl f_p0_opening)), (a_p0_pull, .inl (cI, 6, .inl f_p0_pull))] := hD
  refine lv_aload_n hx hb dX0_copyFrom_38 rfl (lv_at hl 1 rfl) ?_
  refine va_get (D := D) (ci := 0) (v := .ref a_p0_opening) (C := RX0) (T := TX0) (N := 11) hx hb hts hinX0 hown hK hP 7 rfl rfl 3 (by decide) (hts (Cond.fieldLink RX0 18 "LadderRelays$Ladder" "opening" "[I") (List.mem_of_getElem? (i := 8) rfl)) (fun _ h9 => h9) rfl dX0_copyFrom_39 ?_
  refine lv_iconst (v := (0 : Int32)) hx hb dX0_copyFrom_42 (by decide) ?_
  refine lv_aload_n hx hb dX0_copyFrom_43 rfl (lv_at hl 0 rfl) ?_
  refine va_get (D := D) (ci := 0) (v := .ref a_opening) (C := RX0) (T := TX0) (N := 11) hx hb hts hinX0 hown hK hP 0 rfl rfl 3 (by decide) (hts (Cond.fieldLink RX0 18 "LadderRelays$Ladder" "opening" "[I") (List.mem_of_getElem? (i := 8) rfl)) (fun _ h9 => h9) rfl dX0_copyFrom_44 ?_
  refine lv_iconst (v := (0 : Int32)) hx hb dX0_copyFrom_47 (by decide) ?_
  refine lv_bipush (v := (24 : Int32)) hx hb dX0_copyFrom_48 (by decide) ?_
  obtain ⟨v3, hv3, h⟩ := zbnd h
  refine zr_copy hx hb (by rw [hml]; exact hl.1.symm) hown (hts (Cond.methodLink RX0 34 arraycopyName) (List.mem_of_getElem? (i := 3) rfl)) (hts (Cond.native arraycopyName) (List.mem_of_getElem? (i := 4) rfl)) (hts (Cond.static arraycopyName) (List.mem_of_getElem? (i := 5) rfl)) (hts (Cond.initialized "java/lang/System") (List.mem_of_getElem? (i := 6) rfl)) hK hP hD hS 12 3 0 0 rfl rfl rfl rfl hv3 (Nat.le_of_ble_eq_true rfl) (Nat.le_of_ble_eq_true rfl) dX0_copyFrom_50 (fun H locs hP hD hS => ?_)
  have hP : va_P D vwCl [(a_this, .inr (0, [.int f_p0_relays, .ref a_branches, .ref a_closing, .ref a_opening, .ref a_pull, .ref a_drop, .ref a_changed, .int f_inputs, .int f_motion, .int f_ticks, .int f_changes])), (a_branches, .inl (cI, 6, .inl v1)), (a_closing, .inl (cI, 24, .inl v2)), (a_opening, .inl (cI, 24, .inl v3)), (a_pull, .inl (cI, 6, .inl f_pull)), (a_drop, .inl (cI, 6, .inl f_drop)), (a_changed, .inl (cI, 6, .inl f_changed)), (a_p0, .inr (0, [.int f_p0_relays, .ref a_p0_branches, .ref a_p0_closing, .ref a_p0_opening, .ref a_p0_pull, .ref a_p0_drop, .ref a_p0_changed, .int f_p0_inputs, .int f_p0_motion, .int f_p0_ticks, .int f_p0_changes])), (a_p0_branches, .inl (cI, 6, .inl f_p0_branches)), (a_p0_changed, .inl (cI, 6, .inl f_p0_changed)), (a_p0_closing, .inl (cI, 24, .inl f_p0_closing)), (a_p0_drop, .inl (cI, 6, .inl f_p0_drop)), (a_p0_opening, .inl (cI, 24, .inl f_p0_opening)), (a_p0_pull, .inl (cI, 6, .inl f_p0_pull))] H := hP
  have hD : va_D A [(a_this, .inr (0, [.int f_p0_relays, .ref a_branches, .ref a_closing, .ref a_opening, .ref a_pull, .ref a_drop, .ref a_changed, .int f_inputs, .int f_motion, .int f_ticks, .int f_changes])), (a_branches, .inl (cI, 6, .inl v1)), (a_closing, .inl (cI, 24, .inl v2)), (a_opening, .inl (cI, 24, .inl v3)), (a_pull, .inl (cI, 6, .inl f_pull)), (a_drop, .inl (cI, 6, .inl f_drop)), (a_changed, .inl (cI, 6, .inl f_changed)), (a_p0, .inr (0, [.int f_p0_relays, .ref a_p0_branches, .ref a_p0_closing, .ref a_p0_opening, .ref a_p0_pull, .ref a_p0_drop, .ref a_p0_changed, .int f_p0_inputs, .int f_p0_motion, .int f_p0_ticks, .int f_p0_changes])), (a_p0_branches, .inl (cI, 6, .inl f_p0_branches)), (a_p0_changed, .inl (cI, 6, .inl f_p0_changed)), (a_p0_closing, .inl (cI, 24, .inl f_p0_closing)), (a_p0_drop, .inl (cI, 6, .inl f_p0_drop)), (a_p0_opening, .inl (cI, 24, .inl f_p0_opening)), (a_p0_pull, .inl (cI, 6, .inl f_p0_pull))] := hD
  refine lv_aload_n hx hb dX0_copyFrom_53 rfl (lv_at hl 1 rfl) ?_
  refine va_get (D := D) (ci := 0) (v := .ref a_p0_pull) (C := RX0) (T := TX0) (N := 11) hx hb hts hinX0 hown hK hP 7 rfl rfl 4 (by decide) (hts (Cond.fieldLink RX0 21 "LadderRelays$Ladder" "pull" "[I") (List.mem_of_getElem? (i := 9) rfl)) (fun _ h9 => h9) rfl dX0_copyFrom_54 ?_
  refine lv_iconst (v := (0 : Int32)) hx hb dX0_copyFrom_57 (by decide) ?_
  refine lv_aload_n hx hb dX0_copyFrom_58 rfl (lv_at hl 0 rfl) ?_
  refine va_get (D := D) (ci := 0) (v := .ref a_pull) (C := RX0) (T := TX0) (N := 11) hx hb hts hinX0 hown hK hP 0 rfl rfl 4 (by decide) (hts (Cond.fieldLink RX0 21 "LadderRelays$Ladder" "pull" "[I") (List.mem_of_getElem? (i := 9) rfl)) (fun _ h9 => h9) rfl dX0_copyFrom_59 ?_
  refine lv_iconst (v := (0 : Int32)) hx hb dX0_copyFrom_62 (by decide) ?_
  refine lv_bipush (v := (6 : Int32)) hx hb dX0_copyFrom_63 (by decide) ?_
  obtain ⟨v4, hv4, h⟩ := zbnd h
  refine zr_copy hx hb (by rw [hml]; exact hl.1.symm) hown (hts (Cond.methodLink RX0 34 arraycopyName) (List.mem_of_getElem? (i := 3) rfl)) (hts (Cond.native arraycopyName) (List.mem_of_getElem? (i := 4) rfl)) (hts (Cond.static arraycopyName) (List.mem_of_getElem? (i := 5) rfl)) (hts (Cond.initialized "java/lang/System") (List.mem_of_getElem? (i := 6) rfl)) hK hP hD hS 13 4 0 0 rfl rfl rfl rfl hv4 (Nat.le_of_ble_eq_true rfl) (Nat.le_of_ble_eq_true rfl) dX0_copyFrom_65 (fun H locs hP hD hS => ?_)
  have hP : va_P D vwCl [(a_this, .inr (0, [.int f_p0_relays, .ref a_branches, .ref a_closing, .ref a_opening, .ref a_pull, .ref a_drop, .ref a_changed, .int f_inputs, .int f_motion, .int f_ticks, .int f_changes])), (a_branches, .inl (cI, 6, .inl v1)), (a_closing, .inl (cI, 24, .inl v2)), (a_opening, .inl (cI, 24, .inl v3)), (a_pull, .inl (cI, 6, .inl v4)), (a_drop, .inl (cI, 6, .inl f_drop)), (a_changed, .inl (cI, 6, .inl f_changed)), (a_p0, .inr (0, [.int f_p0_relays, .ref a_p0_branches, .ref a_p0_closing, .ref a_p0_opening, .ref a_p0_pull, .ref a_p0_drop, .ref a_p0_changed, .int f_p0_inputs, .int f_p0_motion, .int f_p0_ticks, .int f_p0_changes])), (a_p0_branches, .inl (cI, 6, .inl f_p0_branches)), (a_p0_changed, .inl (cI, 6, .inl f_p0_changed)), (a_p0_closing, .inl (cI, 24, .inl f_p0_closing)), (a_p0_drop, .inl (cI, 6, .inl f_p0_drop)), (a_p0_opening, .inl (cI, 24, .inl f_p0_opening)), (a_p0_pull, .inl (cI, 6, .inl f_p0_pull))] H := hP
  have hD : va_D A [(a_this, .inr (0, [.int f_p0_relays, .ref a_branches, .ref a_closing, .ref a_opening, .ref a_pull, .ref a_drop, .ref a_changed, .int f_inputs, .int f_motion, .int f_ticks, .int f_changes])), (a_branches, .inl (cI, 6, .inl v1)), (a_closing, .inl (cI, 24, .inl v2)), (a_opening, .inl (cI, 24, .inl v3)), (a_pull, .inl (cI, 6, .inl v4)), (a_drop, .inl (cI, 6, .inl f_drop)), (a_changed, .inl (cI, 6, .inl f_changed)), (a_p0, .inr (0, [.int f_p0_relays, .ref a_p0_branches, .ref a_p0_closing, .ref a_p0_opening, .ref a_p0_pull, .ref a_p0_drop, .ref a_p0_changed, .int f_p0_inputs, .int f_p0_motion, .int f_p0_ticks, .int f_p0_changes])), (a_p0_branches, .inl (cI, 6, .inl f_p0_branches)), (a_p0_changed, .inl (cI, 6, .inl f_p0_changed)), (a_p0_closing, .inl (cI, 24, .inl f_p0_closing)), (a_p0_drop, .inl (cI, 6, .inl f_p0_drop)), (a_p0_opening, .inl (cI, 24, .inl f_p0_opening)), (a_p0_pull, .inl (cI, 6, .inl f_p0_pull))] := hD
  refine lv_aload_n hx hb dX0_copyFrom_68 rfl (lv_at hl 1 rfl) ?_
  refine va_get (D := D) (ci := 0) (v := .ref a_p0_drop) (C := RX0) (T := TX0) (N := 11) hx hb hts hinX0 hown hK hP 7 rfl rfl 5 (by decide) (hts (Cond.fieldLink RX0 24 "LadderRelays$Ladder" "drop" "[I") (List.mem_of_getElem? (i := 10) rfl)) (fun _ h9 => h9) rfl dX0_copyFrom_69 ?_
  refine lv_iconst (v := (0 : Int32)) hx hb dX0_copyFrom_72 (by decide) ?_
  refine lv_aload_n hx hb dX0_copyFrom_73 rfl (lv_at hl 0 rfl) ?_
  refine va_get (D := D) (ci := 0) (v := .ref a_drop) (C := RX0) (T := TX0) (N := 11) hx hb hts hinX0 hown hK hP 0 rfl rfl 5 (by decide) (hts (Cond.fieldLink RX0 24 "LadderRelays$Ladder" "drop" "[I") (List.mem_of_getElem? (i := 10) rfl)) (fun _ h9 => h9) rfl dX0_copyFrom_74 ?_
  refine lv_iconst (v := (0 : Int32)) hx hb dX0_copyFrom_77 (by decide) ?_
  refine lv_bipush (v := (6 : Int32)) hx hb dX0_copyFrom_78 (by decide) ?_
  obtain ⟨v5, hv5, h⟩ := zbnd h
  refine zr_copy hx hb (by rw [hml]; exact hl.1.symm) hown (hts (Cond.methodLink RX0 34 arraycopyName) (List.mem_of_getElem? (i := 3) rfl)) (hts (Cond.native arraycopyName) (List.mem_of_getElem? (i := 4) rfl)) (hts (Cond.static arraycopyName) (List.mem_of_getElem? (i := 5) rfl)) (hts (Cond.initialized "java/lang/System") (List.mem_of_getElem? (i := 6) rfl)) hK hP hD hS 11 5 0 0 rfl rfl rfl rfl hv5 (Nat.le_of_ble_eq_true rfl) (Nat.le_of_ble_eq_true rfl) dX0_copyFrom_80 (fun H locs hP hD hS => ?_)
  have hP : va_P D vwCl [(a_this, .inr (0, [.int f_p0_relays, .ref a_branches, .ref a_closing, .ref a_opening, .ref a_pull, .ref a_drop, .ref a_changed, .int f_inputs, .int f_motion, .int f_ticks, .int f_changes])), (a_branches, .inl (cI, 6, .inl v1)), (a_closing, .inl (cI, 24, .inl v2)), (a_opening, .inl (cI, 24, .inl v3)), (a_pull, .inl (cI, 6, .inl v4)), (a_drop, .inl (cI, 6, .inl v5)), (a_changed, .inl (cI, 6, .inl f_changed)), (a_p0, .inr (0, [.int f_p0_relays, .ref a_p0_branches, .ref a_p0_closing, .ref a_p0_opening, .ref a_p0_pull, .ref a_p0_drop, .ref a_p0_changed, .int f_p0_inputs, .int f_p0_motion, .int f_p0_ticks, .int f_p0_changes])), (a_p0_branches, .inl (cI, 6, .inl f_p0_branches)), (a_p0_changed, .inl (cI, 6, .inl f_p0_changed)), (a_p0_closing, .inl (cI, 24, .inl f_p0_closing)), (a_p0_drop, .inl (cI, 6, .inl f_p0_drop)), (a_p0_opening, .inl (cI, 24, .inl f_p0_opening)), (a_p0_pull, .inl (cI, 6, .inl f_p0_pull))] H := hP
  have hD : va_D A [(a_this, .inr (0, [.int f_p0_relays, .ref a_branches, .ref a_closing, .ref a_opening, .ref a_pull, .ref a_drop, .ref a_changed, .int f_inputs, .int f_motion, .int f_ticks, .int f_changes])), (a_branches, .inl (cI, 6, .inl v1)), (a_closing, .inl (cI, 24, .inl v2)), (a_opening, .inl (cI, 24, .inl v3)), (a_pull, .inl (cI, 6, .inl v4)), (a_drop, .inl (cI, 6, .inl v5)), (a_changed, .inl (cI, 6, .inl f_changed)), (a_p0, .inr (0, [.int f_p0_relays, .ref a_p0_branches, .ref a_p0_closing, .ref a_p0_opening, .ref a_p0_pull, .ref a_p0_drop, .ref a_p0_changed, .int f_p0_inputs, .int f_p0_motion, .int f_p0_ticks, .int f_p0_changes])), (a_p0_branches, .inl (cI, 6, .inl f_p0_branches)), (a_p0_changed, .inl (cI, 6, .inl f_p0_changed)), (a_p0_closing, .inl (cI, 24, .inl f_p0_closing)), (a_p0_drop, .inl (cI, 6, .inl f_p0_drop)), (a_p0_opening, .inl (cI, 24, .inl f_p0_opening)), (a_p0_pull, .inl (cI, 6, .inl f_p0_pull))] := hD
  refine lv_aload_n hx hb dX0_copyFrom_83 rfl (lv_at hl 1 rfl) ?_
  refine va_get (D := D) (ci := 0) (v := .ref a_p0_changed) (C := RX0) (T := TX0) (N := 11) hx hb hts hinX0 hown hK hP 7 rfl rfl 6 (by decide) (hts (Cond.fieldLink RX0 27 "LadderRelays$Ladder" "changed" "[I") (List.mem_of_getElem? (i := 11) rfl)) (fun _ h9 => h9) rfl dX0_copyFrom_84 ?_
  refine lv_iconst (v := (0 : Int32)) hx hb dX0_copyFrom_87 (by decide) ?_
  refine lv_aload_n hx hb dX0_copyFrom_88 rfl (lv_at hl 0 rfl) ?_
  refine va_get (D := D) (ci := 0) (v := .ref a_changed) (C := RX0) (T := TX0) (N := 11) hx hb hts hinX0 hown hK hP 0 rfl rfl 6 (by decide) (hts (Cond.fieldLink RX0 27 "LadderRelays$Ladder" "changed" "[I") (List.mem_of_getElem? (i := 11) rfl)) (fun _ h9 => h9) rfl dX0_copyFrom_89 ?_
  refine lv_iconst (v := (0 : Int32)) hx hb dX0_copyFrom_92 (by decide) ?_
  refine lv_bipush (v := (6 : Int32)) hx hb dX0_copyFrom_93 (by decide) ?_
  obtain ⟨v6, hv6, h⟩ := zbnd h
  refine zr_copy hx hb (by rw [hml]; exact hl.1.symm) hown (hts (Cond.methodLink RX0 34 arraycopyName) (List.mem_of_getElem? (i := 3) rfl)) (hts (Cond.native arraycopyName) (List.mem_of_getElem? (i := 4) rfl)) (hts (Cond.static arraycopyName) (List.mem_of_getElem? (i := 5) rfl)) (hts (Cond.initialized "java/lang/System") (List.mem_of_getElem? (i := 6) rfl)) hK hP hD hS 9 6 0 0 rfl rfl rfl rfl hv6 (Nat.le_of_ble_eq_true rfl) (Nat.le_of_ble_eq_true rfl) dX0_copyFrom_95 (fun H locs hP hD hS => ?_)
  have hP : va_P D vwCl [(a_this, .inr (0, [.int f_p0_relays, .ref a_branches, .ref a_closing, .ref a_opening, .ref a_pull, .ref a_drop, .ref a_changed, .int f_inputs, .int f_motion, .int f_ticks, .int f_changes])), (a_branches, .inl (cI, 6, .inl v1)), (a_closing, .inl (cI, 24, .inl v2)), (a_opening, .inl (cI, 24, .inl v3)), (a_pull, .inl (cI, 6, .inl v4)), (a_drop, .inl (cI, 6, .inl v5)), (a_changed, .inl (cI, 6, .inl v6)), (a_p0, .inr (0, [.int f_p0_relays, .ref a_p0_branches, .ref a_p0_closing, .ref a_p0_opening, .ref a_p0_pull, .ref a_p0_drop, .ref a_p0_changed, .int f_p0_inputs, .int f_p0_motion, .int f_p0_ticks, .int f_p0_changes])), (a_p0_branches, .inl (cI, 6, .inl f_p0_branches)), (a_p0_changed, .inl (cI, 6, .inl f_p0_changed)), (a_p0_closing, .inl (cI, 24, .inl f_p0_closing)), (a_p0_drop, .inl (cI, 6, .inl f_p0_drop)), (a_p0_opening, .inl (cI, 24, .inl f_p0_opening)), (a_p0_pull, .inl (cI, 6, .inl f_p0_pull))] H := hP
  have hD : va_D A [(a_this, .inr (0, [.int f_p0_relays, .ref a_branches, .ref a_closing, .ref a_opening, .ref a_pull, .ref a_drop, .ref a_changed, .int f_inputs, .int f_motion, .int f_ticks, .int f_changes])), (a_branches, .inl (cI, 6, .inl v1)), (a_closing, .inl (cI, 24, .inl v2)), (a_opening, .inl (cI, 24, .inl v3)), (a_pull, .inl (cI, 6, .inl v4)), (a_drop, .inl (cI, 6, .inl v5)), (a_changed, .inl (cI, 6, .inl v6)), (a_p0, .inr (0, [.int f_p0_relays, .ref a_p0_branches, .ref a_p0_closing, .ref a_p0_opening, .ref a_p0_pull, .ref a_p0_drop, .ref a_p0_changed, .int f_p0_inputs, .int f_p0_motion, .int f_p0_ticks, .int f_p0_changes])), (a_p0_branches, .inl (cI, 6, .inl f_p0_branches)), (a_p0_changed, .inl (cI, 6, .inl f_p0_changed)), (a_p0_closing, .inl (cI, 24, .inl f_p0_closing)), (a_p0_drop, .inl (cI, 6, .inl f_p0_drop)), (a_p0_opening, .inl (cI, 24, .inl f_p0_opening)), (a_p0_pull, .inl (cI, 6, .inl f_p0_pull))] := hD
  refine lv_aload_n hx hb dX0_copyFrom_98 rfl (lv_at hl 0 rfl) ?_
  refine lv_aload_n hx hb dX0_copyFrom_99 rfl (lv_at hl 1 rfl) ?_
  refine va_get (D := D) (ci := 0) (v := .int f_p0_inputs) (C := RX0) (T := TX0) (N := 11) hx hb hts hinX0 hown hK hP 7 rfl rfl 7 (by decide) (hts (Cond.fieldLink RX0 40 "LadderRelays$Ladder" "inputs" "I") (List.mem_of_getElem? (i := 12) rfl)) (fun _ h9 => h9) rfl dX0_copyFrom_100 ?_
  refine va_put (D := D) (ci := 0) (v := .int f_p0_inputs) (ty := .int) (C := RX0) (T := TX0) (N := 11) hx hb hts hinX0 tyX0 tyX0_ok nmX0 hown hK hP hD hS 0 rfl rfl 7 (by decide) (hts (Cond.fieldLink RX0 40 "LadderRelays$Ladder" "inputs" "I") (List.mem_of_getElem? (i := 12) rfl)) (fun _ h9 => h9) rfl (by decide +kernel) rfl rfl (Nat.le_of_ble_eq_true rfl) dX0_copyFrom_103 (fun H locs hP hD hS => ?_)
  have hP : va_P D vwCl [(a_this, .inr (0, [.int f_p0_relays, .ref a_branches, .ref a_closing, .ref a_opening, .ref a_pull, .ref a_drop, .ref a_changed, .int f_p0_inputs, .int f_motion, .int f_ticks, .int f_changes])), (a_branches, .inl (cI, 6, .inl v1)), (a_closing, .inl (cI, 24, .inl v2)), (a_opening, .inl (cI, 24, .inl v3)), (a_pull, .inl (cI, 6, .inl v4)), (a_drop, .inl (cI, 6, .inl v5)), (a_changed, .inl (cI, 6, .inl v6)), (a_p0, .inr (0, [.int f_p0_relays, .ref a_p0_branches, .ref a_p0_closing, .ref a_p0_opening, .ref a_p0_pull, .ref a_p0_drop, .ref a_p0_changed, .int f_p0_inputs, .int f_p0_motion, .int f_p0_ticks, .int f_p0_changes])), (a_p0_branches, .inl (cI, 6, .inl f_p0_branches)), (a_p0_changed, .inl (cI, 6, .inl f_p0_changed)), (a_p0_closing, .inl (cI, 24, .inl f_p0_closing)), (a_p0_drop, .inl (cI, 6, .inl f_p0_drop)), (a_p0_opening, .inl (cI, 24, .inl f_p0_opening)), (a_p0_pull, .inl (cI, 6, .inl f_p0_pull))] H := hP
  have hD : va_D A [(a_this, .inr (0, [.int f_p0_relays, .ref a_branches, .ref a_closing, .ref a_opening, .ref a_pull, .ref a_drop, .ref a_changed, .int f_p0_inputs, .int f_motion, .int f_ticks, .int f_changes])), (a_branches, .inl (cI, 6, .inl v1)), (a_closing, .inl (cI, 24, .inl v2)), (a_opening, .inl (cI, 24, .inl v3)), (a_pull, .inl (cI, 6, .inl v4)), (a_drop, .inl (cI, 6, .inl v5)), (a_changed, .inl (cI, 6, .inl v6)), (a_p0, .inr (0, [.int f_p0_relays, .ref a_p0_branches, .ref a_p0_closing, .ref a_p0_opening, .ref a_p0_pull, .ref a_p0_drop, .ref a_p0_changed, .int f_p0_inputs, .int f_p0_motion, .int f_p0_ticks, .int f_p0_changes])), (a_p0_branches, .inl (cI, 6, .inl f_p0_branches)), (a_p0_changed, .inl (cI, 6, .inl f_p0_changed)), (a_p0_closing, .inl (cI, 24, .inl f_p0_closing)), (a_p0_drop, .inl (cI, 6, .inl f_p0_drop)), (a_p0_opening, .inl (cI, 24, .inl f_p0_opening)), (a_p0_pull, .inl (cI, 6, .inl f_p0_pull))] := hD
  refine lv_aload_n hx hb dX0_copyFrom_106 rfl (lv_at hl 0 rfl) ?_
  refine lv_aload_n hx hb dX0_copyFrom_107 rfl (lv_at hl 1 rfl) ?_
  refine va_get (D := D) (ci := 0) (v := .int f_p0_motion) (C := RX0) (T := TX0) (N := 11) hx hb hts hinX0 hown hK hP 7 rfl rfl 8 (by decide) (hts (Cond.fieldLink RX0 43 "LadderRelays$Ladder" "motion" "I") (List.mem_of_getElem? (i := 13) rfl)) (fun _ h9 => h9) rfl dX0_copyFrom_108 ?_
  refine va_put (D := D) (ci := 0) (v := .int f_p0_motion) (ty := .int) (C := RX0) (T := TX0) (N := 11) hx hb hts hinX0 tyX0 tyX0_ok nmX0 hown hK hP hD hS 0 rfl rfl 8 (by decide) (hts (Cond.fieldLink RX0 43 "LadderRelays$Ladder" "motion" "I") (List.mem_of_getElem? (i := 13) rfl)) (fun _ h9 => h9) rfl (by decide +kernel) rfl rfl (Nat.le_of_ble_eq_true rfl) dX0_copyFrom_111 (fun H locs hP hD hS => ?_)
  have hP : va_P D vwCl [(a_this, .inr (0, [.int f_p0_relays, .ref a_branches, .ref a_closing, .ref a_opening, .ref a_pull, .ref a_drop, .ref a_changed, .int f_p0_inputs, .int f_p0_motion, .int f_ticks, .int f_changes])), (a_branches, .inl (cI, 6, .inl v1)), (a_closing, .inl (cI, 24, .inl v2)), (a_opening, .inl (cI, 24, .inl v3)), (a_pull, .inl (cI, 6, .inl v4)), (a_drop, .inl (cI, 6, .inl v5)), (a_changed, .inl (cI, 6, .inl v6)), (a_p0, .inr (0, [.int f_p0_relays, .ref a_p0_branches, .ref a_p0_closing, .ref a_p0_opening, .ref a_p0_pull, .ref a_p0_drop, .ref a_p0_changed, .int f_p0_inputs, .int f_p0_motion, .int f_p0_ticks, .int f_p0_changes])), (a_p0_branches, .inl (cI, 6, .inl f_p0_branches)), (a_p0_changed, .inl (cI, 6, .inl f_p0_changed)), (a_p0_closing, .inl (cI, 24, .inl f_p0_closing)), (a_p0_drop, .inl (cI, 6, .inl f_p0_drop)), (a_p0_opening, .inl (cI, 24, .inl f_p0_opening)), (a_p0_pull, .inl (cI, 6, .inl f_p0_pull))] H := hP
  have hD : va_D A [(a_this, .inr (0, [.int f_p0_relays, .ref a_branches, .ref a_closing, .ref a_opening, .ref a_pull, .ref a_drop, .ref a_changed, .int f_p0_inputs, .int f_p0_motion, .int f_ticks, .int f_changes])), (a_branches, .inl (cI, 6, .inl v1)), (a_closing, .inl (cI, 24, .inl v2)), (a_opening, .inl (cI, 24, .inl v3)), (a_pull, .inl (cI, 6, .inl v4)), (a_drop, .inl (cI, 6, .inl v5)), (a_changed, .inl (cI, 6, .inl v6)), (a_p0, .inr (0, [.int f_p0_relays, .ref a_p0_branches, .ref a_p0_closing, .ref a_p0_opening, .ref a_p0_pull, .ref a_p0_drop, .ref a_p0_changed, .int f_p0_inputs, .int f_p0_motion, .int f_p0_ticks, .int f_p0_changes])), (a_p0_branches, .inl (cI, 6, .inl f_p0_branches)), (a_p0_changed, .inl (cI, 6, .inl f_p0_changed)), (a_p0_closing, .inl (cI, 24, .inl f_p0_closing)), (a_p0_drop, .inl (cI, 6, .inl f_p0_drop)), (a_p0_opening, .inl (cI, 24, .inl f_p0_opening)), (a_p0_pull, .inl (cI, 6, .inl f_p0_pull))] := hD
  refine lv_aload_n hx hb dX0_copyFrom_114 rfl (lv_at hl 0 rfl) ?_
  refine lv_aload_n hx hb dX0_copyFrom_115 rfl (lv_at hl 1 rfl) ?_
  refine va_get (D := D) (ci := 0) (v := .int f_p0_ticks) (C := RX0) (T := TX0) (N := 11) hx hb hts hinX0 hown hK hP 7 rfl rfl 9 (by decide) (hts (Cond.fieldLink RX0 46 "LadderRelays$Ladder" "ticks" "I") (List.mem_of_getElem? (i := 14) rfl)) (fun _ h9 => h9) rfl dX0_copyFrom_116 ?_
  refine va_put (D := D) (ci := 0) (v := .int f_p0_ticks) (ty := .int) (C := RX0) (T := TX0) (N := 11) hx hb hts hinX0 tyX0 tyX0_ok nmX0 hown hK hP hD hS 0 rfl rfl 9 (by decide) (hts (Cond.fieldLink RX0 46 "LadderRelays$Ladder" "ticks" "I") (List.mem_of_getElem? (i := 14) rfl)) (fun _ h9 => h9) rfl (by decide +kernel) rfl rfl (Nat.le_of_ble_eq_true rfl) dX0_copyFrom_119 (fun H locs hP hD hS => ?_)
  have hP : va_P D vwCl [(a_this, .inr (0, [.int f_p0_relays, .ref a_branches, .ref a_closing, .ref a_opening, .ref a_pull, .ref a_drop, .ref a_changed, .int f_p0_inputs, .int f_p0_motion, .int f_p0_ticks, .int f_changes])), (a_branches, .inl (cI, 6, .inl v1)), (a_closing, .inl (cI, 24, .inl v2)), (a_opening, .inl (cI, 24, .inl v3)), (a_pull, .inl (cI, 6, .inl v4)), (a_drop, .inl (cI, 6, .inl v5)), (a_changed, .inl (cI, 6, .inl v6)), (a_p0, .inr (0, [.int f_p0_relays, .ref a_p0_branches, .ref a_p0_closing, .ref a_p0_opening, .ref a_p0_pull, .ref a_p0_drop, .ref a_p0_changed, .int f_p0_inputs, .int f_p0_motion, .int f_p0_ticks, .int f_p0_changes])), (a_p0_branches, .inl (cI, 6, .inl f_p0_branches)), (a_p0_changed, .inl (cI, 6, .inl f_p0_changed)), (a_p0_closing, .inl (cI, 24, .inl f_p0_closing)), (a_p0_drop, .inl (cI, 6, .inl f_p0_drop)), (a_p0_opening, .inl (cI, 24, .inl f_p0_opening)), (a_p0_pull, .inl (cI, 6, .inl f_p0_pull))] H := hP
  have hD : va_D A [(a_this, .inr (0, [.int f_p0_relays, .ref a_branches, .ref a_closing, .ref a_opening, .ref a_pull, .ref a_drop, .ref a_changed, .int f_p0_inputs, .int f_p0_motion, .int f_p0_ticks, .int f_changes])), (a_branches, .inl (cI, 6, .inl v1)), (a_closing, .inl (cI, 24, .inl v2)), (a_opening, .inl (cI, 24, .inl v3)), (a_pull, .inl (cI, 6, .inl v4)), (a_drop, .inl (cI, 6, .inl v5)), (a_changed, .inl (cI, 6, .inl v6)), (a_p0, .inr (0, [.int f_p0_relays, .ref a_p0_branches, .ref a_p0_closing, .ref a_p0_opening, .ref a_p0_pull, .ref a_p0_drop, .ref a_p0_changed, .int f_p0_inputs, .int f_p0_motion, .int f_p0_ticks, .int f_p0_changes])), (a_p0_branches, .inl (cI, 6, .inl f_p0_branches)), (a_p0_changed, .inl (cI, 6, .inl f_p0_changed)), (a_p0_closing, .inl (cI, 24, .inl f_p0_closing)), (a_p0_drop, .inl (cI, 6, .inl f_p0_drop)), (a_p0_opening, .inl (cI, 24, .inl f_p0_opening)), (a_p0_pull, .inl (cI, 6, .inl f_p0_pull))] := hD
  refine lv_aload_n hx hb dX0_copyFrom_122 rfl (lv_at hl 0 rfl) ?_
  refine lv_aload_n hx hb dX0_copyFrom_123 rfl (lv_at hl 1 rfl) ?_
  refine va_get (D := D) (ci := 0) (v := .int f_p0_changes) (C := RX0) (T := TX0) (N := 11) hx hb hts hinX0 hown hK hP 7 rfl rfl 10 (by decide) (hts (Cond.fieldLink RX0 49 "LadderRelays$Ladder" "changes" "I") (List.mem_of_getElem? (i := 15) rfl)) (fun _ h9 => h9) rfl dX0_copyFrom_124 ?_
  refine va_put (D := D) (ci := 0) (v := .int f_p0_changes) (ty := .int) (C := RX0) (T := TX0) (N := 11) hx hb hts hinX0 tyX0 tyX0_ok nmX0 hown hK hP hD hS 0 rfl rfl 10 (by decide) (hts (Cond.fieldLink RX0 49 "LadderRelays$Ladder" "changes" "I") (List.mem_of_getElem? (i := 15) rfl)) (fun _ h9 => h9) rfl (by decide +kernel) rfl rfl (Nat.le_of_ble_eq_true rfl) dX0_copyFrom_127 (fun H locs hP hD hS => ?_)
  have hP : va_P D vwCl [(a_this, .inr (0, [.int f_p0_relays, .ref a_branches, .ref a_closing, .ref a_opening, .ref a_pull, .ref a_drop, .ref a_changed, .int f_p0_inputs, .int f_p0_motion, .int f_p0_ticks, .int f_p0_changes])), (a_branches, .inl (cI, 6, .inl v1)), (a_closing, .inl (cI, 24, .inl v2)), (a_opening, .inl (cI, 24, .inl v3)), (a_pull, .inl (cI, 6, .inl v4)), (a_drop, .inl (cI, 6, .inl v5)), (a_changed, .inl (cI, 6, .inl v6)), (a_p0, .inr (0, [.int f_p0_relays, .ref a_p0_branches, .ref a_p0_closing, .ref a_p0_opening, .ref a_p0_pull, .ref a_p0_drop, .ref a_p0_changed, .int f_p0_inputs, .int f_p0_motion, .int f_p0_ticks, .int f_p0_changes])), (a_p0_branches, .inl (cI, 6, .inl f_p0_branches)), (a_p0_changed, .inl (cI, 6, .inl f_p0_changed)), (a_p0_closing, .inl (cI, 24, .inl f_p0_closing)), (a_p0_drop, .inl (cI, 6, .inl f_p0_drop)), (a_p0_opening, .inl (cI, 24, .inl f_p0_opening)), (a_p0_pull, .inl (cI, 6, .inl f_p0_pull))] H := hP
  have hD : va_D A [(a_this, .inr (0, [.int f_p0_relays, .ref a_branches, .ref a_closing, .ref a_opening, .ref a_pull, .ref a_drop, .ref a_changed, .int f_p0_inputs, .int f_p0_motion, .int f_p0_ticks, .int f_p0_changes])), (a_branches, .inl (cI, 6, .inl v1)), (a_closing, .inl (cI, 24, .inl v2)), (a_opening, .inl (cI, 24, .inl v3)), (a_pull, .inl (cI, 6, .inl v4)), (a_drop, .inl (cI, 6, .inl v5)), (a_changed, .inl (cI, 6, .inl v6)), (a_p0, .inr (0, [.int f_p0_relays, .ref a_p0_branches, .ref a_p0_closing, .ref a_p0_opening, .ref a_p0_pull, .ref a_p0_drop, .ref a_p0_changed, .int f_p0_inputs, .int f_p0_motion, .int f_p0_ticks, .int f_p0_changes])), (a_p0_branches, .inl (cI, 6, .inl f_p0_branches)), (a_p0_changed, .inl (cI, 6, .inl f_p0_changed)), (a_p0_closing, .inl (cI, 24, .inl f_p0_closing)), (a_p0_drop, .inl (cI, 6, .inl f_p0_drop)), (a_p0_opening, .inl (cI, 24, .inl f_p0_opening)), (a_p0_pull, .inl (cI, 6, .inl f_p0_pull))] := hD
  have hR := Option.some.inj h
  subst hR
  exact W.vret hx hb hr (fun t ht hW => ⟨⟨(), rfl, trivial, zhp ht hP⟩, hS.F ht⟩) hS.2.2 dX0_copyFrom_130
