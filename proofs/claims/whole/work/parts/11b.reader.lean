def F_X1_begin (fu : Nat) (f_next : Int32) : Option (Int32) := some (0 : Int32)
set_option maxHeartbeats 4000000 in
set_option maxRecDepth 100000 in
theorem c_X1_begin (l : Launch) (D : va_G) (cI cC cO cJ : ClassId) (fu : Nat) (a_this a_closing a_opening : Nat) (sz : Nat) (f_next : Int32) (f_kind : Int32) (f_owner : Int32) (f_time : Int32) (f_branches : Int32) (f_current : Int32) (R : Int32) (h : F_X1_begin fu f_next = some R) : Met l yX1_begin wsX1_begin ({ frames := 0, cells := 0, slots := 0, locals := 0 } : Room) (zPw D (ztys cI cC cO cJ) [(a_this, .inr (1, [.int f_next, .int f_kind, .int f_owner, .int f_time, .int f_branches, .int f_current, .ref a_closing, .ref a_opening]))] sz [.ref a_this]) (zWv D [(a_this, .inr (1, [.int R, .int f_kind, .int f_owner, .int f_time, .int f_branches, .int f_current, .ref a_closing, .ref a_opening]))] (va_A [(a_this, .inr (1, [.int f_next, .int f_kind, .int f_owner, .int f_time, .int f_branches, .int f_current, .ref a_closing, .ref a_opening]))] sz)) 0 0 (va_A [(a_this, .inr (1, [.int f_next, .int f_kind, .int f_owner, .int f_time, .int f_branches, .int f_current, .ref a_closing, .ref a_opening]))] sz) := by
  refine Met.ofW (cc := cX1_begin) (maxL := 1) (ret := none) (by decide) rfl ?_
  intro p e s m args below meth c s₁ B hml hv
  obtain ⟨rfl, hsz, hP, hK, hD0⟩ := hv
  have hx := B.exec
  have hb := B.bytes
  have hr := B.returns
  have hts := atoms_spec (ws := wsX1_begin) B.pre
  have hown : s.vm.findClass RX1 = some m.cls := findClass_of_methodNamed B.named
  have hlocks := B.notSynchronized
  have hinX1 : ∀ w ∈ wsX10, w ∈ wsX1_begin := fun _ h => (List.mem_cons_of_mem _ (List.mem_append_right _ h))
  subst hsz
  have hD := hD0.self (sz := s.heap.size)
  generalize hAe : va_A [(a_this, .inr (1, [.int f_next, .int f_kind, .int f_owner, .int f_time, .int f_branches, .int f_current, .ref a_closing, .ref a_opening]))] s.heap.size = A at hD ⊢
  have hA : ∀ q : Nat, s.heap.size ≤ q → A q := fun q h => by rw [← hAe]; exact Or.inr h
  have hS : va_S A s.heap s.heap [] := va_S.rf
  have hP : va_P D vwCl [(a_this, .inr (1, [.int f_next, .int f_kind, .int f_owner, .int f_time, .int f_branches, .int f_current, .ref a_closing, .ref a_opening]))] s.heap := hP
  have hK : va_K D vwCl (ztys cI cC cO cJ) s := hK
  have hl := lv_entry ([.ref a_this]) (n := 1) (Nat.le_of_ble_eq_true rfl)
  rw [lg_entry_eq]
  generalize (lg_sl ([.ref a_this]) ++ List.replicate (1 - (lg_sl ([.ref a_this])).length) Slot.unset).toArray = ls at hl ⊢
  have hl : lv_has ls 1 [(0, .ref a_this)] := hl
  unfold F_X1_begin at h
  refine lv_aload_n hx hb dX1_begin_0 rfl (lv_at hl 0 rfl) ?_
  refine lv_iconst (v := (0 : Int32)) hx hb dX1_begin_1 (by decide) ?_
  refine va_put (D := D) (ci := 1) (v := .int (0 : Int32)) (ty := .int) (C := RX1) (T := TX1) (N := 8) hx hb hts hinX1 tyX1 tyX1_ok nmX1 hown hK hP hD hS 0 rfl rfl 0 (by decide) (hts (Cond.fieldLink RX1 18 "LadderRelays$Reader" "next" "I") (List.mem_of_getElem? (i := 1) rfl)) (fun _ h9 => h9) rfl (by decide +kernel) rfl rfl (Nat.le_of_ble_eq_true rfl) dX1_begin_2 (fun H locs hP hD hS => ?_)
  have hP : va_P D vwCl [(a_this, .inr (1, [.int (0 : Int32), .int f_kind, .int f_owner, .int f_time, .int f_branches, .int f_current, .ref a_closing, .ref a_opening]))] H := hP
  have hD : va_D A [(a_this, .inr (1, [.int (0 : Int32), .int f_kind, .int f_owner, .int f_time, .int f_branches, .int f_current, .ref a_closing, .ref a_opening]))] := hD
  have hR := Option.some.inj h
  subst hR
  exact W.vret hx hb hr (fun t ht hW => ⟨⟨(), rfl, trivial, zhp ht hP⟩, hS.F ht⟩) hS.2.2 dX1_begin_5
def F_X1_mayEnd (fu : Nat) (f_next : Int32) : Option (Int32) := if f_next = (4 : Int32) then some (1 : Int32) else if f_next = (8 : Int32) then some (1 : Int32) else some (0 : Int32)
set_option maxHeartbeats 4000000 in
set_option maxRecDepth 100000 in
theorem c_X1_mayEnd (l : Launch) (D : va_G) (cI cC cO cJ : ClassId) (fu : Nat) (a_this a_closing a_opening : Nat) (f_next : Int32) (f_kind : Int32) (f_owner : Int32) (f_time : Int32) (f_branches : Int32) (f_current : Int32) (R : Int32) (h : F_X1_mayEnd fu f_next = some R) : Met l yX1_mayEnd wsX1_mayEnd ({ frames := 0, cells := 0, slots := 0, locals := 0 } : Room) (zPr D (ztys cI cC cO cJ) [(a_this, .inr (1, [.int f_next, .int f_kind, .int f_owner, .int f_time, .int f_branches, .int f_current, .ref a_closing, .ref a_opening]))] [.ref a_this]) (zQi R) 0 0 (fun _ => False) := by
  refine Met.ofW (cc := cX1_mayEnd) (maxL := 1) (ret := (some .boolean)) (by decide) rfl ?_
  intro p e s m args below meth c s₁ B hml hv
  obtain ⟨rfl, hP, hK⟩ := hv
  have hx := B.exec
  have hb := B.bytes
  have hr := B.returns
  have hts := atoms_spec (ws := wsX1_mayEnd) B.pre
  have hown : s.vm.findClass RX1 = some m.cls := findClass_of_methodNamed B.named
  have hlocks := B.notSynchronized
  have hinX1 : ∀ w ∈ wsX10, w ∈ wsX1_mayEnd := fun _ h => (List.mem_cons_of_mem _ (List.mem_append_right _ h))
  have hP : va_P D vwCl [(a_this, .inr (1, [.int f_next, .int f_kind, .int f_owner, .int f_time, .int f_branches, .int f_current, .ref a_closing, .ref a_opening]))] s.heap := hP
  have hK : va_K D vwCl (ztys cI cC cO cJ) s := hK
  have hl := lv_entry ([.ref a_this]) (n := 1) (Nat.le_of_ble_eq_true rfl)
  rw [lg_entry_eq]
  generalize (lg_sl ([.ref a_this]) ++ List.replicate (1 - (lg_sl ([.ref a_this])).length) Slot.unset).toArray = ls at hl ⊢
  have hl : lv_has ls 1 [(0, .ref a_this)] := hl
  unfold F_X1_mayEnd at h
  refine lv_aload_n hx hb dX1_mayEnd_0 rfl (lv_at hl 0 rfl) ?_
  refine va_get (D := D) (ci := 1) (v := .int f_next) (C := RX1) (T := TX1) (N := 8) hx hb hts hinX1 hown hK hP 0 rfl rfl 0 (by decide) (hts (Cond.fieldLink RX1 18 "LadderRelays$Reader" "next" "I") (List.mem_of_getElem? (i := 1) rfl)) (fun _ h9 => h9) rfl dX1_mayEnd_1 ?_
  refine lv_iconst (v := (4 : Int32)) hx hb dX1_mayEnd_4 (by decide) ?_
  refine lv_icmp_eq (tgt := 17) hx hb dX1_mayEnd_5 (by decide) (fun c1 => ?_) (fun c1 => ?_)
  · have h := zif_t c1 h
    refine lv_iconst (v := (1 : Int32)) hx hb dX1_mayEnd_17 (by decide) ?_
    refine lv_goto (tgt := 22) hx hb dX1_mayEnd_18 (by decide) ?_
    have hR := Option.some.inj h
    subst hR
    exact W.zret (v := (1 : Int32)) (ty := .boolean) hx hb hr rfl (fun t ht hW => ⟨_, rfl, rfl, ht⟩) (fun q hq => absurd hq List.not_mem_nil) dX1_mayEnd_22
  · have h := zif_f c1 h
    refine lv_aload_n hx hb dX1_mayEnd_8 rfl (lv_at hl 0 rfl) ?_
    refine va_get (D := D) (ci := 1) (v := .int f_next) (C := RX1) (T := TX1) (N := 8) hx hb hts hinX1 hown hK hP 0 rfl rfl 0 (by decide) (hts (Cond.fieldLink RX1 18 "LadderRelays$Reader" "next" "I") (List.mem_of_getElem? (i := 1) rfl)) (fun _ h9 => h9) rfl dX1_mayEnd_9 ?_
    refine lv_bipush (v := (8 : Int32)) hx hb dX1_mayEnd_12 (by decide) ?_
    refine lv_icmp_ne (tgt := 21) hx hb dX1_mayEnd_14 (by decide) (fun c2 => ?_) (fun c2 => ?_)
    · have h := zif_f c2 h
      refine lv_iconst (v := (0 : Int32)) hx hb dX1_mayEnd_21 (by decide) ?_
      have hR := Option.some.inj h
      subst hR
      exact W.zret (v := (0 : Int32)) (ty := .boolean) hx hb hr rfl (fun t ht hW => ⟨_, rfl, rfl, ht⟩) (fun q hq => absurd hq List.not_mem_nil) dX1_mayEnd_22
    · have h := zif_t c2 h
      refine lv_iconst (v := (1 : Int32)) hx hb dX1_mayEnd_17 (by decide) ?_
      refine lv_goto (tgt := 22) hx hb dX1_mayEnd_18 (by decide) ?_
      have hR := Option.some.inj h
      subst hR
      exact W.zret (v := (1 : Int32)) (ty := .boolean) hx hb hr rfl (fun t ht hW => ⟨_, rfl, rfl, ht⟩) (fun q hq => absurd hq List.not_mem_nil) dX1_mayEnd_22
def F_X1_takeMark (fu : Nat) (f_next : Int32) (p0 : Int32) (p1 : Int32) (p2 : Int32) : Option (Int32 × Int32) := if p0 = p1 then some ((1 : Int32), p2) else some ((0 : Int32), f_next)
set_option maxHeartbeats 4000000 in
set_option maxRecDepth 100000 in
theorem c_X1_takeMark (l : Launch) (D : va_G) (cI cC cO cJ : ClassId) (fu : Nat) (a_this a_closing a_opening : Nat) (sz : Nat) (f_next : Int32) (f_kind : Int32) (f_owner : Int32) (f_time : Int32) (f_branches : Int32) (f_current : Int32) (p0 : Int32) (p1 : Int32) (p2 : Int32) (R : Int32 × Int32) (h : F_X1_takeMark fu f_next p0 p1 p2 = some R) : Met l yX1_takeMark wsX1_takeMark ({ frames := 0, cells := 0, slots := 0, locals := 0 } : Room) (zPw D (ztys cI cC cO cJ) [(a_this, .inr (1, [.int f_next, .int f_kind, .int f_owner, .int f_time, .int f_branches, .int f_current, .ref a_closing, .ref a_opening]))] sz [.ref a_this, .int p0, .int p1, .int p2]) (zWi D R.1 [(a_this, .inr (1, [.int R.2, .int f_kind, .int f_owner, .int f_time, .int f_branches, .int f_current, .ref a_closing, .ref a_opening]))] (va_A [(a_this, .inr (1, [.int f_next, .int f_kind, .int f_owner, .int f_time, .int f_branches, .int f_current, .ref a_closing, .ref a_opening]))] sz)) 0 0 (va_A [(a_this, .inr (1, [.int f_next, .int f_kind, .int f_owner, .int f_time, .int f_branches, .int f_current, .ref a_closing, .ref a_opening]))] sz) := by
  refine Met.ofW (cc := cX1_takeMark) (maxL := 4) (ret := (some .boolean)) (by decide) rfl ?_
  intro p e s m args below meth c s₁ B hml hv
  obtain ⟨rfl, hsz, hP, hK, hD0⟩ := hv
  have hx := B.exec
  have hb := B.bytes
  have hr := B.returns
  have hts := atoms_spec (ws := wsX1_takeMark) B.pre
  have hown : s.vm.findClass RX1 = some m.cls := findClass_of_methodNamed B.named
  have hlocks := B.notSynchronized
  have hinX1 : ∀ w ∈ wsX10, w ∈ wsX1_takeMark := fun _ h => (List.mem_cons_of_mem _ (List.mem_append_right _ h))
  subst hsz
  have hD := hD0.self (sz := s.heap.size)
  generalize hAe : va_A [(a_this, .inr (1, [.int f_next, .int f_kind, .int f_owner, .int f_time, .int f_branches, .int f_current, .ref a_closing, .ref a_opening]))] s.heap.size = A at hD ⊢
  have hA : ∀ q : Nat, s.heap.size ≤ q → A q := fun q h => by rw [← hAe]; exact Or.inr h
  have hS : va_S A s.heap s.heap [] := va_S.rf
  have hP : va_P D vwCl [(a_this, .inr (1, [.int f_next, .int f_kind, .int f_owner, .int f_time, .int f_branches, .int f_current, .ref a_closing, .ref a_opening]))] s.heap := hP
  have hK : va_K D vwCl (ztys cI cC cO cJ) s := hK
  have hl := lv_entry ([.ref a_this, .int p0, .int p1, .int p2]) (n := 4) (Nat.le_of_ble_eq_true rfl)
  rw [lg_entry_eq]
  generalize (lg_sl ([.ref a_this, .int p0, .int p1, .int p2]) ++ List.replicate (4 - (lg_sl ([.ref a_this, .int p0, .int p1, .int p2])).length) Slot.unset).toArray = ls at hl ⊢
  have hl : lv_has ls 4 [(0, .ref a_this), (1, .int p0), (2, .int p1), (3, .int p2)] := hl
  unfold F_X1_takeMark at h
  refine lv_iload_n hx hb dX1_takeMark_0 rfl (lv_at hl 1 rfl) ?_
  refine lv_iload_n hx hb dX1_takeMark_1 rfl (lv_at hl 2 rfl) ?_
  refine lv_icmp_eq (tgt := 7) hx hb dX1_takeMark_2 (by decide) (fun c1 => ?_) (fun c1 => ?_)
  · have h := zif_t c1 h
    refine lv_aload_n hx hb dX1_takeMark_7 rfl (lv_at hl 0 rfl) ?_
    refine lv_iload_n hx hb dX1_takeMark_8 rfl (lv_at hl 3 rfl) ?_
    refine va_put (D := D) (ci := 1) (v := .int p2) (ty := .int) (C := RX1) (T := TX1) (N := 8) hx hb hts hinX1 tyX1 tyX1_ok nmX1 hown hK hP hD hS 0 rfl rfl 0 (by decide) (hts (Cond.fieldLink RX1 18 "LadderRelays$Reader" "next" "I") (List.mem_of_getElem? (i := 1) rfl)) (fun _ h9 => h9) rfl (by decide +kernel) rfl rfl (Nat.le_of_ble_eq_true rfl) dX1_takeMark_9 (fun H locs hP hD hS => ?_)
    have hP : va_P D vwCl [(a_this, .inr (1, [.int p2, .int f_kind, .int f_owner, .int f_time, .int f_branches, .int f_current, .ref a_closing, .ref a_opening]))] H := hP
    have hD : va_D A [(a_this, .inr (1, [.int p2, .int f_kind, .int f_owner, .int f_time, .int f_branches, .int f_current, .ref a_closing, .ref a_opening]))] := hD
    refine lv_iconst (v := (1 : Int32)) hx hb dX1_takeMark_12 (by decide) ?_
    have hR := Option.some.inj h
    subst hR
    exact W.zret (v := (1 : Int32)) (ty := .boolean) hx hb hr rfl (fun t ht hW => ⟨⟨_, (), rfl, rfl, zhp ht hP⟩, hS.F ht⟩) hS.2.2 dX1_takeMark_13
  · have h := zif_f c1 h
    refine lv_iconst (v := (0 : Int32)) hx hb dX1_takeMark_5 (by decide) ?_
    have hR := Option.some.inj h
    subst hR
    exact W.zret (v := (0 : Int32)) (ty := .boolean) hx hb hr rfl (fun t ht hW => ⟨⟨_, (), rfl, rfl, zhp ht hP⟩, hS.F ht⟩) hS.2.2 dX1_takeMark_6
def F_X1_takeOwner (fu : Nat) (f_next : Int32) (f_owner : Int32) (p0 : Int32) (p1 : Int32) : Option (Int32 × Int32 × Int32) := if p0 < (48 : Int32) then some ((0 : Int32), f_next, f_owner) else if p0 < (54 : Int32) then some ((1 : Int32), p1, (p0 - (48 : Int32))) else some ((0 : Int32), f_next, f_owner)
set_option maxHeartbeats 4000000 in
set_option maxRecDepth 100000 in
theorem c_X1_takeOwner (l : Launch) (D : va_G) (cI cC cO cJ : ClassId) (fu : Nat) (a_this a_closing a_opening : Nat) (sz : Nat) (f_next : Int32) (f_kind : Int32) (f_owner : Int32) (f_time : Int32) (f_branches : Int32) (f_current : Int32) (p0 : Int32) (p1 : Int32) (R : Int32 × Int32 × Int32) (h : F_X1_takeOwner fu f_next f_owner p0 p1 = some R) : Met l yX1_takeOwner wsX1_takeOwner ({ frames := 0, cells := 0, slots := 0, locals := 0 } : Room) (zPw D (ztys cI cC cO cJ) [(a_this, .inr (1, [.int f_next, .int f_kind, .int f_owner, .int f_time, .int f_branches, .int f_current, .ref a_closing, .ref a_opening]))] sz [.ref a_this, .int p0, .int p1]) (zWi D R.1 [(a_this, .inr (1, [.int R.2.1, .int f_kind, .int R.2.2, .int f_time, .int f_branches, .int f_current, .ref a_closing, .ref a_opening]))] (va_A [(a_this, .inr (1, [.int f_next, .int f_kind, .int f_owner, .int f_time, .int f_branches, .int f_current, .ref a_closing, .ref a_opening]))] sz)) 0 0 (va_A [(a_this, .inr (1, [.int f_next, .int f_kind, .int f_owner, .int f_time, .int f_branches, .int f_current, .ref a_closing, .ref a_opening]))] sz) := by
  refine Met.ofW (cc := cX1_takeOwner) (maxL := 3) (ret := (some .boolean)) (by decide) rfl ?_
  intro p e s m args below meth c s₁ B hml hv
  obtain ⟨rfl, hsz, hP, hK, hD0⟩ := hv
  have hx := B.exec
  have hb := B.bytes
  have hr := B.returns
  have hts := atoms_spec (ws := wsX1_takeOwner) B.pre
  have hown : s.vm.findClass RX1 = some m.cls := findClass_of_methodNamed B.named
  have hlocks := B.notSynchronized
  have hinX1 : ∀ w ∈ wsX10, w ∈ wsX1_takeOwner := fun _ h => (List.mem_cons_of_mem _ (List.mem_append_right _ h))
  subst hsz
  have hD := hD0.self (sz := s.heap.size)
  generalize hAe : va_A [(a_this, .inr (1, [.int f_next, .int f_kind, .int f_owner, .int f_time, .int f_branches, .int f_current, .ref a_closing, .ref a_opening]))] s.heap.size = A at hD ⊢
  have hA : ∀ q : Nat, s.heap.size ≤ q → A q := fun q h => by rw [← hAe]; exact Or.inr h
  have hS : va_S A s.heap s.heap [] := va_S.rf
  have hP : va_P D vwCl [(a_this, .inr (1, [.int f_next, .int f_kind, .int f_owner, .int f_time, .int f_branches, .int f_current, .ref a_closing, .ref a_opening]))] s.heap := hP
  have hK : va_K D vwCl (ztys cI cC cO cJ) s := hK
  have hl := lv_entry ([.ref a_this, .int p0, .int p1]) (n := 3) (Nat.le_of_ble_eq_true rfl)
  rw [lg_entry_eq]
  generalize (lg_sl ([.ref a_this, .int p0, .int p1]) ++ List.replicate (3 - (lg_sl ([.ref a_this, .int p0, .int p1])).length) Slot.unset).toArray = ls at hl ⊢
  have hl : lv_has ls 3 [(0, .ref a_this), (1, .int p0), (2, .int p1)] := hl
  unfold F_X1_takeOwner at h
  refine lv_iload_n hx hb dX1_takeOwner_0 rfl (lv_at hl 1 rfl) ?_
  refine lv_bipush (v := (48 : Int32)) hx hb dX1_takeOwner_1 (by decide) ?_
  refine lv_icmp_lt (tgt := 12) hx hb dX1_takeOwner_3 (by decide) (fun c1 => ?_) (fun c1 => ?_)
  · have h := zif_t c1 h
    refine lv_iconst (v := (0 : Int32)) hx hb dX1_takeOwner_12 (by decide) ?_
    have hR := Option.some.inj h
    subst hR
    exact W.zret (v := (0 : Int32)) (ty := .boolean) hx hb hr rfl (fun t ht hW => ⟨⟨_, (), rfl, rfl, zhp ht hP⟩, hS.F ht⟩) hS.2.2 dX1_takeOwner_13
  · have h := zif_f c1 h
    refine lv_iload_n hx hb dX1_takeOwner_6 rfl (lv_at hl 1 rfl) ?_
    refine lv_bipush (v := (54 : Int32)) hx hb dX1_takeOwner_7 (by decide) ?_
    refine lv_icmp_lt (tgt := 14) hx hb dX1_takeOwner_9 (by decide) (fun c2 => ?_) (fun c2 => ?_)
    · have h := zif_t c2 h
      refine lv_aload_n hx hb dX1_takeOwner_14 rfl (lv_at hl 0 rfl) ?_
      refine lv_iload_n hx hb dX1_takeOwner_15 rfl (lv_at hl 1 rfl) ?_
      refine lv_bipush (v := (48 : Int32)) hx hb dX1_takeOwner_16 (by decide) ?_
      refine lv_isub hx hb dX1_takeOwner_18 ?_
      refine va_put (D := D) (ci := 1) (v := .int (p0 - (48 : Int32))) (ty := .int) (C := RX1) (T := TX1) (N := 8) hx hb hts hinX1 tyX1 tyX1_ok nmX1 hown hK hP hD hS 0 rfl rfl 2 (by decide) (hts (Cond.fieldLink RX1 53 "LadderRelays$Reader" "owner" "I") (List.mem_of_getElem? (i := 1) rfl)) (fun _ h9 => h9) rfl (by decide +kernel) rfl rfl (Nat.le_of_ble_eq_true rfl) dX1_takeOwner_19 (fun H locs hP hD hS => ?_)
      have hP : va_P D vwCl [(a_this, .inr (1, [.int f_next, .int f_kind, .int (p0 - (48 : Int32)), .int f_time, .int f_branches, .int f_current, .ref a_closing, .ref a_opening]))] H := hP
      have hD : va_D A [(a_this, .inr (1, [.int f_next, .int f_kind, .int (p0 - (48 : Int32)), .int f_time, .int f_branches, .int f_current, .ref a_closing, .ref a_opening]))] := hD
      refine lv_aload_n hx hb dX1_takeOwner_22 rfl (lv_at hl 0 rfl) ?_
      refine lv_iload_n hx hb dX1_takeOwner_23 rfl (lv_at hl 2 rfl) ?_
      refine va_put (D := D) (ci := 1) (v := .int p1) (ty := .int) (C := RX1) (T := TX1) (N := 8) hx hb hts hinX1 tyX1 tyX1_ok nmX1 hown hK hP hD hS 0 rfl rfl 0 (by decide) (hts (Cond.fieldLink RX1 18 "LadderRelays$Reader" "next" "I") (List.mem_of_getElem? (i := 2) rfl)) (fun _ h9 => h9) rfl (by decide +kernel) rfl rfl (Nat.le_of_ble_eq_true rfl) dX1_takeOwner_24 (fun H locs hP hD hS => ?_)
      have hP : va_P D vwCl [(a_this, .inr (1, [.int p1, .int f_kind, .int (p0 - (48 : Int32)), .int f_time, .int f_branches, .int f_current, .ref a_closing, .ref a_opening]))] H := hP
      have hD : va_D A [(a_this, .inr (1, [.int p1, .int f_kind, .int (p0 - (48 : Int32)), .int f_time, .int f_branches, .int f_current, .ref a_closing, .ref a_opening]))] := hD
      refine lv_iconst (v := (1 : Int32)) hx hb dX1_takeOwner_27 (by decide) ?_
      have hR := Option.some.inj h
      subst hR
      exact W.zret (v := (1 : Int32)) (ty := .boolean) hx hb hr rfl (fun t ht hW => ⟨⟨_, (), rfl, rfl, zhp ht hP⟩, hS.F ht⟩) hS.2.2 dX1_takeOwner_28
    · have h := zif_f c2 h
      refine lv_iconst (v := (0 : Int32)) hx hb dX1_takeOwner_12 (by decide) ?_
      have hR := Option.some.inj h
      subst hR
      exact W.zret (v := (0 : Int32)) (ty := .boolean) hx hb hr rfl (fun t ht hW => ⟨⟨_, (), rfl, rfl, zhp ht hP⟩, hS.F ht⟩) hS.2.2 dX1_takeOwner_13
def F_X1_takeOrder_J24 (f_branches : Int32) (f_owner : Int32) (v1 : Int32) : Option (Int32 × Int32 × Int32 × Int32 × Int32) := some ((1 : Int32), (5 : Int32), v1, f_owner, f_branches)
def F_X1_takeOrder_J12 (f_branches : Int32) (f_owner : Int32) (p0 : Int32)  : Option (Int32 × Int32 × Int32 × Int32 × Int32) := if p0 = (117 : Int32) then F_X1_takeOrder_J24 f_branches f_owner (1 : Int32) else F_X1_takeOrder_J24 f_branches f_owner (2 : Int32)
def F_X1_takeOrder (fu : Nat) (f_next : Int32) (f_kind : Int32) (f_owner : Int32) (f_branches : Int32) (p0 : Int32) : Option (Int32 × Int32 × Int32 × Int32 × Int32) := if p0 = (117 : Int32) then F_X1_takeOrder_J12 f_branches f_owner p0 else if p0 = (118 : Int32) then F_X1_takeOrder_J12 f_branches f_owner p0 else (F_X1_takeOwner fu f_next f_owner p0 (1 : Int32)).bind fun v5 => (zbo v5.1).bind fun v6 => some (v6, v5.2.1, (0 : Int32), v5.2.2, (0 : Int32))
set_option maxHeartbeats 4000000 in
set_option maxRecDepth 100000 in
theorem c_X1_takeOrder (l : Launch) (D : va_G) (cI cC cO cJ : ClassId) (fu : Nat) (a_this a_closing a_opening : Nat) (sz : Nat) (f_next : Int32) (f_kind : Int32) (f_owner : Int32) (f_time : Int32) (f_branches : Int32) (f_current : Int32) (p0 : Int32) (R : Int32 × Int32 × Int32 × Int32 × Int32) (h : F_X1_takeOrder fu f_next f_kind f_owner f_branches p0 = some R) : Met l yX1_takeOrder wsX1_takeOrder ({ frames := 1, cells := 0, slots := 0, locals := 22 } : Room) (zPw D (ztys cI cC cO cJ) [(a_this, .inr (1, [.int f_next, .int f_kind, .int f_owner, .int f_time, .int f_branches, .int f_current, .ref a_closing, .ref a_opening]))] sz [.ref a_this, .int p0]) (zWi D R.1 [(a_this, .inr (1, [.int R.2.1, .int R.2.2.1, .int R.2.2.2.1, .int f_time, .int R.2.2.2.2, .int f_current, .ref a_closing, .ref a_opening]))] (va_A [(a_this, .inr (1, [.int f_next, .int f_kind, .int f_owner, .int f_time, .int f_branches, .int f_current, .ref a_closing, .ref a_opening]))] sz)) 0 0 (va_A [(a_this, .inr (1, [.int f_next, .int f_kind, .int f_owner, .int f_time, .int f_branches, .int f_current, .ref a_closing, .ref a_opening]))] sz) := by
  refine Met.ofW (cc := cX1_takeOrder) (maxL := 2) (ret := (some .boolean)) (by decide) rfl ?_
  intro p e s m args below meth c s₁ B hml hv
  obtain ⟨rfl, hsz, hP, hK, hD0⟩ := hv
  have hx := B.exec
  have hb := B.bytes
  have hr := B.returns
  have hts := atoms_spec (ws := wsX1_takeOrder) B.pre
  have hown : s.vm.findClass RX1 = some m.cls := findClass_of_methodNamed B.named
  have hlocks := B.notSynchronized
  have hinX1 : ∀ w ∈ wsX10, w ∈ wsX1_takeOrder := fun _ h => (List.mem_cons_of_mem _ (List.mem_append_right _ h))
  subst hsz
  have hD := hD0.self (sz := s.heap.size)
  generalize hAe : va_A [(a_this, .inr (1, [.int f_next, .int f_kind, .int f_owner, .int f_time, .int f_branches, .int f_current, .ref a_closing, .ref a_opening]))] s.heap.size = A at hD ⊢
  have hA : ∀ q : Nat, s.heap.size ≤ q → A q := fun q h => by rw [← hAe]; exact Or.inr h
  have hS : va_S A s.heap s.heap [] := va_S.rf
  have hP : va_P D vwCl [(a_this, .inr (1, [.int f_next, .int f_kind, .int f_owner, .int f_time, .int f_branches, .int f_current, .ref a_closing, .ref a_opening]))] s.heap := hP
  have hK : va_K D vwCl (ztys cI cC cO cJ) s := hK
  have hl := lv_entry ([.ref a_this, .int p0]) (n := 2) (Nat.le_of_ble_eq_true rfl)
  rw [lg_entry_eq]
  generalize (lg_sl ([.ref a_this, .int p0]) ++ List.replicate (2 - (lg_sl ([.ref a_this, .int p0])).length) Slot.unset).toArray = ls at hl ⊢
  have hl : lv_has ls 2 [(0, .ref a_this), (1, .int p0)] := hl
  unfold F_X1_takeOrder at h
  refine lv_iload_n hx hb dX1_takeOrder_0 rfl (lv_at hl 1 rfl) ?_
  refine lv_bipush (v := (117 : Int32)) hx hb dX1_takeOrder_1 (by decide) ?_
  have J12 : ∀ (_ : Unit), F_X1_takeOrder_J12 f_branches f_owner p0 = some R → ∀ (H : Heap) (locs : List Loc), va_P D vwCl [(a_this, .inr (1, [.int f_next, .int f_kind, .int f_owner, .int f_time, .int f_branches, .int f_current, .ref a_closing, .ref a_opening]))] H → va_D A [(a_this, .inr (1, [.int f_next, .int f_kind, .int f_owner, .int f_time, .int f_branches, .int f_current, .ref a_closing, .ref a_opening]))] → va_S A s.heap H locs → ∀ ls : Array Slot, lv_has ls 2 [(0, .ref a_this), (1, .int p0)] → W p l e ({ frames := 1, cells := 0, slots := 0, locals := 22 } : Room) s m (([.ref a_this, .int p0] : List Value).toArray) below meth c H locs 0 0 (MQ below (zWi D R.1 [(a_this, .inr (1, [.int R.2.1, .int R.2.2.1, .int R.2.2.2.1, .int f_time, .int R.2.2.2.2, .int f_current, .ref a_closing, .ref a_opening]))] A) (([.ref a_this, .int p0] : List Value).toArray) s 0 0 A) (F0 m 12 ls []) := by
    intro _ h H locs hP hD hS ls hl
    unfold F_X1_takeOrder_J12 at h
    refine lv_aload_n hx hb dX1_takeOrder_12 rfl (lv_at hl 0 rfl) ?_
    refine lv_iload_n hx hb dX1_takeOrder_13 rfl (lv_at hl 1 rfl) ?_
    refine lv_bipush (v := (117 : Int32)) hx hb dX1_takeOrder_14 (by decide) ?_
    have J24 : ∀ (v1 : Int32), F_X1_takeOrder_J24 f_branches f_owner v1 = some R → ∀ (H : Heap) (locs : List Loc), va_P D vwCl [(a_this, .inr (1, [.int f_next, .int f_kind, .int f_owner, .int f_time, .int f_branches, .int f_current, .ref a_closing, .ref a_opening]))] H → va_D A [(a_this, .inr (1, [.int f_next, .int f_kind, .int f_owner, .int f_time, .int f_branches, .int f_current, .ref a_closing, .ref a_opening]))] → va_S A s.heap H locs → ∀ ls : Array Slot, lv_has ls 2 [(0, .ref a_this), (1, .int p0)] → W p l e ({ frames := 1, cells := 0, slots := 0, locals := 22 } : Room) s m (([.ref a_this, .int p0] : List Value).toArray) below meth c H locs 0 0 (MQ below (zWi D R.1 [(a_this, .inr (1, [.int R.2.1, .int R.2.2.1, .int R.2.2.2.1, .int f_time, .int R.2.2.2.2, .int f_current, .ref a_closing, .ref a_opening]))] A) (([.ref a_this, .int p0] : List Value).toArray) s 0 0 A) (F0 m 24 ls [.int v1, .ref a_this]) := by
      intro v1 h H locs hP hD hS ls hl
      unfold F_X1_takeOrder_J24 at h
      refine va_put (D := D) (ci := 1) (v := .int v1) (ty := .int) (C := RX1) (T := TX1) (N := 8) hx hb hts hinX1 tyX1 tyX1_ok nmX1 hown hK hP hD hS 0 rfl rfl 1 (by decide) (hts (Cond.fieldLink RX1 47 "LadderRelays$Reader" "kind" "I") (List.mem_of_getElem? (i := 1) rfl)) (fun _ h9 => h9) rfl (by decide +kernel) rfl rfl (Nat.le_of_ble_eq_true rfl) dX1_takeOrder_24 (fun H locs hP hD hS => ?_)
      have hP : va_P D vwCl [(a_this, .inr (1, [.int f_next, .int v1, .int f_owner, .int f_time, .int f_branches, .int f_current, .ref a_closing, .ref a_opening]))] H := hP
      have hD : va_D A [(a_this, .inr (1, [.int f_next, .int v1, .int f_owner, .int f_time, .int f_branches, .int f_current, .ref a_closing, .ref a_opening]))] := hD
      refine lv_aload_n hx hb dX1_takeOrder_27 rfl (lv_at hl 0 rfl) ?_
      refine lv_iconst (v := (5 : Int32)) hx hb dX1_takeOrder_28 (by decide) ?_
      refine va_put (D := D) (ci := 1) (v := .int (5 : Int32)) (ty := .int) (C := RX1) (T := TX1) (N := 8) hx hb hts hinX1 tyX1 tyX1_ok nmX1 hown hK hP hD hS 0 rfl rfl 0 (by decide) (hts (Cond.fieldLink RX1 18 "LadderRelays$Reader" "next" "I") (List.mem_of_getElem? (i := 2) rfl)) (fun _ h9 => h9) rfl (by decide +kernel) rfl rfl (Nat.le_of_ble_eq_true rfl) dX1_takeOrder_29 (fun H locs hP hD hS => ?_)
      have hP : va_P D vwCl [(a_this, .inr (1, [.int (5 : Int32), .int v1, .int f_owner, .int f_time, .int f_branches, .int f_current, .ref a_closing, .ref a_opening]))] H := hP
      have hD : va_D A [(a_this, .inr (1, [.int (5 : Int32), .int v1, .int f_owner, .int f_time, .int f_branches, .int f_current, .ref a_closing, .ref a_opening]))] := hD
      refine lv_iconst (v := (1 : Int32)) hx hb dX1_takeOrder_32 (by decide) ?_
      have hR := Option.some.inj h
      subst hR
      exact W.zret (v := (1 : Int32)) (ty := .boolean) hx hb hr rfl (fun t ht hW => ⟨⟨_, (), rfl, rfl, zhp ht hP⟩, hS.F ht⟩) hS.2.2 dX1_takeOrder_33
    refine lv_icmp_ne (tgt := 23) hx hb dX1_takeOrder_16 (by decide) (fun c2 => ?_) (fun c2 => ?_)
    · have h := zif_f c2 h
      refine lv_iconst (v := (2 : Int32)) hx hb dX1_takeOrder_23 (by decide) ?_
      exact J24 (2 : Int32) h _ _ hP hD hS ls (lv_sub hl [0, 1] rfl)
    · have h := zif_t c2 h
      refine lv_iconst (v := (1 : Int32)) hx hb dX1_takeOrder_19 (by decide) ?_
      refine lv_goto (tgt := 24) hx hb dX1_takeOrder_20 (by decide) ?_
      exact J24 (1 : Int32) h _ _ hP hD hS ls (lv_sub hl [0, 1] rfl)
  refine lv_icmp_eq (tgt := 12) hx hb dX1_takeOrder_3 (by decide) (fun c3 => ?_) (fun c3 => ?_)
  · have h := zif_t c3 h
    exact J12 () h _ _ hP hD hS ls (lv_sub hl [0, 1] rfl)
  · have h := zif_f c3 h
    refine lv_iload_n hx hb dX1_takeOrder_6 rfl (lv_at hl 1 rfl) ?_
    refine lv_bipush (v := (118 : Int32)) hx hb dX1_takeOrder_7 (by decide) ?_
    refine lv_icmp_ne (tgt := 34) hx hb dX1_takeOrder_9 (by decide) (fun c4 => ?_) (fun c4 => ?_)
    · have h := zif_f c4 h
      refine lv_aload_n hx hb dX1_takeOrder_34 rfl (lv_at hl 0 rfl) ?_
      refine lv_iconst (v := (0 : Int32)) hx hb dX1_takeOrder_35 (by decide) ?_
      refine va_put (D := D) (ci := 1) (v := .int (0 : Int32)) (ty := .int) (C := RX1) (T := TX1) (N := 8) hx hb hts hinX1 tyX1 tyX1_ok nmX1 hown hK hP hD hS 0 rfl rfl 1 (by decide) (hts (Cond.fieldLink RX1 47 "LadderRelays$Reader" "kind" "I") (List.mem_of_getElem? (i := 1) rfl)) (fun _ h9 => h9) rfl (by decide +kernel) rfl rfl (Nat.le_of_ble_eq_true rfl) dX1_takeOrder_36 (fun H locs hP hD hS => ?_)
      have hP : va_P D vwCl [(a_this, .inr (1, [.int f_next, .int (0 : Int32), .int f_owner, .int f_time, .int f_branches, .int f_current, .ref a_closing, .ref a_opening]))] H := hP
      have hD : va_D A [(a_this, .inr (1, [.int f_next, .int (0 : Int32), .int f_owner, .int f_time, .int f_branches, .int f_current, .ref a_closing, .ref a_opening]))] := hD
      refine lv_aload_n hx hb dX1_takeOrder_39 rfl (lv_at hl 0 rfl) ?_
      refine lv_iconst (v := (0 : Int32)) hx hb dX1_takeOrder_40 (by decide) ?_
      refine va_put (D := D) (ci := 1) (v := .int (0 : Int32)) (ty := .int) (C := RX1) (T := TX1) (N := 8) hx hb hts hinX1 tyX1 tyX1_ok nmX1 hown hK hP hD hS 0 rfl rfl 4 (by decide) (hts (Cond.fieldLink RX1 50 "LadderRelays$Reader" "branches" "I") (List.mem_of_getElem? (i := 3) rfl)) (fun _ h9 => h9) rfl (by decide +kernel) rfl rfl (Nat.le_of_ble_eq_true rfl) dX1_takeOrder_41 (fun H locs hP hD hS => ?_)
      have hP : va_P D vwCl [(a_this, .inr (1, [.int f_next, .int (0 : Int32), .int f_owner, .int f_time, .int (0 : Int32), .int f_current, .ref a_closing, .ref a_opening]))] H := hP
      have hD : va_D A [(a_this, .inr (1, [.int f_next, .int (0 : Int32), .int f_owner, .int f_time, .int (0 : Int32), .int f_current, .ref a_closing, .ref a_opening]))] := hD
      refine lv_aload_n hx hb dX1_takeOrder_44 rfl (lv_at hl 0 rfl) ?_
      refine lv_iload_n hx hb dX1_takeOrder_45 rfl (lv_at hl 1 rfl) ?_
      refine lv_iconst (v := (1 : Int32)) hx hb dX1_takeOrder_46 (by decide) ?_
      obtain ⟨v5, hv5, h⟩ := zbnd h
      have hFc := va_free (wc := [(a_this, .inr (1, [.int f_next, .int (0 : Int32), .int f_owner, .int f_time, .int (0 : Int32), .int f_current, .ref a_closing, .ref a_opening]))]) hD hS hA [0] rfl
      refine zc_wi (va_runV (C := RX1) (As := [.int p0, .int (1 : Int32)]) (rest := []) ⟨hx, hb, hml, hown, hts⟩ (c_X1_takeOwner l D cI cC cO cJ fu a_this a_closing a_opening _ f_next (0 : Int32) f_owner f_time (0 : Int32) f_current p0 (1 : Int32) v5 hv5) (cwV 2 hts gX1_takeOrder_X1_takeOwner rfl rfl rfl (by decide +kernel) ⟨Nat.le_of_ble_eq_true rfl, Nat.le_of_ble_eq_true rfl⟩) ⟨zPw_blind, (va_recv hK hP (q0 := 0) (ci := 1) rfl rfl), zPw_pre hK hP hD⟩ rfl rfl hl.1 rfl (lv_room (Nat.le_of_ble_eq_true rfl)) dX1_takeOrder_47 ⟨Nat.zero_le _, Nat.zero_le _⟩) hS hFc (fun H locs hk1 hP1 hS => ?_)
      obtain ⟨hP, hD⟩ := zjn (ws' := [(a_this, .inr (1, [.int v5.2.1, .int (0 : Int32), .int v5.2.2, .int f_time, .int (0 : Int32), .int f_current, .ref a_closing, .ref a_opening]))]) hP hD [0] [.inr 0] rfl rfl rfl hk1 hP1
      obtain ⟨v6, hbv6, h⟩ := zbnd h
      obtain ⟨hbv6, hev6⟩ := zbo_some hbv6
      rw [hev6]
      have hR := Option.some.inj h
      subst hR
      exact W.zret (v := v6) (ty := .boolean) hx hb hr (by rcases hbv6 with q | q <;> rw [q] <;> rfl) (fun t ht hW => ⟨⟨_, (), rfl, rfl, zhp ht hP⟩, hS.F ht⟩) hS.2.2 dX1_takeOrder_50
    · have h := zif_t c4 h
      exact J12 () h _ _ hP hD hS ls (lv_sub hl [0, 1] rfl)
def F_X1_takeTime (fu : Nat) (f_next : Int32) (f_time : Int32) (p0 : Int32) : Option (Int32 × Int32 × Int32) := if p0 < (48 : Int32) then some ((0 : Int32), f_next, f_time) else if p0 ≤ (57 : Int32) then some ((1 : Int32), (8 : Int32), (p0 - (48 : Int32))) else some ((0 : Int32), f_next, f_time)
set_option maxHeartbeats 4000000 in
set_option maxRecDepth 100000 in
theorem c_X1_takeTime (l : Launch) (D : va_G) (cI cC cO cJ : ClassId) (fu : Nat) (a_this a_closing a_opening : Nat) (sz : Nat) (f_next : Int32) (f_kind : Int32) (f_owner : Int32) (f_time : Int32) (f_branches : Int32) (f_current : Int32) (p0 : Int32) (R : Int32 × Int32 × Int32) (h : F_X1_takeTime fu f_next f_time p0 = some R) : Met l yX1_takeTime wsX1_takeTime ({ frames := 0, cells := 0, slots := 0, locals := 0 } : Room) (zPw D (ztys cI cC cO cJ) [(a_this, .inr (1, [.int f_next, .int f_kind, .int f_owner, .int f_time, .int f_branches, .int f_current, .ref a_closing, .ref a_opening]))] sz [.ref a_this, .int p0]) (zWi D R.1 [(a_this, .inr (1, [.int R.2.1, .int f_kind, .int f_owner, .int R.2.2, .int f_branches, .int f_current, .ref a_closing, .ref a_opening]))] (va_A [(a_this, .inr (1, [.int f_next, .int f_kind, .int f_owner, .int f_time, .int f_branches, .int f_current, .ref a_closing, .ref a_opening]))] sz)) 0 0 (va_A [(a_this, .inr (1, [.int f_next, .int f_kind, .int f_owner, .int f_time, .int f_branches, .int f_current, .ref a_closing, .ref a_opening]))] sz) := by
  refine Met.ofW (cc := cX1_takeTime) (maxL := 2) (ret := (some .boolean)) (by decide) rfl ?_
  intro p e s m args below meth c s₁ B hml hv
  obtain ⟨rfl, hsz, hP, hK, hD0⟩ := hv
  have hx := B.exec
  have hb := B.bytes
  have hr := B.returns
  have hts := atoms_spec (ws := wsX1_takeTime) B.pre
  have hown : s.vm.findClass RX1 = some m.cls := findClass_of_methodNamed B.named
  have hlocks := B.notSynchronized
  have hinX1 : ∀ w ∈ wsX10, w ∈ wsX1_takeTime := fun _ h => (List.mem_cons_of_mem _ (List.mem_append_right _ h))
  subst hsz
  have hD := hD0.self (sz := s.heap.size)
  generalize hAe : va_A [(a_this, .inr (1, [.int f_next, .int f_kind, .int f_owner, .int f_time, .int f_branches, .int f_current, .ref a_closing, .ref a_opening]))] s.heap.size = A at hD ⊢
  have hA : ∀ q : Nat, s.heap.size ≤ q → A q := fun q h => by rw [← hAe]; exact Or.inr h
  have hS : va_S A s.heap s.heap [] := va_S.rf
  have hP : va_P D vwCl [(a_this, .inr (1, [.int f_next, .int f_kind, .int f_owner, .int f_time, .int f_branches, .int f_current, .ref a_closing, .ref a_opening]))] s.heap := hP
  have hK : va_K D vwCl (ztys cI cC cO cJ) s := hK
  have hl := lv_entry ([.ref a_this, .int p0]) (n := 2) (Nat.le_of_ble_eq_true rfl)
  rw [lg_entry_eq]
  generalize (lg_sl ([.ref a_this, .int p0]) ++ List.replicate (2 - (lg_sl ([.ref a_this, .int p0])).length) Slot.unset).toArray = ls at hl ⊢
  have hl : lv_has ls 2 [(0, .ref a_this), (1, .int p0)] := hl
  unfold F_X1_takeTime at h
  refine lv_iload_n hx hb dX1_takeTime_0 rfl (lv_at hl 1 rfl) ?_
  refine lv_bipush (v := (48 : Int32)) hx hb dX1_takeTime_1 (by decide) ?_
  refine lv_icmp_lt (tgt := 12) hx hb dX1_takeTime_3 (by decide) (fun c1 => ?_) (fun c1 => ?_)
  · have h := zif_t c1 h
    refine lv_iconst (v := (0 : Int32)) hx hb dX1_takeTime_12 (by decide) ?_
    have hR := Option.some.inj h
    subst hR
    exact W.zret (v := (0 : Int32)) (ty := .boolean) hx hb hr rfl (fun t ht hW => ⟨⟨_, (), rfl, rfl, zhp ht hP⟩, hS.F ht⟩) hS.2.2 dX1_takeTime_13
  · have h := zif_f c1 h
    refine lv_iload_n hx hb dX1_takeTime_6 rfl (lv_at hl 1 rfl) ?_
    refine lv_bipush (v := (57 : Int32)) hx hb dX1_takeTime_7 (by decide) ?_
    refine lv_icmp_le (tgt := 14) hx hb dX1_takeTime_9 (by decide) (fun c2 => ?_) (fun c2 => ?_)
    · have h := zif_t c2 h
      refine lv_aload_n hx hb dX1_takeTime_14 rfl (lv_at hl 0 rfl) ?_
      refine lv_iload_n hx hb dX1_takeTime_15 rfl (lv_at hl 1 rfl) ?_
      refine lv_bipush (v := (48 : Int32)) hx hb dX1_takeTime_16 (by decide) ?_
      refine lv_isub hx hb dX1_takeTime_18 ?_
      refine va_put (D := D) (ci := 1) (v := .int (p0 - (48 : Int32))) (ty := .int) (C := RX1) (T := TX1) (N := 8) hx hb hts hinX1 tyX1 tyX1_ok nmX1 hown hK hP hD hS 0 rfl rfl 3 (by decide) (hts (Cond.fieldLink RX1 56 "LadderRelays$Reader" "time" "I") (List.mem_of_getElem? (i := 1) rfl)) (fun _ h9 => h9) rfl (by decide +kernel) rfl rfl (Nat.le_of_ble_eq_true rfl) dX1_takeTime_19 (fun H locs hP hD hS => ?_)
      have hP : va_P D vwCl [(a_this, .inr (1, [.int f_next, .int f_kind, .int f_owner, .int (p0 - (48 : Int32)), .int f_branches, .int f_current, .ref a_closing, .ref a_opening]))] H := hP
      have hD : va_D A [(a_this, .inr (1, [.int f_next, .int f_kind, .int f_owner, .int (p0 - (48 : Int32)), .int f_branches, .int f_current, .ref a_closing, .ref a_opening]))] := hD
      refine lv_aload_n hx hb dX1_takeTime_22 rfl (lv_at hl 0 rfl) ?_
      refine lv_bipush (v := (8 : Int32)) hx hb dX1_takeTime_23 (by decide) ?_
      refine va_put (D := D) (ci := 1) (v := .int (8 : Int32)) (ty := .int) (C := RX1) (T := TX1) (N := 8) hx hb hts hinX1 tyX1 tyX1_ok nmX1 hown hK hP hD hS 0 rfl rfl 0 (by decide) (hts (Cond.fieldLink RX1 18 "LadderRelays$Reader" "next" "I") (List.mem_of_getElem? (i := 2) rfl)) (fun _ h9 => h9) rfl (by decide +kernel) rfl rfl (Nat.le_of_ble_eq_true rfl) dX1_takeTime_25 (fun H locs hP hD hS => ?_)
      have hP : va_P D vwCl [(a_this, .inr (1, [.int (8 : Int32), .int f_kind, .int f_owner, .int (p0 - (48 : Int32)), .int f_branches, .int f_current, .ref a_closing, .ref a_opening]))] H := hP
      have hD : va_D A [(a_this, .inr (1, [.int (8 : Int32), .int f_kind, .int f_owner, .int (p0 - (48 : Int32)), .int f_branches, .int f_current, .ref a_closing, .ref a_opening]))] := hD
      refine lv_iconst (v := (1 : Int32)) hx hb dX1_takeTime_28 (by decide) ?_
      have hR := Option.some.inj h
      subst hR
      exact W.zret (v := (1 : Int32)) (ty := .boolean) hx hb hr rfl (fun t ht hW => ⟨⟨_, (), rfl, rfl, zhp ht hP⟩, hS.F ht⟩) hS.2.2 dX1_takeTime_29
    · have h := zif_f c2 h
      refine lv_iconst (v := (0 : Int32)) hx hb dX1_takeTime_12 (by decide) ?_
      have hR := Option.some.inj h
      subst hR
      exact W.zret (v := (0 : Int32)) (ty := .boolean) hx hb hr rfl (fun t ht hW => ⟨⟨_, (), rfl, rfl, zhp ht hP⟩, hS.F ht⟩) hS.2.2 dX1_takeTime_13
def F_X1_contactsOfBranch (fu : Nat) (f_current : Int32) (f_closing : Nat → Int32) (f_opening : Nat → Int32) : Option (Int32) := (zrd f_closing 4 f_current).bind fun v1 => (zrd f_opening 4 f_current).bind fun v2 => some (v1 ||| v2)
set_option maxHeartbeats 4000000 in
set_option maxRecDepth 100000 in
theorem c_X1_contactsOfBranch (l : Launch) (D : va_G) (cI cC cO cJ : ClassId) (fu : Nat) (a_this a_closing a_opening : Nat) (f_next : Int32) (f_kind : Int32) (f_owner : Int32) (f_time : Int32) (f_branches : Int32) (f_current : Int32) (f_closing : Nat → Int32) (f_opening : Nat → Int32) (R : Int32) (h : F_X1_contactsOfBranch fu f_current f_closing f_opening = some R) : Met l yX1_contactsOfBranch wsX1_contactsOfBranch ({ frames := 0, cells := 0, slots := 0, locals := 0 } : Room) (zPr D (ztys cI cC cO cJ) [(a_this, .inr (1, [.int f_next, .int f_kind, .int f_owner, .int f_time, .int f_branches, .int f_current, .ref a_closing, .ref a_opening])), (a_closing, .inl (cI, 4, .inl f_closing)), (a_opening, .inl (cI, 4, .inl f_opening))] [.ref a_this]) (zQi R) 0 0 (fun _ => False) := by
  refine Met.ofW (cc := cX1_contactsOfBranch) (maxL := 1) (ret := (some .int)) (by decide) rfl ?_
  intro p e s m args below meth c s₁ B hml hv
  obtain ⟨rfl, hP, hK⟩ := hv
  have hx := B.exec
  have hb := B.bytes
  have hr := B.returns
  have hts := atoms_spec (ws := wsX1_contactsOfBranch) B.pre
  have hown : s.vm.findClass RX1 = some m.cls := findClass_of_methodNamed B.named
  have hlocks := B.notSynchronized
  have hinX1 : ∀ w ∈ wsX10, w ∈ wsX1_contactsOfBranch := fun _ h => (List.mem_cons_of_mem _ (List.mem_append_right _ h))
  have hP : va_P D vwCl [(a_this, .inr (1, [.int f_next, .int f_kind, .int f_owner, .int f_time, .int f_branches, .int f_current, .ref a_closing, .ref a_opening])), (a_closing, .inl (cI, 4, .inl f_closing)), (a_opening, .inl (cI, 4, .inl f_opening))] s.heap := hP
  have hK : va_K D vwCl (ztys cI cC cO cJ) s := hK
  have hl := lv_entry ([.ref a_this]) (n := 1) (Nat.le_of_ble_eq_true rfl)
  rw [lg_entry_eq]
  generalize (lg_sl ([.ref a_this]) ++ List.replicate (1 - (lg_sl ([.ref a_this])).length) Slot.unset).toArray = ls at hl ⊢
  have hl : lv_has ls 1 [(0, .ref a_this)] := hl
  unfold F_X1_contactsOfBranch at h
  refine lv_aload_n hx hb dX1_contactsOfBranch_0 rfl (lv_at hl 0 rfl) ?_
  refine va_get (D := D) (ci := 1) (v := .ref a_closing) (C := RX1) (T := TX1) (N := 8) hx hb hts hinX1 hown hK hP 0 rfl rfl 6 (by decide) (hts (Cond.fieldLink RX1 9 "LadderRelays$Reader" "closing" "[I") (List.mem_of_getElem? (i := 1) rfl)) (fun _ h9 => h9) rfl dX1_contactsOfBranch_1 ?_
  refine lv_aload_n hx hb dX1_contactsOfBranch_4 rfl (lv_at hl 0 rfl) ?_
  refine va_get (D := D) (ci := 1) (v := .int f_current) (C := RX1) (T := TX1) (N := 8) hx hb hts hinX1 hown hK hP 0 rfl rfl 5 (by decide) (hts (Cond.fieldLink RX1 63 "LadderRelays$Reader" "current" "I") (List.mem_of_getElem? (i := 2) rfl)) (fun _ h9 => h9) rfl dX1_contactsOfBranch_5 ?_
  obtain ⟨v1, hv1, h⟩ := zbnd h
  refine zr_iald hx hb hK hP 1 0 rfl rfl hv1 dX1_contactsOfBranch_8 ?_
  refine lv_aload_n hx hb dX1_contactsOfBranch_9 rfl (lv_at hl 0 rfl) ?_
  refine va_get (D := D) (ci := 1) (v := .ref a_opening) (C := RX1) (T := TX1) (N := 8) hx hb hts hinX1 hown hK hP 0 rfl rfl 7 (by decide) (hts (Cond.fieldLink RX1 15 "LadderRelays$Reader" "opening" "[I") (List.mem_of_getElem? (i := 3) rfl)) (fun _ h9 => h9) rfl dX1_contactsOfBranch_10 ?_
  refine lv_aload_n hx hb dX1_contactsOfBranch_13 rfl (lv_at hl 0 rfl) ?_
  refine va_get (D := D) (ci := 1) (v := .int f_current) (C := RX1) (T := TX1) (N := 8) hx hb hts hinX1 hown hK hP 0 rfl rfl 5 (by decide) (hts (Cond.fieldLink RX1 63 "LadderRelays$Reader" "current" "I") (List.mem_of_getElem? (i := 2) rfl)) (fun _ h9 => h9) rfl dX1_contactsOfBranch_14 ?_
  obtain ⟨v2, hv2, h⟩ := zbnd h
  refine zr_iald hx hb hK hP 2 0 rfl rfl hv2 dX1_contactsOfBranch_17 ?_
  refine lv_ior hx hb dX1_contactsOfBranch_18 ?_
  have hR := Option.some.inj h
  subst hR
  exact W.iret (v := (v1 ||| v2)) hx hb hr (fun t ht hW => ⟨_, rfl, rfl, ht⟩) (fun q hq => absurd hq List.not_mem_nil) dX1_contactsOfBranch_19
def F_X1_contactOf_J19 (p0 : Int32)  : Option (Int32) := if p0 < (48 : Int32) then some (0 : Int32) else if (54 : Int32) ≤ p0 then some (0 : Int32) else some ((1 : Int32) <<< ((((4 : Int32) + p0) - (48 : Int32)) &&& (31 : Int32)))
def F_X1_contactOf (fu : Nat) (p0 : Int32) : Option (Int32) := if p0 < (97 : Int32) then F_X1_contactOf_J19 p0 else if (101 : Int32) ≤ p0 then F_X1_contactOf_J19 p0 else some ((1 : Int32) <<< ((p0 - (97 : Int32)) &&& (31 : Int32)))
set_option maxHeartbeats 4000000 in
set_option maxRecDepth 100000 in
theorem c_X1_contactOf (l : Launch) (D : va_G) (cI cC cO cJ : ClassId) (fu : Nat) (p0 : Int32) (R : Int32) (h : F_X1_contactOf fu p0 = some R) : Met l yX1_contactOf wsX1_contactOf ({ frames := 0, cells := 0, slots := 0, locals := 0 } : Room) (zPr D (ztys cI cC cO cJ) [] [.int p0]) (zQi R) 0 0 (fun _ => False) := by
  refine Met.ofW (cc := cX1_contactOf) (maxL := 1) (ret := (some .int)) (by decide) rfl ?_
  intro p e s m args below meth c s₁ B hml hv
  obtain ⟨rfl, hP, hK⟩ := hv
  have hx := B.exec
  have hb := B.bytes
  have hr := B.returns
  have hts := atoms_spec (ws := wsX1_contactOf) B.pre
  have hown : s.vm.findClass RX1 = some m.cls := findClass_of_methodNamed B.named
  have hlocks := B.notSynchronized
  have hP : va_P D vwCl [] s.heap := hP
  have hK : va_K D vwCl (ztys cI cC cO cJ) s := hK
  have hl := lv_entry ([.int p0]) (n := 1) (Nat.le_of_ble_eq_true rfl)
  rw [lg_entry_eq]
  generalize (lg_sl ([.int p0]) ++ List.replicate (1 - (lg_sl ([.int p0])).length) Slot.unset).toArray = ls at hl ⊢
  have hl : lv_has ls 1 [(0, .int p0)] := hl
  unfold F_X1_contactOf at h
  refine lv_iload_n hx hb dX1_contactOf_0 rfl (lv_at hl 0 rfl) ?_
  refine lv_bipush (v := (97 : Int32)) hx hb dX1_contactOf_1 (by decide) ?_
  have J19 : ∀ (_ : Unit), F_X1_contactOf_J19 p0 = some R → ∀ ls : Array Slot, lv_has ls 1 [(0, .int p0)] → W p l e ({ frames := 0, cells := 0, slots := 0, locals := 0 } : Room) s m (([.int p0] : List Value).toArray) below meth c s.heap [] 0 0 (MQ below (zQi R) (([.int p0] : List Value).toArray) s 0 0 (fun _ => False)) (F0 m 19 ls []) := by
    intro _ h ls hl
    unfold F_X1_contactOf_J19 at h
    refine lv_iload_n hx hb dX1_contactOf_19 rfl (lv_at hl 0 rfl) ?_
    refine lv_bipush (v := (48 : Int32)) hx hb dX1_contactOf_20 (by decide) ?_
    refine lv_icmp_lt (tgt := 40) hx hb dX1_contactOf_22 (by decide) (fun c1 => ?_) (fun c1 => ?_)
    · have h := zif_t c1 h
      refine lv_iconst (v := (0 : Int32)) hx hb dX1_contactOf_40 (by decide) ?_
      have hR := Option.some.inj h
      subst hR
      exact W.iret (v := (0 : Int32)) hx hb hr (fun t ht hW => ⟨_, rfl, rfl, ht⟩) (fun q hq => absurd hq List.not_mem_nil) dX1_contactOf_41
    · have h := zif_f c1 h
      refine lv_iload_n hx hb dX1_contactOf_25 rfl (lv_at hl 0 rfl) ?_
      refine lv_bipush (v := (54 : Int32)) hx hb dX1_contactOf_26 (by decide) ?_
      refine lv_icmp_ge (tgt := 40) hx hb dX1_contactOf_28 (by decide) (fun c2 => ?_) (fun c2 => ?_)
      · have h := zif_t c2 h
        refine lv_iconst (v := (0 : Int32)) hx hb dX1_contactOf_40 (by decide) ?_
        have hR := Option.some.inj h
        subst hR
        exact W.iret (v := (0 : Int32)) hx hb hr (fun t ht hW => ⟨_, rfl, rfl, ht⟩) (fun q hq => absurd hq List.not_mem_nil) dX1_contactOf_41
      · have h := zif_f c2 h
        refine lv_iconst (v := (1 : Int32)) hx hb dX1_contactOf_31 (by decide) ?_
        refine lv_iconst (v := (4 : Int32)) hx hb dX1_contactOf_32 (by decide) ?_
        refine lv_iload_n hx hb dX1_contactOf_33 rfl (lv_at hl 0 rfl) ?_
        refine lv_iadd hx hb dX1_contactOf_34 ?_
        refine lv_bipush (v := (48 : Int32)) hx hb dX1_contactOf_35 (by decide) ?_
        refine lv_isub hx hb dX1_contactOf_37 ?_
        refine lv_ishl hx hb dX1_contactOf_38 ?_
        have hR := Option.some.inj h
        subst hR
        exact W.iret (v := ((1 : Int32) <<< ((((4 : Int32) + p0) - (48 : Int32)) &&& (31 : Int32)))) hx hb hr (fun t ht hW => ⟨_, rfl, rfl, ht⟩) (fun q hq => absurd hq List.not_mem_nil) dX1_contactOf_39
  refine lv_icmp_lt (tgt := 19) hx hb dX1_contactOf_3 (by decide) (fun c3 => ?_) (fun c3 => ?_)
  · have h := zif_t c3 h
    exact J19 () h ls (lv_sub hl [0] rfl)
  · have h := zif_f c3 h
    refine lv_iload_n hx hb dX1_contactOf_6 rfl (lv_at hl 0 rfl) ?_
    refine lv_bipush (v := (101 : Int32)) hx hb dX1_contactOf_7 (by decide) ?_
    refine lv_icmp_ge (tgt := 19) hx hb dX1_contactOf_9 (by decide) (fun c4 => ?_) (fun c4 => ?_)
    · have h := zif_t c4 h
      exact J19 () h ls (lv_sub hl [0] rfl)
    · have h := zif_f c4 h
      refine lv_iconst (v := (1 : Int32)) hx hb dX1_contactOf_12 (by decide) ?_
      refine lv_iload_n hx hb dX1_contactOf_13 rfl (lv_at hl 0 rfl) ?_
      refine lv_bipush (v := (97 : Int32)) hx hb dX1_contactOf_14 (by decide) ?_
      refine lv_isub hx hb dX1_contactOf_16 ?_
      refine lv_ishl hx hb dX1_contactOf_17 ?_
      have hR := Option.some.inj h
      subst hR
      exact W.iret (v := ((1 : Int32) <<< ((p0 - (97 : Int32)) &&& (31 : Int32)))) hx hb hr (fun t ht hW => ⟨_, rfl, rfl, ht⟩) (fun q hq => absurd hq List.not_mem_nil) dX1_contactOf_18
def F_X1_takeNot (fu : Nat) (f_next : Int32) (f_current : Int32) (f_closing : Nat → Int32) (f_opening : Nat → Int32) (p0 : Int32) : Option (Int32 × Int32) := if p0 = (33 : Int32) then (F_X1_contactsOfBranch fu f_current f_closing f_opening).bind fun v2 => if v2 = (1023 : Int32) then some ((0 : Int32), f_next) else some ((1 : Int32), (3 : Int32)) else some ((0 : Int32), f_next)
set_option maxHeartbeats 4000000 in
set_option maxRecDepth 100000 in
theorem c_X1_takeNot (l : Launch) (D : va_G) (cI cC cO cJ : ClassId) (fu : Nat) (a_this a_closing a_opening : Nat) (sz : Nat) (f_next : Int32) (f_kind : Int32) (f_owner : Int32) (f_time : Int32) (f_branches : Int32) (f_current : Int32) (f_closing : Nat → Int32) (f_opening : Nat → Int32) (p0 : Int32) (R : Int32 × Int32) (h : F_X1_takeNot fu f_next f_current f_closing f_opening p0 = some R) : Met l yX1_takeNot wsX1_takeNot ({ frames := 1, cells := 0, slots := 0, locals := 20 } : Room) (zPw D (ztys cI cC cO cJ) [(a_this, .inr (1, [.int f_next, .int f_kind, .int f_owner, .int f_time, .int f_branches, .int f_current, .ref a_closing, .ref a_opening])), (a_closing, .inl (cI, 4, .inl f_closing)), (a_opening, .inl (cI, 4, .inl f_opening))] sz [.ref a_this, .int p0]) (zWi D R.1 [(a_this, .inr (1, [.int R.2, .int f_kind, .int f_owner, .int f_time, .int f_branches, .int f_current, .ref a_closing, .ref a_opening])), (a_closing, .inl (cI, 4, .inl f_closing)), (a_opening, .inl (cI, 4, .inl f_opening))] (va_A [(a_this, .inr (1, [.int f_next, .int f_kind, .int f_owner, .int f_time, .int f_branches, .int f_current, .ref a_closing, .ref a_opening])), (a_closing, .inl (cI, 4, .inl f_closing)), (a_opening, .inl (cI, 4, .inl f_opening))] sz)) 0 0 (va_A [(a_this, .inr (1, [.int f_next, .int f_kind, .int f_owner, .int f_time, .int f_branches, .int f_current, .ref a_closing, .ref a_opening])), (a_closing, .inl (cI, 4, .inl f_closing)), (a_opening, .inl (cI, 4, .inl f_opening))] sz) := by
  refine Met.ofW (cc := cX1_takeNot) (maxL := 2) (ret := (some .boolean)) (by decide) rfl ?_
  intro p e s m args below meth c s₁ B hml hv
  obtain ⟨rfl, hsz, hP, hK, hD0⟩ := hv
  have hx := B.exec
  have hb := B.bytes
  have hr := B.returns
  have hts := atoms_spec (ws := wsX1_takeNot) B.pre
  have hown : s.vm.findClass RX1 = some m.cls := findClass_of_methodNamed B.named
  have hlocks := B.notSynchronized
  have hinX1 : ∀ w ∈ wsX10, w ∈ wsX1_takeNot := fun _ h => (List.mem_cons_of_mem _ (List.mem_append_right _ h))
  subst hsz
  have hD := hD0.self (sz := s.heap.size)
  generalize hAe : va_A [(a_this, .inr (1, [.int f_next, .int f_kind, .int f_owner, .int f_time, .int f_branches, .int f_current, .ref a_closing, .ref a_opening])), (a_closing, .inl (cI, 4, .inl f_closing)), (a_opening, .inl (cI, 4, .inl f_opening))] s.heap.size = A at hD ⊢
  have hA : ∀ q : Nat, s.heap.size ≤ q → A q := fun q h => by rw [← hAe]; exact Or.inr h
  have hS : va_S A s.heap s.heap [] := va_S.rf
  have hP : va_P D vwCl [(a_this, .inr (1, [.int f_next, .int f_kind, .int f_owner, .int f_time, .int f_branches, .int f_current, .ref a_closing, .ref a_opening])), (a_closing, .inl (cI, 4, .inl f_closing)), (a_opening, .inl (cI, 4, .inl f_opening))] s.heap := hP
  have hK : va_K D vwCl (ztys cI cC cO cJ) s := hK
  have hl := lv_entry ([.ref a_this, .int p0]) (n := 2) (Nat.le_of_ble_eq_true rfl)
  rw [lg_entry_eq]
  generalize (lg_sl ([.ref a_this, .int p0]) ++ List.replicate (2 - (lg_sl ([.ref a_this, .int p0])).length) Slot.unset).toArray = ls at hl ⊢
  have hl : lv_has ls 2 [(0, .ref a_this), (1, .int p0)] := hl
  unfold F_X1_takeNot at h
  refine lv_iload_n hx hb dX1_takeNot_0 rfl (lv_at hl 1 rfl) ?_
  refine lv_bipush (v := (33 : Int32)) hx hb dX1_takeNot_1 (by decide) ?_
  refine lv_icmp_ne (tgt := 16) hx hb dX1_takeNot_3 (by decide) (fun c1 => ?_) (fun c1 => ?_)
  · have h := zif_f c1 h
    refine lv_iconst (v := (0 : Int32)) hx hb dX1_takeNot_16 (by decide) ?_
    have hR := Option.some.inj h
    subst hR
    exact W.zret (v := (0 : Int32)) (ty := .boolean) hx hb hr rfl (fun t ht hW => ⟨⟨_, (), rfl, rfl, zhp ht hP⟩, hS.F ht⟩) hS.2.2 dX1_takeNot_17
  · have h := zif_t c1 h
    refine lv_aload_n hx hb dX1_takeNot_6 rfl (lv_at hl 0 rfl) ?_
    obtain ⟨v2, hv2, h⟩ := zbnd h
    refine zc_i (W.runV (C := RX1) (As := []) (rest := []) ⟨hx, hb, hml, hown, hts⟩ (c_X1_contactsOfBranch l D cI cC cO cJ fu a_this a_closing a_opening f_next f_kind f_owner f_time f_branches f_current f_closing f_opening v2 hv2) (cwV 0 hts gX1_takeNot_X1_contactsOfBranch rfl rfl rfl (by decide +kernel) ⟨Nat.le_of_ble_eq_true rfl, Nat.le_of_ble_eq_true rfl⟩) ⟨zPr_blind, (va_recv hK hP (q0 := 0) (ci := 1) rfl rfl), zPr_pre hK hP⟩ rfl rfl hl.1 rfl (lv_room (Nat.le_of_ble_eq_true rfl)) dX1_takeNot_7 ⟨Nat.zero_le _, Nat.zero_le _⟩) ?_
    refine lv_sipush (v := (1023 : Int32)) hx hb dX1_takeNot_10 (by decide) ?_
    refine lv_icmp_ne (tgt := 18) hx hb dX1_takeNot_13 (by decide) (fun c3 => ?_) (fun c3 => ?_)
    · have h := zif_f c3 h
      refine lv_aload_n hx hb dX1_takeNot_18 rfl (lv_at hl 0 rfl) ?_
      refine lv_iconst (v := (3 : Int32)) hx hb dX1_takeNot_19 (by decide) ?_
      refine va_put (D := D) (ci := 1) (v := .int (3 : Int32)) (ty := .int) (C := RX1) (T := TX1) (N := 8) hx hb hts hinX1 tyX1 tyX1_ok nmX1 hown hK hP hD hS 0 rfl rfl 0 (by decide) (hts (Cond.fieldLink RX1 18 "LadderRelays$Reader" "next" "I") (List.mem_of_getElem? (i := 1) rfl)) (fun _ h9 => h9) rfl (by decide +kernel) rfl rfl (Nat.le_of_ble_eq_true rfl) dX1_takeNot_20 (fun H locs hP hD hS => ?_)
      have hP : va_P D vwCl [(a_this, .inr (1, [.int (3 : Int32), .int f_kind, .int f_owner, .int f_time, .int f_branches, .int f_current, .ref a_closing, .ref a_opening])), (a_closing, .inl (cI, 4, .inl f_closing)), (a_opening, .inl (cI, 4, .inl f_opening))] H := hP
      have hD : va_D A [(a_this, .inr (1, [.int (3 : Int32), .int f_kind, .int f_owner, .int f_time, .int f_branches, .int f_current, .ref a_closing, .ref a_opening])), (a_closing, .inl (cI, 4, .inl f_closing)), (a_opening, .inl (cI, 4, .inl f_opening))] := hD
      refine lv_iconst (v := (1 : Int32)) hx hb dX1_takeNot_23 (by decide) ?_
      have hR := Option.some.inj h
      subst hR
      exact W.zret (v := (1 : Int32)) (ty := .boolean) hx hb hr rfl (fun t ht hW => ⟨⟨_, (), rfl, rfl, zhp ht hP⟩, hS.F ht⟩) hS.2.2 dX1_takeNot_24
    · have h := zif_t c3 h
      refine lv_iconst (v := (0 : Int32)) hx hb dX1_takeNot_16 (by decide) ?_
      have hR := Option.some.inj h
      subst hR
      exact W.zret (v := (0 : Int32)) (ty := .boolean) hx hb hr rfl (fun t ht hW => ⟨⟨_, (), rfl, rfl, zhp ht hP⟩, hS.F ht⟩) hS.2.2 dX1_takeNot_17
def F_X1_takeContact_closing (fu : Nat) (f_next : Int32) (f_current : Int32) (f_closing : Nat → Int32) (f_opening : Nat → Int32) (p0 : Int32) : Option (Int32 × Int32 × (Nat → Int32)) := (F_X1_contactOf fu p0).bind fun v1 => if v1 = (0 : Int32) then some ((0 : Int32), f_next, f_closing) else (F_X1_contactsOfBranch fu f_current f_closing f_opening).bind fun v3 => if (v3 &&& v1) = (0 : Int32) then (zrd f_closing 4 f_current).bind fun v5 => (zwr f_closing 4 f_current (v5 ||| v1)).bind fun v6 => some ((1 : Int32), (4 : Int32), v6) else some ((0 : Int32), f_next, f_closing)
set_option maxHeartbeats 4000000 in
set_option maxRecDepth 100000 in
theorem c_X1_takeContact_closing (l : Launch) (D : va_G) (cI cC cO cJ : ClassId) (fu : Nat) (a_this a_closing a_opening : Nat) (sz : Nat) (f_next : Int32) (f_kind : Int32) (f_owner : Int32) (f_time : Int32) (f_branches : Int32) (f_current : Int32) (f_closing : Nat → Int32) (f_opening : Nat → Int32) (p0 : Int32) (R : Int32 × Int32 × (Nat → Int32)) (h : F_X1_takeContact_closing fu f_next f_current f_closing f_opening p0 = some R) : Met l yX1_takeContact wsX1_takeContact ({ frames := 1, cells := 0, slots := 0, locals := 20 } : Room) (zPw D (ztys cI cC cO cJ) [(a_this, .inr (1, [.int f_next, .int f_kind, .int f_owner, .int f_time, .int f_branches, .int f_current, .ref a_closing, .ref a_opening])), (a_closing, .inl (cI, 4, .inl f_closing)), (a_opening, .inl (cI, 4, .inl f_opening))] sz [.ref a_this, .int p0, .ref a_closing]) (zWi D R.1 [(a_this, .inr (1, [.int R.2.1, .int f_kind, .int f_owner, .int f_time, .int f_branches, .int f_current, .ref a_closing, .ref a_opening])), (a_closing, .inl (cI, 4, .inl R.2.2)), (a_opening, .inl (cI, 4, .inl f_opening))] (va_A [(a_this, .inr (1, [.int f_next, .int f_kind, .int f_owner, .int f_time, .int f_branches, .int f_current, .ref a_closing, .ref a_opening])), (a_closing, .inl (cI, 4, .inl f_closing)), (a_opening, .inl (cI, 4, .inl f_opening))] sz)) 0 0 (va_A [(a_this, .inr (1, [.int f_next, .int f_kind, .int f_owner, .int f_time, .int f_branches, .int f_current, .ref a_closing, .ref a_opening])), (a_closing, .inl (cI, 4, .inl f_closing)), (a_opening, .inl (cI, 4, .inl f_opening))] sz) := by
  refine Met.ofW (cc := cX1_takeContact) (maxL := 4) (ret := (some .boolean)) (by decide) rfl ?_
  intro p e s m args below meth c s₁ B hml hv
  obtain ⟨rfl, hsz, hP, hK, hD0⟩ := hv
  have hx := B.exec
  have hb := B.bytes
  have hr := B.returns
  have hts := atoms_spec (ws := wsX1_takeContact) B.pre
  have hown : s.vm.findClass RX1 = some m.cls := findClass_of_methodNamed B.named
  have hlocks := B.notSynchronized
  have hinX1 : ∀ w ∈ wsX10, w ∈ wsX1_takeContact := fun _ h => (List.mem_cons_of_mem _ (List.mem_append_right _ h))
  subst hsz
  have hD := hD0.self (sz := s.heap.size)
  generalize hAe : va_A [(a_this, .inr (1, [.int f_next, .int f_kind, .int f_owner, .int f_time, .int f_branches, .int f_current, .ref a_closing, .ref a_opening])), (a_closing, .inl (cI, 4, .inl f_closing)), (a_opening, .inl (cI, 4, .inl f_opening))] s.heap.size = A at hD ⊢
  have hA : ∀ q : Nat, s.heap.size ≤ q → A q := fun q h => by rw [← hAe]; exact Or.inr h
  have hS : va_S A s.heap s.heap [] := va_S.rf
  have hP : va_P D vwCl [(a_this, .inr (1, [.int f_next, .int f_kind, .int f_owner, .int f_time, .int f_branches, .int f_current, .ref a_closing, .ref a_opening])), (a_closing, .inl (cI, 4, .inl f_closing)), (a_opening, .inl (cI, 4, .inl f_opening))] s.heap := hP
  have hK : va_K D vwCl (ztys cI cC cO cJ) s := hK
  have hl := lv_entry ([.ref a_this, .int p0, .ref a_closing]) (n := 4) (Nat.le_of_ble_eq_true rfl)
  rw [lg_entry_eq]
  generalize (lg_sl ([.ref a_this, .int p0, .ref a_closing]) ++ List.replicate (4 - (lg_sl ([.ref a_this, .int p0, .ref a_closing])).length) Slot.unset).toArray = ls at hl ⊢
  have hl : lv_has ls 4 [(0, .ref a_this), (1, .int p0), (2, .ref a_closing)] := hl
  unfold F_X1_takeContact_closing at h
  refine lv_iload_n hx hb dX1_takeContact_0 rfl (lv_at hl 1 rfl) ?_
  obtain ⟨v1, hv1, h⟩ := zbnd h
  refine zc_i (W.runS (As := [.int p0]) (rest := []) ⟨hx, hb, hml, hown, hts⟩ (c_X1_contactOf l D cI cC cO cJ fu p0 v1 hv1) (va_cwS 1 hts gX1_takeContact_X1_contactOf rfl rfl rfl (by decide +kernel) ⟨Nat.le_of_ble_eq_true rfl, Nat.le_of_ble_eq_true rfl⟩) (zPr_S hK zP_nil) rfl rfl hl.1 rfl (lv_room (Nat.le_of_ble_eq_true rfl)) dX1_takeContact_1 ⟨Nat.zero_le _, Nat.zero_le _⟩) ?_
  refine lv_istore_n (lv' := [(3, .int v1), (0, .ref a_this), (1, .int p0), (2, .ref a_closing)]) hx hb dX1_takeContact_4 rfl hl (by decide) rfl (fun ls hl => ?_)
  refine lv_iload_n hx hb dX1_takeContact_5 rfl (lv_at hl 0 rfl) ?_
  refine lv_if_eq (tgt := 18) hx hb dX1_takeContact_6 (by decide) (fun c2 => ?_) (fun c2 => ?_)
  · have h := zif_t c2 h
    refine lv_iconst (v := (0 : Int32)) hx hb dX1_takeContact_18 (by decide) ?_
    have hR := Option.some.inj h
    subst hR
    exact W.zret (v := (0 : Int32)) (ty := .boolean) hx hb hr rfl (fun t ht hW => ⟨⟨_, (), rfl, rfl, zhp ht hP⟩, hS.F ht⟩) hS.2.2 dX1_takeContact_19
  · have h := zif_f c2 h
    refine lv_aload_n hx hb dX1_takeContact_9 rfl (lv_at hl 1 rfl) ?_
    obtain ⟨v3, hv3, h⟩ := zbnd h
    refine zc_i (W.runV (C := RX1) (As := []) (rest := []) ⟨hx, hb, hml, hown, hts⟩ (c_X1_contactsOfBranch l D cI cC cO cJ fu a_this a_closing a_opening f_next f_kind f_owner f_time f_branches f_current f_closing f_opening v3 hv3) (cwV 0 hts gX1_takeContact_X1_contactsOfBranch rfl rfl rfl (by decide +kernel) ⟨Nat.le_of_ble_eq_true rfl, Nat.le_of_ble_eq_true rfl⟩) ⟨zPr_blind, (va_recv hK hP (q0 := 0) (ci := 1) rfl rfl), zPr_pre hK hP⟩ rfl rfl hl.1 rfl (lv_room (Nat.le_of_ble_eq_true rfl)) dX1_takeContact_10 ⟨Nat.zero_le _, Nat.zero_le _⟩) ?_
    refine lv_iload_n hx hb dX1_takeContact_13 rfl (lv_at hl 0 rfl) ?_
    refine lv_iand hx hb dX1_takeContact_14 ?_
    refine lv_if_eq (tgt := 20) hx hb dX1_takeContact_15 (by decide) (fun c4 => ?_) (fun c4 => ?_)
    · have h := zif_t c4 h
      refine lv_aload_n hx hb dX1_takeContact_20 rfl (lv_at hl 3 rfl) ?_
      refine lv_aload_n hx hb dX1_takeContact_21 rfl (lv_at hl 1 rfl) ?_
      refine va_get (D := D) (ci := 1) (v := .int f_current) (C := RX1) (T := TX1) (N := 8) hx hb hts hinX1 hown hK hP 0 rfl rfl 5 (by decide) (hts (Cond.fieldLink RX1 63 "LadderRelays$Reader" "current" "I") (List.mem_of_getElem? (i := 1) rfl)) (fun _ h9 => h9) rfl dX1_takeContact_22 ?_
      refine lv_dup2_11 hx hb dX1_takeContact_25 rfl rfl ?_
      obtain ⟨v5, hv5, h⟩ := zbnd h
      refine zr_iald hx hb hK hP 1 0 rfl rfl hv5 dX1_takeContact_26 ?_
      refine lv_iload_n hx hb dX1_takeContact_27 rfl (lv_at hl 0 rfl) ?_
      refine lv_ior hx hb dX1_takeContact_28 ?_
      obtain ⟨v6, hv6, h⟩ := zbnd h
      refine zr_iast hx hb hK hP hD hS 1 0 rfl rfl hv6 dX1_takeContact_29 (fun H locs hP hD hS => ?_)
      have hP : va_P D vwCl [(a_this, .inr (1, [.int f_next, .int f_kind, .int f_owner, .int f_time, .int f_branches, .int f_current, .ref a_closing, .ref a_opening])), (a_closing, .inl (cI, 4, .inl v6)), (a_opening, .inl (cI, 4, .inl f_opening))] H := hP
      have hD : va_D A [(a_this, .inr (1, [.int f_next, .int f_kind, .int f_owner, .int f_time, .int f_branches, .int f_current, .ref a_closing, .ref a_opening])), (a_closing, .inl (cI, 4, .inl v6)), (a_opening, .inl (cI, 4, .inl f_opening))] := hD
      refine lv_aload_n hx hb dX1_takeContact_30 rfl (lv_at hl 1 rfl) ?_
      refine lv_iconst (v := (4 : Int32)) hx hb dX1_takeContact_31 (by decide) ?_
      refine va_put (D := D) (ci := 1) (v := .int (4 : Int32)) (ty := .int) (C := RX1) (T := TX1) (N := 8) hx hb hts hinX1 tyX1 tyX1_ok nmX1 hown hK hP hD hS 0 rfl rfl 0 (by decide) (hts (Cond.fieldLink RX1 18 "LadderRelays$Reader" "next" "I") (List.mem_of_getElem? (i := 2) rfl)) (fun _ h9 => h9) rfl (by decide +kernel) rfl rfl (Nat.le_of_ble_eq_true rfl) dX1_takeContact_32 (fun H locs hP hD hS => ?_)
      have hP : va_P D vwCl [(a_this, .inr (1, [.int (4 : Int32), .int f_kind, .int f_owner, .int f_time, .int f_branches, .int f_current, .ref a_closing, .ref a_opening])), (a_closing, .inl (cI, 4, .inl v6)), (a_opening, .inl (cI, 4, .inl f_opening))] H := hP
      have hD : va_D A [(a_this, .inr (1, [.int (4 : Int32), .int f_kind, .int f_owner, .int f_time, .int f_branches, .int f_current, .ref a_closing, .ref a_opening])), (a_closing, .inl (cI, 4, .inl v6)), (a_opening, .inl (cI, 4, .inl f_opening))] := hD
      refine lv_iconst (v := (1 : Int32)) hx hb dX1_takeContact_35 (by decide) ?_
      have hR := Option.some.inj h
      subst hR
      exact W.zret (v := (1 : Int32)) (ty := .boolean) hx hb hr rfl (fun t ht hW => ⟨⟨_, (), rfl, rfl, zhp ht hP⟩, hS.F ht⟩) hS.2.2 dX1_takeContact_36
    · have h := zif_f c4 h
      refine lv_iconst (v := (0 : Int32)) hx hb dX1_takeContact_18 (by decide) ?_
      have hR := Option.some.inj h
      subst hR
      exact W.zret (v := (0 : Int32)) (ty := .boolean) hx hb hr rfl (fun t ht hW => ⟨⟨_, (), rfl, rfl, zhp ht hP⟩, hS.F ht⟩) hS.2.2 dX1_takeContact_19
def F_X1_takeContact_opening (fu : Nat) (f_next : Int32) (f_current : Int32) (f_closing : Nat → Int32) (f_opening : Nat → Int32) (p0 : Int32) : Option (Int32 × Int32 × (Nat → Int32)) := (F_X1_contactOf fu p0).bind fun v1 => if v1 = (0 : Int32) then some ((0 : Int32), f_next, f_opening) else (F_X1_contactsOfBranch fu f_current f_closing f_opening).bind fun v3 => if (v3 &&& v1) = (0 : Int32) then (zrd f_opening 4 f_current).bind fun v5 => (zwr f_opening 4 f_current (v5 ||| v1)).bind fun v6 => some ((1 : Int32), (4 : Int32), v6) else some ((0 : Int32), f_next, f_opening)
set_option maxHeartbeats 4000000 in
set_option maxRecDepth 100000 in
theorem c_X1_takeContact_opening (l : Launch) (D : va_G) (cI cC cO cJ : ClassId) (fu : Nat) (a_this a_closing a_opening : Nat) (sz : Nat) (f_next : Int32) (f_kind : Int32) (f_owner : Int32) (f_time : Int32) (f_branches : Int32) (f_current : Int32) (f_closing : Nat → Int32) (f_opening : Nat → Int32) (p0 : Int32) (R : Int32 × Int32 × (Nat → Int32)) (h : F_X1_takeContact_opening fu f_next f_current f_closing f_opening p0 = some R) : Met l yX1_takeContact wsX1_takeContact ({ frames := 1, cells := 0, slots := 0, locals := 20 } : Room) (zPw D (ztys cI cC cO cJ) [(a_this, .inr (1, [.int f_next, .int f_kind, .int f_owner, .int f_time, .int f_branches, .int f_current, .ref a_closing, .ref a_opening])), (a_closing, .inl (cI, 4, .inl f_closing)), (a_opening, .inl (cI, 4, .inl f_opening))] sz [.ref a_this, .int p0, .ref a_opening]) (zWi D R.1 [(a_this, .inr (1, [.int R.2.1, .int f_kind, .int f_owner, .int f_time, .int f_branches, .int f_current, .ref a_closing, .ref a_opening])), (a_closing, .inl (cI, 4, .inl f_closing)), (a_opening, .inl (cI, 4, .inl R.2.2))] (va_A [(a_this, .inr (1, [.int f_next, .int f_kind, .int f_owner, .int f_time, .int f_branches, .int f_current, .ref a_closing, .ref a_opening])), (a_closing, .inl (cI, 4, .inl f_closing)), (a_opening, .inl (cI, 4, .inl f_opening))] sz)) 0 0 (va_A [(a_this, .inr (1, [.int f_next, .int f_kind, .int f_owner, .int f_time, .int f_branches, .int f_current, .ref a_closing, .ref a_opening])), (a_closing, .inl (cI, 4, .inl f_closing)), (a_opening, .inl (cI, 4, .inl f_opening))] sz) := by
  refine Met.ofW (cc := cX1_takeContact) (maxL := 4) (ret := (some .boolean)) (by decide) rfl ?_
  intro p e s m args below meth c s₁ B hml hv
  obtain ⟨rfl, hsz, hP, hK, hD0⟩ := hv
  have hx := B.exec
  have hb := B.bytes
  have hr := B.returns
  have hts := atoms_spec (ws := wsX1_takeContact) B.pre
  have hown : s.vm.findClass RX1 = some m.cls := findClass_of_methodNamed B.named
  have hlocks := B.notSynchronized
  have hinX1 : ∀ w ∈ wsX10, w ∈ wsX1_takeContact := fun _ h => (List.mem_cons_of_mem _ (List.mem_append_right _ h))
  subst hsz
  have hD := hD0.self (sz := s.heap.size)
  generalize hAe : va_A [(a_this, .inr (1, [.int f_next, .int f_kind, .int f_owner, .int f_time, .int f_branches, .int f_current, .ref a_closing, .ref a_opening])), (a_closing, .inl (cI, 4, .inl f_closing)), (a_opening, .inl (cI, 4, .inl f_opening))] s.heap.size = A at hD ⊢
  have hA : ∀ q : Nat, s.heap.size ≤ q → A q := fun q h => by rw [← hAe]; exact Or.inr h
  have hS : va_S A s.heap s.heap [] := va_S.rf
  have hP : va_P D vwCl [(a_this, .inr (1, [.int f_next, .int f_kind, .int f_owner, .int f_time, .int f_branches, .int f_current, .ref a_closing, .ref a_opening])), (a_closing, .inl (cI, 4, .inl f_closing)), (a_opening, .inl (cI, 4, .inl f_opening))] s.heap := hP
  have hK : va_K D vwCl (ztys cI cC cO cJ) s := hK
  have hl := lv_entry ([.ref a_this, .int p0, .ref a_opening]) (n := 4) (Nat.le_of_ble_eq_true rfl)
  rw [lg_entry_eq]
  generalize (lg_sl ([.ref a_this, .int p0, .ref a_opening]) ++ List.replicate (4 - (lg_sl ([.ref a_this, .int p0, .ref a_opening])).length) Slot.unset).toArray = ls at hl ⊢
  have hl : lv_has ls 4 [(0, .ref a_this), (1, .int p0), (2, .ref a_opening)] := hl
  unfold F_X1_takeContact_opening at h
  refine lv_iload_n hx hb dX1_takeContact_0 rfl (lv_at hl 1 rfl) ?_
  obtain ⟨v1, hv1, h⟩ := zbnd h
  refine zc_i (W.runS (As := [.int p0]) (rest := []) ⟨hx, hb, hml, hown, hts⟩ (c_X1_contactOf l D cI cC cO cJ fu p0 v1 hv1) (va_cwS 1 hts gX1_takeContact_X1_contactOf rfl rfl rfl (by decide +kernel) ⟨Nat.le_of_ble_eq_true rfl, Nat.le_of_ble_eq_true rfl⟩) (zPr_S hK zP_nil) rfl rfl hl.1 rfl (lv_room (Nat.le_of_ble_eq_true rfl)) dX1_takeContact_1 ⟨Nat.zero_le _, Nat.zero_le _⟩) ?_
  refine lv_istore_n (lv' := [(3, .int v1), (0, .ref a_this), (1, .int p0), (2, .ref a_opening)]) hx hb dX1_takeContact_4 rfl hl (by decide) rfl (fun ls hl => ?_)
  refine lv_iload_n hx hb dX1_takeContact_5 rfl (lv_at hl 0 rfl) ?_
  refine lv_if_eq (tgt := 18) hx hb dX1_takeContact_6 (by decide) (fun c2 => ?_) (fun c2 => ?_)
  · have h := zif_t c2 h
    refine lv_iconst (v := (0 : Int32)) hx hb dX1_takeContact_18 (by decide) ?_
    have hR := Option.some.inj h
    subst hR
    exact W.zret (v := (0 : Int32)) (ty := .boolean) hx hb hr rfl (fun t ht hW => ⟨⟨_, (), rfl, rfl, zhp ht hP⟩, hS.F ht⟩) hS.2.2 dX1_takeContact_19
  · have h := zif_f c2 h
    refine lv_aload_n hx hb dX1_takeContact_9 rfl (lv_at hl 1 rfl) ?_
    obtain ⟨v3, hv3, h⟩ := zbnd h
    refine zc_i (W.runV (C := RX1) (As := []) (rest := []) ⟨hx, hb, hml, hown, hts⟩ (c_X1_contactsOfBranch l D cI cC cO cJ fu a_this a_closing a_opening f_next f_kind f_owner f_time f_branches f_current f_closing f_opening v3 hv3) (cwV 0 hts gX1_takeContact_X1_contactsOfBranch rfl rfl rfl (by decide +kernel) ⟨Nat.le_of_ble_eq_true rfl, Nat.le_of_ble_eq_true rfl⟩) ⟨zPr_blind, (va_recv hK hP (q0 := 0) (ci := 1) rfl rfl), zPr_pre hK hP⟩ rfl rfl hl.1 rfl (lv_room (Nat.le_of_ble_eq_true rfl)) dX1_takeContact_10 ⟨Nat.zero_le _, Nat.zero_le _⟩) ?_
    refine lv_iload_n hx hb dX1_takeContact_13 rfl (lv_at hl 0 rfl) ?_
    refine lv_iand hx hb dX1_takeContact_14 ?_
    refine lv_if_eq (tgt := 20) hx hb dX1_takeContact_15 (by decide) (fun c4 => ?_) (fun c4 => ?_)
    · have h := zif_t c4 h
      refine lv_aload_n hx hb dX1_takeContact_20 rfl (lv_at hl 3 rfl) ?_
      refine lv_aload_n hx hb dX1_takeContact_21 rfl (lv_at hl 1 rfl) ?_
      refine va_get (D := D) (ci := 1) (v := .int f_current) (C := RX1) (T := TX1) (N := 8) hx hb hts hinX1 hown hK hP 0 rfl rfl 5 (by decide) (hts (Cond.fieldLink RX1 63 "LadderRelays$Reader" "current" "I") (List.mem_of_getElem? (i := 1) rfl)) (fun _ h9 => h9) rfl dX1_takeContact_22 ?_
      refine lv_dup2_11 hx hb dX1_takeContact_25 rfl rfl ?_
      obtain ⟨v5, hv5, h⟩ := zbnd h
      refine zr_iald hx hb hK hP 2 0 rfl rfl hv5 dX1_takeContact_26 ?_
      refine lv_iload_n hx hb dX1_takeContact_27 rfl (lv_at hl 0 rfl) ?_
      refine lv_ior hx hb dX1_takeContact_28 ?_
      obtain ⟨v6, hv6, h⟩ := zbnd h
      refine zr_iast hx hb hK hP hD hS 2 0 rfl rfl hv6 dX1_takeContact_29 (fun H locs hP hD hS => ?_)
      have hP : va_P D vwCl [(a_this, .inr (1, [.int f_next, .int f_kind, .int f_owner, .int f_time, .int f_branches, .int f_current, .ref a_closing, .ref a_opening])), (a_closing, .inl (cI, 4, .inl f_closing)), (a_opening, .inl (cI, 4, .inl v6))] H := hP
      have hD : va_D A [(a_this, .inr (1, [.int f_next, .int f_kind, .int f_owner, .int f_time, .int f_branches, .int f_current, .ref a_closing, .ref a_opening])), (a_closing, .inl (cI, 4, .inl f_closing)), (a_opening, .inl (cI, 4, .inl v6))] := hD
      refine lv_aload_n hx hb dX1_takeContact_30 rfl (lv_at hl 1 rfl) ?_
      refine lv_iconst (v := (4 : Int32)) hx hb dX1_takeContact_31 (by decide) ?_
      refine va_put (D := D) (ci := 1) (v := .int (4 : Int32)) (ty := .int) (C := RX1) (T := TX1) (N := 8) hx hb hts hinX1 tyX1 tyX1_ok nmX1 hown hK hP hD hS 0 rfl rfl 0 (by decide) (hts (Cond.fieldLink RX1 18 "LadderRelays$Reader" "next" "I") (List.mem_of_getElem? (i := 2) rfl)) (fun _ h9 => h9) rfl (by decide +kernel) rfl rfl (Nat.le_of_ble_eq_true rfl) dX1_takeContact_32 (fun H locs hP hD hS => ?_)
      have hP : va_P D vwCl [(a_this, .inr (1, [.int (4 : Int32), .int f_kind, .int f_owner, .int f_time, .int f_branches, .int f_current, .ref a_closing, .ref a_opening])), (a_closing, .inl (cI, 4, .inl f_closing)), (a_opening, .inl (cI, 4, .inl v6))] H := hP
      have hD : va_D A [(a_this, .inr (1, [.int (4 : Int32), .int f_kind, .int f_owner, .int f_time, .int f_branches, .int f_current, .ref a_closing, .ref a_opening])), (a_closing, .inl (cI, 4, .inl f_closing)), (a_opening, .inl (cI, 4, .inl v6))] := hD
      refine lv_iconst (v := (1 : Int32)) hx hb dX1_takeContact_35 (by decide) ?_
      have hR := Option.some.inj h
      subst hR
      exact W.zret (v := (1 : Int32)) (ty := .boolean) hx hb hr rfl (fun t ht hW => ⟨⟨_, (), rfl, rfl, zhp ht hP⟩, hS.F ht⟩) hS.2.2 dX1_takeContact_36
    · have h := zif_f c4 h
      refine lv_iconst (v := (0 : Int32)) hx hb dX1_takeContact_18 (by decide) ?_
      have hR := Option.some.inj h
      subst hR
      exact W.zret (v := (0 : Int32)) (ty := .boolean) hx hb hr rfl (fun t ht hW => ⟨⟨_, (), rfl, rfl, zhp ht hP⟩, hS.F ht⟩) hS.2.2 dX1_takeContact_19
def F_X1_takeMore_J34 (fu : Nat) (f_closing : Nat → Int32) (f_current : Int32) (f_next : Int32) (f_opening : Nat → Int32) (p0 : Int32)  : Option (Int32 × Int32 × (Nat → Int32)) := (F_X1_takeNot fu f_next f_current f_closing f_opening p0).bind fun v2 => if v2.1 = (0 : Int32) then (F_X1_takeContact_closing fu v2.2 f_current f_closing f_opening p0).bind fun v4 => if v4.1 = (0 : Int32) then some ((0 : Int32), v4.2.1, v4.2.2) else some ((1 : Int32), v4.2.1, v4.2.2) else some ((1 : Int32), v2.2, f_closing)
def F_X1_takeMore (fu : Nat) (f_next : Int32) (f_branches : Int32) (f_current : Int32) (f_closing : Nat → Int32) (f_opening : Nat → Int32) (p0 : Int32) : Option (Int32 × Int32 × (Nat → Int32)) := if p0 = (59 : Int32) then some ((1 : Int32), (0 : Int32), f_closing) else if p0 = (43 : Int32) then if (4 : Int32) ≤ f_branches then F_X1_takeMore_J34 fu f_closing f_current f_next f_opening p0 else some ((1 : Int32), (2 : Int32), f_closing) else F_X1_takeMore_J34 fu f_closing f_current f_next f_opening p0
set_option maxHeartbeats 4000000 in
set_option maxRecDepth 100000 in
theorem c_X1_takeMore (l : Launch) (D : va_G) (cI cC cO cJ : ClassId) (fu : Nat) (a_this a_closing a_opening : Nat) (sz : Nat) (f_next : Int32) (f_kind : Int32) (f_owner : Int32) (f_time : Int32) (f_branches : Int32) (f_current : Int32) (f_closing : Nat → Int32) (f_opening : Nat → Int32) (p0 : Int32) (R : Int32 × Int32 × (Nat → Int32)) (h : F_X1_takeMore fu f_next f_branches f_current f_closing f_opening p0 = some R) : Met l yX1_takeMore wsX1_takeMore ({ frames := 2, cells := 0, slots := 0, locals := 43 } : Room) (zPw D (ztys cI cC cO cJ) [(a_this, .inr (1, [.int f_next, .int f_kind, .int f_owner, .int f_time, .int f_branches, .int f_current, .ref a_closing, .ref a_opening])), (a_closing, .inl (cI, 4, .inl f_closing)), (a_opening, .inl (cI, 4, .inl f_opening))] sz [.ref a_this, .int p0]) (zWi D R.1 [(a_this, .inr (1, [.int R.2.1, .int f_kind, .int f_owner, .int f_time, .int f_branches, .int f_current, .ref a_closing, .ref a_opening])), (a_closing, .inl (cI, 4, .inl R.2.2)), (a_opening, .inl (cI, 4, .inl f_opening))] (va_A [(a_this, .inr (1, [.int f_next, .int f_kind, .int f_owner, .int f_time, .int f_branches, .int f_current, .ref a_closing, .ref a_opening])), (a_closing, .inl (cI, 4, .inl f_closing)), (a_opening, .inl (cI, 4, .inl f_opening))] sz)) 0 0 (va_A [(a_this, .inr (1, [.int f_next, .int f_kind, .int f_owner, .int f_time, .int f_branches, .int f_current, .ref a_closing, .ref a_opening])), (a_closing, .inl (cI, 4, .inl f_closing)), (a_opening, .inl (cI, 4, .inl f_opening))] sz) := by
  refine Met.ofW (cc := cX1_takeMore) (maxL := 2) (ret := (some .boolean)) (by decide) rfl ?_
  intro p e s m args below meth c s₁ B hml hv
  obtain ⟨rfl, hsz, hP, hK, hD0⟩ := hv
  have hx := B.exec
  have hb := B.bytes
  have hr := B.returns
  have hts := atoms_spec (ws := wsX1_takeMore) B.pre
  have hown : s.vm.findClass RX1 = some m.cls := findClass_of_methodNamed B.named
  have hlocks := B.notSynchronized
  have hinX1 : ∀ w ∈ wsX10, w ∈ wsX1_takeMore := fun _ h => (List.mem_cons_of_mem _ (List.mem_append_right _ h))
  subst hsz
  have hD := hD0.self (sz := s.heap.size)
  generalize hAe : va_A [(a_this, .inr (1, [.int f_next, .int f_kind, .int f_owner, .int f_time, .int f_branches, .int f_current, .ref a_closing, .ref a_opening])), (a_closing, .inl (cI, 4, .inl f_closing)), (a_opening, .inl (cI, 4, .inl f_opening))] s.heap.size = A at hD ⊢
  have hA : ∀ q : Nat, s.heap.size ≤ q → A q := fun q h => by rw [← hAe]; exact Or.inr h
  have hS : va_S A s.heap s.heap [] := va_S.rf
  have hP : va_P D vwCl [(a_this, .inr (1, [.int f_next, .int f_kind, .int f_owner, .int f_time, .int f_branches, .int f_current, .ref a_closing, .ref a_opening])), (a_closing, .inl (cI, 4, .inl f_closing)), (a_opening, .inl (cI, 4, .inl f_opening))] s.heap := hP
  have hK : va_K D vwCl (ztys cI cC cO cJ) s := hK
  have hl := lv_entry ([.ref a_this, .int p0]) (n := 2) (Nat.le_of_ble_eq_true rfl)
  rw [lg_entry_eq]
  generalize (lg_sl ([.ref a_this, .int p0]) ++ List.replicate (2 - (lg_sl ([.ref a_this, .int p0])).length) Slot.unset).toArray = ls at hl ⊢
  have hl : lv_has ls 2 [(0, .ref a_this), (1, .int p0)] := hl
  unfold F_X1_takeMore at h
  refine lv_iload_n hx hb dX1_takeMore_0 rfl (lv_at hl 1 rfl) ?_
  refine lv_bipush (v := (59 : Int32)) hx hb dX1_takeMore_1 (by decide) ?_
  refine lv_icmp_ne (tgt := 13) hx hb dX1_takeMore_3 (by decide) (fun c1 => ?_) (fun c1 => ?_)
  · have h := zif_f c1 h
    refine lv_iload_n hx hb dX1_takeMore_13 rfl (lv_at hl 1 rfl) ?_
    refine lv_bipush (v := (43 : Int32)) hx hb dX1_takeMore_14 (by decide) ?_
    have J34 : ∀ (_ : Unit), F_X1_takeMore_J34 fu f_closing f_current f_next f_opening p0 = some R → ∀ (H : Heap) (locs : List Loc), va_P D vwCl [(a_this, .inr (1, [.int f_next, .int f_kind, .int f_owner, .int f_time, .int f_branches, .int f_current, .ref a_closing, .ref a_opening])), (a_closing, .inl (cI, 4, .inl f_closing)), (a_opening, .inl (cI, 4, .inl f_opening))] H → va_D A [(a_this, .inr (1, [.int f_next, .int f_kind, .int f_owner, .int f_time, .int f_branches, .int f_current, .ref a_closing, .ref a_opening])), (a_closing, .inl (cI, 4, .inl f_closing)), (a_opening, .inl (cI, 4, .inl f_opening))] → va_S A s.heap H locs → ∀ ls : Array Slot, lv_has ls 2 [(0, .ref a_this), (1, .int p0)] → W p l e ({ frames := 2, cells := 0, slots := 0, locals := 43 } : Room) s m (([.ref a_this, .int p0] : List Value).toArray) below meth c H locs 0 0 (MQ below (zWi D R.1 [(a_this, .inr (1, [.int R.2.1, .int f_kind, .int f_owner, .int f_time, .int f_branches, .int f_current, .ref a_closing, .ref a_opening])), (a_closing, .inl (cI, 4, .inl R.2.2)), (a_opening, .inl (cI, 4, .inl f_opening))] A) (([.ref a_this, .int p0] : List Value).toArray) s 0 0 A) (F0 m 34 ls []) := by
      intro _ h H locs hP hD hS ls hl
      unfold F_X1_takeMore_J34 at h
      refine lv_aload_n hx hb dX1_takeMore_34 rfl (lv_at hl 0 rfl) ?_
      refine lv_iload_n hx hb dX1_takeMore_35 rfl (lv_at hl 1 rfl) ?_
      obtain ⟨v2, hv2, h⟩ := zbnd h
      have hFc := va_free (wc := [(a_this, .inr (1, [.int f_next, .int f_kind, .int f_owner, .int f_time, .int f_branches, .int f_current, .ref a_closing, .ref a_opening])), (a_closing, .inl (cI, 4, .inl f_closing)), (a_opening, .inl (cI, 4, .inl f_opening))]) hD hS hA [0, 1, 2] rfl
      refine zc_wi (va_runV (C := RX1) (As := [.int p0]) (rest := []) ⟨hx, hb, hml, hown, hts⟩ (c_X1_takeNot l D cI cC cO cJ fu a_this a_closing a_opening _ f_next f_kind f_owner f_time f_branches f_current f_closing f_opening p0 v2 hv2) (cwV 1 hts gX1_takeMore_X1_takeNot rfl rfl rfl (by decide +kernel) ⟨Nat.le_of_ble_eq_true rfl, Nat.le_of_ble_eq_true rfl⟩) ⟨zPw_blind, (va_recv hK hP (q0 := 0) (ci := 1) rfl rfl), zPw_pre hK hP hD⟩ rfl rfl hl.1 rfl (lv_room (Nat.le_of_ble_eq_true rfl)) dX1_takeMore_36 ⟨Nat.zero_le _, Nat.zero_le _⟩) hS hFc (fun H locs hk1 hP1 hS => ?_)
      obtain ⟨hP, hD⟩ := zjn (ws' := [(a_this, .inr (1, [.int v2.2, .int f_kind, .int f_owner, .int f_time, .int f_branches, .int f_current, .ref a_closing, .ref a_opening])), (a_closing, .inl (cI, 4, .inl f_closing)), (a_opening, .inl (cI, 4, .inl f_opening))]) hP hD [0, 1, 2] [.inr 0, .inr 1, .inr 2] rfl rfl rfl hk1 hP1
      refine lv_if_ne (tgt := 54) hx hb dX1_takeMore_39 (by decide) (fun c3 => ?_) (fun c3 => ?_)
      · have h := zif_f c3 h
        refine lv_iconst (v := (1 : Int32)) hx hb dX1_takeMore_54 (by decide) ?_
        refine lv_goto (tgt := 59) hx hb dX1_takeMore_55 (by decide) ?_
        have hR := Option.some.inj h
        subst hR
        exact W.zret (v := (1 : Int32)) (ty := .boolean) hx hb hr rfl (fun t ht hW => ⟨⟨_, (), rfl, rfl, zhp ht hP⟩, hS.F ht⟩) hS.2.2 dX1_takeMore_59
      · have h := zif_t c3 h
        refine lv_aload_n hx hb dX1_takeMore_42 rfl (lv_at hl 0 rfl) ?_
        refine lv_iload_n hx hb dX1_takeMore_43 rfl (lv_at hl 1 rfl) ?_
        refine lv_aload_n hx hb dX1_takeMore_44 rfl (lv_at hl 0 rfl) ?_
        refine va_get (D := D) (ci := 1) (v := .ref a_closing) (C := RX1) (T := TX1) (N := 8) hx hb hts hinX1 hown hK hP 0 rfl rfl 6 (by decide) (hts (Cond.fieldLink RX1 9 "LadderRelays$Reader" "closing" "[I") (List.mem_of_getElem? (i := 3) rfl)) (fun _ h9 => h9) rfl dX1_takeMore_45 ?_
        obtain ⟨v4, hv4, h⟩ := zbnd h
        have hFc := va_free (wc := [(a_this, .inr (1, [.int v2.2, .int f_kind, .int f_owner, .int f_time, .int f_branches, .int f_current, .ref a_closing, .ref a_opening])), (a_closing, .inl (cI, 4, .inl f_closing)), (a_opening, .inl (cI, 4, .inl f_opening))]) hD hS hA [0, 1, 2] rfl
        refine zc_wi (va_runV (C := RX1) (As := [.int p0, .ref a_closing]) (rest := []) ⟨hx, hb, hml, hown, hts⟩ (c_X1_takeContact_closing l D cI cC cO cJ fu a_this a_closing a_opening _ v2.2 f_kind f_owner f_time f_branches f_current f_closing f_opening p0 v4 hv4) (cwV 2 hts gX1_takeMore_X1_takeContact rfl rfl rfl (by decide +kernel) ⟨Nat.le_of_ble_eq_true rfl, Nat.le_of_ble_eq_true rfl⟩) ⟨zPw_blind, (va_recv hK hP (q0 := 0) (ci := 1) rfl rfl), zPw_pre hK hP hD⟩ rfl rfl hl.1 rfl (lv_room (Nat.le_of_ble_eq_true rfl)) dX1_takeMore_48 ⟨Nat.zero_le _, Nat.zero_le _⟩) hS hFc (fun H locs hk1 hP1 hS => ?_)
        obtain ⟨hP, hD⟩ := zjn (ws' := [(a_this, .inr (1, [.int v4.2.1, .int f_kind, .int f_owner, .int f_time, .int f_branches, .int f_current, .ref a_closing, .ref a_opening])), (a_closing, .inl (cI, 4, .inl v4.2.2)), (a_opening, .inl (cI, 4, .inl f_opening))]) hP hD [0, 1, 2] [.inr 0, .inr 1, .inr 2] rfl rfl rfl hk1 hP1
        refine lv_if_eq (tgt := 58) hx hb dX1_takeMore_51 (by decide) (fun c5 => ?_) (fun c5 => ?_)
        · have h := zif_t c5 h
          refine lv_iconst (v := (0 : Int32)) hx hb dX1_takeMore_58 (by decide) ?_
          have hR := Option.some.inj h
          subst hR
          exact W.zret (v := (0 : Int32)) (ty := .boolean) hx hb hr rfl (fun t ht hW => ⟨⟨_, (), rfl, rfl, zhp ht hP⟩, hS.F ht⟩) hS.2.2 dX1_takeMore_59
        · have h := zif_f c5 h
          refine lv_iconst (v := (1 : Int32)) hx hb dX1_takeMore_54 (by decide) ?_
          refine lv_goto (tgt := 59) hx hb dX1_takeMore_55 (by decide) ?_
          have hR := Option.some.inj h
          subst hR
          exact W.zret (v := (1 : Int32)) (ty := .boolean) hx hb hr rfl (fun t ht hW => ⟨⟨_, (), rfl, rfl, zhp ht hP⟩, hS.F ht⟩) hS.2.2 dX1_takeMore_59
    refine lv_icmp_ne (tgt := 34) hx hb dX1_takeMore_16 (by decide) (fun c6 => ?_) (fun c6 => ?_)
    · have h := zif_f c6 h
      exact J34 () h _ _ hP hD hS ls (lv_sub hl [0, 1] rfl)
    · have h := zif_t c6 h
      refine lv_aload_n hx hb dX1_takeMore_19 rfl (lv_at hl 0 rfl) ?_
      refine va_get (D := D) (ci := 1) (v := .int f_branches) (C := RX1) (T := TX1) (N := 8) hx hb hts hinX1 hown hK hP 0 rfl rfl 4 (by decide) (hts (Cond.fieldLink RX1 50 "LadderRelays$Reader" "branches" "I") (List.mem_of_getElem? (i := 2) rfl)) (fun _ h9 => h9) rfl dX1_takeMore_20 ?_
      refine lv_iconst (v := (4 : Int32)) hx hb dX1_takeMore_23 (by decide) ?_
      refine lv_icmp_ge (tgt := 34) hx hb dX1_takeMore_24 (by decide) (fun c7 => ?_) (fun c7 => ?_)
      · have h := zif_t c7 h
        exact J34 () h _ _ hP hD hS ls (lv_sub hl [0, 1] rfl)
      · have h := zif_f c7 h
        refine lv_aload_n hx hb dX1_takeMore_27 rfl (lv_at hl 0 rfl) ?_
        refine lv_iconst (v := (2 : Int32)) hx hb dX1_takeMore_28 (by decide) ?_
        refine va_put (D := D) (ci := 1) (v := .int (2 : Int32)) (ty := .int) (C := RX1) (T := TX1) (N := 8) hx hb hts hinX1 tyX1 tyX1_ok nmX1 hown hK hP hD hS 0 rfl rfl 0 (by decide) (hts (Cond.fieldLink RX1 18 "LadderRelays$Reader" "next" "I") (List.mem_of_getElem? (i := 1) rfl)) (fun _ h9 => h9) rfl (by decide +kernel) rfl rfl (Nat.le_of_ble_eq_true rfl) dX1_takeMore_29 (fun H locs hP hD hS => ?_)
        have hP : va_P D vwCl [(a_this, .inr (1, [.int (2 : Int32), .int f_kind, .int f_owner, .int f_time, .int f_branches, .int f_current, .ref a_closing, .ref a_opening])), (a_closing, .inl (cI, 4, .inl f_closing)), (a_opening, .inl (cI, 4, .inl f_opening))] H := hP
        have hD : va_D A [(a_this, .inr (1, [.int (2 : Int32), .int f_kind, .int f_owner, .int f_time, .int f_branches, .int f_current, .ref a_closing, .ref a_opening])), (a_closing, .inl (cI, 4, .inl f_closing)), (a_opening, .inl (cI, 4, .inl f_opening))] := hD
        refine lv_iconst (v := (1 : Int32)) hx hb dX1_takeMore_32 (by decide) ?_
        have hR := Option.some.inj h
        subst hR
        exact W.zret (v := (1 : Int32)) (ty := .boolean) hx hb hr rfl (fun t ht hW => ⟨⟨_, (), rfl, rfl, zhp ht hP⟩, hS.F ht⟩) hS.2.2 dX1_takeMore_33
  · have h := zif_t c1 h
    refine lv_aload_n hx hb dX1_takeMore_6 rfl (lv_at hl 0 rfl) ?_
    refine lv_iconst (v := (0 : Int32)) hx hb dX1_takeMore_7 (by decide) ?_
    refine va_put (D := D) (ci := 1) (v := .int (0 : Int32)) (ty := .int) (C := RX1) (T := TX1) (N := 8) hx hb hts hinX1 tyX1 tyX1_ok nmX1 hown hK hP hD hS 0 rfl rfl 0 (by decide) (hts (Cond.fieldLink RX1 18 "LadderRelays$Reader" "next" "I") (List.mem_of_getElem? (i := 1) rfl)) (fun _ h9 => h9) rfl (by decide +kernel) rfl rfl (Nat.le_of_ble_eq_true rfl) dX1_takeMore_8 (fun H locs hP hD hS => ?_)
    have hP : va_P D vwCl [(a_this, .inr (1, [.int (0 : Int32), .int f_kind, .int f_owner, .int f_time, .int f_branches, .int f_current, .ref a_closing, .ref a_opening])), (a_closing, .inl (cI, 4, .inl f_closing)), (a_opening, .inl (cI, 4, .inl f_opening))] H := hP
    have hD : va_D A [(a_this, .inr (1, [.int (0 : Int32), .int f_kind, .int f_owner, .int f_time, .int f_branches, .int f_current, .ref a_closing, .ref a_opening])), (a_closing, .inl (cI, 4, .inl f_closing)), (a_opening, .inl (cI, 4, .inl f_opening))] := hD
    refine lv_iconst (v := (1 : Int32)) hx hb dX1_takeMore_11 (by decide) ?_
    have hR := Option.some.inj h
    subst hR
    exact W.zret (v := (1 : Int32)) (ty := .boolean) hx hb hr rfl (fun t ht hW => ⟨⟨_, (), rfl, rfl, zhp ht hP⟩, hS.F ht⟩) hS.2.2 dX1_takeMore_12
def F_X1_takeFirstContact_J25 (fu : Nat) (f_branches : Int32) (f_closing : Nat → Int32) (f_next : Int32) (f_opening : Nat → Int32) (p0 : Int32)  : Option (Int32 × Int32 × Int32 × Int32 × (Nat → Int32) × (Nat → Int32)) := (zwr f_closing 4 f_branches (0 : Int32)).bind fun v2 => (zwr f_opening 4 f_branches (0 : Int32)).bind fun v3 => (F_X1_takeNot fu f_next f_branches v2 v3 p0).bind fun v4 => if v4.1 = (0 : Int32) then (F_X1_takeContact_closing fu v4.2 f_branches v2 v3 p0).bind fun v6 => if v6.1 = (0 : Int32) then some ((0 : Int32), v6.2.1, (f_branches + (1 : Int32)), f_branches, v6.2.2, v3) else some ((1 : Int32), v6.2.1, (f_branches + (1 : Int32)), f_branches, v6.2.2, v3) else some ((1 : Int32), v4.2, (f_branches + (1 : Int32)), f_branches, v2, v3)
def F_X1_takeFirstContact (fu : Nat) (f_next : Int32) (f_branches : Int32) (f_current : Int32) (f_closing : Nat → Int32) (f_opening : Nat → Int32) (p0 : Int32) : Option (Int32 × Int32 × Int32 × Int32 × (Nat → Int32) × (Nat → Int32)) := if f_branches < (4 : Int32) then if p0 = (33 : Int32) then F_X1_takeFirstContact_J25 fu f_branches f_closing f_next f_opening p0 else (F_X1_contactOf fu p0).bind fun v9 => if v9 = (0 : Int32) then some ((0 : Int32), f_next, f_branches, f_current, f_closing, f_opening) else F_X1_takeFirstContact_J25 fu f_branches f_closing f_next f_opening p0 else some ((0 : Int32), f_next, f_branches, f_current, f_closing, f_opening)
set_option maxHeartbeats 4000000 in
set_option maxRecDepth 100000 in
theorem c_X1_takeFirstContact (l : Launch) (D : va_G) (cI cC cO cJ : ClassId) (fu : Nat) (a_this a_closing a_opening : Nat) (sz : Nat) (f_next : Int32) (f_kind : Int32) (f_owner : Int32) (f_time : Int32) (f_branches : Int32) (f_current : Int32) (f_closing : Nat → Int32) (f_opening : Nat → Int32) (p0 : Int32) (R : Int32 × Int32 × Int32 × Int32 × (Nat → Int32) × (Nat → Int32)) (h : F_X1_takeFirstContact fu f_next f_branches f_current f_closing f_opening p0 = some R) : Met l yX1_takeFirstContact wsX1_takeFirstContact ({ frames := 2, cells := 0, slots := 0, locals := 43 } : Room) (zPw D (ztys cI cC cO cJ) [(a_this, .inr (1, [.int f_next, .int f_kind, .int f_owner, .int f_time, .int f_branches, .int f_current, .ref a_closing, .ref a_opening])), (a_closing, .inl (cI, 4, .inl f_closing)), (a_opening, .inl (cI, 4, .inl f_opening))] sz [.ref a_this, .int p0]) (zWi D R.1 [(a_this, .inr (1, [.int R.2.1, .int f_kind, .int f_owner, .int f_time, .int R.2.2.1, .int R.2.2.2.1, .ref a_closing, .ref a_opening])), (a_closing, .inl (cI, 4, .inl R.2.2.2.2.1)), (a_opening, .inl (cI, 4, .inl R.2.2.2.2.2))] (va_A [(a_this, .inr (1, [.int f_next, .int f_kind, .int f_owner, .int f_time, .int f_branches, .int f_current, .ref a_closing, .ref a_opening])), (a_closing, .inl (cI, 4, .inl f_closing)), (a_opening, .inl (cI, 4, .inl f_opening))] sz)) 0 0 (va_A [(a_this, .inr (1, [.int f_next, .int f_kind, .int f_owner, .int f_time, .int f_branches, .int f_current, .ref a_closing, .ref a_opening])), (a_closing, .inl (cI, 4, .inl f_closing)), (a_opening, .inl (cI, 4, .inl f_opening))] sz) := by
  refine Met.ofW (cc := cX1_takeFirstContact) (maxL := 2) (ret := (some .boolean)) (by decide) rfl ?_
  intro p e s m args below meth c s₁ B hml hv
  obtain ⟨rfl, hsz, hP, hK, hD0⟩ := hv
  have hx := B.exec
  have hb := B.bytes
  have hr := B.returns
  have hts := atoms_spec (ws := wsX1_takeFirstContact) B.pre
  have hown : s.vm.findClass RX1 = some m.cls := findClass_of_methodNamed B.named
  have hlocks := B.notSynchronized
  have hinX1 : ∀ w ∈ wsX10, w ∈ wsX1_takeFirstContact := fun _ h => (List.mem_cons_of_mem _ (List.mem_append_right _ h))
  subst hsz
  have hD := hD0.self (sz := s.heap.size)
  generalize hAe : va_A [(a_this, .inr (1, [.int f_next, .int f_kind, .int f_owner, .int f_time, .int f_branches, .int f_current, .ref a_closing, .ref a_opening])), (a_closing, .inl (cI, 4, .inl f_closing)), (a_opening, .inl (cI, 4, .inl f_opening))] s.heap.size = A at hD ⊢
  have hA : ∀ q : Nat, s.heap.size ≤ q → A q := fun q h => by rw [← hAe]; exact Or.inr h
  have hS : va_S A s.heap s.heap [] := va_S.rf
  have hP : va_P D vwCl [(a_this, .inr (1, [.int f_next, .int f_kind, .int f_owner, .int f_time, .int f_branches, .int f_current, .ref a_closing, .ref a_opening])), (a_closing, .inl (cI, 4, .inl f_closing)), (a_opening, .inl (cI, 4, .inl f_opening))] s.heap := hP
  have hK : va_K D vwCl (ztys cI cC cO cJ) s := hK
  have hl := lv_entry ([.ref a_this, .int p0]) (n := 2) (Nat.le_of_ble_eq_true rfl)
  rw [lg_entry_eq]
  generalize (lg_sl ([.ref a_this, .int p0]) ++ List.replicate (2 - (lg_sl ([.ref a_this, .int p0])).length) Slot.unset).toArray = ls at hl ⊢
  have hl : lv_has ls 2 [(0, .ref a_this), (1, .int p0)] := hl
  unfold F_X1_takeFirstContact at h
  refine lv_aload_n hx hb dX1_takeFirstContact_0 rfl (lv_at hl 0 rfl) ?_
  refine va_get (D := D) (ci := 1) (v := .int f_branches) (C := RX1) (T := TX1) (N := 8) hx hb hts hinX1 hown hK hP 0 rfl rfl 4 (by decide) (hts (Cond.fieldLink RX1 50 "LadderRelays$Reader" "branches" "I") (List.mem_of_getElem? (i := 1) rfl)) (fun _ h9 => h9) rfl dX1_takeFirstContact_1 ?_
  refine lv_iconst (v := (4 : Int32)) hx hb dX1_takeFirstContact_4 (by decide) ?_
  refine lv_icmp_lt (tgt := 10) hx hb dX1_takeFirstContact_5 (by decide) (fun c1 => ?_) (fun c1 => ?_)
  · have h := zif_t c1 h
    refine lv_iload_n hx hb dX1_takeFirstContact_10 rfl (lv_at hl 1 rfl) ?_
    refine lv_bipush (v := (33 : Int32)) hx hb dX1_takeFirstContact_11 (by decide) ?_
    have J25 : ∀ (_ : Unit), F_X1_takeFirstContact_J25 fu f_branches f_closing f_next f_opening p0 = some R → ∀ (H : Heap) (locs : List Loc), va_P D vwCl [(a_this, .inr (1, [.int f_next, .int f_kind, .int f_owner, .int f_time, .int f_branches, .int f_current, .ref a_closing, .ref a_opening])), (a_closing, .inl (cI, 4, .inl f_closing)), (a_opening, .inl (cI, 4, .inl f_opening))] H → va_D A [(a_this, .inr (1, [.int f_next, .int f_kind, .int f_owner, .int f_time, .int f_branches, .int f_current, .ref a_closing, .ref a_opening])), (a_closing, .inl (cI, 4, .inl f_closing)), (a_opening, .inl (cI, 4, .inl f_opening))] → va_S A s.heap H locs → ∀ ls : Array Slot, lv_has ls 2 [(0, .ref a_this), (1, .int p0)] → W p l e ({ frames := 2, cells := 0, slots := 0, locals := 43 } : Room) s m (([.ref a_this, .int p0] : List Value).toArray) below meth c H locs 0 0 (MQ below (zWi D R.1 [(a_this, .inr (1, [.int R.2.1, .int f_kind, .int f_owner, .int f_time, .int R.2.2.1, .int R.2.2.2.1, .ref a_closing, .ref a_opening])), (a_closing, .inl (cI, 4, .inl R.2.2.2.2.1)), (a_opening, .inl (cI, 4, .inl R.2.2.2.2.2))] A) (([.ref a_this, .int p0] : List Value).toArray) s 0 0 A) (F0 m 25 ls []) := by
      intro _ h H locs hP hD hS ls hl
      unfold F_X1_takeFirstContact_J25 at h
      refine lv_aload_n hx hb dX1_takeFirstContact_25 rfl (lv_at hl 0 rfl) ?_
      refine lv_aload_n hx hb dX1_takeFirstContact_26 rfl (lv_at hl 0 rfl) ?_
      refine va_get (D := D) (ci := 1) (v := .int f_branches) (C := RX1) (T := TX1) (N := 8) hx hb hts hinX1 hown hK hP 0 rfl rfl 4 (by decide) (hts (Cond.fieldLink RX1 50 "LadderRelays$Reader" "branches" "I") (List.mem_of_getElem? (i := 1) rfl)) (fun _ h9 => h9) rfl dX1_takeFirstContact_27 ?_
      refine va_put (D := D) (ci := 1) (v := .int f_branches) (ty := .int) (C := RX1) (T := TX1) (N := 8) hx hb hts hinX1 tyX1 tyX1_ok nmX1 hown hK hP hD hS 0 rfl rfl 5 (by decide) (hts (Cond.fieldLink RX1 63 "LadderRelays$Reader" "current" "I") (List.mem_of_getElem? (i := 2) rfl)) (fun _ h9 => h9) rfl (by decide +kernel) rfl rfl (Nat.le_of_ble_eq_true rfl) dX1_takeFirstContact_30 (fun H locs hP hD hS => ?_)
      have hP : va_P D vwCl [(a_this, .inr (1, [.int f_next, .int f_kind, .int f_owner, .int f_time, .int f_branches, .int f_branches, .ref a_closing, .ref a_opening])), (a_closing, .inl (cI, 4, .inl f_closing)), (a_opening, .inl (cI, 4, .inl f_opening))] H := hP
      have hD : va_D A [(a_this, .inr (1, [.int f_next, .int f_kind, .int f_owner, .int f_time, .int f_branches, .int f_branches, .ref a_closing, .ref a_opening])), (a_closing, .inl (cI, 4, .inl f_closing)), (a_opening, .inl (cI, 4, .inl f_opening))] := hD
      refine lv_aload_n hx hb dX1_takeFirstContact_33 rfl (lv_at hl 0 rfl) ?_
      refine lv_dup hx hb dX1_takeFirstContact_34 rfl ?_
      refine va_get (D := D) (ci := 1) (v := .int f_branches) (C := RX1) (T := TX1) (N := 8) hx hb hts hinX1 hown hK hP 0 rfl rfl 4 (by decide) (hts (Cond.fieldLink RX1 50 "LadderRelays$Reader" "branches" "I") (List.mem_of_getElem? (i := 1) rfl)) (fun _ h9 => h9) rfl dX1_takeFirstContact_35 ?_
      refine lv_iconst (v := (1 : Int32)) hx hb dX1_takeFirstContact_38 (by decide) ?_
      refine lv_iadd hx hb dX1_takeFirstContact_39 ?_
      refine va_put (D := D) (ci := 1) (v := .int (f_branches + (1 : Int32))) (ty := .int) (C := RX1) (T := TX1) (N := 8) hx hb hts hinX1 tyX1 tyX1_ok nmX1 hown hK hP hD hS 0 rfl rfl 4 (by decide) (hts (Cond.fieldLink RX1 50 "LadderRelays$Reader" "branches" "I") (List.mem_of_getElem? (i := 1) rfl)) (fun _ h9 => h9) rfl (by decide +kernel) rfl rfl (Nat.le_of_ble_eq_true rfl) dX1_takeFirstContact_40 (fun H locs hP hD hS => ?_)
      have hP : va_P D vwCl [(a_this, .inr (1, [.int f_next, .int f_kind, .int f_owner, .int f_time, .int (f_branches + (1 : Int32)), .int f_branches, .ref a_closing, .ref a_opening])), (a_closing, .inl (cI, 4, .inl f_closing)), (a_opening, .inl (cI, 4, .inl f_opening))] H := hP
      have hD : va_D A [(a_this, .inr (1, [.int f_next, .int f_kind, .int f_owner, .int f_time, .int (f_branches + (1 : Int32)), .int f_branches, .ref a_closing, .ref a_opening])), (a_closing, .inl (cI, 4, .inl f_closing)), (a_opening, .inl (cI, 4, .inl f_opening))] := hD
      refine lv_aload_n hx hb dX1_takeFirstContact_43 rfl (lv_at hl 0 rfl) ?_
      refine va_get (D := D) (ci := 1) (v := .ref a_closing) (C := RX1) (T := TX1) (N := 8) hx hb hts hinX1 hown hK hP 0 rfl rfl 6 (by decide) (hts (Cond.fieldLink RX1 9 "LadderRelays$Reader" "closing" "[I") (List.mem_of_getElem? (i := 3) rfl)) (fun _ h9 => h9) rfl dX1_takeFirstContact_44 ?_
      refine lv_aload_n hx hb dX1_takeFirstContact_47 rfl (lv_at hl 0 rfl) ?_
      refine va_get (D := D) (ci := 1) (v := .int f_branches) (C := RX1) (T := TX1) (N := 8) hx hb hts hinX1 hown hK hP 0 rfl rfl 5 (by decide) (hts (Cond.fieldLink RX1 63 "LadderRelays$Reader" "current" "I") (List.mem_of_getElem? (i := 2) rfl)) (fun _ h9 => h9) rfl dX1_takeFirstContact_48 ?_
      refine lv_iconst (v := (0 : Int32)) hx hb dX1_takeFirstContact_51 (by decide) ?_
      obtain ⟨v2, hv2, h⟩ := zbnd h
      refine zr_iast hx hb hK hP hD hS 1 0 rfl rfl hv2 dX1_takeFirstContact_52 (fun H locs hP hD hS => ?_)
      have hP : va_P D vwCl [(a_this, .inr (1, [.int f_next, .int f_kind, .int f_owner, .int f_time, .int (f_branches + (1 : Int32)), .int f_branches, .ref a_closing, .ref a_opening])), (a_closing, .inl (cI, 4, .inl v2)), (a_opening, .inl (cI, 4, .inl f_opening))] H := hP
      have hD : va_D A [(a_this, .inr (1, [.int f_next, .int f_kind, .int f_owner, .int f_time, .int (f_branches + (1 : Int32)), .int f_branches, .ref a_closing, .ref a_opening])), (a_closing, .inl (cI, 4, .inl v2)), (a_opening, .inl (cI, 4, .inl f_opening))] := hD
      refine lv_aload_n hx hb dX1_takeFirstContact_53 rfl (lv_at hl 0 rfl) ?_
      refine va_get (D := D) (ci := 1) (v := .ref a_opening) (C := RX1) (T := TX1) (N := 8) hx hb hts hinX1 hown hK hP 0 rfl rfl 7 (by decide) (hts (Cond.fieldLink RX1 15 "LadderRelays$Reader" "opening" "[I") (List.mem_of_getElem? (i := 4) rfl)) (fun _ h9 => h9) rfl dX1_takeFirstContact_54 ?_
      refine lv_aload_n hx hb dX1_takeFirstContact_57 rfl (lv_at hl 0 rfl) ?_
      refine va_get (D := D) (ci := 1) (v := .int f_branches) (C := RX1) (T := TX1) (N := 8) hx hb hts hinX1 hown hK hP 0 rfl rfl 5 (by decide) (hts (Cond.fieldLink RX1 63 "LadderRelays$Reader" "current" "I") (List.mem_of_getElem? (i := 2) rfl)) (fun _ h9 => h9) rfl dX1_takeFirstContact_58 ?_
      refine lv_iconst (v := (0 : Int32)) hx hb dX1_takeFirstContact_61 (by decide) ?_
      obtain ⟨v3, hv3, h⟩ := zbnd h
      refine zr_iast hx hb hK hP hD hS 2 0 rfl rfl hv3 dX1_takeFirstContact_62 (fun H locs hP hD hS => ?_)
      have hP : va_P D vwCl [(a_this, .inr (1, [.int f_next, .int f_kind, .int f_owner, .int f_time, .int (f_branches + (1 : Int32)), .int f_branches, .ref a_closing, .ref a_opening])), (a_closing, .inl (cI, 4, .inl v2)), (a_opening, .inl (cI, 4, .inl v3))] H := hP
      have hD : va_D A [(a_this, .inr (1, [.int f_next, .int f_kind, .int f_owner, .int f_time, .int (f_branches + (1 : Int32)), .int f_branches, .ref a_closing, .ref a_opening])), (a_closing, .inl (cI, 4, .inl v2)), (a_opening, .inl (cI, 4, .inl v3))] := hD
      refine lv_aload_n hx hb dX1_takeFirstContact_63 rfl (lv_at hl 0 rfl) ?_
      refine lv_iload_n hx hb dX1_takeFirstContact_64 rfl (lv_at hl 1 rfl) ?_
      obtain ⟨v4, hv4, h⟩ := zbnd h
      have hFc := va_free (wc := [(a_this, .inr (1, [.int f_next, .int f_kind, .int f_owner, .int f_time, .int (f_branches + (1 : Int32)), .int f_branches, .ref a_closing, .ref a_opening])), (a_closing, .inl (cI, 4, .inl v2)), (a_opening, .inl (cI, 4, .inl v3))]) hD hS hA [0, 1, 2] rfl
      refine zc_wi (va_runV (C := RX1) (As := [.int p0]) (rest := []) ⟨hx, hb, hml, hown, hts⟩ (c_X1_takeNot l D cI cC cO cJ fu a_this a_closing a_opening _ f_next f_kind f_owner f_time (f_branches + (1 : Int32)) f_branches v2 v3 p0 v4 hv4) (cwV 1 hts gX1_takeFirstContact_X1_takeNot rfl rfl rfl (by decide +kernel) ⟨Nat.le_of_ble_eq_true rfl, Nat.le_of_ble_eq_true rfl⟩) ⟨zPw_blind, (va_recv hK hP (q0 := 0) (ci := 1) rfl rfl), zPw_pre hK hP hD⟩ rfl rfl hl.1 rfl (lv_room (Nat.le_of_ble_eq_true rfl)) dX1_takeFirstContact_65 ⟨Nat.zero_le _, Nat.zero_le _⟩) hS hFc (fun H locs hk1 hP1 hS => ?_)
      obtain ⟨hP, hD⟩ := zjn (ws' := [(a_this, .inr (1, [.int v4.2, .int f_kind, .int f_owner, .int f_time, .int (f_branches + (1 : Int32)), .int f_branches, .ref a_closing, .ref a_opening])), (a_closing, .inl (cI, 4, .inl v2)), (a_opening, .inl (cI, 4, .inl v3))]) hP hD [0, 1, 2] [.inr 0, .inr 1, .inr 2] rfl rfl rfl hk1 hP1
      refine lv_if_ne (tgt := 83) hx hb dX1_takeFirstContact_68 (by decide) (fun c5 => ?_) (fun c5 => ?_)
      · have h := zif_f c5 h
        refine lv_iconst (v := (1 : Int32)) hx hb dX1_takeFirstContact_83 (by decide) ?_
        refine lv_goto (tgt := 88) hx hb dX1_takeFirstContact_84 (by decide) ?_
        have hR := Option.some.inj h
        subst hR
        exact W.zret (v := (1 : Int32)) (ty := .boolean) hx hb hr rfl (fun t ht hW => ⟨⟨_, (), rfl, rfl, zhp ht hP⟩, hS.F ht⟩) hS.2.2 dX1_takeFirstContact_88
      · have h := zif_t c5 h
        refine lv_aload_n hx hb dX1_takeFirstContact_71 rfl (lv_at hl 0 rfl) ?_
        refine lv_iload_n hx hb dX1_takeFirstContact_72 rfl (lv_at hl 1 rfl) ?_
        refine lv_aload_n hx hb dX1_takeFirstContact_73 rfl (lv_at hl 0 rfl) ?_
        refine va_get (D := D) (ci := 1) (v := .ref a_closing) (C := RX1) (T := TX1) (N := 8) hx hb hts hinX1 hown hK hP 0 rfl rfl 6 (by decide) (hts (Cond.fieldLink RX1 9 "LadderRelays$Reader" "closing" "[I") (List.mem_of_getElem? (i := 3) rfl)) (fun _ h9 => h9) rfl dX1_takeFirstContact_74 ?_
        obtain ⟨v6, hv6, h⟩ := zbnd h
        have hFc := va_free (wc := [(a_this, .inr (1, [.int v4.2, .int f_kind, .int f_owner, .int f_time, .int (f_branches + (1 : Int32)), .int f_branches, .ref a_closing, .ref a_opening])), (a_closing, .inl (cI, 4, .inl v2)), (a_opening, .inl (cI, 4, .inl v3))]) hD hS hA [0, 1, 2] rfl
        refine zc_wi (va_runV (C := RX1) (As := [.int p0, .ref a_closing]) (rest := []) ⟨hx, hb, hml, hown, hts⟩ (c_X1_takeContact_closing l D cI cC cO cJ fu a_this a_closing a_opening _ v4.2 f_kind f_owner f_time (f_branches + (1 : Int32)) f_branches v2 v3 p0 v6 hv6) (cwV 2 hts gX1_takeFirstContact_X1_takeContact rfl rfl rfl (by decide +kernel) ⟨Nat.le_of_ble_eq_true rfl, Nat.le_of_ble_eq_true rfl⟩) ⟨zPw_blind, (va_recv hK hP (q0 := 0) (ci := 1) rfl rfl), zPw_pre hK hP hD⟩ rfl rfl hl.1 rfl (lv_room (Nat.le_of_ble_eq_true rfl)) dX1_takeFirstContact_77 ⟨Nat.zero_le _, Nat.zero_le _⟩) hS hFc (fun H locs hk1 hP1 hS => ?_)
        obtain ⟨hP, hD⟩ := zjn (ws' := [(a_this, .inr (1, [.int v6.2.1, .int f_kind, .int f_owner, .int f_time, .int (f_branches + (1 : Int32)), .int f_branches, .ref a_closing, .ref a_opening])), (a_closing, .inl (cI, 4, .inl v6.2.2)), (a_opening, .inl (cI, 4, .inl v3))]) hP hD [0, 1, 2] [.inr 0, .inr 1, .inr 2] rfl rfl rfl hk1 hP1
        refine lv_if_eq (tgt := 87) hx hb dX1_takeFirstContact_80 (by decide) (fun c7 => ?_) (fun c7 => ?_)
        · have h := zif_t c7 h
          refine lv_iconst (v := (0 : Int32)) hx hb dX1_takeFirstContact_87 (by decide) ?_
          have hR := Option.some.inj h
          subst hR
          exact W.zret (v := (0 : Int32)) (ty := .boolean) hx hb hr rfl (fun t ht hW => ⟨⟨_, (), rfl, rfl, zhp ht hP⟩, hS.F ht⟩) hS.2.2 dX1_takeFirstContact_88
        · have h := zif_f c7 h
          refine lv_iconst (v := (1 : Int32)) hx hb dX1_takeFirstContact_83 (by decide) ?_
          refine lv_goto (tgt := 88) hx hb dX1_takeFirstContact_84 (by decide) ?_
          have hR := Option.some.inj h
          subst hR
          exact W.zret (v := (1 : Int32)) (ty := .boolean) hx hb hr rfl (fun t ht hW => ⟨⟨_, (), rfl, rfl, zhp ht hP⟩, hS.F ht⟩) hS.2.2 dX1_takeFirstContact_88
    refine lv_icmp_eq (tgt := 25) hx hb dX1_takeFirstContact_13 (by decide) (fun c8 => ?_) (fun c8 => ?_)
    · have h := zif_t c8 h
      exact J25 () h _ _ hP hD hS ls (lv_sub hl [0, 1] rfl)
    · have h := zif_f c8 h
      refine lv_iload_n hx hb dX1_takeFirstContact_16 rfl (lv_at hl 1 rfl) ?_
      obtain ⟨v9, hv9, h⟩ := zbnd h
      refine zc_i (W.runS (As := [.int p0]) (rest := []) ⟨hx, hb, hml, hown, hts⟩ (c_X1_contactOf l D cI cC cO cJ fu p0 v9 hv9) (va_cwS 1 hts gX1_takeFirstContact_X1_contactOf rfl rfl rfl (by decide +kernel) ⟨Nat.le_of_ble_eq_true rfl, Nat.le_of_ble_eq_true rfl⟩) (zPr_S hK zP_nil) rfl rfl hl.1 rfl (lv_room (Nat.le_of_ble_eq_true rfl)) dX1_takeFirstContact_17 ⟨Nat.zero_le _, Nat.zero_le _⟩) ?_
      refine lv_if_ne (tgt := 25) hx hb dX1_takeFirstContact_20 (by decide) (fun c10 => ?_) (fun c10 => ?_)
      · have h := zif_f c10 h
        exact J25 () h _ _ hP hD hS ls (lv_sub hl [0, 1] rfl)
      · have h := zif_t c10 h
        refine lv_iconst (v := (0 : Int32)) hx hb dX1_takeFirstContact_23 (by decide) ?_
        have hR := Option.some.inj h
        subst hR
        exact W.zret (v := (0 : Int32)) (ty := .boolean) hx hb hr rfl (fun t ht hW => ⟨⟨_, (), rfl, rfl, zhp ht hP⟩, hS.F ht⟩) hS.2.2 dX1_takeFirstContact_24
  · have h := zif_f c1 h
    refine lv_iconst (v := (0 : Int32)) hx hb dX1_takeFirstContact_8 (by decide) ?_
    have hR := Option.some.inj h
    subst hR
    exact W.zret (v := (0 : Int32)) (ty := .boolean) hx hb hr rfl (fun t ht hW => ⟨⟨_, (), rfl, rfl, zhp ht hP⟩, hS.F ht⟩) hS.2.2 dX1_takeFirstContact_9
def F_X1_take (fu : Nat) (f_next : Int32) (f_kind : Int32) (f_owner : Int32) (f_time : Int32) (f_branches : Int32) (f_current : Int32) (f_closing : Nat → Int32) (f_opening : Nat → Int32) (p0 : Int32) : Option (Int32 × Int32 × Int32 × Int32 × Int32 × Int32 × Int32 × (Nat → Int32) × (Nat → Int32)) := if f_next = (0 : Int32) then (F_X1_takeOrder fu f_next f_kind f_owner f_branches p0).bind fun v2 => (zbo v2.1).bind fun v3 => some (v3, v2.2.1, v2.2.2.1, v2.2.2.2.1, f_time, v2.2.2.2.2, f_current, f_closing, f_opening) else if f_next = (1 : Int32) then (F_X1_takeMark fu f_next p0 (61 : Int32) (2 : Int32)).bind fun v5 => (zbo v5.1).bind fun v6 => some (v6, v5.2, f_kind, f_owner, f_time, f_branches, f_current, f_closing, f_opening) else if f_next = (2 : Int32) then (F_X1_takeFirstContact fu f_next f_branches f_current f_closing f_opening p0).bind fun v8 => (zbo v8.1).bind fun v9 => some (v9, v8.2.1, f_kind, f_owner, f_time, v8.2.2.1, v8.2.2.2.1, v8.2.2.2.2.1, v8.2.2.2.2.2) else if f_next = (3 : Int32) then (F_X1_takeContact_opening fu f_next f_current f_closing f_opening p0).bind fun v11 => (zbo v11.1).bind fun v12 => some (v12, v11.2.1, f_kind, f_owner, f_time, f_branches, f_current, f_closing, v11.2.2) else if f_next = (4 : Int32) then (F_X1_takeMore fu f_next f_branches f_current f_closing f_opening p0).bind fun v14 => (zbo v14.1).bind fun v15 => some (v15, v14.2.1, f_kind, f_owner, f_time, f_branches, f_current, v14.2.2, f_opening) else if f_next = (5 : Int32) then (F_X1_takeOwner fu f_next f_owner p0 (6 : Int32)).bind fun v17 => (zbo v17.1).bind fun v18 => some (v18, v17.2.1, f_kind, v17.2.2, f_time, f_branches, f_current, f_closing, f_opening) else if f_next = (6 : Int32) then (F_X1_takeMark fu f_next p0 (58 : Int32) (7 : Int32)).bind fun v20 => (zbo v20.1).bind fun v21 => some (v21, v20.2, f_kind, f_owner, f_time, f_branches, f_current, f_closing, f_opening) else if f_next = (7 : Int32) then (F_X1_takeTime fu f_next f_time p0).bind fun v23 => (zbo v23.1).bind fun v24 => some (v24, v23.2.1, f_kind, f_owner, v23.2.2, f_branches, f_current, f_closing, f_opening) else (F_X1_takeMark fu f_next p0 (59 : Int32) (0 : Int32)).bind fun v25 => (zbo v25.1).bind fun v26 => some (v26, v25.2, f_kind, f_owner, f_time, f_branches, f_current, f_closing, f_opening)
set_option maxHeartbeats 4000000 in
set_option maxRecDepth 100000 in
theorem c_X1_take (l : Launch) (D : va_G) (cI cC cO cJ : ClassId) (fu : Nat) (a_this a_closing a_opening : Nat) (sz : Nat) (f_next : Int32) (f_kind : Int32) (f_owner : Int32) (f_time : Int32) (f_branches : Int32) (f_current : Int32) (f_closing : Nat → Int32) (f_opening : Nat → Int32) (p0 : Int32) (R : Int32 × Int32 × Int32 × Int32 × Int32 × Int32 × Int32 × (Nat → Int32) × (Nat → Int32)) (h : F_X1_take fu f_next f_kind f_owner f_time f_branches f_current f_closing f_opening p0 = some R) : Met l yX1_take wsX1_take ({ frames := 3, cells := 0, slots := 0, locals := 64 } : Room) (zPw D (ztys cI cC cO cJ) [(a_this, .inr (1, [.int f_next, .int f_kind, .int f_owner, .int f_time, .int f_branches, .int f_current, .ref a_closing, .ref a_opening])), (a_closing, .inl (cI, 4, .inl f_closing)), (a_opening, .inl (cI, 4, .inl f_opening))] sz [.ref a_this, .int p0]) (zWi D R.1 [(a_this, .inr (1, [.int R.2.1, .int R.2.2.1, .int R.2.2.2.1, .int R.2.2.2.2.1, .int R.2.2.2.2.2.1, .int R.2.2.2.2.2.2.1, .ref a_closing, .ref a_opening])), (a_closing, .inl (cI, 4, .inl R.2.2.2.2.2.2.2.1)), (a_opening, .inl (cI, 4, .inl R.2.2.2.2.2.2.2.2))] (va_A [(a_this, .inr (1, [.int f_next, .int f_kind, .int f_owner, .int f_time, .int f_branches, .int f_current, .ref a_closing, .ref a_opening])), (a_closing, .inl (cI, 4, .inl f_closing)), (a_opening, .inl (cI, 4, .inl f_opening))] sz)) 0 0 (va_A [(a_this, .inr (1, [.int f_next, .int f_kind, .int f_owner, .int f_time, .int f_branches, .int f_current, .ref a_closing, .ref a_opening])), (a_closing, .inl (cI, 4, .inl f_closing)), (a_opening, .inl (cI, 4, .inl f_opening))] sz) := by
  refine Met.ofW (cc := cX1_take) (maxL := 2) (ret := (some .boolean)) (by decide) rfl ?_
  intro p e s m args below meth c s₁ B hml hv
  obtain ⟨rfl, hsz, hP, hK, hD0⟩ := hv
  have hx := B.exec
  have hb := B.bytes
  have hr := B.returns
  have hts := atoms_spec (ws := wsX1_take) B.pre
  have hown : s.vm.findClass RX1 = some m.cls := findClass_of_methodNamed B.named
  have hlocks := B.notSynchronized
  have hinX1 : ∀ w ∈ wsX10, w ∈ wsX1_take := fun _ h => (List.mem_cons_of_mem _ (List.mem_append_right _ h))
  subst hsz
  have hD := hD0.self (sz := s.heap.size)
  generalize hAe : va_A [(a_this, .inr (1, [.int f_next, .int f_kind, .int f_owner, .int f_time, .int f_branches, .int f_current, .ref a_closing, .ref a_opening])), (a_closing, .inl (cI, 4, .inl f_closing)), (a_opening, .inl (cI, 4, .inl f_opening))] s.heap.size = A at hD ⊢
  have hA : ∀ q : Nat, s.heap.size ≤ q → A q := fun q h => by rw [← hAe]; exact Or.inr h
  have hS : va_S A s.heap s.heap [] := va_S.rf
  have hP : va_P D vwCl [(a_this, .inr (1, [.int f_next, .int f_kind, .int f_owner, .int f_time, .int f_branches, .int f_current, .ref a_closing, .ref a_opening])), (a_closing, .inl (cI, 4, .inl f_closing)), (a_opening, .inl (cI, 4, .inl f_opening))] s.heap := hP
  have hK : va_K D vwCl (ztys cI cC cO cJ) s := hK
  have hl := lv_entry ([.ref a_this, .int p0]) (n := 2) (Nat.le_of_ble_eq_true rfl)
  rw [lg_entry_eq]
  generalize (lg_sl ([.ref a_this, .int p0]) ++ List.replicate (2 - (lg_sl ([.ref a_this, .int p0])).length) Slot.unset).toArray = ls at hl ⊢
  have hl : lv_has ls 2 [(0, .ref a_this), (1, .int p0)] := hl
  unfold F_X1_take at h
  refine lv_aload_n hx hb dX1_take_0 rfl (lv_at hl 0 rfl) ?_
  refine va_get (D := D) (ci := 1) (v := .int f_next) (C := RX1) (T := TX1) (N := 8) hx hb hts hinX1 hown hK hP 0 rfl rfl 0 (by decide) (hts (Cond.fieldLink RX1 18 "LadderRelays$Reader" "next" "I") (List.mem_of_getElem? (i := 1) rfl)) (fun _ h9 => h9) rfl dX1_take_1 ?_
  by_cases c1 : f_next = (0 : Int32)
  · have h := zif_t c1 h
    refine lv_tableIn (off := 48) (tgt := 52) hx hb dX1_take_4 (by rw [c1]; decide) (by rw [c1]; decide) (by rw [c1]; decide) (by decide) ?_
    refine lv_aload_n hx hb dX1_take_52 rfl (lv_at hl 0 rfl) ?_
    refine lv_iload_n hx hb dX1_take_53 rfl (lv_at hl 1 rfl) ?_
    obtain ⟨v2, hv2, h⟩ := zbnd h
    have hPc := hP.sub (ws' := [(a_this, .inr (1, [.int f_next, .int f_kind, .int f_owner, .int f_time, .int f_branches, .int f_current, .ref a_closing, .ref a_opening]))]) [0] rfl
    have hDc := hD.sub (ws' := [(a_this, .inr (1, [.int f_next, .int f_kind, .int f_owner, .int f_time, .int f_branches, .int f_current, .ref a_closing, .ref a_opening]))]) [0] (by decide) rfl
    have hFc := va_free (wc := [(a_this, .inr (1, [.int f_next, .int f_kind, .int f_owner, .int f_time, .int f_branches, .int f_current, .ref a_closing, .ref a_opening]))]) hD hS hA [0] rfl
    refine zc_wi (va_runV (C := RX1) (As := [.int p0]) (rest := []) ⟨hx, hb, hml, hown, hts⟩ (c_X1_takeOrder l D cI cC cO cJ fu a_this a_closing a_opening _ f_next f_kind f_owner f_time f_branches f_current p0 v2 hv2) (cwV 1 hts gX1_take_X1_takeOrder rfl rfl rfl (by decide +kernel) ⟨Nat.le_of_ble_eq_true rfl, Nat.le_of_ble_eq_true rfl⟩) ⟨zPw_blind, (va_recv hK hP (q0 := 0) (ci := 1) rfl rfl), zPw_pre hK hPc hDc⟩ rfl rfl hl.1 rfl (lv_room (Nat.le_of_ble_eq_true rfl)) dX1_take_54 ⟨Nat.zero_le _, Nat.zero_le _⟩) hS hFc (fun H locs hk1 hP1 hS => ?_)
    obtain ⟨hP, hD⟩ := zjn (ws' := [(a_this, .inr (1, [.int v2.2.1, .int v2.2.2.1, .int v2.2.2.2.1, .int f_time, .int v2.2.2.2.2, .int f_current, .ref a_closing, .ref a_opening])), (a_closing, .inl (cI, 4, .inl f_closing)), (a_opening, .inl (cI, 4, .inl f_opening))]) hP hD [0] [.inr 0, .inl 1, .inl 2] rfl rfl rfl hk1 hP1
    obtain ⟨v3, hbv3, h⟩ := zbnd h
    obtain ⟨hbv3, hev3⟩ := zbo_some hbv3
    rw [hev3]
    have hR := Option.some.inj h
    subst hR
    exact W.zret (v := v3) (ty := .boolean) hx hb hr (by rcases hbv3 with q | q <;> rw [q] <;> rfl) (fun t ht hW => ⟨⟨_, (), rfl, rfl, zhp ht hP⟩, hS.F ht⟩) hS.2.2 dX1_take_57
  · have h := zif_f c1 h
    by_cases c4 : f_next = (1 : Int32)
    · have h := zif_t c4 h
      refine lv_tableIn (off := 54) (tgt := 58) hx hb dX1_take_4 (by rw [c4]; decide) (by rw [c4]; decide) (by rw [c4]; decide) (by decide) ?_
      refine lv_aload_n hx hb dX1_take_58 rfl (lv_at hl 0 rfl) ?_
      refine lv_iload_n hx hb dX1_take_59 rfl (lv_at hl 1 rfl) ?_
      refine lv_bipush (v := (61 : Int32)) hx hb dX1_take_60 (by decide) ?_
      refine lv_iconst (v := (2 : Int32)) hx hb dX1_take_62 (by decide) ?_
      obtain ⟨v5, hv5, h⟩ := zbnd h
      have hPc := hP.sub (ws' := [(a_this, .inr (1, [.int f_next, .int f_kind, .int f_owner, .int f_time, .int f_branches, .int f_current, .ref a_closing, .ref a_opening]))]) [0] rfl
      have hDc := hD.sub (ws' := [(a_this, .inr (1, [.int f_next, .int f_kind, .int f_owner, .int f_time, .int f_branches, .int f_current, .ref a_closing, .ref a_opening]))]) [0] (by decide) rfl
      have hFc := va_free (wc := [(a_this, .inr (1, [.int f_next, .int f_kind, .int f_owner, .int f_time, .int f_branches, .int f_current, .ref a_closing, .ref a_opening]))]) hD hS hA [0] rfl
      refine zc_wi (va_runV (C := RX1) (As := [.int p0, .int (61 : Int32), .int (2 : Int32)]) (rest := []) ⟨hx, hb, hml, hown, hts⟩ (c_X1_takeMark l D cI cC cO cJ fu a_this a_closing a_opening _ f_next f_kind f_owner f_time f_branches f_current p0 (61 : Int32) (2 : Int32) v5 hv5) (cwV 3 hts gX1_take_X1_takeMark rfl rfl rfl (by decide +kernel) ⟨Nat.le_of_ble_eq_true rfl, Nat.le_of_ble_eq_true rfl⟩) ⟨zPw_blind, (va_recv hK hP (q0 := 0) (ci := 1) rfl rfl), zPw_pre hK hPc hDc⟩ rfl rfl hl.1 rfl (lv_room (Nat.le_of_ble_eq_true rfl)) dX1_take_63 ⟨Nat.zero_le _, Nat.zero_le _⟩) hS hFc (fun H locs hk1 hP1 hS => ?_)
      obtain ⟨hP, hD⟩ := zjn (ws' := [(a_this, .inr (1, [.int v5.2, .int f_kind, .int f_owner, .int f_time, .int f_branches, .int f_current, .ref a_closing, .ref a_opening])), (a_closing, .inl (cI, 4, .inl f_closing)), (a_opening, .inl (cI, 4, .inl f_opening))]) hP hD [0] [.inr 0, .inl 1, .inl 2] rfl rfl rfl hk1 hP1
      obtain ⟨v6, hbv6, h⟩ := zbnd h
      obtain ⟨hbv6, hev6⟩ := zbo_some hbv6
      rw [hev6]
      have hR := Option.some.inj h
      subst hR
      exact W.zret (v := v6) (ty := .boolean) hx hb hr (by rcases hbv6 with q | q <;> rw [q] <;> rfl) (fun t ht hW => ⟨⟨_, (), rfl, rfl, zhp ht hP⟩, hS.F ht⟩) hS.2.2 dX1_take_66
    · have h := zif_f c4 h
      by_cases c7 : f_next = (2 : Int32)
      · have h := zif_t c7 h
        refine lv_tableIn (off := 63) (tgt := 67) hx hb dX1_take_4 (by rw [c7]; decide) (by rw [c7]; decide) (by rw [c7]; decide) (by decide) ?_
        refine lv_aload_n hx hb dX1_take_67 rfl (lv_at hl 0 rfl) ?_
        refine lv_iload_n hx hb dX1_take_68 rfl (lv_at hl 1 rfl) ?_
        obtain ⟨v8, hv8, h⟩ := zbnd h
        have hFc := va_free (wc := [(a_this, .inr (1, [.int f_next, .int f_kind, .int f_owner, .int f_time, .int f_branches, .int f_current, .ref a_closing, .ref a_opening])), (a_closing, .inl (cI, 4, .inl f_closing)), (a_opening, .inl (cI, 4, .inl f_opening))]) hD hS hA [0, 1, 2] rfl
        refine zc_wi (va_runV (C := RX1) (As := [.int p0]) (rest := []) ⟨hx, hb, hml, hown, hts⟩ (c_X1_takeFirstContact l D cI cC cO cJ fu a_this a_closing a_opening _ f_next f_kind f_owner f_time f_branches f_current f_closing f_opening p0 v8 hv8) (cwV 1 hts gX1_take_X1_takeFirstContact rfl rfl rfl (by decide +kernel) ⟨Nat.le_of_ble_eq_true rfl, Nat.le_of_ble_eq_true rfl⟩) ⟨zPw_blind, (va_recv hK hP (q0 := 0) (ci := 1) rfl rfl), zPw_pre hK hP hD⟩ rfl rfl hl.1 rfl (lv_room (Nat.le_of_ble_eq_true rfl)) dX1_take_69 ⟨Nat.zero_le _, Nat.zero_le _⟩) hS hFc (fun H locs hk1 hP1 hS => ?_)
        obtain ⟨hP, hD⟩ := zjn (ws' := [(a_this, .inr (1, [.int v8.2.1, .int f_kind, .int f_owner, .int f_time, .int v8.2.2.1, .int v8.2.2.2.1, .ref a_closing, .ref a_opening])), (a_closing, .inl (cI, 4, .inl v8.2.2.2.2.1)), (a_opening, .inl (cI, 4, .inl v8.2.2.2.2.2))]) hP hD [0, 1, 2] [.inr 0, .inr 1, .inr 2] rfl rfl rfl hk1 hP1
        obtain ⟨v9, hbv9, h⟩ := zbnd h
        obtain ⟨hbv9, hev9⟩ := zbo_some hbv9
        rw [hev9]
        have hR := Option.some.inj h
        subst hR
        exact W.zret (v := v9) (ty := .boolean) hx hb hr (by rcases hbv9 with q | q <;> rw [q] <;> rfl) (fun t ht hW => ⟨⟨_, (), rfl, rfl, zhp ht hP⟩, hS.F ht⟩) hS.2.2 dX1_take_72
      · have h := zif_f c7 h
        by_cases c10 : f_next = (3 : Int32)
        · have h := zif_t c10 h
          refine lv_tableIn (off := 69) (tgt := 73) hx hb dX1_take_4 (by rw [c10]; decide) (by rw [c10]; decide) (by rw [c10]; decide) (by decide) ?_
          refine lv_aload_n hx hb dX1_take_73 rfl (lv_at hl 0 rfl) ?_
          refine lv_iload_n hx hb dX1_take_74 rfl (lv_at hl 1 rfl) ?_
          refine lv_aload_n hx hb dX1_take_75 rfl (lv_at hl 0 rfl) ?_
          refine va_get (D := D) (ci := 1) (v := .ref a_opening) (C := RX1) (T := TX1) (N := 8) hx hb hts hinX1 hown hK hP 0 rfl rfl 7 (by decide) (hts (Cond.fieldLink RX1 15 "LadderRelays$Reader" "opening" "[I") (List.mem_of_getElem? (i := 2) rfl)) (fun _ h9 => h9) rfl dX1_take_76 ?_
          obtain ⟨v11, hv11, h⟩ := zbnd h
          have hFc := va_free (wc := [(a_this, .inr (1, [.int f_next, .int f_kind, .int f_owner, .int f_time, .int f_branches, .int f_current, .ref a_closing, .ref a_opening])), (a_closing, .inl (cI, 4, .inl f_closing)), (a_opening, .inl (cI, 4, .inl f_opening))]) hD hS hA [0, 1, 2] rfl
          refine zc_wi (va_runV (C := RX1) (As := [.int p0, .ref a_opening]) (rest := []) ⟨hx, hb, hml, hown, hts⟩ (c_X1_takeContact_opening l D cI cC cO cJ fu a_this a_closing a_opening _ f_next f_kind f_owner f_time f_branches f_current f_closing f_opening p0 v11 hv11) (cwV 2 hts gX1_take_X1_takeContact rfl rfl rfl (by decide +kernel) ⟨Nat.le_of_ble_eq_true rfl, Nat.le_of_ble_eq_true rfl⟩) ⟨zPw_blind, (va_recv hK hP (q0 := 0) (ci := 1) rfl rfl), zPw_pre hK hP hD⟩ rfl rfl hl.1 rfl (lv_room (Nat.le_of_ble_eq_true rfl)) dX1_take_79 ⟨Nat.zero_le _, Nat.zero_le _⟩) hS hFc (fun H locs hk1 hP1 hS => ?_)
          obtain ⟨hP, hD⟩ := zjn (ws' := [(a_this, .inr (1, [.int v11.2.1, .int f_kind, .int f_owner, .int f_time, .int f_branches, .int f_current, .ref a_closing, .ref a_opening])), (a_closing, .inl (cI, 4, .inl f_closing)), (a_opening, .inl (cI, 4, .inl v11.2.2))]) hP hD [0, 1, 2] [.inr 0, .inr 1, .inr 2] rfl rfl rfl hk1 hP1
          obtain ⟨v12, hbv12, h⟩ := zbnd h
          obtain ⟨hbv12, hev12⟩ := zbo_some hbv12
          rw [hev12]
          have hR := Option.some.inj h
          subst hR
          exact W.zret (v := v12) (ty := .boolean) hx hb hr (by rcases hbv12 with q | q <;> rw [q] <;> rfl) (fun t ht hW => ⟨⟨_, (), rfl, rfl, zhp ht hP⟩, hS.F ht⟩) hS.2.2 dX1_take_82
        · have h := zif_f c10 h
          by_cases c13 : f_next = (4 : Int32)
          · have h := zif_t c13 h
            refine lv_tableIn (off := 79) (tgt := 83) hx hb dX1_take_4 (by rw [c13]; decide) (by rw [c13]; decide) (by rw [c13]; decide) (by decide) ?_
            refine lv_aload_n hx hb dX1_take_83 rfl (lv_at hl 0 rfl) ?_
            refine lv_iload_n hx hb dX1_take_84 rfl (lv_at hl 1 rfl) ?_
            obtain ⟨v14, hv14, h⟩ := zbnd h
            have hFc := va_free (wc := [(a_this, .inr (1, [.int f_next, .int f_kind, .int f_owner, .int f_time, .int f_branches, .int f_current, .ref a_closing, .ref a_opening])), (a_closing, .inl (cI, 4, .inl f_closing)), (a_opening, .inl (cI, 4, .inl f_opening))]) hD hS hA [0, 1, 2] rfl
            refine zc_wi (va_runV (C := RX1) (As := [.int p0]) (rest := []) ⟨hx, hb, hml, hown, hts⟩ (c_X1_takeMore l D cI cC cO cJ fu a_this a_closing a_opening _ f_next f_kind f_owner f_time f_branches f_current f_closing f_opening p0 v14 hv14) (cwV 1 hts gX1_take_X1_takeMore rfl rfl rfl (by decide +kernel) ⟨Nat.le_of_ble_eq_true rfl, Nat.le_of_ble_eq_true rfl⟩) ⟨zPw_blind, (va_recv hK hP (q0 := 0) (ci := 1) rfl rfl), zPw_pre hK hP hD⟩ rfl rfl hl.1 rfl (lv_room (Nat.le_of_ble_eq_true rfl)) dX1_take_85 ⟨Nat.zero_le _, Nat.zero_le _⟩) hS hFc (fun H locs hk1 hP1 hS => ?_)
            obtain ⟨hP, hD⟩ := zjn (ws' := [(a_this, .inr (1, [.int v14.2.1, .int f_kind, .int f_owner, .int f_time, .int f_branches, .int f_current, .ref a_closing, .ref a_opening])), (a_closing, .inl (cI, 4, .inl v14.2.2)), (a_opening, .inl (cI, 4, .inl f_opening))]) hP hD [0, 1, 2] [.inr 0, .inr 1, .inr 2] rfl rfl rfl hk1 hP1
            obtain ⟨v15, hbv15, h⟩ := zbnd h
            obtain ⟨hbv15, hev15⟩ := zbo_some hbv15
            rw [hev15]
            have hR := Option.some.inj h
            subst hR
            exact W.zret (v := v15) (ty := .boolean) hx hb hr (by rcases hbv15 with q | q <;> rw [q] <;> rfl) (fun t ht hW => ⟨⟨_, (), rfl, rfl, zhp ht hP⟩, hS.F ht⟩) hS.2.2 dX1_take_88
          · have h := zif_f c13 h
            by_cases c16 : f_next = (5 : Int32)
            · have h := zif_t c16 h
              refine lv_tableIn (off := 85) (tgt := 89) hx hb dX1_take_4 (by rw [c16]; decide) (by rw [c16]; decide) (by rw [c16]; decide) (by decide) ?_
              refine lv_aload_n hx hb dX1_take_89 rfl (lv_at hl 0 rfl) ?_
              refine lv_iload_n hx hb dX1_take_90 rfl (lv_at hl 1 rfl) ?_
              refine lv_bipush (v := (6 : Int32)) hx hb dX1_take_91 (by decide) ?_
              obtain ⟨v17, hv17, h⟩ := zbnd h
              have hPc := hP.sub (ws' := [(a_this, .inr (1, [.int f_next, .int f_kind, .int f_owner, .int f_time, .int f_branches, .int f_current, .ref a_closing, .ref a_opening]))]) [0] rfl
              have hDc := hD.sub (ws' := [(a_this, .inr (1, [.int f_next, .int f_kind, .int f_owner, .int f_time, .int f_branches, .int f_current, .ref a_closing, .ref a_opening]))]) [0] (by decide) rfl
              have hFc := va_free (wc := [(a_this, .inr (1, [.int f_next, .int f_kind, .int f_owner, .int f_time, .int f_branches, .int f_current, .ref a_closing, .ref a_opening]))]) hD hS hA [0] rfl
              refine zc_wi (va_runV (C := RX1) (As := [.int p0, .int (6 : Int32)]) (rest := []) ⟨hx, hb, hml, hown, hts⟩ (c_X1_takeOwner l D cI cC cO cJ fu a_this a_closing a_opening _ f_next f_kind f_owner f_time f_branches f_current p0 (6 : Int32) v17 hv17) (cwV 2 hts gX1_take_X1_takeOwner rfl rfl rfl (by decide +kernel) ⟨Nat.le_of_ble_eq_true rfl, Nat.le_of_ble_eq_true rfl⟩) ⟨zPw_blind, (va_recv hK hP (q0 := 0) (ci := 1) rfl rfl), zPw_pre hK hPc hDc⟩ rfl rfl hl.1 rfl (lv_room (Nat.le_of_ble_eq_true rfl)) dX1_take_93 ⟨Nat.zero_le _, Nat.zero_le _⟩) hS hFc (fun H locs hk1 hP1 hS => ?_)
              obtain ⟨hP, hD⟩ := zjn (ws' := [(a_this, .inr (1, [.int v17.2.1, .int f_kind, .int v17.2.2, .int f_time, .int f_branches, .int f_current, .ref a_closing, .ref a_opening])), (a_closing, .inl (cI, 4, .inl f_closing)), (a_opening, .inl (cI, 4, .inl f_opening))]) hP hD [0] [.inr 0, .inl 1, .inl 2] rfl rfl rfl hk1 hP1
              obtain ⟨v18, hbv18, h⟩ := zbnd h
              obtain ⟨hbv18, hev18⟩ := zbo_some hbv18
              rw [hev18]
              have hR := Option.some.inj h
              subst hR
              exact W.zret (v := v18) (ty := .boolean) hx hb hr (by rcases hbv18 with q | q <;> rw [q] <;> rfl) (fun t ht hW => ⟨⟨_, (), rfl, rfl, zhp ht hP⟩, hS.F ht⟩) hS.2.2 dX1_take_96
            · have h := zif_f c16 h
              by_cases c19 : f_next = (6 : Int32)
              · have h := zif_t c19 h
                refine lv_tableIn (off := 93) (tgt := 97) hx hb dX1_take_4 (by rw [c19]; decide) (by rw [c19]; decide) (by rw [c19]; decide) (by decide) ?_
                refine lv_aload_n hx hb dX1_take_97 rfl (lv_at hl 0 rfl) ?_
                refine lv_iload_n hx hb dX1_take_98 rfl (lv_at hl 1 rfl) ?_
                refine lv_bipush (v := (58 : Int32)) hx hb dX1_take_99 (by decide) ?_
                refine lv_bipush (v := (7 : Int32)) hx hb dX1_take_101 (by decide) ?_
                obtain ⟨v20, hv20, h⟩ := zbnd h
                have hPc := hP.sub (ws' := [(a_this, .inr (1, [.int f_next, .int f_kind, .int f_owner, .int f_time, .int f_branches, .int f_current, .ref a_closing, .ref a_opening]))]) [0] rfl
                have hDc := hD.sub (ws' := [(a_this, .inr (1, [.int f_next, .int f_kind, .int f_owner, .int f_time, .int f_branches, .int f_current, .ref a_closing, .ref a_opening]))]) [0] (by decide) rfl
                have hFc := va_free (wc := [(a_this, .inr (1, [.int f_next, .int f_kind, .int f_owner, .int f_time, .int f_branches, .int f_current, .ref a_closing, .ref a_opening]))]) hD hS hA [0] rfl
                refine zc_wi (va_runV (C := RX1) (As := [.int p0, .int (58 : Int32), .int (7 : Int32)]) (rest := []) ⟨hx, hb, hml, hown, hts⟩ (c_X1_takeMark l D cI cC cO cJ fu a_this a_closing a_opening _ f_next f_kind f_owner f_time f_branches f_current p0 (58 : Int32) (7 : Int32) v20 hv20) (cwV 3 hts gX1_take_X1_takeMark rfl rfl rfl (by decide +kernel) ⟨Nat.le_of_ble_eq_true rfl, Nat.le_of_ble_eq_true rfl⟩) ⟨zPw_blind, (va_recv hK hP (q0 := 0) (ci := 1) rfl rfl), zPw_pre hK hPc hDc⟩ rfl rfl hl.1 rfl (lv_room (Nat.le_of_ble_eq_true rfl)) dX1_take_103 ⟨Nat.zero_le _, Nat.zero_le _⟩) hS hFc (fun H locs hk1 hP1 hS => ?_)
                obtain ⟨hP, hD⟩ := zjn (ws' := [(a_this, .inr (1, [.int v20.2, .int f_kind, .int f_owner, .int f_time, .int f_branches, .int f_current, .ref a_closing, .ref a_opening])), (a_closing, .inl (cI, 4, .inl f_closing)), (a_opening, .inl (cI, 4, .inl f_opening))]) hP hD [0] [.inr 0, .inl 1, .inl 2] rfl rfl rfl hk1 hP1
                obtain ⟨v21, hbv21, h⟩ := zbnd h
                obtain ⟨hbv21, hev21⟩ := zbo_some hbv21
                rw [hev21]
                have hR := Option.some.inj h
                subst hR
                exact W.zret (v := v21) (ty := .boolean) hx hb hr (by rcases hbv21 with q | q <;> rw [q] <;> rfl) (fun t ht hW => ⟨⟨_, (), rfl, rfl, zhp ht hP⟩, hS.F ht⟩) hS.2.2 dX1_take_106
              · have h := zif_f c19 h
                by_cases c22 : f_next = (7 : Int32)
                · have h := zif_t c22 h
                  refine lv_tableIn (off := 103) (tgt := 107) hx hb dX1_take_4 (by rw [c22]; decide) (by rw [c22]; decide) (by rw [c22]; decide) (by decide) ?_
                  refine lv_aload_n hx hb dX1_take_107 rfl (lv_at hl 0 rfl) ?_
                  refine lv_iload_n hx hb dX1_take_108 rfl (lv_at hl 1 rfl) ?_
                  obtain ⟨v23, hv23, h⟩ := zbnd h
                  have hPc := hP.sub (ws' := [(a_this, .inr (1, [.int f_next, .int f_kind, .int f_owner, .int f_time, .int f_branches, .int f_current, .ref a_closing, .ref a_opening]))]) [0] rfl
                  have hDc := hD.sub (ws' := [(a_this, .inr (1, [.int f_next, .int f_kind, .int f_owner, .int f_time, .int f_branches, .int f_current, .ref a_closing, .ref a_opening]))]) [0] (by decide) rfl
                  have hFc := va_free (wc := [(a_this, .inr (1, [.int f_next, .int f_kind, .int f_owner, .int f_time, .int f_branches, .int f_current, .ref a_closing, .ref a_opening]))]) hD hS hA [0] rfl
                  refine zc_wi (va_runV (C := RX1) (As := [.int p0]) (rest := []) ⟨hx, hb, hml, hown, hts⟩ (c_X1_takeTime l D cI cC cO cJ fu a_this a_closing a_opening _ f_next f_kind f_owner f_time f_branches f_current p0 v23 hv23) (cwV 1 hts gX1_take_X1_takeTime rfl rfl rfl (by decide +kernel) ⟨Nat.le_of_ble_eq_true rfl, Nat.le_of_ble_eq_true rfl⟩) ⟨zPw_blind, (va_recv hK hP (q0 := 0) (ci := 1) rfl rfl), zPw_pre hK hPc hDc⟩ rfl rfl hl.1 rfl (lv_room (Nat.le_of_ble_eq_true rfl)) dX1_take_109 ⟨Nat.zero_le _, Nat.zero_le _⟩) hS hFc (fun H locs hk1 hP1 hS => ?_)
                  obtain ⟨hP, hD⟩ := zjn (ws' := [(a_this, .inr (1, [.int v23.2.1, .int f_kind, .int f_owner, .int v23.2.2, .int f_branches, .int f_current, .ref a_closing, .ref a_opening])), (a_closing, .inl (cI, 4, .inl f_closing)), (a_opening, .inl (cI, 4, .inl f_opening))]) hP hD [0] [.inr 0, .inl 1, .inl 2] rfl rfl rfl hk1 hP1
                  obtain ⟨v24, hbv24, h⟩ := zbnd h
                  obtain ⟨hbv24, hev24⟩ := zbo_some hbv24
                  rw [hev24]
                  have hR := Option.some.inj h
                  subst hR
                  exact W.zret (v := v24) (ty := .boolean) hx hb hr (by rcases hbv24 with q | q <;> rw [q] <;> rfl) (fun t ht hW => ⟨⟨_, (), rfl, rfl, zhp ht hP⟩, hS.F ht⟩) hS.2.2 dX1_take_112
                · have h := zif_f c22 h
                  refine lv_tableOut (tgt := 113) hx hb dX1_take_4 (by have q0 := zsw (c := (0 : Int32)) (k := 0) (by decide) c1; have q1 := zsw (c := (1 : Int32)) (k := 1) (by decide) c4; have q2 := zsw (c := (2 : Int32)) (k := 2) (by decide) c7; have q3 := zsw (c := (3 : Int32)) (k := 3) (by decide) c10; have q4 := zsw (c := (4 : Int32)) (k := 4) (by decide) c13; have q5 := zsw (c := (5 : Int32)) (k := 5) (by decide) c16; have q6 := zsw (c := (6 : Int32)) (k := 6) (by decide) c19; have q7 := zsw (c := (7 : Int32)) (k := 7) (by decide) c22; omega) (by decide) ?_
                  refine lv_aload_n hx hb dX1_take_113 rfl (lv_at hl 0 rfl) ?_
                  refine lv_iload_n hx hb dX1_take_114 rfl (lv_at hl 1 rfl) ?_
                  refine lv_bipush (v := (59 : Int32)) hx hb dX1_take_115 (by decide) ?_
                  refine lv_iconst (v := (0 : Int32)) hx hb dX1_take_117 (by decide) ?_
                  obtain ⟨v25, hv25, h⟩ := zbnd h
                  have hPc := hP.sub (ws' := [(a_this, .inr (1, [.int f_next, .int f_kind, .int f_owner, .int f_time, .int f_branches, .int f_current, .ref a_closing, .ref a_opening]))]) [0] rfl
                  have hDc := hD.sub (ws' := [(a_this, .inr (1, [.int f_next, .int f_kind, .int f_owner, .int f_time, .int f_branches, .int f_current, .ref a_closing, .ref a_opening]))]) [0] (by decide) rfl
                  have hFc := va_free (wc := [(a_this, .inr (1, [.int f_next, .int f_kind, .int f_owner, .int f_time, .int f_branches, .int f_current, .ref a_closing, .ref a_opening]))]) hD hS hA [0] rfl
                  refine zc_wi (va_runV (C := RX1) (As := [.int p0, .int (59 : Int32), .int (0 : Int32)]) (rest := []) ⟨hx, hb, hml, hown, hts⟩ (c_X1_takeMark l D cI cC cO cJ fu a_this a_closing a_opening _ f_next f_kind f_owner f_time f_branches f_current p0 (59 : Int32) (0 : Int32) v25 hv25) (cwV 3 hts gX1_take_X1_takeMark rfl rfl rfl (by decide +kernel) ⟨Nat.le_of_ble_eq_true rfl, Nat.le_of_ble_eq_true rfl⟩) ⟨zPw_blind, (va_recv hK hP (q0 := 0) (ci := 1) rfl rfl), zPw_pre hK hPc hDc⟩ rfl rfl hl.1 rfl (lv_room (Nat.le_of_ble_eq_true rfl)) dX1_take_118 ⟨Nat.zero_le _, Nat.zero_le _⟩) hS hFc (fun H locs hk1 hP1 hS => ?_)
                  obtain ⟨hP, hD⟩ := zjn (ws' := [(a_this, .inr (1, [.int v25.2, .int f_kind, .int f_owner, .int f_time, .int f_branches, .int f_current, .ref a_closing, .ref a_opening])), (a_closing, .inl (cI, 4, .inl f_closing)), (a_opening, .inl (cI, 4, .inl f_opening))]) hP hD [0] [.inr 0, .inl 1, .inl 2] rfl rfl rfl hk1 hP1
                  obtain ⟨v26, hbv26, h⟩ := zbnd h
                  obtain ⟨hbv26, hev26⟩ := zbo_some hbv26
                  rw [hev26]
                  have hR := Option.some.inj h
                  subst hR
                  exact W.zret (v := v26) (ty := .boolean) hx hb hr (by rcases hbv26 with q | q <;> rw [q] <;> rfl) (fun t ht hW => ⟨⟨_, (), rfl, rfl, zhp ht hP⟩, hS.F ht⟩) hS.2.2 dX1_take_121
