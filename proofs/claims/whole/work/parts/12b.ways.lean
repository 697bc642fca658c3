def F_J7_fill_53178_E20  (v1 : Int32) (v2 : Nat → Int32) : Option ((Nat → Int32)) := some v2
def F_J7_fill_53178_L5 (n_p0 : Nat) (p1 : Int32) (k5 : Int32 → (Nat → Int32) → Option ((Nat → Int32))) (rec5 : Int32 → (Nat → Int32) → Option ((Nat → Int32))) (v3 : Int32) (v4 : Nat → Int32) : Option ((Nat → Int32)) := if (Int32.ofNat n_p0) ≤ v3 then k5 v3 v4 else (zwr v4 n_p0 v3 p1).bind fun v6 => rec5 (v3 + (1 : Int32)) v6
def F_J7_fill_53178 (fu : Nat) (f_p0 : Nat → Int32) (n_p0 : Nat) (p1 : Int32) : Option ((Nat → Int32)) := zlp2 (F_J7_fill_53178_L5 n_p0 p1 (F_J7_fill_53178_E20)) fu (0 : Int32) f_p0
set_option maxHeartbeats 4000000 in
set_option maxRecDepth 100000 in
theorem c_J7_fill_53178 (l : Launch) (D : va_G) (cI cC cO cJ : ClassId) (fu : Nat) (a_p0 : Nat) (sz : Nat) (f_p0 : Nat → Int32) (n_p0 : Nat) (p1 : Int32) (R : (Nat → Int32)) (h : F_J7_fill_53178 fu f_p0 n_p0 p1 = some R) : Met l yJ7_fill_53178 wsJ7_fill_53178 ({ frames := 0, cells := 0, slots := 0, locals := 0 } : Room) (zPw D (ztys cI cC cO cJ) [(a_p0, .inl (cI, n_p0, .inl f_p0))] sz [.ref a_p0, .int p1]) (zWv D [(a_p0, .inl (cI, n_p0, .inl R))] (va_A [(a_p0, .inl (cI, n_p0, .inl f_p0))] sz)) 0 0 (va_A [(a_p0, .inl (cI, n_p0, .inl f_p0))] sz) := by
  refine Met.ofW (cc := cJ7_fill_53178) (maxL := 4) (ret := none) (by decide) rfl ?_
  intro p e s m args below meth c s₁ B hml hv
  obtain ⟨rfl, hsz, hP, hK, hD0⟩ := hv
  have hx := B.exec
  have hb := B.bytes
  have hr := B.returns
  have hts := atoms_spec (ws := wsJ7_fill_53178) B.pre
  have hown : s.vm.findClass RJ7 = some m.cls := findClass_of_methodNamed B.named
  have hlocks := B.notSynchronized
  subst hsz
  have hD := hD0.self (sz := s.heap.size)
  generalize hAe : va_A [(a_p0, .inl (cI, n_p0, .inl f_p0))] s.heap.size = A at hD ⊢
  have hA : ∀ q : Nat, s.heap.size ≤ q → A q := fun q h => by rw [← hAe]; exact Or.inr h
  have hS : va_S A s.heap s.heap [] := va_S.rf
  have hP : va_P D vwCl [(a_p0, .inl (cI, n_p0, .inl f_p0))] s.heap := hP
  have hK : va_K D vwCl (ztys cI cC cO cJ) s := hK
  have hl := lv_entry ([.ref a_p0, .int p1]) (n := 4) (Nat.le_of_ble_eq_true rfl)
  rw [lg_entry_eq]
  generalize (lg_sl ([.ref a_p0, .int p1]) ++ List.replicate (4 - (lg_sl ([.ref a_p0, .int p1])).length) Slot.unset).toArray = ls at hl ⊢
  have hl : lv_has ls 4 [(0, .ref a_p0), (1, .int p1)] := hl
  unfold F_J7_fill_53178 at h
  refine lv_iconst (v := (0 : Int32)) hx hb dJ7_fill_53178_0 (by decide) ?_
  refine lv_istore_n (lv' := [(2, .int (0 : Int32)), (0, .ref a_p0), (1, .int p1)]) hx hb dJ7_fill_53178_1 rfl hl (by decide) rfl (fun ls hl => ?_)
  refine lv_aload_n hx hb dJ7_fill_53178_2 rfl (lv_at hl 1 rfl) ?_
  refine va_alen (v := (Int32.ofNat n_p0)) hx hb hK hP 0 0 rfl rfl rfl dJ7_fill_53178_3 ?_
  refine lv_istore_n (lv' := [(3, .int (Int32.ofNat n_p0)), (2, .int (0 : Int32)), (0, .ref a_p0), (1, .int p1)]) hx hb dJ7_fill_53178_4 rfl hl (by decide) rfl (fun ls hl => ?_)
  have E20 : ∀ (v1 : Int32) (v2 : Nat → Int32), F_J7_fill_53178_E20 v1 v2 = some R → ∀ (H : Heap) (locs : List Loc), va_P D vwCl [(a_p0, .inl (cI, n_p0, .inl v2))] H → va_D A [(a_p0, .inl (cI, n_p0, .inl v2))] → va_S A s.heap H locs → ∀ ls : Array Slot, lv_has ls 4 [(0, .ref a_p0), (1, .int p1), (2, .int v1), (3, .int (Int32.ofNat n_p0))] → W p l e ({ frames := 0, cells := 0, slots := 0, locals := 0 } : Room) s m (([.ref a_p0, .int p1] : List Value).toArray) below meth c H locs 0 0 (MQ below (zWv D [(a_p0, .inl (cI, n_p0, .inl R))] A) (([.ref a_p0, .int p1] : List Value).toArray) s 0 0 A) (F0 m 20 ls []) := by
    intro v1 v2 h H locs hP hD hS ls hl
    unfold F_J7_fill_53178_E20 at h
    have hR := Option.some.inj h
    subst hR
    exact W.vret hx hb hr (fun t ht hW => ⟨⟨(), rfl, trivial, zhp ht hP⟩, hS.F ht⟩) hS.2.2 dJ7_fill_53178_20
  refine zlp_i2 (R := R) (P := fun (v3 : Int32) (v4 : Nat → Int32) => ∀ (H : Heap) (locs : List Loc), va_P D vwCl [(a_p0, .inl (cI, n_p0, .inl v4))] H → va_D A [(a_p0, .inl (cI, n_p0, .inl v4))] → va_S A s.heap H locs → ∀ ls : Array Slot, lv_has ls 4 [(0, .ref a_p0), (1, .int p1), (2, .int v3), (3, .int (Int32.ofNat n_p0))] → W p l e ({ frames := 0, cells := 0, slots := 0, locals := 0 } : Room) s m (([.ref a_p0, .int p1] : List Value).toArray) below meth c H locs 0 0 (MQ below (zWv D [(a_p0, .inl (cI, n_p0, .inl R))] A) (([.ref a_p0, .int p1] : List Value).toArray) s 0 0 A) (F0 m 5 ls [])) (fun rec5 ih5 v3 v4 h => ?_) fu (0 : Int32) f_p0 h _ _ hP hD hS ls (lv_sub hl [2, 3, 1, 0] rfl)
  intro H locs hP hD hS ls hl
  unfold F_J7_fill_53178_L5 at h
  refine lv_iload_n hx hb dJ7_fill_53178_5 rfl (lv_at hl 2 rfl) ?_
  refine lv_iload_n hx hb dJ7_fill_53178_6 rfl (lv_at hl 3 rfl) ?_
  refine lv_icmp_ge (tgt := 20) hx hb dJ7_fill_53178_7 (by decide) (fun c5 => ?_) (fun c5 => ?_)
  · have h := zif_t c5 h
    exact E20 v3 v4 h _ _ hP hD hS ls (lv_sub hl [0, 1, 2, 3] rfl)
  · have h := zif_f c5 h
    refine lv_aload_n hx hb dJ7_fill_53178_10 rfl (lv_at hl 0 rfl) ?_
    refine lv_iload_n hx hb dJ7_fill_53178_11 rfl (lv_at hl 2 rfl) ?_
    refine lv_iload_n hx hb dJ7_fill_53178_12 rfl (lv_at hl 1 rfl) ?_
    obtain ⟨v6, hv6, h⟩ := zbnd h
    refine zr_iast hx hb hK hP hD hS 0 0 rfl rfl hv6 dJ7_fill_53178_13 (fun H locs hP hD hS => ?_)
    have hP : va_P D vwCl [(a_p0, .inl (cI, n_p0, .inl v6))] H := hP
    have hD : va_D A [(a_p0, .inl (cI, n_p0, .inl v6))] := hD
    refine lv_iinc (v := (v3 + (1 : Int32))) (lv' := [(2, .int (v3 + (1 : Int32))), (0, .ref a_p0), (1, .int p1), (3, .int (Int32.ofNat n_p0))]) hx hb dJ7_fill_53178_14 hl (k := 2) rfl rfl (by decide) rfl (fun ls hl => ?_)
    refine lv_goto (tgt := 5) hx hb dJ7_fill_53178_17 (by decide) ?_
    exact ih5 (v3 + (1 : Int32)) v6 h _ _ hP hD hS ls (lv_sub hl [1, 2, 0, 3] rfl)
def F_J13_bitCount_95d88 (fu : Nat) (p0 : Int64) : Option (Int32) := (some (p0 - (((p0.toUInt64 >>> ((1 : Int32).toInt64.toUInt64 &&& Int64.toUInt64 63)).toInt64) &&& (6148914691236517205 : Int64)))).bind fun v1 => (some ((v1 &&& (3689348814741910323 : Int64)) + (((v1.toUInt64 >>> ((2 : Int32).toInt64.toUInt64 &&& Int64.toUInt64 63)).toInt64) &&& (3689348814741910323 : Int64)))).bind fun v2 => (some ((v2 + ((v2.toUInt64 >>> ((4 : Int32).toInt64.toUInt64 &&& Int64.toUInt64 63)).toInt64)) &&& (1085102592571150095 : Int64))).bind fun v3 => (some (v3 + ((v3.toUInt64 >>> ((8 : Int32).toInt64.toUInt64 &&& Int64.toUInt64 63)).toInt64))).bind fun v4 => (some (v4 + ((v4.toUInt64 >>> ((16 : Int32).toInt64.toUInt64 &&& Int64.toUInt64 63)).toInt64))).bind fun v5 => (some (v5 + ((v5.toUInt64 >>> ((32 : Int32).toInt64.toUInt64 &&& Int64.toUInt64 63)).toInt64))).bind fun v6 => some (v6.toInt32 &&& (127 : Int32))
set_option maxHeartbeats 4000000 in
set_option maxRecDepth 100000 in
theorem c_J13_bitCount_95d88 (l : Launch) (D : va_G) (cI cC cO cJ : ClassId) (fu : Nat) (p0 : Int64) (R : Int32) (h : F_J13_bitCount_95d88 fu p0 = some R) : Met l yJ13_bitCount_95d88 wsJ13_bitCount_95d88 ({ frames := 0, cells := 0, slots := 0, locals := 0 } : Room) (zPr D (ztys cI cC cO cJ) [] [.long p0]) (zQi R) 0 0 (fun _ => False) := by
  refine Met.ofW (cc := cJ13_bitCount_95d88) (maxL := 2) (ret := (some .int)) (by decide) rfl ?_
  intro p e s m args below meth c s₁ B hml hv
  obtain ⟨rfl, hP, hK⟩ := hv
  have hx := B.exec
  have hb := B.bytes
  have hr := B.returns
  have hts := atoms_spec (ws := wsJ13_bitCount_95d88) B.pre
  have hown : s.vm.findClass RJ13 = some m.cls := findClass_of_methodNamed B.named
  have hlocks := B.notSynchronized
  have hP : va_P D vwCl [] s.heap := hP
  have hK : va_K D vwCl (ztys cI cC cO cJ) s := hK
  have hl := lv_entry ([.long p0]) (n := 2) (Nat.le_of_ble_eq_true rfl)
  rw [lg_entry_eq]
  generalize (lg_sl ([.long p0]) ++ List.replicate (2 - (lg_sl ([.long p0])).length) Slot.unset).toArray = ls at hl ⊢
  have hl : lv_has ls 2 [(0, .long p0)] := hl
  unfold F_J13_bitCount_95d88 at h
  refine lv_lload_n hx hb dJ13_bitCount_95d88_0 rfl (lv_at hl 0 rfl) ?_
  refine lv_lload_n hx hb dJ13_bitCount_95d88_1 rfl (lv_at hl 0 rfl) ?_
  refine lv_iconst (v := (1 : Int32)) hx hb dJ13_bitCount_95d88_2 (by decide) ?_
  refine lv_lushr (v := (p0.toUInt64 >>> ((1 : Int32).toInt64.toUInt64 &&& Int64.toUInt64 63)).toInt64) hx hb dJ13_bitCount_95d88_3 rfl ?_
  refine lv_ldc2 hx hb (v := (6148914691236517205 : Int64)) hown (hts (Cond.constantLong RJ13 314 (6148914691236517205)) (List.mem_of_getElem? (i := 1) rfl)) dJ13_bitCount_95d88_4 ?_
  refine lv_land hx hb dJ13_bitCount_95d88_7 ?_
  refine lv_lsub hx hb dJ13_bitCount_95d88_8 ?_
  obtain ⟨v1, hv1, h⟩ := zbnd h
  rw [Option.some.inj hv1]
  refine lv_lstore_n (lv' := [(0, .long v1)]) hx hb dJ13_bitCount_95d88_9 rfl hl (by decide) rfl (fun ls hl => ?_)
  refine lv_lload_n hx hb dJ13_bitCount_95d88_10 rfl (lv_at hl 0 rfl) ?_
  refine lv_ldc2 hx hb (v := (3689348814741910323 : Int64)) hown (hts (Cond.constantLong RJ13 316 (3689348814741910323)) (List.mem_of_getElem? (i := 2) rfl)) dJ13_bitCount_95d88_11 ?_
  refine lv_land hx hb dJ13_bitCount_95d88_14 ?_
  refine lv_lload_n hx hb dJ13_bitCount_95d88_15 rfl (lv_at hl 0 rfl) ?_
  refine lv_iconst (v := (2 : Int32)) hx hb dJ13_bitCount_95d88_16 (by decide) ?_
  refine lv_lushr (v := (v1.toUInt64 >>> ((2 : Int32).toInt64.toUInt64 &&& Int64.toUInt64 63)).toInt64) hx hb dJ13_bitCount_95d88_17 rfl ?_
  refine lv_ldc2 hx hb (v := (3689348814741910323 : Int64)) hown (hts (Cond.constantLong RJ13 316 (3689348814741910323)) (List.mem_of_getElem? (i := 2) rfl)) dJ13_bitCount_95d88_18 ?_
  refine lv_land hx hb dJ13_bitCount_95d88_21 ?_
  refine lv_ladd hx hb dJ13_bitCount_95d88_22 ?_
  obtain ⟨v2, hv2, h⟩ := zbnd h
  rw [Option.some.inj hv2]
  refine lv_lstore_n (lv' := [(0, .long v2)]) hx hb dJ13_bitCount_95d88_23 rfl hl (by decide) rfl (fun ls hl => ?_)
  refine lv_lload_n hx hb dJ13_bitCount_95d88_24 rfl (lv_at hl 0 rfl) ?_
  refine lv_lload_n hx hb dJ13_bitCount_95d88_25 rfl (lv_at hl 0 rfl) ?_
  refine lv_iconst (v := (4 : Int32)) hx hb dJ13_bitCount_95d88_26 (by decide) ?_
  refine lv_lushr (v := (v2.toUInt64 >>> ((4 : Int32).toInt64.toUInt64 &&& Int64.toUInt64 63)).toInt64) hx hb dJ13_bitCount_95d88_27 rfl ?_
  refine lv_ladd hx hb dJ13_bitCount_95d88_28 ?_
  refine lv_ldc2 hx hb (v := (1085102592571150095 : Int64)) hown (hts (Cond.constantLong RJ13 318 (1085102592571150095)) (List.mem_of_getElem? (i := 3) rfl)) dJ13_bitCount_95d88_29 ?_
  refine lv_land hx hb dJ13_bitCount_95d88_32 ?_
  obtain ⟨v3, hv3, h⟩ := zbnd h
  rw [Option.some.inj hv3]
  refine lv_lstore_n (lv' := [(0, .long v3)]) hx hb dJ13_bitCount_95d88_33 rfl hl (by decide) rfl (fun ls hl => ?_)
  refine lv_lload_n hx hb dJ13_bitCount_95d88_34 rfl (lv_at hl 0 rfl) ?_
  refine lv_lload_n hx hb dJ13_bitCount_95d88_35 rfl (lv_at hl 0 rfl) ?_
  refine lv_bipush (v := (8 : Int32)) hx hb dJ13_bitCount_95d88_36 (by decide) ?_
  refine lv_lushr (v := (v3.toUInt64 >>> ((8 : Int32).toInt64.toUInt64 &&& Int64.toUInt64 63)).toInt64) hx hb dJ13_bitCount_95d88_38 rfl ?_
  refine lv_ladd hx hb dJ13_bitCount_95d88_39 ?_
  obtain ⟨v4, hv4, h⟩ := zbnd h
  rw [Option.some.inj hv4]
  refine lv_lstore_n (lv' := [(0, .long v4)]) hx hb dJ13_bitCount_95d88_40 rfl hl (by decide) rfl (fun ls hl => ?_)
  refine lv_lload_n hx hb dJ13_bitCount_95d88_41 rfl (lv_at hl 0 rfl) ?_
  refine lv_lload_n hx hb dJ13_bitCount_95d88_42 rfl (lv_at hl 0 rfl) ?_
  refine lv_bipush (v := (16 : Int32)) hx hb dJ13_bitCount_95d88_43 (by decide) ?_
  refine lv_lushr (v := (v4.toUInt64 >>> ((16 : Int32).toInt64.toUInt64 &&& Int64.toUInt64 63)).toInt64) hx hb dJ13_bitCount_95d88_45 rfl ?_
  refine lv_ladd hx hb dJ13_bitCount_95d88_46 ?_
  obtain ⟨v5, hv5, h⟩ := zbnd h
  rw [Option.some.inj hv5]
  refine lv_lstore_n (lv' := [(0, .long v5)]) hx hb dJ13_bitCount_95d88_47 rfl hl (by decide) rfl (fun ls hl => ?_)
  refine lv_lload_n hx hb dJ13_bitCount_95d88_48 rfl (lv_at hl 0 rfl) ?_
  refine lv_lload_n hx hb dJ13_bitCount_95d88_49 rfl (lv_at hl 0 rfl) ?_
  refine lv_bipush (v := (32 : Int32)) hx hb dJ13_bitCount_95d88_50 (by decide) ?_
  refine lv_lushr (v := (v5.toUInt64 >>> ((32 : Int32).toInt64.toUInt64 &&& Int64.toUInt64 63)).toInt64) hx hb dJ13_bitCount_95d88_52 rfl ?_
  refine lv_ladd hx hb dJ13_bitCount_95d88_53 ?_
  obtain ⟨v6, hv6, h⟩ := zbnd h
  rw [Option.some.inj hv6]
  refine lv_lstore_n (lv' := [(0, .long v6)]) hx hb dJ13_bitCount_95d88_54 rfl hl (by decide) rfl (fun ls hl => ?_)
  refine lv_lload_n hx hb dJ13_bitCount_95d88_55 rfl (lv_at hl 0 rfl) ?_
  refine lv_l2i (v := v6.toInt32) hx hb dJ13_bitCount_95d88_56 rfl ?_
  refine lv_bipush (v := (127 : Int32)) hx hb dJ13_bitCount_95d88_57 (by decide) ?_
  refine lv_iand hx hb dJ13_bitCount_95d88_59 ?_
  have hR := Option.some.inj h
  subst hR
  exact W.iret (v := (v6.toInt32 &&& (127 : Int32))) hx hb hr (fun t ht hW => ⟨_, rfl, rfl, ht⟩) (fun q hq => absurd hq List.not_mem_nil) dJ13_bitCount_95d88_60
def F_X2_slotOf_E59  (v2 : Int32) (v3 : Int32) : Option (Int32) := some v2
def F_X2_slotOf_L10 (f_met : Nat → Int32) (f_slots : Nat → Int32) (p0 : Int32) (k10 : Int32 → Int32 → Option (Int32)) (rec10 : Int32 → Int32 → Option (Int32)) (v4 : Int32) (v5 : Int32) : Option (Int32) := if (512 : Int32) ≤ v5 then k10 v4 v5 else (zrd f_slots 512 v4).bind fun v7 => if v7 = (0 : Int32) then k10 v4 v5 else (zrd f_slots 512 v4).bind fun v9 => (zrd f_met 300 (v9 - (1 : Int32))).bind fun v10 => if v10 = p0 then some v4 else rec10 ((v4 + (1 : Int32)) &&& (511 : Int32)) (v5 + (1 : Int32))
def F_X2_slotOf (fu : Nat) (f_met : Nat → Int32) (f_slots : Nat → Int32) (p0 : Int32) : Option (Int32) := (some (((p0 * (-1640531535 : Int32)).toUInt32 >>> ((23 : Int32).toUInt32 &&& Int32.toUInt32 31)).toInt32)).bind fun v1 => zlp2 (F_X2_slotOf_L10 f_met f_slots p0 (F_X2_slotOf_E59)) fu v1 (0 : Int32)
set_option maxHeartbeats 4000000 in
set_option maxRecDepth 100000 in
theorem c_X2_slotOf (l : Launch) (D : va_G) (cI cC cO cJ : ClassId) (fu : Nat) (a_this a_met a_slots a_outcomes a_outcome a_arrivals a_freed a_called : Nat) (f_rests : Int64) (f_states : Int32) (f_told : Int32) (f_wheel : Int32) (f_met : Nat → Int32) (f_slots : Nat → Int32) (p0 : Int32) (R : Int32) (h : F_X2_slotOf fu f_met f_slots p0 = some R) : Met l yX2_slotOf wsX2_slotOf ({ frames := 0, cells := 0, slots := 0, locals := 0 } : Room) (zPr D (ztys cI cC cO cJ) [(a_this, .inr (2, [.ref a_met, .ref a_slots, .ref a_outcomes, .ref a_outcome, .ref a_arrivals, .ref a_freed, .ref a_called, .long f_rests, .int f_states, .int f_told, .int f_wheel])), (a_met, .inl (cI, 300, .inl f_met)), (a_slots, .inl (cI, 512, .inl f_slots))] [.ref a_this, .int p0]) (zQi R) 0 0 (fun _ => False) := by
  refine Met.ofW (cc := cX2_slotOf) (maxL := 4) (ret := (some .int)) (by decide) rfl ?_
  intro p e s m args below meth c s₁ B hml hv
  obtain ⟨rfl, hP, hK⟩ := hv
  have hx := B.exec
  have hb := B.bytes
  have hr := B.returns
  have hts := atoms_spec (ws := wsX2_slotOf) B.pre
  have hown : s.vm.findClass RX2 = some m.cls := findClass_of_methodNamed B.named
  have hlocks := B.notSynchronized
  have hinX2 : ∀ w ∈ wsX20, w ∈ wsX2_slotOf := fun _ h => (List.mem_cons_of_mem _ (List.mem_append_right _ h))
  have hP : va_P D vwCl [(a_this, .inr (2, [.ref a_met, .ref a_slots, .ref a_outcomes, .ref a_outcome, .ref a_arrivals, .ref a_freed, .ref a_called, .long f_rests, .int f_states, .int f_told, .int f_wheel])), (a_met, .inl (cI, 300, .inl f_met)), (a_slots, .inl (cI, 512, .inl f_slots))] s.heap := hP
  have hK : va_K D vwCl (ztys cI cC cO cJ) s := hK
  have hl := lv_entry ([.ref a_this, .int p0]) (n := 4) (Nat.le_of_ble_eq_true rfl)
  rw [lg_entry_eq]
  generalize (lg_sl ([.ref a_this, .int p0]) ++ List.replicate (4 - (lg_sl ([.ref a_this, .int p0])).length) Slot.unset).toArray = ls at hl ⊢
  have hl : lv_has ls 4 [(0, .ref a_this), (1, .int p0)] := hl
  unfold F_X2_slotOf at h
  refine lv_iload_n hx hb dX2_slotOf_0 rfl (lv_at hl 1 rfl) ?_
  refine lv_ldc hx hb (v := (-1640531535 : Int32)) hown (hts (Cond.constant RX2 113 (-1640531535)) (List.mem_of_getElem? (i := 1) rfl)) dX2_slotOf_1 ?_
  refine lv_imul hx hb dX2_slotOf_3 ?_
  refine lv_bipush (v := (23 : Int32)) hx hb dX2_slotOf_4 (by decide) ?_
  refine lv_iushr (v := ((p0 * (-1640531535 : Int32)).toUInt32 >>> ((23 : Int32).toUInt32 &&& Int32.toUInt32 31)).toInt32) hx hb dX2_slotOf_6 rfl ?_
  obtain ⟨v1, hv1, h⟩ := zbnd h
  rw [Option.some.inj hv1]
  refine lv_istore_n (lv' := [(2, .int v1), (0, .ref a_this), (1, .int p0)]) hx hb dX2_slotOf_7 rfl hl (by decide) rfl (fun ls hl => ?_)
  refine lv_iconst (v := (0 : Int32)) hx hb dX2_slotOf_8 (by decide) ?_
  refine lv_istore_n (lv' := [(3, .int (0 : Int32)), (2, .int v1), (0, .ref a_this), (1, .int p0)]) hx hb dX2_slotOf_9 rfl hl (by decide) rfl (fun ls hl => ?_)
  have E59 : ∀ (v2 : Int32) (v3 : Int32), F_X2_slotOf_E59 v2 v3 = some R → ∀ ls : Array Slot, lv_has ls 4 [(0, .ref a_this), (1, .int p0), (2, .int v2), (3, .int v3)] → W p l e ({ frames := 0, cells := 0, slots := 0, locals := 0 } : Room) s m (([.ref a_this, .int p0] : List Value).toArray) below meth c s.heap [] 0 0 (MQ below (zQi R) (([.ref a_this, .int p0] : List Value).toArray) s 0 0 (fun _ => False)) (F0 m 59 ls []) := by
    intro v2 v3 h ls hl
    unfold F_X2_slotOf_E59 at h
    refine lv_iload_n hx hb dX2_slotOf_59 rfl (lv_at hl 2 rfl) ?_
    have hR := Option.some.inj h
    subst hR
    exact W.iret (v := v2) hx hb hr (fun t ht hW => ⟨_, rfl, rfl, ht⟩) (fun q hq => absurd hq List.not_mem_nil) dX2_slotOf_60
  refine zlp_i2 (R := R) (P := fun (v4 : Int32) (v5 : Int32) => ∀ ls : Array Slot, lv_has ls 4 [(0, .ref a_this), (1, .int p0), (2, .int v4), (3, .int v5)] → W p l e ({ frames := 0, cells := 0, slots := 0, locals := 0 } : Room) s m (([.ref a_this, .int p0] : List Value).toArray) below meth c s.heap [] 0 0 (MQ below (zQi R) (([.ref a_this, .int p0] : List Value).toArray) s 0 0 (fun _ => False)) (F0 m 10 ls [])) (fun rec10 ih10 v4 v5 h => ?_) fu v1 (0 : Int32) h ls (lv_sub hl [2, 3, 1, 0] rfl)
  intro ls hl
  unfold F_X2_slotOf_L10 at h
  refine lv_iload_n hx hb dX2_slotOf_10 rfl (lv_at hl 3 rfl) ?_
  refine lv_sipush (v := (512 : Int32)) hx hb dX2_slotOf_11 (by decide) ?_
  refine lv_icmp_ge (tgt := 59) hx hb dX2_slotOf_14 (by decide) (fun c6 => ?_) (fun c6 => ?_)
  · have h := zif_t c6 h
    exact E59 v4 v5 h ls (lv_sub hl [0, 1, 2, 3] rfl)
  · have h := zif_f c6 h
    refine lv_aload_n hx hb dX2_slotOf_17 rfl (lv_at hl 0 rfl) ?_
    refine va_get (D := D) (ci := 2) (v := .ref a_slots) (C := RX2) (T := TX2) (N := 11) hx hb hts hinX2 hown hK hP 0 rfl rfl 1 (by decide) (hts (Cond.fieldLink RX2 15 "LadderRelays$Ways" "slots" "[I") (List.mem_of_getElem? (i := 2) rfl)) (fun _ h9 => h9) rfl dX2_slotOf_18 ?_
    refine lv_iload_n hx hb dX2_slotOf_21 rfl (lv_at hl 2 rfl) ?_
    obtain ⟨v7, hv7, h⟩ := zbnd h
    refine zr_iald hx hb hK hP 2 0 rfl rfl hv7 dX2_slotOf_22 ?_
    refine lv_if_eq (tgt := 59) hx hb dX2_slotOf_23 (by decide) (fun c8 => ?_) (fun c8 => ?_)
    · have h := zif_t c8 h
      exact E59 v4 v5 h ls (lv_sub hl [0, 1, 2, 3] rfl)
    · have h := zif_f c8 h
      refine lv_aload_n hx hb dX2_slotOf_26 rfl (lv_at hl 0 rfl) ?_
      refine va_get (D := D) (ci := 2) (v := .ref a_met) (C := RX2) (T := TX2) (N := 11) hx hb hts hinX2 hown hK hP 0 rfl rfl 0 (by decide) (hts (Cond.fieldLink RX2 11 "LadderRelays$Ways" "met" "[I") (List.mem_of_getElem? (i := 3) rfl)) (fun _ h9 => h9) rfl dX2_slotOf_27 ?_
      refine lv_aload_n hx hb dX2_slotOf_30 rfl (lv_at hl 0 rfl) ?_
      refine va_get (D := D) (ci := 2) (v := .ref a_slots) (C := RX2) (T := TX2) (N := 11) hx hb hts hinX2 hown hK hP 0 rfl rfl 1 (by decide) (hts (Cond.fieldLink RX2 15 "LadderRelays$Ways" "slots" "[I") (List.mem_of_getElem? (i := 2) rfl)) (fun _ h9 => h9) rfl dX2_slotOf_31 ?_
      refine lv_iload_n hx hb dX2_slotOf_34 rfl (lv_at hl 2 rfl) ?_
      obtain ⟨v9, hv9, h⟩ := zbnd h
      refine zr_iald hx hb hK hP 2 0 rfl rfl hv9 dX2_slotOf_35 ?_
      refine lv_iconst (v := (1 : Int32)) hx hb dX2_slotOf_36 (by decide) ?_
      refine lv_isub hx hb dX2_slotOf_37 ?_
      obtain ⟨v10, hv10, h⟩ := zbnd h
      refine zr_iald hx hb hK hP 1 0 rfl rfl hv10 dX2_slotOf_38 ?_
      refine lv_iload_n hx hb dX2_slotOf_39 rfl (lv_at hl 1 rfl) ?_
      refine lv_icmp_ne (tgt := 45) hx hb dX2_slotOf_40 (by decide) (fun c11 => ?_) (fun c11 => ?_)
      · have h := zif_f c11 h
        refine lv_iload_n hx hb dX2_slotOf_45 rfl (lv_at hl 2 rfl) ?_
        refine lv_iconst (v := (1 : Int32)) hx hb dX2_slotOf_46 (by decide) ?_
        refine lv_iadd hx hb dX2_slotOf_47 ?_
        refine lv_sipush (v := (511 : Int32)) hx hb dX2_slotOf_48 (by decide) ?_
        refine lv_iand hx hb dX2_slotOf_51 ?_
        refine lv_istore_n (lv' := [(2, .int ((v4 + (1 : Int32)) &&& (511 : Int32))), (0, .ref a_this), (1, .int p0), (3, .int v5)]) hx hb dX2_slotOf_52 rfl hl (by decide) rfl (fun ls hl => ?_)
        refine lv_iinc (v := (v5 + (1 : Int32))) (lv' := [(3, .int (v5 + (1 : Int32))), (2, .int ((v4 + (1 : Int32)) &&& (511 : Int32))), (0, .ref a_this), (1, .int p0)]) hx hb dX2_slotOf_53 hl (k := 3) rfl rfl (by decide) rfl (fun ls hl => ?_)
        refine lv_goto (tgt := 10) hx hb dX2_slotOf_56 (by decide) ?_
        exact ih10 ((v4 + (1 : Int32)) &&& (511 : Int32)) (v5 + (1 : Int32)) h ls (lv_sub hl [2, 3, 1, 0] rfl)
      · have h := zif_t c11 h
        refine lv_iload_n hx hb dX2_slotOf_43 rfl (lv_at hl 2 rfl) ?_
        have hR := Option.some.inj h
        subst hR
        exact W.iret (v := v4) hx hb hr (fun t ht hW => ⟨_, rfl, rfl, ht⟩) (fun q hq => absurd hq List.not_mem_nil) dX2_slotOf_44
def F_X2_meet (fu : Nat) (f_states : Int32) (f_told : Int32) (f_met : Nat → Int32) (f_slots : Nat → Int32) (p0 : Int32) (p1 : Int32) : Option (Int32 × Int32 × Int32 × (Nat → Int32) × (Nat → Int32)) := if f_states < (300 : Int32) then (zwr f_met 300 f_states p0).bind fun v2 => (zwr f_slots 512 p1 (f_states + (1 : Int32))).bind fun v3 => some ((1 : Int32), (f_states + (1 : Int32)), f_told, v2, v3) else some ((0 : Int32), f_states, (0 : Int32), f_met, f_slots)
set_option maxHeartbeats 4000000 in
set_option maxRecDepth 100000 in
theorem c_X2_meet (l : Launch) (D : va_G) (cI cC cO cJ : ClassId) (fu : Nat) (a_this a_met a_slots a_outcomes a_outcome a_arrivals a_freed a_called : Nat) (sz : Nat) (f_rests : Int64) (f_states : Int32) (f_told : Int32) (f_wheel : Int32) (f_met : Nat → Int32) (f_slots : Nat → Int32) (p0 : Int32) (p1 : Int32) (R : Int32 × Int32 × Int32 × (Nat → Int32) × (Nat → Int32)) (h : F_X2_meet fu f_states f_told f_met f_slots p0 p1 = some R) : Met l yX2_meet wsX2_meet ({ frames := 0, cells := 0, slots := 0, locals := 0 } : Room) (zPw D (ztys cI cC cO cJ) [(a_this, .inr (2, [.ref a_met, .ref a_slots, .ref a_outcomes, .ref a_outcome, .ref a_arrivals, .ref a_freed, .ref a_called, .long f_rests, .int f_states, .int f_told, .int f_wheel])), (a_met, .inl (cI, 300, .inl f_met)), (a_slots, .inl (cI, 512, .inl f_slots))] sz [.ref a_this, .int p0, .int p1]) (zWi D R.1 [(a_this, .inr (2, [.ref a_met, .ref a_slots, .ref a_outcomes, .ref a_outcome, .ref a_arrivals, .ref a_freed, .ref a_called, .long f_rests, .int R.2.1, .int R.2.2.1, .int f_wheel])), (a_met, .inl (cI, 300, .inl R.2.2.2.1)), (a_slots, .inl (cI, 512, .inl R.2.2.2.2))] (va_A [(a_this, .inr (2, [.ref a_met, .ref a_slots, .ref a_outcomes, .ref a_outcome, .ref a_arrivals, .ref a_freed, .ref a_called, .long f_rests, .int f_states, .int f_told, .int f_wheel])), (a_met, .inl (cI, 300, .inl f_met)), (a_slots, .inl (cI, 512, .inl f_slots))] sz)) 0 0 (va_A [(a_this, .inr (2, [.ref a_met, .ref a_slots, .ref a_outcomes, .ref a_outcome, .ref a_arrivals, .ref a_freed, .ref a_called, .long f_rests, .int f_states, .int f_told, .int f_wheel])), (a_met, .inl (cI, 300, .inl f_met)), (a_slots, .inl (cI, 512, .inl f_slots))] sz) := by
  refine Met.ofW (cc := cX2_meet) (maxL := 3) (ret := (some .boolean)) (by decide) rfl ?_
  intro p e s m args below meth c s₁ B hml hv
  obtain ⟨rfl, hsz, hP, hK, hD0⟩ := hv
  have hx := B.exec
  have hb := B.bytes
  have hr := B.returns
  have hts := atoms_spec (ws := wsX2_meet) B.pre
  have hown : s.vm.findClass RX2 = some m.cls := findClass_of_methodNamed B.named
  have hlocks := B.notSynchronized
  have hinX2 : ∀ w ∈ wsX20, w ∈ wsX2_meet := fun _ h => (List.mem_cons_of_mem _ (List.mem_append_right _ h))
  subst hsz
  have hD := hD0.self (sz := s.heap.size)
  generalize hAe : va_A [(a_this, .inr (2, [.ref a_met, .ref a_slots, .ref a_outcomes, .ref a_outcome, .ref a_arrivals, .ref a_freed, .ref a_called, .long f_rests, .int f_states, .int f_told, .int f_wheel])), (a_met, .inl (cI, 300, .inl f_met)), (a_slots, .inl (cI, 512, .inl f_slots))] s.heap.size = A at hD ⊢
  have hA : ∀ q : Nat, s.heap.size ≤ q → A q := fun q h => by rw [← hAe]; exact Or.inr h
  have hS : va_S A s.heap s.heap [] := va_S.rf
  have hP : va_P D vwCl [(a_this, .inr (2, [.ref a_met, .ref a_slots, .ref a_outcomes, .ref a_outcome, .ref a_arrivals, .ref a_freed, .ref a_called, .long f_rests, .int f_states, .int f_told, .int f_wheel])), (a_met, .inl (cI, 300, .inl f_met)), (a_slots, .inl (cI, 512, .inl f_slots))] s.heap := hP
  have hK : va_K D vwCl (ztys cI cC cO cJ) s := hK
  have hl := lv_entry ([.ref a_this, .int p0, .int p1]) (n := 3) (Nat.le_of_ble_eq_true rfl)
  rw [lg_entry_eq]
  generalize (lg_sl ([.ref a_this, .int p0, .int p1]) ++ List.replicate (3 - (lg_sl ([.ref a_this, .int p0, .int p1])).length) Slot.unset).toArray = ls at hl ⊢
  have hl : lv_has ls 3 [(0, .ref a_this), (1, .int p0), (2, .int p1)] := hl
  unfold F_X2_meet at h
  refine lv_aload_n hx hb dX2_meet_0 rfl (lv_at hl 0 rfl) ?_
  refine va_get (D := D) (ci := 2) (v := .int f_states) (C := RX2) (T := TX2) (N := 11) hx hb hts hinX2 hown hK hP 0 rfl rfl 8 (by decide) (hts (Cond.fieldLink RX2 43 "LadderRelays$Ways" "states" "I") (List.mem_of_getElem? (i := 1) rfl)) (fun _ h9 => h9) rfl dX2_meet_1 ?_
  refine lv_sipush (v := (300 : Int32)) hx hb dX2_meet_4 (by decide) ?_
  refine lv_icmp_lt (tgt := 17) hx hb dX2_meet_7 (by decide) (fun c1 => ?_) (fun c1 => ?_)
  · have h := zif_t c1 h
    refine lv_aload_n hx hb dX2_meet_17 rfl (lv_at hl 0 rfl) ?_
    refine va_get (D := D) (ci := 2) (v := .ref a_met) (C := RX2) (T := TX2) (N := 11) hx hb hts hinX2 hown hK hP 0 rfl rfl 0 (by decide) (hts (Cond.fieldLink RX2 11 "LadderRelays$Ways" "met" "[I") (List.mem_of_getElem? (i := 3) rfl)) (fun _ h9 => h9) rfl dX2_meet_18 ?_
    refine lv_aload_n hx hb dX2_meet_21 rfl (lv_at hl 0 rfl) ?_
    refine va_get (D := D) (ci := 2) (v := .int f_states) (C := RX2) (T := TX2) (N := 11) hx hb hts hinX2 hown hK hP 0 rfl rfl 8 (by decide) (hts (Cond.fieldLink RX2 43 "LadderRelays$Ways" "states" "I") (List.mem_of_getElem? (i := 1) rfl)) (fun _ h9 => h9) rfl dX2_meet_22 ?_
    refine lv_iload_n hx hb dX2_meet_25 rfl (lv_at hl 1 rfl) ?_
    obtain ⟨v2, hv2, h⟩ := zbnd h
    refine zr_iast hx hb hK hP hD hS 1 0 rfl rfl hv2 dX2_meet_26 (fun H locs hP hD hS => ?_)
    have hP : va_P D vwCl [(a_this, .inr (2, [.ref a_met, .ref a_slots, .ref a_outcomes, .ref a_outcome, .ref a_arrivals, .ref a_freed, .ref a_called, .long f_rests, .int f_states, .int f_told, .int f_wheel])), (a_met, .inl (cI, 300, .inl v2)), (a_slots, .inl (cI, 512, .inl f_slots))] H := hP
    have hD : va_D A [(a_this, .inr (2, [.ref a_met, .ref a_slots, .ref a_outcomes, .ref a_outcome, .ref a_arrivals, .ref a_freed, .ref a_called, .long f_rests, .int f_states, .int f_told, .int f_wheel])), (a_met, .inl (cI, 300, .inl v2)), (a_slots, .inl (cI, 512, .inl f_slots))] := hD
    refine lv_aload_n hx hb dX2_meet_27 rfl (lv_at hl 0 rfl) ?_
    refine lv_dup hx hb dX2_meet_28 rfl ?_
    refine va_get (D := D) (ci := 2) (v := .int f_states) (C := RX2) (T := TX2) (N := 11) hx hb hts hinX2 hown hK hP 0 rfl rfl 8 (by decide) (hts (Cond.fieldLink RX2 43 "LadderRelays$Ways" "states" "I") (List.mem_of_getElem? (i := 1) rfl)) (fun _ h9 => h9) rfl dX2_meet_29 ?_
    refine lv_iconst (v := (1 : Int32)) hx hb dX2_meet_32 (by decide) ?_
    refine lv_iadd hx hb dX2_meet_33 ?_
    refine va_put (D := D) (ci := 2) (v := .int (f_states + (1 : Int32))) (ty := .int) (C := RX2) (T := TX2) (N := 11) hx hb hts hinX2 tyX2 tyX2_ok nmX2 hown hK hP hD hS 0 rfl rfl 8 (by decide) (hts (Cond.fieldLink RX2 43 "LadderRelays$Ways" "states" "I") (List.mem_of_getElem? (i := 1) rfl)) (fun _ h9 => h9) rfl (by decide +kernel) rfl rfl (Nat.le_of_ble_eq_true rfl) dX2_meet_34 (fun H locs hP hD hS => ?_)
    have hP : va_P D vwCl [(a_this, .inr (2, [.ref a_met, .ref a_slots, .ref a_outcomes, .ref a_outcome, .ref a_arrivals, .ref a_freed, .ref a_called, .long f_rests, .int (f_states + (1 : Int32)), .int f_told, .int f_wheel])), (a_met, .inl (cI, 300, .inl v2)), (a_slots, .inl (cI, 512, .inl f_slots))] H := hP
    have hD : va_D A [(a_this, .inr (2, [.ref a_met, .ref a_slots, .ref a_outcomes, .ref a_outcome, .ref a_arrivals, .ref a_freed, .ref a_called, .long f_rests, .int (f_states + (1 : Int32)), .int f_told, .int f_wheel])), (a_met, .inl (cI, 300, .inl v2)), (a_slots, .inl (cI, 512, .inl f_slots))] := hD
    refine lv_aload_n hx hb dX2_meet_37 rfl (lv_at hl 0 rfl) ?_
    refine va_get (D := D) (ci := 2) (v := .ref a_slots) (C := RX2) (T := TX2) (N := 11) hx hb hts hinX2 hown hK hP 0 rfl rfl 1 (by decide) (hts (Cond.fieldLink RX2 15 "LadderRelays$Ways" "slots" "[I") (List.mem_of_getElem? (i := 4) rfl)) (fun _ h9 => h9) rfl dX2_meet_38 ?_
    refine lv_iload_n hx hb dX2_meet_41 rfl (lv_at hl 2 rfl) ?_
    refine lv_aload_n hx hb dX2_meet_42 rfl (lv_at hl 0 rfl) ?_
    refine va_get (D := D) (ci := 2) (v := .int (f_states + (1 : Int32))) (C := RX2) (T := TX2) (N := 11) hx hb hts hinX2 hown hK hP 0 rfl rfl 8 (by decide) (hts (Cond.fieldLink RX2 43 "LadderRelays$Ways" "states" "I") (List.mem_of_getElem? (i := 1) rfl)) (fun _ h9 => h9) rfl dX2_meet_43 ?_
    obtain ⟨v3, hv3, h⟩ := zbnd h
    refine zr_iast hx hb hK hP hD hS 2 0 rfl rfl hv3 dX2_meet_46 (fun H locs hP hD hS => ?_)
    have hP : va_P D vwCl [(a_this, .inr (2, [.ref a_met, .ref a_slots, .ref a_outcomes, .ref a_outcome, .ref a_arrivals, .ref a_freed, .ref a_called, .long f_rests, .int (f_states + (1 : Int32)), .int f_told, .int f_wheel])), (a_met, .inl (cI, 300, .inl v2)), (a_slots, .inl (cI, 512, .inl v3))] H := hP
    have hD : va_D A [(a_this, .inr (2, [.ref a_met, .ref a_slots, .ref a_outcomes, .ref a_outcome, .ref a_arrivals, .ref a_freed, .ref a_called, .long f_rests, .int (f_states + (1 : Int32)), .int f_told, .int f_wheel])), (a_met, .inl (cI, 300, .inl v2)), (a_slots, .inl (cI, 512, .inl v3))] := hD
    refine lv_iconst (v := (1 : Int32)) hx hb dX2_meet_47 (by decide) ?_
    have hR := Option.some.inj h
    subst hR
    exact W.zret (v := (1 : Int32)) (ty := .boolean) hx hb hr rfl (fun t ht hW => ⟨⟨_, (), rfl, rfl, zhp ht hP⟩, hS.F ht⟩) hS.2.2 dX2_meet_48
  · have h := zif_f c1 h
    refine lv_aload_n hx hb dX2_meet_10 rfl (lv_at hl 0 rfl) ?_
    refine lv_iconst (v := (0 : Int32)) hx hb dX2_meet_11 (by decide) ?_
    refine va_put (D := D) (ci := 2) (v := .int (0 : Int32)) (ty := .boolean) (C := RX2) (T := TX2) (N := 11) hx hb hts hinX2 tyX2 tyX2_ok nmX2 hown hK hP hD hS 0 rfl rfl 9 (by decide) (hts (Cond.fieldLink RX2 47 "LadderRelays$Ways" "told" "Z") (List.mem_of_getElem? (i := 2) rfl)) (fun _ h9 => h9) rfl (by decide +kernel) rfl rfl (Nat.le_of_ble_eq_true rfl) dX2_meet_12 (fun H locs hP hD hS => ?_)
    have hP : va_P D vwCl [(a_this, .inr (2, [.ref a_met, .ref a_slots, .ref a_outcomes, .ref a_outcome, .ref a_arrivals, .ref a_freed, .ref a_called, .long f_rests, .int f_states, .int (0 : Int32), .int f_wheel])), (a_met, .inl (cI, 300, .inl f_met)), (a_slots, .inl (cI, 512, .inl f_slots))] H := hP
    have hD : va_D A [(a_this, .inr (2, [.ref a_met, .ref a_slots, .ref a_outcomes, .ref a_outcome, .ref a_arrivals, .ref a_freed, .ref a_called, .long f_rests, .int f_states, .int (0 : Int32), .int f_wheel])), (a_met, .inl (cI, 300, .inl f_met)), (a_slots, .inl (cI, 512, .inl f_slots))] := hD
    refine lv_iconst (v := (0 : Int32)) hx hb dX2_meet_15 (by decide) ?_
    have hR := Option.some.inj h
    subst hR
    exact W.zret (v := (0 : Int32)) (ty := .boolean) hx hb hr rfl (fun t ht hW => ⟨⟨_, (), rfl, rfl, zhp ht hP⟩, hS.F ht⟩) hS.2.2 dX2_meet_16
def F_X2_goTo_J25 (f_outcome : Nat → Int32) (f_outcomes : Nat → Int32) (p0 : Int32) (v1 : Int32) (v3 : Int32) (v4 : Int32) (v5 : Nat → Int32) (v6 : Nat → Int32) : Option (Int32 × Int32 × (Nat → Int32) × (Nat → Int32) × (Nat → Int32) × (Nat → Int32)) := (zrd f_outcomes 300 p0).bind fun v7 => if (7 : Int32) ≤ v7 then some (v3, v4, v5, v6, f_outcomes, f_outcome) else (zrd f_outcomes 300 p0).bind fun v9 => (zrd v6 512 v1).bind fun v10 => (zwr f_outcome 2100 ((p0 * (7 : Int32)) + v9) (v10 - (1 : Int32))).bind fun v11 => (zrd f_outcomes 300 p0).bind fun v12 => (zwr f_outcomes 300 p0 (v12 + (1 : Int32))).bind fun v13 => some (v3, v4, v5, v6, v13, v11)
def F_X2_goTo (fu : Nat) (f_states : Int32) (f_told : Int32) (f_met : Nat → Int32) (f_slots : Nat → Int32) (f_outcomes : Nat → Int32) (f_outcome : Nat → Int32) (p0 : Int32) (p1 : Int32) : Option (Int32 × Int32 × (Nat → Int32) × (Nat → Int32) × (Nat → Int32) × (Nat → Int32)) := (F_X2_slotOf fu f_met f_slots p1).bind fun v1 => (zrd f_slots 512 v1).bind fun v2 => if v2 = (0 : Int32) then (F_X2_meet fu f_states f_told f_met f_slots p1 v1).bind fun v15 => if v15.1 = (0 : Int32) then some (v15.2.1, v15.2.2.1, v15.2.2.2.1, v15.2.2.2.2, f_outcomes, f_outcome) else F_X2_goTo_J25 f_outcome f_outcomes p0 v1 v15.2.1 v15.2.2.1 v15.2.2.2.1 v15.2.2.2.2 else F_X2_goTo_J25 f_outcome f_outcomes p0 v1 f_states f_told f_met f_slots
set_option maxHeartbeats 4000000 in
set_option maxRecDepth 100000 in
theorem c_X2_goTo (l : Launch) (D : va_G) (cI cC cO cJ : ClassId) (fu : Nat) (a_this a_met a_slots a_outcomes a_outcome a_arrivals a_freed a_called : Nat) (sz : Nat) (f_rests : Int64) (f_states : Int32) (f_told : Int32) (f_wheel : Int32) (f_met : Nat → Int32) (f_slots : Nat → Int32) (f_outcomes : Nat → Int32) (f_outcome : Nat → Int32) (p0 : Int32) (p1 : Int32) (R : Int32 × Int32 × (Nat → Int32) × (Nat → Int32) × (Nat → Int32) × (Nat → Int32)) (h : F_X2_goTo fu f_states f_told f_met f_slots f_outcomes f_outcome p0 p1 = some R) : Met l yX2_goTo wsX2_goTo ({ frames := 1, cells := 0, slots := 0, locals := 23 } : Room) (zPw D (ztys cI cC cO cJ) [(a_this, .inr (2, [.ref a_met, .ref a_slots, .ref a_outcomes, .ref a_outcome, .ref a_arrivals, .ref a_freed, .ref a_called, .long f_rests, .int f_states, .int f_told, .int f_wheel])), (a_met, .inl (cI, 300, .inl f_met)), (a_slots, .inl (cI, 512, .inl f_slots)), (a_outcomes, .inl (cI, 300, .inl f_outcomes)), (a_outcome, .inl (cI, 2100, .inl f_outcome))] sz [.ref a_this, .int p0, .int p1]) (zWv D [(a_this, .inr (2, [.ref a_met, .ref a_slots, .ref a_outcomes, .ref a_outcome, .ref a_arrivals, .ref a_freed, .ref a_called, .long f_rests, .int R.1, .int R.2.1, .int f_wheel])), (a_met, .inl (cI, 300, .inl R.2.2.1)), (a_slots, .inl (cI, 512, .inl R.2.2.2.1)), (a_outcomes, .inl (cI, 300, .inl R.2.2.2.2.1)), (a_outcome, .inl (cI, 2100, .inl R.2.2.2.2.2))] (va_A [(a_this, .inr (2, [.ref a_met, .ref a_slots, .ref a_outcomes, .ref a_outcome, .ref a_arrivals, .ref a_freed, .ref a_called, .long f_rests, .int f_states, .int f_told, .int f_wheel])), (a_met, .inl (cI, 300, .inl f_met)), (a_slots, .inl (cI, 512, .inl f_slots)), (a_outcomes, .inl (cI, 300, .inl f_outcomes)), (a_outcome, .inl (cI, 2100, .inl f_outcome))] sz)) 0 0 (va_A [(a_this, .inr (2, [.ref a_met, .ref a_slots, .ref a_outcomes, .ref a_outcome, .ref a_arrivals, .ref a_freed, .ref a_called, .long f_rests, .int f_states, .int f_told, .int f_wheel])), (a_met, .inl (cI, 300, .inl f_met)), (a_slots, .inl (cI, 512, .inl f_slots)), (a_outcomes, .inl (cI, 300, .inl f_outcomes)), (a_outcome, .inl (cI, 2100, .inl f_outcome))] sz) := by
  refine Met.ofW (cc := cX2_goTo) (maxL := 4) (ret := none) (by decide) rfl ?_
  intro p e s m args below meth c s₁ B hml hv
  obtain ⟨rfl, hsz, hP, hK, hD0⟩ := hv
  have hx := B.exec
  have hb := B.bytes
  have hr := B.returns
  have hts := atoms_spec (ws := wsX2_goTo) B.pre
  have hown : s.vm.findClass RX2 = some m.cls := findClass_of_methodNamed B.named
  have hlocks := B.notSynchronized
  have hinX2 : ∀ w ∈ wsX20, w ∈ wsX2_goTo := fun _ h => (List.mem_cons_of_mem _ (List.mem_append_right _ h))
  subst hsz
  have hD := hD0.self (sz := s.heap.size)
  generalize hAe : va_A [(a_this, .inr (2, [.ref a_met, .ref a_slots, .ref a_outcomes, .ref a_outcome, .ref a_arrivals, .ref a_freed, .ref a_called, .long f_rests, .int f_states, .int f_told, .int f_wheel])), (a_met, .inl (cI, 300, .inl f_met)), (a_slots, .inl (cI, 512, .inl f_slots)), (a_outcomes, .inl (cI, 300, .inl f_outcomes)), (a_outcome, .inl (cI, 2100, .inl f_outcome))] s.heap.size = A at hD ⊢
  have hA : ∀ q : Nat, s.heap.size ≤ q → A q := fun q h => by rw [← hAe]; exact Or.inr h
  have hS : va_S A s.heap s.heap [] := va_S.rf
  have hP : va_P D vwCl [(a_this, .inr (2, [.ref a_met, .ref a_slots, .ref a_outcomes, .ref a_outcome, .ref a_arrivals, .ref a_freed, .ref a_called, .long f_rests, .int f_states, .int f_told, .int f_wheel])), (a_met, .inl (cI, 300, .inl f_met)), (a_slots, .inl (cI, 512, .inl f_slots)), (a_outcomes, .inl (cI, 300, .inl f_outcomes)), (a_outcome, .inl (cI, 2100, .inl f_outcome))] s.heap := hP
  have hK : va_K D vwCl (ztys cI cC cO cJ) s := hK
  have hl := lv_entry ([.ref a_this, .int p0, .int p1]) (n := 4) (Nat.le_of_ble_eq_true rfl)
  rw [lg_entry_eq]
  generalize (lg_sl ([.ref a_this, .int p0, .int p1]) ++ List.replicate (4 - (lg_sl ([.ref a_this, .int p0, .int p1])).length) Slot.unset).toArray = ls at hl ⊢
  have hl : lv_has ls 4 [(0, .ref a_this), (1, .int p0), (2, .int p1)] := hl
  unfold F_X2_goTo at h
  refine lv_aload_n hx hb dX2_goTo_0 rfl (lv_at hl 0 rfl) ?_
  refine lv_iload_n hx hb dX2_goTo_1 rfl (lv_at hl 2 rfl) ?_
  obtain ⟨v1, hv1, h⟩ := zbnd h
  have hPc := hP.sub (ws' := [(a_this, .inr (2, [.ref a_met, .ref a_slots, .ref a_outcomes, .ref a_outcome, .ref a_arrivals, .ref a_freed, .ref a_called, .long f_rests, .int f_states, .int f_told, .int f_wheel])), (a_met, .inl (cI, 300, .inl f_met)), (a_slots, .inl (cI, 512, .inl f_slots))]) [0, 1, 2] rfl
  refine zc_i (W.runV (C := RX2) (As := [.int p1]) (rest := []) ⟨hx, hb, hml, hown, hts⟩ (c_X2_slotOf l D cI cC cO cJ fu a_this a_met a_slots a_outcomes a_outcome a_arrivals a_freed a_called f_rests f_states f_told f_wheel f_met f_slots p1 v1 hv1) (cwV 1 hts gX2_goTo_X2_slotOf rfl rfl rfl (by decide +kernel) ⟨Nat.le_of_ble_eq_true rfl, Nat.le_of_ble_eq_true rfl⟩) ⟨zPr_blind, (va_recv hK hP (q0 := 0) (ci := 2) rfl rfl), zPr_pre hK hPc⟩ rfl rfl hl.1 rfl (lv_room (Nat.le_of_ble_eq_true rfl)) dX2_goTo_2 ⟨Nat.zero_le _, Nat.zero_le _⟩) ?_
  refine lv_istore_n (lv' := [(3, .int v1), (0, .ref a_this), (1, .int p0), (2, .int p1)]) hx hb dX2_goTo_5 rfl hl (by decide) rfl (fun ls hl => ?_)
  refine lv_aload_n hx hb dX2_goTo_6 rfl (lv_at hl 1 rfl) ?_
  refine va_get (D := D) (ci := 2) (v := .ref a_slots) (C := RX2) (T := TX2) (N := 11) hx hb hts hinX2 hown hK hP 0 rfl rfl 1 (by decide) (hts (Cond.fieldLink RX2 15 "LadderRelays$Ways" "slots" "[I") (List.mem_of_getElem? (i := 1) rfl)) (fun _ h9 => h9) rfl dX2_goTo_7 ?_
  refine lv_iload_n hx hb dX2_goTo_10 rfl (lv_at hl 0 rfl) ?_
  obtain ⟨v2, hv2, h⟩ := zbnd h
  refine zr_iald hx hb hK hP 2 0 rfl rfl hv2 dX2_goTo_11 ?_
  have J25 : ∀ (v3 : Int32) (v4 : Int32) (v5 : Nat → Int32) (v6 : Nat → Int32), F_X2_goTo_J25 f_outcome f_outcomes p0 v1 v3 v4 v5 v6 = some R → ∀ (H : Heap) (locs : List Loc), va_P D vwCl [(a_this, .inr (2, [.ref a_met, .ref a_slots, .ref a_outcomes, .ref a_outcome, .ref a_arrivals, .ref a_freed, .ref a_called, .long f_rests, .int v3, .int v4, .int f_wheel])), (a_met, .inl (cI, 300, .inl v5)), (a_slots, .inl (cI, 512, .inl v6)), (a_outcomes, .inl (cI, 300, .inl f_outcomes)), (a_outcome, .inl (cI, 2100, .inl f_outcome))] H → va_D A [(a_this, .inr (2, [.ref a_met, .ref a_slots, .ref a_outcomes, .ref a_outcome, .ref a_arrivals, .ref a_freed, .ref a_called, .long f_rests, .int v3, .int v4, .int f_wheel])), (a_met, .inl (cI, 300, .inl v5)), (a_slots, .inl (cI, 512, .inl v6)), (a_outcomes, .inl (cI, 300, .inl f_outcomes)), (a_outcome, .inl (cI, 2100, .inl f_outcome))] → va_S A s.heap H locs → ∀ ls : Array Slot, lv_has ls 4 [(0, .ref a_this), (1, .int p0), (2, .int p1), (3, .int v1)] → W p l e ({ frames := 1, cells := 0, slots := 0, locals := 23 } : Room) s m (([.ref a_this, .int p0, .int p1] : List Value).toArray) below meth c H locs 0 0 (MQ below (zWv D [(a_this, .inr (2, [.ref a_met, .ref a_slots, .ref a_outcomes, .ref a_outcome, .ref a_arrivals, .ref a_freed, .ref a_called, .long f_rests, .int R.1, .int R.2.1, .int f_wheel])), (a_met, .inl (cI, 300, .inl R.2.2.1)), (a_slots, .inl (cI, 512, .inl R.2.2.2.1)), (a_outcomes, .inl (cI, 300, .inl R.2.2.2.2.1)), (a_outcome, .inl (cI, 2100, .inl R.2.2.2.2.2))] A) (([.ref a_this, .int p0, .int p1] : List Value).toArray) s 0 0 A) (F0 m 25 ls []) := by
    intro v3 v4 v5 v6 h H locs hP hD hS ls hl
    unfold F_X2_goTo_J25 at h
    refine lv_aload_n hx hb dX2_goTo_25 rfl (lv_at hl 0 rfl) ?_
    refine va_get (D := D) (ci := 2) (v := .ref a_outcomes) (C := RX2) (T := TX2) (N := 11) hx hb hts hinX2 hown hK hP 0 rfl rfl 2 (by decide) (hts (Cond.fieldLink RX2 18 "LadderRelays$Ways" "outcomes" "[I") (List.mem_of_getElem? (i := 2) rfl)) (fun _ h9 => h9) rfl dX2_goTo_26 ?_
    refine lv_iload_n hx hb dX2_goTo_29 rfl (lv_at hl 1 rfl) ?_
    obtain ⟨v7, hv7, h⟩ := zbnd h
    refine zr_iald hx hb hK hP 3 0 rfl rfl hv7 dX2_goTo_30 ?_
    refine lv_bipush (v := (7 : Int32)) hx hb dX2_goTo_31 (by decide) ?_
    refine lv_icmp_ge (tgt := 70) hx hb dX2_goTo_33 (by decide) (fun c8 => ?_) (fun c8 => ?_)
    · have h := zif_t c8 h
      have hR := Option.some.inj h
      subst hR
      exact W.vret hx hb hr (fun t ht hW => ⟨⟨(), rfl, trivial, zhp ht hP⟩, hS.F ht⟩) hS.2.2 dX2_goTo_70
    · have h := zif_f c8 h
      refine lv_aload_n hx hb dX2_goTo_36 rfl (lv_at hl 0 rfl) ?_
      refine va_get (D := D) (ci := 2) (v := .ref a_outcome) (C := RX2) (T := TX2) (N := 11) hx hb hts hinX2 hown hK hP 0 rfl rfl 3 (by decide) (hts (Cond.fieldLink RX2 21 "LadderRelays$Ways" "outcome" "[I") (List.mem_of_getElem? (i := 3) rfl)) (fun _ h9 => h9) rfl dX2_goTo_37 ?_
      refine lv_iload_n hx hb dX2_goTo_40 rfl (lv_at hl 1 rfl) ?_
      refine lv_bipush (v := (7 : Int32)) hx hb dX2_goTo_41 (by decide) ?_
      refine lv_imul hx hb dX2_goTo_43 ?_
      refine lv_aload_n hx hb dX2_goTo_44 rfl (lv_at hl 0 rfl) ?_
      refine va_get (D := D) (ci := 2) (v := .ref a_outcomes) (C := RX2) (T := TX2) (N := 11) hx hb hts hinX2 hown hK hP 0 rfl rfl 2 (by decide) (hts (Cond.fieldLink RX2 18 "LadderRelays$Ways" "outcomes" "[I") (List.mem_of_getElem? (i := 2) rfl)) (fun _ h9 => h9) rfl dX2_goTo_45 ?_
      refine lv_iload_n hx hb dX2_goTo_48 rfl (lv_at hl 1 rfl) ?_
      obtain ⟨v9, hv9, h⟩ := zbnd h
      refine zr_iald hx hb hK hP 3 0 rfl rfl hv9 dX2_goTo_49 ?_
      refine lv_iadd hx hb dX2_goTo_50 ?_
      refine lv_aload_n hx hb dX2_goTo_51 rfl (lv_at hl 0 rfl) ?_
      refine va_get (D := D) (ci := 2) (v := .ref a_slots) (C := RX2) (T := TX2) (N := 11) hx hb hts hinX2 hown hK hP 0 rfl rfl 1 (by decide) (hts (Cond.fieldLink RX2 15 "LadderRelays$Ways" "slots" "[I") (List.mem_of_getElem? (i := 1) rfl)) (fun _ h9 => h9) rfl dX2_goTo_52 ?_
      refine lv_iload_n hx hb dX2_goTo_55 rfl (lv_at hl 3 rfl) ?_
      obtain ⟨v10, hv10, h⟩ := zbnd h
      refine zr_iald hx hb hK hP 2 0 rfl rfl hv10 dX2_goTo_56 ?_
      refine lv_iconst (v := (1 : Int32)) hx hb dX2_goTo_57 (by decide) ?_
      refine lv_isub hx hb dX2_goTo_58 ?_
      obtain ⟨v11, hv11, h⟩ := zbnd h
      refine zr_iast hx hb hK hP hD hS 4 0 rfl rfl hv11 dX2_goTo_59 (fun H locs hP hD hS => ?_)
      have hP : va_P D vwCl [(a_this, .inr (2, [.ref a_met, .ref a_slots, .ref a_outcomes, .ref a_outcome, .ref a_arrivals, .ref a_freed, .ref a_called, .long f_rests, .int v3, .int v4, .int f_wheel])), (a_met, .inl (cI, 300, .inl v5)), (a_slots, .inl (cI, 512, .inl v6)), (a_outcomes, .inl (cI, 300, .inl f_outcomes)), (a_outcome, .inl (cI, 2100, .inl v11))] H := hP
      have hD : va_D A [(a_this, .inr (2, [.ref a_met, .ref a_slots, .ref a_outcomes, .ref a_outcome, .ref a_arrivals, .ref a_freed, .ref a_called, .long f_rests, .int v3, .int v4, .int f_wheel])), (a_met, .inl (cI, 300, .inl v5)), (a_slots, .inl (cI, 512, .inl v6)), (a_outcomes, .inl (cI, 300, .inl f_outcomes)), (a_outcome, .inl (cI, 2100, .inl v11))] := hD
      refine lv_aload_n hx hb dX2_goTo_60 rfl (lv_at hl 0 rfl) ?_
      refine va_get (D := D) (ci := 2) (v := .ref a_outcomes) (C := RX2) (T := TX2) (N := 11) hx hb hts hinX2 hown hK hP 0 rfl rfl 2 (by decide) (hts (Cond.fieldLink RX2 18 "LadderRelays$Ways" "outcomes" "[I") (List.mem_of_getElem? (i := 2) rfl)) (fun _ h9 => h9) rfl dX2_goTo_61 ?_
      refine lv_iload_n hx hb dX2_goTo_64 rfl (lv_at hl 1 rfl) ?_
      refine lv_dup2_11 hx hb dX2_goTo_65 rfl rfl ?_
      obtain ⟨v12, hv12, h⟩ := zbnd h
      refine zr_iald hx hb hK hP 3 0 rfl rfl hv12 dX2_goTo_66 ?_
      refine lv_iconst (v := (1 : Int32)) hx hb dX2_goTo_67 (by decide) ?_
      refine lv_iadd hx hb dX2_goTo_68 ?_
      obtain ⟨v13, hv13, h⟩ := zbnd h
      refine zr_iast hx hb hK hP hD hS 3 0 rfl rfl hv13 dX2_goTo_69 (fun H locs hP hD hS => ?_)
      have hP : va_P D vwCl [(a_this, .inr (2, [.ref a_met, .ref a_slots, .ref a_outcomes, .ref a_outcome, .ref a_arrivals, .ref a_freed, .ref a_called, .long f_rests, .int v3, .int v4, .int f_wheel])), (a_met, .inl (cI, 300, .inl v5)), (a_slots, .inl (cI, 512, .inl v6)), (a_outcomes, .inl (cI, 300, .inl v13)), (a_outcome, .inl (cI, 2100, .inl v11))] H := hP
      have hD : va_D A [(a_this, .inr (2, [.ref a_met, .ref a_slots, .ref a_outcomes, .ref a_outcome, .ref a_arrivals, .ref a_freed, .ref a_called, .long f_rests, .int v3, .int v4, .int f_wheel])), (a_met, .inl (cI, 300, .inl v5)), (a_slots, .inl (cI, 512, .inl v6)), (a_outcomes, .inl (cI, 300, .inl v13)), (a_outcome, .inl (cI, 2100, .inl v11))] := hD
      have hR := Option.some.inj h
      subst hR
      exact W.vret hx hb hr (fun t ht hW => ⟨⟨(), rfl, trivial, zhp ht hP⟩, hS.F ht⟩) hS.2.2 dX2_goTo_70
  refine lv_if_ne (tgt := 25) hx hb dX2_goTo_12 (by decide) (fun c14 => ?_) (fun c14 => ?_)
  · have h := zif_f c14 h
    exact J25 f_states f_told f_met f_slots h _ _ hP hD hS ls (lv_sub hl [1, 2, 3, 0] rfl)
  · have h := zif_t c14 h
    refine lv_aload_n hx hb dX2_goTo_15 rfl (lv_at hl 1 rfl) ?_
    refine lv_iload_n hx hb dX2_goTo_16 rfl (lv_at hl 3 rfl) ?_
    refine lv_iload_n hx hb dX2_goTo_17 rfl (lv_at hl 0 rfl) ?_
    obtain ⟨v15, hv15, h⟩ := zbnd h
    have hPc := hP.sub (ws' := [(a_this, .inr (2, [.ref a_met, .ref a_slots, .ref a_outcomes, .ref a_outcome, .ref a_arrivals, .ref a_freed, .ref a_called, .long f_rests, .int f_states, .int f_told, .int f_wheel])), (a_met, .inl (cI, 300, .inl f_met)), (a_slots, .inl (cI, 512, .inl f_slots))]) [0, 1, 2] rfl
    have hDc := hD.sub (ws' := [(a_this, .inr (2, [.ref a_met, .ref a_slots, .ref a_outcomes, .ref a_outcome, .ref a_arrivals, .ref a_freed, .ref a_called, .long f_rests, .int f_states, .int f_told, .int f_wheel])), (a_met, .inl (cI, 300, .inl f_met)), (a_slots, .inl (cI, 512, .inl f_slots))]) [0, 1, 2] (by decide) rfl
    have hFc := va_free (wc := [(a_this, .inr (2, [.ref a_met, .ref a_slots, .ref a_outcomes, .ref a_outcome, .ref a_arrivals, .ref a_freed, .ref a_called, .long f_rests, .int f_states, .int f_told, .int f_wheel])), (a_met, .inl (cI, 300, .inl f_met)), (a_slots, .inl (cI, 512, .inl f_slots))]) hD hS hA [0, 1, 2] rfl
    refine zc_wi (va_runV (C := RX2) (As := [.int p1, .int v1]) (rest := []) ⟨hx, hb, hml, hown, hts⟩ (c_X2_meet l D cI cC cO cJ fu a_this a_met a_slots a_outcomes a_outcome a_arrivals a_freed a_called _ f_rests f_states f_told f_wheel f_met f_slots p1 v1 v15 hv15) (cwV 2 hts gX2_goTo_X2_meet rfl rfl rfl (by decide +kernel) ⟨Nat.le_of_ble_eq_true rfl, Nat.le_of_ble_eq_true rfl⟩) ⟨zPw_blind, (va_recv hK hP (q0 := 0) (ci := 2) rfl rfl), zPw_pre hK hPc hDc⟩ rfl rfl hl.1 rfl (lv_room (Nat.le_of_ble_eq_true rfl)) dX2_goTo_18 ⟨Nat.zero_le _, Nat.zero_le _⟩) hS hFc (fun H locs hk1 hP1 hS => ?_)
    obtain ⟨hP, hD⟩ := zjn (ws' := [(a_this, .inr (2, [.ref a_met, .ref a_slots, .ref a_outcomes, .ref a_outcome, .ref a_arrivals, .ref a_freed, .ref a_called, .long f_rests, .int v15.2.1, .int v15.2.2.1, .int f_wheel])), (a_met, .inl (cI, 300, .inl v15.2.2.2.1)), (a_slots, .inl (cI, 512, .inl v15.2.2.2.2)), (a_outcomes, .inl (cI, 300, .inl f_outcomes)), (a_outcome, .inl (cI, 2100, .inl f_outcome))]) hP hD [0, 1, 2] [.inr 0, .inr 1, .inr 2, .inl 3, .inl 4] rfl rfl rfl hk1 hP1
    refine lv_if_ne (tgt := 25) hx hb dX2_goTo_21 (by decide) (fun c16 => ?_) (fun c16 => ?_)
    · have h := zif_f c16 h
      exact J25 v15.2.1 v15.2.2.1 v15.2.2.2.1 v15.2.2.2.2 h _ _ hP hD hS ls (lv_sub hl [1, 2, 3, 0] rfl)
    · have h := zif_t c16 h
      have hR := Option.some.inj h
      subst hR
      exact W.vret hx hb hr (fun t ht hW => ⟨⟨(), rfl, trivial, zhp ht hP⟩, hS.F ht⟩) hS.2.2 dX2_goTo_24
def F_X2_calledWith_J28 (p1 : Int32) (v2 : Nat → Int32) : Option (Int32 × (Nat → Int32)) := (zrd v2 64 p1).bind fun v3 => some (v3, v2)
def F_X2_calledWith (fu : Nat) (f_called : Nat → Int32) (f_p0_relays : Int32) (f_p0_inputs : Int32) (f_p0_branches : Nat → Int32) (f_p0_closing : Nat → Int32) (f_p0_opening : Nat → Int32) (p1 : Int32) : Option (Int32 × (Nat → Int32)) := (zrd f_called 64 p1).bind fun v1 => if v1 = (-1 : Int32) then (F_X0_calledBy fu f_p0_relays f_p0_branches f_p0_closing f_p0_opening (f_p0_inputs ||| (p1 <<< ((4 : Int32) &&& (31 : Int32))))).bind fun v5 => (zwr f_called 64 p1 v5).bind fun v6 => F_X2_calledWith_J28 p1 v6 else F_X2_calledWith_J28 p1 f_called
set_option maxHeartbeats 4000000 in
set_option maxRecDepth 100000 in
theorem c_X2_calledWith (l : Launch) (D : va_G) (cI cC cO cJ : ClassId) (fu : Nat) (a_this a_met a_slots a_outcomes a_outcome a_arrivals a_freed a_called a_p0 a_p0_branches a_p0_closing a_p0_opening a_p0_pull a_p0_drop a_p0_changed : Nat) (sz : Nat) (f_rests : Int64) (f_states : Int32) (f_told : Int32) (f_wheel : Int32) (f_called : Nat → Int32) (f_p0_relays : Int32) (f_p0_inputs : Int32) (f_p0_motion : Int32) (f_p0_ticks : Int32) (f_p0_changes : Int32) (f_p0_branches : Nat → Int32) (f_p0_closing : Nat → Int32) (f_p0_opening : Nat → Int32) (p1 : Int32) (R : Int32 × (Nat → Int32)) (h : F_X2_calledWith fu f_called f_p0_relays f_p0_inputs f_p0_branches f_p0_closing f_p0_opening p1 = some R) : Met l yX2_calledWith wsX2_calledWith ({ frames := 1, cells := 0, slots := 0, locals := 25 } : Room) (zPw D (ztys cI cC cO cJ) [(a_this, .inr (2, [.ref a_met, .ref a_slots, .ref a_outcomes, .ref a_outcome, .ref a_arrivals, .ref a_freed, .ref a_called, .long f_rests, .int f_states, .int f_told, .int f_wheel])), (a_called, .inl (cI, 64, .inl f_called)), (a_p0, .inr (0, [.int f_p0_relays, .ref a_p0_branches, .ref a_p0_closing, .ref a_p0_opening, .ref a_p0_pull, .ref a_p0_drop, .ref a_p0_changed, .int f_p0_inputs, .int f_p0_motion, .int f_p0_ticks, .int f_p0_changes])), (a_p0_branches, .inl (cI, 6, .inl f_p0_branches)), (a_p0_closing, .inl (cI, 24, .inl f_p0_closing)), (a_p0_opening, .inl (cI, 24, .inl f_p0_opening))] sz [.ref a_this, .ref a_p0, .int p1]) (zWi D R.1 [(a_this, .inr (2, [.ref a_met, .ref a_slots, .ref a_outcomes, .ref a_outcome, .ref a_arrivals, .ref a_freed, .ref a_called, .long f_rests, .int f_states, .int f_told, .int f_wheel])), (a_called, .inl (cI, 64, .inl R.2)), (a_p0, .inr (0, [.int f_p0_relays, .ref a_p0_branches, .ref a_p0_closing, .ref a_p0_opening, .ref a_p0_pull, .ref a_p0_drop, .ref a_p0_changed, .int f_p0_inputs, .int f_p0_motion, .int f_p0_ticks, .int f_p0_changes])), (a_p0_branches, .inl (cI, 6, .inl f_p0_branches)), (a_p0_closing, .inl (cI, 24, .inl f_p0_closing)), (a_p0_opening, .inl (cI, 24, .inl f_p0_opening))] (va_A [(a_this, .inr (2, [.ref a_met, .ref a_slots, .ref a_outcomes, .ref a_outcome, .ref a_arrivals, .ref a_freed, .ref a_called, .long f_rests, .int f_states, .int f_told, .int f_wheel])), (a_called, .inl (cI, 64, .inl f_called)), (a_p0, .inr (0, [.int f_p0_relays, .ref a_p0_branches, .ref a_p0_closing, .ref a_p0_opening, .ref a_p0_pull, .ref a_p0_drop, .ref a_p0_changed, .int f_p0_inputs, .int f_p0_motion, .int f_p0_ticks, .int f_p0_changes])), (a_p0_branches, .inl (cI, 6, .inl f_p0_branches)), (a_p0_closing, .inl (cI, 24, .inl f_p0_closing)), (a_p0_opening, .inl (cI, 24, .inl f_p0_opening))] sz)) 0 0 (va_A [(a_this, .inr (2, [.ref a_met, .ref a_slots, .ref a_outcomes, .ref a_outcome, .ref a_arrivals, .ref a_freed, .ref a_called, .long f_rests, .int f_states, .int f_told, .int f_wheel])), (a_called, .inl (cI, 64, .inl f_called)), (a_p0, .inr (0, [.int f_p0_relays, .ref a_p0_branches, .ref a_p0_closing, .ref a_p0_opening, .ref a_p0_pull, .ref a_p0_drop, .ref a_p0_changed, .int f_p0_inputs, .int f_p0_motion, .int f_p0_ticks, .int f_p0_changes])), (a_p0_branches, .inl (cI, 6, .inl f_p0_branches)), (a_p0_closing, .inl (cI, 24, .inl f_p0_closing)), (a_p0_opening, .inl (cI, 24, .inl f_p0_opening))] sz) := by
  refine Met.ofW (cc := cX2_calledWith) (maxL := 3) (ret := (some .int)) (by decide) rfl ?_
  intro p e s m args below meth c s₁ B hml hv
  obtain ⟨rfl, hsz, hP, hK, hD0⟩ := hv
  have hx := B.exec
  have hb := B.bytes
  have hr := B.returns
  have hts := atoms_spec (ws := wsX2_calledWith) B.pre
  have hown : s.vm.findClass RX2 = some m.cls := findClass_of_methodNamed B.named
  have hlocks := B.notSynchronized
  have hinX2 : ∀ w ∈ wsX20, w ∈ wsX2_calledWith := fun _ h => (List.mem_cons_of_mem _ (List.mem_append_left _ (List.mem_append_right _ h)))
  have hinX0 : ∀ w ∈ wsX00, w ∈ wsX2_calledWith := fun _ h => (List.mem_cons_of_mem _ (List.mem_append_right _ h))
  subst hsz
  have hD := hD0.self (sz := s.heap.size)
  generalize hAe : va_A [(a_this, .inr (2, [.ref a_met, .ref a_slots, .ref a_outcomes, .ref a_outcome, .ref a_arrivals, .ref a_freed, .ref a_called, .long f_rests, .int f_states, .int f_told, .int f_wheel])), (a_called, .inl (cI, 64, .inl f_called)), (a_p0, .inr (0, [.int f_p0_relays, .ref a_p0_branches, .ref a_p0_closing, .ref a_p0_opening, .ref a_p0_pull, .ref a_p0_drop, .ref a_p0_changed, .int f_p0_inputs, .int f_p0_motion, .int f_p0_ticks, .int f_p0_changes])), (a_p0_branches, .inl (cI, 6, .inl f_p0_branches)), (a_p0_closing, .inl (cI, 24, .inl f_p0_closing)), (a_p0_opening, .inl (cI, 24, .inl f_p0_opening))] s.heap.size = A at hD ⊢
  have hA : ∀ q : Nat, s.heap.size ≤ q → A q := fun q h => by rw [← hAe]; exact Or.inr h
  have hS : va_S A s.heap s.heap [] := va_S.rf
  have hP : va_P D vwCl [(a_this, .inr (2, [.ref a_met, .ref a_slots, .ref a_outcomes, .ref a_outcome, .ref a_arrivals, .ref a_freed, .ref a_called, .long f_rests, .int f_states, .int f_told, .int f_wheel])), (a_called, .inl (cI, 64, .inl f_called)), (a_p0, .inr (0, [.int f_p0_relays, .ref a_p0_branches, .ref a_p0_closing, .ref a_p0_opening, .ref a_p0_pull, .ref a_p0_drop, .ref a_p0_changed, .int f_p0_inputs, .int f_p0_motion, .int f_p0_ticks, .int f_p0_changes])), (a_p0_branches, .inl (cI, 6, .inl f_p0_branches)), (a_p0_closing, .inl (cI, 24, .inl f_p0_closing)), (a_p0_opening, .inl (cI, 24, .inl f_p0_opening))] s.heap := hP
  have hK : va_K D vwCl (ztys cI cC cO cJ) s := hK
  have hl := lv_entry ([.ref a_this, .ref a_p0, .int p1]) (n := 3) (Nat.le_of_ble_eq_true rfl)
  rw [lg_entry_eq]
  generalize (lg_sl ([.ref a_this, .ref a_p0, .int p1]) ++ List.replicate (3 - (lg_sl ([.ref a_this, .ref a_p0, .int p1])).length) Slot.unset).toArray = ls at hl ⊢
  have hl : lv_has ls 3 [(0, .ref a_this), (1, .ref a_p0), (2, .int p1)] := hl
  unfold F_X2_calledWith at h
  refine lv_aload_n hx hb dX2_calledWith_0 rfl (lv_at hl 0 rfl) ?_
  refine va_get (D := D) (ci := 2) (v := .ref a_called) (C := RX2) (T := TX2) (N := 11) hx hb hts hinX2 hown hK hP 0 rfl rfl 6 (by decide) (hts (Cond.fieldLink RX2 30 "LadderRelays$Ways" "called" "[I") (List.mem_of_getElem? (i := 1) rfl)) (fun _ h9 => h9) rfl dX2_calledWith_1 ?_
  refine lv_iload_n hx hb dX2_calledWith_4 rfl (lv_at hl 2 rfl) ?_
  obtain ⟨v1, hv1, h⟩ := zbnd h
  refine zr_iald hx hb hK hP 1 0 rfl rfl hv1 dX2_calledWith_5 ?_
  refine lv_iconst (v := (-1 : Int32)) hx hb dX2_calledWith_6 (by decide) ?_
  have J28 : ∀ (v2 : Nat → Int32), F_X2_calledWith_J28 p1 v2 = some R → ∀ (H : Heap) (locs : List Loc), va_P D vwCl [(a_this, .inr (2, [.ref a_met, .ref a_slots, .ref a_outcomes, .ref a_outcome, .ref a_arrivals, .ref a_freed, .ref a_called, .long f_rests, .int f_states, .int f_told, .int f_wheel])), (a_called, .inl (cI, 64, .inl v2)), (a_p0, .inr (0, [.int f_p0_relays, .ref a_p0_branches, .ref a_p0_closing, .ref a_p0_opening, .ref a_p0_pull, .ref a_p0_drop, .ref a_p0_changed, .int f_p0_inputs, .int f_p0_motion, .int f_p0_ticks, .int f_p0_changes])), (a_p0_branches, .inl (cI, 6, .inl f_p0_branches)), (a_p0_closing, .inl (cI, 24, .inl f_p0_closing)), (a_p0_opening, .inl (cI, 24, .inl f_p0_opening))] H → va_D A [(a_this, .inr (2, [.ref a_met, .ref a_slots, .ref a_outcomes, .ref a_outcome, .ref a_arrivals, .ref a_freed, .ref a_called, .long f_rests, .int f_states, .int f_told, .int f_wheel])), (a_called, .inl (cI, 64, .inl v2)), (a_p0, .inr (0, [.int f_p0_relays, .ref a_p0_branches, .ref a_p0_closing, .ref a_p0_opening, .ref a_p0_pull, .ref a_p0_drop, .ref a_p0_changed, .int f_p0_inputs, .int f_p0_motion, .int f_p0_ticks, .int f_p0_changes])), (a_p0_branches, .inl (cI, 6, .inl f_p0_branches)), (a_p0_closing, .inl (cI, 24, .inl f_p0_closing)), (a_p0_opening, .inl (cI, 24, .inl f_p0_opening))] → va_S A s.heap H locs → ∀ ls : Array Slot, lv_has ls 3 [(0, .ref a_this), (1, .ref a_p0), (2, .int p1)] → W p l e ({ frames := 1, cells := 0, slots := 0, locals := 25 } : Room) s m (([.ref a_this, .ref a_p0, .int p1] : List Value).toArray) below meth c H locs 0 0 (MQ below (zWi D R.1 [(a_this, .inr (2, [.ref a_met, .ref a_slots, .ref a_outcomes, .ref a_outcome, .ref a_arrivals, .ref a_freed, .ref a_called, .long f_rests, .int f_states, .int f_told, .int f_wheel])), (a_called, .inl (cI, 64, .inl R.2)), (a_p0, .inr (0, [.int f_p0_relays, .ref a_p0_branches, .ref a_p0_closing, .ref a_p0_opening, .ref a_p0_pull, .ref a_p0_drop, .ref a_p0_changed, .int f_p0_inputs, .int f_p0_motion, .int f_p0_ticks, .int f_p0_changes])), (a_p0_branches, .inl (cI, 6, .inl f_p0_branches)), (a_p0_closing, .inl (cI, 24, .inl f_p0_closing)), (a_p0_opening, .inl (cI, 24, .inl f_p0_opening))] A) (([.ref a_this, .ref a_p0, .int p1] : List Value).toArray) s 0 0 A) (F0 m 28 ls []) := by
    intro v2 h H locs hP hD hS ls hl
    unfold F_X2_calledWith_J28 at h
    refine lv_aload_n hx hb dX2_calledWith_28 rfl (lv_at hl 0 rfl) ?_
    refine va_get (D := D) (ci := 2) (v := .ref a_called) (C := RX2) (T := TX2) (N := 11) hx hb hts hinX2 hown hK hP 0 rfl rfl 6 (by decide) (hts (Cond.fieldLink RX2 30 "LadderRelays$Ways" "called" "[I") (List.mem_of_getElem? (i := 1) rfl)) (fun _ h9 => h9) rfl dX2_calledWith_29 ?_
    refine lv_iload_n hx hb dX2_calledWith_32 rfl (lv_at hl 2 rfl) ?_
    obtain ⟨v3, hv3, h⟩ := zbnd h
    refine zr_iald hx hb hK hP 1 0 rfl rfl hv3 dX2_calledWith_33 ?_
    have hR := Option.some.inj h
    subst hR
    exact W.iret (v := v3) hx hb hr (fun t ht hW => ⟨⟨_, (), rfl, rfl, zhp ht hP⟩, hS.F ht⟩) hS.2.2 dX2_calledWith_34
  refine lv_icmp_ne (tgt := 28) hx hb dX2_calledWith_7 (by decide) (fun c4 => ?_) (fun c4 => ?_)
  · have h := zif_f c4 h
    exact J28 f_called h _ _ hP hD hS ls (lv_sub hl [0, 1, 2] rfl)
  · have h := zif_t c4 h
    refine lv_aload_n hx hb dX2_calledWith_10 rfl (lv_at hl 0 rfl) ?_
    refine va_get (D := D) (ci := 2) (v := .ref a_called) (C := RX2) (T := TX2) (N := 11) hx hb hts hinX2 hown hK hP 0 rfl rfl 6 (by decide) (hts (Cond.fieldLink RX2 30 "LadderRelays$Ways" "called" "[I") (List.mem_of_getElem? (i := 1) rfl)) (fun _ h9 => h9) rfl dX2_calledWith_11 ?_
    refine lv_iload_n hx hb dX2_calledWith_14 rfl (lv_at hl 2 rfl) ?_
    refine lv_aload_n hx hb dX2_calledWith_15 rfl (lv_at hl 1 rfl) ?_
    refine lv_aload_n hx hb dX2_calledWith_16 rfl (lv_at hl 1 rfl) ?_
    refine va_get (D := D) (ci := 0) (v := .int f_p0_inputs) (C := RX0) (T := TX0) (N := 11) hx hb hts hinX0 hown hK hP 2 rfl rfl 7 (by decide) (hts (Cond.fieldLink RX2 107 "LadderRelays$Ladder" "inputs" "I") (List.mem_of_getElem? (i := 2) rfl)) (fun _ h9 => h9) rfl dX2_calledWith_17 ?_
    refine lv_iload_n hx hb dX2_calledWith_20 rfl (lv_at hl 2 rfl) ?_
    refine lv_iconst (v := (4 : Int32)) hx hb dX2_calledWith_21 (by decide) ?_
    refine lv_ishl hx hb dX2_calledWith_22 ?_
    refine lv_ior hx hb dX2_calledWith_23 ?_
    obtain ⟨v5, hv5, h⟩ := zbnd h
    have hPc := hP.sub (ws' := [(a_p0, .inr (0, [.int f_p0_relays, .ref a_p0_branches, .ref a_p0_closing, .ref a_p0_opening, .ref a_p0_pull, .ref a_p0_drop, .ref a_p0_changed, .int f_p0_inputs, .int f_p0_motion, .int f_p0_ticks, .int f_p0_changes])), (a_p0_branches, .inl (cI, 6, .inl f_p0_branches)), (a_p0_closing, .inl (cI, 24, .inl f_p0_closing)), (a_p0_opening, .inl (cI, 24, .inl f_p0_opening))]) [2, 3, 4, 5] rfl
    refine zc_i (W.runV (C := RX0) (As := [.int (f_p0_inputs ||| (p1 <<< ((4 : Int32) &&& (31 : Int32))))]) (rest := [.int p1, .ref a_called]) ⟨hx, hb, hml, hown, hts⟩ (c_X0_calledBy l D cI cC cO cJ fu a_p0 a_p0_branches a_p0_closing a_p0_opening a_p0_pull a_p0_drop a_p0_changed f_p0_relays f_p0_inputs f_p0_motion f_p0_ticks f_p0_changes f_p0_branches f_p0_closing f_p0_opening (f_p0_inputs ||| (p1 <<< ((4 : Int32) &&& (31 : Int32)))) v5 hv5) (cwV 1 hts gX2_calledWith_X0_calledBy rfl rfl rfl (by decide +kernel) ⟨Nat.le_of_ble_eq_true rfl, Nat.le_of_ble_eq_true rfl⟩) ⟨zPr_blind, (va_recv hK hP (q0 := 2) (ci := 0) rfl rfl), zPr_pre hK hPc⟩ rfl rfl hl.1 rfl (lv_room (Nat.le_of_ble_eq_true rfl)) dX2_calledWith_24 ⟨Nat.zero_le _, Nat.zero_le _⟩) ?_
    obtain ⟨v6, hv6, h⟩ := zbnd h
    refine zr_iast hx hb hK hP hD hS 1 0 rfl rfl hv6 dX2_calledWith_27 (fun H locs hP hD hS => ?_)
    have hP : va_P D vwCl [(a_this, .inr (2, [.ref a_met, .ref a_slots, .ref a_outcomes, .ref a_outcome, .ref a_arrivals, .ref a_freed, .ref a_called, .long f_rests, .int f_states, .int f_told, .int f_wheel])), (a_called, .inl (cI, 64, .inl v6)), (a_p0, .inr (0, [.int f_p0_relays, .ref a_p0_branches, .ref a_p0_closing, .ref a_p0_opening, .ref a_p0_pull, .ref a_p0_drop, .ref a_p0_changed, .int f_p0_inputs, .int f_p0_motion, .int f_p0_ticks, .int f_p0_changes])), (a_p0_branches, .inl (cI, 6, .inl f_p0_branches)), (a_p0_closing, .inl (cI, 24, .inl f_p0_closing)), (a_p0_opening, .inl (cI, 24, .inl f_p0_opening))] H := hP
    have hD : va_D A [(a_this, .inr (2, [.ref a_met, .ref a_slots, .ref a_outcomes, .ref a_outcome, .ref a_arrivals, .ref a_freed, .ref a_called, .long f_rests, .int f_states, .int f_told, .int f_wheel])), (a_called, .inl (cI, 64, .inl v6)), (a_p0, .inr (0, [.int f_p0_relays, .ref a_p0_branches, .ref a_p0_closing, .ref a_p0_opening, .ref a_p0_pull, .ref a_p0_drop, .ref a_p0_changed, .int f_p0_inputs, .int f_p0_motion, .int f_p0_ticks, .int f_p0_changes])), (a_p0_branches, .inl (cI, 6, .inl f_p0_branches)), (a_p0_closing, .inl (cI, 24, .inl f_p0_closing)), (a_p0_opening, .inl (cI, 24, .inl f_p0_opening))] := hD
    exact J28 v6 h _ _ hP hD hS ls (lv_sub hl [0, 1, 2] rfl)
def F_X2_goOn_E135 (f_rests : Int64) (v4 : Int32 × (Nat → Int32)) (v13 : Int32) (v14 : Int32) (v15 : Int32) (v16 : Nat → Int32) (v17 : Nat → Int32) (v18 : Nat → Int32) (v19 : Nat → Int32) : Option (Int64 × Int32 × Int32 × (Nat → Int32) × (Nat → Int32) × (Nat → Int32) × (Nat → Int32) × (Nat → Int32)) := some (f_rests, v14, v15, v16, v17, v18, v19, v4.2)
def F_X2_goOn_L95 (fu : Nat) (f_p0_relays : Int32) (p1 : Int32) (v7 : Int32) (v8 : Int32) (k95 : Int32 → Int32 → Int32 → (Nat → Int32) → (Nat → Int32) → (Nat → Int32) → (Nat → Int32) → Option (Int64 × Int32 × Int32 × (Nat → Int32) × (Nat → Int32) × (Nat → Int32) × (Nat → Int32) × (Nat → Int32))) (rec95 : Int32 → Int32 → Int32 → (Nat → Int32) → (Nat → Int32) → (Nat → Int32) → (Nat → Int32) → Option (Int64 × Int32 × Int32 × (Nat → Int32) × (Nat → Int32) × (Nat → Int32) × (Nat → Int32) × (Nat → Int32))) (v20 : Int32) (v21 : Int32) (v22 : Int32) (v23 : Nat → Int32) (v24 : Nat → Int32) (v25 : Nat → Int32) (v26 : Nat → Int32) : Option (Int64 × Int32 × Int32 × (Nat → Int32) × (Nat → Int32) × (Nat → Int32) × (Nat → Int32) × (Nat → Int32)) := if f_p0_relays ≤ v20 then k95 v20 v21 v22 v23 v24 v25 v26 else (F_X0_isIn fu v8 v20).bind fun v28 => if v28 = (0 : Int32) then rec95 (v20 + (1 : Int32)) v21 v22 v23 v24 v25 v26 else (F_X0_turned fu f_p0_relays v7 ((1 : Int32) <<< (v20 &&& (31 : Int32)))).bind fun v30 => (F_X2_goTo fu v21 v22 v23 v24 v25 v26 p1 v30).bind fun v31 => rec95 (v20 + (1 : Int32)) v31.1 v31.2.1 v31.2.2.1 v31.2.2.2.1 v31.2.2.2.2.1 v31.2.2.2.2.2
def F_X2_goOn (fu : Nat) (f_rests : Int64) (f_states : Int32) (f_told : Int32) (f_met : Nat → Int32) (f_slots : Nat → Int32) (f_outcomes : Nat → Int32) (f_outcome : Nat → Int32) (f_called : Nat → Int32) (f_p0_relays : Int32) (f_p0_inputs : Int32) (f_p0_branches : Nat → Int32) (f_p0_closing : Nat → Int32) (f_p0_drop : Nat → Int32) (f_p0_opening : Nat → Int32) (f_p0_pull : Nat → Int32) (p1 : Int32) : Option (Int64 × Int32 × Int32 × (Nat → Int32) × (Nat → Int32) × (Nat → Int32) × (Nat → Int32) × (Nat → Int32)) := (zwr f_outcomes 300 p1 (0 : Int32)).bind fun v1 => (zrd f_met 300 p1).bind fun v2 => (F_X0_upIn fu v2).bind fun v3 => (F_X2_calledWith fu f_called f_p0_relays f_p0_inputs f_p0_branches f_p0_closing f_p0_opening v3).bind fun v4 => if (v4.1 ^^^ v3) = (0 : Int32) then some ((f_rests ||| ((1 : Int64) <<< (v3.toInt64 &&& 63))), f_states, f_told, f_met, f_slots, v1, f_outcome, v4.2) else (zrd f_met 300 p1).bind fun v6 => (F_X0_counted fu f_p0_relays v6 (v4.1 ^^^ v3)).bind fun v7 => (F_X0_dueIn fu f_p0_relays f_p0_pull f_p0_drop v7 (v4.1 ^^^ v3)).bind fun v8 => (F_X0_turned fu f_p0_relays v7 v8).bind fun v9 => (F_X2_goTo fu f_states f_told f_met f_slots v1 f_outcome p1 v9).bind fun v10 => (F_J6_bitCount_0f7a4 fu v8).bind fun v11 => if (2 : Int32) ≤ v11 then zlp7 (F_X2_goOn_L95 fu f_p0_relays p1 v7 v8 (F_X2_goOn_E135 f_rests v4)) fu (0 : Int32) v10.1 v10.2.1 v10.2.2.1 v10.2.2.2.1 v10.2.2.2.2.1 v10.2.2.2.2.2 else some (f_rests, v10.1, v10.2.1, v10.2.2.1, v10.2.2.2.1, v10.2.2.2.2.1, v10.2.2.2.2.2, v4.2)
set_option maxHeartbeats 4000000 in
set_option maxRecDepth 100000 in
theorem c_X2_goOn (l : Launch) (D : va_G) (cI cC cO cJ : ClassId) (fu : Nat) (a_this a_met a_slots a_outcomes a_outcome a_arrivals a_freed a_called a_p0 a_p0_branches a_p0_closing a_p0_opening a_p0_pull a_p0_drop a_p0_changed : Nat) (sz : Nat) (f_rests : Int64) (f_states : Int32) (f_told : Int32) (f_wheel : Int32) (f_met : Nat → Int32) (f_slots : Nat → Int32) (f_outcomes : Nat → Int32) (f_outcome : Nat → Int32) (f_called : Nat → Int32) (f_p0_relays : Int32) (f_p0_inputs : Int32) (f_p0_motion : Int32) (f_p0_ticks : Int32) (f_p0_changes : Int32) (f_p0_branches : Nat → Int32) (f_p0_closing : Nat → Int32) (f_p0_drop : Nat → Int32) (f_p0_opening : Nat → Int32) (f_p0_pull : Nat → Int32) (p1 : Int32) (R : Int64 × Int32 × Int32 × (Nat → Int32) × (Nat → Int32) × (Nat → Int32) × (Nat → Int32) × (Nat → Int32)) (h : F_X2_goOn fu f_rests f_states f_told f_met f_slots f_outcomes f_outcome f_called f_p0_relays f_p0_inputs f_p0_branches f_p0_closing f_p0_drop f_p0_opening f_p0_pull p1 = some R) : Met l yX2_goOn wsX2_goOn ({ frames := 2, cells := 0, slots := 0, locals := 48 } : Room) (zPw D (ztys cI cC cO cJ) [(a_this, .inr (2, [.ref a_met, .ref a_slots, .ref a_outcomes, .ref a_outcome, .ref a_arrivals, .ref a_freed, .ref a_called, .long f_rests, .int f_states, .int f_told, .int f_wheel])), (a_met, .inl (cI, 300, .inl f_met)), (a_slots, .inl (cI, 512, .inl f_slots)), (a_outcomes, .inl (cI, 300, .inl f_outcomes)), (a_outcome, .inl (cI, 2100, .inl f_outcome)), (a_called, .inl (cI, 64, .inl f_called)), (a_p0, .inr (0, [.int f_p0_relays, .ref a_p0_branches, .ref a_p0_closing, .ref a_p0_opening, .ref a_p0_pull, .ref a_p0_drop, .ref a_p0_changed, .int f_p0_inputs, .int f_p0_motion, .int f_p0_ticks, .int f_p0_changes])), (a_p0_branches, .inl (cI, 6, .inl f_p0_branches)), (a_p0_closing, .inl (cI, 24, .inl f_p0_closing)), (a_p0_drop, .inl (cI, 6, .inl f_p0_drop)), (a_p0_opening, .inl (cI, 24, .inl f_p0_opening)), (a_p0_pull, .inl (cI, 6, .inl f_p0_pull))] sz [.ref a_this, .ref a_p0, .int p1]) (zWv D [(a_this, .inr (2, [.ref a_met, .ref a_slots, .ref a_outcomes, .ref a_outcome, .ref a_arrivals, .ref a_freed, .ref a_called, .long R.1, .int R.2.1, .int R.2.2.1, .int f_wheel])), (a_met, .inl (cI, 300, .inl R.2.2.2.1)), (a_slots, .inl (cI, 512, .inl R.2.2.2.2.1)), (a_outcomes, .inl (cI, 300, .inl R.2.2.2.2.2.1)), (a_outcome, .inl (cI, 2100, .inl R.2.2.2.2.2.2.1)), (a_called, .inl (cI, 64, .inl R.2.2.2.2.2.2.2)), (a_p0, .inr (0, [.int f_p0_relays, .ref a_p0_branches, .ref a_p0_closing, .ref a_p0_opening, .ref a_p0_pull, .ref a_p0_drop, .ref a_p0_changed, .int f_p0_inputs, .int f_p0_motion, .int f_p0_ticks, .int f_p0_changes])), (a_p0_branches, .inl (cI, 6, .inl f_p0_branches)), (a_p0_closing, .inl (cI, 24, .inl f_p0_closing)), (a_p0_drop, .inl (cI, 6, .inl f_p0_drop)), (a_p0_opening, .inl (cI, 24, .inl f_p0_opening)), (a_p0_pull, .inl (cI, 6, .inl f_p0_pull))] (va_A [(a_this, .inr (2, [.ref a_met, .ref a_slots, .ref a_outcomes, .ref a_outcome, .ref a_arrivals, .ref a_freed, .ref a_called, .long f_rests, .int f_states, .int f_told, .int f_wheel])), (a_met, .inl (cI, 300, .inl f_met)), (a_slots, .inl (cI, 512, .inl f_slots)), (a_outcomes, .inl (cI, 300, .inl f_outcomes)), (a_outcome, .inl (cI, 2100, .inl f_outcome)), (a_called, .inl (cI, 64, .inl f_called)), (a_p0, .inr (0, [.int f_p0_relays, .ref a_p0_branches, .ref a_p0_closing, .ref a_p0_opening, .ref a_p0_pull, .ref a_p0_drop, .ref a_p0_changed, .int f_p0_inputs, .int f_p0_motion, .int f_p0_ticks, .int f_p0_changes])), (a_p0_branches, .inl (cI, 6, .inl f_p0_branches)), (a_p0_closing, .inl (cI, 24, .inl f_p0_closing)), (a_p0_drop, .inl (cI, 6, .inl f_p0_drop)), (a_p0_opening, .inl (cI, 24, .inl f_p0_opening)), (a_p0_pull, .inl (cI, 6, .inl f_p0_pull))] sz)) 0 0 (va_A [(a_this, .inr (2, [.ref a_met, .ref a_slots, .ref a_outcomes, .ref a_outcome, .ref a_arrivals, .ref a_freed, .ref a_called, .long f_rests, .int f_states, .int f_told, .int f_wheel])), (a_met, .inl (cI, 300, .inl f_met)), (a_slots, .inl (cI, 512, .inl f_slots)), (a_outcomes, .inl (cI, 300, .inl f_outcomes)), (a_outcome, .inl (cI, 2100, .inl f_outcome)), (a_called, .inl (cI, 64, .inl f_called)), (a_p0, .inr (0, [.int f_p0_relays, .ref a_p0_branches, .ref a_p0_closing, .ref a_p0_opening, .ref a_p0_pull, .ref a_p0_drop, .ref a_p0_changed, .int f_p0_inputs, .int f_p0_motion, .int f_p0_ticks, .int f_p0_changes])), (a_p0_branches, .inl (cI, 6, .inl f_p0_branches)), (a_p0_closing, .inl (cI, 24, .inl f_p0_closing)), (a_p0_drop, .inl (cI, 6, .inl f_p0_drop)), (a_p0_opening, .inl (cI, 24, .inl f_p0_opening)), (a_p0_pull, .inl (cI, 6, .inl f_p0_pull))] sz) := by
  refine Met.ofW (cc := cX2_goOn) (maxL := 8) (ret := none) (by decide) rfl ?_
  intro p e s m args below meth c s₁ B hml hv
  obtain ⟨rfl, hsz, hP, hK, hD0⟩ := hv
  have hx := B.exec
  have hb := B.bytes
  have hr := B.returns
  have hts := atoms_spec (ws := wsX2_goOn) B.pre
  have hown : s.vm.findClass RX2 = some m.cls := findClass_of_methodNamed B.named
  have hlocks := B.notSynchronized
  have hinX2 : ∀ w ∈ wsX20, w ∈ wsX2_goOn := fun _ h => (List.mem_cons_of_mem _ (List.mem_append_left _ (List.mem_append_right _ h)))
  have hinX0 : ∀ w ∈ wsX00, w ∈ wsX2_goOn := fun _ h => (List.mem_cons_of_mem _ (List.mem_append_right _ h))
  subst hsz
  have hD := hD0.self (sz := s.heap.size)
  generalize hAe : va_A [(a_this, .inr (2, [.ref a_met, .ref a_slots, .ref a_outcomes, .ref a_outcome, .ref a_arrivals, .ref a_freed, .ref a_called, .long f_rests, .int f_states, .int f_told, .int f_wheel])), (a_met, .inl (cI, 300, .inl f_met)), (a_slots, .inl (cI, 512, .inl f_slots)), (a_outcomes, .inl (cI, 300, .inl f_outcomes)), (a_outcome, .inl (cI, 2100, .inl f_outcome)), (a_called, .inl (cI, 64, .inl f_called)), (a_p0, .inr (0, [.int f_p0_relays, .ref a_p0_branches, .ref a_p0_closing, .ref a_p0_opening, .ref a_p0_pull, .ref a_p0_drop, .ref a_p0_changed, .int f_p0_inputs, .int f_p0_motion, .int f_p0_ticks, .int f_p0_changes])), (a_p0_branches, .inl (cI, 6, .inl f_p0_branches)), (a_p0_closing, .inl (cI, 24, .inl f_p0_closing)), (a_p0_drop, .inl (cI, 6, .inl f_p0_drop)), (a_p0_opening, .inl (cI, 24, .inl f_p0_opening)), (a_p0_pull, .inl (cI, 6, .inl f_p0_pull))] s.heap.size = A at hD ⊢
  have hA : ∀ q : Nat, s.heap.size ≤ q → A q := fun q h => by rw [← hAe]; exact Or.inr h
  have hS : va_S A s.heap s.heap [] := va_S.rf
  have hP : va_P D vwCl [(a_this, .inr (2, [.ref a_met, .ref a_slots, .ref a_outcomes, .ref a_outcome, .ref a_arrivals, .ref a_freed, .ref a_called, .long f_rests, .int f_states, .int f_told, .int f_wheel])), (a_met, .inl (cI, 300, .inl f_met)), (a_slots, .inl (cI, 512, .inl f_slots)), (a_outcomes, .inl (cI, 300, .inl f_outcomes)), (a_outcome, .inl (cI, 2100, .inl f_outcome)), (a_called, .inl (cI, 64, .inl f_called)), (a_p0, .inr (0, [.int f_p0_relays, .ref a_p0_branches, .ref a_p0_closing, .ref a_p0_opening, .ref a_p0_pull, .ref a_p0_drop, .ref a_p0_changed, .int f_p0_inputs, .int f_p0_motion, .int f_p0_ticks, .int f_p0_changes])), (a_p0_branches, .inl (cI, 6, .inl f_p0_branches)), (a_p0_closing, .inl (cI, 24, .inl f_p0_closing)), (a_p0_drop, .inl (cI, 6, .inl f_p0_drop)), (a_p0_opening, .inl (cI, 24, .inl f_p0_opening)), (a_p0_pull, .inl (cI, 6, .inl f_p0_pull))] s.heap := hP
  have hK : va_K D vwCl (ztys cI cC cO cJ) s := hK
  have hl := lv_entry ([.ref a_this, .ref a_p0, .int p1]) (n := 8) (Nat.le_of_ble_eq_true rfl)
  rw [lg_entry_eq]
  generalize (lg_sl ([.ref a_this, .ref a_p0, .int p1]) ++ List.replicate (8 - (lg_sl ([.ref a_this, .ref a_p0, .int p1])).length) Slot.unset).toArray = ls at hl ⊢
  have hl : lv_has ls 8 [(0, .ref a_this), (1, .ref a_p0), (2, .int p1)] := hl
  unfold F_X2_goOn at h
  refine lv_aload_n hx hb dX2_goOn_0 rfl (lv_at hl 0 rfl) ?_
  refine va_get (D := D) (ci := 2) (v := .ref a_outcomes) (C := RX2) (T := TX2) (N := 11) hx hb hts hinX2 hown hK hP 0 rfl rfl 2 (by decide) (hts (Cond.fieldLink RX2 18 "LadderRelays$Ways" "outcomes" "[I") (List.mem_of_getElem? (i := 1) rfl)) (fun _ h9 => h9) rfl dX2_goOn_1 ?_
  refine lv_iload_n hx hb dX2_goOn_4 rfl (lv_at hl 2 rfl) ?_
  refine lv_iconst (v := (0 : Int32)) hx hb dX2_goOn_5 (by decide) ?_
  obtain ⟨v1, hv1, h⟩ := zbnd h
  refine zr_iast hx hb hK hP hD hS 3 0 rfl rfl hv1 dX2_goOn_6 (fun H locs hP hD hS => ?_)
  have hP : va_P D vwCl [(a_this, .inr (2, [.ref a_met, .ref a_slots, .ref a_outcomes, .ref a_outcome, .ref a_arrivals, .ref a_freed, .ref a_called, .long f_rests, .int f_states, .int f_told, .int f_wheel])), (a_met, .inl (cI, 300, .inl f_met)), (a_slots, .inl (cI, 512, .inl f_slots)), (a_outcomes, .inl (cI, 300, .inl v1)), (a_outcome, .inl (cI, 2100, .inl f_outcome)), (a_called, .inl (cI, 64, .inl f_called)), (a_p0, .inr (0, [.int f_p0_relays, .ref a_p0_branches, .ref a_p0_closing, .ref a_p0_opening, .ref a_p0_pull, .ref a_p0_drop, .ref a_p0_changed, .int f_p0_inputs, .int f_p0_motion, .int f_p0_ticks, .int f_p0_changes])), (a_p0_branches, .inl (cI, 6, .inl f_p0_branches)), (a_p0_closing, .inl (cI, 24, .inl f_p0_closing)), (a_p0_drop, .inl (cI, 6, .inl f_p0_drop)), (a_p0_opening, .inl (cI, 24, .inl f_p0_opening)), (a_p0_pull, .inl (cI, 6, .inl f_p0_pull))] H := hP
  have hD : va_D A [(a_this, .inr (2, [.ref a_met, .ref a_slots, .ref a_outcomes, .ref a_outcome, .ref a_arrivals, .ref a_freed, .ref a_called, .long f_rests, .int f_states, .int f_told, .int f_wheel])), (a_met, .inl (cI, 300, .inl f_met)), (a_slots, .inl (cI, 512, .inl f_slots)), (a_outcomes, .inl (cI, 300, .inl v1)), (a_outcome, .inl (cI, 2100, .inl f_outcome)), (a_called, .inl (cI, 64, .inl f_called)), (a_p0, .inr (0, [.int f_p0_relays, .ref a_p0_branches, .ref a_p0_closing, .ref a_p0_opening, .ref a_p0_pull, .ref a_p0_drop, .ref a_p0_changed, .int f_p0_inputs, .int f_p0_motion, .int f_p0_ticks, .int f_p0_changes])), (a_p0_branches, .inl (cI, 6, .inl f_p0_branches)), (a_p0_closing, .inl (cI, 24, .inl f_p0_closing)), (a_p0_drop, .inl (cI, 6, .inl f_p0_drop)), (a_p0_opening, .inl (cI, 24, .inl f_p0_opening)), (a_p0_pull, .inl (cI, 6, .inl f_p0_pull))] := hD
  refine lv_aload_n hx hb dX2_goOn_7 rfl (lv_at hl 0 rfl) ?_
  refine va_get (D := D) (ci := 2) (v := .ref a_met) (C := RX2) (T := TX2) (N := 11) hx hb hts hinX2 hown hK hP 0 rfl rfl 0 (by decide) (hts (Cond.fieldLink RX2 11 "LadderRelays$Ways" "met" "[I") (List.mem_of_getElem? (i := 2) rfl)) (fun _ h9 => h9) rfl dX2_goOn_8 ?_
  refine lv_iload_n hx hb dX2_goOn_11 rfl (lv_at hl 2 rfl) ?_
  obtain ⟨v2, hv2, h⟩ := zbnd h
  refine zr_iald hx hb hK hP 1 0 rfl rfl hv2 dX2_goOn_12 ?_
  obtain ⟨v3, hv3, h⟩ := zbnd h
  refine zc_i (W.runS (As := [.int v2]) (rest := []) ⟨hx, hb, hml, hown, hts⟩ (c_X0_upIn l D cI cC cO cJ fu v2 v3 hv3) (va_cwS 1 hts gX2_goOn_X0_upIn rfl rfl rfl (by decide +kernel) ⟨Nat.le_of_ble_eq_true rfl, Nat.le_of_ble_eq_true rfl⟩) (zPr_S hK zP_nil) rfl rfl hl.1 rfl (lv_room (Nat.le_of_ble_eq_true rfl)) dX2_goOn_13 ⟨Nat.zero_le _, Nat.zero_le _⟩) ?_
  refine lv_istore_n (lv' := [(3, .int v3), (0, .ref a_this), (1, .ref a_p0), (2, .int p1)]) hx hb dX2_goOn_16 rfl hl (by decide) rfl (fun ls hl => ?_)
  refine lv_aload_n hx hb dX2_goOn_17 rfl (lv_at hl 1 rfl) ?_
  refine lv_aload_n hx hb dX2_goOn_18 rfl (lv_at hl 2 rfl) ?_
  refine lv_iload_n hx hb dX2_goOn_19 rfl (lv_at hl 0 rfl) ?_
  obtain ⟨v4, hv4, h⟩ := zbnd h
  have hPc := hP.sub (ws' := [(a_this, .inr (2, [.ref a_met, .ref a_slots, .ref a_outcomes, .ref a_outcome, .ref a_arrivals, .ref a_freed, .ref a_called, .long f_rests, .int f_states, .int f_told, .int f_wheel])), (a_called, .inl (cI, 64, .inl f_called)), (a_p0, .inr (0, [.int f_p0_relays, .ref a_p0_branches, .ref a_p0_closing, .ref a_p0_opening, .ref a_p0_pull, .ref a_p0_drop, .ref a_p0_changed, .int f_p0_inputs, .int f_p0_motion, .int f_p0_ticks, .int f_p0_changes])), (a_p0_branches, .inl (cI, 6, .inl f_p0_branches)), (a_p0_closing, .inl (cI, 24, .inl f_p0_closing)), (a_p0_opening, .inl (cI, 24, .inl f_p0_opening))]) [0, 5, 6, 7, 8, 10] rfl
  have hDc := hD.sub (ws' := [(a_this, .inr (2, [.ref a_met, .ref a_slots, .ref a_outcomes, .ref a_outcome, .ref a_arrivals, .ref a_freed, .ref a_called, .long f_rests, .int f_states, .int f_told, .int f_wheel])), (a_called, .inl (cI, 64, .inl f_called)), (a_p0, .inr (0, [.int f_p0_relays, .ref a_p0_branches, .ref a_p0_closing, .ref a_p0_opening, .ref a_p0_pull, .ref a_p0_drop, .ref a_p0_changed, .int f_p0_inputs, .int f_p0_motion, .int f_p0_ticks, .int f_p0_changes])), (a_p0_branches, .inl (cI, 6, .inl f_p0_branches)), (a_p0_closing, .inl (cI, 24, .inl f_p0_closing)), (a_p0_opening, .inl (cI, 24, .inl f_p0_opening))]) [0, 5, 6, 7, 8, 10] (by decide) rfl
  have hFc := va_free (wc := [(a_this, .inr (2, [.ref a_met, .ref a_slots, .ref a_outcomes, .ref a_outcome, .ref a_arrivals, .ref a_freed, .ref a_called, .long f_rests, .int f_states, .int f_told, .int f_wheel])), (a_called, .inl (cI, 64, .inl f_called)), (a_p0, .inr (0, [.int f_p0_relays, .ref a_p0_branches, .ref a_p0_closing, .ref a_p0_opening, .ref a_p0_pull, .ref a_p0_drop, .ref a_p0_changed, .int f_p0_inputs, .int f_p0_motion, .int f_p0_ticks, .int f_p0_changes])), (a_p0_branches, .inl (cI, 6, .inl f_p0_branches)), (a_p0_closing, .inl (cI, 24, .inl f_p0_closing)), (a_p0_opening, .inl (cI, 24, .inl f_p0_opening))]) hD hS hA [0, 5, 6, 7, 8, 10] rfl
  refine zc_wi (va_runV (C := RX2) (As := [.ref a_p0, .int v3]) (rest := []) ⟨hx, hb, hml, hown, hts⟩ (c_X2_calledWith l D cI cC cO cJ fu a_this a_met a_slots a_outcomes a_outcome a_arrivals a_freed a_called a_p0 a_p0_branches a_p0_closing a_p0_opening a_p0_pull a_p0_drop a_p0_changed _ f_rests f_states f_told f_wheel f_called f_p0_relays f_p0_inputs f_p0_motion f_p0_ticks f_p0_changes f_p0_branches f_p0_closing f_p0_opening v3 v4 hv4) (cwV 2 hts gX2_goOn_X2_calledWith rfl rfl rfl (by decide +kernel) ⟨Nat.le_of_ble_eq_true rfl, Nat.le_of_ble_eq_true rfl⟩) ⟨zPw_blind, (va_recv hK hP (q0 := 0) (ci := 2) rfl rfl), zPw_pre hK hPc hDc⟩ rfl rfl hl.1 rfl (lv_room (Nat.le_of_ble_eq_true rfl)) dX2_goOn_20 ⟨Nat.zero_le _, Nat.zero_le _⟩) hS hFc (fun H locs hk1 hP1 hS => ?_)
  obtain ⟨hP, hD⟩ := zjn (ws' := [(a_this, .inr (2, [.ref a_met, .ref a_slots, .ref a_outcomes, .ref a_outcome, .ref a_arrivals, .ref a_freed, .ref a_called, .long f_rests, .int f_states, .int f_told, .int f_wheel])), (a_met, .inl (cI, 300, .inl f_met)), (a_slots, .inl (cI, 512, .inl f_slots)), (a_outcomes, .inl (cI, 300, .inl v1)), (a_outcome, .inl (cI, 2100, .inl f_outcome)), (a_called, .inl (cI, 64, .inl v4.2)), (a_p0, .inr (0, [.int f_p0_relays, .ref a_p0_branches, .ref a_p0_closing, .ref a_p0_opening, .ref a_p0_pull, .ref a_p0_drop, .ref a_p0_changed, .int f_p0_inputs, .int f_p0_motion, .int f_p0_ticks, .int f_p0_changes])), (a_p0_branches, .inl (cI, 6, .inl f_p0_branches)), (a_p0_closing, .inl (cI, 24, .inl f_p0_closing)), (a_p0_drop, .inl (cI, 6, .inl f_p0_drop)), (a_p0_opening, .inl (cI, 24, .inl f_p0_opening)), (a_p0_pull, .inl (cI, 6, .inl f_p0_pull))]) hP hD [0, 5, 6, 7, 8, 10] [.inr 0, .inl 1, .inl 2, .inl 3, .inl 4, .inr 1, .inr 2, .inr 3, .inr 4, .inl 9, .inr 5, .inl 11] rfl rfl rfl hk1 hP1
  refine lv_iload_n hx hb dX2_goOn_23 rfl (lv_at hl 0 rfl) ?_
  refine lv_ixor hx hb dX2_goOn_24 ?_
  refine lv_istore (lv' := [(4, .int (v4.1 ^^^ v3)), (3, .int v3), (0, .ref a_this), (1, .ref a_p0), (2, .int p1)]) hx hb dX2_goOn_25 hl (by decide) rfl (fun ls hl => ?_)
  refine lv_iload hx hb dX2_goOn_27 (lv_at hl 0 rfl) ?_
  refine lv_if_ne (tgt := 45) hx hb dX2_goOn_29 (by decide) (fun c5 => ?_) (fun c5 => ?_)
  · have h := zif_f c5 h
    refine lv_aload_n hx hb dX2_goOn_45 rfl (lv_at hl 3 rfl) ?_
    refine lv_aload_n hx hb dX2_goOn_46 rfl (lv_at hl 2 rfl) ?_
    refine va_get (D := D) (ci := 2) (v := .ref a_met) (C := RX2) (T := TX2) (N := 11) hx hb hts hinX2 hown hK hP 0 rfl rfl 0 (by decide) (hts (Cond.fieldLink RX2 11 "LadderRelays$Ways" "met" "[I") (List.mem_of_getElem? (i := 2) rfl)) (fun _ h9 => h9) rfl dX2_goOn_47 ?_
    refine lv_iload_n hx hb dX2_goOn_50 rfl (lv_at hl 4 rfl) ?_
    obtain ⟨v6, hv6, h⟩ := zbnd h
    refine zr_iald hx hb hK hP 1 0 rfl rfl hv6 dX2_goOn_51 ?_
    refine lv_iload hx hb dX2_goOn_52 (lv_at hl 0 rfl) ?_
    obtain ⟨v7, hv7, h⟩ := zbnd h
    have hPc := hP.sub (ws' := [(a_p0, .inr (0, [.int f_p0_relays, .ref a_p0_branches, .ref a_p0_closing, .ref a_p0_opening, .ref a_p0_pull, .ref a_p0_drop, .ref a_p0_changed, .int f_p0_inputs, .int f_p0_motion, .int f_p0_ticks, .int f_p0_changes]))]) [6] rfl
    refine zc_i (W.runV (C := RX0) (As := [.int v6, .int (v4.1 ^^^ v3)]) (rest := []) ⟨hx, hb, hml, hown, hts⟩ (c_X0_counted l D cI cC cO cJ fu a_p0 a_p0_branches a_p0_closing a_p0_opening a_p0_pull a_p0_drop a_p0_changed f_p0_relays f_p0_inputs f_p0_motion f_p0_ticks f_p0_changes v6 (v4.1 ^^^ v3) v7 hv7) (cwV 2 hts gX2_goOn_X0_counted rfl rfl rfl (by decide +kernel) ⟨Nat.le_of_ble_eq_true rfl, Nat.le_of_ble_eq_true rfl⟩) ⟨zPr_blind, (va_recv hK hP (q0 := 6) (ci := 0) rfl rfl), zPr_pre hK hPc⟩ rfl rfl hl.1 rfl (lv_room (Nat.le_of_ble_eq_true rfl)) dX2_goOn_54 ⟨Nat.zero_le _, Nat.zero_le _⟩) ?_
    refine lv_istore (lv' := [(5, .int v7), (4, .int (v4.1 ^^^ v3)), (3, .int v3), (0, .ref a_this), (1, .ref a_p0), (2, .int p1)]) hx hb dX2_goOn_57 hl (by decide) rfl (fun ls hl => ?_)
    refine lv_aload_n hx hb dX2_goOn_59 rfl (lv_at hl 4 rfl) ?_
    refine lv_iload hx hb dX2_goOn_60 (lv_at hl 0 rfl) ?_
    refine lv_iload hx hb dX2_goOn_62 (lv_at hl 1 rfl) ?_
    obtain ⟨v8, hv8, h⟩ := zbnd h
    have hPc := hP.sub (ws' := [(a_p0, .inr (0, [.int f_p0_relays, .ref a_p0_branches, .ref a_p0_closing, .ref a_p0_opening, .ref a_p0_pull, .ref a_p0_drop, .ref a_p0_changed, .int f_p0_inputs, .int f_p0_motion, .int f_p0_ticks, .int f_p0_changes])), (a_p0_pull, .inl (cI, 6, .inl f_p0_pull)), (a_p0_drop, .inl (cI, 6, .inl f_p0_drop))]) [6, 11, 9] rfl
    refine zc_i (W.runV (C := RX0) (As := [.int v7, .int (v4.1 ^^^ v3)]) (rest := []) ⟨hx, hb, hml, hown, hts⟩ (c_X0_dueIn l D cI cC cO cJ fu a_p0 a_p0_branches a_p0_closing a_p0_opening a_p0_pull a_p0_drop a_p0_changed f_p0_relays f_p0_inputs f_p0_motion f_p0_ticks f_p0_changes f_p0_pull f_p0_drop v7 (v4.1 ^^^ v3) v8 hv8) (cwV 2 hts gX2_goOn_X0_dueIn rfl rfl rfl (by decide +kernel) ⟨Nat.le_of_ble_eq_true rfl, Nat.le_of_ble_eq_true rfl⟩) ⟨zPr_blind, (va_recv hK hP (q0 := 6) (ci := 0) rfl rfl), zPr_pre hK hPc⟩ rfl rfl hl.1 rfl (lv_room (Nat.le_of_ble_eq_true rfl)) dX2_goOn_64 ⟨Nat.zero_le _, Nat.zero_le _⟩) ?_
    refine lv_istore (lv' := [(6, .int v8), (5, .int v7), (4, .int (v4.1 ^^^ v3)), (3, .int v3), (0, .ref a_this), (1, .ref a_p0), (2, .int p1)]) hx hb dX2_goOn_67 hl (by decide) rfl (fun ls hl => ?_)
    refine lv_aload_n hx hb dX2_goOn_69 rfl (lv_at hl 4 rfl) ?_
    refine lv_iload_n hx hb dX2_goOn_70 rfl (lv_at hl 6 rfl) ?_
    refine lv_aload_n hx hb dX2_goOn_71 rfl (lv_at hl 5 rfl) ?_
    refine lv_iload hx hb dX2_goOn_72 (lv_at hl 1 rfl) ?_
    refine lv_iload hx hb dX2_goOn_74 (lv_at hl 0 rfl) ?_
    obtain ⟨v9, hv9, h⟩ := zbnd h
    have hPc := hP.sub (ws' := [(a_p0, .inr (0, [.int f_p0_relays, .ref a_p0_branches, .ref a_p0_closing, .ref a_p0_opening, .ref a_p0_pull, .ref a_p0_drop, .ref a_p0_changed, .int f_p0_inputs, .int f_p0_motion, .int f_p0_ticks, .int f_p0_changes]))]) [6] rfl
    refine zc_i (W.runV (C := RX0) (As := [.int v7, .int v8]) (rest := [.int p1, .ref a_this]) ⟨hx, hb, hml, hown, hts⟩ (c_X0_turned l D cI cC cO cJ fu a_p0 a_p0_branches a_p0_closing a_p0_opening a_p0_pull a_p0_drop a_p0_changed f_p0_relays f_p0_inputs f_p0_motion f_p0_ticks f_p0_changes v7 v8 v9 hv9) (cwV 2 hts gX2_goOn_X0_turned rfl rfl rfl (by decide +kernel) ⟨Nat.le_of_ble_eq_true rfl, Nat.le_of_ble_eq_true rfl⟩) ⟨zPr_blind, (va_recv hK hP (q0 := 6) (ci := 0) rfl rfl), zPr_pre hK hPc⟩ rfl rfl hl.1 rfl (lv_room (Nat.le_of_ble_eq_true rfl)) dX2_goOn_76 ⟨Nat.zero_le _, Nat.zero_le _⟩) ?_
    obtain ⟨v10, hv10, h⟩ := zbnd h
    have hPc := hP.sub (ws' := [(a_this, .inr (2, [.ref a_met, .ref a_slots, .ref a_outcomes, .ref a_outcome, .ref a_arrivals, .ref a_freed, .ref a_called, .long f_rests, .int f_states, .int f_told, .int f_wheel])), (a_met, .inl (cI, 300, .inl f_met)), (a_slots, .inl (cI, 512, .inl f_slots)), (a_outcomes, .inl (cI, 300, .inl v1)), (a_outcome, .inl (cI, 2100, .inl f_outcome))]) [0, 1, 2, 3, 4] rfl
    have hDc := hD.sub (ws' := [(a_this, .inr (2, [.ref a_met, .ref a_slots, .ref a_outcomes, .ref a_outcome, .ref a_arrivals, .ref a_freed, .ref a_called, .long f_rests, .int f_states, .int f_told, .int f_wheel])), (a_met, .inl (cI, 300, .inl f_met)), (a_slots, .inl (cI, 512, .inl f_slots)), (a_outcomes, .inl (cI, 300, .inl v1)), (a_outcome, .inl (cI, 2100, .inl f_outcome))]) [0, 1, 2, 3, 4] (by decide) rfl
    have hFc := va_free (wc := [(a_this, .inr (2, [.ref a_met, .ref a_slots, .ref a_outcomes, .ref a_outcome, .ref a_arrivals, .ref a_freed, .ref a_called, .long f_rests, .int f_states, .int f_told, .int f_wheel])), (a_met, .inl (cI, 300, .inl f_met)), (a_slots, .inl (cI, 512, .inl f_slots)), (a_outcomes, .inl (cI, 300, .inl v1)), (a_outcome, .inl (cI, 2100, .inl f_outcome))]) hD hS hA [0, 1, 2, 3, 4] rfl
    refine zc_wv (va_runV (C := RX2) (As := [.int p1, .int v9]) (rest := []) ⟨hx, hb, hml, hown, hts⟩ (c_X2_goTo l D cI cC cO cJ fu a_this a_met a_slots a_outcomes a_outcome a_arrivals a_freed a_called _ f_rests f_states f_told f_wheel f_met f_slots v1 f_outcome p1 v9 v10 hv10) (cwV 2 hts gX2_goOn_X2_goTo rfl rfl rfl (by decide +kernel) ⟨Nat.le_of_ble_eq_true rfl, Nat.le_of_ble_eq_true rfl⟩) ⟨zPw_blind, (va_recv hK hP (q0 := 0) (ci := 2) rfl rfl), zPw_pre hK hPc hDc⟩ rfl rfl hl.1 rfl (lv_room (Nat.le_of_ble_eq_true rfl)) dX2_goOn_79 ⟨Nat.zero_le _, Nat.zero_le _⟩) hS hFc (fun H locs hk1 hP1 hS => ?_)
    obtain ⟨hP, hD⟩ := zjn (ws' := [(a_this, .inr (2, [.ref a_met, .ref a_slots, .ref a_outcomes, .ref a_outcome, .ref a_arrivals, .ref a_freed, .ref a_called, .long f_rests, .int v10.1, .int v10.2.1, .int f_wheel])), (a_met, .inl (cI, 300, .inl v10.2.2.1)), (a_slots, .inl (cI, 512, .inl v10.2.2.2.1)), (a_outcomes, .inl (cI, 300, .inl v10.2.2.2.2.1)), (a_outcome, .inl (cI, 2100, .inl v10.2.2.2.2.2)), (a_called, .inl (cI, 64, .inl v4.2)), (a_p0, .inr (0, [.int f_p0_relays, .ref a_p0_branches, .ref a_p0_closing, .ref a_p0_opening, .ref a_p0_pull, .ref a_p0_drop, .ref a_p0_changed, .int f_p0_inputs, .int f_p0_motion, .int f_p0_ticks, .int f_p0_changes])), (a_p0_branches, .inl (cI, 6, .inl f_p0_branches)), (a_p0_closing, .inl (cI, 24, .inl f_p0_closing)), (a_p0_drop, .inl (cI, 6, .inl f_p0_drop)), (a_p0_opening, .inl (cI, 24, .inl f_p0_opening)), (a_p0_pull, .inl (cI, 6, .inl f_p0_pull))]) hP hD [0, 1, 2, 3, 4] [.inr 0, .inr 1, .inr 2, .inr 3, .inr 4, .inl 5, .inl 6, .inl 7, .inl 8, .inl 9, .inl 10, .inl 11] rfl rfl rfl hk1 hP1
    refine lv_iload hx hb dX2_goOn_82 (lv_at hl 0 rfl) ?_
    obtain ⟨v11, hv11, h⟩ := zbnd h
    refine zc_i (W.runS (As := [.int v8]) (rest := []) ⟨hx, hb, hml, hown, hts⟩ (c_J6_bitCount_0f7a4 l D cI cC cO cJ fu v8 v11 hv11) (va_cwS 1 hts gX2_goOn_J6_bitCount_0f7a4 rfl rfl rfl (by decide +kernel) ⟨Nat.le_of_ble_eq_true rfl, Nat.le_of_ble_eq_true rfl⟩) (zPr_S hK zP_nil) rfl rfl hl.1 rfl (lv_room (Nat.le_of_ble_eq_true rfl)) dX2_goOn_84 ⟨Nat.zero_le _, Nat.zero_le _⟩) ?_
    refine lv_iconst (v := (2 : Int32)) hx hb dX2_goOn_87 (by decide) ?_
    refine lv_icmp_ge (tgt := 92) hx hb dX2_goOn_88 (by decide) (fun c12 => ?_) (fun c12 => ?_)
    · have h := zif_t c12 h
      refine lv_iconst (v := (0 : Int32)) hx hb dX2_goOn_92 (by decide) ?_
      refine lv_istore (lv' := [(7, .int (0 : Int32)), (6, .int v8), (5, .int v7), (4, .int (v4.1 ^^^ v3)), (3, .int v3), (0, .ref a_this), (1, .ref a_p0), (2, .int p1)]) hx hb dX2_goOn_93 hl (by decide) rfl (fun ls hl => ?_)
      have E135 : ∀ (v13 : Int32) (v14 : Int32) (v15 : Int32) (v16 : Nat → Int32) (v17 : Nat → Int32) (v18 : Nat → Int32) (v19 : Nat → Int32), F_X2_goOn_E135 f_rests v4 v13 v14 v15 v16 v17 v18 v19 = some R → ∀ (H : Heap) (locs : List Loc), va_P D vwCl [(a_this, .inr (2, [.ref a_met, .ref a_slots, .ref a_outcomes, .ref a_outcome, .ref a_arrivals, .ref a_freed, .ref a_called, .long f_rests, .int v14, .int v15, .int f_wheel])), (a_met, .inl (cI, 300, .inl v16)), (a_slots, .inl (cI, 512, .inl v17)), (a_outcomes, .inl (cI, 300, .inl v18)), (a_outcome, .inl (cI, 2100, .inl v19)), (a_called, .inl (cI, 64, .inl v4.2)), (a_p0, .inr (0, [.int f_p0_relays, .ref a_p0_branches, .ref a_p0_closing, .ref a_p0_opening, .ref a_p0_pull, .ref a_p0_drop, .ref a_p0_changed, .int f_p0_inputs, .int f_p0_motion, .int f_p0_ticks, .int f_p0_changes])), (a_p0_branches, .inl (cI, 6, .inl f_p0_branches)), (a_p0_closing, .inl (cI, 24, .inl f_p0_closing)), (a_p0_drop, .inl (cI, 6, .inl f_p0_drop)), (a_p0_opening, .inl (cI, 24, .inl f_p0_opening)), (a_p0_pull, .inl (cI, 6, .inl f_p0_pull))] H → va_D A [(a_this, .inr (2, [.ref a_met, .ref a_slots, .ref a_outcomes, .ref a_outcome, .ref a_arrivals, .ref a_freed, .ref a_called, .long f_rests, .int v14, .int v15, .int f_wheel])), (a_met, .inl (cI, 300, .inl v16)), (a_slots, .inl (cI, 512, .inl v17)), (a_outcomes, .inl (cI, 300, .inl v18)), (a_outcome, .inl (cI, 2100, .inl v19)), (a_called, .inl (cI, 64, .inl v4.2)), (a_p0, .inr (0, [.int f_p0_relays, .ref a_p0_branches, .ref a_p0_closing, .ref a_p0_opening, .ref a_p0_pull, .ref a_p0_drop, .ref a_p0_changed, .int f_p0_inputs, .int f_p0_motion, .int f_p0_ticks, .int f_p0_changes])), (a_p0_branches, .inl (cI, 6, .inl f_p0_branches)), (a_p0_closing, .inl (cI, 24, .inl f_p0_closing)), (a_p0_drop, .inl (cI, 6, .inl f_p0_drop)), (a_p0_opening, .inl (cI, 24, .inl f_p0_opening)), (a_p0_pull, .inl (cI, 6, .inl f_p0_pull))] → va_S A s.heap H locs → ∀ ls : Array Slot, lv_has ls 8 [(0, .ref a_this), (1, .ref a_p0), (2, .int p1), (3, .int v3), (4, .int (v4.1 ^^^ v3)), (5, .int v7), (6, .int v8), (7, .int v13)] → W p l e ({ frames := 2, cells := 0, slots := 0, locals := 48 } : Room) s m (([.ref a_this, .ref a_p0, .int p1] : List Value).toArray) below meth c H locs 0 0 (MQ below (zWv D [(a_this, .inr (2, [.ref a_met, .ref a_slots, .ref a_outcomes, .ref a_outcome, .ref a_arrivals, .ref a_freed, .ref a_called, .long R.1, .int R.2.1, .int R.2.2.1, .int f_wheel])), (a_met, .inl (cI, 300, .inl R.2.2.2.1)), (a_slots, .inl (cI, 512, .inl R.2.2.2.2.1)), (a_outcomes, .inl (cI, 300, .inl R.2.2.2.2.2.1)), (a_outcome, .inl (cI, 2100, .inl R.2.2.2.2.2.2.1)), (a_called, .inl (cI, 64, .inl R.2.2.2.2.2.2.2)), (a_p0, .inr (0, [.int f_p0_relays, .ref a_p0_branches, .ref a_p0_closing, .ref a_p0_opening, .ref a_p0_pull, .ref a_p0_drop, .ref a_p0_changed, .int f_p0_inputs, .int f_p0_motion, .int f_p0_ticks, .int f_p0_changes])), (a_p0_branches, .inl (cI, 6, .inl f_p0_branches)), (a_p0_closing, .inl (cI, 24, .inl f_p0_closing)), (a_p0_drop, .inl (cI, 6, .inl f_p0_drop)), (a_p0_opening, .inl (cI, 24, .inl f_p0_opening)), (a_p0_pull, .inl (cI, 6, .inl f_p0_pull))] A) (([.ref a_this, .ref a_p0, .int p1] : List Value).toArray) s 0 0 A) (F0 m 135 ls []) := by
        intro v13 v14 v15 v16 v17 v18 v19 h H locs hP hD hS ls hl
        unfold F_X2_goOn_E135 at h
        have hR := Option.some.inj h
        subst hR
        exact W.vret hx hb hr (fun t ht hW => ⟨⟨(), rfl, trivial, zhp ht hP⟩, hS.F ht⟩) hS.2.2 dX2_goOn_135
      refine zlp_i7 (R := R) (P := fun (v20 : Int32) (v21 : Int32) (v22 : Int32) (v23 : Nat → Int32) (v24 : Nat → Int32) (v25 : Nat → Int32) (v26 : Nat → Int32) => ∀ (H : Heap) (locs : List Loc), va_P D vwCl [(a_this, .inr (2, [.ref a_met, .ref a_slots, .ref a_outcomes, .ref a_outcome, .ref a_arrivals, .ref a_freed, .ref a_called, .long f_rests, .int v21, .int v22, .int f_wheel])), (a_met, .inl (cI, 300, .inl v23)), (a_slots, .inl (cI, 512, .inl v24)), (a_outcomes, .inl (cI, 300, .inl v25)), (a_outcome, .inl (cI, 2100, .inl v26)), (a_called, .inl (cI, 64, .inl v4.2)), (a_p0, .inr (0, [.int f_p0_relays, .ref a_p0_branches, .ref a_p0_closing, .ref a_p0_opening, .ref a_p0_pull, .ref a_p0_drop, .ref a_p0_changed, .int f_p0_inputs, .int f_p0_motion, .int f_p0_ticks, .int f_p0_changes])), (a_p0_branches, .inl (cI, 6, .inl f_p0_branches)), (a_p0_closing, .inl (cI, 24, .inl f_p0_closing)), (a_p0_drop, .inl (cI, 6, .inl f_p0_drop)), (a_p0_opening, .inl (cI, 24, .inl f_p0_opening)), (a_p0_pull, .inl (cI, 6, .inl f_p0_pull))] H → va_D A [(a_this, .inr (2, [.ref a_met, .ref a_slots, .ref a_outcomes, .ref a_outcome, .ref a_arrivals, .ref a_freed, .ref a_called, .long f_rests, .int v21, .int v22, .int f_wheel])), (a_met, .inl (cI, 300, .inl v23)), (a_slots, .inl (cI, 512, .inl v24)), (a_outcomes, .inl (cI, 300, .inl v25)), (a_outcome, .inl (cI, 2100, .inl v26)), (a_called, .inl (cI, 64, .inl v4.2)), (a_p0, .inr (0, [.int f_p0_relays, .ref a_p0_branches, .ref a_p0_closing, .ref a_p0_opening, .ref a_p0_pull, .ref a_p0_drop, .ref a_p0_changed, .int f_p0_inputs, .int f_p0_motion, .int f_p0_ticks, .int f_p0_changes])), (a_p0_branches, .inl (cI, 6, .inl f_p0_branches)), (a_p0_closing, .inl (cI, 24, .inl f_p0_closing)), (a_p0_drop, .inl (cI, 6, .inl f_p0_drop)), (a_p0_opening, .inl (cI, 24, .inl f_p0_opening)), (a_p0_pull, .inl (cI, 6, .inl f_p0_pull))] → va_S A s.heap H locs → ∀ ls : Array Slot, lv_has ls 8 [(0, .ref a_this), (1, .ref a_p0), (2, .int p1), (3, .int v3), (4, .int (v4.1 ^^^ v3)), (5, .int v7), (6, .int v8), (7, .int v20)] → W p l e ({ frames := 2, cells := 0, slots := 0, locals := 48 } : Room) s m (([.ref a_this, .ref a_p0, .int p1] : List Value).toArray) below meth c H locs 0 0 (MQ below (zWv D [(a_this, .inr (2, [.ref a_met, .ref a_slots, .ref a_outcomes, .ref a_outcome, .ref a_arrivals, .ref a_freed, .ref a_called, .long R.1, .int R.2.1, .int R.2.2.1, .int f_wheel])), (a_met, .inl (cI, 300, .inl R.2.2.2.1)), (a_slots, .inl (cI, 512, .inl R.2.2.2.2.1)), (a_outcomes, .inl (cI, 300, .inl R.2.2.2.2.2.1)), (a_outcome, .inl (cI, 2100, .inl R.2.2.2.2.2.2.1)), (a_called, .inl (cI, 64, .inl R.2.2.2.2.2.2.2)), (a_p0, .inr (0, [.int f_p0_relays, .ref a_p0_branches, .ref a_p0_closing, .ref a_p0_opening, .ref a_p0_pull, .ref a_p0_drop, .ref a_p0_changed, .int f_p0_inputs, .int f_p0_motion, .int f_p0_ticks, .int f_p0_changes])), (a_p0_branches, .inl (cI, 6, .inl f_p0_branches)), (a_p0_closing, .inl (cI, 24, .inl f_p0_closing)), (a_p0_drop, .inl (cI, 6, .inl f_p0_drop)), (a_p0_opening, .inl (cI, 24, .inl f_p0_opening)), (a_p0_pull, .inl (cI, 6, .inl f_p0_pull))] A) (([.ref a_this, .ref a_p0, .int p1] : List Value).toArray) s 0 0 A) (F0 m 95 ls [])) (fun rec95 ih95 v20 v21 v22 v23 v24 v25 v26 h => ?_) fu (0 : Int32) v10.1 v10.2.1 v10.2.2.1 v10.2.2.2.1 v10.2.2.2.2.1 v10.2.2.2.2.2 h _ _ hP hD hS ls (lv_sub hl [5, 6, 7, 4, 3, 2, 1, 0] rfl)
      intro H locs hP hD hS ls hl
      unfold F_X2_goOn_L95 at h
      refine lv_iload hx hb dX2_goOn_95 (lv_at hl 7 rfl) ?_
      refine lv_aload_n hx hb dX2_goOn_97 rfl (lv_at hl 1 rfl) ?_
      refine va_get (D := D) (ci := 0) (v := .int f_p0_relays) (C := RX0) (T := TX0) (N := 11) hx hb hts hinX0 hown hK hP 6 rfl rfl 0 (by decide) (hts (Cond.fieldLink RX2 101 "LadderRelays$Ladder" "relays" "I") (List.mem_of_getElem? (i := 4) rfl)) (fun _ h9 => h9) rfl dX2_goOn_98 ?_
      refine lv_icmp_ge (tgt := 135) hx hb dX2_goOn_101 (by decide) (fun c27 => ?_) (fun c27 => ?_)
      · have h := zif_t c27 h
        exact E135 v20 v21 v22 v23 v24 v25 v26 h _ _ hP hD hS ls (lv_sub hl [0, 1, 2, 3, 4, 5, 6, 7] rfl)
      · have h := zif_f c27 h
        refine lv_iload hx hb dX2_goOn_104 (lv_at hl 6 rfl) ?_
        refine lv_iload hx hb dX2_goOn_106 (lv_at hl 7 rfl) ?_
        obtain ⟨v28, hv28, h⟩ := zbnd h
        refine zc_i (W.runS (As := [.int v8, .int v20]) (rest := []) ⟨hx, hb, hml, hown, hts⟩ (c_X0_isIn l D cI cC cO cJ fu v8 v20 v28 hv28) (va_cwS 2 hts gX2_goOn_X0_isIn rfl rfl rfl (by decide +kernel) ⟨Nat.le_of_ble_eq_true rfl, Nat.le_of_ble_eq_true rfl⟩) (zPr_S hK zP_nil) rfl rfl hl.1 rfl (lv_room (Nat.le_of_ble_eq_true rfl)) dX2_goOn_108 ⟨Nat.zero_le _, Nat.zero_le _⟩) ?_
        refine lv_if_eq (tgt := 129) hx hb dX2_goOn_111 (by decide) (fun c29 => ?_) (fun c29 => ?_)
        · have h := zif_t c29 h
          refine lv_iinc (v := (v20 + (1 : Int32))) (lv' := [(7, .int (v20 + (1 : Int32))), (0, .ref a_this), (1, .ref a_p0), (2, .int p1), (3, .int v3), (4, .int (v4.1 ^^^ v3)), (5, .int v7), (6, .int v8)]) hx hb dX2_goOn_129 hl (k := 7) rfl rfl (by decide) rfl (fun ls hl => ?_)
          refine lv_goto (tgt := 95) hx hb dX2_goOn_132 (by decide) ?_
          exact ih95 (v20 + (1 : Int32)) v21 v22 v23 v24 v25 v26 h _ _ hP hD hS ls (lv_sub hl [1, 2, 3, 4, 5, 6, 7, 0] rfl)
        · have h := zif_f c29 h
          refine lv_aload_n hx hb dX2_goOn_114 rfl (lv_at hl 0 rfl) ?_
          refine lv_iload_n hx hb dX2_goOn_115 rfl (lv_at hl 2 rfl) ?_
          refine lv_aload_n hx hb dX2_goOn_116 rfl (lv_at hl 1 rfl) ?_
          refine lv_iload hx hb dX2_goOn_117 (lv_at hl 5 rfl) ?_
          refine lv_iconst (v := (1 : Int32)) hx hb dX2_goOn_119 (by decide) ?_
          refine lv_iload hx hb dX2_goOn_120 (lv_at hl 7 rfl) ?_
          refine lv_ishl hx hb dX2_goOn_122 ?_
          obtain ⟨v30, hv30, h⟩ := zbnd h
          have hPc := hP.sub (ws' := [(a_p0, .inr (0, [.int f_p0_relays, .ref a_p0_branches, .ref a_p0_closing, .ref a_p0_opening, .ref a_p0_pull, .ref a_p0_drop, .ref a_p0_changed, .int f_p0_inputs, .int f_p0_motion, .int f_p0_ticks, .int f_p0_changes]))]) [6] rfl
          refine zc_i (W.runV (C := RX0) (As := [.int v7, .int ((1 : Int32) <<< (v20 &&& (31 : Int32)))]) (rest := [.int p1, .ref a_this]) ⟨hx, hb, hml, hown, hts⟩ (c_X0_turned l D cI cC cO cJ fu a_p0 a_p0_branches a_p0_closing a_p0_opening a_p0_pull a_p0_drop a_p0_changed f_p0_relays f_p0_inputs f_p0_motion f_p0_ticks f_p0_changes v7 ((1 : Int32) <<< (v20 &&& (31 : Int32))) v30 hv30) (cwV 2 hts gX2_goOn_X0_turned rfl rfl rfl (by decide +kernel) ⟨Nat.le_of_ble_eq_true rfl, Nat.le_of_ble_eq_true rfl⟩) ⟨zPr_blind, (va_recv hK hP (q0 := 6) (ci := 0) rfl rfl), zPr_pre hK hPc⟩ rfl rfl hl.1 rfl (lv_room (Nat.le_of_ble_eq_true rfl)) dX2_goOn_123 ⟨Nat.zero_le _, Nat.zero_le _⟩) ?_
          obtain ⟨v31, hv31, h⟩ := zbnd h
          have hPc := hP.sub (ws' := [(a_this, .inr (2, [.ref a_met, .ref a_slots, .ref a_outcomes, .ref a_outcome, .ref a_arrivals, .ref a_freed, .ref a_called, .long f_rests, .int v21, .int v22, .int f_wheel])), (a_met, .inl (cI, 300, .inl v23)), (a_slots, .inl (cI, 512, .inl v24)), (a_outcomes, .inl (cI, 300, .inl v25)), (a_outcome, .inl (cI, 2100, .inl v26))]) [0, 1, 2, 3, 4] rfl
          have hDc := hD.sub (ws' := [(a_this, .inr (2, [.ref a_met, .ref a_slots, .ref a_outcomes, .ref a_outcome, .ref a_arrivals, .ref a_freed, .ref a_called, .long f_rests, .int v21, .int v22, .int f_wheel])), (a_met, .inl (cI, 300, .inl v23)), (a_slots, .inl (cI, 512, .inl v24)), (a_outcomes, .inl (cI, 300, .inl v25)), (a_outcome, .inl (cI, 2100, .inl v26))]) [0, 1, 2, 3, 4] (by decide) rfl
          have hFc := va_free (wc := [(a_this, .inr (2, [.ref a_met, .ref a_slots, .ref a_outcomes, .ref a_outcome, .ref a_arrivals, .ref a_freed, .ref a_called, .long f_rests, .int v21, .int v22, .int f_wheel])), (a_met, .inl (cI, 300, .inl v23)), (a_slots, .inl (cI, 512, .inl v24)), (a_outcomes, .inl (cI, 300, .inl v25)), (a_outcome, .inl (cI, 2100, .inl v26))]) hD hS hA [0, 1, 2, 3, 4] rfl
          refine zc_wv (va_runV (C := RX2) (As := [.int p1, .int v30]) (rest := []) ⟨hx, hb, hml, hown, hts⟩ (c_X2_goTo l D cI cC cO cJ fu a_this a_met a_slots a_outcomes a_outcome a_arrivals a_freed a_called _ f_rests v21 v22 f_wheel v23 v24 v25 v26 p1 v30 v31 hv31) (cwV 2 hts gX2_goOn_X2_goTo rfl rfl rfl (by decide +kernel) ⟨Nat.le_of_ble_eq_true rfl, Nat.le_of_ble_eq_true rfl⟩) ⟨zPw_blind, (va_recv hK hP (q0 := 0) (ci := 2) rfl rfl), zPw_pre hK hPc hDc⟩ rfl rfl hl.1 rfl (lv_room (Nat.le_of_ble_eq_true rfl)) dX2_goOn_126 ⟨Nat.zero_le _, Nat.zero_le _⟩) hS hFc (fun H locs hk1 hP1 hS => ?_)
          obtain ⟨hP, hD⟩ := zjn (ws' := [(a_this, .inr (2, [.ref a_met, .ref a_slots, .ref a_outcomes, .ref a_outcome, .ref a_arrivals, .ref a_freed, .ref a_called, .long f_rests, .int v31.1, .int v31.2.1, .int f_wheel])), (a_met, .inl (cI, 300, .inl v31.2.2.1)), (a_slots, .inl (cI, 512, .inl v31.2.2.2.1)), (a_outcomes, .inl (cI, 300, .inl v31.2.2.2.2.1)), (a_outcome, .inl (cI, 2100, .inl v31.2.2.2.2.2)), (a_called, .inl (cI, 64, .inl v4.2)), (a_p0, .inr (0, [.int f_p0_relays, .ref a_p0_branches, .ref a_p0_closing, .ref a_p0_opening, .ref a_p0_pull, .ref a_p0_drop, .ref a_p0_changed, .int f_p0_inputs, .int f_p0_motion, .int f_p0_ticks, .int f_p0_changes])), (a_p0_branches, .inl (cI, 6, .inl f_p0_branches)), (a_p0_closing, .inl (cI, 24, .inl f_p0_closing)), (a_p0_drop, .inl (cI, 6, .inl f_p0_drop)), (a_p0_opening, .inl (cI, 24, .inl f_p0_opening)), (a_p0_pull, .inl (cI, 6, .inl f_p0_pull))]) hP hD [0, 1, 2, 3, 4] [.inr 0, .inr 1, .inr 2, .inr 3, .inr 4, .inl 5, .inl 6, .inl 7, .inl 8, .inl 9, .inl 10, .inl 11] rfl rfl rfl hk1 hP1
          refine lv_iinc (v := (v20 + (1 : Int32))) (lv' := [(7, .int (v20 + (1 : Int32))), (0, .ref a_this), (1, .ref a_p0), (2, .int p1), (3, .int v3), (4, .int (v4.1 ^^^ v3)), (5, .int v7), (6, .int v8)]) hx hb dX2_goOn_129 hl (k := 7) rfl rfl (by decide) rfl (fun ls hl => ?_)
          refine lv_goto (tgt := 95) hx hb dX2_goOn_132 (by decide) ?_
          exact ih95 (v20 + (1 : Int32)) v31.1 v31.2.1 v31.2.2.1 v31.2.2.2.1 v31.2.2.2.2.1 v31.2.2.2.2.2 h _ _ hP hD hS ls (lv_sub hl [1, 2, 3, 4, 5, 6, 7, 0] rfl)
    · have h := zif_f c12 h
      have hR := Option.some.inj h
      subst hR
      exact W.vret hx hb hr (fun t ht hW => ⟨⟨(), rfl, trivial, zhp ht hP⟩, hS.F ht⟩) hS.2.2 dX2_goOn_91
  · have h := zif_t c5 h
    refine lv_aload_n hx hb dX2_goOn_32 rfl (lv_at hl 2 rfl) ?_
    refine lv_dup hx hb dX2_goOn_33 rfl ?_
    refine va_get (D := D) (ci := 2) (v := .long f_rests) (C := RX2) (T := TX2) (N := 11) hx hb hts hinX2 hown hK hP 0 rfl rfl 7 (by decide) (hts (Cond.fieldLink RX2 39 "LadderRelays$Ways" "rests" "J") (List.mem_of_getElem? (i := 3) rfl)) (fun _ h9 => h9) rfl dX2_goOn_34 ?_
    refine lv_lconst (v := (1 : Int64)) hx hb dX2_goOn_37 (by decide) ?_
    refine lv_iload_n hx hb dX2_goOn_38 rfl (lv_at hl 1 rfl) ?_
    refine lv_lshl (v := ((1 : Int64) <<< (v3.toInt64 &&& 63))) hx hb dX2_goOn_39 rfl ?_
    refine lv_lor hx hb dX2_goOn_40 ?_
    refine va_put (D := D) (ci := 2) (v := .long (f_rests ||| ((1 : Int64) <<< (v3.toInt64 &&& 63)))) (ty := .long) (C := RX2) (T := TX2) (N := 11) hx hb hts hinX2 tyX2 tyX2_ok nmX2 hown hK hP hD hS 0 rfl rfl 7 (by decide) (hts (Cond.fieldLink RX2 39 "LadderRelays$Ways" "rests" "J") (List.mem_of_getElem? (i := 3) rfl)) (fun _ h9 => h9) rfl (by decide +kernel) rfl rfl (Nat.le_of_ble_eq_true rfl) dX2_goOn_41 (fun H locs hP hD hS => ?_)
    have hP : va_P D vwCl [(a_this, .inr (2, [.ref a_met, .ref a_slots, .ref a_outcomes, .ref a_outcome, .ref a_arrivals, .ref a_freed, .ref a_called, .long (f_rests ||| ((1 : Int64) <<< (v3.toInt64 &&& 63))), .int f_states, .int f_told, .int f_wheel])), (a_met, .inl (cI, 300, .inl f_met)), (a_slots, .inl (cI, 512, .inl f_slots)), (a_outcomes, .inl (cI, 300, .inl v1)), (a_outcome, .inl (cI, 2100, .inl f_outcome)), (a_called, .inl (cI, 64, .inl v4.2)), (a_p0, .inr (0, [.int f_p0_relays, .ref a_p0_branches, .ref a_p0_closing, .ref a_p0_opening, .ref a_p0_pull, .ref a_p0_drop, .ref a_p0_changed, .int f_p0_inputs, .int f_p0_motion, .int f_p0_ticks, .int f_p0_changes])), (a_p0_branches, .inl (cI, 6, .inl f_p0_branches)), (a_p0_closing, .inl (cI, 24, .inl f_p0_closing)), (a_p0_drop, .inl (cI, 6, .inl f_p0_drop)), (a_p0_opening, .inl (cI, 24, .inl f_p0_opening)), (a_p0_pull, .inl (cI, 6, .inl f_p0_pull))] H := hP
    have hD : va_D A [(a_this, .inr (2, [.ref a_met, .ref a_slots, .ref a_outcomes, .ref a_outcome, .ref a_arrivals, .ref a_freed, .ref a_called, .long (f_rests ||| ((1 : Int64) <<< (v3.toInt64 &&& 63))), .int f_states, .int f_told, .int f_wheel])), (a_met, .inl (cI, 300, .inl f_met)), (a_slots, .inl (cI, 512, .inl f_slots)), (a_outcomes, .inl (cI, 300, .inl v1)), (a_outcome, .inl (cI, 2100, .inl f_outcome)), (a_called, .inl (cI, 64, .inl v4.2)), (a_p0, .inr (0, [.int f_p0_relays, .ref a_p0_branches, .ref a_p0_closing, .ref a_p0_opening, .ref a_p0_pull, .ref a_p0_drop, .ref a_p0_changed, .int f_p0_inputs, .int f_p0_motion, .int f_p0_ticks, .int f_p0_changes])), (a_p0_branches, .inl (cI, 6, .inl f_p0_branches)), (a_p0_closing, .inl (cI, 24, .inl f_p0_closing)), (a_p0_drop, .inl (cI, 6, .inl f_p0_drop)), (a_p0_opening, .inl (cI, 24, .inl f_p0_opening)), (a_p0_pull, .inl (cI, 6, .inl f_p0_pull))] := hD
    have hR := Option.some.inj h
    subst hR
    exact W.vret hx hb hr (fun t ht hW => ⟨⟨(), rfl, trivial, zhp ht hP⟩, hS.F ht⟩) hS.2.2 dX2_goOn_44
def F_X2_countArrivals_E62  (v2 : Int32) (v3 : Nat → Int32) : Option ((Nat → Int32)) := some v3
def F_X2_countArrivals_E56 (rec10 : Int32 → (Nat → Int32) → Option ((Nat → Int32))) (v4 : Int32) (v7 : Int32) (v8 : Nat → Int32) : Option ((Nat → Int32)) := rec10 (v4 + (1 : Int32)) v8
def F_X2_countArrivals_L20 (f_outcome : Nat → Int32) (f_outcomes : Nat → Int32) (v4 : Int32) (k20 : Int32 → (Nat → Int32) → Option ((Nat → Int32))) (rec20 : Int32 → (Nat → Int32) → Option ((Nat → Int32))) (v9 : Int32) (v10 : Nat → Int32) : Option ((Nat → Int32)) := (zrd f_outcomes 300 v4).bind fun v11 => if v11 ≤ v9 then k20 v9 v10 else (zrd f_outcome 2100 ((v4 * (7 : Int32)) + v9)).bind fun v13 => (zrd v10 300 v13).bind fun v14 => (zwr v10 300 v13 (v14 + (1 : Int32))).bind fun v15 => rec20 (v9 + (1 : Int32)) v15
def F_X2_countArrivals_L10 (fu : Nat) (f_outcome : Nat → Int32) (f_outcomes : Nat → Int32) (f_states : Int32) (k10 : Int32 → (Nat → Int32) → Option ((Nat → Int32))) (rec10 : Int32 → (Nat → Int32) → Option ((Nat → Int32))) (v4 : Int32) (v5 : Nat → Int32) : Option ((Nat → Int32)) := if f_states ≤ v4 then k10 v4 v5 else zlp2 (F_X2_countArrivals_L20 f_outcome f_outcomes v4 (F_X2_countArrivals_E56 rec10 v4)) fu (0 : Int32) v5
def F_X2_countArrivals (fu : Nat) (f_states : Int32) (f_outcomes : Nat → Int32) (f_outcome : Nat → Int32) (f_arrivals : Nat → Int32) : Option ((Nat → Int32)) := (F_J7_fill_53178 fu f_arrivals 300 (0 : Int32)).bind fun v1 => zlp2 (F_X2_countArrivals_L10 fu f_outcome f_outcomes f_states (F_X2_countArrivals_E62)) fu (0 : Int32) v1
set_option maxHeartbeats 4000000 in
set_option maxRecDepth 100000 in
theorem c_X2_countArrivals (l : Launch) (D : va_G) (cI cC cO cJ : ClassId) (fu : Nat) (a_this a_met a_slots a_outcomes a_outcome a_arrivals a_freed a_called : Nat) (sz : Nat) (f_rests : Int64) (f_states : Int32) (f_told : Int32) (f_wheel : Int32) (f_outcomes : Nat → Int32) (f_outcome : Nat → Int32) (f_arrivals : Nat → Int32) (R : (Nat → Int32)) (h : F_X2_countArrivals fu f_states f_outcomes f_outcome f_arrivals = some R) : Met l yX2_countArrivals wsX2_countArrivals ({ frames := 1, cells := 0, slots := 0, locals := 23 } : Room) (zPw D (ztys cI cC cO cJ) [(a_this, .inr (2, [.ref a_met, .ref a_slots, .ref a_outcomes, .ref a_outcome, .ref a_arrivals, .ref a_freed, .ref a_called, .long f_rests, .int f_states, .int f_told, .int f_wheel])), (a_outcomes, .inl (cI, 300, .inl f_outcomes)), (a_outcome, .inl (cI, 2100, .inl f_outcome)), (a_arrivals, .inl (cI, 300, .inl f_arrivals))] sz [.ref a_this]) (zWv D [(a_this, .inr (2, [.ref a_met, .ref a_slots, .ref a_outcomes, .ref a_outcome, .ref a_arrivals, .ref a_freed, .ref a_called, .long f_rests, .int f_states, .int f_told, .int f_wheel])), (a_outcomes, .inl (cI, 300, .inl f_outcomes)), (a_outcome, .inl (cI, 2100, .inl f_outcome)), (a_arrivals, .inl (cI, 300, .inl R))] (va_A [(a_this, .inr (2, [.ref a_met, .ref a_slots, .ref a_outcomes, .ref a_outcome, .ref a_arrivals, .ref a_freed, .ref a_called, .long f_rests, .int f_states, .int f_told, .int f_wheel])), (a_outcomes, .inl (cI, 300, .inl f_outcomes)), (a_outcome, .inl (cI, 2100, .inl f_outcome)), (a_arrivals, .inl (cI, 300, .inl f_arrivals))] sz)) 0 0 (va_A [(a_this, .inr (2, [.ref a_met, .ref a_slots, .ref a_outcomes, .ref a_outcome, .ref a_arrivals, .ref a_freed, .ref a_called, .long f_rests, .int f_states, .int f_told, .int f_wheel])), (a_outcomes, .inl (cI, 300, .inl f_outcomes)), (a_outcome, .inl (cI, 2100, .inl f_outcome)), (a_arrivals, .inl (cI, 300, .inl f_arrivals))] sz) := by
  refine Met.ofW (cc := cX2_countArrivals) (maxL := 3) (ret := none) (by decide) rfl ?_
  intro p e s m args below meth c s₁ B hml hv
  obtain ⟨rfl, hsz, hP, hK, hD0⟩ := hv
  have hx := B.exec
  have hb := B.bytes
  have hr := B.returns
  have hts := atoms_spec (ws := wsX2_countArrivals) B.pre
  have hown : s.vm.findClass RX2 = some m.cls := findClass_of_methodNamed B.named
  have hlocks := B.notSynchronized
  have hinX2 : ∀ w ∈ wsX20, w ∈ wsX2_countArrivals := fun _ h => (List.mem_cons_of_mem _ (List.mem_append_right _ h))
  subst hsz
  have hD := hD0.self (sz := s.heap.size)
  generalize hAe : va_A [(a_this, .inr (2, [.ref a_met, .ref a_slots, .ref a_outcomes, .ref a_outcome, .ref a_arrivals, .ref a_freed, .ref a_called, .long f_rests, .int f_states, .int f_told, .int f_wheel])), (a_outcomes, .inl (cI, 300, .inl f_outcomes)), (a_outcome, .inl (cI, 2100, .inl f_outcome)), (a_arrivals, .inl (cI, 300, .inl f_arrivals))] s.heap.size = A at hD ⊢
  have hA : ∀ q : Nat, s.heap.size ≤ q → A q := fun q h => by rw [← hAe]; exact Or.inr h
  have hS : va_S A s.heap s.heap [] := va_S.rf
  have hP : va_P D vwCl [(a_this, .inr (2, [.ref a_met, .ref a_slots, .ref a_outcomes, .ref a_outcome, .ref a_arrivals, .ref a_freed, .ref a_called, .long f_rests, .int f_states, .int f_told, .int f_wheel])), (a_outcomes, .inl (cI, 300, .inl f_outcomes)), (a_outcome, .inl (cI, 2100, .inl f_outcome)), (a_arrivals, .inl (cI, 300, .inl f_arrivals))] s.heap := hP
  have hK : va_K D vwCl (ztys cI cC cO cJ) s := hK
  have hl := lv_entry ([.ref a_this]) (n := 3) (Nat.le_of_ble_eq_true rfl)
  rw [lg_entry_eq]
  generalize (lg_sl ([.ref a_this]) ++ List.replicate (3 - (lg_sl ([.ref a_this])).length) Slot.unset).toArray = ls at hl ⊢
  have hl : lv_has ls 3 [(0, .ref a_this)] := hl
  unfold F_X2_countArrivals at h
  refine lv_aload_n hx hb dX2_countArrivals_0 rfl (lv_at hl 0 rfl) ?_
  refine va_get (D := D) (ci := 2) (v := .ref a_arrivals) (C := RX2) (T := TX2) (N := 11) hx hb hts hinX2 hown hK hP 0 rfl rfl 4 (by decide) (hts (Cond.fieldLink RX2 24 "LadderRelays$Ways" "arrivals" "[I") (List.mem_of_getElem? (i := 1) rfl)) (fun _ h9 => h9) rfl dX2_countArrivals_1 ?_
  refine lv_iconst (v := (0 : Int32)) hx hb dX2_countArrivals_4 (by decide) ?_
  obtain ⟨v1, hv1, h⟩ := zbnd h
  have hPc := hP.sub (ws' := [(a_arrivals, .inl (cI, 300, .inl f_arrivals))]) [3] rfl
  have hDc := hD.sub (ws' := [(a_arrivals, .inl (cI, 300, .inl f_arrivals))]) [3] (by decide) rfl
  have hFc := va_free (wc := [(a_arrivals, .inl (cI, 300, .inl f_arrivals))]) hD hS hA [3] rfl
  refine zc_wv (va_runS (As := [.ref a_arrivals, .int (0 : Int32)]) (rest := []) ⟨hx, hb, hml, hown, hts⟩ (c_J7_fill_53178 l D cI cC cO cJ fu a_arrivals _ f_arrivals 300 (0 : Int32) v1 hv1) (va_cwS 2 hts gX2_countArrivals_J7_fill_53178 rfl rfl rfl (by decide +kernel) ⟨Nat.le_of_ble_eq_true rfl, Nat.le_of_ble_eq_true rfl⟩) (zPw_S hK hPc hDc) rfl rfl hl.1 rfl (lv_room (Nat.le_of_ble_eq_true rfl)) dX2_countArrivals_5 ⟨Nat.zero_le _, Nat.zero_le _⟩) hS hFc (fun H locs hk1 hP1 hS => ?_)
  obtain ⟨hP, hD⟩ := zjn (ws' := [(a_this, .inr (2, [.ref a_met, .ref a_slots, .ref a_outcomes, .ref a_outcome, .ref a_arrivals, .ref a_freed, .ref a_called, .long f_rests, .int f_states, .int f_told, .int f_wheel])), (a_outcomes, .inl (cI, 300, .inl f_outcomes)), (a_outcome, .inl (cI, 2100, .inl f_outcome)), (a_arrivals, .inl (cI, 300, .inl v1))]) hP hD [3] [.inl 0, .inl 1, .inl 2, .inr 0] rfl rfl rfl hk1 hP1
  refine lv_iconst (v := (0 : Int32)) hx hb dX2_countArrivals_8 (by decide) ?_
  refine lv_istore_n (lv' := [(1, .int (0 : Int32)), (0, .ref a_this)]) hx hb dX2_countArrivals_9 rfl hl (by decide) rfl (fun ls hl => ?_)
  have E62 : ∀ (v2 : Int32) (v3 : Nat → Int32), F_X2_countArrivals_E62 v2 v3 = some R → ∀ (H : Heap) (locs : List Loc), va_P D vwCl [(a_this, .inr (2, [.ref a_met, .ref a_slots, .ref a_outcomes, .ref a_outcome, .ref a_arrivals, .ref a_freed, .ref a_called, .long f_rests, .int f_states, .int f_told, .int f_wheel])), (a_outcomes, .inl (cI, 300, .inl f_outcomes)), (a_outcome, .inl (cI, 2100, .inl f_outcome)), (a_arrivals, .inl (cI, 300, .inl v3))] H → va_D A [(a_this, .inr (2, [.ref a_met, .ref a_slots, .ref a_outcomes, .ref a_outcome, .ref a_arrivals, .ref a_freed, .ref a_called, .long f_rests, .int f_states, .int f_told, .int f_wheel])), (a_outcomes, .inl (cI, 300, .inl f_outcomes)), (a_outcome, .inl (cI, 2100, .inl f_outcome)), (a_arrivals, .inl (cI, 300, .inl v3))] → va_S A s.heap H locs → ∀ ls : Array Slot, lv_has ls 3 [(0, .ref a_this), (1, .int v2)] → W p l e ({ frames := 1, cells := 0, slots := 0, locals := 23 } : Room) s m (([.ref a_this] : List Value).toArray) below meth c H locs 0 0 (MQ below (zWv D [(a_this, .inr (2, [.ref a_met, .ref a_slots, .ref a_outcomes, .ref a_outcome, .ref a_arrivals, .ref a_freed, .ref a_called, .long f_rests, .int f_states, .int f_told, .int f_wheel])), (a_outcomes, .inl (cI, 300, .inl f_outcomes)), (a_outcome, .inl (cI, 2100, .inl f_outcome)), (a_arrivals, .inl (cI, 300, .inl R))] A) (([.ref a_this] : List Value).toArray) s 0 0 A) (F0 m 62 ls []) := by
    intro v2 v3 h H locs hP hD hS ls hl
    unfold F_X2_countArrivals_E62 at h
    have hR := Option.some.inj h
    subst hR
    exact W.vret hx hb hr (fun t ht hW => ⟨⟨(), rfl, trivial, zhp ht hP⟩, hS.F ht⟩) hS.2.2 dX2_countArrivals_62
  refine zlp_i2 (R := R) (P := fun (v4 : Int32) (v5 : Nat → Int32) => ∀ (H : Heap) (locs : List Loc), va_P D vwCl [(a_this, .inr (2, [.ref a_met, .ref a_slots, .ref a_outcomes, .ref a_outcome, .ref a_arrivals, .ref a_freed, .ref a_called, .long f_rests, .int f_states, .int f_told, .int f_wheel])), (a_outcomes, .inl (cI, 300, .inl f_outcomes)), (a_outcome, .inl (cI, 2100, .inl f_outcome)), (a_arrivals, .inl (cI, 300, .inl v5))] H → va_D A [(a_this, .inr (2, [.ref a_met, .ref a_slots, .ref a_outcomes, .ref a_outcome, .ref a_arrivals, .ref a_freed, .ref a_called, .long f_rests, .int f_states, .int f_told, .int f_wheel])), (a_outcomes, .inl (cI, 300, .inl f_outcomes)), (a_outcome, .inl (cI, 2100, .inl f_outcome)), (a_arrivals, .inl (cI, 300, .inl v5))] → va_S A s.heap H locs → ∀ ls : Array Slot, lv_has ls 3 [(0, .ref a_this), (1, .int v4)] → W p l e ({ frames := 1, cells := 0, slots := 0, locals := 23 } : Room) s m (([.ref a_this] : List Value).toArray) below meth c H locs 0 0 (MQ below (zWv D [(a_this, .inr (2, [.ref a_met, .ref a_slots, .ref a_outcomes, .ref a_outcome, .ref a_arrivals, .ref a_freed, .ref a_called, .long f_rests, .int f_states, .int f_told, .int f_wheel])), (a_outcomes, .inl (cI, 300, .inl f_outcomes)), (a_outcome, .inl (cI, 2100, .inl f_outcome)), (a_arrivals, .inl (cI, 300, .inl R))] A) (([.ref a_this] : List Value).toArray) s 0 0 A) (F0 m 10 ls [])) (fun rec10 ih10 v4 v5 h => ?_) fu (0 : Int32) v1 h _ _ hP hD hS ls (lv_sub hl [1, 0] rfl)
  intro H locs hP hD hS ls hl
  unfold F_X2_countArrivals_L10 at h
  refine lv_iload_n hx hb dX2_countArrivals_10 rfl (lv_at hl 1 rfl) ?_
  refine lv_aload_n hx hb dX2_countArrivals_11 rfl (lv_at hl 0 rfl) ?_
  refine va_get (D := D) (ci := 2) (v := .int f_states) (C := RX2) (T := TX2) (N := 11) hx hb hts hinX2 hown hK hP 0 rfl rfl 8 (by decide) (hts (Cond.fieldLink RX2 43 "LadderRelays$Ways" "states" "I") (List.mem_of_getElem? (i := 2) rfl)) (fun _ h9 => h9) rfl dX2_countArrivals_12 ?_
  refine lv_icmp_ge (tgt := 62) hx hb dX2_countArrivals_15 (by decide) (fun c6 => ?_) (fun c6 => ?_)
  · have h := zif_t c6 h
    exact E62 v4 v5 h _ _ hP hD hS ls (lv_sub hl [0, 1] rfl)
  · have h := zif_f c6 h
    refine lv_iconst (v := (0 : Int32)) hx hb dX2_countArrivals_18 (by decide) ?_
    refine lv_istore_n (lv' := [(2, .int (0 : Int32)), (0, .ref a_this), (1, .int v4)]) hx hb dX2_countArrivals_19 rfl hl (by decide) rfl (fun ls hl => ?_)
    have E56 : ∀ (v7 : Int32) (v8 : Nat → Int32), F_X2_countArrivals_E56 rec10 v4 v7 v8 = some R → ∀ (H : Heap) (locs : List Loc), va_P D vwCl [(a_this, .inr (2, [.ref a_met, .ref a_slots, .ref a_outcomes, .ref a_outcome, .ref a_arrivals, .ref a_freed, .ref a_called, .long f_rests, .int f_states, .int f_told, .int f_wheel])), (a_outcomes, .inl (cI, 300, .inl f_outcomes)), (a_outcome, .inl (cI, 2100, .inl f_outcome)), (a_arrivals, .inl (cI, 300, .inl v8))] H → va_D A [(a_this, .inr (2, [.ref a_met, .ref a_slots, .ref a_outcomes, .ref a_outcome, .ref a_arrivals, .ref a_freed, .ref a_called, .long f_rests, .int f_states, .int f_told, .int f_wheel])), (a_outcomes, .inl (cI, 300, .inl f_outcomes)), (a_outcome, .inl (cI, 2100, .inl f_outcome)), (a_arrivals, .inl (cI, 300, .inl v8))] → va_S A s.heap H locs → ∀ ls : Array Slot, lv_has ls 3 [(0, .ref a_this), (1, .int v4), (2, .int v7)] → W p l e ({ frames := 1, cells := 0, slots := 0, locals := 23 } : Room) s m (([.ref a_this] : List Value).toArray) below meth c H locs 0 0 (MQ below (zWv D [(a_this, .inr (2, [.ref a_met, .ref a_slots, .ref a_outcomes, .ref a_outcome, .ref a_arrivals, .ref a_freed, .ref a_called, .long f_rests, .int f_states, .int f_told, .int f_wheel])), (a_outcomes, .inl (cI, 300, .inl f_outcomes)), (a_outcome, .inl (cI, 2100, .inl f_outcome)), (a_arrivals, .inl (cI, 300, .inl R))] A) (([.ref a_this] : List Value).toArray) s 0 0 A) (F0 m 56 ls []) := by
      intro v7 v8 h H locs hP hD hS ls hl
      unfold F_X2_countArrivals_E56 at h
      refine lv_iinc (v := (v4 + (1 : Int32))) (lv' := [(1, .int (v4 + (1 : Int32))), (0, .ref a_this), (2, .int v7)]) hx hb dX2_countArrivals_56 hl (k := 1) rfl rfl (by decide) rfl (fun ls hl => ?_)
      refine lv_goto (tgt := 10) hx hb dX2_countArrivals_59 (by decide) ?_
      exact ih10 (v4 + (1 : Int32)) v8 h _ _ hP hD hS ls (lv_sub hl [1, 0] rfl)
    refine zlp_i2 (R := R) (P := fun (v9 : Int32) (v10 : Nat → Int32) => ∀ (H : Heap) (locs : List Loc), va_P D vwCl [(a_this, .inr (2, [.ref a_met, .ref a_slots, .ref a_outcomes, .ref a_outcome, .ref a_arrivals, .ref a_freed, .ref a_called, .long f_rests, .int f_states, .int f_told, .int f_wheel])), (a_outcomes, .inl (cI, 300, .inl f_outcomes)), (a_outcome, .inl (cI, 2100, .inl f_outcome)), (a_arrivals, .inl (cI, 300, .inl v10))] H → va_D A [(a_this, .inr (2, [.ref a_met, .ref a_slots, .ref a_outcomes, .ref a_outcome, .ref a_arrivals, .ref a_freed, .ref a_called, .long f_rests, .int f_states, .int f_told, .int f_wheel])), (a_outcomes, .inl (cI, 300, .inl f_outcomes)), (a_outcome, .inl (cI, 2100, .inl f_outcome)), (a_arrivals, .inl (cI, 300, .inl v10))] → va_S A s.heap H locs → ∀ ls : Array Slot, lv_has ls 3 [(0, .ref a_this), (1, .int v4), (2, .int v9)] → W p l e ({ frames := 1, cells := 0, slots := 0, locals := 23 } : Room) s m (([.ref a_this] : List Value).toArray) below meth c H locs 0 0 (MQ below (zWv D [(a_this, .inr (2, [.ref a_met, .ref a_slots, .ref a_outcomes, .ref a_outcome, .ref a_arrivals, .ref a_freed, .ref a_called, .long f_rests, .int f_states, .int f_told, .int f_wheel])), (a_outcomes, .inl (cI, 300, .inl f_outcomes)), (a_outcome, .inl (cI, 2100, .inl f_outcome)), (a_arrivals, .inl (cI, 300, .inl R))] A) (([.ref a_this] : List Value).toArray) s 0 0 A) (F0 m 20 ls [])) (fun rec20 ih20 v9 v10 h => ?_) fu (0 : Int32) v5 h _ _ hP hD hS ls (lv_sub hl [1, 2, 0] rfl)
    intro H locs hP hD hS ls hl
    unfold F_X2_countArrivals_L20 at h
    refine lv_iload_n hx hb dX2_countArrivals_20 rfl (lv_at hl 2 rfl) ?_
    refine lv_aload_n hx hb dX2_countArrivals_21 rfl (lv_at hl 0 rfl) ?_
    refine va_get (D := D) (ci := 2) (v := .ref a_outcomes) (C := RX2) (T := TX2) (N := 11) hx hb hts hinX2 hown hK hP 0 rfl rfl 2 (by decide) (hts (Cond.fieldLink RX2 18 "LadderRelays$Ways" "outcomes" "[I") (List.mem_of_getElem? (i := 3) rfl)) (fun _ h9 => h9) rfl dX2_countArrivals_22 ?_
    refine lv_iload_n hx hb dX2_countArrivals_25 rfl (lv_at hl 1 rfl) ?_
    obtain ⟨v11, hv11, h⟩ := zbnd h
    refine zr_iald hx hb hK hP 1 0 rfl rfl hv11 dX2_countArrivals_26 ?_
    refine lv_icmp_ge (tgt := 56) hx hb dX2_countArrivals_27 (by decide) (fun c12 => ?_) (fun c12 => ?_)
    · have h := zif_t c12 h
      exact E56 v9 v10 h _ _ hP hD hS ls (lv_sub hl [0, 1, 2] rfl)
    · have h := zif_f c12 h
      refine lv_aload_n hx hb dX2_countArrivals_30 rfl (lv_at hl 0 rfl) ?_
      refine va_get (D := D) (ci := 2) (v := .ref a_arrivals) (C := RX2) (T := TX2) (N := 11) hx hb hts hinX2 hown hK hP 0 rfl rfl 4 (by decide) (hts (Cond.fieldLink RX2 24 "LadderRelays$Ways" "arrivals" "[I") (List.mem_of_getElem? (i := 1) rfl)) (fun _ h9 => h9) rfl dX2_countArrivals_31 ?_
      refine lv_aload_n hx hb dX2_countArrivals_34 rfl (lv_at hl 0 rfl) ?_
      refine va_get (D := D) (ci := 2) (v := .ref a_outcome) (C := RX2) (T := TX2) (N := 11) hx hb hts hinX2 hown hK hP 0 rfl rfl 3 (by decide) (hts (Cond.fieldLink RX2 21 "LadderRelays$Ways" "outcome" "[I") (List.mem_of_getElem? (i := 4) rfl)) (fun _ h9 => h9) rfl dX2_countArrivals_35 ?_
      refine lv_iload_n hx hb dX2_countArrivals_38 rfl (lv_at hl 1 rfl) ?_
      refine lv_bipush (v := (7 : Int32)) hx hb dX2_countArrivals_39 (by decide) ?_
      refine lv_imul hx hb dX2_countArrivals_41 ?_
      refine lv_iload_n hx hb dX2_countArrivals_42 rfl (lv_at hl 2 rfl) ?_
      refine lv_iadd hx hb dX2_countArrivals_43 ?_
      obtain ⟨v13, hv13, h⟩ := zbnd h
      refine zr_iald hx hb hK hP 2 0 rfl rfl hv13 dX2_countArrivals_44 ?_
      refine lv_dup2_11 hx hb dX2_countArrivals_45 rfl rfl ?_
      obtain ⟨v14, hv14, h⟩ := zbnd h
      refine zr_iald hx hb hK hP 3 0 rfl rfl hv14 dX2_countArrivals_46 ?_
      refine lv_iconst (v := (1 : Int32)) hx hb dX2_countArrivals_47 (by decide) ?_
      refine lv_iadd hx hb dX2_countArrivals_48 ?_
      obtain ⟨v15, hv15, h⟩ := zbnd h
      refine zr_iast hx hb hK hP hD hS 3 0 rfl rfl hv15 dX2_countArrivals_49 (fun H locs hP hD hS => ?_)
      have hP : va_P D vwCl [(a_this, .inr (2, [.ref a_met, .ref a_slots, .ref a_outcomes, .ref a_outcome, .ref a_arrivals, .ref a_freed, .ref a_called, .long f_rests, .int f_states, .int f_told, .int f_wheel])), (a_outcomes, .inl (cI, 300, .inl f_outcomes)), (a_outcome, .inl (cI, 2100, .inl f_outcome)), (a_arrivals, .inl (cI, 300, .inl v15))] H := hP
      have hD : va_D A [(a_this, .inr (2, [.ref a_met, .ref a_slots, .ref a_outcomes, .ref a_outcome, .ref a_arrivals, .ref a_freed, .ref a_called, .long f_rests, .int f_states, .int f_told, .int f_wheel])), (a_outcomes, .inl (cI, 300, .inl f_outcomes)), (a_outcome, .inl (cI, 2100, .inl f_outcome)), (a_arrivals, .inl (cI, 300, .inl v15))] := hD
      refine lv_iinc (v := (v9 + (1 : Int32))) (lv' := [(2, .int (v9 + (1 : Int32))), (0, .ref a_this), (1, .int v4)]) hx hb dX2_countArrivals_50 hl (k := 2) rfl rfl (by decide) rfl (fun ls hl => ?_)
      refine lv_goto (tgt := 20) hx hb dX2_countArrivals_53 (by decide) ?_
      exact ih20 (v9 + (1 : Int32)) v15 h _ _ hP hD hS ls (lv_sub hl [1, 2, 0] rfl)
def F_X2_hasWheel_E142 (f_states : Int32) (v5 : Int32) (v6 : Int32) (v7 : Nat → Int32) (v8 : Nat → Int32) : Option (Int32 × (Nat → Int32) × (Nat → Int32)) := if f_states ≤ v5 then some ((0 : Int32), v7, v8) else some ((1 : Int32), v7, v8)
def F_X2_hasWheel_E136 (rec43 : Int32 → Int32 → (Nat → Int32) → (Nat → Int32) → Option (Int32 × (Nat → Int32) × (Nat → Int32))) (v11 : Int32) (v17 : Int32) (v18 : Int32) (v19 : Nat → Int32) (v20 : Nat → Int32) : Option (Int32 × (Nat → Int32) × (Nat → Int32)) := rec43 v17 (v11 + (1 : Int32)) v19 v20
def F_X2_hasWheel_L66 (f_outcome : Nat → Int32) (f_outcomes : Nat → Int32) (v16 : Int32) (k66 : Int32 → Int32 → (Nat → Int32) → (Nat → Int32) → Option (Int32 × (Nat → Int32) × (Nat → Int32))) (rec66 : Int32 → Int32 → (Nat → Int32) → (Nat → Int32) → Option (Int32 × (Nat → Int32) × (Nat → Int32))) (v21 : Int32) (v22 : Int32) (v23 : Nat → Int32) (v24 : Nat → Int32) : Option (Int32 × (Nat → Int32) × (Nat → Int32)) := (zrd f_outcomes 300 v16).bind fun v25 => if v25 ≤ v22 then k66 v21 v22 v23 v24 else (zrd f_outcome 2100 ((v16 * (7 : Int32)) + v22)).bind fun v27 => (zrd v23 300 v27).bind fun v28 => (zwr v23 300 v27 (v28 - (1 : Int32))).bind fun v29 => (zrd v29 300 v27).bind fun v30 => if v30 = (0 : Int32) then if (300 : Int32) ≤ v21 then rec66 v21 (v22 + (1 : Int32)) v29 v24 else (zwr v24 300 v21 v27).bind fun v33 => rec66 (v21 + (1 : Int32)) (v22 + (1 : Int32)) v29 v33 else rec66 v21 (v22 + (1 : Int32)) v29 v24
def F_X2_hasWheel_L43 (fu : Nat) (f_outcome : Nat → Int32) (f_outcomes : Nat → Int32) (f_states : Int32) (k43 : Int32 → Int32 → (Nat → Int32) → (Nat → Int32) → Option (Int32 × (Nat → Int32) × (Nat → Int32))) (rec43 : Int32 → Int32 → (Nat → Int32) → (Nat → Int32) → Option (Int32 × (Nat → Int32) × (Nat → Int32))) (v10 : Int32) (v11 : Int32) (v12 : Nat → Int32) (v13 : Nat → Int32) : Option (Int32 × (Nat → Int32) × (Nat → Int32)) := if v10 ≤ v11 then k43 v10 v11 v12 v13 else if f_states ≤ v11 then k43 v10 v11 v12 v13 else (zrd v13 300 v11).bind fun v16 => zlp4 (F_X2_hasWheel_L66 f_outcome f_outcomes v16 (F_X2_hasWheel_E136 rec43 v11)) fu v10 (0 : Int32) v12 v13
def F_X2_hasWheel_E41 (fu : Nat) (f_outcome : Nat → Int32) (f_outcomes : Nat → Int32) (f_states : Int32) (v1 : (Nat → Int32)) (v2 : Int32) (v3 : Int32) (v4 : Nat → Int32) : Option (Int32 × (Nat → Int32) × (Nat → Int32)) := zlp4 (F_X2_hasWheel_L43 fu f_outcome f_outcomes f_states (F_X2_hasWheel_E142 f_states)) fu v2 (0 : Int32) v1 v4
def F_X2_hasWheel_L8 (f_states : Int32) (v1 : (Nat → Int32)) (k8 : Int32 → Int32 → (Nat → Int32) → Option (Int32 × (Nat → Int32) × (Nat → Int32))) (rec8 : Int32 → Int32 → (Nat → Int32) → Option (Int32 × (Nat → Int32) × (Nat → Int32))) (v34 : Int32) (v35 : Int32) (v36 : Nat → Int32) : Option (Int32 × (Nat → Int32) × (Nat → Int32)) := if f_states ≤ v35 then k8 v34 v35 v36 else (zrd v1 300 v35).bind fun v38 => if v38 = (0 : Int32) then (zwr v36 300 v34 v35).bind fun v40 => rec8 (v34 + (1 : Int32)) (v35 + (1 : Int32)) v40 else rec8 v34 (v35 + (1 : Int32)) v36
def F_X2_hasWheel (fu : Nat) (f_states : Int32) (f_outcomes : Nat → Int32) (f_outcome : Nat → Int32) (f_arrivals : Nat → Int32) (f_freed : Nat → Int32) : Option (Int32 × (Nat → Int32) × (Nat → Int32)) := (F_X2_countArrivals fu f_states f_outcomes f_outcome f_arrivals).bind fun v1 => zlp3 (F_X2_hasWheel_L8 f_states v1 (F_X2_hasWheel_E41 fu f_outcome f_outcomes f_states v1)) fu (0 : Int32) (0 : Int32) f_freed
set_option maxHeartbeats 4000000 in
set_option maxRecDepth 100000 in
theorem c_X2_hasWheel (l : Launch) (D : va_G) (cI cC cO cJ : ClassId) (fu : Nat) (a_this a_met a_slots a_outcomes a_outcome a_arrivals a_freed a_called : Nat) (sz : Nat) (f_rests : Int64) (f_states : Int32) (f_told : Int32) (f_wheel : Int32) (f_outcomes : Nat → Int32) (f_outcome : Nat → Int32) (f_arrivals : Nat → Int32) (f_freed : Nat → Int32) (R : Int32 × (Nat → Int32) × (Nat → Int32)) (h : F_X2_hasWheel fu f_states f_outcomes f_outcome f_arrivals f_freed = some R) : Met l yX2_hasWheel wsX2_hasWheel ({ frames := 2, cells := 0, slots := 0, locals := 45 } : Room) (zPw D (ztys cI cC cO cJ) [(a_this, .inr (2, [.ref a_met, .ref a_slots, .ref a_outcomes, .ref a_outcome, .ref a_arrivals, .ref a_freed, .ref a_called, .long f_rests, .int f_states, .int f_told, .int f_wheel])), (a_outcomes, .inl (cI, 300, .inl f_outcomes)), (a_outcome, .inl (cI, 2100, .inl f_outcome)), (a_arrivals, .inl (cI, 300, .inl f_arrivals)), (a_freed, .inl (cI, 300, .inl f_freed))] sz [.ref a_this]) (zWi D R.1 [(a_this, .inr (2, [.ref a_met, .ref a_slots, .ref a_outcomes, .ref a_outcome, .ref a_arrivals, .ref a_freed, .ref a_called, .long f_rests, .int f_states, .int f_told, .int f_wheel])), (a_outcomes, .inl (cI, 300, .inl f_outcomes)), (a_outcome, .inl (cI, 2100, .inl f_outcome)), (a_arrivals, .inl (cI, 300, .inl R.2.1)), (a_freed, .inl (cI, 300, .inl R.2.2))] (va_A [(a_this, .inr (2, [.ref a_met, .ref a_slots, .ref a_outcomes, .ref a_outcome, .ref a_arrivals, .ref a_freed, .ref a_called, .long f_rests, .int f_states, .int f_told, .int f_wheel])), (a_outcomes, .inl (cI, 300, .inl f_outcomes)), (a_outcome, .inl (cI, 2100, .inl f_outcome)), (a_arrivals, .inl (cI, 300, .inl f_arrivals)), (a_freed, .inl (cI, 300, .inl f_freed))] sz)) 0 0 (va_A [(a_this, .inr (2, [.ref a_met, .ref a_slots, .ref a_outcomes, .ref a_outcome, .ref a_arrivals, .ref a_freed, .ref a_called, .long f_rests, .int f_states, .int f_told, .int f_wheel])), (a_outcomes, .inl (cI, 300, .inl f_outcomes)), (a_outcome, .inl (cI, 2100, .inl f_outcome)), (a_arrivals, .inl (cI, 300, .inl f_arrivals)), (a_freed, .inl (cI, 300, .inl f_freed))] sz) := by
  refine Met.ofW (cc := cX2_hasWheel) (maxL := 6) (ret := (some .boolean)) (by decide) rfl ?_
  intro p e s m args below meth c s₁ B hml hv
  obtain ⟨rfl, hsz, hP, hK, hD0⟩ := hv
  have hx := B.exec
  have hb := B.bytes
  have hr := B.returns
  have hts := atoms_spec (ws := wsX2_hasWheel) B.pre
  have hown : s.vm.findClass RX2 = some m.cls := findClass_of_methodNamed B.named
  have hlocks := B.notSynchronized
  have hinX2 : ∀ w ∈ wsX20, w ∈ wsX2_hasWheel := fun _ h => (List.mem_cons_of_mem _ (List.mem_append_right _ h))
  subst hsz
  have hD := hD0.self (sz := s.heap.size)
  generalize hAe : va_A [(a_this, .inr (2, [.ref a_met, .ref a_slots, .ref a_outcomes, .ref a_outcome, .ref a_arrivals, .ref a_freed, .ref a_called, .long f_rests, .int f_states, .int f_told, .int f_wheel])), (a_outcomes, .inl (cI, 300, .inl f_outcomes)), (a_outcome, .inl (cI, 2100, .inl f_outcome)), (a_arrivals, .inl (cI, 300, .inl f_arrivals)), (a_freed, .inl (cI, 300, .inl f_freed))] s.heap.size = A at hD ⊢
  have hA : ∀ q : Nat, s.heap.size ≤ q → A q := fun q h => by rw [← hAe]; exact Or.inr h
  have hS : va_S A s.heap s.heap [] := va_S.rf
  have hP : va_P D vwCl [(a_this, .inr (2, [.ref a_met, .ref a_slots, .ref a_outcomes, .ref a_outcome, .ref a_arrivals, .ref a_freed, .ref a_called, .long f_rests, .int f_states, .int f_told, .int f_wheel])), (a_outcomes, .inl (cI, 300, .inl f_outcomes)), (a_outcome, .inl (cI, 2100, .inl f_outcome)), (a_arrivals, .inl (cI, 300, .inl f_arrivals)), (a_freed, .inl (cI, 300, .inl f_freed))] s.heap := hP
  have hK : va_K D vwCl (ztys cI cC cO cJ) s := hK
  have hl := lv_entry ([.ref a_this]) (n := 6) (Nat.le_of_ble_eq_true rfl)
  rw [lg_entry_eq]
  generalize (lg_sl ([.ref a_this]) ++ List.replicate (6 - (lg_sl ([.ref a_this])).length) Slot.unset).toArray = ls at hl ⊢
  have hl : lv_has ls 6 [(0, .ref a_this)] := hl
  unfold F_X2_hasWheel at h
  refine lv_aload_n hx hb dX2_hasWheel_0 rfl (lv_at hl 0 rfl) ?_
  obtain ⟨v1, hv1, h⟩ := zbnd h
  have hPc := hP.sub (ws' := [(a_this, .inr (2, [.ref a_met, .ref a_slots, .ref a_outcomes, .ref a_outcome, .ref a_arrivals, .ref a_freed, .ref a_called, .long f_rests, .int f_states, .int f_told, .int f_wheel])), (a_outcomes, .inl (cI, 300, .inl f_outcomes)), (a_outcome, .inl (cI, 2100, .inl f_outcome)), (a_arrivals, .inl (cI, 300, .inl f_arrivals))]) [0, 1, 2, 3] rfl
  have hDc := hD.sub (ws' := [(a_this, .inr (2, [.ref a_met, .ref a_slots, .ref a_outcomes, .ref a_outcome, .ref a_arrivals, .ref a_freed, .ref a_called, .long f_rests, .int f_states, .int f_told, .int f_wheel])), (a_outcomes, .inl (cI, 300, .inl f_outcomes)), (a_outcome, .inl (cI, 2100, .inl f_outcome)), (a_arrivals, .inl (cI, 300, .inl f_arrivals))]) [0, 1, 2, 3] (by decide) rfl
  have hFc := va_free (wc := [(a_this, .inr (2, [.ref a_met, .ref a_slots, .ref a_outcomes, .ref a_outcome, .ref a_arrivals, .ref a_freed, .ref a_called, .long f_rests, .int f_states, .int f_told, .int f_wheel])), (a_outcomes, .inl (cI, 300, .inl f_outcomes)), (a_outcome, .inl (cI, 2100, .inl f_outcome)), (a_arrivals, .inl (cI, 300, .inl f_arrivals))]) hD hS hA [0, 1, 2, 3] rfl
  refine zc_wv (va_runV (C := RX2) (As := []) (rest := []) ⟨hx, hb, hml, hown, hts⟩ (c_X2_countArrivals l D cI cC cO cJ fu a_this a_met a_slots a_outcomes a_outcome a_arrivals a_freed a_called _ f_rests f_states f_told f_wheel f_outcomes f_outcome f_arrivals v1 hv1) (cwV 0 hts gX2_hasWheel_X2_countArrivals rfl rfl rfl (by decide +kernel) ⟨Nat.le_of_ble_eq_true rfl, Nat.le_of_ble_eq_true rfl⟩) ⟨zPw_blind, (va_recv hK hP (q0 := 0) (ci := 2) rfl rfl), zPw_pre hK hPc hDc⟩ rfl rfl hl.1 rfl (lv_room (Nat.le_of_ble_eq_true rfl)) dX2_hasWheel_1 ⟨Nat.zero_le _, Nat.zero_le _⟩) hS hFc (fun H locs hk1 hP1 hS => ?_)
  obtain ⟨hP, hD⟩ := zjn (ws' := [(a_this, .inr (2, [.ref a_met, .ref a_slots, .ref a_outcomes, .ref a_outcome, .ref a_arrivals, .ref a_freed, .ref a_called, .long f_rests, .int f_states, .int f_told, .int f_wheel])), (a_outcomes, .inl (cI, 300, .inl f_outcomes)), (a_outcome, .inl (cI, 2100, .inl f_outcome)), (a_arrivals, .inl (cI, 300, .inl v1)), (a_freed, .inl (cI, 300, .inl f_freed))]) hP hD [0, 1, 2, 3] [.inr 0, .inr 1, .inr 2, .inr 3, .inl 4] rfl rfl rfl hk1 hP1
  refine lv_iconst (v := (0 : Int32)) hx hb dX2_hasWheel_4 (by decide) ?_
  refine lv_istore_n (lv' := [(1, .int (0 : Int32)), (0, .ref a_this)]) hx hb dX2_hasWheel_5 rfl hl (by decide) rfl (fun ls hl => ?_)
  refine lv_iconst (v := (0 : Int32)) hx hb dX2_hasWheel_6 (by decide) ?_
  refine lv_istore_n (lv' := [(2, .int (0 : Int32)), (1, .int (0 : Int32)), (0, .ref a_this)]) hx hb dX2_hasWheel_7 rfl hl (by decide) rfl (fun ls hl => ?_)
  have E41 : ∀ (v2 : Int32) (v3 : Int32) (v4 : Nat → Int32), F_X2_hasWheel_E41 fu f_outcome f_outcomes f_states v1 v2 v3 v4 = some R → ∀ (H : Heap) (locs : List Loc), va_P D vwCl [(a_this, .inr (2, [.ref a_met, .ref a_slots, .ref a_outcomes, .ref a_outcome, .ref a_arrivals, .ref a_freed, .ref a_called, .long f_rests, .int f_states, .int f_told, .int f_wheel])), (a_outcomes, .inl (cI, 300, .inl f_outcomes)), (a_outcome, .inl (cI, 2100, .inl f_outcome)), (a_arrivals, .inl (cI, 300, .inl v1)), (a_freed, .inl (cI, 300, .inl v4))] H → va_D A [(a_this, .inr (2, [.ref a_met, .ref a_slots, .ref a_outcomes, .ref a_outcome, .ref a_arrivals, .ref a_freed, .ref a_called, .long f_rests, .int f_states, .int f_told, .int f_wheel])), (a_outcomes, .inl (cI, 300, .inl f_outcomes)), (a_outcome, .inl (cI, 2100, .inl f_outcome)), (a_arrivals, .inl (cI, 300, .inl v1)), (a_freed, .inl (cI, 300, .inl v4))] → va_S A s.heap H locs → ∀ ls : Array Slot, lv_has ls 6 [(0, .ref a_this), (1, .int v2), (2, .int v3)] → W p l e ({ frames := 2, cells := 0, slots := 0, locals := 45 } : Room) s m (([.ref a_this] : List Value).toArray) below meth c H locs 0 0 (MQ below (zWi D R.1 [(a_this, .inr (2, [.ref a_met, .ref a_slots, .ref a_outcomes, .ref a_outcome, .ref a_arrivals, .ref a_freed, .ref a_called, .long f_rests, .int f_states, .int f_told, .int f_wheel])), (a_outcomes, .inl (cI, 300, .inl f_outcomes)), (a_outcome, .inl (cI, 2100, .inl f_outcome)), (a_arrivals, .inl (cI, 300, .inl R.2.1)), (a_freed, .inl (cI, 300, .inl R.2.2))] A) (([.ref a_this] : List Value).toArray) s 0 0 A) (F0 m 41 ls []) := by
    intro v2 v3 v4 h H locs hP hD hS ls hl
    unfold F_X2_hasWheel_E41 at h
    refine lv_iconst (v := (0 : Int32)) hx hb dX2_hasWheel_41 (by decide) ?_
    refine lv_istore_n (lv' := [(2, .int (0 : Int32)), (0, .ref a_this), (1, .int v2)]) hx hb dX2_hasWheel_42 rfl hl (by decide) rfl (fun ls hl => ?_)
    have E142 : ∀ (v5 : Int32) (v6 : Int32) (v7 : Nat → Int32) (v8 : Nat → Int32), F_X2_hasWheel_E142 f_states v5 v6 v7 v8 = some R → ∀ (H : Heap) (locs : List Loc), va_P D vwCl [(a_this, .inr (2, [.ref a_met, .ref a_slots, .ref a_outcomes, .ref a_outcome, .ref a_arrivals, .ref a_freed, .ref a_called, .long f_rests, .int f_states, .int f_told, .int f_wheel])), (a_outcomes, .inl (cI, 300, .inl f_outcomes)), (a_outcome, .inl (cI, 2100, .inl f_outcome)), (a_arrivals, .inl (cI, 300, .inl v7)), (a_freed, .inl (cI, 300, .inl v8))] H → va_D A [(a_this, .inr (2, [.ref a_met, .ref a_slots, .ref a_outcomes, .ref a_outcome, .ref a_arrivals, .ref a_freed, .ref a_called, .long f_rests, .int f_states, .int f_told, .int f_wheel])), (a_outcomes, .inl (cI, 300, .inl f_outcomes)), (a_outcome, .inl (cI, 2100, .inl f_outcome)), (a_arrivals, .inl (cI, 300, .inl v7)), (a_freed, .inl (cI, 300, .inl v8))] → va_S A s.heap H locs → ∀ ls : Array Slot, lv_has ls 6 [(0, .ref a_this), (1, .int v5), (2, .int v6)] → W p l e ({ frames := 2, cells := 0, slots := 0, locals := 45 } : Room) s m (([.ref a_this] : List Value).toArray) below meth c H locs 0 0 (MQ below (zWi D R.1 [(a_this, .inr (2, [.ref a_met, .ref a_slots, .ref a_outcomes, .ref a_outcome, .ref a_arrivals, .ref a_freed, .ref a_called, .long f_rests, .int f_states, .int f_told, .int f_wheel])), (a_outcomes, .inl (cI, 300, .inl f_outcomes)), (a_outcome, .inl (cI, 2100, .inl f_outcome)), (a_arrivals, .inl (cI, 300, .inl R.2.1)), (a_freed, .inl (cI, 300, .inl R.2.2))] A) (([.ref a_this] : List Value).toArray) s 0 0 A) (F0 m 142 ls []) := by
      intro v5 v6 v7 v8 h H locs hP hD hS ls hl
      unfold F_X2_hasWheel_E142 at h
      refine lv_iload_n hx hb dX2_hasWheel_142 rfl (lv_at hl 1 rfl) ?_
      refine lv_aload_n hx hb dX2_hasWheel_143 rfl (lv_at hl 0 rfl) ?_
      refine va_get (D := D) (ci := 2) (v := .int f_states) (C := RX2) (T := TX2) (N := 11) hx hb hts hinX2 hown hK hP 0 rfl rfl 8 (by decide) (hts (Cond.fieldLink RX2 43 "LadderRelays$Ways" "states" "I") (List.mem_of_getElem? (i := 1) rfl)) (fun _ h9 => h9) rfl dX2_hasWheel_144 ?_
      refine lv_icmp_ge (tgt := 154) hx hb dX2_hasWheel_147 (by decide) (fun c9 => ?_) (fun c9 => ?_)
      · have h := zif_t c9 h
        refine lv_iconst (v := (0 : Int32)) hx hb dX2_hasWheel_154 (by decide) ?_
        have hR := Option.some.inj h
        subst hR
        exact W.zret (v := (0 : Int32)) (ty := .boolean) hx hb hr rfl (fun t ht hW => ⟨⟨_, (), rfl, rfl, zhp ht hP⟩, hS.F ht⟩) hS.2.2 dX2_hasWheel_155
      · have h := zif_f c9 h
        refine lv_iconst (v := (1 : Int32)) hx hb dX2_hasWheel_150 (by decide) ?_
        refine lv_goto (tgt := 155) hx hb dX2_hasWheel_151 (by decide) ?_
        have hR := Option.some.inj h
        subst hR
        exact W.zret (v := (1 : Int32)) (ty := .boolean) hx hb hr rfl (fun t ht hW => ⟨⟨_, (), rfl, rfl, zhp ht hP⟩, hS.F ht⟩) hS.2.2 dX2_hasWheel_155
    refine zlp_i4 (R := R) (P := fun (v10 : Int32) (v11 : Int32) (v12 : Nat → Int32) (v13 : Nat → Int32) => ∀ (H : Heap) (locs : List Loc), va_P D vwCl [(a_this, .inr (2, [.ref a_met, .ref a_slots, .ref a_outcomes, .ref a_outcome, .ref a_arrivals, .ref a_freed, .ref a_called, .long f_rests, .int f_states, .int f_told, .int f_wheel])), (a_outcomes, .inl (cI, 300, .inl f_outcomes)), (a_outcome, .inl (cI, 2100, .inl f_outcome)), (a_arrivals, .inl (cI, 300, .inl v12)), (a_freed, .inl (cI, 300, .inl v13))] H → va_D A [(a_this, .inr (2, [.ref a_met, .ref a_slots, .ref a_outcomes, .ref a_outcome, .ref a_arrivals, .ref a_freed, .ref a_called, .long f_rests, .int f_states, .int f_told, .int f_wheel])), (a_outcomes, .inl (cI, 300, .inl f_outcomes)), (a_outcome, .inl (cI, 2100, .inl f_outcome)), (a_arrivals, .inl (cI, 300, .inl v12)), (a_freed, .inl (cI, 300, .inl v13))] → va_S A s.heap H locs → ∀ ls : Array Slot, lv_has ls 6 [(0, .ref a_this), (1, .int v10), (2, .int v11)] → W p l e ({ frames := 2, cells := 0, slots := 0, locals := 45 } : Room) s m (([.ref a_this] : List Value).toArray) below meth c H locs 0 0 (MQ below (zWi D R.1 [(a_this, .inr (2, [.ref a_met, .ref a_slots, .ref a_outcomes, .ref a_outcome, .ref a_arrivals, .ref a_freed, .ref a_called, .long f_rests, .int f_states, .int f_told, .int f_wheel])), (a_outcomes, .inl (cI, 300, .inl f_outcomes)), (a_outcome, .inl (cI, 2100, .inl f_outcome)), (a_arrivals, .inl (cI, 300, .inl R.2.1)), (a_freed, .inl (cI, 300, .inl R.2.2))] A) (([.ref a_this] : List Value).toArray) s 0 0 A) (F0 m 43 ls [])) (fun rec43 ih43 v10 v11 v12 v13 h => ?_) fu v2 (0 : Int32) v1 v4 h _ _ hP hD hS ls (lv_sub hl [1, 2, 0] rfl)
    intro H locs hP hD hS ls hl
    unfold F_X2_hasWheel_L43 at h
    refine lv_iload_n hx hb dX2_hasWheel_43 rfl (lv_at hl 2 rfl) ?_
    refine lv_iload_n hx hb dX2_hasWheel_44 rfl (lv_at hl 1 rfl) ?_
    refine lv_icmp_ge (tgt := 142) hx hb dX2_hasWheel_45 (by decide) (fun c14 => ?_) (fun c14 => ?_)
    · have h := zif_t c14 h
      exact E142 v10 v11 v12 v13 h _ _ hP hD hS ls (lv_sub hl [0, 1, 2] rfl)
    · have h := zif_f c14 h
      refine lv_iload_n hx hb dX2_hasWheel_48 rfl (lv_at hl 2 rfl) ?_
      refine lv_aload_n hx hb dX2_hasWheel_49 rfl (lv_at hl 0 rfl) ?_
      refine va_get (D := D) (ci := 2) (v := .int f_states) (C := RX2) (T := TX2) (N := 11) hx hb hts hinX2 hown hK hP 0 rfl rfl 8 (by decide) (hts (Cond.fieldLink RX2 43 "LadderRelays$Ways" "states" "I") (List.mem_of_getElem? (i := 1) rfl)) (fun _ h9 => h9) rfl dX2_hasWheel_50 ?_
      refine lv_icmp_ge (tgt := 142) hx hb dX2_hasWheel_53 (by decide) (fun c15 => ?_) (fun c15 => ?_)
      · have h := zif_t c15 h
        exact E142 v10 v11 v12 v13 h _ _ hP hD hS ls (lv_sub hl [0, 1, 2] rfl)
      · have h := zif_f c15 h
        refine lv_aload_n hx hb dX2_hasWheel_56 rfl (lv_at hl 0 rfl) ?_
        refine va_get (D := D) (ci := 2) (v := .ref a_freed) (C := RX2) (T := TX2) (N := 11) hx hb hts hinX2 hown hK hP 0 rfl rfl 5 (by decide) (hts (Cond.fieldLink RX2 27 "LadderRelays$Ways" "freed" "[I") (List.mem_of_getElem? (i := 3) rfl)) (fun _ h9 => h9) rfl dX2_hasWheel_57 ?_
        refine lv_iload_n hx hb dX2_hasWheel_60 rfl (lv_at hl 2 rfl) ?_
        obtain ⟨v16, hv16, h⟩ := zbnd h
        refine zr_iald hx hb hK hP 4 0 rfl rfl hv16 dX2_hasWheel_61 ?_
        refine lv_istore_n (lv' := [(3, .int v16), (0, .ref a_this), (1, .int v10), (2, .int v11)]) hx hb dX2_hasWheel_62 rfl hl (by decide) rfl (fun ls hl => ?_)
        refine lv_iconst (v := (0 : Int32)) hx hb dX2_hasWheel_63 (by decide) ?_
        refine lv_istore (lv' := [(4, .int (0 : Int32)), (3, .int v16), (0, .ref a_this), (1, .int v10), (2, .int v11)]) hx hb dX2_hasWheel_64 hl (by decide) rfl (fun ls hl => ?_)
        have E136 : ∀ (v17 : Int32) (v18 : Int32) (v19 : Nat → Int32) (v20 : Nat → Int32), F_X2_hasWheel_E136 rec43 v11 v17 v18 v19 v20 = some R → ∀ (H : Heap) (locs : List Loc), va_P D vwCl [(a_this, .inr (2, [.ref a_met, .ref a_slots, .ref a_outcomes, .ref a_outcome, .ref a_arrivals, .ref a_freed, .ref a_called, .long f_rests, .int f_states, .int f_told, .int f_wheel])), (a_outcomes, .inl (cI, 300, .inl f_outcomes)), (a_outcome, .inl (cI, 2100, .inl f_outcome)), (a_arrivals, .inl (cI, 300, .inl v19)), (a_freed, .inl (cI, 300, .inl v20))] H → va_D A [(a_this, .inr (2, [.ref a_met, .ref a_slots, .ref a_outcomes, .ref a_outcome, .ref a_arrivals, .ref a_freed, .ref a_called, .long f_rests, .int f_states, .int f_told, .int f_wheel])), (a_outcomes, .inl (cI, 300, .inl f_outcomes)), (a_outcome, .inl (cI, 2100, .inl f_outcome)), (a_arrivals, .inl (cI, 300, .inl v19)), (a_freed, .inl (cI, 300, .inl v20))] → va_S A s.heap H locs → ∀ ls : Array Slot, lv_has ls 6 [(0, .ref a_this), (1, .int v17), (2, .int v11), (3, .int v16), (4, .int v18)] → W p l e ({ frames := 2, cells := 0, slots := 0, locals := 45 } : Room) s m (([.ref a_this] : List Value).toArray) below meth c H locs 0 0 (MQ below (zWi D R.1 [(a_this, .inr (2, [.ref a_met, .ref a_slots, .ref a_outcomes, .ref a_outcome, .ref a_arrivals, .ref a_freed, .ref a_called, .long f_rests, .int f_states, .int f_told, .int f_wheel])), (a_outcomes, .inl (cI, 300, .inl f_outcomes)), (a_outcome, .inl (cI, 2100, .inl f_outcome)), (a_arrivals, .inl (cI, 300, .inl R.2.1)), (a_freed, .inl (cI, 300, .inl R.2.2))] A) (([.ref a_this] : List Value).toArray) s 0 0 A) (F0 m 136 ls []) := by
          intro v17 v18 v19 v20 h H locs hP hD hS ls hl
          unfold F_X2_hasWheel_E136 at h
          refine lv_iinc (v := (v11 + (1 : Int32))) (lv' := [(2, .int (v11 + (1 : Int32))), (0, .ref a_this), (1, .int v17), (3, .int v16), (4, .int v18)]) hx hb dX2_hasWheel_136 hl (k := 2) rfl rfl (by decide) rfl (fun ls hl => ?_)
          refine lv_goto (tgt := 43) hx hb dX2_hasWheel_139 (by decide) ?_
          exact ih43 v17 (v11 + (1 : Int32)) v19 v20 h _ _ hP hD hS ls (lv_sub hl [1, 2, 0] rfl)
        refine zlp_i4 (R := R) (P := fun (v21 : Int32) (v22 : Int32) (v23 : Nat → Int32) (v24 : Nat → Int32) => ∀ (H : Heap) (locs : List Loc), va_P D vwCl [(a_this, .inr (2, [.ref a_met, .ref a_slots, .ref a_outcomes, .ref a_outcome, .ref a_arrivals, .ref a_freed, .ref a_called, .long f_rests, .int f_states, .int f_told, .int f_wheel])), (a_outcomes, .inl (cI, 300, .inl f_outcomes)), (a_outcome, .inl (cI, 2100, .inl f_outcome)), (a_arrivals, .inl (cI, 300, .inl v23)), (a_freed, .inl (cI, 300, .inl v24))] H → va_D A [(a_this, .inr (2, [.ref a_met, .ref a_slots, .ref a_outcomes, .ref a_outcome, .ref a_arrivals, .ref a_freed, .ref a_called, .long f_rests, .int f_states, .int f_told, .int f_wheel])), (a_outcomes, .inl (cI, 300, .inl f_outcomes)), (a_outcome, .inl (cI, 2100, .inl f_outcome)), (a_arrivals, .inl (cI, 300, .inl v23)), (a_freed, .inl (cI, 300, .inl v24))] → va_S A s.heap H locs → ∀ ls : Array Slot, lv_has ls 6 [(0, .ref a_this), (1, .int v21), (2, .int v11), (3, .int v16), (4, .int v22)] → W p l e ({ frames := 2, cells := 0, slots := 0, locals := 45 } : Room) s m (([.ref a_this] : List Value).toArray) below meth c H locs 0 0 (MQ below (zWi D R.1 [(a_this, .inr (2, [.ref a_met, .ref a_slots, .ref a_outcomes, .ref a_outcome, .ref a_arrivals, .ref a_freed, .ref a_called, .long f_rests, .int f_states, .int f_told, .int f_wheel])), (a_outcomes, .inl (cI, 300, .inl f_outcomes)), (a_outcome, .inl (cI, 2100, .inl f_outcome)), (a_arrivals, .inl (cI, 300, .inl R.2.1)), (a_freed, .inl (cI, 300, .inl R.2.2))] A) (([.ref a_this] : List Value).toArray) s 0 0 A) (F0 m 66 ls [])) (fun rec66 ih66 v21 v22 v23 v24 h => ?_) fu v10 (0 : Int32) v12 v13 h _ _ hP hD hS ls (lv_sub hl [2, 3, 4, 1, 0] rfl)
        intro H locs hP hD hS ls hl
        unfold F_X2_hasWheel_L66 at h
        refine lv_iload hx hb dX2_hasWheel_66 (lv_at hl 4 rfl) ?_
        refine lv_aload_n hx hb dX2_hasWheel_68 rfl (lv_at hl 0 rfl) ?_
        refine va_get (D := D) (ci := 2) (v := .ref a_outcomes) (C := RX2) (T := TX2) (N := 11) hx hb hts hinX2 hown hK hP 0 rfl rfl 2 (by decide) (hts (Cond.fieldLink RX2 18 "LadderRelays$Ways" "outcomes" "[I") (List.mem_of_getElem? (i := 4) rfl)) (fun _ h9 => h9) rfl dX2_hasWheel_69 ?_
        refine lv_iload_n hx hb dX2_hasWheel_72 rfl (lv_at hl 3 rfl) ?_
        obtain ⟨v25, hv25, h⟩ := zbnd h
        refine zr_iald hx hb hK hP 1 0 rfl rfl hv25 dX2_hasWheel_73 ?_
        refine lv_icmp_ge (tgt := 136) hx hb dX2_hasWheel_74 (by decide) (fun c26 => ?_) (fun c26 => ?_)
        · have h := zif_t c26 h
          exact E136 v21 v22 v23 v24 h _ _ hP hD hS ls (lv_sub hl [0, 1, 2, 3, 4] rfl)
        · have h := zif_f c26 h
          refine lv_aload_n hx hb dX2_hasWheel_77 rfl (lv_at hl 0 rfl) ?_
          refine va_get (D := D) (ci := 2) (v := .ref a_outcome) (C := RX2) (T := TX2) (N := 11) hx hb hts hinX2 hown hK hP 0 rfl rfl 3 (by decide) (hts (Cond.fieldLink RX2 21 "LadderRelays$Ways" "outcome" "[I") (List.mem_of_getElem? (i := 5) rfl)) (fun _ h9 => h9) rfl dX2_hasWheel_78 ?_
          refine lv_iload_n hx hb dX2_hasWheel_81 rfl (lv_at hl 3 rfl) ?_
          refine lv_bipush (v := (7 : Int32)) hx hb dX2_hasWheel_82 (by decide) ?_
          refine lv_imul hx hb dX2_hasWheel_84 ?_
          refine lv_iload hx hb dX2_hasWheel_85 (lv_at hl 4 rfl) ?_
          refine lv_iadd hx hb dX2_hasWheel_87 ?_
          obtain ⟨v27, hv27, h⟩ := zbnd h
          refine zr_iald hx hb hK hP 2 0 rfl rfl hv27 dX2_hasWheel_88 ?_
          refine lv_istore (lv' := [(5, .int v27), (0, .ref a_this), (1, .int v21), (2, .int v11), (3, .int v16), (4, .int v22)]) hx hb dX2_hasWheel_89 hl (by decide) rfl (fun ls hl => ?_)
          refine lv_aload_n hx hb dX2_hasWheel_91 rfl (lv_at hl 1 rfl) ?_
          refine va_get (D := D) (ci := 2) (v := .ref a_arrivals) (C := RX2) (T := TX2) (N := 11) hx hb hts hinX2 hown hK hP 0 rfl rfl 4 (by decide) (hts (Cond.fieldLink RX2 24 "LadderRelays$Ways" "arrivals" "[I") (List.mem_of_getElem? (i := 2) rfl)) (fun _ h9 => h9) rfl dX2_hasWheel_92 ?_
          refine lv_iload hx hb dX2_hasWheel_95 (lv_at hl 0 rfl) ?_
          refine lv_dup2_11 hx hb dX2_hasWheel_97 rfl rfl ?_
          obtain ⟨v28, hv28, h⟩ := zbnd h
          refine zr_iald hx hb hK hP 3 0 rfl rfl hv28 dX2_hasWheel_98 ?_
          refine lv_iconst (v := (1 : Int32)) hx hb dX2_hasWheel_99 (by decide) ?_
          refine lv_isub hx hb dX2_hasWheel_100 ?_
          obtain ⟨v29, hv29, h⟩ := zbnd h
          refine zr_iast hx hb hK hP hD hS 3 0 rfl rfl hv29 dX2_hasWheel_101 (fun H locs hP hD hS => ?_)
          have hP : va_P D vwCl [(a_this, .inr (2, [.ref a_met, .ref a_slots, .ref a_outcomes, .ref a_outcome, .ref a_arrivals, .ref a_freed, .ref a_called, .long f_rests, .int f_states, .int f_told, .int f_wheel])), (a_outcomes, .inl (cI, 300, .inl f_outcomes)), (a_outcome, .inl (cI, 2100, .inl f_outcome)), (a_arrivals, .inl (cI, 300, .inl v29)), (a_freed, .inl (cI, 300, .inl v24))] H := hP
          have hD : va_D A [(a_this, .inr (2, [.ref a_met, .ref a_slots, .ref a_outcomes, .ref a_outcome, .ref a_arrivals, .ref a_freed, .ref a_called, .long f_rests, .int f_states, .int f_told, .int f_wheel])), (a_outcomes, .inl (cI, 300, .inl f_outcomes)), (a_outcome, .inl (cI, 2100, .inl f_outcome)), (a_arrivals, .inl (cI, 300, .inl v29)), (a_freed, .inl (cI, 300, .inl v24))] := hD
          refine lv_aload_n hx hb dX2_hasWheel_102 rfl (lv_at hl 1 rfl) ?_
          refine va_get (D := D) (ci := 2) (v := .ref a_arrivals) (C := RX2) (T := TX2) (N := 11) hx hb hts hinX2 hown hK hP 0 rfl rfl 4 (by decide) (hts (Cond.fieldLink RX2 24 "LadderRelays$Ways" "arrivals" "[I") (List.mem_of_getElem? (i := 2) rfl)) (fun _ h9 => h9) rfl dX2_hasWheel_103 ?_
          refine lv_iload hx hb dX2_hasWheel_106 (lv_at hl 0 rfl) ?_
          obtain ⟨v30, hv30, h⟩ := zbnd h
          refine zr_iald hx hb hK hP 3 0 rfl rfl hv30 dX2_hasWheel_108 ?_
          refine lv_if_ne (tgt := 130) hx hb dX2_hasWheel_109 (by decide) (fun c31 => ?_) (fun c31 => ?_)
          · have h := zif_f c31 h
            refine lv_iinc (v := (v22 + (1 : Int32))) (lv' := [(4, .int (v22 + (1 : Int32))), (5, .int v27), (0, .ref a_this), (1, .int v21), (2, .int v11), (3, .int v16)]) hx hb dX2_hasWheel_130 hl (k := 5) rfl rfl (by decide) rfl (fun ls hl => ?_)
            refine lv_goto (tgt := 66) hx hb dX2_hasWheel_133 (by decide) ?_
            exact ih66 v21 (v22 + (1 : Int32)) v29 v24 h _ _ hP hD hS ls (lv_sub hl [2, 3, 4, 5, 0] rfl)
          · have h := zif_t c31 h
            refine lv_iload_n hx hb dX2_hasWheel_112 rfl (lv_at hl 2 rfl) ?_
            refine lv_sipush (v := (300 : Int32)) hx hb dX2_hasWheel_113 (by decide) ?_
            refine lv_icmp_ge (tgt := 130) hx hb dX2_hasWheel_116 (by decide) (fun c32 => ?_) (fun c32 => ?_)
            · have h := zif_t c32 h
              refine lv_iinc (v := (v22 + (1 : Int32))) (lv' := [(4, .int (v22 + (1 : Int32))), (5, .int v27), (0, .ref a_this), (1, .int v21), (2, .int v11), (3, .int v16)]) hx hb dX2_hasWheel_130 hl (k := 5) rfl rfl (by decide) rfl (fun ls hl => ?_)
              refine lv_goto (tgt := 66) hx hb dX2_hasWheel_133 (by decide) ?_
              exact ih66 v21 (v22 + (1 : Int32)) v29 v24 h _ _ hP hD hS ls (lv_sub hl [2, 3, 4, 5, 0] rfl)
            · have h := zif_f c32 h
              refine lv_aload_n hx hb dX2_hasWheel_119 rfl (lv_at hl 1 rfl) ?_
              refine va_get (D := D) (ci := 2) (v := .ref a_freed) (C := RX2) (T := TX2) (N := 11) hx hb hts hinX2 hown hK hP 0 rfl rfl 5 (by decide) (hts (Cond.fieldLink RX2 27 "LadderRelays$Ways" "freed" "[I") (List.mem_of_getElem? (i := 3) rfl)) (fun _ h9 => h9) rfl dX2_hasWheel_120 ?_
              refine lv_iload_n hx hb dX2_hasWheel_123 rfl (lv_at hl 2 rfl) ?_
              refine lv_iload hx hb dX2_hasWheel_124 (lv_at hl 0 rfl) ?_
              obtain ⟨v33, hv33, h⟩ := zbnd h
              refine zr_iast hx hb hK hP hD hS 4 0 rfl rfl hv33 dX2_hasWheel_126 (fun H locs hP hD hS => ?_)
              have hP : va_P D vwCl [(a_this, .inr (2, [.ref a_met, .ref a_slots, .ref a_outcomes, .ref a_outcome, .ref a_arrivals, .ref a_freed, .ref a_called, .long f_rests, .int f_states, .int f_told, .int f_wheel])), (a_outcomes, .inl (cI, 300, .inl f_outcomes)), (a_outcome, .inl (cI, 2100, .inl f_outcome)), (a_arrivals, .inl (cI, 300, .inl v29)), (a_freed, .inl (cI, 300, .inl v33))] H := hP
              have hD : va_D A [(a_this, .inr (2, [.ref a_met, .ref a_slots, .ref a_outcomes, .ref a_outcome, .ref a_arrivals, .ref a_freed, .ref a_called, .long f_rests, .int f_states, .int f_told, .int f_wheel])), (a_outcomes, .inl (cI, 300, .inl f_outcomes)), (a_outcome, .inl (cI, 2100, .inl f_outcome)), (a_arrivals, .inl (cI, 300, .inl v29)), (a_freed, .inl (cI, 300, .inl v33))] := hD
              refine lv_iinc (v := (v21 + (1 : Int32))) (lv' := [(1, .int (v21 + (1 : Int32))), (5, .int v27), (0, .ref a_this), (2, .int v11), (3, .int v16), (4, .int v22)]) hx hb dX2_hasWheel_127 hl (k := 2) rfl rfl (by decide) rfl (fun ls hl => ?_)
              refine lv_iinc (v := (v22 + (1 : Int32))) (lv' := [(4, .int (v22 + (1 : Int32))), (1, .int (v21 + (1 : Int32))), (5, .int v27), (0, .ref a_this), (2, .int v11), (3, .int v16)]) hx hb dX2_hasWheel_130 hl (k := 5) rfl rfl (by decide) rfl (fun ls hl => ?_)
              refine lv_goto (tgt := 66) hx hb dX2_hasWheel_133 (by decide) ?_
              exact ih66 (v21 + (1 : Int32)) (v22 + (1 : Int32)) v29 v33 h _ _ hP hD hS ls (lv_sub hl [3, 1, 4, 5, 0] rfl)
  refine zlp_i3 (R := R) (P := fun (v34 : Int32) (v35 : Int32) (v36 : Nat → Int32) => ∀ (H : Heap) (locs : List Loc), va_P D vwCl [(a_this, .inr (2, [.ref a_met, .ref a_slots, .ref a_outcomes, .ref a_outcome, .ref a_arrivals, .ref a_freed, .ref a_called, .long f_rests, .int f_states, .int f_told, .int f_wheel])), (a_outcomes, .inl (cI, 300, .inl f_outcomes)), (a_outcome, .inl (cI, 2100, .inl f_outcome)), (a_arrivals, .inl (cI, 300, .inl v1)), (a_freed, .inl (cI, 300, .inl v36))] H → va_D A [(a_this, .inr (2, [.ref a_met, .ref a_slots, .ref a_outcomes, .ref a_outcome, .ref a_arrivals, .ref a_freed, .ref a_called, .long f_rests, .int f_states, .int f_told, .int f_wheel])), (a_outcomes, .inl (cI, 300, .inl f_outcomes)), (a_outcome, .inl (cI, 2100, .inl f_outcome)), (a_arrivals, .inl (cI, 300, .inl v1)), (a_freed, .inl (cI, 300, .inl v36))] → va_S A s.heap H locs → ∀ ls : Array Slot, lv_has ls 6 [(0, .ref a_this), (1, .int v34), (2, .int v35)] → W p l e ({ frames := 2, cells := 0, slots := 0, locals := 45 } : Room) s m (([.ref a_this] : List Value).toArray) below meth c H locs 0 0 (MQ below (zWi D R.1 [(a_this, .inr (2, [.ref a_met, .ref a_slots, .ref a_outcomes, .ref a_outcome, .ref a_arrivals, .ref a_freed, .ref a_called, .long f_rests, .int f_states, .int f_told, .int f_wheel])), (a_outcomes, .inl (cI, 300, .inl f_outcomes)), (a_outcome, .inl (cI, 2100, .inl f_outcome)), (a_arrivals, .inl (cI, 300, .inl R.2.1)), (a_freed, .inl (cI, 300, .inl R.2.2))] A) (([.ref a_this] : List Value).toArray) s 0 0 A) (F0 m 8 ls [])) (fun rec8 ih8 v34 v35 v36 h => ?_) fu (0 : Int32) (0 : Int32) f_freed h _ _ hP hD hS ls (lv_sub hl [2, 1, 0] rfl)
  intro H locs hP hD hS ls hl
  unfold F_X2_hasWheel_L8 at h
  refine lv_iload_n hx hb dX2_hasWheel_8 rfl (lv_at hl 2 rfl) ?_
  refine lv_aload_n hx hb dX2_hasWheel_9 rfl (lv_at hl 0 rfl) ?_
  refine va_get (D := D) (ci := 2) (v := .int f_states) (C := RX2) (T := TX2) (N := 11) hx hb hts hinX2 hown hK hP 0 rfl rfl 8 (by decide) (hts (Cond.fieldLink RX2 43 "LadderRelays$Ways" "states" "I") (List.mem_of_getElem? (i := 1) rfl)) (fun _ h9 => h9) rfl dX2_hasWheel_10 ?_
  refine lv_icmp_ge (tgt := 41) hx hb dX2_hasWheel_13 (by decide) (fun c37 => ?_) (fun c37 => ?_)
  · have h := zif_t c37 h
    exact E41 v34 v35 v36 h _ _ hP hD hS ls (lv_sub hl [0, 1, 2] rfl)
  · have h := zif_f c37 h
    refine lv_aload_n hx hb dX2_hasWheel_16 rfl (lv_at hl 0 rfl) ?_
    refine va_get (D := D) (ci := 2) (v := .ref a_arrivals) (C := RX2) (T := TX2) (N := 11) hx hb hts hinX2 hown hK hP 0 rfl rfl 4 (by decide) (hts (Cond.fieldLink RX2 24 "LadderRelays$Ways" "arrivals" "[I") (List.mem_of_getElem? (i := 2) rfl)) (fun _ h9 => h9) rfl dX2_hasWheel_17 ?_
    refine lv_iload_n hx hb dX2_hasWheel_20 rfl (lv_at hl 2 rfl) ?_
    obtain ⟨v38, hv38, h⟩ := zbnd h
    refine zr_iald hx hb hK hP 3 0 rfl rfl hv38 dX2_hasWheel_21 ?_
    refine lv_if_ne (tgt := 35) hx hb dX2_hasWheel_22 (by decide) (fun c39 => ?_) (fun c39 => ?_)
    · have h := zif_f c39 h
      refine lv_iinc (v := (v35 + (1 : Int32))) (lv' := [(2, .int (v35 + (1 : Int32))), (0, .ref a_this), (1, .int v34)]) hx hb dX2_hasWheel_35 hl (k := 2) rfl rfl (by decide) rfl (fun ls hl => ?_)
      refine lv_goto (tgt := 8) hx hb dX2_hasWheel_38 (by decide) ?_
      exact ih8 v34 (v35 + (1 : Int32)) v36 h _ _ hP hD hS ls (lv_sub hl [1, 2, 0] rfl)
    · have h := zif_t c39 h
      refine lv_aload_n hx hb dX2_hasWheel_25 rfl (lv_at hl 0 rfl) ?_
      refine va_get (D := D) (ci := 2) (v := .ref a_freed) (C := RX2) (T := TX2) (N := 11) hx hb hts hinX2 hown hK hP 0 rfl rfl 5 (by decide) (hts (Cond.fieldLink RX2 27 "LadderRelays$Ways" "freed" "[I") (List.mem_of_getElem? (i := 3) rfl)) (fun _ h9 => h9) rfl dX2_hasWheel_26 ?_
      refine lv_iload_n hx hb dX2_hasWheel_29 rfl (lv_at hl 1 rfl) ?_
      refine lv_iload_n hx hb dX2_hasWheel_30 rfl (lv_at hl 2 rfl) ?_
      obtain ⟨v40, hv40, h⟩ := zbnd h
      refine zr_iast hx hb hK hP hD hS 4 0 rfl rfl hv40 dX2_hasWheel_31 (fun H locs hP hD hS => ?_)
      have hP : va_P D vwCl [(a_this, .inr (2, [.ref a_met, .ref a_slots, .ref a_outcomes, .ref a_outcome, .ref a_arrivals, .ref a_freed, .ref a_called, .long f_rests, .int f_states, .int f_told, .int f_wheel])), (a_outcomes, .inl (cI, 300, .inl f_outcomes)), (a_outcome, .inl (cI, 2100, .inl f_outcome)), (a_arrivals, .inl (cI, 300, .inl v1)), (a_freed, .inl (cI, 300, .inl v40))] H := hP
      have hD : va_D A [(a_this, .inr (2, [.ref a_met, .ref a_slots, .ref a_outcomes, .ref a_outcome, .ref a_arrivals, .ref a_freed, .ref a_called, .long f_rests, .int f_states, .int f_told, .int f_wheel])), (a_outcomes, .inl (cI, 300, .inl f_outcomes)), (a_outcome, .inl (cI, 2100, .inl f_outcome)), (a_arrivals, .inl (cI, 300, .inl v1)), (a_freed, .inl (cI, 300, .inl v40))] := hD
      refine lv_iinc (v := (v34 + (1 : Int32))) (lv' := [(1, .int (v34 + (1 : Int32))), (0, .ref a_this), (2, .int v35)]) hx hb dX2_hasWheel_32 hl (k := 1) rfl rfl (by decide) rfl (fun ls hl => ?_)
      refine lv_iinc (v := (v35 + (1 : Int32))) (lv' := [(2, .int (v35 + (1 : Int32))), (1, .int (v34 + (1 : Int32))), (0, .ref a_this)]) hx hb dX2_hasWheel_35 hl (k := 2) rfl rfl (by decide) rfl (fun ls hl => ?_)
      refine lv_goto (tgt := 8) hx hb dX2_hasWheel_38 (by decide) ?_
      exact ih8 (v34 + (1 : Int32)) (v35 + (1 : Int32)) v40 h _ _ hP hD hS ls (lv_sub hl [2, 1, 0] rfl)
def F_X2_unlikeRests (fu : Nat) (f_rests : Int64) : Option (Int32) := (F_J13_bitCount_95d88 fu f_rests).bind fun v1 => some v1
set_option maxHeartbeats 4000000 in
set_option maxRecDepth 100000 in
theorem c_X2_unlikeRests (l : Launch) (D : va_G) (cI cC cO cJ : ClassId) (fu : Nat) (a_this a_met a_slots a_outcomes a_outcome a_arrivals a_freed a_called : Nat) (f_rests : Int64) (f_states : Int32) (f_told : Int32) (f_wheel : Int32) (R : Int32) (h : F_X2_unlikeRests fu f_rests = some R) : Met l yX2_unlikeRests wsX2_unlikeRests ({ frames := 1, cells := 0, slots := 0, locals := 21 } : Room) (zPr D (ztys cI cC cO cJ) [(a_this, .inr (2, [.ref a_met, .ref a_slots, .ref a_outcomes, .ref a_outcome, .ref a_arrivals, .ref a_freed, .ref a_called, .long f_rests, .int f_states, .int f_told, .int f_wheel]))] [.ref a_this]) (zQi R) 0 0 (fun _ => False) := by
  refine Met.ofW (cc := cX2_unlikeRests) (maxL := 1) (ret := (some .int)) (by decide) rfl ?_
  intro p e s m args below meth c s₁ B hml hv
  obtain ⟨rfl, hP, hK⟩ := hv
  have hx := B.exec
  have hb := B.bytes
  have hr := B.returns
  have hts := atoms_spec (ws := wsX2_unlikeRests) B.pre
  have hown : s.vm.findClass RX2 = some m.cls := findClass_of_methodNamed B.named
  have hlocks := B.notSynchronized
  have hinX2 : ∀ w ∈ wsX20, w ∈ wsX2_unlikeRests := fun _ h => (List.mem_cons_of_mem _ (List.mem_append_right _ h))
  have hP : va_P D vwCl [(a_this, .inr (2, [.ref a_met, .ref a_slots, .ref a_outcomes, .ref a_outcome, .ref a_arrivals, .ref a_freed, .ref a_called, .long f_rests, .int f_states, .int f_told, .int f_wheel]))] s.heap := hP
  have hK : va_K D vwCl (ztys cI cC cO cJ) s := hK
  have hl := lv_entry ([.ref a_this]) (n := 1) (Nat.le_of_ble_eq_true rfl)
  rw [lg_entry_eq]
  generalize (lg_sl ([.ref a_this]) ++ List.replicate (1 - (lg_sl ([.ref a_this])).length) Slot.unset).toArray = ls at hl ⊢
  have hl : lv_has ls 1 [(0, .ref a_this)] := hl
  unfold F_X2_unlikeRests at h
  refine lv_aload_n hx hb dX2_unlikeRests_0 rfl (lv_at hl 0 rfl) ?_
  refine va_get (D := D) (ci := 2) (v := .long f_rests) (C := RX2) (T := TX2) (N := 11) hx hb hts hinX2 hown hK hP 0 rfl rfl 7 (by decide) (hts (Cond.fieldLink RX2 39 "LadderRelays$Ways" "rests" "J") (List.mem_of_getElem? (i := 1) rfl)) (fun _ h9 => h9) rfl dX2_unlikeRests_1 ?_
  obtain ⟨v1, hv1, h⟩ := zbnd h
  refine zc_i (W.runS (As := [.long f_rests]) (rest := []) ⟨hx, hb, hml, hown, hts⟩ (c_J13_bitCount_95d88 l D cI cC cO cJ fu f_rests v1 hv1) (va_cwS 1 hts gX2_unlikeRests_J13_bitCount_95d88 rfl rfl rfl (by decide +kernel) ⟨Nat.le_of_ble_eq_true rfl, Nat.le_of_ble_eq_true rfl⟩) (zPr_S hK zP_nil) rfl rfl hl.1 rfl (lv_room (Nat.le_of_ble_eq_true rfl)) dX2_unlikeRests_4 ⟨Nat.zero_le _, Nat.zero_le _⟩) ?_
  have hR := Option.some.inj h
  subst hR
  exact W.iret (v := v1) hx hb hr (fun t ht hW => ⟨_, rfl, rfl, ht⟩) (fun q hq => absurd hq List.not_mem_nil) dX2_unlikeRests_7
def F_X2_leastRest_E29  (v1 : Int32) : Option (Int32) := some (-1 : Int32)
def F_X2_leastRest_L2 (f_rests : Int64) (k2 : Int32 → Option (Int32)) (rec2 : Int32 → Option (Int32)) (v2 : Int32) : Option (Int32) := if (64 : Int32) ≤ v2 then k2 v2 else if (lg_cmp ((f_rests >>> (v2.toInt64 &&& 63)) &&& (1 : Int64)) (1 : Int64)) = (0 : Int32) then some v2 else rec2 (v2 + (1 : Int32))
def F_X2_leastRest (fu : Nat) (f_rests : Int64) : Option (Int32) := zlp1 (F_X2_leastRest_L2 f_rests (F_X2_leastRest_E29)) fu (0 : Int32)
set_option maxHeartbeats 4000000 in
set_option maxRecDepth 100000 in
theorem c_X2_leastRest (l : Launch) (D : va_G) (cI cC cO cJ : ClassId) (fu : Nat) (a_this a_met a_slots a_outcomes a_outcome a_arrivals a_freed a_called : Nat) (f_rests : Int64) (f_states : Int32) (f_told : Int32) (f_wheel : Int32) (R : Int32) (h : F_X2_leastRest fu f_rests = some R) : Met l yX2_leastRest wsX2_leastRest ({ frames := 0, cells := 0, slots := 0, locals := 0 } : Room) (zPr D (ztys cI cC cO cJ) [(a_this, .inr (2, [.ref a_met, .ref a_slots, .ref a_outcomes, .ref a_outcome, .ref a_arrivals, .ref a_freed, .ref a_called, .long f_rests, .int f_states, .int f_told, .int f_wheel]))] [.ref a_this]) (zQi R) 0 0 (fun _ => False) := by
  refine Met.ofW (cc := cX2_leastRest) (maxL := 2) (ret := (some .int)) (by decide) rfl ?_
  intro p e s m args below meth c s₁ B hml hv
  obtain ⟨rfl, hP, hK⟩ := hv
  have hx := B.exec
  have hb := B.bytes
  have hr := B.returns
  have hts := atoms_spec (ws := wsX2_leastRest) B.pre
  have hown : s.vm.findClass RX2 = some m.cls := findClass_of_methodNamed B.named
  have hlocks := B.notSynchronized
  have hinX2 : ∀ w ∈ wsX20, w ∈ wsX2_leastRest := fun _ h => (List.mem_cons_of_mem _ (List.mem_append_right _ h))
  have hP : va_P D vwCl [(a_this, .inr (2, [.ref a_met, .ref a_slots, .ref a_outcomes, .ref a_outcome, .ref a_arrivals, .ref a_freed, .ref a_called, .long f_rests, .int f_states, .int f_told, .int f_wheel]))] s.heap := hP
  have hK : va_K D vwCl (ztys cI cC cO cJ) s := hK
  have hl := lv_entry ([.ref a_this]) (n := 2) (Nat.le_of_ble_eq_true rfl)
  rw [lg_entry_eq]
  generalize (lg_sl ([.ref a_this]) ++ List.replicate (2 - (lg_sl ([.ref a_this])).length) Slot.unset).toArray = ls at hl ⊢
  have hl : lv_has ls 2 [(0, .ref a_this)] := hl
  unfold F_X2_leastRest at h
  refine lv_iconst (v := (0 : Int32)) hx hb dX2_leastRest_0 (by decide) ?_
  refine lv_istore_n (lv' := [(1, .int (0 : Int32)), (0, .ref a_this)]) hx hb dX2_leastRest_1 rfl hl (by decide) rfl (fun ls hl => ?_)
  have E29 : ∀ (v1 : Int32), F_X2_leastRest_E29 v1 = some R → ∀ ls : Array Slot, lv_has ls 2 [(0, .ref a_this), (1, .int v1)] → W p l e ({ frames := 0, cells := 0, slots := 0, locals := 0 } : Room) s m (([.ref a_this] : List Value).toArray) below meth c s.heap [] 0 0 (MQ below (zQi R) (([.ref a_this] : List Value).toArray) s 0 0 (fun _ => False)) (F0 m 29 ls []) := by
    intro v1 h ls hl
    unfold F_X2_leastRest_E29 at h
    refine lv_iconst (v := (-1 : Int32)) hx hb dX2_leastRest_29 (by decide) ?_
    have hR := Option.some.inj h
    subst hR
    exact W.iret (v := (-1 : Int32)) hx hb hr (fun t ht hW => ⟨_, rfl, rfl, ht⟩) (fun q hq => absurd hq List.not_mem_nil) dX2_leastRest_30
  refine zlp_i1 (R := R) (P := fun (v2 : Int32) => ∀ ls : Array Slot, lv_has ls 2 [(0, .ref a_this), (1, .int v2)] → W p l e ({ frames := 0, cells := 0, slots := 0, locals := 0 } : Room) s m (([.ref a_this] : List Value).toArray) below meth c s.heap [] 0 0 (MQ below (zQi R) (([.ref a_this] : List Value).toArray) s 0 0 (fun _ => False)) (F0 m 2 ls [])) (fun rec2 ih2 v2 h => ?_) fu (0 : Int32) h ls (lv_sub hl [1, 0] rfl)
  intro ls hl
  unfold F_X2_leastRest_L2 at h
  refine lv_iload_n hx hb dX2_leastRest_2 rfl (lv_at hl 1 rfl) ?_
  refine lv_bipush (v := (64 : Int32)) hx hb dX2_leastRest_3 (by decide) ?_
  refine lv_icmp_ge (tgt := 29) hx hb dX2_leastRest_5 (by decide) (fun c3 => ?_) (fun c3 => ?_)
  · have h := zif_t c3 h
    exact E29 v2 h ls (lv_sub hl [0, 1] rfl)
  · have h := zif_f c3 h
    refine lv_aload_n hx hb dX2_leastRest_8 rfl (lv_at hl 0 rfl) ?_
    refine va_get (D := D) (ci := 2) (v := .long f_rests) (C := RX2) (T := TX2) (N := 11) hx hb hts hinX2 hown hK hP 0 rfl rfl 7 (by decide) (hts (Cond.fieldLink RX2 39 "LadderRelays$Ways" "rests" "J") (List.mem_of_getElem? (i := 1) rfl)) (fun _ h9 => h9) rfl dX2_leastRest_9 ?_
    refine lv_iload_n hx hb dX2_leastRest_12 rfl (lv_at hl 1 rfl) ?_
    refine lv_lshr (v := (f_rests >>> (v2.toInt64 &&& 63))) hx hb dX2_leastRest_13 rfl ?_
    refine lv_lconst (v := (1 : Int64)) hx hb dX2_leastRest_14 (by decide) ?_
    refine lv_land hx hb dX2_leastRest_15 ?_
    refine lv_lconst (v := (1 : Int64)) hx hb dX2_leastRest_16 (by decide) ?_
    refine W.lcmp hx hb dX2_leastRest_17 ?_
    refine lv_if_ne (tgt := 23) hx hb dX2_leastRest_18 (by decide) (fun c4 => ?_) (fun c4 => ?_)
    · have h := zif_f c4 h
      refine lv_iinc (v := (v2 + (1 : Int32))) (lv' := [(1, .int (v2 + (1 : Int32))), (0, .ref a_this)]) hx hb dX2_leastRest_23 hl (k := 1) rfl rfl (by decide) rfl (fun ls hl => ?_)
      refine lv_goto (tgt := 2) hx hb dX2_leastRest_26 (by decide) ?_
      exact ih2 (v2 + (1 : Int32)) h ls (lv_sub hl [1, 0] rfl)
    · have h := zif_t c4 h
      refine lv_iload_n hx hb dX2_leastRest_21 rfl (lv_at hl 1 rfl) ?_
      have hR := Option.some.inj h
      subst hR
      exact W.iret (v := v2) hx hb hr (fun t ht hW => ⟨_, rfl, rfl, ht⟩) (fun q hq => absurd hq List.not_mem_nil) dX2_leastRest_22
def F_X2_greatestRest_E28  (v1 : Int32) : Option (Int32) := some (-1 : Int32)
def F_X2_greatestRest_L3 (f_rests : Int64) (k3 : Int32 → Option (Int32)) (rec3 : Int32 → Option (Int32)) (v2 : Int32) : Option (Int32) := if v2 < (0 : Int32) then k3 v2 else if (lg_cmp ((f_rests >>> (v2.toInt64 &&& 63)) &&& (1 : Int64)) (1 : Int64)) = (0 : Int32) then some v2 else rec3 (v2 + (-1 : Int32))
def F_X2_greatestRest (fu : Nat) (f_rests : Int64) : Option (Int32) := zlp1 (F_X2_greatestRest_L3 f_rests (F_X2_greatestRest_E28)) fu (63 : Int32)
set_option maxHeartbeats 4000000 in
set_option maxRecDepth 100000 in
theorem c_X2_greatestRest (l : Launch) (D : va_G) (cI cC cO cJ : ClassId) (fu : Nat) (a_this a_met a_slots a_outcomes a_outcome a_arrivals a_freed a_called : Nat) (f_rests : Int64) (f_states : Int32) (f_told : Int32) (f_wheel : Int32) (R : Int32) (h : F_X2_greatestRest fu f_rests = some R) : Met l yX2_greatestRest wsX2_greatestRest ({ frames := 0, cells := 0, slots := 0, locals := 0 } : Room) (zPr D (ztys cI cC cO cJ) [(a_this, .inr (2, [.ref a_met, .ref a_slots, .ref a_outcomes, .ref a_outcome, .ref a_arrivals, .ref a_freed, .ref a_called, .long f_rests, .int f_states, .int f_told, .int f_wheel]))] [.ref a_this]) (zQi R) 0 0 (fun _ => False) := by
  refine Met.ofW (cc := cX2_greatestRest) (maxL := 2) (ret := (some .int)) (by decide) rfl ?_
  intro p e s m args below meth c s₁ B hml hv
  obtain ⟨rfl, hP, hK⟩ := hv
  have hx := B.exec
  have hb := B.bytes
  have hr := B.returns
  have hts := atoms_spec (ws := wsX2_greatestRest) B.pre
  have hown : s.vm.findClass RX2 = some m.cls := findClass_of_methodNamed B.named
  have hlocks := B.notSynchronized
  have hinX2 : ∀ w ∈ wsX20, w ∈ wsX2_greatestRest := fun _ h => (List.mem_cons_of_mem _ (List.mem_append_right _ h))
  have hP : va_P D vwCl [(a_this, .inr (2, [.ref a_met, .ref a_slots, .ref a_outcomes, .ref a_outcome, .ref a_arrivals, .ref a_freed, .ref a_called, .long f_rests, .int f_states, .int f_told, .int f_wheel]))] s.heap := hP
  have hK : va_K D vwCl (ztys cI cC cO cJ) s := hK
  have hl := lv_entry ([.ref a_this]) (n := 2) (Nat.le_of_ble_eq_true rfl)
  rw [lg_entry_eq]
  generalize (lg_sl ([.ref a_this]) ++ List.replicate (2 - (lg_sl ([.ref a_this])).length) Slot.unset).toArray = ls at hl ⊢
  have hl : lv_has ls 2 [(0, .ref a_this)] := hl
  unfold F_X2_greatestRest at h
  refine lv_bipush (v := (63 : Int32)) hx hb dX2_greatestRest_0 (by decide) ?_
  refine lv_istore_n (lv' := [(1, .int (63 : Int32)), (0, .ref a_this)]) hx hb dX2_greatestRest_2 rfl hl (by decide) rfl (fun ls hl => ?_)
  have E28 : ∀ (v1 : Int32), F_X2_greatestRest_E28 v1 = some R → ∀ ls : Array Slot, lv_has ls 2 [(0, .ref a_this), (1, .int v1)] → W p l e ({ frames := 0, cells := 0, slots := 0, locals := 0 } : Room) s m (([.ref a_this] : List Value).toArray) below meth c s.heap [] 0 0 (MQ below (zQi R) (([.ref a_this] : List Value).toArray) s 0 0 (fun _ => False)) (F0 m 28 ls []) := by
    intro v1 h ls hl
    unfold F_X2_greatestRest_E28 at h
    refine lv_iconst (v := (-1 : Int32)) hx hb dX2_greatestRest_28 (by decide) ?_
    have hR := Option.some.inj h
    subst hR
    exact W.iret (v := (-1 : Int32)) hx hb hr (fun t ht hW => ⟨_, rfl, rfl, ht⟩) (fun q hq => absurd hq List.not_mem_nil) dX2_greatestRest_29
  refine zlp_i1 (R := R) (P := fun (v2 : Int32) => ∀ ls : Array Slot, lv_has ls 2 [(0, .ref a_this), (1, .int v2)] → W p l e ({ frames := 0, cells := 0, slots := 0, locals := 0 } : Room) s m (([.ref a_this] : List Value).toArray) below meth c s.heap [] 0 0 (MQ below (zQi R) (([.ref a_this] : List Value).toArray) s 0 0 (fun _ => False)) (F0 m 3 ls [])) (fun rec3 ih3 v2 h => ?_) fu (63 : Int32) h ls (lv_sub hl [1, 0] rfl)
  intro ls hl
  unfold F_X2_greatestRest_L3 at h
  refine lv_iload_n hx hb dX2_greatestRest_3 rfl (lv_at hl 1 rfl) ?_
  refine lv_if_lt (tgt := 28) hx hb dX2_greatestRest_4 (by decide) (fun c3 => ?_) (fun c3 => ?_)
  · have h := zif_t c3 h
    exact E28 v2 h ls (lv_sub hl [0, 1] rfl)
  · have h := zif_f c3 h
    refine lv_aload_n hx hb dX2_greatestRest_7 rfl (lv_at hl 0 rfl) ?_
    refine va_get (D := D) (ci := 2) (v := .long f_rests) (C := RX2) (T := TX2) (N := 11) hx hb hts hinX2 hown hK hP 0 rfl rfl 7 (by decide) (hts (Cond.fieldLink RX2 39 "LadderRelays$Ways" "rests" "J") (List.mem_of_getElem? (i := 1) rfl)) (fun _ h9 => h9) rfl dX2_greatestRest_8 ?_
    refine lv_iload_n hx hb dX2_greatestRest_11 rfl (lv_at hl 1 rfl) ?_
    refine lv_lshr (v := (f_rests >>> (v2.toInt64 &&& 63))) hx hb dX2_greatestRest_12 rfl ?_
    refine lv_lconst (v := (1 : Int64)) hx hb dX2_greatestRest_13 (by decide) ?_
    refine lv_land hx hb dX2_greatestRest_14 ?_
    refine lv_lconst (v := (1 : Int64)) hx hb dX2_greatestRest_15 (by decide) ?_
    refine W.lcmp hx hb dX2_greatestRest_16 ?_
    refine lv_if_ne (tgt := 22) hx hb dX2_greatestRest_17 (by decide) (fun c4 => ?_) (fun c4 => ?_)
    · have h := zif_f c4 h
      refine lv_iinc (v := (v2 + (-1 : Int32))) (lv' := [(1, .int (v2 + (-1 : Int32))), (0, .ref a_this)]) hx hb dX2_greatestRest_22 hl (k := 1) rfl rfl (by decide) rfl (fun ls hl => ?_)
      refine lv_goto (tgt := 3) hx hb dX2_greatestRest_25 (by decide) ?_
      exact ih3 (v2 + (-1 : Int32)) h ls (lv_sub hl [1, 0] rfl)
    · have h := zif_t c4 h
      refine lv_iload_n hx hb dX2_greatestRest_20 rfl (lv_at hl 1 rfl) ?_
      have hR := Option.some.inj h
      subst hR
      exact W.iret (v := v2) hx hb hr (fun t ht hW => ⟨_, rfl, rfl, ht⟩) (fun q hq => absurd hq List.not_mem_nil) dX2_greatestRest_21
def F_X2_lookFrom_E84 (fu : Nat) (f_arrivals : Nat → Int32) (f_freed : Nat → Int32) (v5 : Int32) (v6 : Int64) (v7 : Int32) (v8 : Int32) (v9 : Nat → Int32) (v10 : Nat → Int32) (v11 : Nat → Int32) (v12 : Nat → Int32) (v13 : Nat → Int32) : Option (Int64 × Int32 × Int32 × Int32 × (Nat → Int32) × (Nat → Int32) × (Nat → Int32) × (Nat → Int32) × (Nat → Int32) × (Nat → Int32) × (Nat → Int32)) := if v8 = (0 : Int32) then some (v6, v7, v8, (0 : Int32), v9, v10, v11, v12, f_arrivals, f_freed, v13) else (F_X2_hasWheel fu v7 v11 v12 f_arrivals f_freed).bind fun v15 => if v15.1 = (0 : Int32) then some (v6, v7, v8, (0 : Int32), v9, v10, v11, v12, v15.2.1, v15.2.2, v13) else some (v6, v7, v8, (1 : Int32), v9, v10, v11, v12, v15.2.1, v15.2.2, v13)
def F_X2_lookFrom_L50 (fu : Nat) (f_p0_branches : Nat → Int32) (f_p0_closing : Nat → Int32) (f_p0_drop : Nat → Int32) (f_p0_inputs : Int32) (f_p0_opening : Nat → Int32) (f_p0_pull : Nat → Int32) (f_p0_relays : Int32) (k50 : Int32 → Int64 → Int32 → Int32 → (Nat → Int32) → (Nat → Int32) → (Nat → Int32) → (Nat → Int32) → (Nat → Int32) → Option (Int64 × Int32 × Int32 × Int32 × (Nat → Int32) × (Nat → Int32) × (Nat → Int32) × (Nat → Int32) × (Nat → Int32) × (Nat → Int32) × (Nat → Int32))) (rec50 : Int32 → Int64 → Int32 → Int32 → (Nat → Int32) → (Nat → Int32) → (Nat → Int32) → (Nat → Int32) → (Nat → Int32) → Option (Int64 × Int32 × Int32 × Int32 × (Nat → Int32) × (Nat → Int32) × (Nat → Int32) × (Nat → Int32) × (Nat → Int32) × (Nat → Int32) × (Nat → Int32))) (v17 : Int32) (v18 : Int64) (v19 : Int32) (v20 : Int32) (v21 : Nat → Int32) (v22 : Nat → Int32) (v23 : Nat → Int32) (v24 : Nat → Int32) (v25 : Nat → Int32) : Option (Int64 × Int32 × Int32 × Int32 × (Nat → Int32) × (Nat → Int32) × (Nat → Int32) × (Nat → Int32) × (Nat → Int32) × (Nat → Int32) × (Nat → Int32)) := if v20 = (0 : Int32) then k50 v17 v18 v19 v20 v21 v22 v23 v24 v25 else if v19 ≤ v17 then k50 v17 v18 v19 v20 v21 v22 v23 v24 v25 else if (300 : Int32) ≤ v17 then k50 v17 v18 v19 v20 v21 v22 v23 v24 v25 else (F_X2_goOn fu v18 v19 v20 v21 v22 v23 v24 v25 f_p0_relays f_p0_inputs f_p0_branches f_p0_closing f_p0_drop f_p0_opening f_p0_pull v17).bind fun v29 => rec50 (v17 + (1 : Int32)) v29.1 v29.2.1 v29.2.2.1 v29.2.2.2.1 v29.2.2.2.2.1 v29.2.2.2.2.2.1 v29.2.2.2.2.2.2.1 v29.2.2.2.2.2.2.2
def F_X2_lookFrom (fu : Nat) (f_rests : Int64) (f_states : Int32) (f_told : Int32) (f_wheel : Int32) (f_met : Nat → Int32) (f_slots : Nat → Int32) (f_outcomes : Nat → Int32) (f_outcome : Nat → Int32) (f_arrivals : Nat → Int32) (f_freed : Nat → Int32) (f_called : Nat → Int32) (f_p0_relays : Int32) (f_p0_inputs : Int32) (f_p0_motion : Int32) (f_p0_branches : Nat → Int32) (f_p0_closing : Nat → Int32) (f_p0_drop : Nat → Int32) (f_p0_opening : Nat → Int32) (f_p0_pull : Nat → Int32) : Option (Int64 × Int32 × Int32 × Int32 × (Nat → Int32) × (Nat → Int32) × (Nat → Int32) × (Nat → Int32) × (Nat → Int32) × (Nat → Int32) × (Nat → Int32)) := (F_J7_fill_53178 fu f_slots 512 (0 : Int32)).bind fun v1 => (F_J7_fill_53178 fu f_called 64 (-1 : Int32)).bind fun v2 => (F_X2_slotOf fu f_met v1 f_p0_motion).bind fun v3 => (F_X2_meet fu (0 : Int32) (1 : Int32) f_met v1 f_p0_motion v3).bind fun v4 => zlp9 (F_X2_lookFrom_L50 fu f_p0_branches f_p0_closing f_p0_drop f_p0_inputs f_p0_opening f_p0_pull f_p0_relays (F_X2_lookFrom_E84 fu f_arrivals f_freed)) fu (0 : Int32) (0 : Int64) v4.2.1 v4.2.2.1 v4.2.2.2.1 v4.2.2.2.2 f_outcomes f_outcome v2
set_option maxHeartbeats 4000000 in
set_option maxRecDepth 100000 in
theorem c_X2_lookFrom (l : Launch) (D : va_G) (cI cC cO cJ : ClassId) (fu : Nat) (a_this a_met a_slots a_outcomes a_outcome a_arrivals a_freed a_called a_p0 a_p0_branches a_p0_closing a_p0_opening a_p0_pull a_p0_drop a_p0_changed : Nat) (sz : Nat) (f_rests : Int64) (f_states : Int32) (f_told : Int32) (f_wheel : Int32) (f_met : Nat → Int32) (f_slots : Nat → Int32) (f_outcomes : Nat → Int32) (f_outcome : Nat → Int32) (f_arrivals : Nat → Int32) (f_freed : Nat → Int32) (f_called : Nat → Int32) (f_p0_relays : Int32) (f_p0_inputs : Int32) (f_p0_motion : Int32) (f_p0_ticks : Int32) (f_p0_changes : Int32) (f_p0_branches : Nat → Int32) (f_p0_closing : Nat → Int32) (f_p0_drop : Nat → Int32) (f_p0_opening : Nat → Int32) (f_p0_pull : Nat → Int32) (R : Int64 × Int32 × Int32 × Int32 × (Nat → Int32) × (Nat → Int32) × (Nat → Int32) × (Nat → Int32) × (Nat → Int32) × (Nat → Int32) × (Nat → Int32)) (h : F_X2_lookFrom fu f_rests f_states f_told f_wheel f_met f_slots f_outcomes f_outcome f_arrivals f_freed f_called f_p0_relays f_p0_inputs f_p0_motion f_p0_branches f_p0_closing f_p0_drop f_p0_opening f_p0_pull = some R) : Met l yX2_lookFrom wsX2_lookFrom ({ frames := 3, cells := 0, slots := 0, locals := 75 } : Room) (zPw D (ztys cI cC cO cJ) [(a_this, .inr (2, [.ref a_met, .ref a_slots, .ref a_outcomes, .ref a_outcome, .ref a_arrivals, .ref a_freed, .ref a_called, .long f_rests, .int f_states, .int f_told, .int f_wheel])), (a_met, .inl (cI, 300, .inl f_met)), (a_slots, .inl (cI, 512, .inl f_slots)), (a_outcomes, .inl (cI, 300, .inl f_outcomes)), (a_outcome, .inl (cI, 2100, .inl f_outcome)), (a_arrivals, .inl (cI, 300, .inl f_arrivals)), (a_freed, .inl (cI, 300, .inl f_freed)), (a_called, .inl (cI, 64, .inl f_called)), (a_p0, .inr (0, [.int f_p0_relays, .ref a_p0_branches, .ref a_p0_closing, .ref a_p0_opening, .ref a_p0_pull, .ref a_p0_drop, .ref a_p0_changed, .int f_p0_inputs, .int f_p0_motion, .int f_p0_ticks, .int f_p0_changes])), (a_p0_branches, .inl (cI, 6, .inl f_p0_branches)), (a_p0_closing, .inl (cI, 24, .inl f_p0_closing)), (a_p0_drop, .inl (cI, 6, .inl f_p0_drop)), (a_p0_opening, .inl (cI, 24, .inl f_p0_opening)), (a_p0_pull, .inl (cI, 6, .inl f_p0_pull))] sz [.ref a_this, .ref a_p0]) (zWv D [(a_this, .inr (2, [.ref a_met, .ref a_slots, .ref a_outcomes, .ref a_outcome, .ref a_arrivals, .ref a_freed, .ref a_called, .long R.1, .int R.2.1, .int R.2.2.1, .int R.2.2.2.1])), (a_met, .inl (cI, 300, .inl R.2.2.2.2.1)), (a_slots, .inl (cI, 512, .inl R.2.2.2.2.2.1)), (a_outcomes, .inl (cI, 300, .inl R.2.2.2.2.2.2.1)), (a_outcome, .inl (cI, 2100, .inl R.2.2.2.2.2.2.2.1)), (a_arrivals, .inl (cI, 300, .inl R.2.2.2.2.2.2.2.2.1)), (a_freed, .inl (cI, 300, .inl R.2.2.2.2.2.2.2.2.2.1)), (a_called, .inl (cI, 64, .inl R.2.2.2.2.2.2.2.2.2.2)), (a_p0, .inr (0, [.int f_p0_relays, .ref a_p0_branches, .ref a_p0_closing, .ref a_p0_opening, .ref a_p0_pull, .ref a_p0_drop, .ref a_p0_changed, .int f_p0_inputs, .int f_p0_motion, .int f_p0_ticks, .int f_p0_changes])), (a_p0_branches, .inl (cI, 6, .inl f_p0_branches)), (a_p0_closing, .inl (cI, 24, .inl f_p0_closing)), (a_p0_drop, .inl (cI, 6, .inl f_p0_drop)), (a_p0_opening, .inl (cI, 24, .inl f_p0_opening)), (a_p0_pull, .inl (cI, 6, .inl f_p0_pull))] (va_A [(a_this, .inr (2, [.ref a_met, .ref a_slots, .ref a_outcomes, .ref a_outcome, .ref a_arrivals, .ref a_freed, .ref a_called, .long f_rests, .int f_states, .int f_told, .int f_wheel])), (a_met, .inl (cI, 300, .inl f_met)), (a_slots, .inl (cI, 512, .inl f_slots)), (a_outcomes, .inl (cI, 300, .inl f_outcomes)), (a_outcome, .inl (cI, 2100, .inl f_outcome)), (a_arrivals, .inl (cI, 300, .inl f_arrivals)), (a_freed, .inl (cI, 300, .inl f_freed)), (a_called, .inl (cI, 64, .inl f_called)), (a_p0, .inr (0, [.int f_p0_relays, .ref a_p0_branches, .ref a_p0_closing, .ref a_p0_opening, .ref a_p0_pull, .ref a_p0_drop, .ref a_p0_changed, .int f_p0_inputs, .int f_p0_motion, .int f_p0_ticks, .int f_p0_changes])), (a_p0_branches, .inl (cI, 6, .inl f_p0_branches)), (a_p0_closing, .inl (cI, 24, .inl f_p0_closing)), (a_p0_drop, .inl (cI, 6, .inl f_p0_drop)), (a_p0_opening, .inl (cI, 24, .inl f_p0_opening)), (a_p0_pull, .inl (cI, 6, .inl f_p0_pull))] sz)) 0 0 (va_A [(a_this, .inr (2, [.ref a_met, .ref a_slots, .ref a_outcomes, .ref a_outcome, .ref a_arrivals, .ref a_freed, .ref a_called, .long f_rests, .int f_states, .int f_told, .int f_wheel])), (a_met, .inl (cI, 300, .inl f_met)), (a_slots, .inl (cI, 512, .inl f_slots)), (a_outcomes, .inl (cI, 300, .inl f_outcomes)), (a_outcome, .inl (cI, 2100, .inl f_outcome)), (a_arrivals, .inl (cI, 300, .inl f_arrivals)), (a_freed, .inl (cI, 300, .inl f_freed)), (a_called, .inl (cI, 64, .inl f_called)), (a_p0, .inr (0, [.int f_p0_relays, .ref a_p0_branches, .ref a_p0_closing, .ref a_p0_opening, .ref a_p0_pull, .ref a_p0_drop, .ref a_p0_changed, .int f_p0_inputs, .int f_p0_motion, .int f_p0_ticks, .int f_p0_changes])), (a_p0_branches, .inl (cI, 6, .inl f_p0_branches)), (a_p0_closing, .inl (cI, 24, .inl f_p0_closing)), (a_p0_drop, .inl (cI, 6, .inl f_p0_drop)), (a_p0_opening, .inl (cI, 24, .inl f_p0_opening)), (a_p0_pull, .inl (cI, 6, .inl f_p0_pull))] sz) := by
  refine Met.ofW (cc := cX2_lookFrom) (maxL := 3) (ret := none) (by decide) rfl ?_
  intro p e s m args below meth c s₁ B hml hv
  obtain ⟨rfl, hsz, hP, hK, hD0⟩ := hv
  have hx := B.exec
  have hb := B.bytes
  have hr := B.returns
  have hts := atoms_spec (ws := wsX2_lookFrom) B.pre
  have hown : s.vm.findClass RX2 = some m.cls := findClass_of_methodNamed B.named
  have hlocks := B.notSynchronized
  have hinX2 : ∀ w ∈ wsX20, w ∈ wsX2_lookFrom := fun _ h => (List.mem_cons_of_mem _ (List.mem_append_left _ (List.mem_append_right _ h)))
  have hinX0 : ∀ w ∈ wsX00, w ∈ wsX2_lookFrom := fun _ h => (List.mem_cons_of_mem _ (List.mem_append_right _ h))
  subst hsz
  have hD := hD0.self (sz := s.heap.size)
  generalize hAe : va_A [(a_this, .inr (2, [.ref a_met, .ref a_slots, .ref a_outcomes, .ref a_outcome, .ref a_arrivals, .ref a_freed, .ref a_called, .long f_rests, .int f_states, .int f_told, .int f_wheel])), (a_met, .inl (cI, 300, .inl f_met)), (a_slots, .inl (cI, 512, .inl f_slots)), (a_outcomes, .inl (cI, 300, .inl f_outcomes)), (a_outcome, .inl (cI, 2100, .inl f_outcome)), (a_arrivals, .inl (cI, 300, .inl f_arrivals)), (a_freed, .inl (cI, 300, .inl f_freed)), (a_called, .inl (cI, 64, .inl f_called)), (a_p0, .inr (0, [.int f_p0_relays, .ref a_p0_branches, .ref a_p0_closing, .ref a_p0_opening, .ref a_p0_pull, .ref a_p0_drop, .ref a_p0_changed, .int f_p0_inputs, .int f_p0_motion, .int f_p0_ticks, .int f_p0_changes])), (a_p0_branches, .inl (cI, 6, .inl f_p0_branches)), (a_p0_closing, .inl (cI, 24, .inl f_p0_closing)), (a_p0_drop, .inl (cI, 6, .inl f_p0_drop)), (a_p0_opening, .inl (cI, 24, .inl f_p0_opening)), (a_p0_pull, .inl (cI, 6, .inl f_p0_pull))] s.heap.size = A at hD ⊢
  have hA : ∀ q : Nat, s.heap.size ≤ q → A q := fun q h => by rw [← hAe]; exact Or.inr h
  have hS : va_S A s.heap s.heap [] := va_S.rf
  have hP : va_P D vwCl [(a_this, .inr (2, [.ref a_met, .ref a_slots, .ref a_outcomes, .ref a_outcome, .ref a_arrivals, .ref a_freed, .ref a_called, .long f_rests, .int f_states, .int f_told, .int f_wheel])), (a_met, .inl (cI, 300, .inl f_met)), (a_slots, .inl (cI, 512, .inl f_slots)), (a_outcomes, .inl (cI, 300, .inl f_outcomes)), (a_outcome, .inl (cI, 2100, .inl f_outcome)), (a_arrivals, .inl (cI, 300, .inl f_arrivals)), (a_freed, .inl (cI, 300, .inl f_freed)), (a_called, .inl (cI, 64, .inl f_called)), (a_p0, .inr (0, [.int f_p0_relays, .ref a_p0_branches, .ref a_p0_closing, .ref a_p0_opening, .ref a_p0_pull, .ref a_p0_drop, .ref a_p0_changed, .int f_p0_inputs, .int f_p0_motion, .int f_p0_ticks, .int f_p0_changes])), (a_p0_branches, .inl (cI, 6, .inl f_p0_branches)), (a_p0_closing, .inl (cI, 24, .inl f_p0_closing)), (a_p0_drop, .inl (cI, 6, .inl f_p0_drop)), (a_p0_opening, .inl (cI, 24, .inl f_p0_opening)), (a_p0_pull, .inl (cI, 6, .inl f_p0_pull))] s.heap := hP
  have hK : va_K D vwCl (ztys cI cC cO cJ) s := hK
  have hl := lv_entry ([.ref a_this, .ref a_p0]) (n := 3) (Nat.le_of_ble_eq_true rfl)
  rw [lg_entry_eq]
  generalize (lg_sl ([.ref a_this, .ref a_p0]) ++ List.replicate (3 - (lg_sl ([.ref a_this, .ref a_p0])).length) Slot.unset).toArray = ls at hl ⊢
  have hl : lv_has ls 3 [(0, .ref a_this), (1, .ref a_p0)] := hl
  unfold F_X2_lookFrom at h
  refine lv_aload_n hx hb dX2_lookFrom_0 rfl (lv_at hl 0 rfl) ?_
  refine va_get (D := D) (ci := 2) (v := .ref a_slots) (C := RX2) (T := TX2) (N := 11) hx hb hts hinX2 hown hK hP 0 rfl rfl 1 (by decide) (hts (Cond.fieldLink RX2 15 "LadderRelays$Ways" "slots" "[I") (List.mem_of_getElem? (i := 1) rfl)) (fun _ h9 => h9) rfl dX2_lookFrom_1 ?_
  refine lv_iconst (v := (0 : Int32)) hx hb dX2_lookFrom_4 (by decide) ?_
  obtain ⟨v1, hv1, h⟩ := zbnd h
  have hPc := hP.sub (ws' := [(a_slots, .inl (cI, 512, .inl f_slots))]) [2] rfl
  have hDc := hD.sub (ws' := [(a_slots, .inl (cI, 512, .inl f_slots))]) [2] (by decide) rfl
  have hFc := va_free (wc := [(a_slots, .inl (cI, 512, .inl f_slots))]) hD hS hA [2] rfl
  refine zc_wv (va_runS (As := [.ref a_slots, .int (0 : Int32)]) (rest := []) ⟨hx, hb, hml, hown, hts⟩ (c_J7_fill_53178 l D cI cC cO cJ fu a_slots _ f_slots 512 (0 : Int32) v1 hv1) (va_cwS 2 hts gX2_lookFrom_J7_fill_53178 rfl rfl rfl (by decide +kernel) ⟨Nat.le_of_ble_eq_true rfl, Nat.le_of_ble_eq_true rfl⟩) (zPw_S hK hPc hDc) rfl rfl hl.1 rfl (lv_room (Nat.le_of_ble_eq_true rfl)) dX2_lookFrom_5 ⟨Nat.zero_le _, Nat.zero_le _⟩) hS hFc (fun H locs hk1 hP1 hS => ?_)
  obtain ⟨hP, hD⟩ := zjn (ws' := [(a_this, .inr (2, [.ref a_met, .ref a_slots, .ref a_outcomes, .ref a_outcome, .ref a_arrivals, .ref a_freed, .ref a_called, .long f_rests, .int f_states, .int f_told, .int f_wheel])), (a_met, .inl (cI, 300, .inl f_met)), (a_slots, .inl (cI, 512, .inl v1)), (a_outcomes, .inl (cI, 300, .inl f_outcomes)), (a_outcome, .inl (cI, 2100, .inl f_outcome)), (a_arrivals, .inl (cI, 300, .inl f_arrivals)), (a_freed, .inl (cI, 300, .inl f_freed)), (a_called, .inl (cI, 64, .inl f_called)), (a_p0, .inr (0, [.int f_p0_relays, .ref a_p0_branches, .ref a_p0_closing, .ref a_p0_opening, .ref a_p0_pull, .ref a_p0_drop, .ref a_p0_changed, .int f_p0_inputs, .int f_p0_motion, .int f_p0_ticks, .int f_p0_changes])), (a_p0_branches, .inl (cI, 6, .inl f_p0_branches)), (a_p0_closing, .inl (cI, 24, .inl f_p0_closing)), (a_p0_drop, .inl (cI, 6, .inl f_p0_drop)), (a_p0_opening, .inl (cI, 24, .inl f_p0_opening)), (a_p0_pull, .inl (cI, 6, .inl f_p0_pull))]) hP hD [2] [.inl 0, .inl 1, .inr 0, .inl 3, .inl 4, .inl 5, .inl 6, .inl 7, .inl 8, .inl 9, .inl 10, .inl 11, .inl 12, .inl 13] rfl rfl rfl hk1 hP1
  refine lv_aload_n hx hb dX2_lookFrom_8 rfl (lv_at hl 0 rfl) ?_
  refine va_get (D := D) (ci := 2) (v := .ref a_called) (C := RX2) (T := TX2) (N := 11) hx hb hts hinX2 hown hK hP 0 rfl rfl 6 (by decide) (hts (Cond.fieldLink RX2 30 "LadderRelays$Ways" "called" "[I") (List.mem_of_getElem? (i := 2) rfl)) (fun _ h9 => h9) rfl dX2_lookFrom_9 ?_
  refine lv_iconst (v := (-1 : Int32)) hx hb dX2_lookFrom_12 (by decide) ?_
  obtain ⟨v2, hv2, h⟩ := zbnd h
  have hPc := hP.sub (ws' := [(a_called, .inl (cI, 64, .inl f_called))]) [7] rfl
  have hDc := hD.sub (ws' := [(a_called, .inl (cI, 64, .inl f_called))]) [7] (by decide) rfl
  have hFc := va_free (wc := [(a_called, .inl (cI, 64, .inl f_called))]) hD hS hA [7] rfl
  refine zc_wv (va_runS (As := [.ref a_called, .int (-1 : Int32)]) (rest := []) ⟨hx, hb, hml, hown, hts⟩ (c_J7_fill_53178 l D cI cC cO cJ fu a_called _ f_called 64 (-1 : Int32) v2 hv2) (va_cwS 2 hts gX2_lookFrom_J7_fill_53178 rfl rfl rfl (by decide +kernel) ⟨Nat.le_of_ble_eq_true rfl, Nat.le_of_ble_eq_true rfl⟩) (zPw_S hK hPc hDc) rfl rfl hl.1 rfl (lv_room (Nat.le_of_ble_eq_true rfl)) dX2_lookFrom_13 ⟨Nat.zero_le _, Nat.zero_le _⟩) hS hFc (fun H locs hk1 hP1 hS => ?_)
  obtain ⟨hP, hD⟩ := zjn (ws' := [(a_this, .inr (2, [.ref a_met, .ref a_slots, .ref a_outcomes, .ref a_outcome, .ref a_arrivals, .ref a_freed, .ref a_called, .long f_rests, .int f_states, .int f_told, .int f_wheel])), (a_met, .inl (cI, 300, .inl f_met)), (a_slots, .inl (cI, 512, .inl v1)), (a_outcomes, .inl (cI, 300, .inl f_outcomes)), (a_outcome, .inl (cI, 2100, .inl f_outcome)), (a_arrivals, .inl (cI, 300, .inl f_arrivals)), (a_freed, .inl (cI, 300, .inl f_freed)), (a_called, .inl (cI, 64, .inl v2)), (a_p0, .inr (0, [.int f_p0_relays, .ref a_p0_branches, .ref a_p0_closing, .ref a_p0_opening, .ref a_p0_pull, .ref a_p0_drop, .ref a_p0_changed, .int f_p0_inputs, .int f_p0_motion, .int f_p0_ticks, .int f_p0_changes])), (a_p0_branches, .inl (cI, 6, .inl f_p0_branches)), (a_p0_closing, .inl (cI, 24, .inl f_p0_closing)), (a_p0_drop, .inl (cI, 6, .inl f_p0_drop)), (a_p0_opening, .inl (cI, 24, .inl f_p0_opening)), (a_p0_pull, .inl (cI, 6, .inl f_p0_pull))]) hP hD [7] [.inl 0, .inl 1, .inl 2, .inl 3, .inl 4, .inl 5, .inl 6, .inr 0, .inl 8, .inl 9, .inl 10, .inl 11, .inl 12, .inl 13] rfl rfl rfl hk1 hP1
  refine lv_aload_n hx hb dX2_lookFrom_16 rfl (lv_at hl 0 rfl) ?_
  refine lv_lconst (v := (0 : Int64)) hx hb dX2_lookFrom_17 (by decide) ?_
  refine va_put (D := D) (ci := 2) (v := .long (0 : Int64)) (ty := .long) (C := RX2) (T := TX2) (N := 11) hx hb hts hinX2 tyX2 tyX2_ok nmX2 hown hK hP hD hS 0 rfl rfl 7 (by decide) (hts (Cond.fieldLink RX2 39 "LadderRelays$Ways" "rests" "J") (List.mem_of_getElem? (i := 3) rfl)) (fun _ h9 => h9) rfl (by decide +kernel) rfl rfl (Nat.le_of_ble_eq_true rfl) dX2_lookFrom_18 (fun H locs hP hD hS => ?_)
  have hP : va_P D vwCl [(a_this, .inr (2, [.ref a_met, .ref a_slots, .ref a_outcomes, .ref a_outcome, .ref a_arrivals, .ref a_freed, .ref a_called, .long (0 : Int64), .int f_states, .int f_told, .int f_wheel])), (a_met, .inl (cI, 300, .inl f_met)), (a_slots, .inl (cI, 512, .inl v1)), (a_outcomes, .inl (cI, 300, .inl f_outcomes)), (a_outcome, .inl (cI, 2100, .inl f_outcome)), (a_arrivals, .inl (cI, 300, .inl f_arrivals)), (a_freed, .inl (cI, 300, .inl f_freed)), (a_called, .inl (cI, 64, .inl v2)), (a_p0, .inr (0, [.int f_p0_relays, .ref a_p0_branches, .ref a_p0_closing, .ref a_p0_opening, .ref a_p0_pull, .ref a_p0_drop, .ref a_p0_changed, .int f_p0_inputs, .int f_p0_motion, .int f_p0_ticks, .int f_p0_changes])), (a_p0_branches, .inl (cI, 6, .inl f_p0_branches)), (a_p0_closing, .inl (cI, 24, .inl f_p0_closing)), (a_p0_drop, .inl (cI, 6, .inl f_p0_drop)), (a_p0_opening, .inl (cI, 24, .inl f_p0_opening)), (a_p0_pull, .inl (cI, 6, .inl f_p0_pull))] H := hP
  have hD : va_D A [(a_this, .inr (2, [.ref a_met, .ref a_slots, .ref a_outcomes, .ref a_outcome, .ref a_arrivals, .ref a_freed, .ref a_called, .long (0 : Int64), .int f_states, .int f_told, .int f_wheel])), (a_met, .inl (cI, 300, .inl f_met)), (a_slots, .inl (cI, 512, .inl v1)), (a_outcomes, .inl (cI, 300, .inl f_outcomes)), (a_outcome, .inl (cI, 2100, .inl f_outcome)), (a_arrivals, .inl (cI, 300, .inl f_arrivals)), (a_freed, .inl (cI, 300, .inl f_freed)), (a_called, .inl (cI, 64, .inl v2)), (a_p0, .inr (0, [.int f_p0_relays, .ref a_p0_branches, .ref a_p0_closing, .ref a_p0_opening, .ref a_p0_pull, .ref a_p0_drop, .ref a_p0_changed, .int f_p0_inputs, .int f_p0_motion, .int f_p0_ticks, .int f_p0_changes])), (a_p0_branches, .inl (cI, 6, .inl f_p0_branches)), (a_p0_closing, .inl (cI, 24, .inl f_p0_closing)), (a_p0_drop, .inl (cI, 6, .inl f_p0_drop)), (a_p0_opening, .inl (cI, 24, .inl f_p0_opening)), (a_p0_pull, .inl (cI, 6, .inl f_p0_pull))] := hD
  refine lv_aload_n hx hb dX2_lookFrom_21 rfl (lv_at hl 0 rfl) ?_
  refine lv_iconst (v := (0 : Int32)) hx hb dX2_lookFrom_22 (by decide) ?_
  refine va_put (D := D) (ci := 2) (v := .int (0 : Int32)) (ty := .int) (C := RX2) (T := TX2) (N := 11) hx hb hts hinX2 tyX2 tyX2_ok nmX2 hown hK hP hD hS 0 rfl rfl 8 (by decide) (hts (Cond.fieldLink RX2 43 "LadderRelays$Ways" "states" "I") (List.mem_of_getElem? (i := 4) rfl)) (fun _ h9 => h9) rfl (by decide +kernel) rfl rfl (Nat.le_of_ble_eq_true rfl) dX2_lookFrom_23 (fun H locs hP hD hS => ?_)
  have hP : va_P D vwCl [(a_this, .inr (2, [.ref a_met, .ref a_slots, .ref a_outcomes, .ref a_outcome, .ref a_arrivals, .ref a_freed, .ref a_called, .long (0 : Int64), .int (0 : Int32), .int f_told, .int f_wheel])), (a_met, .inl (cI, 300, .inl f_met)), (a_slots, .inl (cI, 512, .inl v1)), (a_outcomes, .inl (cI, 300, .inl f_outcomes)), (a_outcome, .inl (cI, 2100, .inl f_outcome)), (a_arrivals, .inl (cI, 300, .inl f_arrivals)), (a_freed, .inl (cI, 300, .inl f_freed)), (a_called, .inl (cI, 64, .inl v2)), (a_p0, .inr (0, [.int f_p0_relays, .ref a_p0_branches, .ref a_p0_closing, .ref a_p0_opening, .ref a_p0_pull, .ref a_p0_drop, .ref a_p0_changed, .int f_p0_inputs, .int f_p0_motion, .int f_p0_ticks, .int f_p0_changes])), (a_p0_branches, .inl (cI, 6, .inl f_p0_branches)), (a_p0_closing, .inl (cI, 24, .inl f_p0_closing)), (a_p0_drop, .inl (cI, 6, .inl f_p0_drop)), (a_p0_opening, .inl (cI, 24, .inl f_p0_opening)), (a_p0_pull, .inl (cI, 6, .inl f_p0_pull))] H := hP
  have hD : va_D A [(a_this, .inr (2, [.ref a_met, .ref a_slots, .ref a_outcomes, .ref a_outcome, .ref a_arrivals, .ref a_freed, .ref a_called, .long (0 : Int64), .int (0 : Int32), .int f_told, .int f_wheel])), (a_met, .inl (cI, 300, .inl f_met)), (a_slots, .inl (cI, 512, .inl v1)), (a_outcomes, .inl (cI, 300, .inl f_outcomes)), (a_outcome, .inl (cI, 2100, .inl f_outcome)), (a_arrivals, .inl (cI, 300, .inl f_arrivals)), (a_freed, .inl (cI, 300, .inl f_freed)), (a_called, .inl (cI, 64, .inl v2)), (a_p0, .inr (0, [.int f_p0_relays, .ref a_p0_branches, .ref a_p0_closing, .ref a_p0_opening, .ref a_p0_pull, .ref a_p0_drop, .ref a_p0_changed, .int f_p0_inputs, .int f_p0_motion, .int f_p0_ticks, .int f_p0_changes])), (a_p0_branches, .inl (cI, 6, .inl f_p0_branches)), (a_p0_closing, .inl (cI, 24, .inl f_p0_closing)), (a_p0_drop, .inl (cI, 6, .inl f_p0_drop)), (a_p0_opening, .inl (cI, 24, .inl f_p0_opening)), (a_p0_pull, .inl (cI, 6, .inl f_p0_pull))] := hD
  refine lv_aload_n hx hb dX2_lookFrom_26 rfl (lv_at hl 0 rfl) ?_
  refine lv_iconst (v := (1 : Int32)) hx hb dX2_lookFrom_27 (by decide) ?_
  refine va_put (D := D) (ci := 2) (v := .int (1 : Int32)) (ty := .boolean) (C := RX2) (T := TX2) (N := 11) hx hb hts hinX2 tyX2 tyX2_ok nmX2 hown hK hP hD hS 0 rfl rfl 9 (by decide) (hts (Cond.fieldLink RX2 47 "LadderRelays$Ways" "told" "Z") (List.mem_of_getElem? (i := 5) rfl)) (fun _ h9 => h9) rfl (by decide +kernel) rfl rfl (Nat.le_of_ble_eq_true rfl) dX2_lookFrom_28 (fun H locs hP hD hS => ?_)
  have hP : va_P D vwCl [(a_this, .inr (2, [.ref a_met, .ref a_slots, .ref a_outcomes, .ref a_outcome, .ref a_arrivals, .ref a_freed, .ref a_called, .long (0 : Int64), .int (0 : Int32), .int (1 : Int32), .int f_wheel])), (a_met, .inl (cI, 300, .inl f_met)), (a_slots, .inl (cI, 512, .inl v1)), (a_outcomes, .inl (cI, 300, .inl f_outcomes)), (a_outcome, .inl (cI, 2100, .inl f_outcome)), (a_arrivals, .inl (cI, 300, .inl f_arrivals)), (a_freed, .inl (cI, 300, .inl f_freed)), (a_called, .inl (cI, 64, .inl v2)), (a_p0, .inr (0, [.int f_p0_relays, .ref a_p0_branches, .ref a_p0_closing, .ref a_p0_opening, .ref a_p0_pull, .ref a_p0_drop, .ref a_p0_changed, .int f_p0_inputs, .int f_p0_motion, .int f_p0_ticks, .int f_p0_changes])), (a_p0_branches, .inl (cI, 6, .inl f_p0_branches)), (a_p0_closing, .inl (cI, 24, .inl f_p0_closing)), (a_p0_drop, .inl (cI, 6, .inl f_p0_drop)), (a_p0_opening, .inl (cI, 24, .inl f_p0_opening)), (a_p0_pull, .inl (cI, 6, .inl f_p0_pull))] H := hP
  have hD : va_D A [(a_this, .inr (2, [.ref a_met, .ref a_slots, .ref a_outcomes, .ref a_outcome, .ref a_arrivals, .ref a_freed, .ref a_called, .long (0 : Int64), .int (0 : Int32), .int (1 : Int32), .int f_wheel])), (a_met, .inl (cI, 300, .inl f_met)), (a_slots, .inl (cI, 512, .inl v1)), (a_outcomes, .inl (cI, 300, .inl f_outcomes)), (a_outcome, .inl (cI, 2100, .inl f_outcome)), (a_arrivals, .inl (cI, 300, .inl f_arrivals)), (a_freed, .inl (cI, 300, .inl f_freed)), (a_called, .inl (cI, 64, .inl v2)), (a_p0, .inr (0, [.int f_p0_relays, .ref a_p0_branches, .ref a_p0_closing, .ref a_p0_opening, .ref a_p0_pull, .ref a_p0_drop, .ref a_p0_changed, .int f_p0_inputs, .int f_p0_motion, .int f_p0_ticks, .int f_p0_changes])), (a_p0_branches, .inl (cI, 6, .inl f_p0_branches)), (a_p0_closing, .inl (cI, 24, .inl f_p0_closing)), (a_p0_drop, .inl (cI, 6, .inl f_p0_drop)), (a_p0_opening, .inl (cI, 24, .inl f_p0_opening)), (a_p0_pull, .inl (cI, 6, .inl f_p0_pull))] := hD
  refine lv_aload_n hx hb dX2_lookFrom_31 rfl (lv_at hl 0 rfl) ?_
  refine lv_aload_n hx hb dX2_lookFrom_32 rfl (lv_at hl 1 rfl) ?_
  refine va_get (D := D) (ci := 0) (v := .int f_p0_motion) (C := RX0) (T := TX0) (N := 11) hx hb hts hinX0 hown hK hP 8 rfl rfl 8 (by decide) (hts (Cond.fieldLink RX2 51 "LadderRelays$Ladder" "motion" "I") (List.mem_of_getElem? (i := 6) rfl)) (fun _ h9 => h9) rfl dX2_lookFrom_33 ?_
  refine lv_aload_n hx hb dX2_lookFrom_36 rfl (lv_at hl 0 rfl) ?_
  refine lv_aload_n hx hb dX2_lookFrom_37 rfl (lv_at hl 1 rfl) ?_
  refine va_get (D := D) (ci := 0) (v := .int f_p0_motion) (C := RX0) (T := TX0) (N := 11) hx hb hts hinX0 hown hK hP 8 rfl rfl 8 (by decide) (hts (Cond.fieldLink RX2 51 "LadderRelays$Ladder" "motion" "I") (List.mem_of_getElem? (i := 6) rfl)) (fun _ h9 => h9) rfl dX2_lookFrom_38 ?_
  obtain ⟨v3, hv3, h⟩ := zbnd h
  have hPc := hP.sub (ws' := [(a_this, .inr (2, [.ref a_met, .ref a_slots, .ref a_outcomes, .ref a_outcome, .ref a_arrivals, .ref a_freed, .ref a_called, .long (0 : Int64), .int (0 : Int32), .int (1 : Int32), .int f_wheel])), (a_met, .inl (cI, 300, .inl f_met)), (a_slots, .inl (cI, 512, .inl v1))]) [0, 1, 2] rfl
  refine zc_i (W.runV (C := RX2) (As := [.int f_p0_motion]) (rest := [.int f_p0_motion, .ref a_this]) ⟨hx, hb, hml, hown, hts⟩ (c_X2_slotOf l D cI cC cO cJ fu a_this a_met a_slots a_outcomes a_outcome a_arrivals a_freed a_called (0 : Int64) (0 : Int32) (1 : Int32) f_wheel f_met v1 f_p0_motion v3 hv3) (cwV 1 hts gX2_lookFrom_X2_slotOf rfl rfl rfl (by decide +kernel) ⟨Nat.le_of_ble_eq_true rfl, Nat.le_of_ble_eq_true rfl⟩) ⟨zPr_blind, (va_recv hK hP (q0 := 0) (ci := 2) rfl rfl), zPr_pre hK hPc⟩ rfl rfl hl.1 rfl (lv_room (Nat.le_of_ble_eq_true rfl)) dX2_lookFrom_41 ⟨Nat.zero_le _, Nat.zero_le _⟩) ?_
  obtain ⟨v4, hv4, h⟩ := zbnd h
  have hPc := hP.sub (ws' := [(a_this, .inr (2, [.ref a_met, .ref a_slots, .ref a_outcomes, .ref a_outcome, .ref a_arrivals, .ref a_freed, .ref a_called, .long (0 : Int64), .int (0 : Int32), .int (1 : Int32), .int f_wheel])), (a_met, .inl (cI, 300, .inl f_met)), (a_slots, .inl (cI, 512, .inl v1))]) [0, 1, 2] rfl
  have hDc := hD.sub (ws' := [(a_this, .inr (2, [.ref a_met, .ref a_slots, .ref a_outcomes, .ref a_outcome, .ref a_arrivals, .ref a_freed, .ref a_called, .long (0 : Int64), .int (0 : Int32), .int (1 : Int32), .int f_wheel])), (a_met, .inl (cI, 300, .inl f_met)), (a_slots, .inl (cI, 512, .inl v1))]) [0, 1, 2] (by decide) rfl
  have hFc := va_free (wc := [(a_this, .inr (2, [.ref a_met, .ref a_slots, .ref a_outcomes, .ref a_outcome, .ref a_arrivals, .ref a_freed, .ref a_called, .long (0 : Int64), .int (0 : Int32), .int (1 : Int32), .int f_wheel])), (a_met, .inl (cI, 300, .inl f_met)), (a_slots, .inl (cI, 512, .inl v1))]) hD hS hA [0, 1, 2] rfl
  refine zc_wi (va_runV (C := RX2) (As := [.int f_p0_motion, .int v3]) (rest := []) ⟨hx, hb, hml, hown, hts⟩ (c_X2_meet l D cI cC cO cJ fu a_this a_met a_slots a_outcomes a_outcome a_arrivals a_freed a_called _ (0 : Int64) (0 : Int32) (1 : Int32) f_wheel f_met v1 f_p0_motion v3 v4 hv4) (cwV 2 hts gX2_lookFrom_X2_meet rfl rfl rfl (by decide +kernel) ⟨Nat.le_of_ble_eq_true rfl, Nat.le_of_ble_eq_true rfl⟩) ⟨zPw_blind, (va_recv hK hP (q0 := 0) (ci := 2) rfl rfl), zPw_pre hK hPc hDc⟩ rfl rfl hl.1 rfl (lv_room (Nat.le_of_ble_eq_true rfl)) dX2_lookFrom_44 ⟨Nat.zero_le _, Nat.zero_le _⟩) hS hFc (fun H locs hk1 hP1 hS => ?_)
  obtain ⟨hP, hD⟩ := zjn (ws' := [(a_this, .inr (2, [.ref a_met, .ref a_slots, .ref a_outcomes, .ref a_outcome, .ref a_arrivals, .ref a_freed, .ref a_called, .long (0 : Int64), .int v4.2.1, .int v4.2.2.1, .int f_wheel])), (a_met, .inl (cI, 300, .inl v4.2.2.2.1)), (a_slots, .inl (cI, 512, .inl v4.2.2.2.2)), (a_outcomes, .inl (cI, 300, .inl f_outcomes)), (a_outcome, .inl (cI, 2100, .inl f_outcome)), (a_arrivals, .inl (cI, 300, .inl f_arrivals)), (a_freed, .inl (cI, 300, .inl f_freed)), (a_called, .inl (cI, 64, .inl v2)), (a_p0, .inr (0, [.int f_p0_relays, .ref a_p0_branches, .ref a_p0_closing, .ref a_p0_opening, .ref a_p0_pull, .ref a_p0_drop, .ref a_p0_changed, .int f_p0_inputs, .int f_p0_motion, .int f_p0_ticks, .int f_p0_changes])), (a_p0_branches, .inl (cI, 6, .inl f_p0_branches)), (a_p0_closing, .inl (cI, 24, .inl f_p0_closing)), (a_p0_drop, .inl (cI, 6, .inl f_p0_drop)), (a_p0_opening, .inl (cI, 24, .inl f_p0_opening)), (a_p0_pull, .inl (cI, 6, .inl f_p0_pull))]) hP hD [0, 1, 2] [.inr 0, .inr 1, .inr 2, .inl 3, .inl 4, .inl 5, .inl 6, .inl 7, .inl 8, .inl 9, .inl 10, .inl 11, .inl 12, .inl 13] rfl rfl rfl hk1 hP1
  refine lv_pop hx hb dX2_lookFrom_47 rfl ?_
  refine lv_iconst (v := (0 : Int32)) hx hb dX2_lookFrom_48 (by decide) ?_
  refine lv_istore_n (lv' := [(2, .int (0 : Int32)), (0, .ref a_this), (1, .ref a_p0)]) hx hb dX2_lookFrom_49 rfl hl (by decide) rfl (fun ls hl => ?_)
  have E84 : ∀ (v5 : Int32) (v6 : Int64) (v7 : Int32) (v8 : Int32) (v9 : Nat → Int32) (v10 : Nat → Int32) (v11 : Nat → Int32) (v12 : Nat → Int32) (v13 : Nat → Int32), F_X2_lookFrom_E84 fu f_arrivals f_freed v5 v6 v7 v8 v9 v10 v11 v12 v13 = some R → ∀ (H : Heap) (locs : List Loc), va_P D vwCl [(a_this, .inr (2, [.ref a_met, .ref a_slots, .ref a_outcomes, .ref a_outcome, .ref a_arrivals, .ref a_freed, .ref a_called, .long v6, .int v7, .int v8, .int f_wheel])), (a_met, .inl (cI, 300, .inl v9)), (a_slots, .inl (cI, 512, .inl v10)), (a_outcomes, .inl (cI, 300, .inl v11)), (a_outcome, .inl (cI, 2100, .inl v12)), (a_arrivals, .inl (cI, 300, .inl f_arrivals)), (a_freed, .inl (cI, 300, .inl f_freed)), (a_called, .inl (cI, 64, .inl v13)), (a_p0, .inr (0, [.int f_p0_relays, .ref a_p0_branches, .ref a_p0_closing, .ref a_p0_opening, .ref a_p0_pull, .ref a_p0_drop, .ref a_p0_changed, .int f_p0_inputs, .int f_p0_motion, .int f_p0_ticks, .int f_p0_changes])), (a_p0_branches, .inl (cI, 6, .inl f_p0_branches)), (a_p0_closing, .inl (cI, 24, .inl f_p0_closing)), (a_p0_drop, .inl (cI, 6, .inl f_p0_drop)), (a_p0_opening, .inl (cI, 24, .inl f_p0_opening)), (a_p0_pull, .inl (cI, 6, .inl f_p0_pull))] H → va_D A [(a_this, .inr (2, [.ref a_met, .ref a_slots, .ref a_outcomes, .ref a_outcome, .ref a_arrivals, .ref a_freed, .ref a_called, .long v6, .int v7, .int v8, .int f_wheel])), (a_met, .inl (cI, 300, .inl v9)), (a_slots, .inl (cI, 512, .inl v10)), (a_outcomes, .inl (cI, 300, .inl v11)), (a_outcome, .inl (cI, 2100, .inl v12)), (a_arrivals, .inl (cI, 300, .inl f_arrivals)), (a_freed, .inl (cI, 300, .inl f_freed)), (a_called, .inl (cI, 64, .inl v13)), (a_p0, .inr (0, [.int f_p0_relays, .ref a_p0_branches, .ref a_p0_closing, .ref a_p0_opening, .ref a_p0_pull, .ref a_p0_drop, .ref a_p0_changed, .int f_p0_inputs, .int f_p0_motion, .int f_p0_ticks, .int f_p0_changes])), (a_p0_branches, .inl (cI, 6, .inl f_p0_branches)), (a_p0_closing, .inl (cI, 24, .inl f_p0_closing)), (a_p0_drop, .inl (cI, 6, .inl f_p0_drop)), (a_p0_opening, .inl (cI, 24, .inl f_p0_opening)), (a_p0_pull, .inl (cI, 6, .inl f_p0_pull))] → va_S A s.heap H locs → ∀ ls : Array Slot, lv_has ls 3 [(0, .ref a_this), (1, .ref a_p0), (2, .int v5)] → W p l e ({ frames := 3, cells := 0, slots := 0, locals := 75 } : Room) s m (([.ref a_this, .ref a_p0] : List Value).toArray) below meth c H locs 0 0 (MQ below (zWv D [(a_this, .inr (2, [.ref a_met, .ref a_slots, .ref a_outcomes, .ref a_outcome, .ref a_arrivals, .ref a_freed, .ref a_called, .long R.1, .int R.2.1, .int R.2.2.1, .int R.2.2.2.1])), (a_met, .inl (cI, 300, .inl R.2.2.2.2.1)), (a_slots, .inl (cI, 512, .inl R.2.2.2.2.2.1)), (a_outcomes, .inl (cI, 300, .inl R.2.2.2.2.2.2.1)), (a_outcome, .inl (cI, 2100, .inl R.2.2.2.2.2.2.2.1)), (a_arrivals, .inl (cI, 300, .inl R.2.2.2.2.2.2.2.2.1)), (a_freed, .inl (cI, 300, .inl R.2.2.2.2.2.2.2.2.2.1)), (a_called, .inl (cI, 64, .inl R.2.2.2.2.2.2.2.2.2.2)), (a_p0, .inr (0, [.int f_p0_relays, .ref a_p0_branches, .ref a_p0_closing, .ref a_p0_opening, .ref a_p0_pull, .ref a_p0_drop, .ref a_p0_changed, .int f_p0_inputs, .int f_p0_motion, .int f_p0_ticks, .int f_p0_changes])), (a_p0_branches, .inl (cI, 6, .inl f_p0_branches)), (a_p0_closing, .inl (cI, 24, .inl f_p0_closing)), (a_p0_drop, .inl (cI, 6, .inl f_p0_drop)), (a_p0_opening, .inl (cI, 24, .inl f_p0_opening)), (a_p0_pull, .inl (cI, 6, .inl f_p0_pull))] A) (([.ref a_this, .ref a_p0] : List Value).toArray) s 0 0 A) (F0 m 84 ls []) := by
    intro v5 v6 v7 v8 v9 v10 v11 v12 v13 h H locs hP hD hS ls hl
    unfold F_X2_lookFrom_E84 at h
    refine lv_aload_n hx hb dX2_lookFrom_84 rfl (lv_at hl 0 rfl) ?_
    refine lv_aload_n hx hb dX2_lookFrom_85 rfl (lv_at hl 0 rfl) ?_
    refine va_get (D := D) (ci := 2) (v := .int v8) (C := RX2) (T := TX2) (N := 11) hx hb hts hinX2 hown hK hP 0 rfl rfl 9 (by decide) (hts (Cond.fieldLink RX2 47 "LadderRelays$Ways" "told" "Z") (List.mem_of_getElem? (i := 5) rfl)) (fun _ h9 => h9) rfl dX2_lookFrom_86 ?_
    refine lv_if_eq (tgt := 103) hx hb dX2_lookFrom_89 (by decide) (fun c14 => ?_) (fun c14 => ?_)
    · have h := zif_t c14 h
      refine lv_iconst (v := (0 : Int32)) hx hb dX2_lookFrom_103 (by decide) ?_
      refine va_put (D := D) (ci := 2) (v := .int (0 : Int32)) (ty := .boolean) (C := RX2) (T := TX2) (N := 11) hx hb hts hinX2 tyX2 tyX2_ok nmX2 hown hK hP hD hS 0 rfl rfl 10 (by decide) (hts (Cond.fieldLink RX2 72 "LadderRelays$Ways" "wheel" "Z") (List.mem_of_getElem? (i := 7) rfl)) (fun _ h9 => h9) rfl (by decide +kernel) rfl rfl (Nat.le_of_ble_eq_true rfl) dX2_lookFrom_104 (fun H locs hP hD hS => ?_)
      have hP : va_P D vwCl [(a_this, .inr (2, [.ref a_met, .ref a_slots, .ref a_outcomes, .ref a_outcome, .ref a_arrivals, .ref a_freed, .ref a_called, .long v6, .int v7, .int v8, .int (0 : Int32)])), (a_met, .inl (cI, 300, .inl v9)), (a_slots, .inl (cI, 512, .inl v10)), (a_outcomes, .inl (cI, 300, .inl v11)), (a_outcome, .inl (cI, 2100, .inl v12)), (a_arrivals, .inl (cI, 300, .inl f_arrivals)), (a_freed, .inl (cI, 300, .inl f_freed)), (a_called, .inl (cI, 64, .inl v13)), (a_p0, .inr (0, [.int f_p0_relays, .ref a_p0_branches, .ref a_p0_closing, .ref a_p0_opening, .ref a_p0_pull, .ref a_p0_drop, .ref a_p0_changed, .int f_p0_inputs, .int f_p0_motion, .int f_p0_ticks, .int f_p0_changes])), (a_p0_branches, .inl (cI, 6, .inl f_p0_branches)), (a_p0_closing, .inl (cI, 24, .inl f_p0_closing)), (a_p0_drop, .inl (cI, 6, .inl f_p0_drop)), (a_p0_opening, .inl (cI, 24, .inl f_p0_opening)), (a_p0_pull, .inl (cI, 6, .inl f_p0_pull))] H := hP
      have hD : va_D A [(a_this, .inr (2, [.ref a_met, .ref a_slots, .ref a_outcomes, .ref a_outcome, .ref a_arrivals, .ref a_freed, .ref a_called, .long v6, .int v7, .int v8, .int (0 : Int32)])), (a_met, .inl (cI, 300, .inl v9)), (a_slots, .inl (cI, 512, .inl v10)), (a_outcomes, .inl (cI, 300, .inl v11)), (a_outcome, .inl (cI, 2100, .inl v12)), (a_arrivals, .inl (cI, 300, .inl f_arrivals)), (a_freed, .inl (cI, 300, .inl f_freed)), (a_called, .inl (cI, 64, .inl v13)), (a_p0, .inr (0, [.int f_p0_relays, .ref a_p0_branches, .ref a_p0_closing, .ref a_p0_opening, .ref a_p0_pull, .ref a_p0_drop, .ref a_p0_changed, .int f_p0_inputs, .int f_p0_motion, .int f_p0_ticks, .int f_p0_changes])), (a_p0_branches, .inl (cI, 6, .inl f_p0_branches)), (a_p0_closing, .inl (cI, 24, .inl f_p0_closing)), (a_p0_drop, .inl (cI, 6, .inl f_p0_drop)), (a_p0_opening, .inl (cI, 24, .inl f_p0_opening)), (a_p0_pull, .inl (cI, 6, .inl f_p0_pull))] := hD
      have hR := Option.some.inj h
      subst hR
      exact W.vret hx hb hr (fun t ht hW => ⟨⟨(), rfl, trivial, zhp ht hP⟩, hS.F ht⟩) hS.2.2 dX2_lookFrom_107
    · have h := zif_f c14 h
      refine lv_aload_n hx hb dX2_lookFrom_92 rfl (lv_at hl 0 rfl) ?_
      obtain ⟨v15, hv15, h⟩ := zbnd h
      have hPc := hP.sub (ws' := [(a_this, .inr (2, [.ref a_met, .ref a_slots, .ref a_outcomes, .ref a_outcome, .ref a_arrivals, .ref a_freed, .ref a_called, .long v6, .int v7, .int v8, .int f_wheel])), (a_outcomes, .inl (cI, 300, .inl v11)), (a_outcome, .inl (cI, 2100, .inl v12)), (a_arrivals, .inl (cI, 300, .inl f_arrivals)), (a_freed, .inl (cI, 300, .inl f_freed))]) [0, 3, 4, 5, 6] rfl
      have hDc := hD.sub (ws' := [(a_this, .inr (2, [.ref a_met, .ref a_slots, .ref a_outcomes, .ref a_outcome, .ref a_arrivals, .ref a_freed, .ref a_called, .long v6, .int v7, .int v8, .int f_wheel])), (a_outcomes, .inl (cI, 300, .inl v11)), (a_outcome, .inl (cI, 2100, .inl v12)), (a_arrivals, .inl (cI, 300, .inl f_arrivals)), (a_freed, .inl (cI, 300, .inl f_freed))]) [0, 3, 4, 5, 6] (by decide) rfl
      have hFc := va_free (wc := [(a_this, .inr (2, [.ref a_met, .ref a_slots, .ref a_outcomes, .ref a_outcome, .ref a_arrivals, .ref a_freed, .ref a_called, .long v6, .int v7, .int v8, .int f_wheel])), (a_outcomes, .inl (cI, 300, .inl v11)), (a_outcome, .inl (cI, 2100, .inl v12)), (a_arrivals, .inl (cI, 300, .inl f_arrivals)), (a_freed, .inl (cI, 300, .inl f_freed))]) hD hS hA [0, 3, 4, 5, 6] rfl
      refine zc_wi (va_runV (C := RX2) (As := []) (rest := [.ref a_this]) ⟨hx, hb, hml, hown, hts⟩ (c_X2_hasWheel l D cI cC cO cJ fu a_this a_met a_slots a_outcomes a_outcome a_arrivals a_freed a_called _ v6 v7 v8 f_wheel v11 v12 f_arrivals f_freed v15 hv15) (cwV 0 hts gX2_lookFrom_X2_hasWheel rfl rfl rfl (by decide +kernel) ⟨Nat.le_of_ble_eq_true rfl, Nat.le_of_ble_eq_true rfl⟩) ⟨zPw_blind, (va_recv hK hP (q0 := 0) (ci := 2) rfl rfl), zPw_pre hK hPc hDc⟩ rfl rfl hl.1 rfl (lv_room (Nat.le_of_ble_eq_true rfl)) dX2_lookFrom_93 ⟨Nat.zero_le _, Nat.zero_le _⟩) hS hFc (fun H locs hk1 hP1 hS => ?_)
      obtain ⟨hP, hD⟩ := zjn (ws' := [(a_this, .inr (2, [.ref a_met, .ref a_slots, .ref a_outcomes, .ref a_outcome, .ref a_arrivals, .ref a_freed, .ref a_called, .long v6, .int v7, .int v8, .int f_wheel])), (a_met, .inl (cI, 300, .inl v9)), (a_slots, .inl (cI, 512, .inl v10)), (a_outcomes, .inl (cI, 300, .inl v11)), (a_outcome, .inl (cI, 2100, .inl v12)), (a_arrivals, .inl (cI, 300, .inl v15.2.1)), (a_freed, .inl (cI, 300, .inl v15.2.2)), (a_called, .inl (cI, 64, .inl v13)), (a_p0, .inr (0, [.int f_p0_relays, .ref a_p0_branches, .ref a_p0_closing, .ref a_p0_opening, .ref a_p0_pull, .ref a_p0_drop, .ref a_p0_changed, .int f_p0_inputs, .int f_p0_motion, .int f_p0_ticks, .int f_p0_changes])), (a_p0_branches, .inl (cI, 6, .inl f_p0_branches)), (a_p0_closing, .inl (cI, 24, .inl f_p0_closing)), (a_p0_drop, .inl (cI, 6, .inl f_p0_drop)), (a_p0_opening, .inl (cI, 24, .inl f_p0_opening)), (a_p0_pull, .inl (cI, 6, .inl f_p0_pull))]) hP hD [0, 3, 4, 5, 6] [.inr 0, .inl 1, .inl 2, .inr 1, .inr 2, .inr 3, .inr 4, .inl 7, .inl 8, .inl 9, .inl 10, .inl 11, .inl 12, .inl 13] rfl rfl rfl hk1 hP1
      refine lv_if_eq (tgt := 103) hx hb dX2_lookFrom_96 (by decide) (fun c16 => ?_) (fun c16 => ?_)
      · have h := zif_t c16 h
        refine lv_iconst (v := (0 : Int32)) hx hb dX2_lookFrom_103 (by decide) ?_
        refine va_put (D := D) (ci := 2) (v := .int (0 : Int32)) (ty := .boolean) (C := RX2) (T := TX2) (N := 11) hx hb hts hinX2 tyX2 tyX2_ok nmX2 hown hK hP hD hS 0 rfl rfl 10 (by decide) (hts (Cond.fieldLink RX2 72 "LadderRelays$Ways" "wheel" "Z") (List.mem_of_getElem? (i := 7) rfl)) (fun _ h9 => h9) rfl (by decide +kernel) rfl rfl (Nat.le_of_ble_eq_true rfl) dX2_lookFrom_104 (fun H locs hP hD hS => ?_)
        have hP : va_P D vwCl [(a_this, .inr (2, [.ref a_met, .ref a_slots, .ref a_outcomes, .ref a_outcome, .ref a_arrivals, .ref a_freed, .ref a_called, .long v6, .int v7, .int v8, .int (0 : Int32)])), (a_met, .inl (cI, 300, .inl v9)), (a_slots, .inl (cI, 512, .inl v10)), (a_outcomes, .inl (cI, 300, .inl v11)), (a_outcome, .inl (cI, 2100, .inl v12)), (a_arrivals, .inl (cI, 300, .inl v15.2.1)), (a_freed, .inl (cI, 300, .inl v15.2.2)), (a_called, .inl (cI, 64, .inl v13)), (a_p0, .inr (0, [.int f_p0_relays, .ref a_p0_branches, .ref a_p0_closing, .ref a_p0_opening, .ref a_p0_pull, .ref a_p0_drop, .ref a_p0_changed, .int f_p0_inputs, .int f_p0_motion, .int f_p0_ticks, .int f_p0_changes])), (a_p0_branches, .inl (cI, 6, .inl f_p0_branches)), (a_p0_closing, .inl (cI, 24, .inl f_p0_closing)), (a_p0_drop, .inl (cI, 6, .inl f_p0_drop)), (a_p0_opening, .inl (cI, 24, .inl f_p0_opening)), (a_p0_pull, .inl (cI, 6, .inl f_p0_pull))] H := hP
        have hD : va_D A [(a_this, .inr (2, [.ref a_met, .ref a_slots, .ref a_outcomes, .ref a_outcome, .ref a_arrivals, .ref a_freed, .ref a_called, .long v6, .int v7, .int v8, .int (0 : Int32)])), (a_met, .inl (cI, 300, .inl v9)), (a_slots, .inl (cI, 512, .inl v10)), (a_outcomes, .inl (cI, 300, .inl v11)), (a_outcome, .inl (cI, 2100, .inl v12)), (a_arrivals, .inl (cI, 300, .inl v15.2.1)), (a_freed, .inl (cI, 300, .inl v15.2.2)), (a_called, .inl (cI, 64, .inl v13)), (a_p0, .inr (0, [.int f_p0_relays, .ref a_p0_branches, .ref a_p0_closing, .ref a_p0_opening, .ref a_p0_pull, .ref a_p0_drop, .ref a_p0_changed, .int f_p0_inputs, .int f_p0_motion, .int f_p0_ticks, .int f_p0_changes])), (a_p0_branches, .inl (cI, 6, .inl f_p0_branches)), (a_p0_closing, .inl (cI, 24, .inl f_p0_closing)), (a_p0_drop, .inl (cI, 6, .inl f_p0_drop)), (a_p0_opening, .inl (cI, 24, .inl f_p0_opening)), (a_p0_pull, .inl (cI, 6, .inl f_p0_pull))] := hD
        have hR := Option.some.inj h
        subst hR
        exact W.vret hx hb hr (fun t ht hW => ⟨⟨(), rfl, trivial, zhp ht hP⟩, hS.F ht⟩) hS.2.2 dX2_lookFrom_107
      · have h := zif_f c16 h
        refine lv_iconst (v := (1 : Int32)) hx hb dX2_lookFrom_99 (by decide) ?_
        refine lv_goto (tgt := 104) hx hb dX2_lookFrom_100 (by decide) ?_
        refine va_put (D := D) (ci := 2) (v := .int (1 : Int32)) (ty := .boolean) (C := RX2) (T := TX2) (N := 11) hx hb hts hinX2 tyX2 tyX2_ok nmX2 hown hK hP hD hS 0 rfl rfl 10 (by decide) (hts (Cond.fieldLink RX2 72 "LadderRelays$Ways" "wheel" "Z") (List.mem_of_getElem? (i := 7) rfl)) (fun _ h9 => h9) rfl (by decide +kernel) rfl rfl (Nat.le_of_ble_eq_true rfl) dX2_lookFrom_104 (fun H locs hP hD hS => ?_)
        have hP : va_P D vwCl [(a_this, .inr (2, [.ref a_met, .ref a_slots, .ref a_outcomes, .ref a_outcome, .ref a_arrivals, .ref a_freed, .ref a_called, .long v6, .int v7, .int v8, .int (1 : Int32)])), (a_met, .inl (cI, 300, .inl v9)), (a_slots, .inl (cI, 512, .inl v10)), (a_outcomes, .inl (cI, 300, .inl v11)), (a_outcome, .inl (cI, 2100, .inl v12)), (a_arrivals, .inl (cI, 300, .inl v15.2.1)), (a_freed, .inl (cI, 300, .inl v15.2.2)), (a_called, .inl (cI, 64, .inl v13)), (a_p0, .inr (0, [.int f_p0_relays, .ref a_p0_branches, .ref a_p0_closing, .ref a_p0_opening, .ref a_p0_pull, .ref a_p0_drop, .ref a_p0_changed, .int f_p0_inputs, .int f_p0_motion, .int f_p0_ticks, .int f_p0_changes])), (a_p0_branches, .inl (cI, 6, .inl f_p0_branches)), (a_p0_closing, .inl (cI, 24, .inl f_p0_closing)), (a_p0_drop, .inl (cI, 6, .inl f_p0_drop)), (a_p0_opening, .inl (cI, 24, .inl f_p0_opening)), (a_p0_pull, .inl (cI, 6, .inl f_p0_pull))] H := hP
        have hD : va_D A [(a_this, .inr (2, [.ref a_met, .ref a_slots, .ref a_outcomes, .ref a_outcome, .ref a_arrivals, .ref a_freed, .ref a_called, .long v6, .int v7, .int v8, .int (1 : Int32)])), (a_met, .inl (cI, 300, .inl v9)), (a_slots, .inl (cI, 512, .inl v10)), (a_outcomes, .inl (cI, 300, .inl v11)), (a_outcome, .inl (cI, 2100, .inl v12)), (a_arrivals, .inl (cI, 300, .inl v15.2.1)), (a_freed, .inl (cI, 300, .inl v15.2.2)), (a_called, .inl (cI, 64, .inl v13)), (a_p0, .inr (0, [.int f_p0_relays, .ref a_p0_branches, .ref a_p0_closing, .ref a_p0_opening, .ref a_p0_pull, .ref a_p0_drop, .ref a_p0_changed, .int f_p0_inputs, .int f_p0_motion, .int f_p0_ticks, .int f_p0_changes])), (a_p0_branches, .inl (cI, 6, .inl f_p0_branches)), (a_p0_closing, .inl (cI, 24, .inl f_p0_closing)), (a_p0_drop, .inl (cI, 6, .inl f_p0_drop)), (a_p0_opening, .inl (cI, 24, .inl f_p0_opening)), (a_p0_pull, .inl (cI, 6, .inl f_p0_pull))] := hD
        have hR := Option.some.inj h
        subst hR
        exact W.vret hx hb hr (fun t ht hW => ⟨⟨(), rfl, trivial, zhp ht hP⟩, hS.F ht⟩) hS.2.2 dX2_lookFrom_107
  refine zlp_i9 (R := R) (P := fun (v17 : Int32) (v18 : Int64) (v19 : Int32) (v20 : Int32) (v21 : Nat → Int32) (v22 : Nat → Int32) (v23 : Nat → Int32) (v24 : Nat → Int32) (v25 : Nat → Int32) => ∀ (H : Heap) (locs : List Loc), va_P D vwCl [(a_this, .inr (2, [.ref a_met, .ref a_slots, .ref a_outcomes, .ref a_outcome, .ref a_arrivals, .ref a_freed, .ref a_called, .long v18, .int v19, .int v20, .int f_wheel])), (a_met, .inl (cI, 300, .inl v21)), (a_slots, .inl (cI, 512, .inl v22)), (a_outcomes, .inl (cI, 300, .inl v23)), (a_outcome, .inl (cI, 2100, .inl v24)), (a_arrivals, .inl (cI, 300, .inl f_arrivals)), (a_freed, .inl (cI, 300, .inl f_freed)), (a_called, .inl (cI, 64, .inl v25)), (a_p0, .inr (0, [.int f_p0_relays, .ref a_p0_branches, .ref a_p0_closing, .ref a_p0_opening, .ref a_p0_pull, .ref a_p0_drop, .ref a_p0_changed, .int f_p0_inputs, .int f_p0_motion, .int f_p0_ticks, .int f_p0_changes])), (a_p0_branches, .inl (cI, 6, .inl f_p0_branches)), (a_p0_closing, .inl (cI, 24, .inl f_p0_closing)), (a_p0_drop, .inl (cI, 6, .inl f_p0_drop)), (a_p0_opening, .inl (cI, 24, .inl f_p0_opening)), (a_p0_pull, .inl (cI, 6, .inl f_p0_pull))] H → va_D A [(a_this, .inr (2, [.ref a_met, .ref a_slots, .ref a_outcomes, .ref a_outcome, .ref a_arrivals, .ref a_freed, .ref a_called, .long v18, .int v19, .int v20, .int f_wheel])), (a_met, .inl (cI, 300, .inl v21)), (a_slots, .inl (cI, 512, .inl v22)), (a_outcomes, .inl (cI, 300, .inl v23)), (a_outcome, .inl (cI, 2100, .inl v24)), (a_arrivals, .inl (cI, 300, .inl f_arrivals)), (a_freed, .inl (cI, 300, .inl f_freed)), (a_called, .inl (cI, 64, .inl v25)), (a_p0, .inr (0, [.int f_p0_relays, .ref a_p0_branches, .ref a_p0_closing, .ref a_p0_opening, .ref a_p0_pull, .ref a_p0_drop, .ref a_p0_changed, .int f_p0_inputs, .int f_p0_motion, .int f_p0_ticks, .int f_p0_changes])), (a_p0_branches, .inl (cI, 6, .inl f_p0_branches)), (a_p0_closing, .inl (cI, 24, .inl f_p0_closing)), (a_p0_drop, .inl (cI, 6, .inl f_p0_drop)), (a_p0_opening, .inl (cI, 24, .inl f_p0_opening)), (a_p0_pull, .inl (cI, 6, .inl f_p0_pull))] → va_S A s.heap H locs → ∀ ls : Array Slot, lv_has ls 3 [(0, .ref a_this), (1, .ref a_p0), (2, .int v17)] → W p l e ({ frames := 3, cells := 0, slots := 0, locals := 75 } : Room) s m (([.ref a_this, .ref a_p0] : List Value).toArray) below meth c H locs 0 0 (MQ below (zWv D [(a_this, .inr (2, [.ref a_met, .ref a_slots, .ref a_outcomes, .ref a_outcome, .ref a_arrivals, .ref a_freed, .ref a_called, .long R.1, .int R.2.1, .int R.2.2.1, .int R.2.2.2.1])), (a_met, .inl (cI, 300, .inl R.2.2.2.2.1)), (a_slots, .inl (cI, 512, .inl R.2.2.2.2.2.1)), (a_outcomes, .inl (cI, 300, .inl R.2.2.2.2.2.2.1)), (a_outcome, .inl (cI, 2100, .inl R.2.2.2.2.2.2.2.1)), (a_arrivals, .inl (cI, 300, .inl R.2.2.2.2.2.2.2.2.1)), (a_freed, .inl (cI, 300, .inl R.2.2.2.2.2.2.2.2.2.1)), (a_called, .inl (cI, 64, .inl R.2.2.2.2.2.2.2.2.2.2)), (a_p0, .inr (0, [.int f_p0_relays, .ref a_p0_branches, .ref a_p0_closing, .ref a_p0_opening, .ref a_p0_pull, .ref a_p0_drop, .ref a_p0_changed, .int f_p0_inputs, .int f_p0_motion, .int f_p0_ticks, .int f_p0_changes])), (a_p0_branches, .inl (cI, 6, .inl f_p0_branches)), (a_p0_closing, .inl (cI, 24, .inl f_p0_closing)), (a_p0_drop, .inl (cI, 6, .inl f_p0_drop)), (a_p0_opening, .inl (cI, 24, .inl f_p0_opening)), (a_p0_pull, .inl (cI, 6, .inl f_p0_pull))] A) (([.ref a_this, .ref a_p0] : List Value).toArray) s 0 0 A) (F0 m 50 ls [])) (fun rec50 ih50 v17 v18 v19 v20 v21 v22 v23 v24 v25 h => ?_) fu (0 : Int32) (0 : Int64) v4.2.1 v4.2.2.1 v4.2.2.2.1 v4.2.2.2.2 f_outcomes f_outcome v2 h _ _ hP hD hS ls (lv_sub hl [1, 2, 0] rfl)
  intro H locs hP hD hS ls hl
  unfold F_X2_lookFrom_L50 at h
  refine lv_aload_n hx hb dX2_lookFrom_50 rfl (lv_at hl 0 rfl) ?_
  refine va_get (D := D) (ci := 2) (v := .int v20) (C := RX2) (T := TX2) (N := 11) hx hb hts hinX2 hown hK hP 0 rfl rfl 9 (by decide) (hts (Cond.fieldLink RX2 47 "LadderRelays$Ways" "told" "Z") (List.mem_of_getElem? (i := 5) rfl)) (fun _ h9 => h9) rfl dX2_lookFrom_51 ?_
  refine lv_if_eq (tgt := 84) hx hb dX2_lookFrom_54 (by decide) (fun c26 => ?_) (fun c26 => ?_)
  · have h := zif_t c26 h
    exact E84 v17 v18 v19 v20 v21 v22 v23 v24 v25 h _ _ hP hD hS ls (lv_sub hl [0, 1, 2] rfl)
  · have h := zif_f c26 h
    refine lv_iload_n hx hb dX2_lookFrom_57 rfl (lv_at hl 2 rfl) ?_
    refine lv_aload_n hx hb dX2_lookFrom_58 rfl (lv_at hl 0 rfl) ?_
    refine va_get (D := D) (ci := 2) (v := .int v19) (C := RX2) (T := TX2) (N := 11) hx hb hts hinX2 hown hK hP 0 rfl rfl 8 (by decide) (hts (Cond.fieldLink RX2 43 "LadderRelays$Ways" "states" "I") (List.mem_of_getElem? (i := 4) rfl)) (fun _ h9 => h9) rfl dX2_lookFrom_59 ?_
    refine lv_icmp_ge (tgt := 84) hx hb dX2_lookFrom_62 (by decide) (fun c27 => ?_) (fun c27 => ?_)
    · have h := zif_t c27 h
      exact E84 v17 v18 v19 v20 v21 v22 v23 v24 v25 h _ _ hP hD hS ls (lv_sub hl [0, 1, 2] rfl)
    · have h := zif_f c27 h
      refine lv_iload_n hx hb dX2_lookFrom_65 rfl (lv_at hl 2 rfl) ?_
      refine lv_sipush (v := (300 : Int32)) hx hb dX2_lookFrom_66 (by decide) ?_
      refine lv_icmp_ge (tgt := 84) hx hb dX2_lookFrom_69 (by decide) (fun c28 => ?_) (fun c28 => ?_)
      · have h := zif_t c28 h
        exact E84 v17 v18 v19 v20 v21 v22 v23 v24 v25 h _ _ hP hD hS ls (lv_sub hl [0, 1, 2] rfl)
      · have h := zif_f c28 h
        refine lv_aload_n hx hb dX2_lookFrom_72 rfl (lv_at hl 0 rfl) ?_
        refine lv_aload_n hx hb dX2_lookFrom_73 rfl (lv_at hl 1 rfl) ?_
        refine lv_iload_n hx hb dX2_lookFrom_74 rfl (lv_at hl 2 rfl) ?_
        obtain ⟨v29, hv29, h⟩ := zbnd h
        have hPc := hP.sub (ws' := [(a_this, .inr (2, [.ref a_met, .ref a_slots, .ref a_outcomes, .ref a_outcome, .ref a_arrivals, .ref a_freed, .ref a_called, .long v18, .int v19, .int v20, .int f_wheel])), (a_met, .inl (cI, 300, .inl v21)), (a_slots, .inl (cI, 512, .inl v22)), (a_outcomes, .inl (cI, 300, .inl v23)), (a_outcome, .inl (cI, 2100, .inl v24)), (a_called, .inl (cI, 64, .inl v25)), (a_p0, .inr (0, [.int f_p0_relays, .ref a_p0_branches, .ref a_p0_closing, .ref a_p0_opening, .ref a_p0_pull, .ref a_p0_drop, .ref a_p0_changed, .int f_p0_inputs, .int f_p0_motion, .int f_p0_ticks, .int f_p0_changes])), (a_p0_branches, .inl (cI, 6, .inl f_p0_branches)), (a_p0_closing, .inl (cI, 24, .inl f_p0_closing)), (a_p0_drop, .inl (cI, 6, .inl f_p0_drop)), (a_p0_opening, .inl (cI, 24, .inl f_p0_opening)), (a_p0_pull, .inl (cI, 6, .inl f_p0_pull))]) [0, 1, 2, 3, 4, 7, 8, 9, 10, 11, 12, 13] rfl
        have hDc := hD.sub (ws' := [(a_this, .inr (2, [.ref a_met, .ref a_slots, .ref a_outcomes, .ref a_outcome, .ref a_arrivals, .ref a_freed, .ref a_called, .long v18, .int v19, .int v20, .int f_wheel])), (a_met, .inl (cI, 300, .inl v21)), (a_slots, .inl (cI, 512, .inl v22)), (a_outcomes, .inl (cI, 300, .inl v23)), (a_outcome, .inl (cI, 2100, .inl v24)), (a_called, .inl (cI, 64, .inl v25)), (a_p0, .inr (0, [.int f_p0_relays, .ref a_p0_branches, .ref a_p0_closing, .ref a_p0_opening, .ref a_p0_pull, .ref a_p0_drop, .ref a_p0_changed, .int f_p0_inputs, .int f_p0_motion, .int f_p0_ticks, .int f_p0_changes])), (a_p0_branches, .inl (cI, 6, .inl f_p0_branches)), (a_p0_closing, .inl (cI, 24, .inl f_p0_closing)), (a_p0_drop, .inl (cI, 6, .inl f_p0_drop)), (a_p0_opening, .inl (cI, 24, .inl f_p0_opening)), (a_p0_pull, .inl (cI, 6, .inl f_p0_pull))]) [0, 1, 2, 3, 4, 7, 8, 9, 10, 11, 12, 13] (by decide) rfl
        have hFc := va_free (wc := [(a_this, .inr (2, [.ref a_met, .ref a_slots, .ref a_outcomes, .ref a_outcome, .ref a_arrivals, .ref a_freed, .ref a_called, .long v18, .int v19, .int v20, .int f_wheel])), (a_met, .inl (cI, 300, .inl v21)), (a_slots, .inl (cI, 512, .inl v22)), (a_outcomes, .inl (cI, 300, .inl v23)), (a_outcome, .inl (cI, 2100, .inl v24)), (a_called, .inl (cI, 64, .inl v25)), (a_p0, .inr (0, [.int f_p0_relays, .ref a_p0_branches, .ref a_p0_closing, .ref a_p0_opening, .ref a_p0_pull, .ref a_p0_drop, .ref a_p0_changed, .int f_p0_inputs, .int f_p0_motion, .int f_p0_ticks, .int f_p0_changes])), (a_p0_branches, .inl (cI, 6, .inl f_p0_branches)), (a_p0_closing, .inl (cI, 24, .inl f_p0_closing)), (a_p0_drop, .inl (cI, 6, .inl f_p0_drop)), (a_p0_opening, .inl (cI, 24, .inl f_p0_opening)), (a_p0_pull, .inl (cI, 6, .inl f_p0_pull))]) hD hS hA [0, 1, 2, 3, 4, 7, 8, 9, 10, 11, 12, 13] rfl
        refine zc_wv (va_runV (C := RX2) (As := [.ref a_p0, .int v17]) (rest := []) ⟨hx, hb, hml, hown, hts⟩ (c_X2_goOn l D cI cC cO cJ fu a_this a_met a_slots a_outcomes a_outcome a_arrivals a_freed a_called a_p0 a_p0_branches a_p0_closing a_p0_opening a_p0_pull a_p0_drop a_p0_changed _ v18 v19 v20 f_wheel v21 v22 v23 v24 v25 f_p0_relays f_p0_inputs f_p0_motion f_p0_ticks f_p0_changes f_p0_branches f_p0_closing f_p0_drop f_p0_opening f_p0_pull v17 v29 hv29) (cwV 2 hts gX2_lookFrom_X2_goOn rfl rfl rfl (by decide +kernel) ⟨Nat.le_of_ble_eq_true rfl, Nat.le_of_ble_eq_true rfl⟩) ⟨zPw_blind, (va_recv hK hP (q0 := 0) (ci := 2) rfl rfl), zPw_pre hK hPc hDc⟩ rfl rfl hl.1 rfl (lv_room (Nat.le_of_ble_eq_true rfl)) dX2_lookFrom_75 ⟨Nat.zero_le _, Nat.zero_le _⟩) hS hFc (fun H locs hk1 hP1 hS => ?_)
        obtain ⟨hP, hD⟩ := zjn (ws' := [(a_this, .inr (2, [.ref a_met, .ref a_slots, .ref a_outcomes, .ref a_outcome, .ref a_arrivals, .ref a_freed, .ref a_called, .long v29.1, .int v29.2.1, .int v29.2.2.1, .int f_wheel])), (a_met, .inl (cI, 300, .inl v29.2.2.2.1)), (a_slots, .inl (cI, 512, .inl v29.2.2.2.2.1)), (a_outcomes, .inl (cI, 300, .inl v29.2.2.2.2.2.1)), (a_outcome, .inl (cI, 2100, .inl v29.2.2.2.2.2.2.1)), (a_arrivals, .inl (cI, 300, .inl f_arrivals)), (a_freed, .inl (cI, 300, .inl f_freed)), (a_called, .inl (cI, 64, .inl v29.2.2.2.2.2.2.2)), (a_p0, .inr (0, [.int f_p0_relays, .ref a_p0_branches, .ref a_p0_closing, .ref a_p0_opening, .ref a_p0_pull, .ref a_p0_drop, .ref a_p0_changed, .int f_p0_inputs, .int f_p0_motion, .int f_p0_ticks, .int f_p0_changes])), (a_p0_branches, .inl (cI, 6, .inl f_p0_branches)), (a_p0_closing, .inl (cI, 24, .inl f_p0_closing)), (a_p0_drop, .inl (cI, 6, .inl f_p0_drop)), (a_p0_opening, .inl (cI, 24, .inl f_p0_opening)), (a_p0_pull, .inl (cI, 6, .inl f_p0_pull))]) hP hD [0, 1, 2, 3, 4, 7, 8, 9, 10, 11, 12, 13] [.inr 0, .inr 1, .inr 2, .inr 3, .inr 4, .inl 5, .inl 6, .inr 5, .inr 6, .inr 7, .inr 8, .inr 9, .inr 10, .inr 11] rfl rfl rfl hk1 hP1
        refine lv_iinc (v := (v17 + (1 : Int32))) (lv' := [(2, .int (v17 + (1 : Int32))), (0, .ref a_this), (1, .ref a_p0)]) hx hb dX2_lookFrom_78 hl (k := 2) rfl rfl (by decide) rfl (fun ls hl => ?_)
        refine lv_goto (tgt := 50) hx hb dX2_lookFrom_81 (by decide) ?_
        exact ih50 (v17 + (1 : Int32)) v29.1 v29.2.1 v29.2.2.1 v29.2.2.2.1 v29.2.2.2.2.1 v29.2.2.2.2.2.1 v29.2.2.2.2.2.2.1 v29.2.2.2.2.2.2.2 h _ _ hP hD hS ls (lv_sub hl [1, 2, 0] rfl)
