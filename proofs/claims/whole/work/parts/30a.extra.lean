/-! What the methods of LadderRelays need beyond their cells: statics and texts for the exceptions, the static row HASHED_INPUTS; the six saved ladders as one piece; contracts of methods that throw. -/
def zEx (k : Nat) : String := if k = 1 then "java/lang/IllegalArgumentException" else if k = 2 then "java/lang/IllegalStateException" else "java/lang/IndexOutOfBoundsException"
abbrev zCast : List Cond := [.castable "java/lang/IllegalArgumentException" "java/lang/IllegalArgumentException", .castable "java/lang/IllegalStateException" "java/lang/IllegalStateException", .castable "java/lang/IndexOutOfBoundsException" "java/lang/IndexOutOfBoundsException", .declares ⟨"java/lang/RuntimeException", "<init>", "(Ljava/lang/String;)V"⟩, .declares ⟨"java/lang/Exception", "<init>", "(Ljava/lang/String;)V"⟩, .declares ⟨"java/lang/Throwable", "<init>", "(Ljava/lang/String;)V"⟩]
abbrev zNcs : List (String × String) := [("java/lang/IllegalArgumentException", "java/lang/IllegalStateException"), ("java/lang/IllegalArgumentException", "java/lang/IndexOutOfBoundsException"), ("java/lang/IllegalStateException", "java/lang/IllegalArgumentException"), ("java/lang/IllegalStateException", "java/lang/IndexOutOfBoundsException"), ("java/lang/IndexOutOfBoundsException", "java/lang/IllegalArgumentException"), ("java/lang/IndexOutOfBoundsException", "java/lang/IllegalStateException")]
abbrev zTexts : List (Nat × String) := [(53, "a time is not 0 to 9"), (64, "there are 6 relays"), (79, "no such relay"), (85, "a mask names a contact that there is not"), (87, "no contact, or one that is closing and opening"), (92, "the relay has 4 branches"), (108, "no such input"), (122, "ticks are not 1 to 99"), (137, "not quiet within 200 ticks"), (145, "the code is not 33 to 126"), (150, "the buffer has 60 characters"), (162, "the buffer is not a complete ladder"), (170, "there is no saved state"), (175, "what is not 0 to 8"), (180, "no such relay or branch"), (182, "what is not 0 to 3"), (187, "what is not 0 to 9"), (192, "inputs are not 0 to 15, or what is not 0 to 1"), (197, "what is not 0 to 4"), (202, "what is not 0 to 2")]
def zV (U : State) : Prop := (∀ w ∈ zCast, va_Nw w U) ∧ (∀ q ∈ zNcs, va_Nc q.1 q.2 U) ∧ (∀ q ∈ zTexts, ∃ a, vk_R RX3 q.1 q.2 a U)
theorem zV_warm {s U : State} (hW : s.WarmedH U.vm) (h : zV s) : zV U := by
  refine ⟨fun w hw => ?_, fun q hq => (h.2.1 q hq).moved hW.alike, fun q hq => ?_⟩
  · have h1 := h.1 w hw
    simp only [zCast, List.mem_cons, List.not_mem_nil, or_false] at hw
    rcases hw with rfl | rfl | rfl | rfl | rfl | rfl <;> first | exact va_Nw.warmC hW h1 | exact va_Nw.warmD hW h1
  · obtain ⟨a, ha⟩ := h.2.2 q hq
    exact ⟨a, ha.warm hW⟩
theorem zV_same {u U : State} (e : U.vm = u.vm) (h : zV u) : zV U := by
  refine ⟨fun w hw => ?_, fun q hq => (h.2.1 q hq).moved (by rw [e]; exact Vm.Alike.refl u.vm), fun q hq => ?_⟩
  · have h1 := h.1 w hw
    simp only [zCast, List.mem_cons, List.not_mem_nil, or_false] at hw
    rcases hw with rfl | rfl | rfl | rfl | rfl | rfl <;> exact va_Nw.same rfl e.symm h1
  · obtain ⟨a, ha⟩ := h.2.2 q hq
    exact ⟨a, ha.same e⟩
def zHIn : Nat → Int32 := fun j => if j = 0 then 0 else if j = 1 then 1 else if j = 2 then 6 else 15
abbrev zHI : Nat → Value := fun j => .int (zHIn j)
def zE (A : Nat → Prop) (U : State) : Prop := vx_Zq Bundle.tN "UNASSIGNED_STACK" Bundle.steD A U U.heap ∧ vx_Zq Bundle.tN "SUPPRESSED_SENTINEL" Bundle.listD A U U.heap ∧ (∃ th : Nat, va_Z RX3 "HASHED_INPUTS" "[I" (.ref th) A U U.heap ∧ va_T .int th 4 zHI A U U.heap) ∧ zV U
theorem zE_to {A B : Nat → Prop} {s U : State} {H : Heap} {locs : List Loc} (h : zE A s) (hS : va_S A s.heap H locs) (hB : ∀ q, B q → A q) (hU : U.heap = H) (hvm : s.vm.Alike U.vm) (hV : zV U) : zE B U := by
  obtain ⟨h1, h2, ⟨th, h3, h4⟩, -⟩ := h
  have k : ∀ a : Nat, a < s.heap.size → ¬ A a → U.heap[a]? = s.heap[a]? := fun a h1 h2 => by rw [hU]; exact hS.2.1 a h1 h2
  exact ⟨((h1.kept k).moved hvm).narrow hB, ((h2.kept k).moved hvm).narrow hB, ⟨th, ((h3.kept k).moved hvm).narrow hB, ((h4.kept k).moved hvm).narrow hB⟩, hV⟩
theorem zE_call {A B : Nat → Prop} {s U : State} {H : Heap} {locs : List Loc} (h : zE A s) (hS : va_S A s.heap H locs) (hB : ∀ q, B q → A q) (hU : U.heap = H) (hW : s.WarmedH U.vm) : zE B U := zE_to h hS hB hU hW.alike (zV_warm hW h.2.2.2)
/-- the start of a method that writes cells of ws and may throw, or reads statics -/
def zPx (D : va_G) (tys : List (ClassId × FieldType)) (ws : va_W) (sz : Nat) (av : List Value) : Array Value → State → Prop := va_Pc av (fun U => U.heap.size = sz ∧ va_P D vwCl ws U.heap ∧ va_K D vwCl tys U ∧ va_D (fun _ => True) ws ∧ zE (va_A ws sz) U)
theorem zPx_blind {D : va_G} {tys : List (ClassId × FieldType)} {ws : va_W} {sz : Nat} {av : List Value} : FrameBlind (zPx D tys ws sz av) := fun a U g mk q => by
  obtain ⟨q0, q1, qP, qK, qD, qE⟩ := q
  exact ⟨q0, q1, qP, va_K.moved (u := U) (U := U.calling g mk a) (Vm.Alike.refl U.vm) qK, qD, zE_to (s := U) (U := U.calling g mk a) qE va_S.rf (fun _ h => h) rfl (Vm.Alike.refl U.vm) (zV_same (u := U) rfl qE.2.2.2)⟩
theorem zPx_pre {D : va_G} {tys : List (ClassId × FieldType)} {ws : va_W} {av : List Value} {s : State} {H : Heap} {locs : List Loc} {A : Nat → Prop} (hK : va_K D vwCl tys s) (hP : va_P D vwCl ws H) (hD : va_D A ws) (hE : zE A s) (hS : va_S A s.heap H locs) (hF : ∀ q, va_A ws H.size q → A q) : ∀ U : State, U.heap = H → s.WarmedH U.vm → zPx D tys ws H.size av av.toArray U := fun U hU hW => ⟨rfl, by rw [hU], by rw [hU]; exact hP, va_K.moved hW.alike hK, hD.weaken (fun _ _ _ _ => trivial), zE_call hE hS hF hU hW⟩
/-- the six saved ladders: where each stands (its object and rows), what each holds -/
abbrev LVT : Type := Int32 × (Nat → Int32) × (Nat → Int32) × (Nat → Int32) × (Nat → Int32) × (Nat → Int32) × (Nat → Int32) × Int32 × Int32 × Int32 × Int32
def zLC (cI : ClassId) (ap : Nat → Nat) (v : LVT) : va_W := [(ap 0, .inr (0, [.int v.1, .ref (ap 1), .ref (ap 2), .ref (ap 3), .ref (ap 4), .ref (ap 5), .ref (ap 6), .int v.2.2.2.2.2.2.2.1, .int v.2.2.2.2.2.2.2.2.1, .int v.2.2.2.2.2.2.2.2.2.1, .int v.2.2.2.2.2.2.2.2.2.2])), (ap 1, .inl (cI, 6, .inl v.2.1)), (ap 2, .inl (cI, 24, .inl v.2.2.1)), (ap 3, .inl (cI, 24, .inl v.2.2.2.1)), (ap 4, .inl (cI, 6, .inl v.2.2.2.2.1)), (ap 5, .inl (cI, 6, .inl v.2.2.2.2.2.1)), (ap 6, .inl (cI, 6, .inl v.2.2.2.2.2.2.1))]
abbrev SVT : Type := (Nat → Nat → Nat) × (Nat → LVT)
def zLDs (cI : ClassId) (st : SVT) : va_W := zLC cI (st.1 0) (st.2 0) ++ (zLC cI (st.1 1) (st.2 1) ++ (zLC cI (st.1 2) (st.2 2) ++ (zLC cI (st.1 3) (st.2 3) ++ (zLC cI (st.1 4) (st.2 4) ++ zLC cI (st.1 5) (st.2 5)))))
def zSV (cI cO : ClassId) (a : Nat) (st : SVT) : va_W := (a, .inl (cO, 6, .inr (.inr (.inr (.inr (fun k => some (st.1 k 0))))))) :: zLDs cI st
def zput (st : SVT) (k : Nat) (v : LVT) : SVT := (st.1, fun j => if j = k then v else st.2 j)
def zrot (st : SVT) : SVT := (fun k => if k = 5 then st.1 0 else st.1 (k + 1), fun k => if k = 5 then st.2 0 else st.2 (k + 1))
def zsx (i : Int32) : Option Nat := if 0 ≤ i.toInt ∧ i.toInt < 6 then some i.toNatClampNeg else none
theorem zsx_some {i : Int32} {k : Nat} (h : zsx i = some k) : i = nI k ∧ k < 6 := by
  unfold zsx at h
  split at h
  · rename_i hc
    have e := Option.some.inj h
    subst e
    obtain ⟨j, hj, rfl⟩ := vp_in_of (n := 6) (vp_in_iff.mpr hc) (by decide)
    rw [nI_clamp (by omega)]
    exact ⟨rfl, hj⟩
  · cases h
theorem zP_fq {D : va_G} {cl : List vw_C} {ws : va_W} {H : Heap} (hP : va_P D cl ws H) (k : Nat) {a : Nat} {cA : ClassId} {n : Nat} {f : Nat → Option Nat} (g : Nat → Option Nat) (he : ws[k]? = some (a, .inl (cA, n, .inr (.inr (.inr (.inr f)))))) (hfg : ∀ j, j < n → f j = g j) : va_P D cl (ws.set k (a, .inl (cA, n, .inr (.inr (.inr (.inr g)))))) H := by
  intro j q hq
  by_cases hjk : k = j
  · subst hjk
    have hl := (List.getElem?_eq_some_iff.mp he).1
    rw [List.getElem?_set_self hl] at hq
    cases hq
    have h1 : H[a]? = some (vp_cell cA (n, .inr (.inr (.inr (.inr f))))) := hP k _ he
    show H[a]? = some (vp_cell cA (n, .inr (.inr (.inr (.inr g)))))
    rw [h1]
    have e : (fun j : Fin n => va_rf (f j.val)) = (fun j : Fin n => va_rf (g j.val)) := funext fun j => by rw [hfg j.val j.isLt]
    show some (arrV cA n (fun j => va_rf (f j))) = some (arrV cA n (fun j => va_rf (g j)))
    unfold arrV
    rw [e]
  · rw [List.getElem?_set_ne hjk] at hq
    exact hP j q hq
/-- a world behind a call whose cells may have changed places -/
theorem zjn2 {A0 : Nat → Prop} {D : va_G} {cl : List vw_C} {ws wc w1 ws' : va_W} {H H1 : Heap} (hP : va_P D cl ws H) (hD : va_D A0 ws) (isC : List Nat) (sel : List (Nat ⊕ Nat)) (hC : isC.map (fun i => ws[i]?) = wc.map some)
    (hsel : sel.map (Sum.elim (fun i => if i ∈ isC then none else ws[i]?) (fun j => w1[j]?)) = ws'.map some) (hnd : sel.Nodup)
    (hk : ∀ q : Nat, q < H.size → ¬ va_A wc H.size q → H1[q]? = H[q]?) (hF : ∀ q, va_A wc H.size q → A0 q) (hP1 : va_P D cl w1 H1) (hD1 : va_D (va_A wc H.size) w1) : va_P D cl ws' H1 ∧ va_D A0 ws' := by
  have look : ∀ (k : Nat) (q : Nat × va_E), ws'[k]? = some q → ∃ c, sel[k]? = some c ∧ Sum.elim (fun i => if i ∈ isC then none else ws[i]?) (fun j => w1[j]?) c = some q := by
    intro k q hq
    have h1 : (sel.map (Sum.elim (fun i => if i ∈ isC then none else ws[i]?) (fun j => w1[j]?)))[k]? = some (some q) := by rw [hsel, List.getElem?_map, hq]; rfl
    rw [List.getElem?_map] at h1
    cases hs : sel[k]? with
    | none => rw [hs] at h1; cases h1
    | some cc => rw [hs] at h1; exact ⟨cc, rfl, Option.some.inj h1⟩
  have out : ∀ (i : Nat) (q : Nat × va_E), (if i ∈ isC then none else ws[i]?) = some q → ws[i]? = some q ∧ q.1 < H.size ∧ ¬ va_A wc H.size q.1 := by
    intro i q h3
    by_cases hm : i ∈ isC
    · rw [if_pos hm] at h3
      cases h3
    · rw [if_neg hm] at h3
      have hl := (hP i q h3).lt
      refine ⟨h3, hl, fun hA => ?_⟩
      rcases hA with ⟨k2, e, h⟩ | h
      · have h4 : (isC.map (fun i => ws[i]?))[k2]? = some (some (q.1, e)) := by rw [hC, List.getElem?_map, h]; rfl
        rw [List.getElem?_map] at h4
        cases hi : isC[k2]? with
        | none => rw [hi] at h4; cases h4
        | some j =>
          rw [hi] at h4
          have h5 : ws[j]? = some (q.1, e) := Option.some.inj h4
          have hij := hD.1 i j q (q.1, e) h3 h5 rfl
          subst hij
          exact hm (List.mem_of_getElem? hi)
      · omega
  have inj : ∀ (i j : Nat) (c : Nat ⊕ Nat), sel[i]? = some c → sel[j]? = some c → i = j := by
    intro i j c hi hj
    obtain ⟨hi1, hi2⟩ := List.getElem?_eq_some_iff.mp hi
    obtain ⟨hj1, hj2⟩ := List.getElem?_eq_some_iff.mp hj
    have pw := List.pairwise_iff_getElem.mp hnd
    rcases Nat.lt_trichotomy i j with q | q | q
    · exact absurd (hi2.trans hj2.symm) (pw i j hi1 hj1 q)
    · exact q
    · exact absurd (hj2.trans hi2.symm) (pw j i hj1 hi1 q)
  refine ⟨fun k q hq => ?_, fun i j p q hi hj hpq => ?_, fun k q hq => ?_⟩
  · obtain ⟨c, hc, h2⟩ := look k q hq
    cases c with
    | inr j => exact hP1 j q h2
    | inl i =>
      obtain ⟨h3, hl, hn⟩ := out i q h2
      exact (hP i q h3).kept (hk q.1 hl hn)
  · obtain ⟨c, hc, h2⟩ := look i p hi
    obtain ⟨c', hc', h2'⟩ := look j q hj
    cases c with
    | inl a =>
      obtain ⟨h3, hl, hn⟩ := out a p h2
      cases c' with
      | inl b =>
        obtain ⟨h3', hl', hn'⟩ := out b q h2'
        have hab := hD.1 a b p q h3 h3' hpq
        subst hab
        exact inj i j _ hc hc'
      | inr b =>
        exfalso
        have h5 := hD1.2 b q h2'
        rw [← hpq] at h5
        exact hn h5
    | inr a =>
      cases c' with
      | inl b =>
        exfalso
        obtain ⟨h3', hl', hn'⟩ := out b q h2'
        have h5 := hD1.2 a p h2
        rw [hpq] at h5
        exact hn' h5
      | inr b =>
        have hab := hD1.1 a b p q h2 h2' hpq
        subst hab
        exact inj i j _ hc hc'
  · obtain ⟨c, hc, h2⟩ := look k q hq
    cases c with
    | inl i =>
      obtain ⟨h3, -, -⟩ := out i q h2
      exact hD.2 i q h3
    | inr j => exact hF _ (hD1.2 j q h2)
/-- posts of a method that may throw: c0 is 0 where it returns, else the exception's number -/
abbrev zXi (D : va_G) (c0 : Nat) (v : Int32) (w1 : va_W) (A : Nat → Prop) : Array Value → State → Outcome → State → Prop := va_Qi (fun r (_ : Unit) => c0 = 0 ∧ r = v) (fun _ t => va_P D vwCl w1 t.heap ∧ va_D A w1) A
abbrev zXX (D : va_G) (c0 : Nat) (w1 : va_W) (A : Nat → Prop) : String → State → State → Prop := vx_X (fun (_ : Unit) => ¬ c0 = 0) (fun E _ t => E = zEx c0 ∧ va_P D vwCl w1 t.heap ∧ va_D A w1) A
/-- posts of a method that doesn't throw, whose cells may change places -/
abbrev zYv (D : va_G) (w1 : va_W) (A : Nat → Prop) : Array Value → State → Outcome → State → Prop := va_Qv (fun (_ : Unit) => True) (fun _ t => va_P D vwCl w1 t.heap ∧ va_D A w1) A
abbrev zYi (D : va_G) (v : Int32) (w1 : va_W) (A : Nat → Prop) : Array Value → State → Outcome → State → Prop := va_Qi (fun r (_ : Unit) => r = v) (fun _ t => va_P D vwCl w1 t.heap ∧ va_D A w1) A
abbrev zYl (D : va_G) (v : Int64) (w1 : va_W) (A : Nat → Prop) : Array Value → State → Outcome → State → Prop := va_Ql (fun r (_ : Unit) => r = v) (fun _ t => va_P D vwCl w1 t.heap ∧ va_D A w1) A
section
variable {p : Program} {l : Launch} {e : Env} {R : Room} {s : State} {m : MethodId} {args : Array Value} {below : List Frame} {meth : Method} {c : Code} {H : Heap} {locs : List Loc} {cells slots : Nat} {Q : State → Prop}
variable {cc : ByteArray} {pc : Nat} {ls : Array Slot} {rest st0 : List Value} {D : va_G} {cl : List vw_C} {A A0 : Nat → Prop} {a : Nat} {tys : List (ClassId × FieldType)} {ws : va_W} {H0 : Heap} {as : Array Value}
theorem zr_ti (hexec : p.tables.exec = Jvm.exec) (hb : c.code = cc) {t N : Nat} {f : Nat → Int32} (hT : va_T .int t N (fun j => .int (f j)) A s s.heap) (hS : va_S A s.heap H locs) {i v : Int32} (hr : zrd f N i = some v) (hdg : decode cc pc = .ok (.iaload, 1))
    (kk : W p l e R s m args below meth c H locs cells slots Q (F0 m (pc + 1) ls (.int v :: rest))) : W p l e R s m args below meth c H locs cells slots Q (F0 m pc ls (.int i :: .ref t :: rest)) := by
  obtain ⟨hin, rfl⟩ := zrd_some hr
  exact va_ti hexec hb hT hS hin rfl hdg kk
theorem zCast_use {s : State} (h : zV s) {as : Array Value} : ∀ w ∈ zCast, w.before as s = true := fun w hw => by
  have h1 := h.1 w hw
  simp only [zCast, List.mem_cons, List.not_mem_nil, or_false] at hw
  rcases hw with rfl | rfl | rfl | rfl | rfl | rfl <;> exact va_Nw.use rfl h1
theorem zthr {k : Nat} {E : String} {ws1 : va_W} (hk0 : ¬ k = 0) (hE : E = zEx k) (hP : va_P D vwCl ws1 H) (hD : va_D A ws1) (hS : va_S A s.heap H locs) : ∀ t : State, s.vm.Alike t.vm → H.size ≤ t.heap.size → (∀ q : Nat, q < H.size → t.heap[q]? = H[q]?) → zXX D k ws1 A E s t :=
  fun t _ hz hk => ⟨(), hk0, ⟨hE, hP.kept (fun j q hq => hk q.1 (hP j q hq).lt), hD⟩, Nat.le_trans hS.1 hz, fun q h1 h2 => (hk q (Nat.lt_of_lt_of_le h1 hS.1)).trans (hS.2.1 q h1 h2)⟩
theorem zc_yv {w1 wc : va_W} {mc ms : Nat} (hr : va_Run p l e R s m args below meth c H locs cells slots mc ms (F0 m pc ls st0) rest (zYv D w1 (va_A wc H.size) as) (va_A wc H.size)) (hS : va_S A0 H0 H locs) (hF : ∀ q, va_A wc H.size q → A0 q)
    (kk : ∀ (H1 : Heap) (locs1 : List Loc), (∀ q : Nat, q < H.size → ¬ va_A wc H.size q → H1[q]? = H[q]?) → va_P D vwCl w1 H1 → va_D (va_A wc H.size) w1 → va_S A0 H0 H1 locs1 → W p l e R s m args below meth c H1 locs1 (cells + mc) (slots + ms) Q (F0 m (pc + 3) ls rest)) : W p l e R s m args below meth c H locs cells slots Q (F0 m pc ls st0) := by
  refine va_callv hr hS (fun q _ h => hF q h) hF (fun u t H1 locs1 ht hvm hw hB hz1 hk1 hS1 => ?_)
  have hB' : va_P D vwCl w1 t.heap ∧ va_D (va_A wc H.size) w1 := hB
  rw [ht] at hB'
  exact kk H1 locs1 hk1 hB'.1 hB'.2 hS1
theorem zc_yi {v : Int32} {w1 wc : va_W} {mc ms : Nat} (hr : va_Run p l e R s m args below meth c H locs cells slots mc ms (F0 m pc ls st0) rest (zYi D v w1 (va_A wc H.size) as) (va_A wc H.size)) (hS : va_S A0 H0 H locs) (hF : ∀ q, va_A wc H.size q → A0 q)
    (kk : ∀ (H1 : Heap) (locs1 : List Loc), (∀ q : Nat, q < H.size → ¬ va_A wc H.size q → H1[q]? = H[q]?) → va_P D vwCl w1 H1 → va_D (va_A wc H.size) w1 → va_S A0 H0 H1 locs1 → W p l e R s m args below meth c H1 locs1 (cells + mc) (slots + ms) Q (F0 m (pc + 3) ls (.int v :: rest))) : W p l e R s m args below meth c H locs cells slots Q (F0 m pc ls st0) := by
  refine va_calli hr hS (fun q _ h => hF q h) hF (fun r u t H1 locs1 ht hvm hw hB hz1 hk1 hS1 => ?_)
  have hB' : va_P D vwCl w1 t.heap ∧ va_D (va_A wc H.size) w1 := hB
  rw [ht] at hB'
  have hw' : r = v := hw
  rw [hw']
  exact kk H1 locs1 hk1 hB'.1 hB'.2 hS1
theorem zc_yl {v : Int64} {w1 wc : va_W} {mc ms : Nat} (hr : va_Run p l e R s m args below meth c H locs cells slots mc ms (F0 m pc ls st0) rest (zYl D v w1 (va_A wc H.size) as) (va_A wc H.size)) (hS : va_S A0 H0 H locs) (hF : ∀ q, va_A wc H.size q → A0 q)
    (kk : ∀ (H1 : Heap) (locs1 : List Loc), (∀ q : Nat, q < H.size → ¬ va_A wc H.size q → H1[q]? = H[q]?) → va_P D vwCl w1 H1 → va_D (va_A wc H.size) w1 → va_S A0 H0 H1 locs1 → W p l e R s m args below meth c H1 locs1 (cells + mc) (slots + ms) Q (F0 m (pc + 3) ls (.long v :: rest))) : W p l e R s m args below meth c H locs cells slots Q (F0 m pc ls st0) := by
  refine va_calll hr hS (fun q _ h => hF q h) hF (fun r u t H1 locs1 ht hvm hw hB hz1 hk1 hS1 => ?_)
  have hB' : va_P D vwCl w1 t.heap ∧ va_D (va_A wc H.size) w1 := hB
  rw [ht] at hB'
  have hw' : r = v := hw
  rw [hw']
  exact kk H1 locs1 hk1 hB'.1 hB'.2 hS1
theorem zc_xi {c0 : Nat} {v : Int32} {w1 wc : va_W} {mc ms : Nat} (hr : vx_Run p l e R s m args below meth c H locs cells slots mc ms (F0 m pc ls st0) rest (zXi D c0 v w1 (va_A wc H.size) as) (zXX D c0 w1 (va_A wc H.size)) (va_A wc H.size)) (hS : va_S A0 H0 H locs) (hF : ∀ q, va_A wc H.size q → A0 q)
    (kx : ∀ (ce : Cell) (q9 : Addr) (H1 : Heap) (locs1 : List Loc), ¬ c0 = 0 → (∀ q : Nat, q < H.size → ¬ va_A wc H.size q → H1[q]? = H[q]?) → va_P D vwCl w1 H1 → va_D (va_A wc H.size) w1 → va_S A0 H0 H1 locs1 → H1[q9]? = some ce → ce.vm = .none → s.vm.findClass (zEx c0) = some ce.cls → vx_W p l e R s m args below meth c H1 locs1 (cells + mc) (slots + ms) Q (F0 m pc ls rest) q9)
    (kk : ∀ (H1 : Heap) (locs1 : List Loc), c0 = 0 → (∀ q : Nat, q < H.size → ¬ va_A wc H.size q → H1[q]? = H[q]?) → va_P D vwCl w1 H1 → va_D (va_A wc H.size) w1 → va_S A0 H0 H1 locs1 → W p l e R s m args below meth c H1 locs1 (cells + mc) (slots + ms) Q (F0 m (pc + 3) ls (.int v :: rest))) : W p l e R s m args below meth c H locs cells slots Q (F0 m pc ls st0) := by
  refine vx_calli hr hS (fun q _ h => hF q h) hF (fun q _ h => hF q h) (fun E ce q9 u t H1 locs1 ht hvm hpx hB hz1 hk1 hS1 hce hv hcl => ?_) (fun r u t H1 locs1 ht hvm hw hB hz1 hk1 hS1 => ?_)
  · have hB' : E = zEx c0 ∧ va_P D vwCl w1 t.heap ∧ va_D (va_A wc H.size) w1 := hB
    rw [ht] at hB'
    obtain ⟨rfl, hB1, hB2⟩ := hB'
    exact kx ce q9 H1 locs1 hpx hk1 hB1 hB2 hS1 hce hv hcl
  · have hB' : va_P D vwCl w1 t.heap ∧ va_D (va_A wc H.size) w1 := hB
    rw [ht] at hB'
    have hw' : c0 = 0 ∧ r = v := hw
    rw [hw'.2]
    exact kk H1 locs1 hw'.1 hk1 hB'.1 hB'.2 hS1
end
