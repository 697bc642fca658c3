/-! Texts: single signs. -/
abbrev pqRS : Type := Int32 × Int32 × Int32 × Int32 × Int32 × Int32 × (Nat → Int32) × (Nat → Int32)
def pqTk (fu : Nat) (st : pqRS) (c : Int32) : Option (Int32 × Int32 × Int32 × Int32 × Int32 × Int32 × Int32 × (Nat → Int32) × (Nat → Int32)) := F_X1_take fu st.1 st.2.1 st.2.2.1 st.2.2.2.1 st.2.2.2.2.1 st.2.2.2.2.2.1 st.2.2.2.2.2.2.1 st.2.2.2.2.2.2.2 c
def pqNx (fu : Nat) (st : pqRS) (c : Int32) : pqRS := match pqTk fu st c with
  | some r => r.2
  | none => st
theorem pqNx_of {fu : Nat} {st st2 : pqRS} {c v : Int32} (h : pqTk fu st c = some (v, st2)) : pqNx fu st c = st2 := by
  unfold pqNx
  rw [h]
/-- the reader's state behind i signs -/
def pqSt8 (fu : Nat) (st0 : pqRS) (tx : Nat → Int32) : Nat → pqRS
  | 0 => st0
  | i + 1 => pqNx fu (pqSt8 fu st0 tx i) (tx i)
def pqOk (fu : Nat) (st0 : pqRS) (tx : Nat → Int32) (i : Nat) : Prop := pqTk fu (pqSt8 fu st0 tx i) (tx i) = some (1, pqSt8 fu st0 tx (i + 1))
def pqBad (fu : Nat) (st0 : pqRS) (tx : Nat → Int32) (i : Nat) : Prop := ∃ st2, pqTk fu (pqSt8 fu st0 tx i) (tx i) = some (0, st2)
theorem pqOk_of {fu i : Nat} {st0 st st2 : pqRS} {tx : Nat → Int32} (hs : pqSt8 fu st0 tx i = st) (h : pqTk fu st (tx i) = some (1, st2)) : pqOk fu st0 tx i ∧ pqSt8 fu st0 tx (i + 1) = st2 := by
  have e : pqSt8 fu st0 tx (i + 1) = st2 := by
    show pqNx fu (pqSt8 fu st0 tx i) (tx i) = st2
    rw [hs]
    exact pqNx_of h
  refine ⟨?_, e⟩
  unfold pqOk
  rw [hs, e, h]
theorem pqBad_of {fu i : Nat} {st0 st st2 : pqRS} {tx : Nat → Int32} (hs : pqSt8 fu st0 tx i = st) (h : pqTk fu st (tx i) = some (0, st2)) : pqBad fu st0 tx i := ⟨st2, by rw [hs]; exact h⟩
/-- the contact that a sign names; 99 without one -/
def pqBt (x : Nat) : Nat := if 97 ≤ x ∧ x ≤ 100 then x - 97 else if 48 ≤ x ∧ x ≤ 53 then x - 44 else 99
theorem pqBt_10 {x : Nat} (h : pqBt x ≠ 99) : pqBt x < 10 := by
  unfold pqBt at h ⊢
  split
  · omega
  · split
    · omega
    · rename_i h1 h2
      rw [if_neg h1, if_neg h2] at h
      exact absurd rfl h
theorem pq_ctc (fu : Nat) : ∀ x, x < 127 → F_X1_contactOf fu (nI x) = some (if pqBt x = 99 then 0 else (1 : Int32) <<< (nI (pqBt x) &&& (31 : Int32))) := (by decide +kernel : ∀ x, x < 127 → F_X1_contactOf 0 (nI x) = some (if pqBt x = 99 then 0 else (1 : Int32) <<< (nI (pqBt x) &&& (31 : Int32))))
theorem pq_1sh : ∀ q, q < 10 → ¬ (1 : Int32) <<< (nI q &&& (31 : Int32)) = 0 := by decide +kernel
theorem pq_cmp {x k : Nat} (h : x < 127) (hk : k < 127) : (nI x = nI k ↔ x = k) ∧ (nI x < nI k ↔ x < k) ∧ (nI x ≤ nI k ↔ x ≤ k) := ⟨nI_eq (by omega) (by omega), nI_ltI (by omega) (by omega), nI_leI (by omega) (by omega)⟩
theorem pq_sub48 {x : Nat} (h : 48 ≤ x) : nI x - (48 : Int32) = nI (x - 48) := pk_sub (b := 48) h
/-! the class -/
theorem pq_tk0u {fu : Nat} {k o t b cu : Int32} {cl op : Nat → Int32} : pqTk fu (0, k, o, t, b, cu, cl, op) (nI 117) = some (1, 5, 1, o, t, b, cu, cl, op) := by rfl
theorem pq_tk0v {fu : Nat} {k o t b cu : Int32} {cl op : Nat → Int32} : pqTk fu (0, k, o, t, b, cu, cl, op) (nI 118) = some (1, 5, 2, o, t, b, cu, cl, op) := by rfl
theorem pq_own {fu x : Nat} {nx o z : Int32} (hx : x < 127) : F_X1_takeOwner fu nx o (nI x) z = some (if 48 ≤ x ∧ x ≤ 53 then (1, z, nI (x - 48)) else (0, nx, o)) := by
  unfold F_X1_takeOwner
  have h1 : (nI x < (48 : Int32)) ↔ x < 48 := (pq_cmp (k := 48) hx (by omega)).2.1
  have h2 : (nI x < (54 : Int32)) ↔ x < 54 := (pq_cmp (k := 54) hx (by omega)).2.1
  by_cases c1 : x < 48
  · rw [if_pos (h1.mpr c1), if_neg (by omega)]
  · rw [if_neg (fun z => c1 (h1.mp z))]
    by_cases c2 : x < 54
    · rw [if_pos (h2.mpr c2), if_pos (by omega), pq_sub48 (by omega)]
    · rw [if_neg (fun z => c2 (h2.mp z)), if_neg (by omega)]
theorem pq_tk0 {fu x : Nat} {k o t b cu : Int32} {cl op : Nat → Int32} (hx : x < 127) (h1 : x ≠ 117) (h2 : x ≠ 118) : pqTk fu (0, k, o, t, b, cu, cl, op) (nI x) = some (if 48 ≤ x ∧ x ≤ 53 then (1, 1, 0, nI (x - 48), t, 0, cu, cl, op) else (0, 0, 0, o, t, 0, cu, cl, op)) := by
  have e1 : ¬ nI x = (117 : Int32) := fun e => h1 ((pq_cmp (k := 117) hx (by omega)).1.mp e)
  have e2 : ¬ nI x = (118 : Int32) := fun e => h2 ((pq_cmp (k := 118) hx (by omega)).1.mp e)
  unfold pqTk F_X1_take F_X1_takeOrder
  simp only [e1, e2, ↓reduceIte, pq_own hx, Option.bind_some]
  by_cases c : 48 ≤ x ∧ x ≤ 53
  · simp only [c, and_self, ↓reduceIte, pq_zbo1, Option.bind_some]
  · simp only [c, ↓reduceIte, pq_zbo0, Option.bind_some]
theorem pq_mk {fu x m : Nat} {nx z : Int32} (hx : x < 127) (hm : m < 127) : F_X1_takeMark fu nx (nI x) (nI m) z = some (if x = m then (1, z) else (0, nx)) := by
  unfold F_X1_takeMark
  by_cases c : x = m
  · rw [if_pos (by rw [c]), if_pos c]
  · rw [if_neg (fun e => c ((pq_cmp hx hm).1.mp e)), if_neg c]
theorem pq_tk1 {fu x : Nat} {k o t b cu : Int32} {cl op : Nat → Int32} (hx : x < 127) : pqTk fu (1, k, o, t, b, cu, cl, op) (nI x) = some (if x = 61 then (1, 2, k, o, t, b, cu, cl, op) else (0, 1, k, o, t, b, cu, cl, op)) := by
  have e : F_X1_takeMark fu (1 : Int32) (nI x) (61 : Int32) (2 : Int32) = some (if x = 61 then (1, 2) else (0, 1)) := pq_mk (m := 61) hx (by omega)
  unfold pqTk F_X1_take
  simp only [pq_10, ↓reduceIte, e, Option.bind_some]
  by_cases c : x = 61
  · simp only [c, ↓reduceIte, pq_zbo1, Option.bind_some]
  · simp only [c, ↓reduceIte, pq_zbo0, Option.bind_some]
theorem pq_tk5 {fu x : Nat} {k o t b cu : Int32} {cl op : Nat → Int32} (hx : x < 127) : pqTk fu (5, k, o, t, b, cu, cl, op) (nI x) = some (if 48 ≤ x ∧ x ≤ 53 then (1, 6, k, nI (x - 48), t, b, cu, cl, op) else (0, 5, k, o, t, b, cu, cl, op)) := by
  unfold pqTk F_X1_take
  simp only [show ¬ (5 : Int32) = 0 by decide, show ¬ (5 : Int32) = 1 by decide, show ¬ (5 : Int32) = 2 by decide, show ¬ (5 : Int32) = 3 by decide, show ¬ (5 : Int32) = 4 by decide, ↓reduceIte, pq_own hx, Option.bind_some]
  by_cases c : 48 ≤ x ∧ x ≤ 53
  · simp only [c, and_self, ↓reduceIte, pq_zbo1, Option.bind_some]
  · simp only [c, ↓reduceIte, pq_zbo0, Option.bind_some]
theorem pq_tk6 {fu x : Nat} {k o t b cu : Int32} {cl op : Nat → Int32} (hx : x < 127) : pqTk fu (6, k, o, t, b, cu, cl, op) (nI x) = some (if x = 58 then (1, 7, k, o, t, b, cu, cl, op) else (0, 6, k, o, t, b, cu, cl, op)) := by
  have e : F_X1_takeMark fu (6 : Int32) (nI x) (58 : Int32) (7 : Int32) = some (if x = 58 then (1, 7) else (0, 6)) := pq_mk (m := 58) hx (by omega)
  unfold pqTk F_X1_take
  simp only [show ¬ (6 : Int32) = 0 by decide, show ¬ (6 : Int32) = 1 by decide, show ¬ (6 : Int32) = 2 by decide, show ¬ (6 : Int32) = 3 by decide, show ¬ (6 : Int32) = 4 by decide, show ¬ (6 : Int32) = 5 by decide, ↓reduceIte, e, Option.bind_some]
  by_cases c : x = 58
  · simp only [c, ↓reduceIte, pq_zbo1, Option.bind_some]
  · simp only [c, ↓reduceIte, pq_zbo0, Option.bind_some]
theorem pq_tk7 {fu x : Nat} {k o t b cu : Int32} {cl op : Nat → Int32} (hx : x < 127) : pqTk fu (7, k, o, t, b, cu, cl, op) (nI x) = some (if 48 ≤ x ∧ x ≤ 57 then (1, 8, k, o, nI (x - 48), b, cu, cl, op) else (0, 7, k, o, t, b, cu, cl, op)) := by
  have h1 : (nI x < (48 : Int32)) ↔ x < 48 := (pq_cmp (k := 48) hx (by omega)).2.1
  have h2 : (nI x ≤ (57 : Int32)) ↔ x ≤ 57 := (pq_cmp (k := 57) hx (by omega)).2.2
  have e : F_X1_takeTime fu (7 : Int32) t (nI x) = some (if 48 ≤ x ∧ x ≤ 57 then (1, 8, nI (x - 48)) else (0, 7, t)) := by
    unfold F_X1_takeTime
    by_cases c1 : x < 48
    · rw [if_pos (h1.mpr c1), if_neg (by omega)]
    · rw [if_neg (fun z => c1 (h1.mp z))]
      by_cases c2 : x ≤ 57
      · rw [if_pos (h2.mpr c2), if_pos (by omega), pq_sub48 (by omega)]
      · rw [if_neg (fun z => c2 (h2.mp z)), if_neg (by omega)]
  unfold pqTk F_X1_take
  simp only [show ¬ (7 : Int32) = 0 by decide, show ¬ (7 : Int32) = 1 by decide, show ¬ (7 : Int32) = 2 by decide, show ¬ (7 : Int32) = 3 by decide, show ¬ (7 : Int32) = 4 by decide, show ¬ (7 : Int32) = 5 by decide, show ¬ (7 : Int32) = 6 by decide, ↓reduceIte, e, Option.bind_some]
  by_cases c : 48 ≤ x ∧ x ≤ 57
  · simp only [c, and_self, ↓reduceIte, pq_zbo1, Option.bind_some]
  · simp only [c, ↓reduceIte, pq_zbo0, Option.bind_some]
theorem pq_tk8 {fu x : Nat} {k o t b cu : Int32} {cl op : Nat → Int32} (hx : x < 127) : pqTk fu (8, k, o, t, b, cu, cl, op) (nI x) = some (if x = 59 then (1, 0, k, o, t, b, cu, cl, op) else (0, 8, k, o, t, b, cu, cl, op)) := by
  have e : F_X1_takeMark fu (8 : Int32) (nI x) (59 : Int32) (0 : Int32) = some (if x = 59 then (1, 0) else (0, 8)) := pq_mk (m := 59) hx (by omega)
  unfold pqTk F_X1_take
  simp only [show ¬ (8 : Int32) = 0 by decide, show ¬ (8 : Int32) = 1 by decide, show ¬ (8 : Int32) = 2 by decide, show ¬ (8 : Int32) = 3 by decide, show ¬ (8 : Int32) = 4 by decide, show ¬ (8 : Int32) = 5 by decide, show ¬ (8 : Int32) = 6 by decide, show ¬ (8 : Int32) = 7 by decide, ↓reduceIte, e, Option.bind_some]
  by_cases c : x = 59
  · simp only [c, ↓reduceIte, pq_zbo1, Option.bind_some]
  · simp only [c, ↓reduceIte, pq_zbo0, Option.bind_some]
/-! contacts of the branch that is read -/
theorem pq_cob {fu b : Nat} {cl op : Nat → Int32} (hb : b < 4) : F_X1_contactsOfBranch fu (nI b) cl op = some (cl b ||| op b) := by
  simp (disch := omega) only [F_X1_contactsOfBranch, nI_pred, pq_rd, Option.bind_some]
theorem pq_tnot {fu b x : Nat} {nx : Int32} {cl op : Nat → Int32} (hb : b < 4) (hx : x < 127) : F_X1_takeNot fu nx (nI b) cl op (nI x) = some (if x = 33 ∧ ¬ cl b ||| op b = 1023 then (1, 3) else (0, nx)) := by
  have e : (nI x = (33 : Int32)) ↔ x = 33 := (pq_cmp (k := 33) hx (by omega)).1
  unfold F_X1_takeNot
  by_cases c : x = 33
  · rw [if_pos (e.mpr c), pq_cob hb, Option.bind_some]
    by_cases c2 : cl b ||| op b = 1023
    · rw [if_pos c2, if_neg (fun z => z.2 c2)]
    · rw [if_neg c2, if_pos ⟨c, c2⟩]
  · rw [if_neg (fun z => c (e.mp z)), if_neg (fun z => c z.1)]
theorem pq_tcc {fu b x : Nat} {nx : Int32} {cl op : Nat → Int32} (hb : b < 4) (hx : x < 127) : F_X1_takeContact_closing fu nx (nI b) cl op (nI x) = some (if pqBt x ≠ 99 ∧ bt (cl b ||| op b) (pqBt x) = false then (1, 4, upd cl b (cl b ||| ((1 : Int32) <<< (nI (pqBt x) &&& (31 : Int32))))) else (0, nx, cl)) := by
  unfold F_X1_takeContact_closing
  rw [pq_ctc fu x hx, Option.bind_some]
  by_cases c : pqBt x = 99
  · rw [if_pos c, if_pos rfl, if_neg (fun z => z.1 c)]
  · have h10 := pqBt_10 c
    rw [if_neg c, if_neg (pq_1sh _ h10), pq_cob hb, Option.bind_some]
    by_cases c2 : bt (cl b ||| op b) (pqBt x) = false
    · rw [if_pos ((pq_and1 (by omega)).mpr c2), if_pos ⟨c, c2⟩]
      simp (disch := omega) only [nI_pred, pq_rd, pq_wr, Option.bind_some]
    · rw [if_neg (fun z => c2 ((pq_and1 (by omega)).mp z)), if_neg (fun z => c2 z.2)]
theorem pq_tco {fu b x : Nat} {nx : Int32} {cl op : Nat → Int32} (hb : b < 4) (hx : x < 127) : F_X1_takeContact_opening fu nx (nI b) cl op (nI x) = some (if pqBt x ≠ 99 ∧ bt (cl b ||| op b) (pqBt x) = false then (1, 4, upd op b (op b ||| ((1 : Int32) <<< (nI (pqBt x) &&& (31 : Int32))))) else (0, nx, op)) := by
  unfold F_X1_takeContact_opening
  rw [pq_ctc fu x hx, Option.bind_some]
  by_cases c : pqBt x = 99
  · rw [if_pos c, if_pos rfl, if_neg (fun z => z.1 c)]
  · have h10 := pqBt_10 c
    rw [if_neg c, if_neg (pq_1sh _ h10), pq_cob hb, Option.bind_some]
    by_cases c2 : bt (cl b ||| op b) (pqBt x) = false
    · rw [if_pos ((pq_and1 (by omega)).mpr c2), if_pos ⟨c, c2⟩]
      simp (disch := omega) only [nI_pred, pq_rd, pq_wr, Option.bind_some]
    · rw [if_neg (fun z => c2 ((pq_and1 (by omega)).mp z)), if_neg (fun z => c2 z.2)]
theorem pq_tk3 {fu x b : Nat} {k o t : Int32} {cl op : Nat → Int32} (hb : b < 4) (hx : x < 127) : pqTk fu (3, k, o, t, nI (b + 1), nI b, cl, op) (nI x) = some (if pqBt x ≠ 99 ∧ bt (cl b ||| op b) (pqBt x) = false then (1, 4, k, o, t, nI (b + 1), nI b, cl, upd op b (op b ||| ((1 : Int32) <<< (nI (pqBt x) &&& (31 : Int32))))) else (0, 3, k, o, t, nI (b + 1), nI b, cl, op)) := by
  unfold pqTk F_X1_take
  simp only [show ¬ (3 : Int32) = 0 by decide, show ¬ (3 : Int32) = 1 by decide, show ¬ (3 : Int32) = 2 by decide, ↓reduceIte, pq_tco hb hx, Option.bind_some]
  by_cases c : pqBt x ≠ 99 ∧ bt (cl b ||| op b) (pqBt x) = false
  · rw [if_pos c, if_pos c]
    rfl
  · rw [if_neg c, if_neg c]
    rfl
theorem pq_tk4m {fu b : Nat} {k o t : Int32} {cl op : Nat → Int32} (hb : b < 3) : pqTk fu (4, k, o, t, nI (b + 1), nI b, cl, op) (nI 43) = some (1, 2, k, o, t, nI (b + 1), nI b, cl, op) := by
  have h4 : ¬ (4 : Int32) ≤ nI (b + 1) := nI_ge (b := 4) (by omega) (by omega)
  unfold pqTk F_X1_take F_X1_takeMore
  simp only [show ¬ (4 : Int32) = 0 by decide, show ¬ (4 : Int32) = 1 by decide, show ¬ (4 : Int32) = 2 by decide, show ¬ (4 : Int32) = 3 by decide, show ¬ nI 43 = (59 : Int32) by decide, show nI 43 = (43 : Int32) from rfl, show ¬ (43 : Int32) = (59 : Int32) by decide, h4, ↓reduceIte, Option.bind_some, pq_zbo1]
theorem pq_tk4e {fu : Nat} {k o t b cu : Int32} {cl op : Nat → Int32} : pqTk fu (4, k, o, t, b, cu, cl, op) (nI 59) = some (1, 0, k, o, t, b, cu, cl, op) := by rfl
theorem pq_tk4 {fu x b : Nat} {k o t : Int32} {cl op : Nat → Int32} (hb : b < 4) (hx : x < 127) (h1 : x ≠ 59) (h2 : x = 43 → b = 3) : ∃ st2, pqTk fu (4, k, o, t, nI (b + 1), nI b, cl, op) (nI x) = some (if x = 33 ∧ ¬ cl b ||| op b = 1023 then (1, 3, k, o, t, nI (b + 1), nI b, cl, op) else if pqBt x ≠ 99 ∧ bt (cl b ||| op b) (pqBt x) = false then (1, 4, k, o, t, nI (b + 1), nI b, upd cl b (cl b ||| ((1 : Int32) <<< (nI (pqBt x) &&& (31 : Int32)))), op) else (0, st2)) := by
  have e1 : ¬ nI x = (59 : Int32) := fun e => h1 ((pq_cmp (k := 59) hx (by omega)).1.mp e)
  have e2 : (nI x = (43 : Int32)) ↔ x = 43 := (pq_cmp (k := 43) hx (by omega)).1
  have e3 : F_X1_takeMore fu (4 : Int32) (nI (b + 1)) (nI b) cl op (nI x) = F_X1_takeMore_J34 fu cl (nI b) (4 : Int32) op (nI x) := by
    unfold F_X1_takeMore
    rw [if_neg e1]
    by_cases c : x = 43
    · have h4 : (4 : Int32) ≤ nI (b + 1) := nI_le (a := 4) (by have := h2 c; omega) (by omega)
      rw [if_pos (e2.mpr c), if_pos h4]
    · rw [if_neg (fun z => c (e2.mp z))]
  unfold pqTk F_X1_take
  simp only [show ¬ (4 : Int32) = 0 by decide, show ¬ (4 : Int32) = 1 by decide, show ¬ (4 : Int32) = 2 by decide, show ¬ (4 : Int32) = 3 by decide, ↓reduceIte, e3, F_X1_takeMore_J34, pq_tnot hb hx, Option.bind_some]
  by_cases c : x = 33 ∧ ¬ cl b ||| op b = 1023
  · simp only [if_pos c, pq_10, ↓reduceIte, Option.bind_some, pq_zbo1]
    exact ⟨(0, 0, 0, 0, 0, 0, cl, op), trivial⟩
  · simp only [if_neg c, ↓reduceIte, pq_tcc hb hx, Option.bind_some]
    by_cases c2 : pqBt x ≠ 99 ∧ bt (cl b ||| op b) (pqBt x) = false
    · simp only [if_pos c2, pq_10, ↓reduceIte, Option.bind_some, pq_zbo1]
      exact ⟨(0, 0, 0, 0, 0, 0, cl, op), trivial⟩
    · simp only [if_neg c2, ↓reduceIte, Option.bind_some, pq_zbo0]
      exact ⟨_, rfl⟩
theorem pq_z1023 : ¬ ((0 : Int32) ||| 0) = 1023 := by decide
theorem pq_tk2 {fu x b : Nat} {k o t cu : Int32} {cl op : Nat → Int32} (hb : b < 4) (hx : x < 127) : ∃ st2, pqTk fu (2, k, o, t, nI b, cu, cl, op) (nI x) = some (if x = 33 then (1, 3, k, o, t, nI (b + 1), nI b, upd cl b 0, upd op b 0) else if pqBt x ≠ 99 then (1, 4, k, o, t, nI (b + 1), nI b, upd (upd cl b 0) b (0 ||| ((1 : Int32) <<< (nI (pqBt x) &&& (31 : Int32)))), upd op b 0) else (0, st2)) := by
  have e : (nI x = (33 : Int32)) ↔ x = 33 := (pq_cmp (k := 33) hx (by omega)).1
  have hlt : nI b < (4 : Int32) := nI_lt (b := 4) hb (by omega)
  have hn := pq_tnot (fu := fu) (nx := (2 : Int32)) (cl := upd cl b 0) (op := upd op b 0) hb hx
  have hc := pq_tcc (fu := fu) (nx := (2 : Int32)) (cl := upd cl b 0) (op := upd op b 0) hb hx
  rw [pk_us, pk_us] at hn hc
  have h00 : bt ((0 : Int32) ||| 0) (pqBt x) = false := b_0 _
  unfold pqTk F_X1_take F_X1_takeFirstContact
  simp only [show ¬ (2 : Int32) = 0 by decide, show ¬ (2 : Int32) = 1 by decide, hlt, ↓reduceIte]
  by_cases c : x = 33
  · simp (disch := omega) only [e.mpr c, if_pos c, ↓reduceIte, F_X1_takeFirstContact_J25, pq_wr, Option.bind_some, nI_1]
    rw [show (33 : Int32) = nI x by rw [c]; rfl, hn, if_pos ⟨c, pq_z1023⟩]
    simp only [Option.bind_some, pq_10, ↓reduceIte, pq_zbo1]
    exact ⟨(0, 0, 0, 0, 0, 0, cl, op), trivial⟩
  · have e' : ¬ nI x = (33 : Int32) := fun z => c (e.mp z)
    simp only [e', c, ↓reduceIte, pq_ctc fu x hx, Option.bind_some]
    by_cases c2 : pqBt x = 99
    · simp only [c2, ↓reduceIte, Option.bind_some, pq_zbo0, ne_eq, not_true_eq_false]
      exact ⟨_, rfl⟩
    · have h10 := pqBt_10 c2
      simp (disch := omega) only [c2, pq_1sh _ h10, ↓reduceIte, F_X1_takeFirstContact_J25, pq_wr, Option.bind_some, nI_1, ne_eq, not_false_eq_true]
      rw [hn, if_neg (fun z => c z.1)]
      simp only [Option.bind_some, ↓reduceIte]
      rw [hc, if_pos ⟨c2, h00⟩]
      simp only [Option.bind_some, pq_10, ↓reduceIte, pq_zbo1]
      exact ⟨(0, 0, 0, 0, 0, 0, cl, op), trivial⟩
