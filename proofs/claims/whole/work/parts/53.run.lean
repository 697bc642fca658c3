/-! Ticks and runs of a ladder: class and reference, pure. -/
def pqU (n : Nat) (b : Nat → Nat) (cl op : Nat → Int32) (inp mot : Int32) : Int32 := pqC b cl op (inp ||| ((mot &&& (63 : Int32)) <<< ((4 : Int32) &&& (31 : Int32)))) n ^^^ (mot &&& (63 : Int32))
def pqB (n : Nat) (b : Nat → Nat) (br : Nat → Int32) : Prop := n ≤ 6 ∧ ∀ r, r < n → br r = nI (b r) ∧ b r ≤ 4
def pqR (n : Nat) (b : Nat → Nat) (cl op pu dr : Nat → Int32) (inp : Int32) (s : Nat → Int32) : Prop := n ≤ 6 ∧ s 0 = nI n ∧ s 1 = inp ∧ ∀ r, r < n → b r ≤ 4 ∧ s (4 + 14 * r + 2) = pu r ∧ s (4 + 14 * r + 3) = dr r ∧ s (4 + 14 * r + 4) = nI (b r) ∧ ∀ j, j < b r → s (4 + 14 * r + (6 + 2 * j)) = cl (4 * r + j) ∧ s (4 + 14 * r + (6 + 2 * j + 1)) = op (4 * r + j)
def pqM (n : Nat) (mot : Int32) (s : Nat → Int32) : Prop := ∀ r, r < n → s (4 + 14 * r + 0) = (mot >>> (nI r &&& (31 : Int32))) &&& (1 : Int32) ∧ s (4 + 14 * r + 1) = pqN mot r
theorem pqU_bits {n : Nat} {b : Nat → Nat} {cl op : Nat → Int32} {inp mot : Int32} (hz : pqZ n mot) {i : Nat} (hi : i < 32) (h : n ≤ i) : bt (pqU n b cl op inp mot) i = false := by
  unfold pqU
  rw [b_xor, pq_C_bits hi n h, b_and, b_63]
  rcases Nat.lt_or_ge i 6 with c | c
  · rw [hz i hi (Or.inl ⟨c, h⟩)]
    rfl
  · rw [decide_eq_false (by omega), Bool.and_false]
    rfl
theorem pq_restless {fu n : Nat} {b : Nat → Nat} {br cl op : Nat → Int32} {inp mot : Int32} (hb : pqB n b br) (hf : 4096 ≤ fu) : F_X0_restless fu (nI n) inp mot br cl op = some (pqU n b cl op inp mot) := by
  simp only [F_X0_restless, F_X0_signals, F_X0_upIn, F_X0_up, Option.bind_some, pq_calledBy hb.1 hb.2 hf]
  rfl
theorem pq_called2 {fu n : Nat} {b : Nat → Nat} {cl op pu dr s : Nat → Int32} {inp up : Int32} (h : pqR n b cl op pu dr inp s) (hf : 4096 ≤ fu) : F_X4_calledBy fu s 88 up = some (pqC b cl op (inp ||| (up <<< ((4 : Int32) &&& (31 : Int32)))) n) := by
  obtain ⟨hn, h0, h1, hr⟩ := h
  have hc := pq_calledBy2 (fu := fu) (b := b) (cl := cl) (op := op) (up := up) hn h0 (fun r z => ⟨(hr r z).2.2.2.1, (hr r z).1⟩) (fun r z => (hr r z).2.2.2.2) hf
  rw [h1] at hc
  exact hc
theorem pq_isQuiet {fu n : Nat} {b : Nat → Nat} {cl op pu dr s : Nat → Int32} {inp mot : Int32} (h : pqR n b cl op pu dr inp s) (hf : 4096 ≤ fu) : F_X4_isQuiet fu s 88 mot = some (if pqU n b cl op inp mot = 0 then 1 else 0) := by
  simp only [F_X4_isQuiet, F_X4_upOf, Option.bind_some, pq_called2 h hf, pqU, pq_xor0]
  split <;> rfl
theorem pq_sh0 (x : Int32) {k : Nat} (hk : k < 32) : x ||| ((0 : Int32) <<< (nI k &&& (31 : Int32))) = x := by
  apply b_ext
  intro i hi
  rw [b_or, b_shl k hk (0 : Int32) hi, b_0, Bool.and_false, Bool.or_false]
theorem pq_ticks {fu n : Nat} {b : Nat → Nat} {cl op pu dr s : Nat → Int32} {inp : Int32} (h : pqR n b cl op pu dr inp s) (hf : 4096 ≤ fu) (c0 d0 mot : Int32) : F_X4_ticks_s fu c0 d0 s mot = some (pqCo mot (pqU n b cl op inp mot) n, pqDu mot (pqU n b cl op inp mot) pu dr n) := by
  have hc := pq_called2 (up := mot &&& (63 : Int32)) h hf
  obtain ⟨hn, h0, h1, hr⟩ := h
  unfold F_X4_ticks_s
  simp only [F_X4_upOf, Option.bind_some, hc]
  obtain ⟨U, hU⟩ : ∃ U, pqU n b cl op inp mot = U := ⟨_, rfl⟩
  rw [hU]
  unfold pqU at hU
  refine zlp_r3 (fun r => nI r) (fun r => pqCo mot U r) (fun r => pqDu mot U pu dr r) n ?_ ?_ (by omega)
  · intro rec r z
    have q := hr r z
    simp (disch := omega) only [F_X4_ticks_s_L30, pq_rd0, h0, Option.bind_some, nI_leI, show ¬ n ≤ r by omega, ↓reduceIte, hU, pq_bit1, pq_ctOf, F_X4_ticks_s_J72, F_X4_ticks_s_J89, F_X4_ticks_s_J130, F_X4_ticks_s_J144, pq_64, nI_1, pqCo, pqDu, pqCt]
    by_cases c : bt U r = true <;> by_cases c2 : bt mot r = true <;> by_cases c3 : (10 : Int32) ≤ pqN mot r <;> simp (disch := omega) only [c, c2, c3, ↓reduceIte, pq_or0, pq_sh0, pq_of2, pq_of3, q.2.1, q.2.2.1, Option.bind_some, Bool.false_eq_true, pq_10] <;> first | done | (split <;> rfl)
  · intro rec
    simp (disch := omega) only [F_X4_ticks_s_L30, pq_rd0, h0, Option.bind_some, nI_leI, Nat.le_refl, ↓reduceIte, F_X4_ticks_s_E154]
theorem e_ticks : F_X4_ticks_then = F_X4_ticks_s := rfl
theorem e_quietIn : F_X4_quietIn_then = F_X4_quietIn_s := rfl
/-- the motion behind a tick, and who changes in it -/
def pqDd (n : Nat) (b : Nat → Nat) (cl op pu dr : Nat → Int32) (inp mot : Int32) : Int32 := pqDu mot (pqU n b cl op inp mot) pu dr n
def pqG (n : Nat) (b : Nat → Nat) (cl op pu dr : Nat → Int32) (inp mot : Int32) : Int32 := pqCh (pqCo mot (pqU n b cl op inp mot) n) (pqDd n b cl op pu dr inp mot) n
theorem pqDd_bits {n : Nat} {b : Nat → Nat} {cl op pu dr : Nat → Int32} {inp mot : Int32} {i : Nat} (hi : i < 32) (h : n ≤ i) : bt (pqDd n b cl op pu dr inp mot) i = false := pqDu_bits hi n h
theorem pqG_Z {n : Nat} {b : Nat → Nat} {cl op pu dr : Nat → Int32} {inp mot : Int32} (hn : n ≤ 6) (hz : pqZ n mot) : pqZ n (pqG n b cl op pu dr inp mot) := pqCh_Z (pqCo_Z hn hz) (fun _ hi h => pqDd_bits hi h) n
def pqCg (cg : Nat → Int32) (du : Int32) : Nat → Nat → Int32
  | 0 => cg
  | r + 1 => upd (pqCg cg du r) r (cg r + ((du >>> (nI r &&& (31 : Int32))) &&& (1 : Int32)))
theorem pqCg_out {cg : Nat → Int32} {du : Int32} {i : Nat} : ∀ r, r ≤ i → pqCg cg du r i = cg i
  | 0, _ => rfl
  | r + 1, h => by
    unfold pqCg
    rw [pk_un (by omega), pqCg_out r (by omega)]
theorem pqCg_in {cg : Nat → Int32} {du : Int32} {i : Nat} : ∀ r, i < r → pqCg cg du r i = cg i + ((du >>> (nI i &&& (31 : Int32))) &&& (1 : Int32))
  | 0, h => absurd h (Nat.not_lt_zero _)
  | r + 1, h => by
    unfold pqCg
    rcases Nat.lt_or_ge i r with c | c
    · rw [pk_un (by omega), pqCg_in r c]
    · obtain rfl : i = r := by omega
      rw [pk_us]
theorem pq_tick {fu n : Nat} {b : Nat → Nat} {br cl op pu dr cg : Nat → Int32} {inp mot tk ch : Int32} (hb : pqB n b br) (hz : pqZ n mot) (hf : 4096 ≤ fu) : F_X0_tick fu (nI n) inp mot tk ch br cl op pu dr cg = some (pqG n b cl op pu dr inp mot, tk + 1, ch + pqOn (pqDd n b cl op pu dr inp mot) 16, pqCg cg (pqDd n b cl op pu dr inp mot) n) := by
  have hn := hb.1
  unfold F_X0_tick
  rw [pq_restless hb hf, Option.bind_some, pq_counted hn hz hf, Option.bind_some, pq_dueIn hn hf, Option.bind_some, pq_turned hn hf, Option.bind_some]
  show zlp2 (F_X0_tick_L35 (nI n) (pqDd n b cl op pu dr inp mot) (F_X0_tick_E66 fu ch tk (pqDd n b cl op pu dr inp mot) (pqG n b cl op pu dr inp mot))) fu (0 : Int32) cg = _
  have hbc := pq_bcb (fu := fu) (x := pqDd n b cl op pu dr inp mot) (fun i h hi => pqDd_bits hi (by omega))
  generalize pqDd n b cl op pu dr inp mot = du at hbc ⊢
  refine zlp_r2 (fun r => nI r) (fun r => pqCg cg du r) n ?_ ?_ (by omega)
  · intro rec r z
    simp (disch := omega) only [F_X0_tick_L35, nI_leI, show ¬ n ≤ r by omega, ↓reduceIte, pq_rd, Option.bind_some, pq_wr, nI_1, pqCg_out r (Nat.le_refl r), pqCg]
  · intro rec
    simp (disch := omega) only [F_X0_tick_L35, nI_leI, Nat.le_refl, ↓reduceIte, F_X0_tick_E66, hbc, Option.bind_some]
/-! the reference's row -/
theorem pq_bitb {x : Int32} {r k : Nat} (hr : r < 32) : bt ((x >>> (nI r &&& (31 : Int32))) &&& (1 : Int32)) k = (decide (k = 0) && bt x r) := by
  rw [pq_bit hr]
  cases bt x r
  · show bt 0 k = _
    rw [b_0, Bool.and_false]
  · show bt 1 k = _
    rw [b_1, Bool.and_true]
def pqCd (mot : Int32) : Nat → Int32
  | 0 => 0
  | r + 1 => pqCd mot r ||| ((((mot >>> (nI r &&& (31 : Int32))) &&& (1 : Int32)) <<< (nI r &&& (31 : Int32))) ||| (pqN mot r <<< (nI (6 + 4 * r) &&& (31 : Int32))))
theorem pqCd_lo {mot : Int32} {i : Nat} (hi : i < 6) : ∀ r, r ≤ 6 → bt (pqCd mot r) i = (decide (i < r) && bt mot i)
  | 0, _ => by
    unfold pqCd
    rw [b_0, decide_eq_false (by omega), Bool.false_and]
  | r + 1, h => by
    unfold pqCd
    rw [b_or, pqCd_lo hi r (by omega), b_or, b_shl r (by omega) _ (by omega), pq_bitb (by omega), b_shl (6 + 4 * r) (by omega) _ (by omega), decide_eq_false (by omega : ¬ 6 + 4 * r ≤ i), Bool.false_and, Bool.or_false]
    rcases Nat.lt_trichotomy i r with c | c | c
    · rw [decide_eq_true c, decide_eq_true (by omega : i < r + 1), decide_eq_false (by omega : ¬ r ≤ i), Bool.false_and, Bool.or_false]
    · subst c
      rw [decide_eq_false (by omega : ¬ i < i), decide_eq_true (by omega : i < i + 1), decide_eq_true (by omega : i ≤ i), decide_eq_true (by omega : i - i = 0), Bool.false_and, Bool.true_and, Bool.true_and, Bool.false_or]
    · rw [decide_eq_false (by omega : ¬ i < r), decide_eq_false (by omega : ¬ i < r + 1), decide_eq_false (by omega : ¬ i - r = 0), Bool.false_and, Bool.false_and, Bool.and_false, Bool.or_false]
theorem pqCd_hi {mot : Int32} {q j : Nat} (hj : j < 4) (hi : 6 + 4 * q + j < 32) : ∀ r, r ≤ 6 → bt (pqCd mot r) (6 + 4 * q + j) = (decide (q < r) && bt mot (6 + 4 * q + j))
  | 0, _ => by
    unfold pqCd
    rw [b_0, decide_eq_false (by omega), Bool.false_and]
  | r + 1, h => by
    unfold pqCd
    rw [b_or, pqCd_hi hj hi r (by omega), b_or, b_shl r (by omega) _ hi, pq_bitb (by omega), b_shl (6 + 4 * r) (by omega) _ hi, decide_eq_false (by omega : ¬ 6 + 4 * q + j - r = 0), Bool.false_and, Bool.and_false, Bool.false_or, pqN_bits (by omega)]
    rcases Nat.lt_trichotomy q r with c | c | c
    · rw [decide_eq_true c, decide_eq_true (by omega : q < r + 1), decide_eq_false (by omega : ¬ 6 + 4 * r ≤ 6 + 4 * q + j), Bool.false_and, Bool.or_false]
    · subst c
      rw [decide_eq_false (by omega : ¬ q < q), decide_eq_true (by omega : q < q + 1), decide_eq_true (by omega : 6 + 4 * q ≤ 6 + 4 * q + j), show 6 + 4 * q + j - (6 + 4 * q) = j by omega, decide_eq_true hj, Bool.false_and, Bool.true_and, Bool.true_and, Bool.false_or]
    · rw [decide_eq_false (by omega : ¬ q < r), decide_eq_false (by omega : ¬ q < r + 1), decide_eq_false (by omega : ¬ 6 + 4 * q + j - (6 + 4 * r) < 4), Bool.false_and, Bool.false_and, Bool.and_false, Bool.or_false]
theorem pqCd_eq {mot : Int32} {n : Nat} (hn : n ≤ 6) (hz : pqZ n mot) : pqCd mot n = mot := by
  apply b_ext
  intro i hi
  rcases Nat.lt_or_ge i 6 with h6 | h6
  · rw [pqCd_lo h6 n hn]
    rcases Nat.lt_or_ge i n with c | c
    · rw [decide_eq_true c, Bool.true_and]
    · rw [hz i hi (Or.inl ⟨h6, c⟩), Bool.and_false]
  · obtain ⟨q, j, hj, rfl⟩ := pq_by h6
    rw [pqCd_hi hj hi n hn]
    rcases Nat.lt_or_ge q n with c | c
    · rw [decide_eq_true c, Bool.true_and]
    · rw [hz _ hi (Or.inr (by omega)), Bool.and_false]
theorem pq_codeOf {fu n : Nat} {mot : Int32} {s : Nat → Int32} (hn : n ≤ 6) (h0 : s 0 = nI n) (hm : pqM n mot s) (hz : pqZ n mot) (hf : 4096 ≤ fu) : F_X4_codeOf fu s 88 = some mot := by
  conv => rhs; rw [← pqCd_eq hn hz]
  unfold F_X4_codeOf
  refine zlp_r2 (fun r => pqCd mot r) (fun r => nI r) n ?_ ?_ (by omega)
  · intro rec r z
    simp (disch := omega) only [F_X4_codeOf_L4, pq_rd0, h0, Option.bind_some, nI_leI, show ¬ n ≤ r by omega, ↓reduceIte, pq_of0, pq_of1, (hm r z).1, (hm r z).2, pq_64, nI_1, pqCd]
  · intro rec
    simp (disch := omega) only [F_X4_codeOf_L4, pq_rd0, h0, Option.bind_some, nI_leI, Nat.le_refl, ↓reduceIte, F_X4_codeOf_E42]
/-! the reference's tick -/
def pqGo (s : Nat → Int32) (code du : Int32) : Nat → Nat → Int32
  | 0 => s
  | r + 1 => upd (upd (upd (pqGo s code du r) (4 + 14 * r + 0) ((code >>> (nI r &&& (31 : Int32))) &&& (1 : Int32))) (4 + 14 * r + 1) (pqN code r)) (4 + 14 * r + 5) (s (4 + 14 * r + 5) + ((du >>> (nI r &&& (31 : Int32))) &&& (1 : Int32)))
theorem pqGo_out {s : Nat → Int32} {code du : Int32} {i : Nat} : ∀ r, (∀ q, q < r → i ≠ 4 + 14 * q + 0 ∧ i ≠ 4 + 14 * q + 1 ∧ i ≠ 4 + 14 * q + 5) → pqGo s code du r i = s i
  | 0, _ => rfl
  | r + 1, h => by
    have q := h r (by omega)
    unfold pqGo
    rw [pk_un q.2.2, pk_un q.2.1, pk_un q.1]
    exact pqGo_out r (fun k hk => h k (by omega))
theorem pqGo_in {s : Nat → Int32} {code du : Int32} {q : Nat} : ∀ r, q < r → pqGo s code du r (4 + 14 * q + 0) = ((code >>> (nI q &&& (31 : Int32))) &&& (1 : Int32)) ∧ pqGo s code du r (4 + 14 * q + 1) = pqN code q ∧ pqGo s code du r (4 + 14 * q + 5) = s (4 + 14 * q + 5) + ((du >>> (nI q &&& (31 : Int32))) &&& (1 : Int32))
  | 0, h => absurd h (Nat.not_lt_zero _)
  | r + 1, h => by
    unfold pqGo
    rcases Nat.lt_or_ge q r with c | c
    · rw [pk_un (by omega), pk_un (by omega), pk_un (by omega), pk_un (by omega), pk_un (by omega), pk_un (by omega), pk_un (by omega), pk_un (by omega), pk_un (by omega)]
      exact pqGo_in r c
    · obtain rfl : q = r := by omega
      rw [pk_un (by omega), pk_un (by omega), pk_us, pk_un (by omega), pk_us, pk_us]
      exact ⟨rfl, rfl, rfl⟩
def pqGos (n : Nat) (code du : Int32) (s : Nat → Int32) : Nat → Int32 := upd (upd (pqGo s code du n) 2 (s 2 + 1)) 3 (s 3 + pqOn du 16)
theorem pq_goes {fu n : Nat} {b : Nat → Nat} {cl op pu dr s : Nat → Int32} {inp mot : Int32} (h : pqR n b cl op pu dr inp s) (hm : pqM n mot s) (hz : pqZ n mot) (hf : 4096 ≤ fu) (c0 d0 : Int32) : F_X4_goes fu c0 d0 s = some (pqOn (pqDd n b cl op pu dr inp mot) 16, pqCo mot (pqU n b cl op inp mot) n, pqDd n b cl op pu dr inp mot, pqGos n (pqG n b cl op pu dr inp mot) (pqDd n b cl op pu dr inp mot) s) := by
  have hn := h.1
  have h0 := h.2.1
  unfold F_X4_goes
  have hch : F_X4_changed fu (pqCo mot (pqU n b cl op inp mot) n, pqDu mot (pqU n b cl op inp mot) pu dr n).1 (pqCo mot (pqU n b cl op inp mot) n, pqDu mot (pqU n b cl op inp mot) pu dr n).2 = some (pqG n b cl op pu dr inp mot) := pq_changed hn (fun _ hi z => pqDu_bits hi n z) hf
  rw [pq_codeOf hn h0 hm hz hf, Option.bind_some, pq_ticks h hf, Option.bind_some, hch, Option.bind_some]
  show zlp2 (F_X4_goes_L28 fu (pqCo mot (pqU n b cl op inp mot) n, pqDd n b cl op pu dr inp mot) (pqG n b cl op pu dr inp mot) (F_X4_goes_E96 fu (pqCo mot (pqU n b cl op inp mot) n, pqDd n b cl op pu dr inp mot))) fu (0 : Int32) s = _
  generalize pqDd n b cl op pu dr inp mot = du
  generalize pqG n b cl op pu dr inp mot = code
  generalize pqCo mot (pqU n b cl op inp mot) n = co
  have ht : ∀ r, r ≤ n → pqGo s code du r 0 = nI n := fun r _ => by rw [pqGo_out r (fun q _ => by omega), h0]
  refine zlp_r2 (fun r => nI r) (fun r => pqGo s code du r) n ?_ ?_ (by omega)
  · intro rec r z
    simp (disch := omega) only [F_X4_goes_L28, pq_rd0, ht, Option.bind_some, nI_leI, show ¬ n ≤ r by omega, ↓reduceIte, pq_puts0, pq_puts1, pq_puts5, pq_of5, pq_ctOf, nI_1, pk_un, pqGo, pqGo_out (s := s) (code := code) (du := du) (i := 4 + 14 * r + 5) r (fun q _ => by omega)]
  · intro rec
    simp (disch := omega) only [F_X4_goes_L28, pq_rd0, ht, Option.bind_some, nI_leI, Nat.le_refl, ↓reduceIte, F_X4_goes_E96, pq_rd2, pq_wr2, pq_rd3, pq_wr3, pq_ones, pk_un, pqGo_out (s := s) (code := code) (du := du) (i := 2) n (fun q _ => by omega), pqGo_out (s := s) (code := code) (du := du) (i := 3) n (fun q _ => by omega), pqGos]
theorem pqGos_R {n : Nat} {b : Nat → Nat} {cl op pu dr s : Nat → Int32} {inp code du : Int32} (h : pqR n b cl op pu dr inp s) : pqR n b cl op pu dr inp (pqGos n code du s) := by
  obtain ⟨hn, h0, h1, hr⟩ := h
  have key : ∀ i, (i < 2 ∨ ∃ r c, i = 4 + 14 * r + c ∧ 2 ≤ c ∧ c < 14 ∧ c ≠ 5) → pqGos n code du s i = s i := by
    intro i hi
    unfold pqGos
    rcases hi with hi | ⟨r, c, rfl, h2, h3, h4⟩
    · rw [pk_un (by omega), pk_un (by omega)]
      exact pqGo_out n (fun q _ => by omega)
    · rw [pk_un (by omega), pk_un (by omega)]
      exact pqGo_out n (fun q _ => by omega)
  refine ⟨hn, by rw [key 0 (by omega), h0], by rw [key 1 (by omega), h1], fun r z => ?_⟩
  obtain ⟨a1, a2, a3, a4, a5⟩ := hr r z
  refine ⟨a1, by rw [key _ (Or.inr ⟨r, 2, rfl, by omega, by omega, by omega⟩), a2], by rw [key _ (Or.inr ⟨r, 3, rfl, by omega, by omega, by omega⟩), a3], by rw [key _ (Or.inr ⟨r, 4, rfl, by omega, by omega, by omega⟩), a4], fun j hj => ?_⟩
  rw [key _ (Or.inr ⟨r, 6 + 2 * j, rfl, by omega, by omega, by omega⟩), key _ (Or.inr ⟨r, 6 + 2 * j + 1, rfl, by omega, by omega, by omega⟩)]
  exact a5 j hj
theorem pqGos_M {n : Nat} {code du : Int32} {s : Nat → Int32} : pqM n code (pqGos n code du s) := by
  intro r z
  unfold pqGos
  rw [pk_un (by omega), pk_un (by omega), pk_un (by omega), pk_un (by omega)]
  exact ⟨(pqGo_in n z).1, (pqGo_in n z).2.1⟩
/-! many ticks -/
/-- motion, ticks, changes, how often each has changed: behind k ticks -/
def pqSt (n : Nat) (b : Nat → Nat) (cl op pu dr : Nat → Int32) (inp : Int32) (x : Int32 × Int32 × Int32 × (Nat → Int32)) : Nat → Int32 × Int32 × Int32 × (Nat → Int32)
  | 0 => x
  | k + 1 => let y := pqSt n b cl op pu dr inp x k; (pqG n b cl op pu dr inp y.1, y.2.1 + 1, y.2.2.1 + pqOn (pqDd n b cl op pu dr inp y.1) 16, pqCg y.2.2.2 (pqDd n b cl op pu dr inp y.1) n)
theorem pqSt_Z {n : Nat} {b : Nat → Nat} {cl op pu dr : Nat → Int32} {inp : Int32} {x : Int32 × Int32 × Int32 × (Nat → Int32)} (hn : n ≤ 6) (hz : pqZ n x.1) : ∀ k, pqZ n (pqSt n b cl op pu dr inp x k).1
  | 0 => hz
  | k + 1 => pqG_Z hn (pqSt_Z hn hz k)
/-- the reference's row behind k ticks -/
def pqRo (n : Nat) (b : Nat → Nat) (cl op pu dr : Nat → Int32) (inp : Int32) (x : Int32 × Int32 × Int32 × (Nat → Int32)) (s : Nat → Int32) : Nat → Nat → Int32
  | 0 => s
  | k + 1 => pqGos n (pqSt n b cl op pu dr inp x (k + 1)).1 (pqDd n b cl op pu dr inp (pqSt n b cl op pu dr inp x k).1) (pqRo n b cl op pu dr inp x s k)
theorem pqRo_R {n : Nat} {b : Nat → Nat} {cl op pu dr s : Nat → Int32} {inp : Int32} {x : Int32 × Int32 × Int32 × (Nat → Int32)} (h : pqR n b cl op pu dr inp s) : ∀ k, pqR n b cl op pu dr inp (pqRo n b cl op pu dr inp x s k)
  | 0 => h
  | k + 1 => pqGos_R (pqRo_R h k)
theorem pqRo_M {n : Nat} {b : Nat → Nat} {cl op pu dr s : Nat → Int32} {inp : Int32} {x : Int32 × Int32 × Int32 × (Nat → Int32)} (h : pqM n x.1 s) : ∀ k, pqM n (pqSt n b cl op pu dr inp x k).1 (pqRo n b cl op pu dr inp x s k)
  | 0 => h
  | k + 1 => pqGos_M
/-- what else the row has -/
def pqX (n : Nat) (tk ch : Int32) (cg s : Nat → Int32) : Prop := s 2 = tk ∧ s 3 = ch ∧ ∀ r, r < n → s (4 + 14 * r + 5) = cg r
theorem pqRo_X {n : Nat} {b : Nat → Nat} {cl op pu dr s : Nat → Int32} {inp : Int32} {x : Int32 × Int32 × Int32 × (Nat → Int32)} (h : pqX n x.2.1 x.2.2.1 x.2.2.2 s) : ∀ k, pqX n (pqSt n b cl op pu dr inp x k).2.1 (pqSt n b cl op pu dr inp x k).2.2.1 (pqSt n b cl op pu dr inp x k).2.2.2 (pqRo n b cl op pu dr inp x s k)
  | 0 => h
  | k + 1 => by
    obtain ⟨a, c, d⟩ := pqRo_X (b := b) (cl := cl) (op := op) (pu := pu) (dr := dr) (inp := inp) h k
    refine ⟨?_, ?_, ?_⟩
    · show pqGos _ _ _ _ 2 = _ + 1
      unfold pqGos
      rw [pk_un (by omega), pk_us, a]
    · show pqGos _ _ _ _ 3 = _ + _
      unfold pqGos
      rw [pk_us, c]
    · intro r z
      show pqGos _ _ _ _ (4 + 14 * r + 5) = pqCg _ _ n r
      unfold pqGos
      rw [pk_un (by omega), pk_un (by omega), (pqGo_in n z).2.2, pqCg_in n z, d r z]
/-- places of the row that no tick touches -/
theorem pqRo_out {n : Nat} {b : Nat → Nat} {cl op pu dr s : Nat → Int32} {inp : Int32} {x : Int32 × Int32 × Int32 × (Nat → Int32)} {i : Nat} (h2 : i ≠ 2) (h3 : i ≠ 3) (hi : ∀ q, q < n → i ≠ 4 + 14 * q + 0 ∧ i ≠ 4 + 14 * q + 1 ∧ i ≠ 4 + 14 * q + 5) : ∀ k, pqRo n b cl op pu dr inp x s k i = s i
  | 0 => rfl
  | k + 1 => by
    show pqGos _ _ _ _ i = _
    unfold pqGos
    rw [pk_un h3, pk_un h2, pqGo_out n hi]
    exact pqRo_out h2 h3 hi k
def pqSum (n : Nat) (b : Nat → Nat) (cl op pu dr : Nat → Int32) (inp : Int32) (x : Int32 × Int32 × Int32 × (Nat → Int32)) : Nat → Int32
  | 0 => 0
  | k + 1 => pqSum n b cl op pu dr inp x k + pqOn (pqDd n b cl op pu dr inp (pqSt n b cl op pu dr inp x k).1) 16
theorem pqSum_n {n : Nat} {b : Nat → Nat} {cl op pu dr : Nat → Int32} {inp : Int32} {x : Int32 × Int32 × Int32 × (Nat → Int32)} : ∀ k, ∃ m, m ≤ 16 * k ∧ pqSum n b cl op pu dr inp x k = nI m
  | 0 => ⟨0, by omega, rfl⟩
  | k + 1 => by
    obtain ⟨m, hm, e⟩ := pqSum_n (n := n) (b := b) (cl := cl) (op := op) (pu := pu) (dr := dr) (inp := inp) (x := x) k
    obtain ⟨m2, hm2, e2⟩ := pqOn_n (pqDd n b cl op pu dr inp (pqSt n b cl op pu dr inp x k).1) 16 (by omega)
    exact ⟨m + m2, by omega, by unfold pqSum; rw [e, e2, nI_add]⟩
theorem pqSum_ch {n : Nat} {b : Nat → Nat} {cl op pu dr : Nat → Int32} {inp : Int32} {x : Int32 × Int32 × Int32 × (Nat → Int32)} : ∀ k, (pqSt n b cl op pu dr inp x k).2.2.1 = x.2.2.1 + pqSum n b cl op pu dr inp x k
  | 0 => (Int32.add_zero _).symm
  | k + 1 => by
    show (pqSt n b cl op pu dr inp x k).2.2.1 + _ = x.2.2.1 + (pqSum n b cl op pu dr inp x k + _)
    rw [pqSum_ch k, Int32.add_assoc]
theorem pq_runs {fu n N : Nat} {b : Nat → Nat} {cl op pu dr s : Nat → Int32} {inp : Int32} {x : Int32 × Int32 × Int32 × (Nat → Int32)} (h : pqR n b cl op pu dr inp s) (hm : pqM n x.1 s) (hz : pqZ n x.1) (hN : N ≤ 200) (hf : 4096 ≤ fu) (c0 d0 : Int32) : ∃ c1 d1, F_X4_runs fu c0 d0 s (nI N) = some (pqSum n b cl op pu dr inp x N, c1, d1, pqRo n b cl op pu dr inp x s N) := by
  unfold F_X4_runs
  refine zlp_t5 (Q := fun o => ∃ c1 d1, o = some (pqSum n b cl op pu dr inp x N, c1, d1, pqRo n b cl op pu dr inp x s N)) N (fun i a1 a2 _ _ a5 => a1 = pqSum n b cl op pu dr inp x i ∧ a2 = nI i ∧ a5 = pqRo n b cl op pu dr inp x s i) ?_ (by omega) _ _ _ _ _ ⟨rfl, rfl, rfl⟩
  rintro rec i hi hrec a1 a2 a3 a4 a5 ⟨rfl, rfl, rfl⟩
  rcases Nat.lt_or_ge i N with c | c
  · have g := pq_goes (pqRo_R (x := x) h i) (pqRo_M (b := b) (cl := cl) (op := op) (pu := pu) (dr := dr) (inp := inp) hm i) (pqSt_Z h.1 hz i) hf a3 a4
    simp (disch := omega) only [F_X4_runs_L4, nI_leI, show ¬ N ≤ i by omega, ↓reduceIte, g, Option.bind_some, nI_1]
    exact hrec c _ _ _ _ _ ⟨rfl, rfl, rfl⟩
  · obtain rfl : i = N := by omega
    simp (disch := omega) only [F_X4_runs_L4, nI_leI, Nat.le_refl, ↓reduceIte, F_X4_runs_E22]
    exact ⟨_, _, rfl⟩
/-- the first k, of 201, behind which all is quiet; 201 without one -/
def pqF (n : Nat) (b : Nat → Nat) (cl op pu dr : Nat → Int32) (inp : Int32) (x : Int32 × Int32 × Int32 × (Nat → Int32)) : Nat := fa_first (fun k => decide (pqU n b cl op inp (pqSt n b cl op pu dr inp x k).1 = 0)) 201
theorem pq_first (p : Nat → Prop) [DecidablePred p] (n : Nat) : fa_first (fun k => decide (p k)) n ≤ n ∧ (∀ k, k < fa_first (fun k => decide (p k)) n → ¬ p k) ∧ (fa_first (fun k => decide (p k)) n < n → p (fa_first (fun k => decide (p k)) n)) := ⟨fa_first_le _ n, fun k hk => of_decide_eq_false (fa_first_no _ n k hk), fun hk => of_decide_eq_true (fa_first_yes (fun k => decide (p k)) n hk)⟩
theorem pqF_ex (n : Nat) (b : Nat → Nat) (cl op pu dr : Nat → Int32) (inp : Int32) (x : Int32 × Int32 × Int32 × (Nat → Int32)) : ∃ K, pqF n b cl op pu dr inp x = K ∧ K ≤ 201 ∧ (∀ k, k < K → ¬ pqU n b cl op inp (pqSt n b cl op pu dr inp x k).1 = 0) ∧ (K < 201 → pqU n b cl op inp (pqSt n b cl op pu dr inp x K).1 = 0) := by
  refine ⟨_, rfl, ?_⟩
  unfold pqF
  exact pq_first (fun k => pqU n b cl op inp (pqSt n b cl op pu dr inp x k).1 = 0) 201
theorem pq_ticksToQuiet {fu n : Nat} {b : Nat → Nat} {br cl op pu dr : Nat → Int32} {inp : Int32} {x : Int32 × Int32 × Int32 × (Nat → Int32)} (hb : pqB n b br) (hz : pqZ n x.1) (hf : 4096 ≤ fu) : F_X0_ticksToQuiet fu (nI n) inp x.1 x.2.1 x.2.2.1 br cl op pu dr x.2.2.2 = some ((if pqF n b cl op pu dr inp x = 201 then -1 else nI (pqF n b cl op pu dr inp x)), pqSt n b cl op pu dr inp x (pqF n b cl op pu dr inp x)) := by
  obtain ⟨K, eK, hle, hno, hyes⟩ := pqF_ex n b cl op pu dr inp x
  rw [eK]
  unfold F_X0_ticksToQuiet
  refine zlp_r5 (fun k => nI k) (fun k => (pqSt n b cl op pu dr inp x k).1) (fun k => (pqSt n b cl op pu dr inp x k).2.1) (fun k => (pqSt n b cl op pu dr inp x k).2.2.1) (fun k => (pqSt n b cl op pu dr inp x k).2.2.2) K ?_ ?_ (by omega)
  · intro rec k hk
    have h200 : ¬ (200 : Int32) < nI k := nI_nlt (b := k) (a := 200) (by omega) (by omega)
    simp (disch := omega) only [F_X0_ticksToQuiet_L2, h200, ↓reduceIte, pq_restless hb hf, Option.bind_some, hno k hk, pq_tick hb (pqSt_Z hb.1 hz k) hf, nI_1]
    rfl
  · intro rec
    rcases Nat.lt_or_ge K 201 with c | c
    · have h200 : ¬ (200 : Int32) < nI K := nI_nlt (b := K) (a := 200) (by omega) (by omega)
      simp (disch := omega) only [F_X0_ticksToQuiet_L2, h200, ↓reduceIte, pq_restless hb hf, Option.bind_some, hyes c, show ¬ K = 201 by omega]
    · obtain rfl : K = 201 := by omega
      simp only [F_X0_ticksToQuiet_L2, show (200 : Int32) < nI 201 by decide, ↓reduceIte, F_X0_ticksToQuiet_E28]
theorem pq_quietIn {fu n : Nat} {b : Nat → Nat} {cl op pu dr s : Nat → Int32} {inp : Int32} {x : Int32 × Int32 × Int32 × (Nat → Int32)} (h : pqR n b cl op pu dr inp s) (hm : pqM n x.1 s) (hz : pqZ n x.1) (hf : 4096 ≤ fu) (c0 d0 e0 : Int32) : ∃ c1 d1 e1, F_X4_quietIn_s fu c0 d0 e0 s = some ((if pqF n b cl op pu dr inp x = 201 then -1 else nI (pqF n b cl op pu dr inp x)), c1, d1, e1) ∧ (pqF n b cl op pu dr inp x < 201 → e1 = (pqSt n b cl op pu dr inp x (pqF n b cl op pu dr inp x)).1 &&& (63 : Int32)) := by
  obtain ⟨K, eK, hle, hno, hyes⟩ := pqF_ex n b cl op pu dr inp x
  rw [eK]
  unfold F_X4_quietIn_s
  rw [pq_codeOf h.1 h.2.1 hm hz hf, Option.bind_some]
  refine zlp_t4 (Q := fun o => ∃ c1 d1 e1, o = some ((if K = 201 then -1 else nI K), c1, d1, e1) ∧ (K < 201 → e1 = (pqSt n b cl op pu dr inp x K).1 &&& (63 : Int32))) 200 (fun i a1 a2 _ _ => a1 = (pqSt n b cl op pu dr inp x i).1 ∧ a2 = nI i ∧ i ≤ K) ?_ (by omega) _ _ _ _ ⟨rfl, rfl, Nat.zero_le _⟩
  rintro rec i hi hrec a1 a2 a3 a4 ⟨rfl, rfl, hK⟩
  rcases Nat.lt_or_ge i 200 with c | c
  · have h200 : ¬ (200 : Int32) ≤ nI i := nI_ge (b := 200) c (by omega)
    rcases Nat.lt_or_ge i K with ck | ck
    · simp (disch := omega) only [F_X4_quietIn_s_L7, h200, ↓reduceIte, pq_isQuiet h hf, Option.bind_some, hno i ck, pq_ticks h hf, nI_1, pq_changed h.1 (fun _ hi z => pqDu_bits hi n z) hf]
      exact hrec c _ _ _ _ ⟨rfl, rfl, by omega⟩
    · obtain rfl : i = K := by omega
      simp (disch := omega) only [F_X4_quietIn_s_L7, h200, ↓reduceIte, pq_isQuiet h hf, Option.bind_some, hyes (by omega), F_X4_quietIn_s_E43, F_X4_upOf, pq_10, show ¬ i = 201 by omega]
      exact ⟨_, _, _, rfl, fun _ => rfl⟩
  · obtain rfl : i = 200 := by omega
    rcases Nat.lt_or_ge 200 K with ck | ck
    · simp (disch := omega) only [F_X4_quietIn_s_L7, show (200 : Int32) ≤ nI 200 by decide, ↓reduceIte, F_X4_quietIn_s_E43, F_X4_upOf, Option.bind_some, pq_isQuiet h hf, hno 200 ck, show K = 201 by omega]
      exact ⟨_, _, _, rfl, fun z => absurd z (by omega)⟩
    · obtain rfl : K = 200 := by omega
      simp (disch := omega) only [F_X4_quietIn_s_L7, show (200 : Int32) ≤ nI 200 by decide, ↓reduceIte, F_X4_quietIn_s_E43, F_X4_upOf, Option.bind_some, pq_isQuiet h hf, hyes (by omega), pq_10, show ¬ (200 : Nat) = 201 by decide]
      exact ⟨_, _, _, rfl, fun _ => rfl⟩
