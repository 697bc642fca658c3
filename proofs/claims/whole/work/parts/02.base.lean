/-! What every later part stands on: partial reads and writes, loops as functions, contracts of methods that only read (zRO) and that write (zRW), and their calls. -/
def zrd (f : Nat → Int32) (n : Nat) (i : Int32) : Option Int32 := if 0 ≤ i.toInt ∧ i.toInt < n then some (f i.toNatClampNeg) else none
def zwr (f : Nat → Int32) (n : Nat) (i x : Int32) : Option (Nat → Int32) := if 0 ≤ i.toInt ∧ i.toInt < n then some (upd f i.toNatClampNeg x) else none
def zbo (x : Int32) : Option Int32 := if x = 0 ∨ x = 1 then some x else none
theorem zrd_some {f : Nat → Int32} {n : Nat} {i v : Int32} (h : zrd f n i = some v) : vp_in i n ∧ f i.toNatClampNeg = v := by
  unfold zrd at h
  split at h
  · rename_i hc
    exact ⟨vp_in_iff.mpr hc, Option.some.inj h⟩
  · cases h
theorem zwr_some {f : Nat → Int32} {n : Nat} {i x : Int32} {v : Nat → Int32} (h : zwr f n i x = some v) : vp_in i n ∧ upd f i.toNatClampNeg x = v := by
  unfold zwr at h
  split at h
  · rename_i hc
    exact ⟨vp_in_iff.mpr hc, Option.some.inj h⟩
  · cases h
theorem zbo_some {x v : Int32} (h : zbo x = some v) : (v = 0 ∨ v = 1) ∧ x = v := by
  unfold zbo at h
  split at h
  · rename_i hc
    have e := Option.some.inj h
    subst e
    exact ⟨hc, rfl⟩
  · cases h
def znn (r : UInt64) : Option UInt64 := if r &&& 0x7fffffffffffffff ≤ 0x7ff0000000000000 then some r else none
theorem znn_some {r v : UInt64} (h : znn r = some v) : vf_n64 r ∧ r = v := by
  unfold znn at h
  split at h
  · rename_i hc
    exact ⟨hc, Option.some.inj h⟩
  · cases h
def zcy (f : Nat → Int32) (n0 : Nat) (sp : Int32) (g : Nat → Int32) (n1 : Nat) (dp n : Int32) : Option (Nat → Int32) := if ¬ sp < 0 ∧ ¬ dp < 0 ∧ ¬ n < 0 ∧ sp.toNatClampNeg + n.toNatClampNeg ≤ n0 ∧ dp.toNatClampNeg + n.toNatClampNeg ≤ n1 then some (va_cpy f g sp.toNatClampNeg dp.toNatClampNeg n.toNatClampNeg) else none
theorem zcy_some {f : Nat → Int32} {n0 : Nat} {sp : Int32} {g : Nat → Int32} {n1 : Nat} {dp n : Int32} {v : Nat → Int32} (h : zcy f n0 sp g n1 dp n = some v) : (¬ sp < 0 ∧ ¬ dp < 0 ∧ ¬ n < 0 ∧ sp.toNatClampNeg + n.toNatClampNeg ≤ n0 ∧ dp.toNatClampNeg + n.toNatClampNeg ≤ n1) ∧ va_cpy f g sp.toNatClampNeg dp.toNatClampNeg n.toNatClampNeg = v := by
  unfold zcy at h
  split at h
  · rename_i hc
    exact ⟨hc, Option.some.inj h⟩
  · cases h
theorem zsw {x c : Int32} {k : Int} (hk : c.toInt = k) (h : ¬ x = c) : ¬ x.toInt = k := fun e => h (Int32.toInt_inj.mp (e.trans hk.symm))
theorem zbnd {α β : Type} {x : Option α} {f : α → Option β} {r : β} (h : x.bind f = some r) : ∃ v, x = some v ∧ f v = some r := by
  cases x with
  | none => cases h
  | some v => exact ⟨v, rfl, h⟩
theorem zif_t {c : Prop} [Decidable c] {α : Type} {a b r : α} (hc : c) (h : (if c then a else b) = r) : a = r := by rw [if_pos hc] at h; exact h
theorem zif_f {c : Prop} [Decidable c] {α : Type} {a b r : α} (hc : ¬ c) (h : (if c then a else b) = r) : b = r := by rw [if_neg hc] at h; exact h
theorem znz {y : Int32} {α : Type} {a : Option α} {r : α} (h : (if y = 0 then none else a) = some r) : ¬ y = 0 ∧ a = some r := by
  by_cases hc : y = 0
  · rw [if_pos hc] at h
    cases h
  · rw [if_neg hc] at h
    exact ⟨hc, h⟩
def zlp1 {A1 ρ : Type} (body : (A1 → Option ρ) → A1 → Option ρ) : Nat → A1 → Option ρ
  | 0, _ => none
  | n + 1, a1 => body (zlp1 body n) a1
theorem zlp_s1 {A1 ρ : Type} (body : (A1 → Option ρ) → A1 → Option ρ) (n : Nat) (a1 : A1) : zlp1 body (n + 1) a1 = body (zlp1 body n) a1 := rfl
theorem zlp_i1 {A1 ρ : Type} {body : (A1 → Option ρ) → A1 → Option ρ} {R : ρ} (P : A1 → Prop) (step : ∀ (rec : A1 → Option ρ), (∀ (a1 : A1), rec a1 = some R → P a1) → ∀ (a1 : A1), body rec a1 = some R → P a1) : ∀ (n : Nat) (a1 : A1), zlp1 body n a1 = some R → P a1 := by
  intro n
  induction n with
  | zero =>
    intro a1 h
    exact absurd h (by simp [zlp1])
  | succ n ih =>
    intro a1 h
    exact step (zlp1 body n) ih a1 h
def zlp2 {A1 A2 ρ : Type} (body : (A1 → A2 → Option ρ) → A1 → A2 → Option ρ) : Nat → A1 → A2 → Option ρ
  | 0, _, _ => none
  | n + 1, a1, a2 => body (zlp2 body n) a1 a2
theorem zlp_s2 {A1 A2 ρ : Type} (body : (A1 → A2 → Option ρ) → A1 → A2 → Option ρ) (n : Nat) (a1 : A1) (a2 : A2) : zlp2 body (n + 1) a1 a2 = body (zlp2 body n) a1 a2 := rfl
theorem zlp_i2 {A1 A2 ρ : Type} {body : (A1 → A2 → Option ρ) → A1 → A2 → Option ρ} {R : ρ} (P : A1 → A2 → Prop) (step : ∀ (rec : A1 → A2 → Option ρ), (∀ (a1 : A1) (a2 : A2), rec a1 a2 = some R → P a1 a2) → ∀ (a1 : A1) (a2 : A2), body rec a1 a2 = some R → P a1 a2) : ∀ (n : Nat) (a1 : A1) (a2 : A2), zlp2 body n a1 a2 = some R → P a1 a2 := by
  intro n
  induction n with
  | zero =>
    intro a1 a2 h
    exact absurd h (by simp [zlp2])
  | succ n ih =>
    intro a1 a2 h
    exact step (zlp2 body n) ih a1 a2 h
def zlp3 {A1 A2 A3 ρ : Type} (body : (A1 → A2 → A3 → Option ρ) → A1 → A2 → A3 → Option ρ) : Nat → A1 → A2 → A3 → Option ρ
  | 0, _, _, _ => none
  | n + 1, a1, a2, a3 => body (zlp3 body n) a1 a2 a3
theorem zlp_s3 {A1 A2 A3 ρ : Type} (body : (A1 → A2 → A3 → Option ρ) → A1 → A2 → A3 → Option ρ) (n : Nat) (a1 : A1) (a2 : A2) (a3 : A3) : zlp3 body (n + 1) a1 a2 a3 = body (zlp3 body n) a1 a2 a3 := rfl
theorem zlp_i3 {A1 A2 A3 ρ : Type} {body : (A1 → A2 → A3 → Option ρ) → A1 → A2 → A3 → Option ρ} {R : ρ} (P : A1 → A2 → A3 → Prop) (step : ∀ (rec : A1 → A2 → A3 → Option ρ), (∀ (a1 : A1) (a2 : A2) (a3 : A3), rec a1 a2 a3 = some R → P a1 a2 a3) → ∀ (a1 : A1) (a2 : A2) (a3 : A3), body rec a1 a2 a3 = some R → P a1 a2 a3) : ∀ (n : Nat) (a1 : A1) (a2 : A2) (a3 : A3), zlp3 body n a1 a2 a3 = some R → P a1 a2 a3 := by
  intro n
  induction n with
  | zero =>
    intro a1 a2 a3 h
    exact absurd h (by simp [zlp3])
  | succ n ih =>
    intro a1 a2 a3 h
    exact step (zlp3 body n) ih a1 a2 a3 h
def zlp4 {A1 A2 A3 A4 ρ : Type} (body : (A1 → A2 → A3 → A4 → Option ρ) → A1 → A2 → A3 → A4 → Option ρ) : Nat → A1 → A2 → A3 → A4 → Option ρ
  | 0, _, _, _, _ => none
  | n + 1, a1, a2, a3, a4 => body (zlp4 body n) a1 a2 a3 a4
theorem zlp_s4 {A1 A2 A3 A4 ρ : Type} (body : (A1 → A2 → A3 → A4 → Option ρ) → A1 → A2 → A3 → A4 → Option ρ) (n : Nat) (a1 : A1) (a2 : A2) (a3 : A3) (a4 : A4) : zlp4 body (n + 1) a1 a2 a3 a4 = body (zlp4 body n) a1 a2 a3 a4 := rfl
theorem zlp_i4 {A1 A2 A3 A4 ρ : Type} {body : (A1 → A2 → A3 → A4 → Option ρ) → A1 → A2 → A3 → A4 → Option ρ} {R : ρ} (P : A1 → A2 → A3 → A4 → Prop) (step : ∀ (rec : A1 → A2 → A3 → A4 → Option ρ), (∀ (a1 : A1) (a2 : A2) (a3 : A3) (a4 : A4), rec a1 a2 a3 a4 = some R → P a1 a2 a3 a4) → ∀ (a1 : A1) (a2 : A2) (a3 : A3) (a4 : A4), body rec a1 a2 a3 a4 = some R → P a1 a2 a3 a4) : ∀ (n : Nat) (a1 : A1) (a2 : A2) (a3 : A3) (a4 : A4), zlp4 body n a1 a2 a3 a4 = some R → P a1 a2 a3 a4 := by
  intro n
  induction n with
  | zero =>
    intro a1 a2 a3 a4 h
    exact absurd h (by simp [zlp4])
  | succ n ih =>
    intro a1 a2 a3 a4 h
    exact step (zlp4 body n) ih a1 a2 a3 a4 h
def zlp5 {A1 A2 A3 A4 A5 ρ : Type} (body : (A1 → A2 → A3 → A4 → A5 → Option ρ) → A1 → A2 → A3 → A4 → A5 → Option ρ) : Nat → A1 → A2 → A3 → A4 → A5 → Option ρ
  | 0, _, _, _, _, _ => none
  | n + 1, a1, a2, a3, a4, a5 => body (zlp5 body n) a1 a2 a3 a4 a5
theorem zlp_s5 {A1 A2 A3 A4 A5 ρ : Type} (body : (A1 → A2 → A3 → A4 → A5 → Option ρ) → A1 → A2 → A3 → A4 → A5 → Option ρ) (n : Nat) (a1 : A1) (a2 : A2) (a3 : A3) (a4 : A4) (a5 : A5) : zlp5 body (n + 1) a1 a2 a3 a4 a5 = body (zlp5 body n) a1 a2 a3 a4 a5 := rfl
theorem zlp_i5 {A1 A2 A3 A4 A5 ρ : Type} {body : (A1 → A2 → A3 → A4 → A5 → Option ρ) → A1 → A2 → A3 → A4 → A5 → Option ρ} {R : ρ} (P : A1 → A2 → A3 → A4 → A5 → Prop) (step : ∀ (rec : A1 → A2 → A3 → A4 → A5 → Option ρ), (∀ (a1 : A1) (a2 : A2) (a3 : A3) (a4 : A4) (a5 : A5), rec a1 a2 a3 a4 a5 = some R → P a1 a2 a3 a4 a5) → ∀ (a1 : A1) (a2 : A2) (a3 : A3) (a4 : A4) (a5 : A5), body rec a1 a2 a3 a4 a5 = some R → P a1 a2 a3 a4 a5) : ∀ (n : Nat) (a1 : A1) (a2 : A2) (a3 : A3) (a4 : A4) (a5 : A5), zlp5 body n a1 a2 a3 a4 a5 = some R → P a1 a2 a3 a4 a5 := by
  intro n
  induction n with
  | zero =>
    intro a1 a2 a3 a4 a5 h
    exact absurd h (by simp [zlp5])
  | succ n ih =>
    intro a1 a2 a3 a4 a5 h
    exact step (zlp5 body n) ih a1 a2 a3 a4 a5 h
def zlp6 {A1 A2 A3 A4 A5 A6 ρ : Type} (body : (A1 → A2 → A3 → A4 → A5 → A6 → Option ρ) → A1 → A2 → A3 → A4 → A5 → A6 → Option ρ) : Nat → A1 → A2 → A3 → A4 → A5 → A6 → Option ρ
  | 0, _, _, _, _, _, _ => none
  | n + 1, a1, a2, a3, a4, a5, a6 => body (zlp6 body n) a1 a2 a3 a4 a5 a6
theorem zlp_s6 {A1 A2 A3 A4 A5 A6 ρ : Type} (body : (A1 → A2 → A3 → A4 → A5 → A6 → Option ρ) → A1 → A2 → A3 → A4 → A5 → A6 → Option ρ) (n : Nat) (a1 : A1) (a2 : A2) (a3 : A3) (a4 : A4) (a5 : A5) (a6 : A6) : zlp6 body (n + 1) a1 a2 a3 a4 a5 a6 = body (zlp6 body n) a1 a2 a3 a4 a5 a6 := rfl
theorem zlp_i6 {A1 A2 A3 A4 A5 A6 ρ : Type} {body : (A1 → A2 → A3 → A4 → A5 → A6 → Option ρ) → A1 → A2 → A3 → A4 → A5 → A6 → Option ρ} {R : ρ} (P : A1 → A2 → A3 → A4 → A5 → A6 → Prop) (step : ∀ (rec : A1 → A2 → A3 → A4 → A5 → A6 → Option ρ), (∀ (a1 : A1) (a2 : A2) (a3 : A3) (a4 : A4) (a5 : A5) (a6 : A6), rec a1 a2 a3 a4 a5 a6 = some R → P a1 a2 a3 a4 a5 a6) → ∀ (a1 : A1) (a2 : A2) (a3 : A3) (a4 : A4) (a5 : A5) (a6 : A6), body rec a1 a2 a3 a4 a5 a6 = some R → P a1 a2 a3 a4 a5 a6) : ∀ (n : Nat) (a1 : A1) (a2 : A2) (a3 : A3) (a4 : A4) (a5 : A5) (a6 : A6), zlp6 body n a1 a2 a3 a4 a5 a6 = some R → P a1 a2 a3 a4 a5 a6 := by
  intro n
  induction n with
  | zero =>
    intro a1 a2 a3 a4 a5 a6 h
    exact absurd h (by simp [zlp6])
  | succ n ih =>
    intro a1 a2 a3 a4 a5 a6 h
    exact step (zlp6 body n) ih a1 a2 a3 a4 a5 a6 h
def zlp7 {A1 A2 A3 A4 A5 A6 A7 ρ : Type} (body : (A1 → A2 → A3 → A4 → A5 → A6 → A7 → Option ρ) → A1 → A2 → A3 → A4 → A5 → A6 → A7 → Option ρ) : Nat → A1 → A2 → A3 → A4 → A5 → A6 → A7 → Option ρ
  | 0, _, _, _, _, _, _, _ => none
  | n + 1, a1, a2, a3, a4, a5, a6, a7 => body (zlp7 body n) a1 a2 a3 a4 a5 a6 a7
theorem zlp_s7 {A1 A2 A3 A4 A5 A6 A7 ρ : Type} (body : (A1 → A2 → A3 → A4 → A5 → A6 → A7 → Option ρ) → A1 → A2 → A3 → A4 → A5 → A6 → A7 → Option ρ) (n : Nat) (a1 : A1) (a2 : A2) (a3 : A3) (a4 : A4) (a5 : A5) (a6 : A6) (a7 : A7) : zlp7 body (n + 1) a1 a2 a3 a4 a5 a6 a7 = body (zlp7 body n) a1 a2 a3 a4 a5 a6 a7 := rfl
theorem zlp_i7 {A1 A2 A3 A4 A5 A6 A7 ρ : Type} {body : (A1 → A2 → A3 → A4 → A5 → A6 → A7 → Option ρ) → A1 → A2 → A3 → A4 → A5 → A6 → A7 → Option ρ} {R : ρ} (P : A1 → A2 → A3 → A4 → A5 → A6 → A7 → Prop) (step : ∀ (rec : A1 → A2 → A3 → A4 → A5 → A6 → A7 → Option ρ), (∀ (a1 : A1) (a2 : A2) (a3 : A3) (a4 : A4) (a5 : A5) (a6 : A6) (a7 : A7), rec a1 a2 a3 a4 a5 a6 a7 = some R → P a1 a2 a3 a4 a5 a6 a7) → ∀ (a1 : A1) (a2 : A2) (a3 : A3) (a4 : A4) (a5 : A5) (a6 : A6) (a7 : A7), body rec a1 a2 a3 a4 a5 a6 a7 = some R → P a1 a2 a3 a4 a5 a6 a7) : ∀ (n : Nat) (a1 : A1) (a2 : A2) (a3 : A3) (a4 : A4) (a5 : A5) (a6 : A6) (a7 : A7), zlp7 body n a1 a2 a3 a4 a5 a6 a7 = some R → P a1 a2 a3 a4 a5 a6 a7 := by
  intro n
  induction n with
  | zero =>
    intro a1 a2 a3 a4 a5 a6 a7 h
    exact absurd h (by simp [zlp7])
  | succ n ih =>
    intro a1 a2 a3 a4 a5 a6 a7 h
    exact step (zlp7 body n) ih a1 a2 a3 a4 a5 a6 a7 h
def zlp8 {A1 A2 A3 A4 A5 A6 A7 A8 ρ : Type} (body : (A1 → A2 → A3 → A4 → A5 → A6 → A7 → A8 → Option ρ) → A1 → A2 → A3 → A4 → A5 → A6 → A7 → A8 → Option ρ) : Nat → A1 → A2 → A3 → A4 → A5 → A6 → A7 → A8 → Option ρ
  | 0, _, _, _, _, _, _, _, _ => none
  | n + 1, a1, a2, a3, a4, a5, a6, a7, a8 => body (zlp8 body n) a1 a2 a3 a4 a5 a6 a7 a8
theorem zlp_s8 {A1 A2 A3 A4 A5 A6 A7 A8 ρ : Type} (body : (A1 → A2 → A3 → A4 → A5 → A6 → A7 → A8 → Option ρ) → A1 → A2 → A3 → A4 → A5 → A6 → A7 → A8 → Option ρ) (n : Nat) (a1 : A1) (a2 : A2) (a3 : A3) (a4 : A4) (a5 : A5) (a6 : A6) (a7 : A7) (a8 : A8) : zlp8 body (n + 1) a1 a2 a3 a4 a5 a6 a7 a8 = body (zlp8 body n) a1 a2 a3 a4 a5 a6 a7 a8 := rfl
theorem zlp_i8 {A1 A2 A3 A4 A5 A6 A7 A8 ρ : Type} {body : (A1 → A2 → A3 → A4 → A5 → A6 → A7 → A8 → Option ρ) → A1 → A2 → A3 → A4 → A5 → A6 → A7 → A8 → Option ρ} {R : ρ} (P : A1 → A2 → A3 → A4 → A5 → A6 → A7 → A8 → Prop) (step : ∀ (rec : A1 → A2 → A3 → A4 → A5 → A6 → A7 → A8 → Option ρ), (∀ (a1 : A1) (a2 : A2) (a3 : A3) (a4 : A4) (a5 : A5) (a6 : A6) (a7 : A7) (a8 : A8), rec a1 a2 a3 a4 a5 a6 a7 a8 = some R → P a1 a2 a3 a4 a5 a6 a7 a8) → ∀ (a1 : A1) (a2 : A2) (a3 : A3) (a4 : A4) (a5 : A5) (a6 : A6) (a7 : A7) (a8 : A8), body rec a1 a2 a3 a4 a5 a6 a7 a8 = some R → P a1 a2 a3 a4 a5 a6 a7 a8) : ∀ (n : Nat) (a1 : A1) (a2 : A2) (a3 : A3) (a4 : A4) (a5 : A5) (a6 : A6) (a7 : A7) (a8 : A8), zlp8 body n a1 a2 a3 a4 a5 a6 a7 a8 = some R → P a1 a2 a3 a4 a5 a6 a7 a8 := by
  intro n
  induction n with
  | zero =>
    intro a1 a2 a3 a4 a5 a6 a7 a8 h
    exact absurd h (by simp [zlp8])
  | succ n ih =>
    intro a1 a2 a3 a4 a5 a6 a7 a8 h
    exact step (zlp8 body n) ih a1 a2 a3 a4 a5 a6 a7 a8 h
abbrev ztys (cI cC cO cJ : ClassId) : List (ClassId × FieldType) := [(cI, .int), (cC, .char), (cO, .object RX0), (cJ, .long)]
theorem zhp {D : va_G} {ws : va_W} {H : Heap} {t : State} (ht : t.heap = H) (hP : va_P D vwCl ws H) : va_P D vwCl ws t.heap := by rw [ht]; exact hP
theorem zP_nil {D : va_G} {cl : List vw_C} {H : Heap} : va_P D cl [] H := fun k q h => by simp at h
/-- a world behind a call: the callee's cells as it left them, all others as they were, each at its old place -/
theorem zjn {A0 : Nat → Prop} {D : va_G} {cl : List vw_C} {ws wc w1 ws' : va_W} {H H1 : Heap} (hP : va_P D cl ws H) (hD : va_D A0 ws) (isC : List Nat) (sel : List (Nat ⊕ Nat)) (hC : isC.map (fun i => ws[i]?) = wc.map some)
    (ha : ws'.map (fun q => q.1) = ws.map (fun q => q.1)) (hsel : sel.map (Sum.elim (fun i => if i ∈ isC then none else ws[i]?) (fun j => w1[j]?)) = ws'.map some)
    (hk : ∀ q : Nat, q < H.size → ¬ va_A wc H.size q → H1[q]? = H[q]?) (hP1 : va_P D cl w1 H1) : va_P D cl ws' H1 ∧ va_D A0 ws' := by
  have addr : ∀ (k : Nat) (q : Nat × va_E), ws'[k]? = some q → ∃ q0, ws[k]? = some q0 ∧ q0.1 = q.1 := by
    intro k q hq
    have h1 : (ws'.map (fun q => q.1))[k]? = some q.1 := by rw [List.getElem?_map, hq]; rfl
    rw [ha, List.getElem?_map] at h1
    cases hi : ws[k]? with
    | none => rw [hi] at h1; cases h1
    | some q0 => rw [hi] at h1; exact ⟨q0, rfl, Option.some.inj h1⟩
  refine ⟨fun k q hq => ?_, fun i j p q hi hj hpq => ?_, fun k q hq => ?_⟩
  · have h1 : (sel.map (Sum.elim (fun i => if i ∈ isC then none else ws[i]?) (fun j => w1[j]?)))[k]? = some (some q) := by rw [hsel, List.getElem?_map, hq]; rfl
    rw [List.getElem?_map] at h1
    cases hs : sel[k]? with
    | none => rw [hs] at h1; cases h1
    | some cc =>
      rw [hs] at h1
      have h2 := Option.some.inj h1
      cases cc with
      | inr j => exact hP1 j q h2
      | inl i =>
        have h3 : (if i ∈ isC then none else ws[i]?) = some q := h2
        by_cases hm : i ∈ isC
        · rw [if_pos hm] at h3
          cases h3
        · rw [if_neg hm] at h3
          have hat := hP i q h3
          have hl := hat.lt
          refine hat.kept (hk q.1 hl fun hA => ?_)
          rcases hA with ⟨k2, e, h⟩ | h
          · have h4 : (isC.map (fun i => ws[i]?))[k2]? = some (some (q.1, e)) := by rw [hC, List.getElem?_map, h]; rfl
            rw [List.getElem?_map] at h4
            cases hi : isC[k2]? with
            | none => rw [hi] at h4; cases h4
            | some j =>
              rw [hi] at h4
              have h5 : ws[j]? = some (q.1, e) := Option.some.inj h4
              have hij := hD.1 i j q (q.1, e) h3 h5 rfl
              subst hij
              exact hm (List.mem_of_getElem? hi)
          · omega
  · obtain ⟨p0, hp0, ep⟩ := addr i p hi
    obtain ⟨q0, hq0, eq⟩ := addr j q hj
    exact hD.1 i j p0 q0 hp0 hq0 (by rw [ep, eq, hpq])
  · obtain ⟨q0, hq0, eq⟩ := addr k q hq
    rw [← eq]
    exact hD.2 k q0 hq0
/-- the start of a method that only reads the cells ws -/
def zPr (D : va_G) (tys : List (ClassId × FieldType)) (ws : va_W) (av : List Value) : Array Value → State → Prop := va_Pc av (fun U => va_P D vwCl ws U.heap ∧ va_K D vwCl tys U)
theorem zPr_blind {D : va_G} {tys : List (ClassId × FieldType)} {ws : va_W} {av : List Value} : FrameBlind (zPr D tys ws av) := fun a U g mk q => by
  obtain ⟨q0, qP, qK⟩ := q
  exact ⟨q0, qP, va_K.moved (u := U) (U := U.calling g mk a) (Vm.Alike.refl U.vm) qK⟩
theorem zPr_pre {D : va_G} {tys : List (ClassId × FieldType)} {ws : va_W} {av : List Value} {s : State} {H : Heap} (hK : va_K D vwCl tys s) (hP : va_P D vwCl ws H) : ∀ U : State, U.heap = H → s.WarmedH U.vm → zPr D tys ws av av.toArray U := fun U hU hW => ⟨rfl, by rw [hU]; exact hP, va_K.moved hW.alike hK⟩
theorem zPr_V {D : va_G} {tys : List (ClassId × FieldType)} {ws : va_W} {b : Nat} {As : List Value} {s : State} {H : Heap} {q0 ci : Nat} {q : vw_C} {fs : List Value} (hK : va_K D vwCl tys s) (hP : va_P D vwCl ws H) (he : ws[q0]? = some (b, .inr (ci, fs))) (hc : vwCl[ci]? = some q) : PreV s H q.1 b (zPr D tys ws (.ref b :: As)) As := ⟨zPr_blind, va_recv hK hP hc he, zPr_pre hK hP⟩
theorem zPr_S {D : va_G} {tys : List (ClassId × FieldType)} {ws : va_W} {As : List Value} {s : State} {H : Heap} (hK : va_K D vwCl tys s) (hP : va_P D vwCl ws H) : PreS s H (zPr D tys ws As) As := ⟨zPr_blind, zPr_pre hK hP⟩
/-- the start of a method that writes cells of ws -/
def zPw (D : va_G) (tys : List (ClassId × FieldType)) (ws : va_W) (sz : Nat) (av : List Value) : Array Value → State → Prop := va_Pc av (fun U => U.heap.size = sz ∧ va_P D vwCl ws U.heap ∧ va_K D vwCl tys U ∧ va_D (fun _ => True) ws)
theorem zPw_blind {D : va_G} {tys : List (ClassId × FieldType)} {ws : va_W} {sz : Nat} {av : List Value} : FrameBlind (zPw D tys ws sz av) := fun a U g mk q => by
  obtain ⟨q0, q1, qP, qK, qD⟩ := q
  exact ⟨q0, q1, qP, va_K.moved (u := U) (U := U.calling g mk a) (Vm.Alike.refl U.vm) qK, qD⟩
theorem zPw_pre {D : va_G} {tys : List (ClassId × FieldType)} {ws : va_W} {av : List Value} {s : State} {H : Heap} {A : Nat → Prop} (hK : va_K D vwCl tys s) (hP : va_P D vwCl ws H) (hD : va_D A ws) : ∀ U : State, U.heap = H → s.WarmedH U.vm → zPw D tys ws H.size av av.toArray U := fun U hU hW => ⟨rfl, by rw [hU], by rw [hU]; exact hP, va_K.moved hW.alike hK, hD.weaken (fun _ _ _ _ => trivial)⟩
theorem zPw_V {D : va_G} {tys : List (ClassId × FieldType)} {ws : va_W} {b : Nat} {As : List Value} {s : State} {H : Heap} {A : Nat → Prop} {q0 ci : Nat} {q : vw_C} {fs : List Value} (hK : va_K D vwCl tys s) (hP : va_P D vwCl ws H) (hD : va_D A ws) (he : ws[q0]? = some (b, .inr (ci, fs))) (hc : vwCl[ci]? = some q) : PreV s H q.1 b (zPw D tys ws H.size (.ref b :: As)) As := ⟨zPw_blind, va_recv hK hP hc he, zPw_pre hK hP hD⟩
theorem zPw_S {D : va_G} {tys : List (ClassId × FieldType)} {ws : va_W} {As : List Value} {s : State} {H : Heap} {A : Nat → Prop} (hK : va_K D vwCl tys s) (hP : va_P D vwCl ws H) (hD : va_D A ws) : PreS s H (zPw D tys ws H.size As) As := ⟨zPw_blind, zPw_pre hK hP hD⟩
/-- contracts: of a reader (its answer), of a writer (its answer, the cells behind it) -/
abbrev zQi (v : Int32) : Array Value → State → Outcome → State → Prop := vp_Si (fun r => r = v)
abbrev zQl (v : Int64) : Array Value → State → Outcome → State → Prop := vp_Sl (fun r => r = v)
abbrev zQd (v : UInt64) : Array Value → State → Outcome → State → Prop := vp_Sd (fun r => r = v)
abbrev zWi (D : va_G) (v : Int32) (w1 : va_W) (A : Nat → Prop) : Array Value → State → Outcome → State → Prop := va_Qi (fun r (_ : Unit) => r = v) (fun _ t => va_P D vwCl w1 t.heap) A
abbrev zWl (D : va_G) (v : Int64) (w1 : va_W) (A : Nat → Prop) : Array Value → State → Outcome → State → Prop := va_Ql (fun r (_ : Unit) => r = v) (fun _ t => va_P D vwCl w1 t.heap) A
abbrev zWd (D : va_G) (v : UInt64) (w1 : va_W) (A : Nat → Prop) : Array Value → State → Outcome → State → Prop := va_Qd (fun r (_ : Unit) => r = v) (fun _ t => va_P D vwCl w1 t.heap) A
abbrev zWv (D : va_G) (w1 : va_W) (A : Nat → Prop) : Array Value → State → Outcome → State → Prop := va_Qv (fun (_ : Unit) => True) (fun _ t => va_P D vwCl w1 t.heap) A
section
variable {p : Program} {l : Launch} {e : Env} {R : Room} {s : State} {m : MethodId} {args : Array Value} {below : List Frame} {meth : Method} {c : Code} {H : Heap} {locs : List Loc} {cells slots : Nat} {Q : State → Prop}
variable {cc : ByteArray} {pc : Nat} {ls : Array Slot} {rest st0 : List Value} {D : va_G} {cl : List vw_C} {A A0 : Nat → Prop} {a : Nat} {tys : List (ClassId × FieldType)} {ws : va_W} {H0 : Heap} {as : Array Value}
theorem zr_iald (hexec : p.tables.exec = Jvm.exec) (hb : c.code = cc) (hK : va_K D cl tys s) (hP : va_P D cl ws H) (q0 t0 : Nat) {cA : ClassId} {n : Nat} {f : Nat → Int32} (ha : ws[q0]? = some (a, .inl (cA, n, .inl f))) (ht : tys[t0]? = some (cA, .int)) {i v : Int32} (hr : zrd f n i = some v) (hdg : decode cc pc = .ok (.iaload, 1))
    (kk : W p l e R s m args below meth c H locs cells slots Q (F0 m (pc + 1) ls (.int v :: rest))) : W p l e R s m args below meth c H locs cells slots Q (F0 m pc ls (.int i :: .ref a :: rest)) := by
  obtain ⟨hin, rfl⟩ := zrd_some hr
  exact va_iald hexec hb hK hP q0 t0 ha ht hin hdg kk
theorem zr_cald (hexec : p.tables.exec = Jvm.exec) (hb : c.code = cc) (hK : va_K D cl tys s) (hP : va_P D cl ws H) (q0 t0 : Nat) {cA : ClassId} {n : Nat} {f : Nat → Int32} (ha : ws[q0]? = some (a, .inl (cA, n, .inl f))) (ht : tys[t0]? = some (cA, .char)) {i v : Int32} (hr : zrd f n i = some v) (hdg : decode cc pc = .ok (.caload, 1))
    (kk : W p l e R s m args below meth c H locs cells slots Q (F0 m (pc + 1) ls (.int v :: rest))) : W p l e R s m args below meth c H locs cells slots Q (F0 m pc ls (.int i :: .ref a :: rest)) := by
  obtain ⟨hin, rfl⟩ := zrd_some hr
  exact va_cald hexec hb hK hP q0 t0 ha ht hin hdg kk
theorem zr_iast (hexec : p.tables.exec = Jvm.exec) (hb : c.code = cc) (hK : va_K D cl tys s) (hP : va_P D cl ws H) (hD : va_D A ws) (hS : va_S A H0 H locs) (q0 t0 : Nat) {cA : ClassId} {n : Nat} {f f' : Nat → Int32} (ha : ws[q0]? = some (a, .inl (cA, n, .inl f))) (ht : tys[t0]? = some (cA, .int)) {i x : Int32} (hr : zwr f n i x = some f') (hdg : decode cc pc = .ok (.iastore, 1))
    (kk : ∀ (H1 : Heap) (locs1 : List Loc), va_P D cl (ws.set q0 (a, .inl (cA, n, .inl f'))) H1 → va_D A (ws.set q0 (a, .inl (cA, n, .inl f'))) → va_S A H0 H1 locs1 → W p l e R s m args below meth c H1 locs1 cells slots Q (F0 m (pc + 1) ls rest)) : W p l e R s m args below meth c H locs cells slots Q (F0 m pc ls (.int x :: .int i :: .ref a :: rest)) := by
  obtain ⟨hin, rfl⟩ := zwr_some hr
  exact va_iast hexec hb hK hP hD hS q0 t0 ha ht hin hdg kk
theorem zr_cast (hexec : p.tables.exec = Jvm.exec) (hb : c.code = cc) (hK : va_K D cl tys s) (hP : va_P D cl ws H) (hD : va_D A ws) (hS : va_S A H0 H locs) (q0 t0 : Nat) {cA : ClassId} {n : Nat} {f f' : Nat → Int32} (ha : ws[q0]? = some (a, .inl (cA, n, .inl f))) (ht : tys[t0]? = some (cA, .char)) {i x : Int32} (hr : zwr f n i (vp_nar .char x) = some f') (hdg : decode cc pc = .ok (.castore, 1))
    (kk : ∀ (H1 : Heap) (locs1 : List Loc), va_P D cl (ws.set q0 (a, .inl (cA, n, .inl f'))) H1 → va_D A (ws.set q0 (a, .inl (cA, n, .inl f'))) → va_S A H0 H1 locs1 → W p l e R s m args below meth c H1 locs1 cells slots Q (F0 m (pc + 1) ls rest)) : W p l e R s m args below meth c H locs cells slots Q (F0 m pc ls (.int x :: .int i :: .ref a :: rest)) := by
  obtain ⟨hin, rfl⟩ := zwr_some hr
  exact va_cast hexec hb hK hP hD hS q0 t0 ha ht hin hdg kk
theorem zr_copy (hexec : p.tables.exec = Jvm.exec) (hb : c.code = cc) (hml : c.maxLocals = ls.size) {own : String} {index : Nat} (hown : s.vm.findClass own = some m.cls) (hlink : (Cond.methodLink own index arraycopyName).before args s = true) (hnat : (Cond.native arraycopyName).before args s = true) (hstat : (Cond.static arraycopyName).before args s = true) (hini : (Cond.initialized "java/lang/System").before args s = true)
    (hK : va_K D cl tys s) (hP : va_P D cl ws H) (hD : va_D A ws) (hS : va_S A H0 H locs) (q0 q1 t0 t1 : Nat) {a0 : Nat} {c0 c1 : ClassId} {n0 n1 : Nat} {f g f' : Nat → Int32} (ha0 : ws[q0]? = some (a0, .inl (c0, n0, .inl f))) (ha1 : ws[q1]? = some (a, .inl (c1, n1, .inl g))) (ht0 : tys[t0]? = some (c0, .int)) (ht1 : tys[t1]? = some (c1, .int))
    {sp dp n : Int32} (hr : zcy f n0 sp g n1 dp n = some f') (hframes : 1 ≤ R.frames) (hlocals : (rest.map fun v => v.category).sum + (nativeFrameWords "java/lang/System" "arraycopy" 5 + 11) ≤ R.locals) (hdg : decode cc pc = .ok (.invokestatic index, 3))
    (kk : ∀ (H1 : Heap) (locs1 : List Loc), va_P D cl (ws.set q1 (a, .inl (c1, n1, .inl f'))) H1 → va_D A (ws.set q1 (a, .inl (c1, n1, .inl f'))) → va_S A H0 H1 locs1 → W p l e R s m args below meth c H1 locs1 cells slots Q (F0 m (pc + 3) ls rest)) : W p l e R s m args below meth c H locs cells slots Q (F0 m pc ls (.int n :: .int dp :: .ref a :: .int sp :: .ref a0 :: rest)) := by
  obtain ⟨⟨h1, h2, h3, h4, h5⟩, rfl⟩ := zcy_some hr
  exact va_copyi hexec hb hml hown hlink hnat hstat hini hK hP hD hS q0 q1 t0 t1 ha0 ha1 ht0 ht1 rfl h1 h2 h3 h4 h5 (fun _ _ => rfl) hframes hlocals hdg kk
theorem zc_d {v : UInt64} (hr : CallRun p l e R s m args below meth c H locs cells slots 0 0 (F0 m pc ls st0) rest (zQd v as) (fun _ => False)) (kk : W p l e R s m args below meth c H locs cells slots Q (F0 m (pc + 3) ls (.double v :: rest))) : W p l e R s m args below meth c H locs cells slots Q (F0 m pc ls st0) := vp_callSd hr (fun r e => by rw [e]; exact kk)
theorem zc_wl {v : Int64} {w1 wc : va_W} {mc ms : Nat} (hr : va_Run p l e R s m args below meth c H locs cells slots mc ms (F0 m pc ls st0) rest (zWl D v w1 (va_A wc H.size) as) (va_A wc H.size)) (hS : va_S A0 H0 H locs) (hF : ∀ q, va_A wc H.size q → A0 q)
    (kk : ∀ (H1 : Heap) (locs1 : List Loc), (∀ q : Nat, q < H.size → ¬ va_A wc H.size q → H1[q]? = H[q]?) → va_P D vwCl w1 H1 → va_S A0 H0 H1 locs1 → W p l e R s m args below meth c H1 locs1 (cells + mc) (slots + ms) Q (F0 m (pc + 3) ls (.long v :: rest))) : W p l e R s m args below meth c H locs cells slots Q (F0 m pc ls st0) := by
  refine va_calll hr hS (fun q _ h => hF q h) hF (fun r u t H1 locs1 ht hvm hw hB hz1 hk1 hS1 => ?_)
  have hB' : va_P D vwCl w1 t.heap := hB
  rw [ht] at hB'
  have hw' : r = v := hw
  rw [hw']
  exact kk H1 locs1 hk1 hB' hS1
theorem zc_wd {v : UInt64} {w1 wc : va_W} {mc ms : Nat} (hr : va_Run p l e R s m args below meth c H locs cells slots mc ms (F0 m pc ls st0) rest (zWd D v w1 (va_A wc H.size) as) (va_A wc H.size)) (hS : va_S A0 H0 H locs) (hF : ∀ q, va_A wc H.size q → A0 q)
    (kk : ∀ (H1 : Heap) (locs1 : List Loc), (∀ q : Nat, q < H.size → ¬ va_A wc H.size q → H1[q]? = H[q]?) → va_P D vwCl w1 H1 → va_S A0 H0 H1 locs1 → W p l e R s m args below meth c H1 locs1 (cells + mc) (slots + ms) Q (F0 m (pc + 3) ls (.double v :: rest))) : W p l e R s m args below meth c H locs cells slots Q (F0 m pc ls st0) := by
  refine va_calld hr hS (fun q _ h => hF q h) hF (fun r u t H1 locs1 ht hvm hw hB hz1 hk1 hS1 => ?_)
  have hB' : va_P D vwCl w1 t.heap := hB
  rw [ht] at hB'
  have hw' : r = v := hw
  rw [hw']
  exact kk H1 locs1 hk1 hB' hS1
theorem zc_i {v : Int32} (hr : CallRun p l e R s m args below meth c H locs cells slots 0 0 (F0 m pc ls st0) rest (zQi v as) (fun _ => False)) (kk : W p l e R s m args below meth c H locs cells slots Q (F0 m (pc + 3) ls (.int v :: rest))) : W p l e R s m args below meth c H locs cells slots Q (F0 m pc ls st0) := vp_callSi hr (fun r e => by rw [e]; exact kk)
theorem zc_l {v : Int64} (hr : CallRun p l e R s m args below meth c H locs cells slots 0 0 (F0 m pc ls st0) rest (zQl v as) (fun _ => False)) (kk : W p l e R s m args below meth c H locs cells slots Q (F0 m (pc + 3) ls (.long v :: rest))) : W p l e R s m args below meth c H locs cells slots Q (F0 m pc ls st0) := vp_callSl hr (fun r e => by rw [e]; exact kk)
theorem zc_wi {v : Int32} {w1 wc : va_W} {mc ms : Nat} (hr : va_Run p l e R s m args below meth c H locs cells slots mc ms (F0 m pc ls st0) rest (zWi D v w1 (va_A wc H.size) as) (va_A wc H.size)) (hS : va_S A0 H0 H locs) (hF : ∀ q, va_A wc H.size q → A0 q)
    (kk : ∀ (H1 : Heap) (locs1 : List Loc), (∀ q : Nat, q < H.size → ¬ va_A wc H.size q → H1[q]? = H[q]?) → va_P D vwCl w1 H1 → va_S A0 H0 H1 locs1 → W p l e R s m args below meth c H1 locs1 (cells + mc) (slots + ms) Q (F0 m (pc + 3) ls (.int v :: rest))) : W p l e R s m args below meth c H locs cells slots Q (F0 m pc ls st0) := by
  refine va_calli hr hS (fun q _ h => hF q h) hF (fun r u t H1 locs1 ht hvm hw hB hz1 hk1 hS1 => ?_)
  have hB' : va_P D vwCl w1 t.heap := hB
  rw [ht] at hB'
  have hw' : r = v := hw
  rw [hw']
  exact kk H1 locs1 hk1 hB' hS1
theorem zc_wv {w1 wc : va_W} {mc ms : Nat} (hr : va_Run p l e R s m args below meth c H locs cells slots mc ms (F0 m pc ls st0) rest (zWv D w1 (va_A wc H.size) as) (va_A wc H.size)) (hS : va_S A0 H0 H locs) (hF : ∀ q, va_A wc H.size q → A0 q)
    (kk : ∀ (H1 : Heap) (locs1 : List Loc), (∀ q : Nat, q < H.size → ¬ va_A wc H.size q → H1[q]? = H[q]?) → va_P D vwCl w1 H1 → va_S A0 H0 H1 locs1 → W p l e R s m args below meth c H1 locs1 (cells + mc) (slots + ms) Q (F0 m (pc + 3) ls rest)) : W p l e R s m args below meth c H locs cells slots Q (F0 m pc ls st0) := by
  refine va_callv hr hS (fun q _ h => hF q h) hF (fun u t H1 locs1 ht hvm hw hB hz1 hk1 hS1 => ?_)
  have hB' : va_P D vwCl w1 t.heap := hB
  rw [ht] at hB'
  exact kk H1 locs1 hk1 hB' hS1
end
