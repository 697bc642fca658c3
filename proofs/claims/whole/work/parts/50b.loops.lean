/-! Loops as functions: where the states on the way are known (zlp_r); where an invariant holds and the steps are bounded (zlp_t). -/
theorem zlp_r1 {A1 ρ : Type} {body : (A1 → Option ρ) → A1 → Option ρ} (s1 : Nat → A1) (N : Nat) {r : Option ρ} (step : ∀ (rec : A1 → Option ρ) (i : Nat), i < N → body rec (s1 i) = rec (s1 (i + 1))) (stop : ∀ rec : A1 → Option ρ, body rec (s1 N) = r) {fu : Nat} (hf : N < fu) : zlp1 body fu (s1 0) = r := by
  have key : ∀ (k i fu : Nat), i + k = N → k < fu → zlp1 body fu (s1 i) = r := by
    intro k
    induction k with
    | zero =>
      intro i fu h1 h2
      obtain ⟨fu, rfl⟩ : ∃ q, fu = q + 1 := ⟨fu - 1, by omega⟩
      obtain rfl : i = N := by omega
      rw [zlp_s1]
      exact stop _
    | succ k ih =>
      intro i fu h1 h2
      obtain ⟨fu, rfl⟩ : ∃ q, fu = q + 1 := ⟨fu - 1, by omega⟩
      rw [zlp_s1, step _ i (by omega)]
      exact ih (i + 1) fu (by omega) (by omega)
  exact key N 0 fu (by omega) hf
theorem zlp_t1 {A1 ρ : Type} {body : (A1 → Option ρ) → A1 → Option ρ} {Q : Option ρ → Prop} (N : Nat) (P : Nat → A1 → Prop) (step : ∀ (rec : A1 → Option ρ) (i : Nat), i ≤ N → (i < N → ∀ b1, P (i + 1) b1 → Q (rec b1)) → ∀ a1, P i a1 → Q (body rec a1)) {fu : Nat} (hf : N < fu) : ∀ a1, P 0 a1 → Q (zlp1 body fu a1) := by
  have key : ∀ (k i fu : Nat), i + k = N → k < fu → ∀ a1, P i a1 → Q (zlp1 body fu a1) := by
    intro k
    induction k with
    | zero =>
      intro i fu h1 h2 a1 hp
      obtain ⟨fu, rfl⟩ : ∃ q, fu = q + 1 := ⟨fu - 1, by omega⟩
      rw [zlp_s1]
      exact step _ i (by omega) (fun h => absurd h (by omega)) a1 hp
    | succ k ih =>
      intro i fu h1 h2 a1 hp
      obtain ⟨fu, rfl⟩ : ∃ q, fu = q + 1 := ⟨fu - 1, by omega⟩
      rw [zlp_s1]
      exact step _ i (by omega) (fun _ b1 hb => ih (i + 1) fu (by omega) (by omega) b1 hb) a1 hp
  exact key N 0 fu (by omega) hf
theorem zlp_r2 {A1 A2 ρ : Type} {body : (A1 → A2 → Option ρ) → A1 → A2 → Option ρ} (s1 : Nat → A1) (s2 : Nat → A2) (N : Nat) {r : Option ρ} (step : ∀ (rec : A1 → A2 → Option ρ) (i : Nat), i < N → body rec (s1 i) (s2 i) = rec (s1 (i + 1)) (s2 (i + 1))) (stop : ∀ rec : A1 → A2 → Option ρ, body rec (s1 N) (s2 N) = r) {fu : Nat} (hf : N < fu) : zlp2 body fu (s1 0) (s2 0) = r := by
  have key : ∀ (k i fu : Nat), i + k = N → k < fu → zlp2 body fu (s1 i) (s2 i) = r := by
    intro k
    induction k with
    | zero =>
      intro i fu h1 h2
      obtain ⟨fu, rfl⟩ : ∃ q, fu = q + 1 := ⟨fu - 1, by omega⟩
      obtain rfl : i = N := by omega
      rw [zlp_s2]
      exact stop _
    | succ k ih =>
      intro i fu h1 h2
      obtain ⟨fu, rfl⟩ : ∃ q, fu = q + 1 := ⟨fu - 1, by omega⟩
      rw [zlp_s2, step _ i (by omega)]
      exact ih (i + 1) fu (by omega) (by omega)
  exact key N 0 fu (by omega) hf
theorem zlp_t2 {A1 A2 ρ : Type} {body : (A1 → A2 → Option ρ) → A1 → A2 → Option ρ} {Q : Option ρ → Prop} (N : Nat) (P : Nat → A1 → A2 → Prop) (step : ∀ (rec : A1 → A2 → Option ρ) (i : Nat), i ≤ N → (i < N → ∀ b1 b2, P (i + 1) b1 b2 → Q (rec b1 b2)) → ∀ a1 a2, P i a1 a2 → Q (body rec a1 a2)) {fu : Nat} (hf : N < fu) : ∀ a1 a2, P 0 a1 a2 → Q (zlp2 body fu a1 a2) := by
  have key : ∀ (k i fu : Nat), i + k = N → k < fu → ∀ a1 a2, P i a1 a2 → Q (zlp2 body fu a1 a2) := by
    intro k
    induction k with
    | zero =>
      intro i fu h1 h2 a1 a2 hp
      obtain ⟨fu, rfl⟩ : ∃ q, fu = q + 1 := ⟨fu - 1, by omega⟩
      rw [zlp_s2]
      exact step _ i (by omega) (fun h => absurd h (by omega)) a1 a2 hp
    | succ k ih =>
      intro i fu h1 h2 a1 a2 hp
      obtain ⟨fu, rfl⟩ : ∃ q, fu = q + 1 := ⟨fu - 1, by omega⟩
      rw [zlp_s2]
      exact step _ i (by omega) (fun _ b1 b2 hb => ih (i + 1) fu (by omega) (by omega) b1 b2 hb) a1 a2 hp
  exact key N 0 fu (by omega) hf
theorem zlp_r3 {A1 A2 A3 ρ : Type} {body : (A1 → A2 → A3 → Option ρ) → A1 → A2 → A3 → Option ρ} (s1 : Nat → A1) (s2 : Nat → A2) (s3 : Nat → A3) (N : Nat) {r : Option ρ} (step : ∀ (rec : A1 → A2 → A3 → Option ρ) (i : Nat), i < N → body rec (s1 i) (s2 i) (s3 i) = rec (s1 (i + 1)) (s2 (i + 1)) (s3 (i + 1))) (stop : ∀ rec : A1 → A2 → A3 → Option ρ, body rec (s1 N) (s2 N) (s3 N) = r) {fu : Nat} (hf : N < fu) : zlp3 body fu (s1 0) (s2 0) (s3 0) = r := by
  have key : ∀ (k i fu : Nat), i + k = N → k < fu → zlp3 body fu (s1 i) (s2 i) (s3 i) = r := by
    intro k
    induction k with
    | zero =>
      intro i fu h1 h2
      obtain ⟨fu, rfl⟩ : ∃ q, fu = q + 1 := ⟨fu - 1, by omega⟩
      obtain rfl : i = N := by omega
      rw [zlp_s3]
      exact stop _
    | succ k ih =>
      intro i fu h1 h2
      obtain ⟨fu, rfl⟩ : ∃ q, fu = q + 1 := ⟨fu - 1, by omega⟩
      rw [zlp_s3, step _ i (by omega)]
      exact ih (i + 1) fu (by omega) (by omega)
  exact key N 0 fu (by omega) hf
theorem zlp_t3 {A1 A2 A3 ρ : Type} {body : (A1 → A2 → A3 → Option ρ) → A1 → A2 → A3 → Option ρ} {Q : Option ρ → Prop} (N : Nat) (P : Nat → A1 → A2 → A3 → Prop) (step : ∀ (rec : A1 → A2 → A3 → Option ρ) (i : Nat), i ≤ N → (i < N → ∀ b1 b2 b3, P (i + 1) b1 b2 b3 → Q (rec b1 b2 b3)) → ∀ a1 a2 a3, P i a1 a2 a3 → Q (body rec a1 a2 a3)) {fu : Nat} (hf : N < fu) : ∀ a1 a2 a3, P 0 a1 a2 a3 → Q (zlp3 body fu a1 a2 a3) := by
  have key : ∀ (k i fu : Nat), i + k = N → k < fu → ∀ a1 a2 a3, P i a1 a2 a3 → Q (zlp3 body fu a1 a2 a3) := by
    intro k
    induction k with
    | zero =>
      intro i fu h1 h2 a1 a2 a3 hp
      obtain ⟨fu, rfl⟩ : ∃ q, fu = q + 1 := ⟨fu - 1, by omega⟩
      rw [zlp_s3]
      exact step _ i (by omega) (fun h => absurd h (by omega)) a1 a2 a3 hp
    | succ k ih =>
      intro i fu h1 h2 a1 a2 a3 hp
      obtain ⟨fu, rfl⟩ : ∃ q, fu = q + 1 := ⟨fu - 1, by omega⟩
      rw [zlp_s3]
      exact step _ i (by omega) (fun _ b1 b2 b3 hb => ih (i + 1) fu (by omega) (by omega) b1 b2 b3 hb) a1 a2 a3 hp
  exact key N 0 fu (by omega) hf
theorem zlp_r4 {A1 A2 A3 A4 ρ : Type} {body : (A1 → A2 → A3 → A4 → Option ρ) → A1 → A2 → A3 → A4 → Option ρ} (s1 : Nat → A1) (s2 : Nat → A2) (s3 : Nat → A3) (s4 : Nat → A4) (N : Nat) {r : Option ρ} (step : ∀ (rec : A1 → A2 → A3 → A4 → Option ρ) (i : Nat), i < N → body rec (s1 i) (s2 i) (s3 i) (s4 i) = rec (s1 (i + 1)) (s2 (i + 1)) (s3 (i + 1)) (s4 (i + 1))) (stop : ∀ rec : A1 → A2 → A3 → A4 → Option ρ, body rec (s1 N) (s2 N) (s3 N) (s4 N) = r) {fu : Nat} (hf : N < fu) : zlp4 body fu (s1 0) (s2 0) (s3 0) (s4 0) = r := by
  have key : ∀ (k i fu : Nat), i + k = N → k < fu → zlp4 body fu (s1 i) (s2 i) (s3 i) (s4 i) = r := by
    intro k
    induction k with
    | zero =>
      intro i fu h1 h2
      obtain ⟨fu, rfl⟩ : ∃ q, fu = q + 1 := ⟨fu - 1, by omega⟩
      obtain rfl : i = N := by omega
      rw [zlp_s4]
      exact stop _
    | succ k ih =>
      intro i fu h1 h2
      obtain ⟨fu, rfl⟩ : ∃ q, fu = q + 1 := ⟨fu - 1, by omega⟩
      rw [zlp_s4, step _ i (by omega)]
      exact ih (i + 1) fu (by omega) (by omega)
  exact key N 0 fu (by omega) hf
theorem zlp_t4 {A1 A2 A3 A4 ρ : Type} {body : (A1 → A2 → A3 → A4 → Option ρ) → A1 → A2 → A3 → A4 → Option ρ} {Q : Option ρ → Prop} (N : Nat) (P : Nat → A1 → A2 → A3 → A4 → Prop) (step : ∀ (rec : A1 → A2 → A3 → A4 → Option ρ) (i : Nat), i ≤ N → (i < N → ∀ b1 b2 b3 b4, P (i + 1) b1 b2 b3 b4 → Q (rec b1 b2 b3 b4)) → ∀ a1 a2 a3 a4, P i a1 a2 a3 a4 → Q (body rec a1 a2 a3 a4)) {fu : Nat} (hf : N < fu) : ∀ a1 a2 a3 a4, P 0 a1 a2 a3 a4 → Q (zlp4 body fu a1 a2 a3 a4) := by
  have key : ∀ (k i fu : Nat), i + k = N → k < fu → ∀ a1 a2 a3 a4, P i a1 a2 a3 a4 → Q (zlp4 body fu a1 a2 a3 a4) := by
    intro k
    induction k with
    | zero =>
      intro i fu h1 h2 a1 a2 a3 a4 hp
      obtain ⟨fu, rfl⟩ : ∃ q, fu = q + 1 := ⟨fu - 1, by omega⟩
      rw [zlp_s4]
      exact step _ i (by omega) (fun h => absurd h (by omega)) a1 a2 a3 a4 hp
    | succ k ih =>
      intro i fu h1 h2 a1 a2 a3 a4 hp
      obtain ⟨fu, rfl⟩ : ∃ q, fu = q + 1 := ⟨fu - 1, by omega⟩
      rw [zlp_s4]
      exact step _ i (by omega) (fun _ b1 b2 b3 b4 hb => ih (i + 1) fu (by omega) (by omega) b1 b2 b3 b4 hb) a1 a2 a3 a4 hp
  exact key N 0 fu (by omega) hf
theorem zlp_r5 {A1 A2 A3 A4 A5 ρ : Type} {body : (A1 → A2 → A3 → A4 → A5 → Option ρ) → A1 → A2 → A3 → A4 → A5 → Option ρ} (s1 : Nat → A1) (s2 : Nat → A2) (s3 : Nat → A3) (s4 : Nat → A4) (s5 : Nat → A5) (N : Nat) {r : Option ρ} (step : ∀ (rec : A1 → A2 → A3 → A4 → A5 → Option ρ) (i : Nat), i < N → body rec (s1 i) (s2 i) (s3 i) (s4 i) (s5 i) = rec (s1 (i + 1)) (s2 (i + 1)) (s3 (i + 1)) (s4 (i + 1)) (s5 (i + 1))) (stop : ∀ rec : A1 → A2 → A3 → A4 → A5 → Option ρ, body rec (s1 N) (s2 N) (s3 N) (s4 N) (s5 N) = r) {fu : Nat} (hf : N < fu) : zlp5 body fu (s1 0) (s2 0) (s3 0) (s4 0) (s5 0) = r := by
  have key : ∀ (k i fu : Nat), i + k = N → k < fu → zlp5 body fu (s1 i) (s2 i) (s3 i) (s4 i) (s5 i) = r := by
    intro k
    induction k with
    | zero =>
      intro i fu h1 h2
      obtain ⟨fu, rfl⟩ : ∃ q, fu = q + 1 := ⟨fu - 1, by omega⟩
      obtain rfl : i = N := by omega
      rw [zlp_s5]
      exact stop _
    | succ k ih =>
      intro i fu h1 h2
      obtain ⟨fu, rfl⟩ : ∃ q, fu = q + 1 := ⟨fu - 1, by omega⟩
      rw [zlp_s5, step _ i (by omega)]
      exact ih (i + 1) fu (by omega) (by omega)
  exact key N 0 fu (by omega) hf
theorem zlp_t5 {A1 A2 A3 A4 A5 ρ : Type} {body : (A1 → A2 → A3 → A4 → A5 → Option ρ) → A1 → A2 → A3 → A4 → A5 → Option ρ} {Q : Option ρ → Prop} (N : Nat) (P : Nat → A1 → A2 → A3 → A4 → A5 → Prop) (step : ∀ (rec : A1 → A2 → A3 → A4 → A5 → Option ρ) (i : Nat), i ≤ N → (i < N → ∀ b1 b2 b3 b4 b5, P (i + 1) b1 b2 b3 b4 b5 → Q (rec b1 b2 b3 b4 b5)) → ∀ a1 a2 a3 a4 a5, P i a1 a2 a3 a4 a5 → Q (body rec a1 a2 a3 a4 a5)) {fu : Nat} (hf : N < fu) : ∀ a1 a2 a3 a4 a5, P 0 a1 a2 a3 a4 a5 → Q (zlp5 body fu a1 a2 a3 a4 a5) := by
  have key : ∀ (k i fu : Nat), i + k = N → k < fu → ∀ a1 a2 a3 a4 a5, P i a1 a2 a3 a4 a5 → Q (zlp5 body fu a1 a2 a3 a4 a5) := by
    intro k
    induction k with
    | zero =>
      intro i fu h1 h2 a1 a2 a3 a4 a5 hp
      obtain ⟨fu, rfl⟩ : ∃ q, fu = q + 1 := ⟨fu - 1, by omega⟩
      rw [zlp_s5]
      exact step _ i (by omega) (fun h => absurd h (by omega)) a1 a2 a3 a4 a5 hp
    | succ k ih =>
      intro i fu h1 h2 a1 a2 a3 a4 a5 hp
      obtain ⟨fu, rfl⟩ : ∃ q, fu = q + 1 := ⟨fu - 1, by omega⟩
      rw [zlp_s5]
      exact step _ i (by omega) (fun _ b1 b2 b3 b4 b5 hb => ih (i + 1) fu (by omega) (by omega) b1 b2 b3 b4 b5 hb) a1 a2 a3 a4 a5 hp
  exact key N 0 fu (by omega) hf
theorem zlp_r6 {A1 A2 A3 A4 A5 A6 ρ : Type} {body : (A1 → A2 → A3 → A4 → A5 → A6 → Option ρ) → A1 → A2 → A3 → A4 → A5 → A6 → Option ρ} (s1 : Nat → A1) (s2 : Nat → A2) (s3 : Nat → A3) (s4 : Nat → A4) (s5 : Nat → A5) (s6 : Nat → A6) (N : Nat) {r : Option ρ} (step : ∀ (rec : A1 → A2 → A3 → A4 → A5 → A6 → Option ρ) (i : Nat), i < N → body rec (s1 i) (s2 i) (s3 i) (s4 i) (s5 i) (s6 i) = rec (s1 (i + 1)) (s2 (i + 1)) (s3 (i + 1)) (s4 (i + 1)) (s5 (i + 1)) (s6 (i + 1))) (stop : ∀ rec : A1 → A2 → A3 → A4 → A5 → A6 → Option ρ, body rec (s1 N) (s2 N) (s3 N) (s4 N) (s5 N) (s6 N) = r) {fu : Nat} (hf : N < fu) : zlp6 body fu (s1 0) (s2 0) (s3 0) (s4 0) (s5 0) (s6 0) = r := by
  have key : ∀ (k i fu : Nat), i + k = N → k < fu → zlp6 body fu (s1 i) (s2 i) (s3 i) (s4 i) (s5 i) (s6 i) = r := by
    intro k
    induction k with
    | zero =>
      intro i fu h1 h2
      obtain ⟨fu, rfl⟩ : ∃ q, fu = q + 1 := ⟨fu - 1, by omega⟩
      obtain rfl : i = N := by omega
      rw [zlp_s6]
      exact stop _
    | succ k ih =>
      intro i fu h1 h2
      obtain ⟨fu, rfl⟩ : ∃ q, fu = q + 1 := ⟨fu - 1, by omega⟩
      rw [zlp_s6, step _ i (by omega)]
      exact ih (i + 1) fu (by omega) (by omega)
  exact key N 0 fu (by omega) hf
theorem zlp_t6 {A1 A2 A3 A4 A5 A6 ρ : Type} {body : (A1 → A2 → A3 → A4 → A5 → A6 → Option ρ) → A1 → A2 → A3 → A4 → A5 → A6 → Option ρ} {Q : Option ρ → Prop} (N : Nat) (P : Nat → A1 → A2 → A3 → A4 → A5 → A6 → Prop) (step : ∀ (rec : A1 → A2 → A3 → A4 → A5 → A6 → Option ρ) (i : Nat), i ≤ N → (i < N → ∀ b1 b2 b3 b4 b5 b6, P (i + 1) b1 b2 b3 b4 b5 b6 → Q (rec b1 b2 b3 b4 b5 b6)) → ∀ a1 a2 a3 a4 a5 a6, P i a1 a2 a3 a4 a5 a6 → Q (body rec a1 a2 a3 a4 a5 a6)) {fu : Nat} (hf : N < fu) : ∀ a1 a2 a3 a4 a5 a6, P 0 a1 a2 a3 a4 a5 a6 → Q (zlp6 body fu a1 a2 a3 a4 a5 a6) := by
  have key : ∀ (k i fu : Nat), i + k = N → k < fu → ∀ a1 a2 a3 a4 a5 a6, P i a1 a2 a3 a4 a5 a6 → Q (zlp6 body fu a1 a2 a3 a4 a5 a6) := by
    intro k
    induction k with
    | zero =>
      intro i fu h1 h2 a1 a2 a3 a4 a5 a6 hp
      obtain ⟨fu, rfl⟩ : ∃ q, fu = q + 1 := ⟨fu - 1, by omega⟩
      rw [zlp_s6]
      exact step _ i (by omega) (fun h => absurd h (by omega)) a1 a2 a3 a4 a5 a6 hp
    | succ k ih =>
      intro i fu h1 h2 a1 a2 a3 a4 a5 a6 hp
      obtain ⟨fu, rfl⟩ : ∃ q, fu = q + 1 := ⟨fu - 1, by omega⟩
      rw [zlp_s6]
      exact step _ i (by omega) (fun _ b1 b2 b3 b4 b5 b6 hb => ih (i + 1) fu (by omega) (by omega) b1 b2 b3 b4 b5 b6 hb) a1 a2 a3 a4 a5 a6 hp
  exact key N 0 fu (by omega) hf
theorem zlp_t7 {A1 A2 A3 A4 A5 A6 A7 ρ : Type} {body : (A1 → A2 → A3 → A4 → A5 → A6 → A7 → Option ρ) → A1 → A2 → A3 → A4 → A5 → A6 → A7 → Option ρ} {Q : Option ρ → Prop} (N : Nat) (P : Nat → A1 → A2 → A3 → A4 → A5 → A6 → A7 → Prop) (step : ∀ (rec : A1 → A2 → A3 → A4 → A5 → A6 → A7 → Option ρ) (i : Nat), i ≤ N → (i < N → ∀ b1 b2 b3 b4 b5 b6 b7, P (i + 1) b1 b2 b3 b4 b5 b6 b7 → Q (rec b1 b2 b3 b4 b5 b6 b7)) → ∀ a1 a2 a3 a4 a5 a6 a7, P i a1 a2 a3 a4 a5 a6 a7 → Q (body rec a1 a2 a3 a4 a5 a6 a7)) {fu : Nat} (hf : N < fu) : ∀ a1 a2 a3 a4 a5 a6 a7, P 0 a1 a2 a3 a4 a5 a6 a7 → Q (zlp7 body fu a1 a2 a3 a4 a5 a6 a7) := by
  have key : ∀ (k i fu : Nat), i + k = N → k < fu → ∀ a1 a2 a3 a4 a5 a6 a7, P i a1 a2 a3 a4 a5 a6 a7 → Q (zlp7 body fu a1 a2 a3 a4 a5 a6 a7) := by
    intro k
    induction k with
    | zero =>
      intro i fu h1 h2 a1 a2 a3 a4 a5 a6 a7 hp
      obtain ⟨fu, rfl⟩ : ∃ q, fu = q + 1 := ⟨fu - 1, by omega⟩
      rw [zlp_s7]
      exact step _ i (by omega) (fun h => absurd h (by omega)) a1 a2 a3 a4 a5 a6 a7 hp
    | succ k ih =>
      intro i fu h1 h2 a1 a2 a3 a4 a5 a6 a7 hp
      obtain ⟨fu, rfl⟩ : ∃ q, fu = q + 1 := ⟨fu - 1, by omega⟩
      rw [zlp_s7]
      exact step _ i (by omega) (fun _ b1 b2 b3 b4 b5 b6 b7 hb => ih (i + 1) fu (by omega) (by omega) b1 b2 b3 b4 b5 b6 b7 hb) a1 a2 a3 a4 a5 a6 a7 hp
  exact key N 0 fu (by omega) hf
theorem zlp_t8 {A1 A2 A3 A4 A5 A6 A7 A8 ρ : Type} {body : (A1 → A2 → A3 → A4 → A5 → A6 → A7 → A8 → Option ρ) → A1 → A2 → A3 → A4 → A5 → A6 → A7 → A8 → Option ρ} {Q : Option ρ → Prop} (N : Nat) (P : Nat → A1 → A2 → A3 → A4 → A5 → A6 → A7 → A8 → Prop) (step : ∀ (rec : A1 → A2 → A3 → A4 → A5 → A6 → A7 → A8 → Option ρ) (i : Nat), i ≤ N → (i < N → ∀ b1 b2 b3 b4 b5 b6 b7 b8, P (i + 1) b1 b2 b3 b4 b5 b6 b7 b8 → Q (rec b1 b2 b3 b4 b5 b6 b7 b8)) → ∀ a1 a2 a3 a4 a5 a6 a7 a8, P i a1 a2 a3 a4 a5 a6 a7 a8 → Q (body rec a1 a2 a3 a4 a5 a6 a7 a8)) {fu : Nat} (hf : N < fu) : ∀ a1 a2 a3 a4 a5 a6 a7 a8, P 0 a1 a2 a3 a4 a5 a6 a7 a8 → Q (zlp8 body fu a1 a2 a3 a4 a5 a6 a7 a8) := by
  have key : ∀ (k i fu : Nat), i + k = N → k < fu → ∀ a1 a2 a3 a4 a5 a6 a7 a8, P i a1 a2 a3 a4 a5 a6 a7 a8 → Q (zlp8 body fu a1 a2 a3 a4 a5 a6 a7 a8) := by
    intro k
    induction k with
    | zero =>
      intro i fu h1 h2 a1 a2 a3 a4 a5 a6 a7 a8 hp
      obtain ⟨fu, rfl⟩ : ∃ q, fu = q + 1 := ⟨fu - 1, by omega⟩
      rw [zlp_s8]
      exact step _ i (by omega) (fun h => absurd h (by omega)) a1 a2 a3 a4 a5 a6 a7 a8 hp
    | succ k ih =>
      intro i fu h1 h2 a1 a2 a3 a4 a5 a6 a7 a8 hp
      obtain ⟨fu, rfl⟩ : ∃ q, fu = q + 1 := ⟨fu - 1, by omega⟩
      rw [zlp_s8]
      exact step _ i (by omega) (fun _ b1 b2 b3 b4 b5 b6 b7 b8 hb => ih (i + 1) fu (by omega) (by omega) b1 b2 b3 b4 b5 b6 b7 b8 hb) a1 a2 a3 a4 a5 a6 a7 a8 hp
  exact key N 0 fu (by omega) hf
theorem zlp_t9 {A1 A2 A3 A4 A5 A6 A7 A8 A9 ρ : Type} {body : (A1 → A2 → A3 → A4 → A5 → A6 → A7 → A8 → A9 → Option ρ) → A1 → A2 → A3 → A4 → A5 → A6 → A7 → A8 → A9 → Option ρ} {Q : Option ρ → Prop} (N : Nat) (P : Nat → A1 → A2 → A3 → A4 → A5 → A6 → A7 → A8 → A9 → Prop) (step : ∀ (rec : A1 → A2 → A3 → A4 → A5 → A6 → A7 → A8 → A9 → Option ρ) (i : Nat), i ≤ N → (i < N → ∀ b1 b2 b3 b4 b5 b6 b7 b8 b9, P (i + 1) b1 b2 b3 b4 b5 b6 b7 b8 b9 → Q (rec b1 b2 b3 b4 b5 b6 b7 b8 b9)) → ∀ a1 a2 a3 a4 a5 a6 a7 a8 a9, P i a1 a2 a3 a4 a5 a6 a7 a8 a9 → Q (body rec a1 a2 a3 a4 a5 a6 a7 a8 a9)) {fu : Nat} (hf : N < fu) : ∀ a1 a2 a3 a4 a5 a6 a7 a8 a9, P 0 a1 a2 a3 a4 a5 a6 a7 a8 a9 → Q (zlp9 body fu a1 a2 a3 a4 a5 a6 a7 a8 a9) := by
  have key : ∀ (k i fu : Nat), i + k = N → k < fu → ∀ a1 a2 a3 a4 a5 a6 a7 a8 a9, P i a1 a2 a3 a4 a5 a6 a7 a8 a9 → Q (zlp9 body fu a1 a2 a3 a4 a5 a6 a7 a8 a9) := by
    intro k
    induction k with
    | zero =>
      intro i fu h1 h2 a1 a2 a3 a4 a5 a6 a7 a8 a9 hp
      obtain ⟨fu, rfl⟩ : ∃ q, fu = q + 1 := ⟨fu - 1, by omega⟩
      rw [zlp_s9]
      exact step _ i (by omega) (fun h => absurd h (by omega)) a1 a2 a3 a4 a5 a6 a7 a8 a9 hp
    | succ k ih =>
      intro i fu h1 h2 a1 a2 a3 a4 a5 a6 a7 a8 a9 hp
      obtain ⟨fu, rfl⟩ : ∃ q, fu = q + 1 := ⟨fu - 1, by omega⟩
      rw [zlp_s9]
      exact step _ i (by omega) (fun _ b1 b2 b3 b4 b5 b6 b7 b8 b9 hb => ih (i + 1) fu (by omega) (by omega) b1 b2 b3 b4 b5 b6 b7 b8 b9 hb) a1 a2 a3 a4 a5 a6 a7 a8 a9 hp
  exact key N 0 fu (by omega) hf
theorem zlp_t13 {A1 A2 A3 A4 A5 A6 A7 A8 A9 A10 A11 A12 A13 ρ : Type} {body : (A1 → A2 → A3 → A4 → A5 → A6 → A7 → A8 → A9 → A10 → A11 → A12 → A13 → Option ρ) → A1 → A2 → A3 → A4 → A5 → A6 → A7 → A8 → A9 → A10 → A11 → A12 → A13 → Option ρ} {Q : Option ρ → Prop} (N : Nat) (P : Nat → A1 → A2 → A3 → A4 → A5 → A6 → A7 → A8 → A9 → A10 → A11 → A12 → A13 → Prop) (step : ∀ (rec : A1 → A2 → A3 → A4 → A5 → A6 → A7 → A8 → A9 → A10 → A11 → A12 → A13 → Option ρ) (i : Nat), i ≤ N → (i < N → ∀ b1 b2 b3 b4 b5 b6 b7 b8 b9 b10 b11 b12 b13, P (i + 1) b1 b2 b3 b4 b5 b6 b7 b8 b9 b10 b11 b12 b13 → Q (rec b1 b2 b3 b4 b5 b6 b7 b8 b9 b10 b11 b12 b13)) → ∀ a1 a2 a3 a4 a5 a6 a7 a8 a9 a10 a11 a12 a13, P i a1 a2 a3 a4 a5 a6 a7 a8 a9 a10 a11 a12 a13 → Q (body rec a1 a2 a3 a4 a5 a6 a7 a8 a9 a10 a11 a12 a13)) {fu : Nat} (hf : N < fu) : ∀ a1 a2 a3 a4 a5 a6 a7 a8 a9 a10 a11 a12 a13, P 0 a1 a2 a3 a4 a5 a6 a7 a8 a9 a10 a11 a12 a13 → Q (zlp13 body fu a1 a2 a3 a4 a5 a6 a7 a8 a9 a10 a11 a12 a13) := by
  have key : ∀ (k i fu : Nat), i + k = N → k < fu → ∀ a1 a2 a3 a4 a5 a6 a7 a8 a9 a10 a11 a12 a13, P i a1 a2 a3 a4 a5 a6 a7 a8 a9 a10 a11 a12 a13 → Q (zlp13 body fu a1 a2 a3 a4 a5 a6 a7 a8 a9 a10 a11 a12 a13) := by
    intro k
    induction k with
    | zero =>
      intro i fu h1 h2 a1 a2 a3 a4 a5 a6 a7 a8 a9 a10 a11 a12 a13 hp
      obtain ⟨fu, rfl⟩ : ∃ q, fu = q + 1 := ⟨fu - 1, by omega⟩
      rw [zlp_s13]
      exact step _ i (by omega) (fun h => absurd h (by omega)) a1 a2 a3 a4 a5 a6 a7 a8 a9 a10 a11 a12 a13 hp
    | succ k ih =>
      intro i fu h1 h2 a1 a2 a3 a4 a5 a6 a7 a8 a9 a10 a11 a12 a13 hp
      obtain ⟨fu, rfl⟩ : ∃ q, fu = q + 1 := ⟨fu - 1, by omega⟩
      rw [zlp_s13]
      exact step _ i (by omega) (fun _ b1 b2 b3 b4 b5 b6 b7 b8 b9 b10 b11 b12 b13 hb => ih (i + 1) fu (by omega) (by omega) b1 b2 b3 b4 b5 b6 b7 b8 b9 b10 b11 b12 b13 hb) a1 a2 a3 a4 a5 a6 a7 a8 a9 a10 a11 a12 a13 hp
  exact key N 0 fu (by omega) hf
theorem zlp_t14 {A1 A2 A3 A4 A5 A6 A7 A8 A9 A10 A11 A12 A13 A14 ρ : Type} {body : (A1 → A2 → A3 → A4 → A5 → A6 → A7 → A8 → A9 → A10 → A11 → A12 → A13 → A14 → Option ρ) → A1 → A2 → A3 → A4 → A5 → A6 → A7 → A8 → A9 → A10 → A11 → A12 → A13 → A14 → Option ρ} {Q : Option ρ → Prop} (N : Nat) (P : Nat → A1 → A2 → A3 → A4 → A5 → A6 → A7 → A8 → A9 → A10 → A11 → A12 → A13 → A14 → Prop) (step : ∀ (rec : A1 → A2 → A3 → A4 → A5 → A6 → A7 → A8 → A9 → A10 → A11 → A12 → A13 → A14 → Option ρ) (i : Nat), i ≤ N → (i < N → ∀ b1 b2 b3 b4 b5 b6 b7 b8 b9 b10 b11 b12 b13 b14, P (i + 1) b1 b2 b3 b4 b5 b6 b7 b8 b9 b10 b11 b12 b13 b14 → Q (rec b1 b2 b3 b4 b5 b6 b7 b8 b9 b10 b11 b12 b13 b14)) → ∀ a1 a2 a3 a4 a5 a6 a7 a8 a9 a10 a11 a12 a13 a14, P i a1 a2 a3 a4 a5 a6 a7 a8 a9 a10 a11 a12 a13 a14 → Q (body rec a1 a2 a3 a4 a5 a6 a7 a8 a9 a10 a11 a12 a13 a14)) {fu : Nat} (hf : N < fu) : ∀ a1 a2 a3 a4 a5 a6 a7 a8 a9 a10 a11 a12 a13 a14, P 0 a1 a2 a3 a4 a5 a6 a7 a8 a9 a10 a11 a12 a13 a14 → Q (zlp14 body fu a1 a2 a3 a4 a5 a6 a7 a8 a9 a10 a11 a12 a13 a14) := by
  have key : ∀ (k i fu : Nat), i + k = N → k < fu → ∀ a1 a2 a3 a4 a5 a6 a7 a8 a9 a10 a11 a12 a13 a14, P i a1 a2 a3 a4 a5 a6 a7 a8 a9 a10 a11 a12 a13 a14 → Q (zlp14 body fu a1 a2 a3 a4 a5 a6 a7 a8 a9 a10 a11 a12 a13 a14) := by
    intro k
    induction k with
    | zero =>
      intro i fu h1 h2 a1 a2 a3 a4 a5 a6 a7 a8 a9 a10 a11 a12 a13 a14 hp
      obtain ⟨fu, rfl⟩ : ∃ q, fu = q + 1 := ⟨fu - 1, by omega⟩
      rw [zlp_s14]
      exact step _ i (by omega) (fun h => absurd h (by omega)) a1 a2 a3 a4 a5 a6 a7 a8 a9 a10 a11 a12 a13 a14 hp
    | succ k ih =>
      intro i fu h1 h2 a1 a2 a3 a4 a5 a6 a7 a8 a9 a10 a11 a12 a13 a14 hp
      obtain ⟨fu, rfl⟩ : ∃ q, fu = q + 1 := ⟨fu - 1, by omega⟩
      rw [zlp_s14]
      exact step _ i (by omega) (fun _ b1 b2 b3 b4 b5 b6 b7 b8 b9 b10 b11 b12 b13 b14 hb => ih (i + 1) fu (by omega) (by omega) b1 b2 b3 b4 b5 b6 b7 b8 b9 b10 b11 b12 b13 b14 hb) a1 a2 a3 a4 a5 a6 a7 a8 a9 a10 a11 a12 a13 a14 hp
  exact key N 0 fu (by omega) hf
theorem zlp_t15 {A1 A2 A3 A4 A5 A6 A7 A8 A9 A10 A11 A12 A13 A14 A15 ρ : Type} {body : (A1 → A2 → A3 → A4 → A5 → A6 → A7 → A8 → A9 → A10 → A11 → A12 → A13 → A14 → A15 → Option ρ) → A1 → A2 → A3 → A4 → A5 → A6 → A7 → A8 → A9 → A10 → A11 → A12 → A13 → A14 → A15 → Option ρ} {Q : Option ρ → Prop} (N : Nat) (P : Nat → A1 → A2 → A3 → A4 → A5 → A6 → A7 → A8 → A9 → A10 → A11 → A12 → A13 → A14 → A15 → Prop) (step : ∀ (rec : A1 → A2 → A3 → A4 → A5 → A6 → A7 → A8 → A9 → A10 → A11 → A12 → A13 → A14 → A15 → Option ρ) (i : Nat), i ≤ N → (i < N → ∀ b1 b2 b3 b4 b5 b6 b7 b8 b9 b10 b11 b12 b13 b14 b15, P (i + 1) b1 b2 b3 b4 b5 b6 b7 b8 b9 b10 b11 b12 b13 b14 b15 → Q (rec b1 b2 b3 b4 b5 b6 b7 b8 b9 b10 b11 b12 b13 b14 b15)) → ∀ a1 a2 a3 a4 a5 a6 a7 a8 a9 a10 a11 a12 a13 a14 a15, P i a1 a2 a3 a4 a5 a6 a7 a8 a9 a10 a11 a12 a13 a14 a15 → Q (body rec a1 a2 a3 a4 a5 a6 a7 a8 a9 a10 a11 a12 a13 a14 a15)) {fu : Nat} (hf : N < fu) : ∀ a1 a2 a3 a4 a5 a6 a7 a8 a9 a10 a11 a12 a13 a14 a15, P 0 a1 a2 a3 a4 a5 a6 a7 a8 a9 a10 a11 a12 a13 a14 a15 → Q (zlp15 body fu a1 a2 a3 a4 a5 a6 a7 a8 a9 a10 a11 a12 a13 a14 a15) := by
  have key : ∀ (k i fu : Nat), i + k = N → k < fu → ∀ a1 a2 a3 a4 a5 a6 a7 a8 a9 a10 a11 a12 a13 a14 a15, P i a1 a2 a3 a4 a5 a6 a7 a8 a9 a10 a11 a12 a13 a14 a15 → Q (zlp15 body fu a1 a2 a3 a4 a5 a6 a7 a8 a9 a10 a11 a12 a13 a14 a15) := by
    intro k
    induction k with
    | zero =>
      intro i fu h1 h2 a1 a2 a3 a4 a5 a6 a7 a8 a9 a10 a11 a12 a13 a14 a15 hp
      obtain ⟨fu, rfl⟩ : ∃ q, fu = q + 1 := ⟨fu - 1, by omega⟩
      rw [zlp_s15]
      exact step _ i (by omega) (fun h => absurd h (by omega)) a1 a2 a3 a4 a5 a6 a7 a8 a9 a10 a11 a12 a13 a14 a15 hp
    | succ k ih =>
      intro i fu h1 h2 a1 a2 a3 a4 a5 a6 a7 a8 a9 a10 a11 a12 a13 a14 a15 hp
      obtain ⟨fu, rfl⟩ : ∃ q, fu = q + 1 := ⟨fu - 1, by omega⟩
      rw [zlp_s15]
      exact step _ i (by omega) (fun _ b1 b2 b3 b4 b5 b6 b7 b8 b9 b10 b11 b12 b13 b14 b15 hb => ih (i + 1) fu (by omega) (by omega) b1 b2 b3 b4 b5 b6 b7 b8 b9 b10 b11 b12 b13 b14 b15 hb) a1 a2 a3 a4 a5 a6 a7 a8 a9 a10 a11 a12 a13 a14 a15 hp
  exact key N 0 fu (by omega) hf
theorem zlp_t18 {A1 A2 A3 A4 A5 A6 A7 A8 A9 A10 A11 A12 A13 A14 A15 A16 A17 A18 ρ : Type} {body : (A1 → A2 → A3 → A4 → A5 → A6 → A7 → A8 → A9 → A10 → A11 → A12 → A13 → A14 → A15 → A16 → A17 → A18 → Option ρ) → A1 → A2 → A3 → A4 → A5 → A6 → A7 → A8 → A9 → A10 → A11 → A12 → A13 → A14 → A15 → A16 → A17 → A18 → Option ρ} {Q : Option ρ → Prop} (N : Nat) (P : Nat → A1 → A2 → A3 → A4 → A5 → A6 → A7 → A8 → A9 → A10 → A11 → A12 → A13 → A14 → A15 → A16 → A17 → A18 → Prop) (step : ∀ (rec : A1 → A2 → A3 → A4 → A5 → A6 → A7 → A8 → A9 → A10 → A11 → A12 → A13 → A14 → A15 → A16 → A17 → A18 → Option ρ) (i : Nat), i ≤ N → (i < N → ∀ b1 b2 b3 b4 b5 b6 b7 b8 b9 b10 b11 b12 b13 b14 b15 b16 b17 b18, P (i + 1) b1 b2 b3 b4 b5 b6 b7 b8 b9 b10 b11 b12 b13 b14 b15 b16 b17 b18 → Q (rec b1 b2 b3 b4 b5 b6 b7 b8 b9 b10 b11 b12 b13 b14 b15 b16 b17 b18)) → ∀ a1 a2 a3 a4 a5 a6 a7 a8 a9 a10 a11 a12 a13 a14 a15 a16 a17 a18, P i a1 a2 a3 a4 a5 a6 a7 a8 a9 a10 a11 a12 a13 a14 a15 a16 a17 a18 → Q (body rec a1 a2 a3 a4 a5 a6 a7 a8 a9 a10 a11 a12 a13 a14 a15 a16 a17 a18)) {fu : Nat} (hf : N < fu) : ∀ a1 a2 a3 a4 a5 a6 a7 a8 a9 a10 a11 a12 a13 a14 a15 a16 a17 a18, P 0 a1 a2 a3 a4 a5 a6 a7 a8 a9 a10 a11 a12 a13 a14 a15 a16 a17 a18 → Q (zlp18 body fu a1 a2 a3 a4 a5 a6 a7 a8 a9 a10 a11 a12 a13 a14 a15 a16 a17 a18) := by
  have key : ∀ (k i fu : Nat), i + k = N → k < fu → ∀ a1 a2 a3 a4 a5 a6 a7 a8 a9 a10 a11 a12 a13 a14 a15 a16 a17 a18, P i a1 a2 a3 a4 a5 a6 a7 a8 a9 a10 a11 a12 a13 a14 a15 a16 a17 a18 → Q (zlp18 body fu a1 a2 a3 a4 a5 a6 a7 a8 a9 a10 a11 a12 a13 a14 a15 a16 a17 a18) := by
    intro k
    induction k with
    | zero =>
      intro i fu h1 h2 a1 a2 a3 a4 a5 a6 a7 a8 a9 a10 a11 a12 a13 a14 a15 a16 a17 a18 hp
      obtain ⟨fu, rfl⟩ : ∃ q, fu = q + 1 := ⟨fu - 1, by omega⟩
      rw [zlp_s18]
      exact step _ i (by omega) (fun h => absurd h (by omega)) a1 a2 a3 a4 a5 a6 a7 a8 a9 a10 a11 a12 a13 a14 a15 a16 a17 a18 hp
    | succ k ih =>
      intro i fu h1 h2 a1 a2 a3 a4 a5 a6 a7 a8 a9 a10 a11 a12 a13 a14 a15 a16 a17 a18 hp
      obtain ⟨fu, rfl⟩ : ∃ q, fu = q + 1 := ⟨fu - 1, by omega⟩
      rw [zlp_s18]
      exact step _ i (by omega) (fun _ b1 b2 b3 b4 b5 b6 b7 b8 b9 b10 b11 b12 b13 b14 b15 b16 b17 b18 hb => ih (i + 1) fu (by omega) (by omega) b1 b2 b3 b4 b5 b6 b7 b8 b9 b10 b11 b12 b13 b14 b15 b16 b17 b18 hb) a1 a2 a3 a4 a5 a6 a7 a8 a9 a10 a11 a12 a13 a14 a15 a16 a17 a18 hp
  exact key N 0 fu (by omega) hf
