section
/-! packed words -/
def pkF (f : Nat → Nat) : Nat → Nat
  | 0 => 0
  | k + 1 => pkF f k * 256 + f k
theorem pkF_inj {F f : Nat → Nat} : ∀ {k m : Nat}, (∀ j, j < k → 1 ≤ F j ∧ F j < 256) → (∀ j, j < m → 1 ≤ f j ∧ f j < 256) → pkF F k = pkF f m → k = m ∧ ∀ j, j < k → F j = f j := by
  intro k
  induction k with
  | zero =>
    intro m _ hf e
    cases m with
    | zero => exact ⟨rfl, fun j hj => absurd hj (Nat.not_lt_zero j)⟩
    | succ m => have := (hf m (by omega)).1; have e : 0 = pkF f m * 256 + f m := e; omega
  | succ k ih =>
    intro m hF hf e
    cases m with
    | zero => have := (hF k (by omega)).1; have e : pkF F k * 256 + F k = 0 := e; omega
    | succ m =>
      have e : pkF F k * 256 + F k = pkF f m * 256 + f m := e
      have a1 := (hF k (by omega)).2
      have a2 := (hf m (by omega)).2
      obtain ⟨h1, h2⟩ := ih (m := m) (fun j hj => hF j (by omega)) (fun j hj => hf j (by omega)) (by omega)
      refine ⟨by omega, fun j hj => ?_⟩
      by_cases ej : j = k
      · subst ej; rw [show F j = f m by omega, h1]
      · exact h2 j (by omega)
theorem pkF_lt {F : Nat → Nat} : ∀ {k : Nat}, (∀ j, j < k → F j < 256) → pkF F k < 256 ^ k
  | 0, _ => by show 0 < 1; decide
  | k + 1, h => by
    have h1 := pkF_lt (k := k) (fun j hj => h j (by omega))
    have h2 := h k (by omega)
    show pkF F k * 256 + F k < 256 ^ (k + 1)
    rw [Nat.pow_succ]
    omega
theorem pkF_lt2 {F : Nat → Nat} : ∀ k : Nat, (∀ j, j < k + 1 → F j ≤ 122) → pkF F (k + 1) < 123 * 256 ^ k
  | 0, h => by have := h 0 (by decide); show 0 * 256 + F 0 < 123 * 1; omega
  | k + 1, h => by
    have h1 := pkF_lt2 k (fun j hj => h j (by omega))
    have h2 := h (k + 1) (by omega)
    show pkF F (k + 1) * 256 + F (k + 1) < 123 * 256 ^ (k + 1)
    rw [Nat.pow_succ]
    omega
theorem pkF_b {F : Nat → Nat} {k : Nat} (hk : k ≤ 8) (h : ∀ j, j < k → F j ≤ 122) : pkF F k < 2 ^ 63 ∧ (k ≤ 7 → pkF F k < 2 ^ 56) := by
  have h1 := pkF_lt (F := F) (k := k) (fun j hj => by have := h j hj; omega)
  rcases (by omega : k ≤ 7 ∨ k = 8) with q | q
  · have h2 : (256 : Nat) ^ k ≤ 256 ^ 7 := Nat.pow_le_pow_right (by decide) q
    have h3 : (256 : Nat) ^ 7 = 2 ^ 56 := by decide
    refine ⟨?_, fun _ => by omega⟩
    have : (2 : Nat) ^ 56 < 2 ^ 63 := by decide
    omega
  · subst q
    have h4 := pkF_lt (F := F) (k := 7) (fun j hj => by have := h j (by omega); omega)
    have h5 := h 7 (by decide)
    have h3 : (256 : Nat) ^ 7 = 2 ^ 56 := by decide
    refine ⟨?_, fun z => by omega⟩
    have h6 : pkF F 8 < 123 * 256 ^ 7 := pkF_lt2 (F := F) 7 h
    have h7 : 123 * (256 : Nat) ^ 7 < 2 ^ 63 := by decide
    omega
theorem sh8 : ((8 : Int32).toInt64 &&& 63) = 8 := by decide
theorem pk_sh {X B : Nat} (hX : X < 2 ^ 56) (hB : B < 256) : (Int64.ofNat X <<< ((8 : Int32).toInt64 &&& 63)) ||| (nI B).toInt64 = Int64.ofNat (X * 256 + B) := by
  rw [sh8]
  have eB : (nI B).toInt64 = Int64.ofNat B := by
    apply Int64.toInt_inj.mp
    rw [Int32.toInt_toInt64, nI_toInt (by omega), Int64.toInt_ofNat_of_lt (by omega)]
  rw [eB]
  apply Int64.toBitVec_inj.mp
  apply BitVec.eq_of_toNat_eq
  simp only [Int64.toBitVec_or, Int64.toBitVec_shiftLeft, BitVec.toNat_or, BitVec.toNat_shiftLeft]
  have e1 : (Int64.ofNat X).toBitVec.toNat = X := by show (BitVec.ofNat 64 X).toNat = X; rw [BitVec.toNat_ofNat]; exact Nat.mod_eq_of_lt (by omega)
  have e2 : (Int64.ofNat B).toBitVec.toNat = B := by show (BitVec.ofNat 64 B).toNat = B; rw [BitVec.toNat_ofNat]; exact Nat.mod_eq_of_lt (by omega)
  have e3 : (Int64.ofNat (X * 256 + B)).toBitVec.toNat = X * 256 + B := by show (BitVec.ofNat 64 (X * 256 + B)).toNat = _; rw [BitVec.toNat_ofNat]; exact Nat.mod_eq_of_lt (by omega)
  rw [e2, e3]
  have e4 : ((Int64.ofNat X).toBitVec <<< ((8 : Int64).toBitVec.smod 64)).toNat = X * 256 := by
    rw [show ((8 : Int64).toBitVec.smod 64) = 8#64 by decide]
    show ((Int64.ofNat X).toBitVec <<< (8#64).toNat).toNat = _
    rw [BitVec.toNat_shiftLeft, e1, show (8#64).toNat = 8 from rfl, Nat.shiftLeft_eq]
    exact Nat.mod_eq_of_lt (by omega)
  rw [e4]
  have := Nat.two_pow_add_eq_or_of_lt (i := 8) (b := B) (by omega) X
  rw [show X * 256 = 2 ^ 8 * X by omega]
  exact this.symm
end
