section
/-! sums of fractions in least terms -/
theorem l_div {x y : Int64} (hx : -9223372036854775808 < x.toInt) (hy : 0 < y.toInt) : (x / y).toInt = x.toInt.tdiv y.toInt := by
  have b := l_bd x
  have k : (x.toInt.tdiv y.toInt).natAbs ≤ x.toInt.natAbs := by rw [Int.natAbs_tdiv]; exact Nat.div_le_self _ _
  rw [Int64.toInt_div]
  exact Int.bmod_eq_of_le (by omega) (by omega)
theorem gL_toInt {a b : Int64} (hb : 0 < b.toInt) : (gL a b).toInt = (Nat.gcd a.toInt.natAbs b.toInt.natAbs : Nat) ∧ 0 < (gL a b).toInt := by
  have bb := l_bd b
  have h1 : 1 ≤ Nat.gcd a.toInt.natAbs b.toInt.natAbs := Nat.gcd_pos_of_pos_right _ (by omega)
  have h2 : Nat.gcd a.toInt.natAbs b.toInt.natAbs ≤ b.toInt.natAbs := Nat.gcd_le_right _ (by omega)
  have e : (gL a b).toInt = (Nat.gcd a.toInt.natAbs b.toInt.natAbs : Nat) := by
    unfold gL
    show (Int64.ofNat _).toInt = _
    rw [Int64.toInt_ofNat_of_lt (by omega)]
  exact ⟨e, by omega⟩
theorem gL_dvd {a b : Int64} (hb : 0 < b.toInt) : (gL a b).toInt ∣ a.toInt ∧ (gL a b).toInt ∣ b.toInt := by
  rw [(gL_toInt hb).1]
  exact ⟨Int.ofNat_dvd_left.mpr (Nat.gcd_dvd_left _ _), Int.ofNat_dvd_left.mpr (Nat.gcd_dvd_right _ _)⟩
/-- the numbers of a sum -/
def fOk (A B : Int64) (L τ c : Int) : Prop := 0 < B.toInt ∧ B.toInt ∣ L ∧ A.toInt.natAbs * τ ≤ c * B.toInt
theorem f_put {a b : Int64} {L τ c : Int} (ha : -9223372036854775808 < a.toInt) (f : fOk a b L τ c) : fOk (a / gL a b) (b / gL a b) L τ c := by
  obtain ⟨b0, bL', ab⟩ := f
  obtain ⟨ge, g0⟩ := gL_toInt (a := a) b0
  obtain ⟨⟨p, hp⟩, ⟨q, hq⟩⟩ := gL_dvd (a := a) b0
  have eA : (a / gL a b).toInt = p := by rw [l_div ha g0, hp, Int.mul_tdiv_cancel_left _ (by omega)]
  have eB : (b / gL a b).toInt = q := by rw [l_div (by omega) g0, hq, Int.mul_tdiv_cancel_left _ (by omega)]
  unfold fOk
  rw [eA, eB]
  have q0 : 0 < q := by
    rw [hq] at b0
    exact Int.pos_of_mul_pos_left (by rw [Int.mul_comm]; exact b0) g0
  refine ⟨q0, Int.dvd_trans ⟨(gL a b).toInt, by rw [hq, Int.mul_comm]⟩ bL', ?_⟩
  rw [hp, hq, Int.natAbs_mul, Int.natCast_mul, Int.natAbs_of_nonneg (Int.le_of_lt g0), Int.mul_assoc, Int.mul_left_comm c] at ab
  exact Int.le_of_mul_le_mul_left ab g0
theorem f_lcm {x y g p q L : Int} (hx : 0 < x) (hy : 0 < y) (hg : g = (Nat.gcd x.natAbs y.natAbs : Nat)) (g0 : 0 < g) (ep : x = g * p) (eq : y = g * q) (h1 : x ∣ L) (h2 : y ∣ L) : x * q ∣ L := by
  have d := Nat.lcm_dvd (Int.natAbs_dvd_natAbs.mpr h1) (Int.natAbs_dvd_natAbs.mpr h2)
  refine Int.natAbs_dvd_natAbs.mp ?_
  have e : (x * q).natAbs = Nat.lcm x.natAbs y.natAbs := by
    unfold Nat.lcm
    have ey : y.natAbs = Nat.gcd x.natAbs y.natAbs * q.natAbs := by
      have : y.natAbs = g.natAbs * q.natAbs := by rw [eq, Int.natAbs_mul]
      rw [hg, Int.natAbs_natCast] at this
      exact this
    have g1 : 0 < Nat.gcd x.natAbs y.natAbs := by omega
    have e2 : x.natAbs * y.natAbs = Nat.gcd x.natAbs y.natAbs * (x.natAbs * q.natAbs) := by
      calc x.natAbs * y.natAbs = x.natAbs * (Nat.gcd x.natAbs y.natAbs * q.natAbs) := by rw [← ey]
        _ = _ := Nat.mul_left_comm _ _ _
    rw [Int.natAbs_mul, e2, Nat.mul_div_cancel_left _ g1]
  rw [e]; exact d
theorem f_scale {a q τ c B : Int} (q0 : 0 ≤ q) (h : a.natAbs * τ ≤ c * B) : (a * q).natAbs * τ ≤ c * (B * q) := by
  rw [Int.natAbs_mul, Int.natCast_mul, Int.natAbs_of_nonneg q0]
  have := Int.mul_le_mul_of_nonneg_right h q0
  calc (a.natAbs : Int) * q * τ = a.natAbs * τ * q := by rw [Int.mul_assoc, Int.mul_comm q, ← Int.mul_assoc]
    _ ≤ c * B * q := this
    _ = c * (B * q) := Int.mul_assoc _ _ _
theorem f_add {A B x b : Int64} {L τ c d : Int} (hL : 0 < L) (hL2 : L < 9223372036854775808) (hτ : 0 < τ) (hc : 0 ≤ c) (hd : 0 ≤ d) (big : (c + d) * L < 9223372036854775807 * τ) (f : fOk A B L τ c) (b0 : 0 < b.toInt) (bL' : b.toInt ∣ L) (hx : x.toInt.natAbs * τ ≤ d * b.toInt) : ¬ gL B b = 0 ∧ fOk (A * (b / gL B b) + x * (B / gL B b)) (B * (b / gL B b)) L τ (c + d) ∧ -9223372036854775808 < (A * (b / gL B b) + x * (B / gL B b)).toInt := by
  obtain ⟨B0, BL, AB⟩ := f
  obtain ⟨ge, g0⟩ := gL_toInt (a := B) b0
  obtain ⟨⟨p, hp⟩, ⟨q, hq⟩⟩ := gL_dvd (a := B) b0
  have eB : (B / gL B b).toInt = p := by rw [l_div (by omega) g0, hp, Int.mul_tdiv_cancel_left _ (by omega)]
  have eb : (b / gL B b).toInt = q := by rw [l_div (by omega) g0, hq, Int.mul_tdiv_cancel_left _ (by omega)]
  have p0 : 0 < p := Int.pos_of_mul_pos_left (b := (gL B b).toInt) (by rw [Int.mul_comm, ← hp]; exact B0) g0
  have q0 : 0 < q := Int.pos_of_mul_pos_left (b := (gL B b).toInt) (by rw [Int.mul_comm, ← hq]; exact b0) g0
  have ld : B.toInt * q ∣ L := f_lcm B0 b0 ge g0 hp hq BL bL'
  have n0 : 0 < B.toInt * q := Int.mul_pos B0 q0
  have nL : B.toInt * q ≤ L := Int.le_of_dvd hL ld
  have eN : b.toInt * p = B.toInt * q := by
    calc b.toInt * p = (gL B b).toInt * q * p := by rw [← hq]
      _ = (gL B b).toInt * p * q := by rw [Int.mul_assoc, Int.mul_comm q, ← Int.mul_assoc]
      _ = B.toInt * q := by rw [← hp]
  have s1 : (A.toInt * q).natAbs * τ ≤ c * (B.toInt * q) := f_scale (Int.le_of_lt q0) AB
  have s2 : (x.toInt * p).natAbs * τ ≤ d * (B.toInt * q) := by rw [← eN]; exact f_scale (Int.le_of_lt p0) hx
  have cd : ∀ e : Int, 0 ≤ e → e ≤ c + d → e * (B.toInt * q) < 9223372036854775807 * τ := fun e e0 e1 => by
    have h1 : e * (B.toInt * q) ≤ (c + d) * (B.toInt * q) := Int.mul_le_mul_of_nonneg_right e1 (Int.le_of_lt n0)
    have h2 : (c + d) * (B.toInt * q) ≤ (c + d) * L := Int.mul_le_mul_of_nonneg_left nL (by omega)
    omega
  have sm : (A.toInt * q + x.toInt * p).natAbs * τ ≤ (c + d) * (B.toInt * q) := by
    have h1 : ((A.toInt * q + x.toInt * p).natAbs : Int) ≤ (A.toInt * q).natAbs + (x.toInt * p).natAbs := by omega
    have h2 := Int.mul_le_mul_of_nonneg_right h1 (Int.le_of_lt hτ)
    rw [Int.add_mul] at h2 ⊢
    omega
  have lt : ∀ (v e : Int), v.natAbs * τ ≤ e * (B.toInt * q) → 0 ≤ e → e ≤ c + d → -9223372036854775807 < v ∧ v < 9223372036854775807 := fun v e h1 e0 e1 => by
    have h2 := cd e e0 e1
    have h3 : (v.natAbs : Int) < 9223372036854775807 := Int.lt_of_mul_lt_mul_right (Int.lt_of_le_of_lt h1 h2) (Int.le_of_lt hτ)
    omega
  have l1 := lt _ c s1 hc (by omega)
  have l2 := lt _ d s2 hd (by omega)
  have l3 := lt _ (c + d) sm (by omega) (Int.le_refl _)
  have m1 : (A * (b / gL B b)).toInt = A.toInt * q := by rw [i64_mul (by rw [eb]; omega) (by rw [eb]; omega), eb]
  have m2 : (x * (B / gL B b)).toInt = x.toInt * p := by rw [i64_mul (by rw [eB]; omega) (by rw [eB]; omega), eB]
  have m3 : (B * (b / gL B b)).toInt = B.toInt * q := by rw [i64_mul (by rw [eb]; omega) (by rw [eb]; omega), eb]
  have m4 : (A * (b / gL B b) + x * (B / gL B b)).toInt = A.toInt * q + x.toInt * p := by rw [i64_add (by rw [m1, m2]; omega) (by rw [m1, m2]; omega), m1, m2]
  refine ⟨gL_ne0 b0, ⟨by rw [m3]; exact n0, by rw [m3]; exact ld, by rw [m3, m4]; exact sm⟩, by rw [m4]; omega⟩
end
