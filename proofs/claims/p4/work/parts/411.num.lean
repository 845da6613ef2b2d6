section
/-! numbers that stay in range -/
theorem i64_add {x y : Int64} (h1 : -9223372036854775808 ≤ x.toInt + y.toInt) (h2 : x.toInt + y.toInt < 9223372036854775808) : (x + y).toInt = x.toInt + y.toInt := by
  rw [Int64.toInt_add]; exact Int.bmod_eq_of_le (by omega) (by omega)
theorem i64_sub {x y : Int64} (h1 : -9223372036854775808 ≤ x.toInt - y.toInt) (h2 : x.toInt - y.toInt < 9223372036854775808) : (x - y).toInt = x.toInt - y.toInt := by
  rw [Int64.toInt_sub]; exact Int.bmod_eq_of_le (by omega) (by omega)
theorem i64_mul {x y : Int64} (h1 : -9223372036854775808 ≤ x.toInt * y.toInt) (h2 : x.toInt * y.toInt < 9223372036854775808) : (x * y).toInt = x.toInt * y.toInt := by
  rw [Int64.toInt_mul]; exact Int.bmod_eq_of_le (by omega) (by omega)
theorem i32_add {x y : Int32} (h1 : -2147483648 ≤ x.toInt + y.toInt) (h2 : x.toInt + y.toInt < 2147483648) : (x + y).toInt = x.toInt + y.toInt := by
  rw [Int32.toInt_add]; exact Int.bmod_eq_of_le (by omega) (by omega)
theorem i32_sub {x y : Int32} (h1 : -2147483648 ≤ x.toInt - y.toInt) (h2 : x.toInt - y.toInt < 2147483648) : (x - y).toInt = x.toInt - y.toInt := by
  rw [Int32.toInt_sub]; exact Int.bmod_eq_of_le (by omega) (by omega)
theorem i32_mul {x y : Int32} (h1 : -2147483648 ≤ x.toInt * y.toInt) (h2 : x.toInt * y.toInt < 2147483648) : (x * y).toInt = x.toInt * y.toInt := by
  rw [Int32.toInt_mul]; exact Int.bmod_eq_of_le (by omega) (by omega)
theorem i32_neg {x : Int32} (h1 : -2147483648 < x.toInt) : (-x).toInt = -x.toInt := by
  have := Int32.toInt_lt x
  rw [Int32.toInt_neg]; exact Int.bmod_eq_of_le (by omega) (by omega)
theorem i_64 (x : Int32) : x.toInt64.toInt = x.toInt := Int32.toInt_toInt64 x
theorem i_bd (x : Int32) : -2147483648 ≤ x.toInt ∧ x.toInt < 2147483648 := ⟨Int32.le_toInt x, Int32.toInt_lt x⟩
theorem i_inj {x y : Int32} (h : x.toInt = y.toInt) : x = y := Int32.toInt_inj.mp h
theorem i_lt {x y : Int32} : x < y ↔ x.toInt < y.toInt := Int32.lt_iff_toInt_lt
theorem i_le {x y : Int32} : x ≤ y ↔ x.toInt ≤ y.toInt := Int32.le_iff_toInt_le
/-- sums of numbers between a and b -/
theorem sumN_bd {f : Nat → Int32} {a b : Int} : ∀ {n : Nat}, (∀ i, i < n → a ≤ (f i).toInt ∧ (f i).toInt ≤ b) → a ≤ 0 → 0 ≤ b → -2147483648 ≤ a * n → b * n < 2147483648 → a * n ≤ (sumN f n).toInt ∧ (sumN f n).toInt ≤ b * n
  | 0, _, _, _, _, _ => by
    show a * ((0 : Nat) : Int) ≤ 0 ∧ 0 ≤ b * ((0 : Nat) : Int)
    simp
  | n + 1, h, ha, hb, h1, h2 => by
    have e1 : a * ((n + 1 : Nat) : Int) = a * n + a := by rw [Int.natCast_add, Int.mul_add]; simp
    have e2 : b * ((n + 1 : Nat) : Int) = b * n + b := by rw [Int.natCast_add, Int.mul_add]; simp
    rw [e1] at h1 ⊢
    rw [e2] at h2 ⊢
    have ih := sumN_bd (n := n) (fun i hi => h i (by omega)) ha hb (by omega) (by omega)
    have hn := h n (Nat.lt_succ_self n)
    show _ ≤ (sumN f n + f n).toInt ∧ (sumN f n + f n).toInt ≤ _
    rw [i32_add (by omega) (by omega)]
    omega
theorem sumL_bd {f : Nat → Int64} {a b : Int} : ∀ {n : Nat}, (∀ i, i < n → a ≤ (f i).toInt ∧ (f i).toInt ≤ b) → a ≤ 0 → 0 ≤ b → -9223372036854775808 ≤ a * n → b * n < 9223372036854775808 → a * n ≤ (sumL f n).toInt ∧ (sumL f n).toInt ≤ b * n
  | 0, _, _, _, _, _ => by
    show a * ((0 : Nat) : Int) ≤ 0 ∧ 0 ≤ b * ((0 : Nat) : Int)
    simp
  | n + 1, h, ha, hb, h1, h2 => by
    have e1 : a * ((n + 1 : Nat) : Int) = a * n + a := by rw [Int.natCast_add, Int.mul_add]; simp
    have e2 : b * ((n + 1 : Nat) : Int) = b * n + b := by rw [Int.natCast_add, Int.mul_add]; simp
    rw [e1] at h1 ⊢
    rw [e2] at h2 ⊢
    have ih := sumL_bd (n := n) (fun i hi => h i (by omega)) ha hb (by omega) (by omega)
    have hn := h n (Nat.lt_succ_self n)
    show _ ≤ (sumL f n + f n).toInt ∧ (sumL f n + f n).toInt ≤ _
    rw [i64_add (by omega) (by omega)]
    omega
/-- the lots' sums -/
theorem sp_lo_bd {D : rD} (ok : rd_ok D) (x y : Int32) : 0 ≤ (sp_lo D x y).toInt ∧ (sp_lo D x y).toInt ≤ 9 := by
  unfold sp_lo
  split
  · rename_i q
    rw [Bool.and_eq_true] at q
    obtain ⟨p, hp, rfl⟩ := sp_in_ix (by have := ok.2.1; omega) q.1
    obtain ⟨r, hr, rfl⟩ := sp_in_ix (by have := ok.1.2; omega) q.2
    have hH := ok.1.2
    have hP := ok.2.1
    rw [nI_clamp (by omega), nI_clamp (by omega)]
    exact ok.2.2.2.2.2.2 p r hp hr
  · decide
theorem sp_ws_bd {D : rD} (ok : rd_ok D) (x : Int32) : 0 ≤ (sp_ws D x).toInt ∧ (sp_ws D x).toInt ≤ 108 := by
  have hH := ok.1.2
  have := sumN_bd (f := fun q => sp_lo D x (nI q)) (a := 0) (b := 9) (n := dH D) (fun i _ => sp_lo_bd ok x (nI i)) (by decide) (by decide) (by omega) (by omega)
  unfold sp_ws
  omega
theorem sp_t_bd {D : rD} (ok : rd_ok D) (x : Int32) : 0 < (sp_t D x).toInt ∧ (sp_t D x).toInt ≤ 108 := by
  have h1 := sp_ws_bd ok x
  have hH := ok.1
  unfold sp_t
  split
  · rw [nI_toInt (by omega)]; omega
  · rename_i q
    have : (sp_ws D x).toInt ≠ 0 := fun e => q (i_inj e)
    omega
theorem sp_w_bd {D : rD} (ok : rd_ok D) (x : Int32) (q : Nat) : 0 ≤ (sp_w D x q).toInt ∧ (sp_w D x q).toInt ≤ 9 := by
  unfold sp_w
  split
  · decide
  · exact sp_lo_bd ok x (nI q)
/-- weighed sums of any ints stay in range -/
theorem sp_we_bd {P H : Nat} {vl : Nat → Nat → Int32} {w : Nat → Int32} {x : Int32} (hH : H ≤ 12) (hw : ∀ q, 0 ≤ (w q).toInt ∧ (w q).toInt ≤ 9) : -231928233984 ≤ (sp_we P H vl w x).toInt ∧ (sp_we P H vl w x).toInt ≤ 231928233984 := by
  have key : ∀ q, -19327352832 ≤ ((w q).toInt64 * (sp_br P H vl x (nI q)).toInt64).toInt ∧ ((w q).toInt64 * (sp_br P H vl x (nI q)).toInt64).toInt ≤ 19327352832 := by
    intro q
    have h1 := hw q
    have h2 := i_bd (sp_br P H vl x (nI q))
    have e1 := i_64 (w q)
    have e2 := i_64 (sp_br P H vl x (nI q))
    generalize (sp_br P H vl x (nI q)).toInt = v at h2 e2
    generalize (w q).toInt = u at h1 e1
    have m1 : u * v ≤ 19327352832 := by
      rcases Int.le_total 0 v with hv | hv
      · have := Int.mul_le_mul_of_nonneg_right (a := u) (b := 9) (c := v) h1.2 hv
        omega
      · have := Int.mul_nonneg h1.1 (Int.neg_nonneg_of_nonpos hv)
        rw [Int.mul_neg] at this
        omega
    have m2 : -19327352832 ≤ u * v := by
      rcases Int.le_total 0 v with hv | hv
      · have := Int.mul_nonneg h1.1 hv
        omega
      · have := Int.mul_le_mul_of_nonneg_right (a := u) (b := 9) (c := -v) h1.2 (Int.neg_nonneg_of_nonpos hv)
        rw [Int.mul_neg] at this
        omega
    rw [i64_mul (by rw [e1, e2]; omega) (by rw [e1, e2]; omega), e1, e2]
    omega
  have := sumL_bd (f := fun q => (w q).toInt64 * (sp_br P H vl x (nI q)).toInt64) (a := -19327352832) (b := 19327352832) (n := H) (fun i _ => key i) (by decide) (by decide) (by omega) (by omega)
  unfold sp_we
  omega
end
