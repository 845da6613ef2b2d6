section
/-! sums of fractions in least terms, exactly -/
def fXx (A B : Int64) (v L : Int) : Prop := 0 < B.toInt ∧ B.toInt ∣ L ∧ A.toInt * L = v * B.toInt ∧ Nat.gcd A.toInt.natAbs B.toInt.natAbs = 1
theorem fx_put {a b : Int64} {v L : Int} (ha : -9223372036854775808 < a.toInt) (b0 : 0 < b.toInt) (bL' : b.toInt ∣ L) (e : a.toInt * L = v * b.toInt) : fXx (a / gL a b) (b / gL a b) v L := by
  obtain ⟨ge, g0⟩ := gL_toInt (a := a) b0
  obtain ⟨⟨p, hp⟩, ⟨q, hq⟩⟩ := gL_dvd (a := a) b0
  have eA : (a / gL a b).toInt = p := by rw [l_div ha g0, hp, Int.mul_tdiv_cancel_left _ (by omega)]
  have eB : (b / gL a b).toInt = q := by rw [l_div (by omega) g0, hq, Int.mul_tdiv_cancel_left _ (by omega)]
  have q0 : 0 < q := by
    have b1 := b0
    rw [hq] at b1
    exact Int.pos_of_mul_pos_left (by rw [Int.mul_comm]; exact b1) g0
  have ea : a.toInt.natAbs = Nat.gcd a.toInt.natAbs b.toInt.natAbs * p.natAbs := by
    have : a.toInt.natAbs = (gL a b).toInt.natAbs * p.natAbs := by rw [← Int.natAbs_mul, ← hp]
    rw [ge, Int.natAbs_natCast] at this
    exact this
  have eb : b.toInt.natAbs = Nat.gcd a.toInt.natAbs b.toInt.natAbs * q.natAbs := by
    have : b.toInt.natAbs = (gL a b).toInt.natAbs * q.natAbs := by rw [← Int.natAbs_mul, ← hq]
    rw [ge, Int.natAbs_natCast] at this
    exact this
  have g1 : 0 < Nat.gcd a.toInt.natAbs b.toInt.natAbs := by omega
  have e3 : Nat.gcd a.toInt.natAbs b.toInt.natAbs = Nat.gcd a.toInt.natAbs b.toInt.natAbs * Nat.gcd p.natAbs q.natAbs := by
    calc Nat.gcd a.toInt.natAbs b.toInt.natAbs = Nat.gcd (Nat.gcd a.toInt.natAbs b.toInt.natAbs * p.natAbs) (Nat.gcd a.toInt.natAbs b.toInt.natAbs * q.natAbs) := by rw [← ea, ← eb]
      _ = _ := Nat.gcd_mul_left _ _ _
  have c1 : 1 = Nat.gcd p.natAbs q.natAbs := Nat.eq_of_mul_eq_mul_left g1 ((Nat.mul_one _).trans e3)
  unfold fXx
  rw [eA, eB]
  refine ⟨q0, Int.dvd_trans ⟨(gL a b).toInt, by rw [hq, Int.mul_comm]⟩ bL', ?_, c1.symm⟩
  rw [hp, hq, Int.mul_assoc, Int.mul_left_comm v] at e
  exact Int.eq_of_mul_eq_mul_left (by omega) e
theorem f_addX {A B x b : Int64} {L τ c d v w : Int} (hL : 0 < L) (hL2 : L < 9223372036854775808) (hτ : 0 < τ) (hc : 0 ≤ c) (hd : 0 ≤ d) (big : (c + d) * L < 9223372036854775807 * τ) (f : fOk A B L τ c) (b0 : 0 < b.toInt) (bL' : b.toInt ∣ L) (hx : x.toInt.natAbs * τ ≤ d * b.toInt) (eA : A.toInt * L = v * B.toInt) (ex : x.toInt * L = w * b.toInt) : (A * (b / gL B b) + x * (B / gL B b)).toInt * L = (v + w) * (B * (b / gL B b)).toInt := by
  obtain ⟨B0, BL, AB⟩ := f
  obtain ⟨ge, g0⟩ := gL_toInt (a := B) b0
  obtain ⟨⟨p, hp⟩, ⟨q, hq⟩⟩ := gL_dvd (a := B) b0
  have eB : (B / gL B b).toInt = p := by rw [l_div (by omega) g0, hp, Int.mul_tdiv_cancel_left _ (by omega)]
  have eb : (b / gL B b).toInt = q := by rw [l_div (by omega) g0, hq, Int.mul_tdiv_cancel_left _ (by omega)]
  have p0 : 0 < p := Int.pos_of_mul_pos_left (b := (gL B b).toInt) (by rw [Int.mul_comm, ← hp]; exact B0) g0
  have q0 : 0 < q := Int.pos_of_mul_pos_left (b := (gL B b).toInt) (by rw [Int.mul_comm, ← hq]; exact b0) g0
  have ld : B.toInt * q ∣ L := f_lcm B0 b0 ge g0 hp hq BL bL'
  have n0 : 0 < B.toInt * q := Int.mul_pos B0 q0
  have nL : B.toInt * q ≤ L := Int.le_of_dvd hL ld
  have eN : b.toInt * p = B.toInt * q := by
    calc b.toInt * p = (gL B b).toInt * q * p := by rw [← hq]
      _ = (gL B b).toInt * p * q := by rw [Int.mul_assoc, Int.mul_comm q, ← Int.mul_assoc]
      _ = B.toInt * q := by rw [← hp]
  have s1 : (A.toInt * q).natAbs * τ ≤ c * (B.toInt * q) := f_scale (Int.le_of_lt q0) AB
  have s2 : (x.toInt * p).natAbs * τ ≤ d * (B.toInt * q) := by rw [← eN]; exact f_scale (Int.le_of_lt p0) hx
  have cd : ∀ e : Int, 0 ≤ e → e ≤ c + d → e * (B.toInt * q) < 9223372036854775807 * τ := fun e e0 e1 => by
    have h1 : e * (B.toInt * q) ≤ (c + d) * (B.toInt * q) := Int.mul_le_mul_of_nonneg_right e1 (Int.le_of_lt n0)
    have h2 : (c + d) * (B.toInt * q) ≤ (c + d) * L := Int.mul_le_mul_of_nonneg_left nL (by omega)
    omega
  have sm : (A.toInt * q + x.toInt * p).natAbs * τ ≤ (c + d) * (B.toInt * q) := by
    have h1 : ((A.toInt * q + x.toInt * p).natAbs : Int) ≤ (A.toInt * q).natAbs + (x.toInt * p).natAbs := by omega
    have h2 := Int.mul_le_mul_of_nonneg_right h1 (Int.le_of_lt hτ)
    rw [Int.add_mul] at h2 ⊢
    omega
  have lt : ∀ (v e : Int), v.natAbs * τ ≤ e * (B.toInt * q) → 0 ≤ e → e ≤ c + d → -9223372036854775807 < v ∧ v < 9223372036854775807 := fun v e h1 e0 e1 => by
    have h2 := cd e e0 e1
    have h3 : (v.natAbs : Int) < 9223372036854775807 := Int.lt_of_mul_lt_mul_right (Int.lt_of_le_of_lt h1 h2) (Int.le_of_lt hτ)
    omega
  have l1 := lt _ c s1 hc (by omega)
  have l2 := lt _ d s2 hd (by omega)
  have l3 := lt _ (c + d) sm (by omega) (Int.le_refl _)
  have m1 : (A * (b / gL B b)).toInt = A.toInt * q := by rw [i64_mul (by rw [eb]; omega) (by rw [eb]; omega), eb]
  have m2 : (x * (B / gL B b)).toInt = x.toInt * p := by rw [i64_mul (by rw [eB]; omega) (by rw [eB]; omega), eB]
  have m3 : (B * (b / gL B b)).toInt = B.toInt * q := by rw [i64_mul (by rw [eb]; omega) (by rw [eb]; omega), eb]
  have m4 : (A * (b / gL B b) + x * (B / gL B b)).toInt = A.toInt * q + x.toInt * p := by rw [i64_add (by rw [m1, m2]; omega) (by rw [m1, m2]; omega), m1, m2]
  have h1 : A.toInt * q * L = v * (B.toInt * q) := by
    calc A.toInt * q * L = A.toInt * L * q := by ac_rfl
      _ = v * B.toInt * q := by rw [eA]
      _ = v * (B.toInt * q) := Int.mul_assoc _ _ _
  have h2 : x.toInt * p * L = w * (B.toInt * q) := by
    calc x.toInt * p * L = x.toInt * L * p := by ac_rfl
      _ = w * b.toInt * p := by rw [ex]
      _ = w * (b.toInt * p) := Int.mul_assoc _ _ _
      _ = w * (B.toInt * q) := by rw [eN]
  rw [m3, m4, Int.add_mul, Int.add_mul, h1, h2]
/-- the answer: one side of v / L in least terms -/
def hopeV (v L : Int) (x : Int32) : Int64 := if x = 0 then Int64.ofInt (v / ((Nat.gcd v.natAbs L.natAbs : Nat) : Int)) else Int64.ofInt (L / ((Nat.gcd v.natAbs L.natAbs : Nat) : Int))
theorem fx_val {A B : Int64} {v L : Int} (hL : 0 < L) (f : fXx A B v L) : A = Int64.ofInt (v / ((Nat.gcd v.natAbs L.natAbs : Nat) : Int)) ∧ B = Int64.ofInt (L / ((Nat.gcd v.natAbs L.natAbs : Nat) : Int)) := by
  obtain ⟨B0, ⟨k, rfl⟩, e, cg⟩ := f
  have k0 : 0 < k := Int.pos_of_mul_pos_left (b := B.toInt) (by rw [Int.mul_comm]; exact hL) B0
  have ev : v = A.toInt * k := by
    have : A.toInt * k * B.toInt = v * B.toInt := by rw [← e]; ac_rfl
    exact (Int.eq_of_mul_eq_mul_right (by omega) this).symm
  have eg : Nat.gcd v.natAbs (B.toInt * k).natAbs = k.natAbs := by rw [ev, Int.natAbs_mul, Int.natAbs_mul, Nat.gcd_mul_right, cg, Nat.one_mul]
  have ek : ((k.natAbs : Nat) : Int) = k := Int.natAbs_of_nonneg (by omega)
  have kn : k ≠ 0 := by omega
  rw [eg, ek, ev, Int.mul_ediv_cancel _ kn, Int.mul_ediv_cancel _ kn, Int64.ofInt_toInt, Int64.ofInt_toInt]
  exact ⟨rfl, rfl⟩
theorem fx_side {A B : Int64} {v L : Int} {x : Int32} (hL : 0 < L) (f : fXx A B v L) : hopeV v L x = if x = 0 then A else B := by
  obtain ⟨e1, e2⟩ := fx_val hL f
  unfold hopeV
  rw [← e1, ← e2]
theorem fx_0 {L : Int} : fXx 0 1 0 L := ⟨by decide, ⟨L, by rw [show (1 : Int64).toInt = 1 from rfl, Int.one_mul]⟩, by rw [show (0 : Int64).toInt = 0 from rfl, Int.zero_mul, Int.zero_mul], by decide⟩
/-! sums -/
theorem sumI_split {f : Nat → Int} {a : Nat} : ∀ b, sumI f (a + b) = sumI f a + sumI (fun i => f (a + i)) b
  | 0 => (Int.add_zero _).symm
  | b + 1 => by
    show sumI f (a + b) + f (a + b) = sumI f a + (sumI (fun i => f (a + i)) b + f (a + b))
    rw [sumI_split b]; omega
theorem sumI_dig {H : Nat} (hH : 0 < H) (G : Nat → Nat → Int) : ∀ M, sumI (fun x => G (x % H) (x / H)) (H * M) = sumI (fun i => sumI (G i) M) H
  | 0 => by
    have e : ∀ n, sumI (fun i => sumI (G i) 0) n = 0 := fun n => by
      induction n with
      | zero => rfl
      | succ n ih => show sumI (fun i => sumI (G i) 0) n + 0 = 0; rw [ih]; rfl
    rw [e, Nat.mul_zero]; rfl
  | M + 1 => by
    rw [Nat.mul_succ, sumI_split, sumI_dig hH G M]
    have e : sumI (fun i => G ((H * M + i) % H) ((H * M + i) / H)) H = sumI (fun i => G i M) H := sumI_congr (fun i hi => by
      rw [Nat.mul_add_mod, Nat.mod_eq_of_lt hi, Nat.mul_add_div hH, Nat.div_eq_of_lt hi, Nat.add_zero])
    rw [e, ← sumI_add]
    rfl
/-! what is hoped -/
def mx0 (D : rD) (p : Nat) (b : Int32) : Int := (sp_me (dP D) (dpu D) (nI p) b).toInt
def mx1 (D : rD) (p : Nat) (b : Int32) (i : Nat) : Int := (sp_me (dP D) (fun p => dpu D p + sp_vl D p i) (nI p) b).toInt
def mx2 (D : rD) (p : Nat) (b : Int32) (i r : Nat) : Int := (sp_me (dP D) (fun p => dpu D p + sp_vl D p i + sp_vl D p r) (nI p) b).toInt
def pox (D : rD) (i : Nat) : Int32 := sp_po (dP D) (fun p => dpu D p + sp_vl D p i)
def wx0 (D : rD) (i : Nat) : Int := (sp_w D (rul D) i).toInt
def wx1 (D : rD) (i r : Nat) : Int := (sp_w D (pox D i) r).toInt
def tx0 (D : rD) : Int := (sp_t D (rul D)).toInt
def tx1 (D : rD) (i : Nat) : Int := (sp_t D (pox D i)).toInt
def ux0 (D : rD) : Int := sL D / tx0 D
def ux1 (D : rD) (i : Nat) : Int := sL D / (tx0 D * tx1 D i)
def fx1 (D : rD) (p : Nat) (b : Int32) (i : Nat) : Int := wx0 D i * mx1 D p b i
def fx2r (D : rD) (p : Nat) (b : Int32) (i r : Nat) : Int := wx1 D i r * mx2 D p b i r
def fx2 (D : rD) (p : Nat) (b : Int32) (i : Nat) : Int := wx0 D i * sumI (fx2r D p b i) (dH D) * ux1 D i
def gx2 (D : rD) (p : Nat) (b : Int32) (i r : Nat) : Int := wx0 D i * wx1 D i r * mx2 D p b i r * ux1 D i
def hvx (D : rD) (p n : Nat) (b : Int32) : Int := if n = 0 then mx0 D p b * sL D else if n = 1 then sumI (fx1 D p b) (dH D) * ux0 D else sumI (fx2 D p b) (dH D)
/-- a row of the reference -/
def rwx (D : rD) (p n : Nat) (b : Int32) (j : Nat) : Int := if n = 0 then mx0 D p b * sL D else if n = 1 then fx1 D p b (j % dH D) * ux0 D else gx2 D p b (j % dH D) (j / dH D % dH D)
def rwn (D : rD) (n : Nat) : Nat := if n = 0 then 1 else if n = 1 then dH D else dH D * dH D
theorem pox_ix {D : rD} (ok : rd_ok D) (hP : 0 < dP D) (i : Nat) : ∃ p, p < dP D ∧ pox D i = nI p := by
  have P6 := ok.2.1
  exact (po_ix (P := dP D) (pu := fun p => dpu D p + sp_vl D p i)).resolve_left (fun e => by unfold sp_po at e; rw [if_neg (by omega)] at e; exact nI_nm1 (by have := poo_le (fun p => dpu D p + sp_vl D p i) (dP D - 1); omega) e)
theorem ux0_e (D : rD) : sL D = tx0 D * ux0 D := (Int.mul_ediv_cancel' (Int.dvd_mul_right _ _)).symm
theorem tx1_dvd {D : rD} (ok : rd_ok D) (hP : 0 < dP D) (i : Nat) : tx0 D * tx1 D i ∣ sL D := by
  obtain ⟨pp, hpp, e⟩ := pox_ix ok hP i
  unfold tx1
  rw [e]
  exact Int.mul_dvd_mul_left _ (pT_dvd hpp)
theorem ux1_e {D : rD} (ok : rd_ok D) (hP : 0 < dP D) (i : Nat) : sL D = tx0 D * tx1 D i * ux1 D i := (Int.mul_ediv_cancel' (tx1_dvd ok hP i)).symm
theorem hvx_rows {D : rD} (ok : rd_ok D) (p n : Nat) (b : Int32) : sumI (rwx D p n b) (rwn D n) = hvx D p n b := by
  have H2 := ok.1.1
  unfold rwn hvx
  by_cases n0 : n = 0
  · rw [if_pos n0, if_pos n0]
    show 0 + rwx D p n b 0 = _
    unfold rwx
    rw [if_pos n0, Int.zero_add]
  · rw [if_neg n0, if_neg n0]
    by_cases n1 : n = 1
    · rw [if_pos n1, if_pos n1, Int.mul_comm, ← sumI_mul]
      refine sumI_congr (fun i hi => ?_)
      unfold rwx
      rw [if_neg n0, if_pos n1, Nat.mod_eq_of_lt hi, Int.mul_comm]
    · rw [if_neg n1, if_neg n1]
      have e1 : sumI (rwx D p n b) (dH D * dH D) = sumI (fun x => gx2 D p b (x % dH D) (x / dH D)) (dH D * dH D) := sumI_congr (fun i hi => by
        unfold rwx
        rw [if_neg n0, if_neg n1, Nat.mod_eq_of_lt (Nat.div_lt_of_lt_mul hi)])
      rw [e1, sumI_dig (by omega)]
      refine sumI_congr (fun i hi => ?_)
      show sumI (gx2 D p b i) (dH D) = wx0 D i * sumI (fx2r D p b i) (dH D) * ux1 D i
      rw [show wx0 D i * sumI (fx2r D p b i) (dH D) * ux1 D i = (wx0 D i * ux1 D i) * sumI (fx2r D p b i) (dH D) from by ac_rfl, ← sumI_mul]
      refine sumI_congr (fun r hr => ?_)
      unfold gx2 fx2r
      ac_rfl
end
