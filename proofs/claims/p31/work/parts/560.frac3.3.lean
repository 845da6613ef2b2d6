section
section
/-! sums of fractions in least terms, exactly -/
def fXx (A B : Int64) (v L : Int) : Prop := 0 < B.toInt ∧ B.toInt ∣ L ∧ A.toInt * L = v * B.toInt ∧ Nat.gcd A.toInt.natAbs B.toInt.natAbs = 1
theorem fx_put {a b : Int64} {v L : Int} (ha : -9223372036854775808 < a.toInt) (b0 : 0 < b.toInt) (bL' : b.toInt ∣ L) (e : a.toInt * L = v * b.toInt) : fXx (a / gL a b) (b / gL a b) v L := by
  obtain ⟨ge, g0⟩ := gL_toInt (a := a) b0
  obtain ⟨⟨p, hp⟩, ⟨q, hq⟩⟩ := gL_dvd (a := a) b0
  have eA : (a / gL a b).toInt = p := by rw [l_div ha g0, hp, Int.mul_tdiv_cancel_left _ (by omega)]
  have eB : (b / gL a b).toInt = q := by rw [l_div (by omega) g0, hq, Int.mul_tdiv_cancel_left _ (by omega)]
  have q0 : 0 < q := by
    have b1 := b0
    rw [hq] at b1
    exact Int.pos_of_mul_pos_left (by rw [Int.mul_comm]; exact b1) g0
  have ea : a.toInt.natAbs = Nat.gcd a.toInt.natAbs b.toInt.natAbs * p.natAbs := by
    have : a.toInt.natAbs = (gL a b).toInt.natAbs * p.natAbs := by rw [← Int.natAbs_mul, ← hp]
    rw [ge, Int.natAbs_natCast] at this
    exact this
  have eb : b.toInt.natAbs = Nat.gcd a.toInt.natAbs b.toInt.natAbs * q.natAbs := by
    have : b.toInt.natAbs = (gL a b).toInt.natAbs * q.natAbs := by rw [← Int.natAbs_mul, ← hq]
    rw [ge, Int.natAbs_natCast] at this
    exact this
  have g1 : 0 < Nat.gcd a.toInt.natAbs b.toInt.natAbs := by omega
  have e3 : Nat.gcd a.toInt.natAbs b.toInt.natAbs = Nat.gcd a.toInt.natAbs b.toInt.natAbs * Nat.gcd p.natAbs q.natAbs := by
    calc Nat.gcd a.toInt.natAbs b.toInt.natAbs = Nat.gcd (Nat.gcd a.toInt.natAbs b.toInt.natAbs * p.natAbs) (Nat.gcd a.toInt.natAbs b.toInt.natAbs * q.natAbs) := by rw [← ea, ← eb]
      _ = _ := Nat.gcd_mul_left _ _ _
  have c1 : 1 = Nat.gcd p.natAbs q.natAbs := Nat.eq_of_mul_eq_mul_left g1 ((Nat.mul_one _).trans e3)
  unfold fXx
  rw [eA, eB]
  refine ⟨q0, Int.dvd_trans ⟨(gL a b).toInt, by rw [hq, Int.mul_comm]⟩ bL', ?_, c1.symm⟩
  rw [hp, hq, Int.mul_assoc, Int.mul_left_comm v] at e
  exact Int.eq_of_mul_eq_mul_left (by omega) e
theorem f_addX {A B x b : Int64} {L τ c d v w : Int} (hL : 0 < L) (hL2 : L < 9223372036854775808) (hτ : 0 < τ) (hc : 0 ≤ c) (hd : 0 ≤ d) (big : (c + d) * L < 9223372036854775807 * τ) (f : fOk A B L τ c) (b0 : 0 < b.toInt) (bL' : b.toInt ∣ L) (hx : x.toInt.natAbs * τ ≤ d * b.toInt) (eA : A.toInt * L = v * B.toInt) (ex : x.toInt * L = w * b.toInt) : (A * (b / gL B b) + x * (B / gL B b)).toInt * L = (v + w) * (B * (b / gL B b)).toInt := by
  obtain ⟨B0, BL, AB⟩ := f
  obtain ⟨ge, g0⟩ := gL_toInt (a := B) b0
  obtain ⟨⟨p, hp⟩, ⟨q, hq⟩⟩ := gL_dvd (a := B) b0
  have eB : (B / gL B b).toInt = p := by rw [l_div (by omega) g0, hp, Int.mul_tdiv_cancel_left _ (by omega)]
  have eb : (b / gL B b).toInt = q := by rw [l_div (by omega) g0, hq, Int.mul_tdiv_cancel_left _ (by omega)]
  have p0 : 0 < p := Int.pos_of_mul_pos_left (b := (gL B b).toInt) (by rw [Int.mul_comm, ← hp]; exact B0) g0
  have q0 : 0 < q := Int.pos_of_mul_pos_left (b := (gL B b).toInt) (by rw [Int.mul_comm, ← hq]; exact b0) g0
  have ld : B.toInt * q ∣ L := f_lcm B0 b0 ge g0 hp hq BL bL'
  have n0 : 0 < B.toInt * q := Int.mul_pos B0 q0
  have nL : B.toInt * q ≤ L := Int.le_of_dvd hL ld
  have eN : b.toInt * p = B.toInt * q := by
    calc b.toInt * p = (gL B b).toInt * q * p := by rw [← hq]
      _ = (gL B b).toInt * p * q := by rw [Int.mul_assoc, Int.mul_comm q, ← Int.mul_assoc]
      _ = B.toInt * q := by rw [← hp]
  have s1 : (A.toInt * q).natAbs * τ ≤ c * (B.toInt * q) := f_scale (Int.le_of_lt q0) AB
  have s2 : (x.toInt * p).natAbs * τ ≤ d * (B.toInt * q) := by rw [← eN]; exact f_scale (Int.le_of_lt p0) hx
  have cd : ∀ e : Int, 0 ≤ e → e ≤ c + d → e * (B.toInt * q) < 9223372036854775807 * τ := fun e e0 e1 => by
    have h1 : e * (B.toInt * q) ≤ (c + d) * (B.toInt * q) := Int.mul_le_mul_of_nonneg_right e1 (Int.le_of_lt n0)
    have h2 : (c + d) * (B.toInt * q) ≤ (c + d) * L := Int.mul_le_mul_of_nonneg_left nL (by omega)
    omega
  have sm : (A.toInt * q + x.toInt * p).natAbs * τ ≤ (c + d) * (B.toInt * q) := by
    have h1 : ((A.toInt * q + x.toInt * p).natAbs : Int) ≤ (A.toInt * q).natAbs + (x.toInt * p).natAbs := by omega
    have h2 := Int.mul_le_mul_of_nonneg_right h1 (Int.le_of_lt hτ)
    rw [Int.add_mul] at h2 ⊢
    omega
  have lt : ∀ (v e : Int), v.natAbs * τ ≤ e * (B.toInt * q) → 0 ≤ e → e ≤ c + d → -9223372036854775807 < v ∧ v < 9223372036854775807 := fun v e h1 e0 e1 => by
    have h2 := cd e e0 e1
    have h3 : (v.natAbs : Int) < 9223372036854775807 := Int.lt_of_mul_lt_mul_right (Int.lt_of_le_of_lt h1 h2) (Int.le_of_lt hτ)
    omega
  have l1 := lt _ c s1 hc (by omega)
  have l2 := lt _ d s2 hd (by omega)
  have l3 := lt _ (c + d) sm (by omega) (Int.le_refl _)
  have m1 : (A * (b / gL B b)).toInt = A.toInt * q := by rw [i64_mul (by rw [eb]; omega) (by rw [eb]; omega), eb]
  have m2 : (x * (B / gL B b)).toInt = x.toInt * p := by rw [i64_mul (by rw [eB]; omega) (by rw [eB]; omega), eB]
  have m3 : (B * (b / gL B b)).toInt = B.toInt * q := by rw [i64_mul (by rw [eb]; omega) (by rw [eb]; omega), eb]
  have m4 : (A * (b / gL B b) + x * (B / gL B b)).toInt = A.toInt * q + x.toInt * p := by rw [i64_add (by rw [m1, m2]; omega) (by rw [m1, m2]; omega), m1, m2]
  have h1 : A.toInt * q * L = v * (B.toInt * q) := by
    calc A.toInt * q * L = A.toInt * L * q := by ac_rfl
      _ = v * B.toInt * q := by rw [eA]
      _ = v * (B.toInt * q) := Int.mul_assoc _ _ _
  have h2 : x.toInt * p * L = w * (B.toInt * q) := by
    calc x.toInt * p * L = x.toInt * L * p := by ac_rfl
      _ = w * b.toInt * p := by rw [ex]
      _ = w * (b.toInt * p) := Int.mul_assoc _ _ _
      _ = w * (B.toInt * q) := by rw [eN]
  rw [m3, m4, Int.add_mul, Int.add_mul, h1, h2]
/-- the answer: one side of v / L in least terms -/
def hopeV (v L : Int) (x : Int32) : Int64 := if x = 0 then Int64.ofInt (v / ((Nat.gcd v.natAbs L.natAbs : Nat) : Int)) else Int64.ofInt (L / ((Nat.gcd v.natAbs L.natAbs : Nat) : Int))
theorem fx_val {A B : Int64} {v L : Int} (hL : 0 < L) (f : fXx A B v L) : A = Int64.ofInt (v / ((Nat.gcd v.natAbs L.natAbs : Nat) : Int)) ∧ B = Int64.ofInt (L / ((Nat.gcd v.natAbs L.natAbs : Nat) : Int)) := by
  obtain ⟨B0, ⟨k, rfl⟩, e, cg⟩ := f
  have k0 : 0 < k := Int.pos_of_mul_pos_left (b := B.toInt) (by rw [Int.mul_comm]; exact hL) B0
  have ev : v = A.toInt * k := by
    have : A.toInt * k * B.toInt = v * B.toInt := by rw [← e]; ac_rfl
    exact (Int.eq_of_mul_eq_mul_right (by omega) this).symm
  have eg : Nat.gcd v.natAbs (B.toInt * k).natAbs = k.natAbs := by rw [ev, Int.natAbs_mul, Int.natAbs_mul, Nat.gcd_mul_right, cg, Nat.one_mul]
  have ek : ((k.natAbs : Nat) : Int) = k := Int.natAbs_of_nonneg (by omega)
  have kn : k ≠ 0 := by omega
  rw [eg, ek, ev, Int.mul_ediv_cancel _ kn, Int.mul_ediv_cancel _ kn, Int64.ofInt_toInt, Int64.ofInt_toInt]
  exact ⟨rfl, rfl⟩
theorem fx_side {A B : Int64} {v L : Int} {x : Int32} (hL : 0 < L) (f : fXx A B v L) : hopeV v L x = if x = 0 then A else B := by
  obtain ⟨e1, e2⟩ := fx_val hL f
  unfold hopeV
  rw [← e1, ← e2]
theorem fx_0 {L : Int} : fXx 0 1 0 L := ⟨by decide, ⟨L, by rw [show (1 : Int64).toInt = 1 from rfl, Int.one_mul]⟩, by rw [show (0 : Int64).toInt = 0 from rfl, Int.zero_mul, Int.zero_mul], by decide⟩
/-! sums -/
theorem sumI_split {f : Nat → Int} {a : Nat} : ∀ b, sumI f (a + b) = sumI f a + sumI (fun i => f (a + i)) b
  | 0 => (Int.add_zero _).symm
  | b + 1 => by
    show sumI f (a + b) + f (a + b) = sumI f a + (sumI (fun i => f (a + i)) b + f (a + b))
    rw [sumI_split b]; omega
theorem sumI_dig {H : Nat} (hH : 0 < H) (G : Nat → Nat → Int) : ∀ M, sumI (fun x => G (x % H) (x / H)) (H * M) = sumI (fun i => sumI (G i) M) H
  | 0 => by
    have e : ∀ n, sumI (fun i => sumI (G i) 0) n = 0 := fun n => by
      induction n with
      | zero => rfl
      | succ n ih => show sumI (fun i => sumI (G i) 0) n + 0 = 0; rw [ih]; rfl
    rw [e, Nat.mul_zero]; rfl
  | M + 1 => by
    rw [Nat.mul_succ, sumI_split, sumI_dig hH G M]
    have e : sumI (fun i => G ((H * M + i) % H) ((H * M + i) / H)) H = sumI (fun i => G i M) H := sumI_congr (fun i hi => by
      rw [Nat.mul_add_mod, Nat.mod_eq_of_lt hi, Nat.mul_add_div hH, Nat.div_eq_of_lt hi, Nat.add_zero])
    rw [e, ← sumI_add]
    rfl
/-! what is hoped -/
def mx0 (D : rD) (p : Nat) (b : Int32) : Int := (sp_me (dP D) (dpu D) (nI p) b).toInt
def mx1 (D : rD) (p : Nat) (b : Int32) (i : Nat) : Int := (sp_me (dP D) (fun p => dpu D p + sp_vl D p i) (nI p) b).toInt
def mx2 (D : rD) (p : Nat) (b : Int32) (i r : Nat) : Int := (sp_me (dP D) (fun p => dpu D p + sp_vl D p i + sp_vl D p r) (nI p) b).toInt
def pox (D : rD) (i : Nat) : Int32 := sp_po (dP D) (fun p => dpu D p + sp_vl D p i)
def wx0 (D : rD) (i : Nat) : Int := (sp_w D (rul D) i).toInt
def wx1 (D : rD) (i r : Nat) : Int := (sp_w D (pox D i) r).toInt
def tx0 (D : rD) : Int := (sp_t D (rul D)).toInt
def tx1 (D : rD) (i : Nat) : Int := (sp_t D (pox D i)).toInt
def ux0 (D : rD) : Int := sL D / tx0 D
def ux1 (D : rD) (i : Nat) : Int := sL D / (tx0 D * tx1 D i)
def fx1 (D : rD) (p : Nat) (b : Int32) (i : Nat) : Int := wx0 D i * mx1 D p b i
def fx2r (D : rD) (p : Nat) (b : Int32) (i r : Nat) : Int := wx1 D i r * mx2 D p b i r
def fx2 (D : rD) (p : Nat) (b : Int32) (i : Nat) : Int := wx0 D i * sumI (fx2r D p b i) (dH D) * ux1 D i
def gx2 (D : rD) (p : Nat) (b : Int32) (i r : Nat) : Int := wx0 D i * wx1 D i r * mx2 D p b i r * ux1 D i
def hvx (D : rD) (p n : Nat) (b : Int32) : Int := if n = 0 then mx0 D p b * sL D else if n = 1 then sumI (fx1 D p b) (dH D) * ux0 D else sumI (fx2 D p b) (dH D)
/-- a row of the reference -/
def rwx (D : rD) (p n : Nat) (b : Int32) (j : Nat) : Int := if n = 0 then mx0 D p b * sL D else if n = 1 then fx1 D p b (j % dH D) * ux0 D else gx2 D p b (j % dH D) (j / dH D % dH D)
def rwn (D : rD) (n : Nat) : Nat := if n = 0 then 1 else if n = 1 then dH D else dH D * dH D
theorem pox_ix {D : rD} (ok : rd_ok D) (hP : 0 < dP D) (i : Nat) : ∃ p, p < dP D ∧ pox D i = nI p := by
  have P6 := ok.2.1
  exact (po_ix (P := dP D) (pu := fun p => dpu D p + sp_vl D p i)).resolve_left (fun e => by unfold sp_po at e; rw [if_neg (by omega)] at e; exact nI_nm1 (by have := poo_le (fun p => dpu D p + sp_vl D p i) (dP D - 1); omega) e)
theorem ux0_e (D : rD) : sL D = tx0 D * ux0 D := (Int.mul_ediv_cancel' (Int.dvd_mul_right _ _)).symm
theorem tx1_dvd {D : rD} (ok : rd_ok D) (hP : 0 < dP D) (i : Nat) : tx0 D * tx1 D i ∣ sL D := by
  obtain ⟨pp, hpp, e⟩ := pox_ix ok hP i
  unfold tx1
  rw [e]
  exact Int.mul_dvd_mul_left _ (pT_dvd hpp)
theorem ux1_e {D : rD} (ok : rd_ok D) (hP : 0 < dP D) (i : Nat) : sL D = tx0 D * tx1 D i * ux1 D i := (Int.mul_ediv_cancel' (tx1_dvd ok hP i)).symm
theorem hvx_rows {D : rD} (ok : rd_ok D) (p n : Nat) (b : Int32) : sumI (rwx D p n b) (rwn D n) = hvx D p n b := by
  have H2 := ok.1.1
  unfold rwn hvx
  by_cases n0 : n = 0
  · rw [if_pos n0, if_pos n0]
    show 0 + rwx D p n b 0 = _
    unfold rwx
    rw [if_pos n0, Int.zero_add]
  · rw [if_neg n0, if_neg n0]
    by_cases n1 : n = 1
    · rw [if_pos n1, if_pos n1, Int.mul_comm, ← sumI_mul]
      refine sumI_congr (fun i hi => ?_)
      unfold rwx
      rw [if_neg n0, if_pos n1, Nat.mod_eq_of_lt hi, Int.mul_comm]
    · rw [if_neg n1, if_neg n1]
      have e1 : sumI (rwx D p n b) (dH D * dH D) = sumI (fun x => gx2 D p b (x % dH D) (x / dH D)) (dH D * dH D) := sumI_congr (fun i hi => by
        unfold rwx
        rw [if_neg n0, if_neg n1, Nat.mod_eq_of_lt (Nat.div_lt_of_lt_mul hi)])
      rw [e1, sumI_dig (by omega)]
      refine sumI_congr (fun i hi => ?_)
      show sumI (gx2 D p b i) (dH D) = wx0 D i * sumI (fx2r D p b i) (dH D) * ux1 D i
      rw [show wx0 D i * sumI (fx2r D p b i) (dH D) * ux1 D i = (wx0 D i * ux1 D i) * sumI (fx2r D p b i) (dH D) from by ac_rfl, ← sumI_mul]
      refine sumI_congr (fun r hr => ?_)
      unfold gx2 fx2r
      ac_rfl
end
end

section
section
variable {g : ax_G} {Ret : Option Value → ax_H → Prop} {h : ax_H} {z : Nat → Nat} {DD : Nat → rD} {N : Nat → Nat → Nat} {C : Nat → Nat → Nat → Nat → Int32} {S : sT} {Im : Nat → Option sT} {tp : Nat → Nat} {B : Nat}
/-! HOPE and DOOM of the class, exactly -/
theorem c_add76E {x b : Int64} {L τ c d v w : Int} (s1 : (ax_s h 76).1 = 1) (hL : 0 < L) (hL2 : L < 9223372036854775808) (hτ : 0 < τ) (hc : 0 ≤ c) (hd : 0 ≤ d) (big : (c + d) * L < 9223372036854775807 * τ) (f : fOk (ax_l h 76 0) (ax_l h 76 1) L τ c) (b0 : 0 < b.toInt) (bL' : b.toInt ∣ L) (hx : x.toInt.natAbs * τ ≤ d * b.toInt) (eA : (ax_l h 76 0).toInt * L = v * (ax_l h 76 1).toInt) (ex : x.toInt * L = w * b.toInt) (hq : ∀ h', ax_same (fun x => x = 76) h h' → fOk (ax_l h' 76 0) (ax_l h' 76 1) L τ (c + d) → fXx (ax_l h' 76 0) (ax_l h' 76 1) (v + w) L → Ret none h') : mX1_add g [.ref 76, .long x, .long b] h Ret := by
  obtain ⟨n0, f1, bg⟩ := f_add hL hL2 hτ hc hd big f b0 bL' hx
  have fx := f_addX hL hL2 hτ hc hd big f b0 bL' hx eA ex
  refine eX1_add ⟨s1, c_divisor (by have := f.1; omega) b0 ⟨_, rfl, n0, s1, s1, n0, s1, s1, c_put76 s1 bg f1.1 (fun h2 s2 e0 e1 => ⟨rfl, hq h2 s2 ?_ ?_⟩)⟩⟩
  · rw [e0, e1]; exact f_put bg f1
  · rw [e0, e1]; exact fx_put bg f1.1 f1.2.1 fx
theorem c_nextDayE {o p r : Nat} {D : rD} {hv : Nat → Int32} {W : Nat → Nat} {t x : Int32} {b : Int} (ok : rd_ok D) (ho : o = 55 ∨ o = 57) (xs : xs_st h) (rc : rc_at h r D) (hr : r + 6 ≤ 52) (co : co_at h 52 (dP D) (dH D) hv (sp_vl D)) (od : od_at h o (dH D) (fun q => nI (W q)) t) (hW : ∀ q, W q ≤ 9) (hp : p < dP D) (b1 : 1 ≤ b) (b2 : b ≤ 100000) (hb : ∀ q, q < dH D → hB b (dP D) (fun p => hv p + sp_vl D p q)) (hq : ∀ v h', ax_same (fun a => a = 53) h h' → co_at h' 52 (dP D) (dH D) hv (sp_vl D) → bL (b * (sNn W (dH D) : Int)) v → v.toInt = sumI (fun r => (W r : Int) * (sp_me (dP D) (fun p => hv p + sp_vl D p r) (nI p) x).toInt) (dH D) → Ret (some (.long v)) h') : mX9_nextDay g [.ref 0, .ref r, .ref o, .int (nI p), .int x] h Ret := by
  have H12 := ok.1.2
  have s9 := sN_9 hW
  have bl : ∀ n : Nat, n ≤ 12 → b * (sNn W n : Int) ≤ 10800000 := fun n hn => by
    have h1 : (sNn W n : Int) ≤ 108 := by have := s9 n; omega
    have h2 : b * (sNn W n : Int) ≤ 100000 * (sNn W n : Int) := Int.mul_le_mul_of_nonneg_right b2 (by omega)
    omega
  refine uX9_nextDay (fun A hA => vX9_nextDay_0 hA ?_)
  have key : ∀ f i : Nat, i + f = dH D → ∀ hh, ax_same (fun a => a = 53) h hh → co_at hh 52 (dP D) (dH D) hv (sp_vl D) → ∀ x5 : Int64, bL (b * (sNn W i : Int)) x5 → x5.toInt = sumI (fun r => (W r : Int) * (sp_me (dP D) (fun p => hv p + sp_vl D p r) (nI p) x).toInt) i → A (6, [some (.ref 0), some (.ref r), some (.ref o), some (.int (nI p)), some (.int x), some (.long x5), none, some (.int (nI i))], [], hh, 0, 0) := by
    intro f
    induction f with
    | zero =>
      intro i hi hh s c x5 b5 e5
      have rc1 := rc_at_same s (fun j hj q => by omega) rc
      have ei : dH D = i := by omega
      refine vX9_nextDay_6 hA ⟨rc1.1.1, fun _ => hq _ hh s c (by rw [ei]; exact b5) (by rw [ei]; exact e5), fun q => ?_⟩
      rw [rc1.2.2.1.1] at q; exact absurd (nI_le (by omega) (by omega)) q
    | succ f ih =>
      intro i hi hh s c x5 b5 e5
      have rc1 := rc_at_same s (fun j hj q => by omega) rc
      have x1 := xs_st_same s xs
      have iH : i < dH D := by omega
      refine vX9_nextDay_6 hA ⟨rc1.1.1, fun q => ?_, fun _ => ⟨x1.1, _, x1.2.1.2.2.2.1, c.1.1, c_live c (fun h2 s2 c2' => ⟨rfl, ?_⟩)⟩⟩
      · rw [rc1.2.2.1.1] at q; exact absurd q (nI_ge (by omega) (by omega))
      · have c2 : co_at h2 52 (dP D) (dH D) (fun p => hv p + sp_vl D p i) (sp_vl D) := co_congr c2' (fun p hp => by rw [sp_br_in hp iH ok.2.1 ok.1.2])
        have x2 := xs_st_same s2 x1
        have od2 := od_at_same (sm_tr s s2) (by omega) od
        refine ⟨od2.1.1, _, od2.1.2.1, by rw [od2.1.2.2], by rw [od2.1.2.2]; exact vp_in_nI (by omega) (by decide), x2.1, _, x2.2.1.2.2.2.1, c2.1.1, c_measure c2 ⟨_, rfl, x2.1, _, x2.2.1.2.2.2.1, c2.1.1, c_unlive c2 (fun h3 s3 c3 => ⟨rfl, ?_⟩)⟩⟩
        rw [nI_clamp (by omega), od2.2.2.2.2 i (by omega), ← nI_succ]
        have c4 : co_at h3 52 (dP D) (dH D) hv (sp_vl D) := co_congr c3 (fun p hp => by rw [sp_br_in hp iH ok.2.1 ok.1.2]; exact Int32.add_sub_cancel _ _)
        have mb := me_bd (x := x) b1 ok.2.1 hp (hb i (by omega))
        have bi := bl i (by omega)
        have w9 := hW i
        have eW : (nI (W i)).toInt = (W i : Int) := nI_toInt (by omega)
        have mm : (W i : Int) * b ≤ 900000 := by have : (W i : Int) * b ≤ 9 * b := Int.mul_le_mul_of_nonneg_right (by omega) (by omega); omega
        have m1 := bL_mul (a := (W i : Int)) (b := b) (by omega) (by omega) (bL_32 (x := nI (W i)) (by rw [eW]; omega)) (bL_32 mb) (by omega)
        have ab := abs_mul (a := 9) (b := 100000) (x := (W i : Int)) (y := (sp_me (dP D) (fun p => hv p + sp_vl D p i) (nI p) x).toInt) (by decide) (by decide) (by omega) (by omega)
        have e1 : ((nI (W i)).toInt64 * (sp_me (dP D) (fun p => hv p + sp_vl D p i) (nI p) x).toInt64).toInt = (W i : Int) * (sp_me (dP D) (fun p => hv p + sp_vl D p i) (nI p) x).toInt := by
          rw [i64_mul (by rw [i_64, i_64, eW]; omega) (by rw [i_64, i_64, eW]; omega), i_64, i_64, eW]
        refine ih (i + 1) (by omega) h3 (sm_tr s (sm_tr s2 s3)) c4 _ ?_ ?_
        · refine bL_mono (bL_add b5 m1 (by omega)) ?_
          show b * (sNn W i : Int) + (W i : Int) * b ≤ b * ((sNn W i + W i : Nat) : Int)
          rw [Int.natCast_add, Int.mul_add, Int.mul_comm (W i : Int)]
          exact Int.le_refl _
        · show _ = sumI (fun r => (W r : Int) * (sp_me (dP D) (fun p => hv p + sp_vl D p r) (nI p) x).toInt) i + (W i : Int) * (sp_me (dP D) (fun p => hv p + sp_vl D p i) (nI p) x).toInt
          unfold bL at b5
          rw [i64_add (by rw [e1]; omega) (by rw [e1]; omega), e1, e5]
  exact key (dH D) 0 (by omega) h sm_rf co _ (by show bL (b * 0) 0; rw [Int.mul_zero]; unfold bL; decide) rfl
/-- the place: republic, person, days -/
def hG (z : Nat → Nat) (DD : Nat → rD) (x1 x2 x3 : Int32) (t : Nat × Nat × Nat) : Prop := t.1 < z 0 ∧ x1 = nI t.1 ∧ t.2.1 < dP (DD t.1) ∧ x2 = nI t.2.1 ∧ t.2.2 ≤ 2 ∧ x3 = nI t.2.2
def hVl (DD : Nat → rD) (b x4 : Int32) (t : Nat × Nat × Nat) : Int64 := hopeV (hvx (DD t.1) t.2.1 t.2.2 b) (sL (DD t.1)) x4
theorem hG_u {x1 x2 x3 : Int32} {t t' : Nat × Nat × Nat} (K : tk z DD N C) (a : hG z DD x1 x2 x3 t) (b : hG z DD x1 x2 x3 t') : t' = t := by
  obtain ⟨k, p, n⟩ := t
  obtain ⟨k', p', n'⟩ := t'
  obtain ⟨a1, a2, a3, a4, a5, a6⟩ := a
  obtain ⟨b1, b2, b3, b4, b5, b6⟩ := b
  change k < z 0 at a1
  change k' < z 0 at b1
  change p < dP (DD k) at a3
  change p' < dP (DD k') at b3
  change n ≤ 2 at a5
  change n' ≤ 2 at b5
  have z2 := K.1 0 (by decide)
  have P6 := (K.2.1 k a1).2.1
  have P6' := (K.2.1 k' b1).2.1
  have e1 : k' = k := (nI_eq (by omega) (by omega)).mp (b2.symm.trans a2)
  have e2 : p' = p := (nI_eq (by omega) (by omega)).mp (b4.symm.trans a4)
  have e3 : n' = n := (nI_eq (by omega) (by omega)).mp (b6.symm.trans a6)
  rw [e1, e2, e3]
theorem c_expectedE {x1 x2 x3 x4 : Int32} (a : tc h z DD N C) (h0 : ∀ h', ax_same cl_F h h' → (∀ t, ¬ hG z DD x1 x2 x3 t) → Ret (some (.int 0)) h') (h1 : ∀ t h', hG z DD x1 x2 x3 t → ax_same cl_F h h' → fXx (ax_l h' 76 0) (ax_l h' 76 1) (hvx (DD t.1) t.2.1 t.2.2 x4) (sL (DD t.1)) → Ret (some (.int 1)) h') : mX9_expected g [.ref 0, .int x1, .int x2, .int x3, .int x4] h Ret := by
  have z2 := a.2.2.2.2.1 0 (by decide)
  refine uX9_expected (fun A hA => vX9_expected_0 hA ⟨a.1.1, q_begun a (fun q => Or.inr ⟨rfl, Or.inl rfl, h0 h sm_rf (fun t G => in_no q z2 G.1 G.2.1)⟩) (fun k hk ex ok h' hs xs hc => Or.inl ⟨_, rfl, hc.1.1.1, c_hasPerson hc.1 ⟨_, rfl, fun qp => ⟨Or.inl rfl, h0 h' hs (fun t G => ?_)⟩, fun qp => ⟨fun q3 => ⟨Or.inl rfl, h0 h' hs (fun t G => ?_)⟩, fun q3 => ⟨fun q4 => ⟨xs.1, _, xs.2.1.2.2.2.2.2.2.2.2, xs.2.2.2.2.2, c_put76 xs.2.2.2.2.2 (by decide) (by decide) (fun h2 s2 e0 e1 => ⟨rfl, ?_⟩)⟩, fun q4 => ⟨Or.inl rfl, h0 h' hs (fun t G => ?_)⟩⟩⟩⟩⟩)⟩)
  · obtain ⟨k', p', n'⟩ := t
    obtain ⟨g1, g2, g3, g4, g5, g6⟩ := G
    have e1 : k' = k := (nI_eq (by omega) (by omega)).mp (g2.symm.trans ex)
    subst e1
    change p' < dP (DD k') at g3
    rw [g4, sp_in_nI (by have := ok.2.1; omega) g3] at qp
    exact absurd qp (by decide)
  · obtain ⟨k', p', n'⟩ := t
    obtain ⟨g1, g2, g3, g4, g5, g6⟩ := G
    rw [g6] at q3
    exact nI_pos (by omega) q3
  · have H12 := ok.1.2
    have P6 := ok.2.1
    have k2 : k < 2 := by omega
    obtain ⟨p, hp, rfl⟩ := sp_in_ix (by omega) (b2i_n0.mp qp)
    obtain ⟨n, -, hn, rfl⟩ := i_rng (x := x3) (a := 0) (b := 2) (by decide) (by decide) (by rw [nI_0]; exact Int32.not_lt.mp q3) q4
    have G : hG z DD x1 (nI p) (nI n) (k, p, n) := ⟨hk, ex, hp, rfl, hn, rfl⟩
    obtain ⟨W, hW, hT⟩ := w_sum ok (rul (DD k))
    have fw : sp_w (DD k) (rul (DD k)) = fun q => nI (W q) := funext (fun q => (hW q).1)
    have eWx : ∀ q, wx0 (DD k) q = (W q : Int) := fun q => by unfold wx0; rw [(hW q).1, nI_toInt (by have := (hW q).2; omega)]
    have xs2 := xs_st_same s2 xs
    have rc2 := rc_at_same s2 (fun j hj q => by omega) hc.1
    have co2 := co_at_same s2 (by decide) hc.2.1
    have od2 := od_at_same s2 (by decide) hc.2.2
    have cs2 : ax_same cl_F h h2 := sm_tr hs (sm_mono s2 (fun x e => by unfold cl_F; omega))
    have hb0 : hB 999 (dP (DD k)) (dpu (DD k)) := fun p hp => by have := ok.2.2.2.2.1 p hp; omega
    have cl53 : ∀ h3 h4, ax_same (fun a => a = 53) h3 h4 → ax_same cl_F h3 h4 := fun h3 h4 s => sm_mono s (fun x e => by unfold cl_F; omega)
    have cl76 : ∀ h3 h4, ax_same (fun a => a = 76) h3 h4 → ax_same cl_F h3 h4 := fun h3 h4 s => sm_mono s (fun x e => by unfold cl_F; omega)
    have tb0 := sp_t_bd ok (rul (DD k))
    have L0 := sL_bd ok
    have s9 := sN_9 (fun q => (hW q).2)
    have s12 := s9 (dH (DD k))
    refine ⟨fun n0 => ⟨fun n1 => ?_, fun n1 => ⟨xs2.1, _, xs2.2.1.2.2.2.2.2.2.2.2, xs2.1, _, xs2.2.1.2.2.2.2.1, xs2.1, c_nextDayE (W := W) (b := 2286) ok (Or.inl rfl) xs2 rc2 (by omega) co2 (by rw [← fw]; exact od2) (fun q => (hW q).2) hp (by decide) (by decide) (fun q hq => hB_vl ok (by decide) hb0) (fun v h3 s3 c3 b3 ev => ⟨_, rfl, ?_⟩)⟩⟩, fun n0 => ⟨xs2.1, _, xs2.2.1.2.2.2.2.2.2.2.2, xs2.1, _, xs2.2.1.2.2.2.1, co2.1.1, c_measure co2 ⟨_, rfl, xs2.2.2.2.2.2, c_put76 xs2.2.2.2.2.2 (by rw [i_64]; have := i_bd (sp_me (dP (DD k)) (dpu (DD k)) (nI p) x4); omega) (by decide) (fun h3 s3 e3 e4 => ⟨rfl, Or.inr rfl, h1 _ h3 G (sm_tr cs2 (cl76 _ _ s3)) ?_⟩)⟩⟩⟩
    · have nn2 : n = 2 := by
        have a0 : n ≠ 0 := fun e => n0 (by rw [e]; exact nI_0)
        have a1 : n ≠ 1 := fun e => n1 (by rw [e]; rfl)
        omega
      subst nn2
      have ehv : hvx (DD k) p 2 x4 = sumI (fx2 (DD k) p x4) (dH (DD k)) := by unfold hvx; rw [if_neg (by decide), if_neg (by decide)]
      have T0 : (sp_t (DD k) (rul (DD k))).toInt = (sNn W (dH (DD k)) : Int) := by rw [hT, nI_toInt (by omega)]
      have key : ∀ f i : Nat, i + f = dH (DD k) → ∀ hh, ax_same cl_F h hh → co_at hh 52 (dP (DD k)) (dH (DD k)) (dpu (DD k)) (sp_vl (DD k)) → od_at hh 55 (dH (DD k)) (sp_w (DD k) (rul (DD k))) (sp_t (DD k) (rul (DD k))) → fOk (ax_l hh 76 0) (ax_l hh 76 1) (sL (DD k)) (sp_t (DD k) (rul (DD k))).toInt (3573 * (sNn W i : Int)) → fXx (ax_l hh 76 0) (ax_l hh 76 1) (sumI (fx2 (DD k) p x4) i) (sL (DD k)) → ∀ o7 o8 : Option Value, A (106, [some (.ref 0), some (.int x1), some (.int (nI p)), some (.int (nI 2)), some (.int x4), some (.ref (6 + 14 * k)), some (.int (nI i)), o7, o8], [], hh, 0, 0) := by
        intro f
        induction f with
        | zero =>
          intro i hi hh s co od F X o7 o8
          have rc := (tc_cl s a).2.2.1.2.2.1 k hk
          refine vX9_expected_106 hA ⟨rc.1.1, fun _ => ⟨Or.inr rfl, h1 _ hh G s ?_⟩, fun q => ?_⟩
          · show fXx _ _ (hvx (DD k) p 2 x4) (sL (DD k))
            rw [ehv, show dH (DD k) = i by omega]; exact X
          · have := rc.2.2.1.1
            rw [show ax_i hh (6 + 14 * k) 5 = nI (dH (DD k)) from this] at q; exact absurd (nI_le (by omega) (by omega)) q
        | succ f ih =>
          intro i hi hh s co od F X o7 o8
          have iH : i < dH (DD k) := by omega
          have t1 := tc_cl s a
          have rc : rc_at hh (6 + 14 * k) (DD k) := t1.2.2.1.2.2.1 k hk
          have x1' := t1.1
          refine vX9_expected_106 hA ⟨rc.1.1, fun q => ?_, fun _ => ⟨x1'.1, _, x1'.2.1.2.2.2.1, co.1.1, c_live co (fun h3 s3 c3' => ⟨rfl, ?_⟩)⟩⟩
          · rw [rc.2.2.1.1] at q; exact absurd q (nI_ge (by omega) (by omega))
          · have c3 : co_at h3 52 (dP (DD k)) (dH (DD k)) (fun p => dpu (DD k) p + sp_vl (DD k) p i) (sp_vl (DD k)) := co_congr c3' (fun p hp => by rw [sp_br_in hp iH ok.2.1 ok.1.2])
            have cs3 := sm_tr s (cl53 _ _ s3)
            have t3 := tc_cl cs3 a
            have x3' := t3.1
            have rc3 : rc_at h3 (6 + 14 * k) (DD k) := t3.2.2.1.2.2.1 k hk
            refine ⟨x3'.1, _, x3'.2.1.2.2.2.2.2.1, x3'.1, _, x3'.2.1.2.2.2.1, c3.1.1, c_poorest c3 ⟨_, rfl, x3'.2.2.2.2.1.1, c_weigh x3'.2.2.2.2.1 rc3 (fun j hj q => by unfold od_F at q; omega) (fun h4 s4 o4' => ⟨rfl, ?_⟩)⟩⟩
            have o4 : od_at h4 57 (dH (DD k)) (sp_w (DD k) (pox (DD k) i)) (sp_t (DD k) (pox (DD k) i)) := o4'
            have s4' : ax_same cl_F h3 h4 := sm_mono s4 (fun x e => by unfold od_F at e; unfold cl_F; omega)
            have cs4 := sm_tr cs3 s4'
            have t4 := tc_cl cs4 a
            have x4' := t4.1
            have rc4 : rc_at h4 (6 + 14 * k) (DD k) := t4.2.2.1.2.2.1 k hk
            have c4 := co_at_same s4 (by refine ⟨?_, ?_, ?_⟩ <;> (intro q; unfold od_F at q; omega)) c3
            obtain ⟨W2, hW2, hT2⟩ := w_sum ok (pox (DD k) i)
            have fw2 : sp_w (DD k) (pox (DD k) i) = fun q => nI (W2 q) := funext (fun q => (hW2 q).1)
            have eW2x : ∀ q, wx1 (DD k) i q = (W2 q : Int) := fun q => by unfold wx1; rw [(hW2 q).1, nI_toInt (by have := (hW2 q).2; omega)]
            refine ⟨x4'.1, _, x4'.2.1.2.2.2.2.2.1, x4'.1, c_nextDayE (W := W2) (b := 3573) ok (Or.inr rfl) x4' rc4 (by omega) c4 (by rw [← fw2]; exact o4) (fun q => (hW2 q).2) hp (by decide) (by decide) (fun q hq => hB_vl ok (by decide) (hB_vl ok (by decide) hb0)) (fun v h5 s5 c5 b5 ev => ⟨_, rfl, ?_⟩)⟩
            have ev2 : v.toInt = sumI (fx2r (DD k) p x4 i) (dH (DD k)) := ev.trans (sumI_congr (fun r hr => by rw [← eW2x r]; rfl))
            have cs5 := sm_tr cs4 (cl53 _ _ s5)
            have x5' := (tc_cl cs5 a).1
            refine ⟨x5'.1, _, x5'.2.1.2.2.2.1, c5.1.1, c_unlive c5 (fun h6 s6 c6 => ⟨rfl, ?_⟩)⟩
            have cs6 := sm_tr cs5 (cl53 _ _ s6)
            have x6' := (tc_cl cs6 a).1
            have co6 : co_at h6 52 (dP (DD k)) (dH (DD k)) (dpu (DD k)) (sp_vl (DD k)) := co_congr c6 (fun p hp => by rw [sp_br_in hp iH ok.2.1 ok.1.2]; exact Int32.add_sub_cancel _ _)
            have od6 : od_at h6 55 (dH (DD k)) (sp_w (DD k) (rul (DD k))) (sp_t (DD k) (rul (DD k))) := od_at_same s6 (by decide) (od_at_same s5 (by decide) (od_at_same s4 (by refine ⟨?_, ?_⟩ <;> (intro q; unfold od_F at q; omega)) (od_at_same s3 (by decide) od)))
            have o6 := od_at_same s6 (by decide) (od_at_same s5 (by decide) o4)
            have l6 : ∀ j, ax_l h6 76 j = ax_l hh 76 j := fun j => by rw [(s6.2.2.2 76 (by decide)).2, (s5.2.2.2 76 (by decide)).2, (s4.2.2.2 76 (by unfold od_F; decide)).2, (s3.2.2.2 76 (by decide)).2]
            refine ⟨x6'.1, _, x6'.2.1.2.2.2.2.2.2.2.2, x6'.1, _, x6'.2.1.2.2.2.2.1, od6.1.1, _, od6.1.2.1, by rw [od6.1.2.2], by rw [od6.1.2.2]; exact vp_in_nI (by omega) (by decide), x6'.1, _, x6'.2.1.2.2.2.2.1, od6.1.1, x6'.1, _, x6'.2.1.2.2.2.2.2.1, o6.1.1, x6'.2.2.2.2.2, ?_⟩
            rw [nI_clamp (by omega), od6.2.2.2.2 i (by omega), od6.2.2.2.1, o6.2.2.2.1]
            have tb2 := sp_t_bd ok (pox (DD k) i)
            have s92 := sN_9 (fun q => (hW2 q).2)
            have T2 : (sp_t (DD k) (pox (DD k) i)).toInt = (sNn W2 (dH (DD k)) : Int) := by rw [hT2, nI_toInt (by have := s92 (dH (DD k)); omega)]
            have bb : ((sp_t (DD k) (rul (DD k))).toInt64 * (sp_t (DD k) (pox (DD k) i)).toInt64).toInt = (sp_t (DD k) (rul (DD k))).toInt * (sp_t (DD k) (pox (DD k) i)).toInt := by
              have bz := abs_mul (a := 108) (b := 108) (x := (sp_t (DD k) (rul (DD k))).toInt) (y := (sp_t (DD k) (pox (DD k) i)).toInt) (by decide) (by decide) (by omega) (by omega)
              rw [i64_mul (by rw [i_64, i_64]; omega) (by rw [i_64, i_64]; omega), i_64, i_64]
            have w9 := (hW i).2
            have eW : (sp_w (DD k) (rul (DD k)) i).toInt = (W i : Int) := by rw [(hW i).1, nI_toInt (by omega)]
            have sm1 : sNn W (i + 1) ≤ sNn W (dH (DD k)) := sNn_mono (by omega)
            have sm2 : sNn W (i + 1) = sNn W i + W i := rfl
            have S2 : sNn W2 (dH (DD k)) ≤ 108 := by have := s92 (dH (DD k)); omega
            have b5' : -385884 ≤ v.toInt ∧ v.toInt ≤ 385884 := by unfold bL at b5; omega
            have wv := abs_mul (a := 9) (b := 385884) (x := (W i : Int)) (y := v.toInt) (by decide) (by decide) (by omega) b5'
            have ewv : ((sp_w (DD k) (rul (DD k)) i).toInt64 * v).toInt = (W i : Int) * v.toInt := by rw [i64_mul (by rw [i_64, eW]; omega) (by rw [i_64, eW]; omega), i_64, eW]
            refine c_add76E (L := sL (DD k)) (τ := (sp_t (DD k) (rul (DD k))).toInt) (c := 3573 * (sNn W i : Int)) (d := 3573 * (W i : Int)) (v := sumI (fx2 (DD k) p x4) i) (w := fx2 (DD k) p x4 i) x6'.2.2.2.2.2 L0.1 (by omega) tb0.1 (by omega) (by omega) (s_big ok tb0.1 (by rw [T0]; omega)) (by rw [l6, l6]; exact F) (by rw [bb]; exact Int.mul_pos tb0.1 tb2.1) (by rw [bb]; exact tx1_dvd ok (by omega) i) ?_ (by rw [l6, l6]; exact X.2.2.1) ?_ (fun h7 s7 f7 X7 => ⟨rfl, ?_⟩)
            · have hm : (W i : Int) * (3573 * (sNn W2 (dH (DD k)) : Int)) ≤ 9 * (3573 * (sNn W2 (dH (DD k)) : Int)) := Int.mul_le_mul_of_nonneg_right (by omega) (by omega)
              have m := bL_mul (a := (W i : Int)) (b := 3573 * (sNn W2 (dH (DD k)) : Int)) (by omega) (by omega) (bL_32 (x := sp_w (DD k) (rul (DD k)) i) (by rw [eW]; omega)) b5 (by omega)
              unfold bL at m
              have m2 : (((sp_w (DD k) (rul (DD k)) i).toInt64 * v).toInt.natAbs : Int) ≤ (W i : Int) * (3573 * (sNn W2 (dH (DD k)) : Int)) := by omega
              have m3 := Int.mul_le_mul_of_nonneg_right m2 (Int.le_of_lt tb0.1)
              rw [bb, T2]
              refine Int.le_trans m3 (Int.le_of_eq ?_)
              ac_rfl
            · rw [ewv, bb, ev2, ← eWx i]
              show wx0 (DD k) i * sumI (fx2r (DD k) p x4 i) (dH (DD k)) * sL (DD k) = wx0 (DD k) i * sumI (fx2r (DD k) p x4 i) (dH (DD k)) * ux1 (DD k) i * (tx0 (DD k) * tx1 (DD k) i)
              rw [ux1_e ok (by omega) i]
              ac_rfl
            · rw [← nI_succ]
              refine ih (i + 1) (by omega) h7 (sm_tr cs6 (cl76 _ _ s7)) (co_at_same s7 (by decide) co6) (od_at_same s7 (by decide) od6) ?_ X7 _ _
              rw [show 3573 * (sNn W (i + 1) : Int) = 3573 * (sNn W i : Int) + 3573 * (W i : Int) from by rw [sm2]; omega]
              exact f7
      rw [show (0 : Int64) / gL 0 1 = 0 from by decide +kernel] at e0
      rw [show (1 : Int64) / gL 0 1 = 1 from by decide +kernel] at e1
      refine key (dH (DD k)) 0 (by omega) h2 cs2 co2 od2 ?_ (by rw [e0, e1]; exact fx_0) _ _
      rw [e0, e1]
      refine ⟨by decide, ⟨sL (DD k), by rw [show (1 : Int64).toInt = 1 from rfl, Int.one_mul]⟩, ?_⟩
      show (0 : Int) * _ ≤ 3573 * (0 : Int) * _
      rw [Int.zero_mul, Int.mul_zero, Int.zero_mul]
      exact Int.le_refl _
    · have nn1 : n = 1 := (nI_eq (by omega) (by decide)).mp (n1.trans rfl)
      subst nn1
      have xs3 := xs_st_same s3 xs2
      have od3 := od_at_same s3 (by decide) od2
      refine ⟨xs3.1, _, xs3.2.1.2.2.2.2.1, od3.1.1, xs3.2.2.2.2.2, ?_⟩
      rw [od3.2.2.2.1]
      have bv : -9223372036854775808 < v.toInt := by unfold bL at b3; omega
      refine c_put76 xs3.2.2.2.2.2 bv (t_pos ok) (fun h4 s4 e4 e5 => ⟨rfl, Or.inr rfl, h1 _ h4 G (sm_tr (sm_tr cs2 (cl53 _ _ s3)) (cl76 _ _ s4)) ?_⟩)
      rw [e4, e5]
      refine fx_put bv (t_pos ok) (by rw [i_64]; exact Int.dvd_mul_right _ _) ?_
      have ev2 : v.toInt = sumI (fx1 (DD k) p x4) (dH (DD k)) := ev.trans (sumI_congr (fun r hr => by rw [← eWx r]; rfl))
      rw [ev2, i_64]
      show _ = hvx (DD k) p 1 x4 * tx0 (DD k)
      rw [show hvx (DD k) p 1 x4 = sumI (fx1 (DD k) p x4) (dH (DD k)) * ux0 (DD k) from by unfold hvx; rw [if_neg (by decide), if_pos rfl], ux0_e (DD k)]
      ac_rfl
    · have nn0 : n = 0 := (nI_eq (by omega) (by decide)).mp (n0.trans nI_0.symm)
      subst nn0
      rw [e3, e4]
      refine fx_put (by rw [i_64]; have := i_bd (sp_me (dP (DD k)) (dpu (DD k)) (nI p) x4); omega) (by decide) ⟨sL (DD k), by rw [show (1 : Int64).toInt = 1 from rfl, Int.one_mul]⟩ ?_
      rw [i_64, show (1 : Int64).toInt = 1 from rfl, Int.mul_one]
      show _ = hvx (DD k) p 0 x4
      unfold hvx
      rw [if_pos rfl]
      rfl
  · obtain ⟨k', p', n'⟩ := t
    obtain ⟨g1, g2, g3, g4, g5, g6⟩ := G
    rw [g6] at q4
    exact q4 (nI_le (b := 2) g5 (by decide))
theorem q9_hope {x1 x2 x3 x4 : Int32} {V : Int64} (a : tc h z DD N C) (hV : ansE (hG z DD x1 x2 x3) (hVl DD 0 x4) (-1000000) V) (hq : ∀ h', ax_same cl_F h h' → Ret (some (.long V)) h') : mX9_hope g [.ref 0, .int x1, .int x2, .int x3, .int x4] h Ret := by
  refine eX9_hope ⟨a.1.1, c_expectedE a (fun h2 s2 no => ⟨_, rfl, fun _ => ?_, fun q => absurd rfl q⟩) (fun t h2 G s2 X => ⟨_, rfl, fun q => absurd q (by decide), fun _ => ?_⟩)⟩
  · rw [← ans_no hV no]; exact hq h2 s2
  · have xs := (tc_cl s2 a).1
    have eV : V = if x4 = 0 then ax_l h2 76 0 else ax_l h2 76 1 := (ans_yes hV G (fun t' G' => hG_u a.2.2.2.2 G G')).trans (fx_side (sL_bd (a.2.2.2.2.2.1 t.1 G.1)).1 X)
    exact ⟨xs.1, _, xs.2.1.2.2.2.2.2.2.2.2, xs.2.2.2.2.2, eX1_sideOf ⟨fun q => ⟨xs.2.2.2.2.2, _, rfl, by rw [if_pos q] at eV; rw [← eV]; exact hq h2 s2⟩, fun q => ⟨xs.2.2.2.2.2, _, rfl, by rw [if_neg q] at eV; rw [← eV]; exact hq h2 s2⟩⟩⟩
theorem q9_doom {x1 x2 x3 x4 : Int32} {V : Int64} (a : tc h z DD N C) (hV : ansE (hG z DD x1 x2 x3) (hVl DD 1 x4) (-1) V) (hq : ∀ h', ax_same cl_F h h' → Ret (some (.long V)) h') : mX9_doom g [.ref 0, .int x1, .int x2, .int x3, .int x4] h Ret := by
  refine eX9_doom ⟨a.1.1, c_expectedE a (fun h2 s2 no => ⟨_, rfl, fun _ => ?_, fun q => absurd rfl q⟩) (fun t h2 G s2 X => ⟨_, rfl, fun q => absurd q (by decide), fun _ => ?_⟩)⟩
  · rw [← ans_no hV no]; exact hq h2 s2
  · have xs := (tc_cl s2 a).1
    have eV : V = if x4 = 0 then ax_l h2 76 0 else ax_l h2 76 1 := (ans_yes hV G (fun t' G' => hG_u a.2.2.2.2 G G')).trans (fx_side (sL_bd (a.2.2.2.2.2.1 t.1 G.1)).1 X)
    exact ⟨xs.1, _, xs.2.1.2.2.2.2.2.2.2.2, xs.2.2.2.2.2, eX1_sideOf ⟨fun q => ⟨xs.2.2.2.2.2, _, rfl, by rw [if_pos q] at eV; rw [← eV]; exact hq h2 s2⟩, fun q => ⟨xs.2.2.2.2.2, _, rfl, by rw [if_neg q] at eV; rw [← eV]; exact hq h2 s2⟩⟩⟩
end
end

section
section
variable {g : ax_G} {Ret : Option Value → ax_H → Prop} {h : ax_H} {z : Nat → Nat} {DD : Nat → rD} {N : Nat → Nat → Nat} {C : Nat → Nat → Nat → Nat → Int32} {S : sT} {Im : Nat → Option sT} {tp : Nat → Nat} {B : Nat}
/-! HOPE and DOOM of the reference, exactly -/
theorem c_mplusE {x b : Int64} {L τ c d v w : Int} (s1 : (ax_s h 77).1 = 10) (hL : 0 < L) (hL2 : L < 9223372036854775808) (hτ : 0 < τ) (hc : 0 ≤ c) (hd : 0 ≤ d) (big : (c + d) * L < 9223372036854775807 * τ) (f : fOk (ax_l h 77 56) (ax_l h 77 57) L τ c) (b0 : 0 < b.toInt) (bL' : b.toInt ∣ L) (hx : x.toInt.natAbs * τ ≤ d * b.toInt) (eA : (ax_l h 77 56).toInt * L = v * (ax_l h 77 57).toInt) (ex : x.toInt * L = w * b.toInt) (hq : ∀ h', mr (fun j => j = 56 ∨ j = 57) (fun _ => False) 77 h h' → fOk (ax_l h' 77 56) (ax_l h' 77 57) L τ (c + d) → fXx (ax_l h' 77 56) (ax_l h' 77 57) (v + w) L → Ret none h') : mX10_plus g [.ref 77, .long x, .long b] h Ret := by
  obtain ⟨n0, f1, bg⟩ := f_add hL hL2 hτ hc hd big f b0 bL' hx
  have fx := f_addX hL hL2 hτ hc hd big f b0 bL' hx eA ex
  refine eX10_plus ⟨s1, c_common (by have := f.1; omega) b0 ⟨_, rfl, s1, n0, s1, n0, s1, ?_⟩⟩
  intro u4
  refine ⟨s1, n0, s1, ?_⟩
  intro u5
  have e56 : ax_l u5 77 56 = ax_l h 77 56 * (b / gL (ax_l h 77 57) b) + x * (ax_l h 77 57 / gL (ax_l h 77 57) b) := by
    show ax_l (ax_pl (ax_pl h 77 56 _) 77 57 _) 77 56 = _
    rw [al_pl, if_neg (by decide), al_pl, if_pos ⟨rfl, rfl⟩]
  have e57 : ax_l u5 77 57 = ax_l h 77 57 * (b / gL (ax_l h 77 57) b) := by
    show ax_l (ax_pl (ax_pl h 77 56 _) 77 57 (ax_l (ax_pl h 77 56 _) 77 57 * _)) 77 57 = _
    rw [al_pl, if_pos ⟨rfl, rfl⟩, al_pl, if_neg (by decide)]
  refine ⟨s1, s1, c_common (by rw [e56]; exact bg) (by rw [e57]; exact f1.1) ⟨_, rfl, rfl, s1, ?_⟩⟩
  rw [e56, e57]
  have g0 := gL_ne0 (a := ax_l h 77 56 * (b / gL (ax_l h 77 57) b) + x * (ax_l h 77 57 / gL (ax_l h 77 57) b)) f1.1
  refine ⟨g0, s1, ?_⟩
  intro u9
  refine ⟨rfl, s1, g0, s1, ?_⟩
  intro u10
  have r : mr (fun j => j = 56 ∨ j = 57) (fun _ => False) 77 h u10 := mr_tr (mr_tr (mr_tr (mr_l (Or.inl rfl)) (mr_l (Or.inr rfl))) (mr_l (Or.inl rfl))) (mr_l (Or.inr rfl))
  have d56 : ax_l u10 77 56 = ax_l u5 77 56 / gL (ax_l h 77 56 * (b / gL (ax_l h 77 57) b) + x * (ax_l h 77 57 / gL (ax_l h 77 57) b)) (ax_l h 77 57 * (b / gL (ax_l h 77 57) b)) := by
    show ax_l (ax_pl (ax_pl u5 77 56 _) 77 57 _) 77 56 = _
    rw [al_pl, if_neg (by decide), al_pl, if_pos ⟨rfl, rfl⟩, e56]
  have d57 : ax_l u10 77 57 = ax_l u5 77 57 / gL (ax_l h 77 56 * (b / gL (ax_l h 77 57) b) + x * (ax_l h 77 57 / gL (ax_l h 77 57) b)) (ax_l h 77 57 * (b / gL (ax_l h 77 57) b)) := by
    show ax_l (ax_pl (ax_pl u5 77 56 _) 77 57 (ax_l (ax_pl u5 77 56 _) 77 57 / _)) 77 57 = _
    rw [al_pl, if_pos ⟨rfl, rfl⟩, al_pl, if_neg (by decide)]
  refine hq u10 r ?_ ?_
  · rw [d56, d57, e56, e57]
    exact f_put bg f1
  · rw [d56, d57, e56, e57]
    exact fx_put bg f1.1 f1.2.1 fx
section
variable {hh : ax_H} {k : Nat}
theorem lm_lvm {D : rD} {pu : Nat → Int32} (L : lmE h hh k D pu) : lvm h hh k D := ⟨L.1, pu, L.2⟩
/-- one day of a row -/
theorem day68E {A : ax_S → Prop} (hA : ax_HA (tX10_expect g) Ret A) {i p n c j tot : Nat} {b : Int32} {X Y : Int64} {pu : Nat → Int32} (ok : rd_ok (DD k)) (L : lmE h hh k (DD k) pu) (hc : c < 1000) (hj : j < n) (hn : n ≤ 2) (o12 : Option Value) (K : ∀ h2, lmE h h2 k (DD k) (fun p => pu p + sp_vl (DD k) p (c % dH (DD k))) → lvR hh h2 → A (68, [some (.ref 77), some (.int (nI p)), some (.int (nI n)), some (.int b), some (.int (nI tot)), some (.int (nI i)), some (.long (X * (sp_w (DD k) (sp_po (dP (DD k)) pu) (c % dH (DD k))).toInt64)), none, some (.long (Y * (sp_t (DD k) (sp_po (dP (DD k)) pu)).toInt64)), none, some (.int (nI (c / dH (DD k)))), some (.int (nI (j + 1))), o12], [], h2, 0, 0)) : A (68, [some (.ref 77), some (.int (nI p)), some (.int (nI n)), some (.int b), some (.int (nI tot)), some (.int (nI i)), some (.long X), none, some (.long Y), none, some (.int (nI c)), some (.int (nI j)), o12], [], hh, 0, 0) := by
  have H12 := ok.1.2
  have H2 := ok.1.1
  obtain ⟨s, mc, mw⟩ := L
  have s0 := mc.1.1.1
  have e26 := mc.1.2.2.2.2.1
  obtain ⟨e1, e2⟩ := mo_we mc.1.1
  have ne : ¬ ax_i hh 77 26 = 0 := by rw [e26]; exact nI_ne0 (by omega) (by omega)
  have er : nI c - nI c / ax_i hh 77 26 * ax_i hh 77 26 = nI (c % dH (DD k)) := by rw [e26]; exact pk_rem (by omega) (by omega) (by omega)
  have cm : c % dH (DD k) < dH (DD k) := Nat.mod_lt _ (by omega)
  refine vX10_expect_68 hA ⟨fun q => absurd q (nI_ge (by omega) (by omega)), fun _ => ⟨s0, _, e1, s0, ne, by rw [e2], by rw [er, e2]; exact vp_in_nI (by omega) (by decide), ?_⟩⟩
  intro z13
  refine ⟨s0, s0, ne, s0, ?_⟩
  rw [er]
  refine c_mlive mc cm (fun h2 r2 c2 w2 => ⟨rfl, c2.1.1.1, ?_, ?_⟩)
  · rw [c2.1.2.2.2.2.1]; exact nI_ne0 (by omega) (by omega)
  · rw [c2.1.2.2.2.2.1, pk_div (by omega) (by omega) (by omega), ← nI_succ]
    have ez : z13 = sp_w (DD k) (sp_po (dP (DD k)) pu) (c % dH (DD k)) := by
      show ax_i hh (77 + 16) (nI c - nI c / ax_i hh 77 26 * ax_i hh 77 26).toNatClampNeg = _
      rw [er, nI_clamp (by omega)]; exact mw.1 _ cm
    rw [ez, mw.2.1]
    exact K h2 ⟨sm_tr s (sm_mono r2.1 (fun x e => by unfold md_F; omega)), c2, w2⟩ r2
/-- a row's end: its term goes to the sum -/
theorem fin68E {A : ax_S → Prop} (hA : ax_HA (tX10_expect g) Ret A) {i p n tot : Nat} {b x10 : Int32} {X Y : Int64} {c d v w : Int} {pu : Nat → Int32} (ok : rd_ok (DD k)) (L : lmE h hh k (DD k) pu) (hb : hB 3573 (dP (DD k)) pu) (hp : p < dP (DD k)) (hn : n ≤ 2) (f : fOk (ax_l hh 77 56) (ax_l hh 77 57) (sL (DD k)) (sp_t (DD k) (rul (DD k))).toInt c) (eA : (ax_l hh 77 56).toInt * sL (DD k) = v * (ax_l hh 77 57).toInt) (hc0 : 0 ≤ c) (hd0 : 0 ≤ d) (big : c + d ≤ 42876 * (sp_t (DD k) (rul (DD k))).toInt) (X0 : 0 ≤ X.toInt ∧ X.toInt ≤ 10000) (Y0 : 0 < Y.toInt) (YL : Y.toInt ∣ sL (DD k)) (hx : X.toInt * 3573 * (sp_t (DD k) (rul (DD k))).toInt ≤ d * Y.toInt) (ex : X.toInt * (sp_me (dP (DD k)) pu (nI p) b).toInt * sL (DD k) = w * Y.toInt) (o12 : Option Value) (K : ∀ h2, lvm h h2 k (DD k) → fOk (ax_l h2 77 56) (ax_l h2 77 57) (sL (DD k)) (sp_t (DD k) (rul (DD k))).toInt (c + d) → fXx (ax_l h2 77 56) (ax_l h2 77 57) (v + w) (sL (DD k)) → ∀ o6 o7 o8 o9 o10 o11 o12 : Option Value, A (44, [some (.ref 77), some (.int (nI p)), some (.int (nI n)), some (.int b), some (.int (nI tot)), some (.int (nI i + 1)), o6, o7, o8, o9, o10, o11, o12], [], h2, 0, 0)) : A (68, [some (.ref 77), some (.int (nI p)), some (.int (nI n)), some (.int b), some (.int (nI tot)), some (.int (nI i)), some (.long X), none, some (.long Y), none, some (.int x10), some (.int (nI n)), o12], [], hh, 0, 0) := by
  have tb0 := sp_t_bd ok (rul (DD k))
  have L0 := sL_bd ok
  have mc := L.2.1
  have mw := L.2.2
  have s0 := mc.1.1.1
  have P6 := ok.2.1
  have mbd := me_bd (x := b) (b := 3573) (by decide) P6 hp hb
  have mX : ((X * (sp_me (dP (DD k)) pu (nI p) b).toInt64).toInt.natAbs : Int) * (sp_t (DD k) (rul (DD k))).toInt ≤ d * Y.toInt := by
    have h1 := bL_mul (a := X.toInt) (b := 3573) X0.1 (by decide) ⟨by omega, Int.le_refl _⟩ (bL_32 mbd) (by omega)
    unfold bL at h1
    have h2 : ((X * (sp_me (dP (DD k)) pu (nI p) b).toInt64).toInt.natAbs : Int) ≤ X.toInt * 3573 := by omega
    exact Int.le_trans (Int.mul_le_mul_of_nonneg_right h2 (Int.le_of_lt tb0.1)) hx
  have ab := abs_mul (a := 10000) (b := 3573) (x := X.toInt) (y := (sp_me (dP (DD k)) pu (nI p) b).toInt) (by decide) (by decide) (by omega) mbd
  have eX : (X * (sp_me (dP (DD k)) pu (nI p) b).toInt64).toInt = X.toInt * (sp_me (dP (DD k)) pu (nI p) b).toInt := by rw [i64_mul (by rw [i_64]; omega) (by rw [i_64]; omega), i_64]
  have pl : ∀ (m : Int64) (K2 : Option Value → ax_H → Prop), m = (sp_me (dP (DD k)) pu (nI p) b).toInt64 → (∀ h2, lvm h h2 k (DD k) → fOk (ax_l h2 77 56) (ax_l h2 77 57) (sL (DD k)) (sp_t (DD k) (rul (DD k))).toInt (c + d) → fXx (ax_l h2 77 56) (ax_l h2 77 57) (v + w) (sL (DD k)) → K2 none h2) → mX10_plus g [.ref 77, .long (X * m), .long Y] hh K2 := fun m K2 em hK => by
    rw [em]
    exact c_mplusE s0 L0.1 (by omega) tb0.1 hc0 hd0 (s_big ok tb0.1 big) f Y0 YL mX eA (by rw [eX]; exact ex) (fun h2 r2 f2 x2 => hK h2 (lvm_mr (lm_lvm L) r2 (fun j hj => by omega) (fun a ha => ha.elim)) f2 x2)
  obtain ⟨e1, e2⟩ := mo_pu mc.1.1
  refine vX10_expect_68 hA ⟨fun _ => ⟨fun b0 => ⟨s0, _, e1, by rw [e2], by rw [e2]; exact vp_in_nI (by omega) (by decide), s0, pl _ _ ?_ (fun h2 L2 f2 x2 => ⟨rfl, K h2 L2 f2 x2 _ _ _ _ _ _ _⟩)⟩, fun b0 => ⟨s0, fun q => ⟨s0, pl _ _ ?_ (fun h2 L2 f2 x2 => ⟨rfl, K h2 L2 f2 x2 _ _ _ _ _ _ _⟩)⟩, fun q => ⟨s0, pl _ _ ?_ (fun h2 L2 f2 x2 => ⟨rfl, K h2 L2 f2 x2 _ _ _ _ _ _ _⟩)⟩⟩⟩, fun q => absurd (nI_le (Nat.le_refl n) (by omega)) q⟩
  · rw [nI_clamp (by omega), mc.2.1 p hp]
    unfold sp_me
    rw [if_pos b0, if_neg (by rintro (q | q); exact nI_pos (by omega) q; exact nI_ge hp (by omega) q), nI_clamp (by omega)]
  · rw [mw.2.2] at q
    unfold sp_me
    rw [if_neg b0, if_neg q]; rfl
  · rw [mw.2.2] at q
    unfold sp_me
    rw [if_neg b0, if_pos q]; rfl
theorem c_expectE {n p : Nat} {b : Int32} (ok : rd_ok (DD k)) (L : lvm h hh k (DD k)) (hn : n ≤ 2) (hp : p < dP (DD k)) (hq : ∀ h2, lvm h h2 k (DD k) → fXx (ax_l h2 77 56) (ax_l h2 77 57) (hvx (DD k) p n b) (sL (DD k)) → Ret none h2) : mX10_expect g [.ref 77, .int (nI p), .int (nI n), .int b] hh Ret := by
  have H12 := ok.1.2
  have H2 := ok.1.1
  have P6 := ok.2.1
  have tb0 := sp_t_bd ok (rul (DD k))
  obtain ⟨W, hW, hT⟩ := w_sum ok (rul (DD k))
  have s12 := sN_9 (fun q => (hW q).2) (dH (DD k))
  have T0 : (sp_t (DD k) (rul (DD k))).toInt = (sNn W (dH (DD k)) : Int) := by rw [hT, nI_toInt (by omega)]
  have eWx : ∀ q, wx0 (DD k) q = (W q : Int) := fun q => by unfold wx0; rw [(hW q).1, nI_toInt (by have := (hW q).2; omega)]
  have hb0 : hB 999 (dP (DD k)) (dpu (DD k)) := fun p hp => by have := ok.2.2.2.2.1 p hp; omega
  obtain ⟨pu0, mc0, -⟩ := L.2
  have s00 := mc0.1.1.1
  refine uX10_expect (fun A hA => vX10_expect_0 hA ⟨s00, ?_⟩)
  intro u1
  refine ⟨s00, ?_⟩
  intro u2
  have Lu : lvm h u2 k (DD k) := lvm_mr L (mr_tr (mr_l (J := fun j => j = 56 ∨ j = 57) (F := fun _ => False) (Or.inl rfl)) (mr_l (Or.inr rfl))) (fun j hj => by omega) (fun a ha => ha.elim)
  have e26 : ax_i u2 77 26 = nI (dH (DD k)) := mc0.1.2.2.2.2.1
  have e0 : ax_l u2 77 56 = 0 := by show ax_l (ax_pl (ax_pl hh 77 56 0) 77 57 1) 77 56 = 0; rw [al_pl, if_neg (by decide), al_pl, if_pos ⟨rfl, rfl⟩]
  have e1 : ax_l u2 77 57 = 1 := by show ax_l (ax_pl (ax_pl hh 77 56 0) 77 57 1) 77 57 = 1; rw [al_pl, if_pos ⟨rfl, rfl⟩]
  have f0 : ∀ c, c = (0 : Int) → fOk (ax_l u2 77 56) (ax_l u2 77 57) (sL (DD k)) (sp_t (DD k) (rul (DD k))).toInt c := fun c hc => by
    rw [e0, e1, hc]
    refine ⟨by decide, ⟨sL (DD k), by rw [show (1 : Int64).toInt = 1 from rfl, Int.one_mul]⟩, ?_⟩
    show (0 : Int) * _ ≤ (0 : Int) * _
    rw [Int.zero_mul, Int.zero_mul]; exact Int.le_refl _
  have x0 : fXx (ax_l u2 77 56) (ax_l u2 77 57) (sumI (rwx (DD k) p n b) 0) (sL (DD k)) := by rw [e0, e1]; exact fx_0
  have one : (1 : Int64).toInt = 1 := rfl
  -- a start of a row
  have go : ∀ (tot i : Nat) (c d v : Int), 0 ≤ c → 0 ≤ d → c + d ≤ 42876 * (sp_t (DD k) (rul (DD k))).toInt → i < 1000 → (n = 0 → d = 3573 * (sp_t (DD k) (rul (DD k))).toInt) → (1 ≤ n → d = 3573 * (W (i % dH (DD k)) : Int)) → ∀ h3, lvm h h3 k (DD k) → fOk (ax_l h3 77 56) (ax_l h3 77 57) (sL (DD k)) (sp_t (DD k) (rul (DD k))).toInt c → (ax_l h3 77 56).toInt * sL (DD k) = v * (ax_l h3 77 57).toInt → (∀ h2, lvm h h2 k (DD k) → fOk (ax_l h2 77 56) (ax_l h2 77 57) (sL (DD k)) (sp_t (DD k) (rul (DD k))).toInt (c + d) → fXx (ax_l h2 77 56) (ax_l h2 77 57) (v + rwx (DD k) p n b i) (sL (DD k)) → ∀ o6 o7 o8 o9 o10 o11 o12 : Option Value, A (44, [some (.ref 77), some (.int (nI p)), some (.int (nI n)), some (.int b), some (.int (nI tot)), some (.int (nI i + 1)), o6, o7, o8, o9, o10, o11, o12], [], h2, 0, 0)) → ∀ o12 : Option Value, mX10_begin g [.ref 77] h3 (fun v4 h3 => v4 = none ∧ A (68, [some (.ref 77), some (.int (nI p)), some (.int (nI n)), some (.int b), some (.int (nI tot)), some (.int (nI i)), some (.long (1 : Int64)), none, some (.long (1 : Int64)), none, some (.int (nI i)), some (.int 0), o12], [], h3, 0, 0)) := by
    intro tot i c d v c0 d0 cd hi dn0 dn1 h3 L3 F3 E3 K o12
    refine c_mbegin ok L3 (fun h4 r4 s4 hm => ⟨rfl, ?_⟩)
    have L4 : lmE h h4 k (DD k) (dpu (DD k)) := lm_hm s4 hm
    have F4 : fOk (ax_l h4 77 56) (ax_l h4 77 57) (sL (DD k)) (sp_t (DD k) (rul (DD k))).toInt c := by rw [(r4.2 56 (by decide)).2, (r4.2 57 (by decide)).2]; exact F3
    have E4 : (ax_l h4 77 56).toInt * sL (DD k) = v * (ax_l h4 77 57).toInt := by rw [(r4.2 56 (by decide)).2, (r4.2 57 (by decide)).2]; exact E3
    rcases (by omega : n = 0 ∨ n = 1 ∨ n = 2) with rfl | rfl | rfl
    · refine fin68E hA (w := rwx (DD k) p 0 b i) ok L4 (fun p hp => by have := hb0 p hp; omega) hp (by decide) F4 E4 c0 d0 cd (by rw [one]; decide) (by decide) ⟨sL (DD k), by rw [one, Int.one_mul]⟩ (by rw [one, dn0 rfl]; omega) ?_ _ K
      rw [one, Int.one_mul, Int.mul_one]
      unfold rwx
      rw [if_pos rfl]
      rfl
    · refine day68E (n := 1) (j := 0) hA ok L4 hi (by decide) (by decide) _ (fun h5 L5 r5 => ?_)
      have hbu := hB_vl (q := i % dH (DD k)) ok (by decide) hb0
      have F5 : fOk (ax_l h5 77 56) (ax_l h5 77 57) (sL (DD k)) (sp_t (DD k) (rul (DD k))).toInt c := by rw [(r5.2 56 (by decide)).2, (r5.2 57 (by decide)).2]; exact F4
      have E5 : (ax_l h5 77 56).toInt * sL (DD k) = v * (ax_l h5 77 57).toInt := by rw [(r5.2 56 (by decide)).2, (r5.2 57 (by decide)).2]; exact E4
      have w9 := (hW (i % dH (DD k))).2
      have eX : (1 * (sp_w (DD k) (sp_po (dP (DD k)) (dpu (DD k))) (i % dH (DD k))).toInt64).toInt = (W (i % dH (DD k)) : Int) := by
        rw [Int64.one_mul, i_64]; exact eWx _
      have eY : (1 * (sp_t (DD k) (sp_po (dP (DD k)) (dpu (DD k)))).toInt64).toInt = (sp_t (DD k) (rul (DD k))).toInt := by rw [Int64.one_mul, i_64]; rfl
      refine fin68E hA (w := rwx (DD k) p 1 b i) ok L5 (fun p hp => by have := hbu p hp; omega) hp (by decide) F5 E5 c0 d0 cd (by rw [eX]; omega) (by rw [eY]; exact tb0.1) (by rw [eY]; exact Int.dvd_mul_right _ _) ?_ ?_ _ K
      · rw [eX, eY, dn1 (by decide), Int.mul_comm (W (i % dH (DD k)) : Int) 3573]
        exact Int.le_refl _
      · rw [eX, eY, ← eWx]
        show wx0 (DD k) (i % dH (DD k)) * mx1 (DD k) p b (i % dH (DD k)) * sL (DD k) = rwx (DD k) p 1 b i * tx0 (DD k)
        rw [show rwx (DD k) p 1 b i = wx0 (DD k) (i % dH (DD k)) * mx1 (DD k) p b (i % dH (DD k)) * ux0 (DD k) from by unfold rwx; rw [if_neg (by decide), if_pos rfl]; rfl, ux0_e (DD k)]
        ac_rfl
    · refine day68E (n := 2) (j := 0) hA ok L4 hi (by decide) (by decide) _ (fun h5 L5 r5 => ?_)
      have hbu := hB_vl (q := i % dH (DD k)) ok (by decide) hb0
      have F5 : fOk (ax_l h5 77 56) (ax_l h5 77 57) (sL (DD k)) (sp_t (DD k) (rul (DD k))).toInt c := by rw [(r5.2 56 (by decide)).2, (r5.2 57 (by decide)).2]; exact F4
      have E5 : (ax_l h5 77 56).toInt * sL (DD k) = v * (ax_l h5 77 57).toInt := by rw [(r5.2 56 (by decide)).2, (r5.2 57 (by decide)).2]; exact E4
      refine day68E (n := 2) (j := 1) hA ok L5 (Nat.lt_of_le_of_lt (Nat.div_le_self _ _) hi) (by decide) (by decide) _ (fun h7 L7 r7 => ?_)
      have hbv := hB_vl (q := i / dH (DD k) % dH (DD k)) ok (by decide) hbu
      have F7 : fOk (ax_l h7 77 56) (ax_l h7 77 57) (sL (DD k)) (sp_t (DD k) (rul (DD k))).toInt c := by rw [(r7.2 56 (by decide)).2, (r7.2 57 (by decide)).2]; exact F5
      have E7 : (ax_l h7 77 56).toInt * sL (DD k) = v * (ax_l h7 77 57).toInt := by rw [(r7.2 56 (by decide)).2, (r7.2 57 (by decide)).2]; exact E5
      obtain ⟨W2, hW2, hT2⟩ := w_sum ok (pox (DD k) (i % dH (DD k)))
      have eW2x : ∀ q, wx1 (DD k) (i % dH (DD k)) q = (W2 q : Int) := fun q => by unfold wx1; rw [(hW2 q).1, nI_toInt (by have := (hW2 q).2; omega)]
      have s22 := sN_9 (fun q => (hW2 q).2) (dH (DD k))
      have tb2 := sp_t_bd ok (pox (DD k) (i % dH (DD k)))
      have T2 : (sp_t (DD k) (pox (DD k) (i % dH (DD k)))).toInt = (sNn W2 (dH (DD k)) : Int) := by rw [hT2, nI_toInt (by omega)]
      have w9 := (hW (i % dH (DD k))).2
      have v9 := (hW2 (i / dH (DD k) % dH (DD k))).2
      have vT : W2 (i / dH (DD k) % dH (DD k)) ≤ sNn W2 (dH (DD k)) := by
        have h1 : sNn W2 (i / dH (DD k) % dH (DD k) + 1) ≤ sNn W2 (dH (DD k)) := sNn_mono (Nat.mod_lt _ (by omega))
        have h2 : sNn W2 (i / dH (DD k) % dH (DD k) + 1) = sNn W2 (i / dH (DD k) % dH (DD k)) + W2 (i / dH (DD k) % dH (DD k)) := rfl
        omega
      have eA : (sp_w (DD k) (rul (DD k)) (i % dH (DD k))).toInt64.toInt = (W (i % dH (DD k)) : Int) := by rw [i_64]; exact eWx _
      have eB : (sp_w (DD k) (pox (DD k) (i % dH (DD k))) (i / dH (DD k) % dH (DD k))).toInt64.toInt = (W2 (i / dH (DD k) % dH (DD k)) : Int) := by rw [i_64]; exact eW2x _
      have ab := abs_mul (a := 9) (b := 9) (x := (W (i % dH (DD k)) : Int)) (y := (W2 (i / dH (DD k) % dH (DD k)) : Int)) (by decide) (by decide) (by omega) (by omega)
      have nn : (0 : Int) ≤ (W (i % dH (DD k)) : Int) * (W2 (i / dH (DD k) % dH (DD k)) : Int) := Int.mul_nonneg (by omega) (by omega)
      have tt := abs_mul (a := 108) (b := 108) (x := (sp_t (DD k) (rul (DD k))).toInt) (y := (sp_t (DD k) (pox (DD k) (i % dH (DD k)))).toInt) (by decide) (by decide) (by omega) (by omega)
      have eX : (1 * (sp_w (DD k) (sp_po (dP (DD k)) (dpu (DD k))) (i % dH (DD k))).toInt64 * (sp_w (DD k) (sp_po (dP (DD k)) (fun p => dpu (DD k) p + sp_vl (DD k) p (i % dH (DD k)))) (i / dH (DD k) % dH (DD k))).toInt64).toInt = (W (i % dH (DD k)) : Int) * (W2 (i / dH (DD k) % dH (DD k)) : Int) := by
        show (1 * (sp_w (DD k) (rul (DD k)) (i % dH (DD k))).toInt64 * (sp_w (DD k) (pox (DD k) (i % dH (DD k))) (i / dH (DD k) % dH (DD k))).toInt64).toInt = _
        rw [Int64.one_mul, i64_mul (by rw [eA, eB]; omega) (by rw [eA, eB]; omega), eA, eB]
      have eY : (1 * (sp_t (DD k) (sp_po (dP (DD k)) (dpu (DD k)))).toInt64 * (sp_t (DD k) (sp_po (dP (DD k)) (fun p => dpu (DD k) p + sp_vl (DD k) p (i % dH (DD k))))).toInt64).toInt = (sp_t (DD k) (rul (DD k))).toInt * (sp_t (DD k) (pox (DD k) (i % dH (DD k)))).toInt := by
        show (1 * (sp_t (DD k) (rul (DD k))).toInt64 * (sp_t (DD k) (pox (DD k) (i % dH (DD k)))).toInt64).toInt = _
        rw [Int64.one_mul, i64_mul (by rw [i_64, i_64]; omega) (by rw [i_64, i_64]; omega), i_64, i_64]
      refine fin68E hA (w := rwx (DD k) p 2 b i) ok L7 hbv hp (by decide) F7 E7 c0 d0 cd (by rw [eX]; omega) (by rw [eY]; exact Int.mul_pos tb0.1 tb2.1) (by rw [eY]; exact tx1_dvd ok (by omega) _) ?_ ?_ _ K
      · rw [eX, eY, dn1 (by decide), T2]
        have g1 : (W (i % dH (DD k)) : Int) * (W2 (i / dH (DD k) % dH (DD k)) : Int) ≤ (W (i % dH (DD k)) : Int) * (sNn W2 (dH (DD k)) : Int) := Int.mul_le_mul_of_nonneg_left (by omega) (by omega)
        have g2 := Int.mul_le_mul_of_nonneg_right (Int.mul_le_mul_of_nonneg_right g1 (show (0 : Int) ≤ 3573 by decide)) (Int.le_of_lt tb0.1)
        refine Int.le_trans g2 (Int.le_of_eq ?_)
        ac_rfl
      · rw [eX, eY, ← eWx, ← eW2x]
        show wx0 (DD k) (i % dH (DD k)) * wx1 (DD k) (i % dH (DD k)) (i / dH (DD k) % dH (DD k)) * mx2 (DD k) p b (i % dH (DD k)) (i / dH (DD k) % dH (DD k)) * sL (DD k) = rwx (DD k) p 2 b i * (tx0 (DD k) * tx1 (DD k) (i % dH (DD k)))
        rw [show rwx (DD k) p 2 b i = wx0 (DD k) (i % dH (DD k)) * wx1 (DD k) (i % dH (DD k)) (i / dH (DD k) % dH (DD k)) * mx2 (DD k) p b (i % dH (DD k)) (i / dH (DD k) % dH (DD k)) * ux1 (DD k) (i % dH (DD k)) from by unfold rwx; rw [if_neg (by decide), if_neg (by decide)]; rfl]
        have e := ux1_e ok (by omega) (i % dH (DD k))
        rw [e]
        ac_rfl
  have k44 : ∀ (tot : Nat) (cc dd : Nat → Int), tot ≤ 144 → tot = rwn (DD k) n → (∀ i, i < tot → 0 ≤ cc i ∧ 0 ≤ dd i ∧ cc i + dd i ≤ 42876 * (sp_t (DD k) (rul (DD k))).toInt ∧ cc (i + 1) = cc i + dd i ∧ (n = 0 → dd i = 3573 * (sp_t (DD k) (rul (DD k))).toInt) ∧ (1 ≤ n → dd i = 3573 * (W (i % dH (DD k)) : Int))) → ∀ f i : Nat, i + f = tot → ∀ h3, lvm h h3 k (DD k) → fOk (ax_l h3 77 56) (ax_l h3 77 57) (sL (DD k)) (sp_t (DD k) (rul (DD k))).toInt (cc i) → fXx (ax_l h3 77 56) (ax_l h3 77 57) (sumI (rwx (DD k) p n b) i) (sL (DD k)) → ∀ o6 o7 o8 o9 o10 o11 o12 : Option Value, A (44, [some (.ref 77), some (.int (nI p)), some (.int (nI n)), some (.int b), some (.int (nI tot)), some (.int (nI i)), o6, o7, o8, o9, o10, o11, o12], [], h3, 0, 0) := by
    intro tot cc dd ht htn hcc f
    induction f with
    | zero =>
      intro i hi h3 L3 F3 X3 o6 o7 o8 o9 o10 o11 o12
      refine vX10_expect_44 hA ⟨fun _ => hq h3 L3 ?_, fun q => absurd (nI_le (by omega) (by omega)) q⟩
      rw [← hvx_rows ok, ← htn, show tot = i by omega]; exact X3
    | succ f ih =>
      intro i hi h3 L3 F3 X3 o6 o7 o8 o9 o10 o11 o12
      obtain ⟨pu3, mc3, -⟩ := L3.2
      obtain ⟨c1, c2, c3, c4, c5, c6⟩ := hcc i (by omega)
      refine vX10_expect_44 hA ⟨fun q => absurd q (nI_ge (by omega) (by omega)), fun _ => ⟨mc3.1.1.1, go tot i (cc i) (dd i) _ c1 c2 c3 (by omega) c5 c6 h3 L3 F3 X3.2.2.1 (fun h2 L2 F2 X2 p6 p7 p8 p9 p10 p11 p12 => ?_) _⟩⟩
      rw [← nI_succ]
      exact ih (i + 1) (by omega) h2 L2 (by rw [c4]; exact F2) X2 _ _ _ _ _ _ _
  have HH : dH (DD k) * dH (DD k) ≤ 144 := Nat.mul_le_mul H12 H12
  have HS : dH (DD k) * sNn W (dH (DD k)) ≤ 12 * sNn W (dH (DD k)) := Nat.mul_le_mul_right _ H12
  have cp : 1 ≤ n → ∀ tot, tot ≤ dH (DD k) * dH (DD k) → ∀ i, i < tot → 0 ≤ 3573 * (oM W (dH (DD k)) i : Int) ∧ 0 ≤ 3573 * (W (i % dH (DD k)) : Int) ∧ 3573 * (oM W (dH (DD k)) i : Int) + 3573 * (W (i % dH (DD k)) : Int) ≤ 42876 * (sp_t (DD k) (rul (DD k))).toInt ∧ 3573 * (oM W (dH (DD k)) (i + 1) : Int) = 3573 * (oM W (dH (DD k)) i : Int) + 3573 * (W (i % dH (DD k)) : Int) ∧ (n = 0 → 3573 * (W (i % dH (DD k)) : Int) = 3573 * (sp_t (DD k) (rul (DD k))).toInt) ∧ (1 ≤ n → 3573 * (W (i % dH (DD k)) : Int) = 3573 * (W (i % dH (DD k)) : Int)) := fun n1 tot ht i hi => by
    have e := oM_succ (W := W) (H := dH (DD k)) (i := i) (by omega)
    have l := oM_le (W := W) (H := dH (DD k)) (i := i + 1) (by omega) (by omega)
    refine ⟨by omega, by omega, by rw [T0]; omega, by omega, fun q => by omega, fun _ => rfl⟩
  have o0 : 3573 * (oM W (dH (DD k)) 0 : Int) = 0 := by
    have : oM W (dH (DD k)) 0 = 0 := by unfold oM; rw [Nat.zero_div, Nat.zero_mod, Nat.zero_mul]; rfl
    rw [this]; rfl
  refine ⟨fun q0 => ⟨fun q1 => ⟨s00, s00, ?_⟩, fun q1 => ⟨s00, ?_⟩⟩, fun q0 => ?_⟩
  · have n0 : n ≠ 0 := fun e => q0 (by rw [e]; exact nI_0)
    have n1 : n ≠ 1 := fun e => q1 (by rw [e]; rfl)
    rw [e26, pk_mul]
    exact k44 (dH (DD k) * dH (DD k)) (fun i => 3573 * (oM W (dH (DD k)) i : Int)) (fun i => 3573 * (W (i % dH (DD k)) : Int)) HH (by unfold rwn; rw [if_neg n0, if_neg n1]) (cp (by omega) _ (Nat.le_refl _)) (dH (DD k) * dH (DD k)) 0 (by omega) u2 Lu (f0 _ o0) x0 _ _ _ _ _ _ _
  · have n0 : n ≠ 0 := fun e => q0 (by rw [e]; exact nI_0)
    have n1 : n = 1 := (nI_eq (by omega) (by decide)).mp (q1.trans rfl)
    have hh1 : dH (DD k) ≤ dH (DD k) * dH (DD k) := Nat.le_mul_of_pos_left _ (by omega)
    rw [e26]
    exact k44 (dH (DD k)) (fun i => 3573 * (oM W (dH (DD k)) i : Int)) (fun i => 3573 * (W (i % dH (DD k)) : Int)) (by omega) (by unfold rwn; rw [if_neg n0, if_pos n1]) (cp (by omega) _ hh1) (dH (DD k)) 0 (by omega) u2 Lu (f0 _ o0) x0 _ _ _ _ _ _ _
  · have n0 : n = 0 := (nI_eq (by omega) (by decide)).mp (q0.trans nI_0.symm)
    refine k44 1 (fun i => 3573 * (sp_t (DD k) (rul (DD k))).toInt * (i : Int)) (fun _ => 3573 * (sp_t (DD k) (rul (DD k))).toInt) (by decide) (by unfold rwn; rw [if_pos n0]) (fun i hi => ?_) 1 0 (by decide) u2 Lu (f0 _ (by show 3573 * (sp_t (DD k) (rul (DD k))).toInt * ((0 : Nat) : Int) = 0; rw [Int.natCast_zero, Int.mul_zero])) x0 _ _ _ _ _ _ _
    have ei : i = 0 := by omega
    subst ei
    refine ⟨by show 0 ≤ 3573 * (sp_t (DD k) (rul (DD k))).toInt * ((0 : Nat) : Int); rw [Int.natCast_zero, Int.mul_zero]; exact Int.le_refl _, by show 0 ≤ 3573 * (sp_t (DD k) (rul (DD k))).toInt; omega, ?_, ?_, fun _ => rfl, fun q => by omega⟩
    · show 3573 * (sp_t (DD k) (rul (DD k))).toInt * ((0 : Nat) : Int) + 3573 * (sp_t (DD k) (rul (DD k))).toInt ≤ _
      rw [Int.natCast_zero, Int.mul_zero]; omega
    · show 3573 * (sp_t (DD k) (rul (DD k))).toInt * ((1 : Nat) : Int) = 3573 * (sp_t (DD k) (rul (DD k))).toInt * ((0 : Nat) : Int) + 3573 * (sp_t (DD k) (rul (DD k))).toInt
      rw [Int.natCast_zero, Int.mul_zero, Int.natCast_one, Int.mul_one]; omega
end
theorem q10_hope {x1 x2 x3 x4 : Int32} {V : Int64} (a : tc h z DD N C) (hV : ansE (hG z DD x1 x2 x3) (hVl DD 0 x4) (-1000000) V) (hq : ∀ h', ax_same md_F h h' → Ret (some (.long V)) h') : mX10_hope g [.ref 77, .int x1, .int x2, .int x3, .int x4] h Ret := by
  obtain ⟨a1, T1, hs1⟩ := q_code (v := 0) a.2.1 a.2.2.2.1
  refine eX10_hope ⟨a.2.1.1, ?_⟩
  intro h1
  refine c_min ⟨_, rfl, fun q2 => ?_, fun q2 => ⟨a1.1, q_handOne a1 T1 a.2.2.2.2 (fun h' hs no => ⟨_, rfl, fun q => absurd rfl q, fun _ => ?_⟩) (fun k p hk ex ok hp ep h' hs hm => ⟨_, rfl, fun _ => ⟨hm.1.1.1.1, ?_⟩, fun q => absurd q (by decide)⟩)⟩⟩
  · rw [← ans_no hV (fun t G => of_decide_eq_false (b2i_0.mp q2) ⟨by rw [G.2.2.2.2.2]; exact nI_pos' (by have := G.2.2.2.2.1; omega), by rw [G.2.2.2.2.2]; exact nI_le (b := 2) G.2.2.2.2.1 (by decide)⟩)]
    exact hq _ hs1
  · rw [← ans_no hV (fun t G => by have := no t.1 G.1 G.2.1; rw [G.2.2.2.1, sp_in_nI (by have := (a.2.2.2.2.2.1 t.1 G.1).2.1; omega) G.2.2.1] at this; cases this)]
    exact hq _ (sm_tr hs1 hs)
  · subst ep
    obtain ⟨n, _, hn, rfl⟩ := i_rng (a := 0) (b := 2) (by decide) (by decide) (of_decide_eq_true (b2i_n0.mp q2)).1 (of_decide_eq_true (b2i_n0.mp q2)).2
    have G : hG z DD x1 (nI p) (nI n) (k, p, n) := ⟨hk, ex, hp, rfl, hn, rfl⟩
    refine c_expectE ok (lvm_hm (sm_tr hs1 hs) hm) hn hp (fun h2 L2 X => ⟨rfl, ?_⟩)
    obtain ⟨pu, mc, -⟩ := L2.2
    have eV : V = if x4 = 0 then ax_l h2 77 56 else ax_l h2 77 57 := (ans_yes hV G (fun t' G' => hG_u a.2.2.2.2 G G')).trans (fx_side (sL_bd ok).1 X)
    exact ⟨fun q => ⟨mc.1.1.1, by rw [if_pos q] at eV; rw [← eV]; exact hq _ L2.1⟩, fun q => ⟨mc.1.1.1, by rw [if_neg q] at eV; rw [← eV]; exact hq _ L2.1⟩⟩
theorem q10_doom {x1 x2 x3 x4 : Int32} {V : Int64} (a : tc h z DD N C) (hV : ansE (hG z DD x1 x2 x3) (hVl DD 1 x4) (-1) V) (hq : ∀ h', ax_same md_F h h' → Ret (some (.long V)) h') : mX10_doom g [.ref 77, .int x1, .int x2, .int x3, .int x4] h Ret := by
  obtain ⟨a1, T1, hs1⟩ := q_code (v := 0) a.2.1 a.2.2.2.1
  refine eX10_doom ⟨a.2.1.1, ?_⟩
  intro h1
  refine c_min ⟨_, rfl, fun q2 => ?_, fun q2 => ⟨a1.1, q_handOne a1 T1 a.2.2.2.2 (fun h' hs no => ⟨_, rfl, fun q => absurd rfl q, fun _ => ?_⟩) (fun k p hk ex ok hp ep h' hs hm => ⟨_, rfl, fun _ => ⟨hm.1.1.1.1, ?_⟩, fun q => absurd q (by decide)⟩)⟩⟩
  · rw [← ans_no hV (fun t G => of_decide_eq_false (b2i_0.mp q2) ⟨by rw [G.2.2.2.2.2]; exact nI_pos' (by have := G.2.2.2.2.1; omega), by rw [G.2.2.2.2.2]; exact nI_le (b := 2) G.2.2.2.2.1 (by decide)⟩)]
    exact hq _ hs1
  · rw [← ans_no hV (fun t G => by have := no t.1 G.1 G.2.1; rw [G.2.2.2.1, sp_in_nI (by have := (a.2.2.2.2.2.1 t.1 G.1).2.1; omega) G.2.2.1] at this; cases this)]
    exact hq _ (sm_tr hs1 hs)
  · subst ep
    obtain ⟨n, _, hn, rfl⟩ := i_rng (a := 0) (b := 2) (by decide) (by decide) (of_decide_eq_true (b2i_n0.mp q2)).1 (of_decide_eq_true (b2i_n0.mp q2)).2
    have G : hG z DD x1 (nI p) (nI n) (k, p, n) := ⟨hk, ex, hp, rfl, hn, rfl⟩
    refine c_expectE ok (lvm_hm (sm_tr hs1 hs) hm) hn hp (fun h2 L2 X => ⟨rfl, ?_⟩)
    obtain ⟨pu, mc, -⟩ := L2.2
    have eV : V = if x4 = 0 then ax_l h2 77 56 else ax_l h2 77 57 := (ans_yes hV G (fun t' G' => hG_u a.2.2.2.2 G G')).trans (fx_side (sL_bd ok).1 X)
    exact ⟨fun q => ⟨mc.1.1.1, by rw [if_pos q] at eV; rw [← eV]; exact hq _ L2.1⟩, fun q => ⟨mc.1.1.1, by rw [if_neg q] at eV; rw [← eV]; exact hq _ L2.1⟩⟩
theorem g_hope (a : IV h S Im tp) (b : 103 ≤ h.1 ∧ h.1 ≤ B) (x1 x2 x3 x4 : Int32) : prL (mX9_hope g) (mX10_hope g) [.ref 0, .int x1, .int x2, .int x3, .int x4] [.ref 77, .int x1, .int x2, .int x3, .int x4] h (inv B) := by
  obtain ⟨V, hV⟩ := ans_ex (hG (s_z S) (s_D S) x1 x2 x3) (hVl (s_D S) 0 x4) (-1000000)
  exact pr_ql V a b (fun Ret k => q9_hope (iv_tc a) hV k) (fun h1 Ret a1 k => q10_hope (iv_tc a1) hV k)
theorem g_doom (a : IV h S Im tp) (b : 103 ≤ h.1 ∧ h.1 ≤ B) (x1 x2 x3 x4 : Int32) : prL (mX9_doom g) (mX10_doom g) [.ref 0, .int x1, .int x2, .int x3, .int x4] [.ref 77, .int x1, .int x2, .int x3, .int x4] h (inv B) := by
  obtain ⟨V, hV⟩ := ans_ex (hG (s_z S) (s_D S) x1 x2 x3) (hVl (s_D S) 1 x4) (-1)
  exact pr_ql V a b (fun Ret k => q9_doom (iv_tc a) hV k) (fun h1 Ret a1 k => q10_doom (iv_tc a1) hV k)
end
end

