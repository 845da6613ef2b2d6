section
variable {g : ax_G} {Ret : Option Value → ax_H → Prop} {h : ax_H}
/-! the class's planner, exactly -/
def cC : Int64 := -1152921504606846976
def encC : Option Int → Int64
  | none => cC
  | some v => Int64.ofInt v
theorem ofI {v : Int} (h1 : -9223372036854775808 ≤ v) (h2 : v < 9223372036854775808) : (Int64.ofInt v).toInt = v := Int64.toInt_ofInt_of_le (by omega) (by omega)
theorem ofI_eq {x : Int64} {v : Int} (h1 : -9223372036854775808 ≤ v) (h2 : v < 9223372036854775808) (e : x.toInt = v) : x = Int64.ofInt v := l_inj (by rw [ofI h1 h2]; exact e)
theorem cC_int : cC.toInt = -1152921504606846976 := by decide
theorem ofI_ne {v : Int} (b : -1000000000000000 ≤ v ∧ v ≤ 1000000000000000) : Int64.ofInt v ≠ cC := fun e => by
  have := congrArg Int64.toInt e
  rw [ofI (by omega) (by omega), cC_int] at this
  omega
theorem shl24e (x : Int64) : x <<< ((24 : Int32).toInt64 &&& 63) = x * 16777216 := by
  apply Int64.toBitVec_inj.mp
  apply BitVec.eq_of_toNat_eq
  rw [Int64.toBitVec_shiftLeft, Int64.toBitVec_mul, show (((24 : Int32).toInt64 &&& 63).toBitVec.smod 64) = 24#64 from by decide +kernel]
  show (x.toBitVec <<< (24#64).toNat).toNat = (x.toBitVec * (16777216 : Int64).toBitVec).toNat
  rw [BitVec.toNat_shiftLeft, BitVec.toNat_mul, show (24#64).toNat = 24 from rfl, Nat.shiftLeft_eq, show (16777216 : Int64).toBitVec.toNat = 2 ^ 24 from by decide]
theorem shl24 {x : Int64} (b : -500000000000 ≤ x.toInt ∧ x.toInt ≤ 500000000000) : (x <<< ((24 : Int32).toInt64 &&& 63)).toInt = x.toInt * 16777216 := by
  have e : (16777216 : Int64).toInt = 16777216 := by decide
  rw [shl24e, i64_mul (by rw [e]; omega) (by rw [e]; omega), e]
theorem shlH : ∀ q, q < 12 → ∀ i, i < 6 → (nI q).toInt64 <<< (((4 : Int32) * (5 - nI i)).toInt64 &&& 63) = Int64.ofInt ((q : Int) * 16 ^ (5 - i)) := by decide +kernel
theorem shrI (x : Int64) {i : Nat} (hi : i < 6) : (x >>> (((4 : Int32) * (5 - nI i)).toInt64 &&& 63)).toInt = x.toInt / 16 ^ (5 - i) := by
  have e : ∀ i, i < 6 → (((4 : Int32) * (5 - nI i)).toInt64 &&& 63).toBitVec.smod 64 = BitVec.ofNat 64 (4 * (5 - i)) := by decide +kernel
  have p : ∀ i, i < 6 → ((2 ^ (4 * (5 - i)) : Nat) : Int) = 16 ^ (5 - i) := by decide
  show (x >>> (((4 : Int32) * (5 - nI i)).toInt64 &&& 63)).toBitVec.toInt = _
  rw [Int64.toBitVec_shiftRight, e i hi]
  show (x.toBitVec.sshiftRight (BitVec.ofNat 64 (4 * (5 - i))).toNat).toInt = _
  rw [BitVec.toInt_sshiftRight, show (BitVec.ofNat 64 (4 * (5 - i))).toNat = 4 * (5 - i) from by rw [BitVec.toNat_ofNat]; exact Nat.mod_eq_of_lt (by omega), Int.shiftRight_eq_div_pow, p i hi]
  rfl
theorem shr24e (x : Int64) : (x >>> ((24 : Int32).toInt64 &&& 63)).toInt = x.toInt / 16777216 := by
  show (x >>> ((24 : Int32).toInt64 &&& 63)).toBitVec.toInt = _
  rw [Int64.toBitVec_shiftRight, show (((24 : Int32).toInt64 &&& 63).toBitVec.smod 64) = 24#64 from by decide +kernel]
  show (x.toBitVec.sshiftRight 24).toInt = _
  rw [BitVec.toInt_sshiftRight, Int.shiftRight_eq_div_pow]; rfl
theorem and_nI (a b : Nat) : nI a &&& nI b = nI (a &&& b) := by
  refine Int32.toBitVec_inj.mp ?_
  rw [Int32.toBitVec_and]
  exact (BitVec.ofNat_and).symm
theorem dgt {x : Int64} {d : Int} (e : x.toInt = d) (h0 : 0 ≤ d) (h1 : d < 16777216) : x.toInt32 &&& 15 = nI (d % 16).toNat := by
  obtain ⟨m, rfl⟩ := Int.eq_ofNat_of_zero_le h0
  have e1 : x.toInt32 = nI m := by
    apply Int32.toInt_inj.mp
    rw [Int64.toInt_toInt32, e, nI_toInt (by omega)]
    exact Int.bmod_eq_of_le (by omega) (by omega)
  rw [e1, show (15 : Int32) = nI 15 from rfl, and_nI, show (15 : Nat) = 2 ^ 4 - 1 from rfl, Nat.and_two_pow_sub_one_eq_mod]
  congr 1
/-- what an errand is worth, times all weights -/
def scC (D : rD) (K : Nat → Int32) (w : Nat → Int32) (t : Int32) (i q : Nat) : Int := (sp_wo D (K i)).toInt * t.toInt + (sp_ex D (K i)).toInt * (w q).toInt
theorem sc_bd {D : rD} (ok : rd_ok D) {K w : Nat → Int32} {t : Int32} (ht : 0 ≤ t.toInt ∧ t.toInt ≤ 108) {q : Nat} (hw : 0 ≤ (w q).toInt ∧ (w q).toInt ≤ 9) (i : Nat) : -11583 ≤ scC D K w t i q ∧ scC D K w t i q ≤ 11583 := by
  have a := wo_bd ok (K i)
  have b := ex_bd ok (K i) (sp_mo D (K i))
  have m1 := abs_mul (a := 99) (b := 108) (x := (sp_wo D (K i)).toInt) (y := t.toInt) (by decide) (by decide) (by omega) (by omega)
  have m2 := abs_mul (a := 99) (b := 9) (x := (sp_ex D (K i)).toInt) (y := (w q).toInt) (by decide) (by decide) b (by omega)
  unfold scC
  omega
theorem pk_bd {sc : Nat → Nat → Int} {i q : Nat} (b : -11583 ≤ sc i q ∧ sc i q ≤ 11583) (hq : q < 12) (hi : i < 6) : -200000000000 ≤ pk sc i q ∧ pk sc i q ≤ 200000000000 := by
  have p := p16 i (by omega)
  have m := Int.mul_le_mul (show (q : Int) ≤ 12 by omega) (show (16 : Int) ^ (5 - i) ≤ 1048576 by omega) (by omega) (by decide)
  have n : 0 ≤ (q : Int) * 16 ^ (5 - i) := Int.mul_nonneg (by omega) (by omega)
  unfold pk
  omega
def mayC (C1 : Nat → Nat → Int32) (x : Int32) (i q : Nat) : Bool := if x = 0 then (!decide (nI q < C1 i 1) && !decide (C1 i 2 < nI q)) else true
section
variable {r l n o : Nat} {D : rD} {C1 : Nat → Nat → Int32} {w : Nat → Int32} {t : Int32}
theorem c_scoreOfE {q i : Nat} (ok : rd_ok D) (rc : rc_at h r D) (od : od_at h o (dH D) w t) (hq0 : q < dH D) (hi : i < 6) (ht : 0 ≤ t.toInt ∧ t.toInt ≤ 108) (hw : 0 ≤ (w q).toInt ∧ (w q).toInt ≤ 9) (hq : Ret (some (.long (Int64.ofInt (pk (scC D (fun i => C1 i 0) w t) i q)))) h) : mX4_scoreOf g [.ref r, .ref o, .int (C1 i 0), .int (nI i), .int (nI q)] h Ret := by
  have H12 := ok.1.2
  refine eX4_scoreOf ⟨rc.1.1, c_worthOf rc ⟨_, rfl, od.1.1, rc.1.1, c_extraOf rc ⟨_, rfl, od.1.1, _, od.1.2.1, by rw [od.1.2.2], by rw [od.1.2.2]; exact vp_in_nI (by omega) (by decide), ?_⟩⟩⟩
  intro z8
  have a := wo_bd ok (C1 i 0)
  have b := ex_bd ok (C1 i 0) (sp_mo D (C1 i 0))
  have m1 := abs_mul (a := 99) (b := 108) (x := (sp_wo D (C1 i 0)).toInt) (y := t.toInt) (by decide) (by decide) (by omega) (by omega)
  have m2 := abs_mul (a := 99) (b := 9) (x := (sp_ex D (C1 i 0)).toInt) (y := (w q).toInt) (by decide) (by decide) b (by omega)
  have e8 : z8.toInt = scC D (fun i => C1 i 0) w t i q := by
    show ((sp_wo D (C1 i 0)).toInt64 * (ax_i h o 2).toInt64 + (sp_ex D (C1 i 0)).toInt64 * (ax_i h (o + 1) (nI q).toNatClampNeg).toInt64).toInt = _
    rw [nI_clamp (by omega), od.2.2.2.2 q hq0, od.2.2.2.1]
    have x1 : ((sp_wo D (C1 i 0)).toInt64 * t.toInt64).toInt = (sp_wo D (C1 i 0)).toInt * t.toInt := by rw [i64_mul (by rw [i_64, i_64]; omega) (by rw [i_64, i_64]; omega), i_64, i_64]
    have x2 : ((sp_ex D (C1 i 0)).toInt64 * (w q).toInt64).toInt = (sp_ex D (C1 i 0)).toInt * (w q).toInt := by rw [i64_mul (by rw [i_64, i_64]; omega) (by rw [i_64, i_64]; omega), i_64, i_64]
    rw [i64_add (by rw [x1, x2]; omega) (by rw [x1, x2]; omega), x1, x2]
    rfl
  have sb := sc_bd ok (K := fun i => C1 i 0) (w := w) (q := q) ht hw i
  have pb := pk_bd (sc := scC D (fun i => C1 i 0) w t) (q := q) sb (by omega) hi
  refine eX4_rowShift ⟨_, rfl, ?_⟩
  intro z12
  have e12 : z12.toInt = pk (scC D (fun i => C1 i 0) w t) i q := by
    show ((z8 <<< ((24 : Int32).toInt64 &&& 63)) - ((nI q).toInt64 <<< (((4 : Int32) * (5 - nI i)).toInt64 &&& 63))).toInt = _
    have p := p16 i (by omega)
    have m := Int.mul_le_mul (show (q : Int) ≤ 12 by omega) (show (16 : Int) ^ (5 - i) ≤ 1048576 by omega) (by omega) (by decide)
    have nn : 0 ≤ (q : Int) * 16 ^ (5 - i) := Int.mul_nonneg (by omega) (by omega)
    have y1 : (z8 <<< ((24 : Int32).toInt64 &&& 63)).toInt = scC D (fun i => C1 i 0) w t i q * 16777216 := by rw [shl24 (by rw [e8]; omega), e8]
    rw [shlH q (by omega) i hi, i64_sub (by rw [y1, ofI (by omega) (by omega)]; omega) (by rw [y1, ofI (by omega) (by omega)]; omega), y1, ofI (by omega) (by omega)]
    rfl
  rw [ofI_eq (by omega) (by omega) e12]
  exact hq
theorem bt_0 : ∀ s, s < 64 → ∀ i, i < 6 → ((nI s &&& ((1 : Int32) <<< (nI i &&& 31))) = 0 ↔ s.testBit i = false) := by decide +kernel
theorem bt_x : ∀ s, s < 64 → ∀ i, i < 6 → s.testBit i = true → s ^^^ 2 ^ i < s := by decide +kernel
theorem encC_max {a : Option Int} {y : Int} (ba : ∀ x, a = some x → -1000000000000000 ≤ x ∧ x ≤ 1000000000000000) (b : -1000000000000000 ≤ y ∧ y ≤ 1000000000000000) : (if Int64.ofInt y < encC a then encC a else Int64.ofInt y) = encC (omax a (some y)) := by
  cases a with
  | none =>
    show (if Int64.ofInt y < cC then cC else Int64.ofInt y) = Int64.ofInt y
    rw [if_neg (by rw [l_lt, ofI (by omega) (by omega), cC_int]; omega)]
  | some x =>
    have bx := ba x rfl
    show (if Int64.ofInt y < Int64.ofInt x then Int64.ofInt x else Int64.ofInt y) = Int64.ofInt (if x < y then y else x)
    by_cases q : x < y
    · rw [if_pos q, if_neg (by rw [l_lt, ofI (by omega) (by omega), ofI (by omega) (by omega)]; omega)]
    · rw [if_neg q]
      by_cases q2 : y < x
      · rw [if_pos (by rw [l_lt, ofI (by omega) (by omega), ofI (by omega) (by omega)]; omega)]
      · rw [show y = x by omega, if_neg (by rw [l_lt]; omega)]
section
variable {may : Nat → Nat → Bool} {Sx : Nat → Nat → Int}
theorem c_bestOfE {s q : Nat} {R : Nat → Option Int} (pl : pl_st h 59) (hn : n ≤ 6) (hs : s < 2 ^ n) (T : ∀ s', s' ≤ s → ax_l h 62 s' = encC (R s')) (Sc : ∀ j, j < n → ax_l h 63 j = if may j q = true then Int64.ofInt (Sx j q) else cC) (bR : ∀ s' v, s' ≤ s → R s' = some v → -500000000000000 ≤ v ∧ v ≤ 500000000000000) (bS : ∀ j, j < n → -200000000000 ≤ Sx j q ∧ Sx j q ≤ 200000000000) (hq : Ret (some (.long (encC (cfl (R s) (ccn may Sx q s R) n)))) h) : mX4_bestOf g [.ref 59, .int (nI s), .int (nI n)] h Ret := by
  have p2 : ∀ m, m ≤ 6 → 1 ≤ 2 ^ m ∧ 2 ^ m ≤ 64 := by decide
  have s64 : s < 64 := by have := p2 n hn; omega
  have v64 : ∀ {a : Nat}, a < 64 → vp_in (nI a) (ax_s h (59 + 3)).2 := fun ha => by rw [pl.2.2.2.2.1]; exact vp_in_nI ha (by decide)
  have s62 : (ax_s h (59 + 3)).1 = 14 := by rw [pl.2.2.2.2.1]
  have s63 : (ax_s h (59 + 4)).1 = 14 := by rw [pl.2.2.2.2.2.1]
  have bC : ∀ i, i < n → ∀ v, ccn may Sx q s R i = some v → -900000000000000 ≤ v ∧ v ≤ 900000000000000 := fun i hi v e => by
    obtain ⟨b, -, r, er, e2⟩ := ccn_some e
    have h1 := bR _ r (Nat.le_of_lt (bt_x s s64 i (by omega) b)) er
    have h2 := bS i hi
    omega
  have bF : ∀ i, i ≤ n → ∀ v, cfl (R s) (ccn may Sx q s R) i = some v → -1000000000000000 ≤ v ∧ v ≤ 1000000000000000 := fun i hi v e => by
    rcases (cfl_some e).2.2 with e1 | ⟨j, hj, ej⟩
    · have := bR s v (Nat.le_refl _) e1; omega
    · have := bC j (by omega) v ej; omega
  refine uX4_bestOf (fun A hA => vX4_bestOf_0 hA ⟨pl.1, _, pl.2.1.2.2.1, s62, v64 s64, ?_⟩)
  have key : ∀ m i : Nat, i + m = n → ∀ (x3 : Int64) (o6 : Option Value), x3 = encC (cfl (R s) (ccn may Sx q s R) i) → A (10, [some (.ref 59), some (.int (nI s)), some (.int (nI n)), some (.long x3), none, some (.int (nI i)), o6], [], h, 0, 0) := by
    intro m
    induction m with
    | zero =>
      intro i hi x3 o6 e3
      refine vX4_bestOf_10 hA ⟨fun _ => ?_, fun q => absurd (nI_le (by omega) (by omega)) q⟩
      rw [e3, show i = n by omega]; exact hq
    | succ m ih =>
      intro i hi x3 o6 e3
      have i6 : i < 6 := by omega
      have v6 : vp_in (nI i) (ax_s h (59 + 4)).2 := by rw [pl.2.2.2.2.2.1]; exact vp_in_nI (by omega) (by decide)
      obtain ⟨ex, xl⟩ := xo_1 s s64 i i6
      have vx : vp_in (nI s ^^^ ((1 : Int32) <<< (nI i &&& 31))) (ax_s h (59 + 3)).2 := by rw [ex]; exact v64 xl
      have K : ∀ (x3 : Int64) (o6 : Option Value), x3 = encC (omax (cfl (R s) (ccn may Sx q s R) i) (ccn may Sx q s R i)) → A (10, [some (.ref 59), some (.int (nI s)), some (.int (nI n)), some (.long x3), none, some (.int (nI i + 1)), o6], [], h, 0, 0) := fun x3 o6 e => by rw [← nI_succ]; exact ih (i + 1) (by omega) _ _ e
      have skip : ccn may Sx q s R i = none → x3 = encC (omax (cfl (R s) (ccn may Sx q s R) i) (ccn may Sx q s R i)) := fun e => by
        rw [e, e3]
        cases cfl (R s) (ccn may Sx q s R) i <;> rfl
      have ec : nI i = nI i := rfl
      have e63 : ax_l h (59 + 4) (nI i).toNatClampNeg = if may i q = true then Int64.ofInt (Sx i q) else cC := by rw [nI_clamp (by omega)]; exact Sc i (by omega)
      have bSi := bS i (by omega)
      refine vX4_bestOf_10 hA ⟨fun q => absurd q (nI_ge (by omega) (by omega)), fun _ => ⟨fun b0 => K _ _ (skip ?_), fun b0 => ⟨pl.1, _, pl.2.1.2.2.2.1, s63, v6, fun m0 => K _ _ (skip ?_), fun m0 => ⟨pl.1, _, pl.2.1.2.2.1, s62, vx, fun r0 => K _ _ (skip ?_), fun r0 => ⟨pl.1, _, pl.2.1.2.2.1, s62, vx, pl.1, _, pl.2.1.2.2.2.1, s63, v6, K _ _ ?_⟩⟩⟩⟩⟩
      · have := (bt_0 s s64 i i6).mp b0
        unfold ccn
        rw [this, Bool.false_and, if_neg (by decide)]
      · have e0 := cmp_eq.mp m0
        rw [e63] at e0
        have mf : ¬ may i q = true := fun mt => by rw [if_pos mt] at e0; exact ofI_ne (by omega) e0
        unfold ccn
        rw [if_neg (by rw [Bool.and_eq_true]; exact fun w => mf w.2)]
      · have bt : s.testBit i = true := by cases e : s.testBit i with
          | true => rfl
          | false => exact absurd ((bt_0 s s64 i i6).mpr e) b0
        have lt := bt_x s s64 i i6 bt
        have e0 := cmp_eq.mp r0
        rw [ex, nI_clamp (by omega), show (59 + 3 : Nat) = 62 from rfl, T _ (Nat.le_of_lt lt)] at e0
        unfold ccn
        split
        · cases er : R (s ^^^ 2 ^ i) with
          | none => rfl
          | some r =>
            rw [er] at e0
            have := bR _ r (Nat.le_of_lt lt) er
            exact absurd e0 (ofI_ne (by omega))
        · rfl
      · have bt : s.testBit i = true := by cases e : s.testBit i with
          | true => rfl
          | false => exact absurd ((bt_0 s s64 i i6).mpr e) b0
        have lt := bt_x s s64 i i6 bt
        have mt : may i q = true := by cases e : may i q with
          | true => rfl
          | false => exact absurd (cmp_eq.mpr (by rw [e63, e, if_neg (by decide)]; rfl)) m0
        have e62 : ax_l h (59 + 3) (nI s ^^^ ((1 : Int32) <<< (nI i &&& 31))).toNatClampNeg = encC (R (s ^^^ 2 ^ i)) := by rw [ex, nI_clamp (by omega)]; exact T _ (Nat.le_of_lt lt)
        cases er : R (s ^^^ 2 ^ i) with
        | none => exact absurd (cmp_eq.mpr (by rw [e62, er]; rfl)) r0
        | some r =>
          have br := bR _ r (Nat.le_of_lt lt) er
          rw [ccn_mk bt mt er, ← encC_max (bF i (by omega)) (by omega), e62, e63, if_pos mt, er, e3]
          have es : encC (some r) + Int64.ofInt (Sx i q) = Int64.ofInt (r + Sx i q) := by
            show Int64.ofInt r + Int64.ofInt (Sx i q) = _
            refine ofI_eq (by omega) (by omega) ?_
            rw [i64_add (by rw [ofI (by omega) (by omega), ofI (by omega) (by omega)]; omega) (by rw [ofI (by omega) (by omega), ofI (by omega) (by omega)]; omega), ofI (by omega) (by omega), ofI (by omega) (by omega)]
          show (if encC (some r) + Int64.ofInt (Sx i q) < _ then _ else encC (some r) + Int64.ofInt (Sx i q)) = _
          rw [es]
  exact key n 0 (by omega) _ _ (by rw [nI_clamp (by omega)]; exact T s (Nat.le_refl _))
end
/-- what a choice leaves: the ints of the planner too -/
def chQ (h h' : ax_H) : Prop := chR h h' ∧ ∀ j, ax_i h' 59 j = ax_i h 59 j
theorem chQ_rf : chQ h h := ⟨chR_rf, fun _ => rfl⟩
theorem chQ_tr {h1 h2 : ax_H} (a : chQ h h1) (b : chQ h1 h2) : chQ h h2 := ⟨chR_tr a.1 b.1, fun j => (b.2 j).trans (a.2 j)⟩
theorem chQ_l {a k : Nat} {v : Int64} (ha : a = 62 ∨ a = 63) : chQ h (ax_pl h a k v) := ⟨chR_l ha, fun _ => rfl⟩
theorem chQ_4 {v : Int64} : chQ h (ax_pl h 59 4 v) := ⟨chR_4, fun _ => rfl⟩
theorem chQ_61 {k : Nat} {v : Int32} : chQ h (ax_pi h 61 k v) := ⟨chR_61, fun j => by rw [ai_pi, if_neg (by omega)]⟩
theorem c_keepE {v ρ : Int} (pl : pl_st h 59) (hv : -100000 ≤ v ∧ v ≤ 100000) (hr : 0 ≤ ρ ∧ ρ < 16777216) (hq : ∀ h', chQ h h' → ax_l h' 59 4 = Int64.ofInt v → (∀ i, i < 6 → ax_i h' 61 i = nI (ρ / 16 ^ (5 - i) % 16).toNat) → Ret none h') : mX4_keep g [.ref 59, .long (Int64.ofInt (v * 16777216 - ρ))] h Ret := by
  refine uX4_keep (fun A hA => vX4_keep_0 hA ?_)
  intro z1
  have ex : (Int64.ofInt (v * 16777216 - ρ)).toInt = v * 16777216 - ρ := ofI (by omega) (by omega)
  have k1 : (16777216 : Int64).toInt = 16777216 := by decide
  have k2 : (1 : Int64).toInt = 1 := rfl
  have e1 : z1 = Int64.ofInt v := by
    refine ofI_eq (by omega) (by omega) ?_
    show (((Int64.ofInt (v * 16777216 - ρ) + 16777216) - 1) >>> ((24 : Int32).toInt64 &&& 63)).toInt = v
    have a1 : (Int64.ofInt (v * 16777216 - ρ) + 16777216).toInt = v * 16777216 - ρ + 16777216 := by rw [i64_add (by rw [ex, k1]; omega) (by rw [ex, k1]; omega), ex, k1]
    rw [shr24e, i64_sub (by rw [a1, k2]; omega) (by rw [a1, k2]; omega), a1, k2]
    omega
  refine ⟨pl.1, ?_⟩
  intro u2
  refine ⟨pl.1, ?_⟩
  have l4 : ax_l u2 59 4 = Int64.ofInt v := by
    show ax_l (ax_pl h 59 4 z1) 59 4 = _
    rw [al_pl, if_pos ⟨rfl, rfl⟩]; exact e1
  have e3 : (ax_l u2 59 4 <<< ((24 : Int32).toInt64 &&& 63)) - Int64.ofInt (v * 16777216 - ρ) = Int64.ofInt ρ := by
    rw [l4]
    have ev : (Int64.ofInt v).toInt = v := ofI (by omega) (by omega)
    have y : (Int64.ofInt v <<< ((24 : Int32).toInt64 &&& 63)).toInt = v * 16777216 := by rw [shl24 (by rw [ev]; omega), ev]
    refine ofI_eq (by omega) (by omega) ?_
    rw [i64_sub (by rw [y, ex]; omega) (by rw [y, ex]; omega), y, ex]
    omega
  rw [e3]
  have key : ∀ n i : Nat, i + n = 6 → ∀ hh, chQ h hh → ax_l hh 59 4 = Int64.ofInt v → (∀ j, j < i → ax_i hh 61 j = nI (ρ / 16 ^ (5 - j) % 16).toNat) → ∀ (o1 o2 : Option Value), A (27, [some (.ref 59), o1, o2, some (.long (Int64.ofInt ρ)), none, some (.int (nI i))], [], hh, 0, 0) := by
    intro n
    induction n with
    | zero =>
      intro i hi hh r b d o1 o2
      exact vX4_keep_27 hA ⟨fun _ => hq hh r b (fun j hj => d j (by omega)), fun q => absurd (nI_le (a := 6) (b := i) (by omega) (by omega)) q⟩
    | succ n ih =>
      intro i hi hh r b d o1 o2
      have p := pl_st_same r.1.1 pl
      refine vX4_keep_27 hA ⟨fun q => absurd q (nI_ge (a := i) (b := 6) (by omega) (by decide)), fun _ => ⟨p.1, _, p.2.1.2.1, eX4_rowShift ⟨_, rfl, by rw [p.2.2.2.1], by rw [p.2.2.2.1]; exact vp_in_nI (by omega) (by decide), ?_⟩⟩⟩
      intro u7
      rw [← nI_succ]
      refine ih (i + 1) (by omega) u7 (chQ_tr r chQ_61) b (fun j hj => ?_) _ _
      show ax_i (ax_pi hh 61 (nI i).toNatClampNeg _) 61 j = _
      rw [nI_clamp (by omega), ai_pi]
      by_cases e : j = i
      · rw [if_pos ⟨rfl, e⟩, e]
        have sh : (Int64.ofInt ρ >>> (((4 : Int32) * (5 - nI i)).toInt64 &&& 63)).toInt = ρ / 16 ^ (5 - i) := by rw [shrI _ (by omega), ofI (by omega) (by omega)]
        have pp := p16 i (by omega)
        have d0 : 0 ≤ ρ / 16 ^ (5 - i) := Int.ediv_nonneg hr.1 (by omega)
        have d1 : ρ / 16 ^ (5 - i) ≤ ρ := Int.ediv_le_self _ hr.1
        exact dgt sh d0 (by omega)
      · rw [if_neg (fun w => e w.2)]; exact d j (by omega)
  exact key 6 0 (by decide) u2 chQ_4 l4 (fun j hj => absurd hj (Nat.not_lt_zero _)) _ _
end
end
