section
variable {g : ax_G} {Ret : Option Value → ax_H → Prop} {h : ax_H} {z : Nat → Nat} {DD : Nat → rD} {N : Nat → Nat → Nat} {C : Nat → Nat → Nat → Nat → Int32} {S : sT} {Im : Nat → Option sT} {tp : Nat → Nat} {B : Nat}
/-! the reference's planner, exactly -/
theorem shr_nI {m q : Nat} (hm : m < 2 ^ 31) (hq : q ≤ 12) : nI m >>> (nI q &&& 31) = nI (m / 2 ^ q) := by
  have e : ∀ q, q ≤ 12 → (nI q &&& 31).toBitVec.smod 32 = BitVec.ofNat 32 q := by decide +kernel
  have le : m / 2 ^ q ≤ m := Nat.div_le_self _ _
  apply Int32.toInt_inj.mp
  rw [nI_toInt (by omega)]
  show (nI m >>> (nI q &&& 31)).toBitVec.toInt = _
  rw [Int32.toBitVec_shiftRight, e q hq]
  show ((nI m).toBitVec.sshiftRight (BitVec.ofNat 32 q).toNat).toInt = _
  rw [BitVec.toInt_sshiftRight, show (BitVec.ofNat 32 q).toNat = q from by rw [BitVec.toNat_ofNat]; exact Nat.mod_eq_of_lt (by omega), Int.shiftRight_eq_div_pow]
  show (nI m).toInt / _ = _
  rw [nI_toInt hm, Int.natCast_ediv]
theorem hasB_tb {m q : Nat} (hm : m < 2 ^ 31) (hq : q ≤ 12) : hasB (nI m) (nI q) ↔ m.testBit q = true := by
  unfold hasB
  rw [shr_nI hm hq, show (1 : Int32) = nI 1 from rfl, and_nI, Nat.and_one_is_mod, Nat.testBit_eq_decide_div_mod_eq]
  constructor
  · intro e
    exact decide_eq_true ((nI_eq (by omega) (by decide)).mp e)
  · intro e
    rw [of_decide_eq_true e]
theorem ex_ti {D : rD} (ok : rd_ok D) {κ : Nat} (hκ : κ < 6) : (sp_ex D (nI κ)).toInt = (dwo D κ).toInt * ((sp_ti (dmo D κ) 2).toInt - 1) := by
  have b := ok.2.2.1 κ hκ
  unfold sp_ex sp_xb
  rw [mo_nI hκ, wo_nI hκ]
  rcases ok.2.2.2.1 κ hκ with e | e | e
  · rw [e, if_pos rfl, show (sp_ti 0 2).toInt = 2 from by decide]; omega
  · rw [e, if_neg (by decide), if_neg (by decide), show (sp_ti 1 2).toInt = 1 from by decide, show (0 : Int32).toInt = 0 from rfl]; omega
  · rw [e, if_neg (by decide), if_pos rfl, show (sp_ti 2 2).toInt = 0 from by decide, i32_neg (by omega)]; omega
theorem wa_blind {D : rD} (ok : rd_ok D) {K : Nat → Int32} {i κ q : Nat} (hκ : κ < 6) (eK : K i = nI κ) : (sp_wa D κ q (-1)).toInt = scC D K (sp_w D (rul D)) (sp_t D (rul D)) i q := by
  have bw := ok.2.2.1 κ hκ
  have bt := sp_t_bd ok (rul D)
  have bq := sp_w_bd ok (rul D) q
  have b2 := ti_bd (x := dmo D κ)
  have o1 : (1 : Int32).toInt = 1 := rfl
  unfold sp_wa scC
  rw [if_pos rfl, eK, wo_nI hκ, ex_ti ok hκ]
  have e1 : (sp_ti (dmo D κ) 2 - 1).toInt64.toInt = (sp_ti (dmo D κ) 2).toInt - 1 := by rw [i_64, i32_sub (by rw [o1]; omega) (by rw [o1]; omega), o1]
  have m1 := abs_mul (a := 9) (b := 2) (x := (sp_w D (rul D) q).toInt) (y := (sp_ti (dmo D κ) 2).toInt - 1) (by decide) (by decide) (by omega) (by omega)
  have e2 : ((sp_w D (rul D) q).toInt64 * (sp_ti (dmo D κ) 2 - 1).toInt64).toInt = (sp_w D (rul D) q).toInt * ((sp_ti (dmo D κ) 2).toInt - 1) := by rw [i64_mul (by rw [e1, i_64]; omega) (by rw [e1, i_64]; omega), e1, i_64]
  have e3 : ((sp_t D (rul D)).toInt64 + (sp_w D (rul D) q).toInt64 * (sp_ti (dmo D κ) 2 - 1).toInt64).toInt = (sp_t D (rul D)).toInt + (sp_w D (rul D) q).toInt * ((sp_ti (dmo D κ) 2).toInt - 1) := by rw [i64_add (by rw [e2, i_64]; omega) (by rw [e2, i_64]; omega), e2, i_64]
  have m2 := abs_mul (a := 99) (b := 200) (x := (dwo D κ).toInt) (y := (sp_t D (rul D)).toInt + (sp_w D (rul D) q).toInt * ((sp_ti (dmo D κ) 2).toInt - 1)) (by decide) (by decide) (by omega) (by omega)
  rw [i64_mul (by rw [e3, i_64]; omega) (by rw [e3, i_64]; omega), e3, i_64, Int.mul_add]
  congr 1
  ac_rfl
theorem wa_known {D : rD} (ok : rd_ok D) {K : Nat → Int32} {i κ q s : Nat} (hκ : κ < 6) (eK : K i = nI κ) (hs : s < 2 ^ 31) (hq : q < 2 ^ 31) : (sp_wa D κ q (nI s)).toInt = (sp_t D (rul D)).toInt * scC D K (wK s) 1 i q := by
  have bw := ok.2.2.1 κ hκ
  have bt := sp_t_bd ok (rul D)
  have b2 := ti_bd (x := dmo D κ)
  have o1 : (1 : Int32).toInt = 1 := rfl
  have m1 := abs_mul (a := 99) (b := 108) (x := (dwo D κ).toInt) (y := (sp_t D (rul D)).toInt) (by decide) (by decide) (by omega) (by omega)
  have e1 : ((dwo D κ).toInt64 * (sp_t D (rul D)).toInt64).toInt = (dwo D κ).toInt * (sp_t D (rul D)).toInt := by rw [i64_mul (by rw [i_64, i_64]; omega) (by rw [i_64, i_64]; omega), i_64, i_64]
  unfold sp_wa scC
  rw [if_neg (nI_nm1 hs), eK, wo_nI hκ, ex_ti ok hκ, o1, Int.mul_one]
  by_cases e : s = q
  · rw [if_pos (by rw [e]), show wK s q = 1 from if_pos e.symm, o1, Int.mul_one]
    have m2 := abs_mul (a := 10692) (b := 2) (x := (dwo D κ).toInt * (sp_t D (rul D)).toInt) (y := (sp_ti (dmo D κ) 2).toInt) (by decide) (by decide) (by omega) (by omega)
    rw [i64_mul (by rw [e1, i_64]; omega) (by rw [e1, i_64]; omega), e1, i_64, show (dwo D κ).toInt + (dwo D κ).toInt * ((sp_ti (dmo D κ) 2).toInt - 1) = (dwo D κ).toInt * (sp_ti (dmo D κ) 2).toInt from by rw [Int.mul_sub, Int.mul_one]; omega]
    ac_rfl
  · rw [if_neg (fun w => e ((nI_eq hs hq).mp w)), show wK s q = 0 from if_neg (fun w => e w.symm), show (0 : Int32).toInt = 0 from rfl, Int.mul_zero, Int.add_zero, i64_mul (by rw [e1, i_64, o1]; omega) (by rw [e1, i_64, o1]; omega), e1, i_64, o1, Int.mul_one, Int.mul_comm]
def encN : Option Int → Int64
  | none => cN
  | some v => Int64.ofInt v
theorem cN_int : cN.toInt = -1000000000000 := by decide
theorem ofN_ne {v : Int} (b : -900000000000 ≤ v ∧ v ≤ 900000000000) : Int64.ofInt v ≠ cN := fun e => by
  have := congrArg Int64.toInt e
  rw [ofI (by omega) (by omega), cN_int] at this
  omega
theorem encN_max {a : Option Int} {y : Int} {x4 : Int64} (e4 : x4 = encN a) (ba : ∀ x, a = some x → -900000000000 ≤ x ∧ x ≤ 900000000000) (b : -900000000000 ≤ y ∧ y ≤ 900000000000) : (y ≤ x4.toInt → x4 = encN (omax a (some y))) ∧ (¬ y ≤ x4.toInt → Int64.ofInt y = encN (omax a (some y))) := by
  cases a with
  | none =>
    have e : x4.toInt = -1000000000000 := by rw [e4]; exact cN_int
    exact ⟨fun q => by omega, fun _ => rfl⟩
  | some x =>
    have bx := ba x rfl
    have e : x4.toInt = x := by rw [e4]; exact ofI (by omega) (by omega)
    refine ⟨fun q => ?_, fun q => ?_⟩
    · rw [e4]
      show Int64.ofInt x = Int64.ofInt (if x < y then y else x)
      rw [if_neg (by omega)]
    · show Int64.ofInt y = Int64.ofInt (if x < y then y else x)
      rw [if_pos (by omega)]
section
variable {hh : ax_H} {k w : Nat} {y : Int32}
/-- scores told by worthAt -/
def scA (C : Nat → Nat → Nat → Nat → Int32) (D : rD) (w n : Nat) (s : Int32) (sc : Nat → Nat → Int) : Prop := ∀ i κ q, i < n → κ < 6 → C 2 w i 0 = nI κ → q < dH D → (sp_wa D κ q s).toInt = sc i q ∧ -1300000 ≤ sc i q ∧ sc i q ≤ 1300000
theorem c_bestFromE {i d m : Nat} {s : Int32} {sc : Nat → Nat → Int} (a : tc h z DD N C) (ok : rd_ok (DD k)) (M : pM h hh k (DD k) w (N 2 w) y) (hw : w < z 2) (hi : i + (d + 1) = N 2 w) (hm : m < 2 ^ dH (DD k)) (A0 : scA C (DD k) w (N 2 w) s sc) (nx : ∀ m', m' < 2 ^ dH (DD k) → tb hh (i + 1) m' = encN (rBx (N 2 w) (dH (DD k)) (mayC (C 2 w) y) sc d m')) (hq : Ret (some (.long (encN (rBx (N 2 w) (dH (DD k)) (mayC (C 2 w) y) sc (d + 1) m)))) hh) : mX10_bestFrom g 8 [.ref 77, .int (nI i), .int (nI m), .int s] hh Ret := by
  have t := tc_md M.1 a
  have mb := M.2.1.1.1
  have s0 := mb.1.1
  have H12 := ok.1.2
  have pH := p_12 (dH (DD k)) H12
  have n6 : N 2 w ≤ 6 := (a.2.2.2.2.2.2 2 w (by decide) (by decide) hw).1
  have iN : i < N 2 w := by omega
  obtain ⟨κ, b, c, E⟩ := er_at a hw iN
  obtain ⟨e1, e2⟩ := mo_tl mb.1
  have bc := E.2.1
  have c12 := E.2.2.1
  have scb : ∀ j q, j < N 2 w → q < dH (DD k) → -1300000 ≤ sc j q ∧ sc j q ≤ 1300000 := fun j q hj hq => by
    obtain ⟨κ', b', c', E'⟩ := er_at a hw hj
    exact (A0 j κ' q hj E'.1 E'.2.2.2.1 hq).2
  obtain ⟨R, eR⟩ : ∃ R, R = rBx (N 2 w) (dH (DD k)) (mayC (C 2 w) y) sc d := ⟨_, rfl⟩
  rw [← eR] at nx
  have bR : ∀ m' v, R m' = some v → -10000000 ≤ v ∧ v ≤ 10000000 := fun m' v e => by
    rw [eR] at e
    have := rB_bd (b := 1300000) (by decide) d m' (by omega) scb v e
    omega
  obtain ⟨F, eF⟩ : ∃ F, F = rcn (mayC (C 2 w) y) sc i m R := ⟨_, rfl⟩
  have eRB : rBx (N 2 w) (dH (DD k)) (mayC (C 2 w) y) sc (d + 1) m = fldO F (dH (DD k)) := by
    show fldO (rcn (mayC (C 2 w) y) sc (N 2 w - (d + 1)) m (rBx (N 2 w) (dH (DD k)) (mayC (C 2 w) y) sc d)) (dH (DD k)) = _
    rw [eF, eR, show N 2 w - (d + 1) = i by omega]
  rw [eRB] at hq
  have bF : ∀ q v, q ≤ dH (DD k) → fldO F q = some v → -900000000000 ≤ v ∧ v ≤ 900000000000 := fun q v hq e => by
    obtain ⟨j, hj, ej⟩ := (fld_some e).2
    rw [eF] at ej
    obtain ⟨-, -, r, er, e2⟩ := rcn_some ej
    have h1 := bR _ r er
    have h2 := scb i j iN (by omega)
    omega
  have nomay : ∀ q, q < 12 → y = 0 → (q < b ∨ c < q) → F q = none := fun q h12 y0 h => by
    rw [eF]
    unfold rcn mayC
    rw [if_pos y0, E.2.2.2.2.1, E.2.2.2.2.2]
    rcases h with h | h
    · rw [decide_eq_true (nI_lt h (by omega))]; rfl
    · rw [decide_eq_true (nI_lt h (by omega)), Bool.not_true, Bool.and_false]; rfl
  have may1 : ∀ q, q < 12 → (y = 0 → b ≤ q ∧ q ≤ c) → mayC (C 2 w) y i q = true := fun q h12 h => by
    unfold mayC
    by_cases y0 : y = 0
    · rw [if_pos y0, E.2.2.2.2.1, E.2.2.2.2.2, decide_eq_false (nI_nlt (h y0).1 (by omega)), decide_eq_false (nI_nlt (h y0).2 (by omega))]; rfl
    · rw [if_neg y0]
  have ex1 : ∀ q, ((y = 0 ∧ c < q) ∨ 12 ≤ q) → fldO F (min q (dH (DD k))) = fldO F (dH (DD k)) := fun q h => by
    obtain ⟨u, hu⟩ : ∃ u, dH (DD k) = min q (dH (DD k)) + u := ⟨dH (DD k) - min q (dH (DD k)), by omega⟩
    have := fld_past (c := F) (a := min q (dH (DD k))) (b := u) (fun q' h1 h2 => by
      rcases h with h | h
      · exact nomay q' (by omega) h.1 (Or.inr (by omega))
      · omega)
    rw [← hu] at this
    exact this.symm
  refine uX10_bestFrom (fun A hA => vX10_bestFrom_0 hA ⟨s0, ?_⟩)
  have key : ∀ f q : Nat, q + f = 13 → (y = 0 → b ≤ q) → ∀ (x4 : Int64) (o7 o8 o9 o10 : Option Value), x4 = encN (fldO F (min q (dH (DD k)))) → A (12, [some (.ref 77), some (.int (nI i)), some (.int (nI m)), some (.int s), some (.long x4), none, some (.int (nI q)), o7, o8, o9, o10], [], hh, 0, 0) := by
    intro f
    induction f with
    | zero =>
      intro q hf lo x4 o7 o8 o9 o10 e4
      have fin : Ret (some (.long x4)) hh := by rw [e4, ex1 q (Or.inr (by omega))]; exact hq
      have gt : ∀ x : Int32, x = nI c ∨ x = 11 → x < nI q := fun x hx => by
        rcases hx with rfl | rfl
        · exact nI_lt (by omega) (by omega)
        · exact nI_lt (a := 11) (by omega) (by omega)
      refine vX10_bestFrom_12 hA ⟨s0, eX10_toOf ⟨s0, fun _ => ⟨s0, c_merrandOf (j := 2) t.2.1 t.2.2.2.1 t.2.2.2.2 hw M.2.2.1 iN (by decide) ⟨_, rfl, _, rfl, fun _ => fin, fun q1 => ?_⟩⟩, fun _ => ⟨_, rfl, fun _ => fin, fun q1 => ?_⟩⟩⟩
      · exact absurd (gt _ (Or.inl E.2.2.2.2.2)) q1
      · exact absurd (gt _ (Or.inr rfl)) q1
    | succ f ih =>
      intro q hf lo x4 o7 o8 o9 o10 e4
      have lo1 : y = 0 → b ≤ q + 1 := fun h1 => Nat.le_succ_of_le (lo h1)
      have K : q < dH (DD k) → ∀ (x4 : Int64) (o7 o8 o9 o10 : Option Value), x4 = encN (omax (fldO F q) (F q)) → A (12, [some (.ref 77), some (.int (nI i)), some (.int (nI m)), some (.int s), some (.long x4), none, some (.int (nI q + 1)), o7, o8, o9, o10], [], hh, 0, 0) := fun qH x4 o7 o8 o9 o10 e => by
        rw [← nI_succ]
        refine ih (q + 1) (by omega) lo1 _ _ _ _ _ ?_
        rw [show min (q + 1) (dH (DD k)) = q + 1 by omega]; exact e
      have body : (y = 0 → q ≤ c) → (((ax_i hh 77 26) ≤ (nI q) → Ret (some (.long x4)) hh) ∧ (¬ ((ax_i hh 77 26) ≤ (nI q)) → (ax_M g 1 0 0 yX10_has cX10_has 2 (some .boolean) [.int (nI m), .int (nI q)] hh (fun v8 h7 => (∃ r9 : Int32, v8 = some (.int r9) ∧ ((¬ r9 = 0 → A (12, [some (.ref 77), some (.int (nI i)), some (.int (nI m)), some (.int s), some (.long x4), none, some (.int ((nI q) + (1 : Int32))), o7, o8, o9, o10], [], h7, 0, 0)) ∧ (r9 = 0 → ((ax_s h7 77).1 = 10 ∧ (∃ b10 : Nat, ax_r h7 77 43 = some b10 ∧ (let z11 : Int32 := (((4096 : Int32) * ((nI i) + (1 : Int32))) + ((nI m) ||| ((1 : Int32) <<< ((nI q) &&& 31)))); ((ax_s h7 b10).1 = 14 ∧ (vp_in z11 (ax_s h7 b10).2 ∧ ((¬ (lg_cmp (ax_l h7 b10 z11.toNatClampNeg) (-1000000000000 : Int64)) = 0 → ((ax_s h7 77).1 = 10 ∧ (ax_M g 2 0 0 yX10_worthAt cX10_worthAt 7 (some .long) [.ref 77, .int (nI i), .int (nI q), .int s] h7 (fun v13 h12 => (∃ r14 : Int64, v13 = some (.long r14) ∧ (((lg_cmp ((ax_l h7 b10 z11.toNatClampNeg) + r14) x4) ≤ 0 → A (12, [some (.ref 77), some (.int (nI i)), some (.int (nI m)), some (.int s), some (.long x4), none, some (.int ((nI q) + (1 : Int32))), some (.long (ax_l h7 b10 z11.toNatClampNeg)), none, some (.long ((ax_l h7 b10 z11.toNatClampNeg) + r14)), none], [], h12, 0, 0)) ∧ (¬ ((lg_cmp ((ax_l h7 b10 z11.toNatClampNeg) + r14) x4) ≤ 0) → A (12, [some (.ref 77), some (.int (nI i)), some (.int (nI m)), some (.int s), some (.long ((ax_l h7 b10 z11.toNatClampNeg) + r14)), none, some (.int ((nI q) + (1 : Int32))), some (.long (ax_l h7 b10 z11.toNatClampNeg)), none, some (.long ((ax_l h7 b10 z11.toNatClampNeg) + r14)), none], [], h12, 0, 0)))))))) ∧ ((lg_cmp (ax_l h7 b10 z11.toNatClampNeg) (-1000000000000 : Int64)) = 0 → (((lg_cmp (-1000000000000 : Int64) x4) ≤ 0 → A (12, [some (.ref 77), some (.int (nI i)), some (.int (nI m)), some (.int s), some (.long x4), none, some (.int ((nI q) + (1 : Int32))), some (.long (ax_l h7 b10 z11.toNatClampNeg)), none, some (.long (-1000000000000 : Int64)), none], [], h7, 0, 0)) ∧ (¬ ((lg_cmp (-1000000000000 : Int64) x4) ≤ 0) → A (12, [some (.ref 77), some (.int (nI i)), some (.int (nI m)), some (.int s), some (.long (-1000000000000 : Int64)), none, some (.int ((nI q) + (1 : Int32))), some (.long (ax_l h7 b10 z11.toNatClampNeg)), none, some (.long (-1000000000000 : Int64)), none], [], h7, 0, 0))))))))))))))))) := fun hiq => by
        refine ⟨fun qH => ?_, fun qH => ?_⟩
        · rw [mb.2.2.2.2.1] at qH
          have : dH (DD k) ≤ q := Nat.le_of_not_lt (fun e => nI_ge e (by omega) qH)
          rw [e4, show min q (dH (DD k)) = dH (DD k) by omega]; exact hq
        rw [mb.2.2.2.2.1] at qH
        have qlt : q < dH (DD k) := Nat.lt_of_not_le (fun e => qH (nI_le e (by omega)))
        rw [show min q (dH (DD k)) = q by omega] at e4
        have skip : F q = none → x4 = encN (omax (fldO F q) (F q)) := fun e => by
          rw [e, e4]
          cases fldO F q <;> rfl
        have my := may1 q (by omega) (fun y0 => ⟨lo y0, hiq y0⟩)
        have ml := or_lt hm qlt
        refine c_mhas (fun nh => ⟨_, rfl, fun q0 => absurd rfl q0, fun _ => ⟨s0, _, e1, ?_⟩⟩) (fun hb => ⟨_, rfl, fun _ => K qlt _ _ _ _ _ (skip ?_), fun q0 => absurd q0 (by decide)⟩)
        · intro z11
          have ez : z11 = nI (4096 * (i + 1) + (m ||| 2 ^ q)) := by
            show (4096 : Int32) * (nI i + 1) + (nI m ||| ((1 : Int32) <<< (nI q &&& 31))) = _
            rw [← nI_succ, show (4096 : Int32) * nI (i + 1) = nI (4096 * (i + 1)) from ni_mul, sh_12 q (by omega), or_nI, nI_add]
          have et : ax_l hh (77 + 18) z11.toNatClampNeg = encN (R (m ||| 2 ^ q)) := by
            rw [ez, nI_clamp (by omega)]; exact nx _ ml
          have nb : m.testBit q = false := by cases e : m.testBit q with
            | false => rfl
            | true => exact absurd ((hasB_tb (by omega) (by omega)).mpr e) nh
          refine ⟨by rw [e2], by rw [ez, e2]; exact vp_in_nI (by omega) (by decide), fun ne => ⟨s0, c_worthAt a M hw iN E qlt ⟨_, rfl, ?_⟩⟩, fun eq => ?_⟩
          · cases er : R (m ||| 2 ^ q) with
            | none => exact absurd (cmp_eq.mpr (by rw [et, er]; rfl)) ne
            | some r =>
              have br := bR _ r er
              obtain ⟨ea, sb1, sb2⟩ := A0 i κ q iN E.1 E.2.2.2.1 qlt
              have es : ax_l hh (77 + 18) z11.toNatClampNeg + sp_wa (DD k) κ q s = Int64.ofInt (r + sc i q) := by
                rw [et, er]
                show Int64.ofInt r + sp_wa (DD k) κ q s = _
                refine ofI_eq (by omega) (by omega) ?_
                rw [i64_add (by rw [ofI (by omega) (by omega), ea]; omega) (by rw [ofI (by omega) (by omega), ea]; omega), ofI (by omega) (by omega), ea]
              have ec : F q = some (r + sc i q) := by rw [eF]; exact rcn_mk my nb er
              obtain ⟨x1, x2⟩ := encN_max (a := fldO F q) (y := r + sc i q) e4 (fun x ex => bF q x (by omega) ex) (by omega)
              rw [es]
              refine ⟨fun le => K qlt _ _ _ _ _ ?_, fun gt => K qlt _ _ _ _ _ ?_⟩
              · rw [ec]
                have := cmp_le0.mp le
                rw [ofI (by omega) (by omega)] at this
                exact x1 this
              · rw [ec]
                refine x2 (fun w => gt (cmp_le0.mpr ?_))
                rw [ofI (by omega) (by omega)]; exact w
          · have e0 := cmp_eq.mp eq
            have fn : F q = none := by
              rw [eF]
              unfold rcn
              split
              · cases er : R (m ||| 2 ^ q) with
                | none => rfl
                | some r =>
                  rw [et, er] at e0
                  have br := bR _ r er
                  exact absurd e0 (ofN_ne (by omega))
              · rfl
            refine ⟨fun _ => K qlt _ _ _ _ _ (skip fn), fun gt => absurd (cmp_le0.mpr ?_) gt⟩
            rw [e4, show (-1000000000000 : Int64).toInt = -1000000000000 from by decide]
            cases ef : fldO F q with
            | none => show -1000000000000 ≤ cN.toInt; rw [cN_int]; exact Int.le_refl _
            | some x =>
              have := bF q x (by omega) ef
              show -1000000000000 ≤ (Int64.ofInt x).toInt
              rw [ofI (by omega) (by omega)]; omega
        · rw [eF]
          unfold rcn
          rw [(hasB_tb (by omega) (by omega)).mp hb, Bool.not_true, Bool.and_false]; rfl
      refine vX10_bestFrom_12 hA ⟨s0, eX10_toOf ⟨s0, fun ey => ⟨s0, c_merrandOf (j := 2) t.2.1 t.2.2.2.1 t.2.2.2.2 hw M.2.2.1 iN (by decide) ⟨_, rfl, _, rfl, fun q1 => ?_, fun q1 => ⟨s0, body (fun _ => ?_)⟩⟩⟩, fun ey => ⟨_, rfl, fun q1 => ?_, fun q1 => ⟨s0, body (fun y0 => ?_)⟩⟩⟩⟩
      · rw [E.2.2.2.2.2] at q1
        have : c < q := Nat.lt_of_not_le (fun e => nI_nlt e (by omega) q1)
        rw [M.2.2.2.2] at ey
        rw [e4, ex1 q (Or.inl ⟨ey, this⟩)]; exact hq
      · rw [E.2.2.2.2.2] at q1
        exact Nat.le_of_not_lt (fun e => q1 (nI_lt e (by omega)))
      · have : 11 < q := Nat.lt_of_not_le (fun e => nI_nlt (a := 11) (b := q) e (by decide) q1)
        rw [e4, ex1 q (Or.inr (by omega))]; exact hq
      · rw [M.2.2.2.2] at ey; exact absurd y0 ey
  refine eX10_fromOf ⟨s0, fun e => ⟨s0, c_merrandOf (j := 1) t.2.1 t.2.2.2.1 t.2.2.2.2 hw M.2.2.1 iN (by decide) ⟨_, rfl, _, rfl, ?_⟩⟩, fun e => ⟨_, rfl, ?_⟩⟩
  · rw [M.2.2.2.2] at e
    rw [E.2.2.2.2.1]
    refine key (13 - b) b (by omega) (fun _ => Nat.le_refl _) _ _ _ _ _ ?_
    have : fldO F (min b (dH (DD k))) = none := fld_none.mpr (fun q hq => nomay q (by omega) e (Or.inl (by omega)))
    rw [this]; rfl
  · refine key 13 0 (by decide) (fun y0 => ?_) _ _ _ _ _ ?_
    · rw [M.2.2.2.2] at e; exact absurd y0 e
    · rw [Nat.zero_min]; rfl
/-- rows above, and the row at hand below a place, are filled -/
def filE (hh : ax_H) (n H : Nat) (may : Nat → Nat → Bool) (sc : Nat → Nat → Int) (i m0 : Nat) : Prop := ∀ i2 m, i2 ≤ n → m < 2 ^ H → (i < i2 ∨ (i2 = i ∧ m < m0)) → tb hh i2 m = encN (rBx n H may sc (n - i2) m)
def godE (hh : ax_H) (n H : Nat) (may : Nat → Nat → Bool) (sc : Nat → Nat → Int) : Prop := ∀ i m, i ≤ n → m < 2 ^ H → tb hh i m = encN (rBx n H may sc (n - i) m)
theorem c_findBestE {s : Int32} {sc : Nat → Nat → Int} (a : tc h z DD N C) (ok : rd_ok (DD k)) (M : pM h hh k (DD k) w (N 2 w) y) (hw : w < z 2) (A0 : scA C (DD k) w (N 2 w) s sc) (hq : ∀ h2, pM h h2 k (DD k) w (N 2 w) y → mr (fun _ => False) (fun a => a = 95) 77 hh h2 → godE h2 (N 2 w) (dH (DD k)) (mayC (C 2 w) y) sc → Ret (some (.long (encN (rBx (N 2 w) (dH (DD k)) (mayC (C 2 w) y) sc (N 2 w) 0)))) h2) : mX10_findBest g [.ref 77, .int s] hh Ret := by
  have H12 := ok.1.2
  have pH := p_12 (dH (DD k)) H12
  have n6 : N 2 w ≤ 6 := (a.2.2.2.2.2.2 2 w (by decide) (by decide) hw).1
  have e2H : ∀ h3, pM h h3 k (DD k) w (N 2 w) y → (1 : Int32) <<< (ax_i h3 77 26 &&& 31) = nI (2 ^ dH (DD k)) := fun h3 M3 => by rw [M3.2.1.1.1.2.2.2.2.1]; exact sh_12 _ H12
  have ix : ∀ i m : Nat, (4096 : Int32) * nI i + nI m = nI (4096 * i + m) := fun i m => by rw [show (4096 : Int32) * nI i = nI (4096 * i) from ni_mul, nI_add]
  refine uX10_findBest (fun A hA => vX10_findBest_0 hA ?_)
  have k41 : ∀ j : Nat, j ≤ N 2 w → ∀ h3, pM h h3 k (DD k) w (N 2 w) y → mr (fun _ => False) (fun a => a = 95) 77 hh h3 → filE h3 (N 2 w) (dH (DD k)) (mayC (C 2 w) y) sc j (2 ^ dH (DD k)) → ∀ o3 : Option Value, A (41, [some (.ref 77), some (.int s), some (.int (nI j - 1)), o3], [], h3, 0, 0) := by
    intro j
    induction j with
    | zero =>
      intro hj h3 M3 r3 F o3
      have s0 := M3.2.1.1.1.1.1
      obtain ⟨e1, e2⟩ := mo_tl M3.2.1.1.1.1
      refine vX10_findBest_41 hA ⟨fun _ => ⟨s0, _, e1, by rw [e2], by rw [e2]; exact vp_in_nI (n := 0) (by decide) (by decide), ?_⟩, fun q => absurd (by rw [nI_0]; decide) q⟩
      have g : godE h3 (N 2 w) (dH (DD k)) (mayC (C 2 w) y) sc := fun i m hi hm => F i m hi hm (by rcases Nat.eq_zero_or_pos i with e | e; exact Or.inr ⟨e, hm⟩; exact Or.inl e)
      have e0 : ax_l h3 (77 + 18) 0 = encN (rBx (N 2 w) (dH (DD k)) (mayC (C 2 w) y) sc (N 2 w) 0) := g 0 0 (Nat.zero_le _) (by omega)
      rw [e0]
      exact hq h3 M3 r3 g
    | succ i ih =>
      intro hj h3 M3 r3 F o3
      rw [nI_pred]
      have k47 : ∀ f m : Nat, m + f = 2 ^ dH (DD k) → ∀ h4, pM h h4 k (DD k) w (N 2 w) y → mr (fun _ => False) (fun a => a = 95) 77 hh h4 → filE h4 (N 2 w) (dH (DD k)) (mayC (C 2 w) y) sc i m → A (47, [some (.ref 77), some (.int s), some (.int (nI i)), some (.int (nI m))], [], h4, 0, 0) := by
        intro f
        induction f with
        | zero =>
          intro m hm h4 M4 r4 F4
          have s0 := M4.2.1.1.1.1.1
          refine vX10_findBest_47 hA ⟨s0, fun _ => ?_, fun q => ?_⟩
          · rw [← Int32.sub_eq_add_neg]
            exact ih (by omega) h4 M4 r4 (by rw [show 2 ^ dH (DD k) = m by omega]; exact F4) _
          · rw [e2H h4 M4] at q; exact absurd (nI_le (by omega) (by omega)) q
        | succ f ihf =>
          intro m hm h4 M4 r4 F4
          have s0 := M4.2.1.1.1.1.1
          obtain ⟨e1, e2⟩ := mo_tl M4.2.1.1.1.1
          refine vX10_findBest_47 hA ⟨s0, fun q => ?_, fun _ => ⟨s0, _, e1, s0, c_bestFromE (d := N 2 w - (i + 1)) a ok M4 hw (by omega) (by omega) A0 (fun m' hm' => F4 (i + 1) m' (by omega) hm' (Or.inl (by omega))) ⟨_, rfl, by rw [e2], by rw [ix, e2]; exact vp_in_nI (by omega) (by decide), ?_⟩⟩⟩
          · rw [e2H h4 M4] at q; exact absurd q (nI_ge (by omega) (by omega))
          · intro u8
            rw [← nI_succ]
            have eu : u8 = ax_pl h4 95 (4096 * i + m) (encN (rBx (N 2 w) (dH (DD k)) (mayC (C 2 w) y) sc (N 2 w - (i + 1) + 1) m)) := by
              show ax_pl h4 95 ((4096 : Int32) * nI i + nI m).toNatClampNeg _ = _
              rw [ix, nI_clamp (by omega)]
            rw [eu]
            refine ihf (m + 1) (by omega) _ (pM_95 M4) (r95 r4) (fun i2 m2 h1 h2 h3' => ?_)
            rw [tb_pl (by omega) (by omega)]
            by_cases e : i2 = i ∧ m2 = m
            · rw [if_pos e, e.1, e.2, show N 2 w - (i + 1) + 1 = N 2 w - i by omega]
            · rw [if_neg e]
              exact F4 i2 m2 h1 h2 (by omega)
      exact vX10_findBest_41 hA ⟨fun q => absurd q (nI_pos (by omega)), fun _ => k47 (2 ^ dH (DD k)) 0 (by omega) h3 M3 r3 (fun i2 m h1 h2 h3' => F i2 m h1 h2 (by omega))⟩
  have k2 : ∀ f m : Nat, m + f = 2 ^ dH (DD k) → ∀ h3, pM h h3 k (DD k) w (N 2 w) y → mr (fun _ => False) (fun a => a = 95) 77 hh h3 → (∀ m', m' < m → tb h3 (N 2 w) m' = 0) → ∀ o3 : Option Value, A (2, [some (.ref 77), some (.int s), some (.int (nI m)), o3], [], h3, 0, 0) := by
    intro f
    induction f with
    | zero =>
      intro m hm h3 M3 r3 F o3
      have s0 := M3.2.1.1.1.1.1
      refine vX10_findBest_2 hA ⟨s0, fun _ => ⟨s0, ?_⟩, fun q => ?_⟩
      · rw [M3.2.2.2.1]
        refine k41 (N 2 w) (Nat.le_refl _) h3 M3 r3 (fun i2 m2 h1 h2 h3' => ?_) _
        have ei : i2 = N 2 w := by omega
        rw [ei, F m2 (by omega), Nat.sub_self]
        rfl
      · rw [e2H h3 M3] at q; exact absurd (nI_le (by omega) (by omega)) q
    | succ f ih =>
      intro m hm h3 M3 r3 F o3
      have s0 := M3.2.1.1.1.1.1
      obtain ⟨e1, e2⟩ := mo_tl M3.2.1.1.1.1
      refine vX10_findBest_2 hA ⟨s0, fun q => ?_, fun _ => ⟨s0, _, e1, s0, by rw [e2], by rw [M3.2.2.2.1, ix, e2]; exact vp_in_nI (by omega) (by decide), ?_⟩⟩
      · rw [e2H h3 M3] at q; exact absurd q (nI_ge (by omega) (by omega))
      · intro u2
        have eu : u2 = ax_pl h3 95 (4096 * N 2 w + m) 0 := by
          show ax_pl h3 95 ((4096 : Int32) * ax_i h3 77 42 + nI m).toNatClampNeg 0 = _
          rw [M3.2.2.2.1, ix, nI_clamp (by omega)]
        rw [eu, ← nI_succ]
        refine ih (m + 1) (by omega) _ (pM_95 M3) (r95 r3) (fun m' hm' => ?_) _
        rw [tb_pl (by omega) (by omega)]
        by_cases e : m' = m
        · rw [if_pos ⟨rfl, e⟩]
        · rw [if_neg (fun q => e q.2)]; exact F m' (by omega)
  exact k2 (2 ^ dH (DD k)) 0 (by omega) hh M mr_rf (fun m' h' => absurd h' (Nat.not_lt_zero _)) _
end
end
