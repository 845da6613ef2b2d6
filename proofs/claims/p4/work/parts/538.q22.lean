section
variable {g : ax_G} {Ret : Option Value → ax_H → Prop} {h : ax_H} {z : Nat → Nat} {DD : Nat → rD} {N : Nat → Nat → Nat} {C : Nat → Nat → Nat → Nat → Int32} {S : sT} {Im : Nat → Option sT} {tp : Nat → Nat} {B : Nat}
/-! PLAN and FREE, of the reference -/
def cN : Int64 := -1000000000000
theorem or_nI (a b : Nat) : nI a ||| nI b = nI (a ||| b) := by
  refine Int32.toBitVec_inj.mp ?_
  rw [Int32.toBitVec_or]
  exact (BitVec.ofNat_or).symm
theorem sh_12 : ∀ q, q ≤ 12 → (1 : Int32) <<< (nI q &&& 31) = nI (2 ^ q) := by decide +kernel
theorem or_lt {m q H : Nat} (hm : m < 2 ^ H) (hq : q < H) : m ||| 2 ^ q < 2 ^ H := Nat.or_lt_two_pow hm (Nat.pow_lt_pow_right (by decide) hq)
theorem p_12 : ∀ q, q ≤ 12 → 1 ≤ 2 ^ q ∧ 2 ^ q ≤ 4096 := by decide
theorem cmp_eq {x y : Int64} : lg_cmp x y = 0 ↔ x = y := by
  unfold lg_cmp
  constructor
  · intro q
    split at q
    · cases q
    · split at q
      · assumption
      · cases q
  · intro e
    rw [e, if_neg (by show ¬ y < y; rw [l_lt]; omega), if_pos rfl]
def hasB (m q : Int32) : Prop := ((m >>> (q &&& 31)) &&& 1) = 1
theorem c_mhas {m q : Int32} (h0 : ¬ hasB m q → Ret (some (.int 0)) h) (h1 : hasB m q → Ret (some (.int 1)) h) : mX10_has g [.int m, .int q] h Ret := eX10_has ⟨fun e => ⟨Or.inl rfl, h0 e⟩, fun e => ⟨Or.inr rfl, h1 e⟩⟩
def sp_wa (D : rD) (κ q : Nat) (s : Int32) : Int64 := if s = -1 then (dwo D κ).toInt64 * ((sp_t D (rul D)).toInt64 + (sp_w D (rul D) q).toInt64 * (sp_ti (dmo D κ) 2 - 1).toInt64) else if s = nI q then ((dwo D κ).toInt64 * (sp_t D (rul D)).toInt64) * (sp_ti (dmo D κ) 2).toInt64 else ((dwo D κ).toInt64 * (sp_t D (rul D)).toInt64) * (1 : Int32).toInt64
theorem ti_bd {x : Int32} : 0 ≤ (sp_ti x 2).toInt ∧ (sp_ti x 2).toInt ≤ 2 := by
  unfold sp_ti
  split
  · decide
  · split <;> decide
theorem wa_bd {D : rD} (ok : rd_ok D) {κ q : Nat} (hκ : κ < 6) (s : Int32) : bL 21384 (sp_wa D κ q s) := by
  have bw := ok.2.2.1 κ hκ
  have bt := sp_t_bd ok (rul D)
  have bq := sp_w_bd ok (rul D) q
  have b2 := ti_bd (x := dmo D κ)
  unfold sp_wa
  have m0 : bL 99 (dwo D κ).toInt64 := bL_32 bw
  have mt : bL 108 (sp_t D (rul D)).toInt64 := bL_32 (by omega)
  have m1 : bL 10692 ((dwo D κ).toInt64 * (sp_t D (rul D)).toInt64) := bL_mul (a := 99) (b := 108) (by decide) (by decide) m0 mt (by decide)
  split
  · refine bL_mono (bL_mul (a := 99) (b := 126) (by decide) (by decide) m0 (bL_mono (bL_add mt (bL_mul (a := 9) (b := 2) (by decide) (by decide) (bL_32 (x := sp_w D (rul D) q) (by omega)) (bL_32 (x := sp_ti (dmo D κ) 2 - 1) (by rw [i32_sub (by rw [show (1 : Int32).toInt = 1 from rfl]; omega) (by rw [show (1 : Int32).toInt = 1 from rfl]; omega), show (1 : Int32).toInt = 1 from rfl]; omega)) (by decide)) (by decide)) (by decide)) (by decide)) (by decide)
  · split
    · exact bL_mono (bL_mul (a := 10692) (b := 2) (by decide) (by decide) m1 (bL_32 (by omega)) (by decide)) (by decide)
    · exact bL_mono (bL_mul (a := 10692) (b := 1) (by decide) (by decide) m1 (bL_32 (by decide)) (by decide)) (by decide)
/-- the reference with a republic and a row of errands in hand -/
def pM (h hh : ax_H) (k : Nat) (D : rD) (w n : Nat) (y : Int32) : Prop := ax_same md_F h hh ∧ hm_at hh k D ∧ ax_i hh 77 41 = nI w ∧ ax_i hh 77 42 = nI n ∧ ax_i hh 77 45 = y
theorem hm_mr {J F : Nat → Prop} {hh h2 : ax_H} {k : Nat} {D : rD} (hm : hm_at hh k D) (s : mr J F 77 hh h2) (hJ : ∀ j, J j → j < 25 ∨ (27 < j ∧ j < 32) ∨ 35 < j) (hF : ∀ a, F a → 94 ≤ a ∧ a ≤ 101) : hm_at h2 k D := by
  refine ⟨mc_at_mr s ⟨fun q => ?_, fun q => ?_, fun q => ?_, fun q => ?_, fun q => ?_⟩ ⟨fun q => ?_, fun q => ?_, fun q => ?_, fun q => ?_⟩ hm.1, mw_mr s ⟨fun q => ?_, fun q => ?_⟩ (fun q => ?_) hm.2⟩
  all_goals first | (have := hJ _ q; omega) | (have := hF _ q; omega)
theorem mr_95 {hh : ax_H} {j : Nat} {v : Int64} : mr (fun _ => False) (fun a => a = 95) 77 hh (ax_pl hh 95 j v) := ⟨sm_pl (Or.inr rfl), fun i _ => ⟨rfl, by rw [al_pl, if_neg (by omega)]⟩⟩
theorem pM_95 {hh : ax_H} {k w n j : Nat} {D : rD} {y : Int32} {v : Int64} (M : pM h hh k D w n y) : pM h (ax_pl hh 95 j v) k D w n y := ⟨sm_tr M.1 (sm_pl (by unfold md_F; omega)), hm_mr M.2.1 mr_95 (fun j hj => hj.elim) (fun a ha => by omega), M.2.2.1, M.2.2.2.1, M.2.2.2.2⟩
theorem mo_tl {h : ax_H} {m : Nat} (a : mo_st h m) : ax_r h m 43 = some (m + 18) ∧ ax_s h (m + 18) = (14, 28672) := a.2 17 _ rfl
theorem mo_ch {h : ax_H} {m : Nat} (a : mo_st h m) : ax_r h m 44 = some (m + 19) ∧ ax_s h (m + 19) = (11, 6) := a.2 18 _ rfl
section
variable {hh : ax_H} {k w : Nat} {y : Int32}
/-- an errand's kind and hours -/
def erD (C : Nat → Nat → Nat → Nat → Int32) (w i κ b c : Nat) : Prop := κ < 6 ∧ b ≤ c ∧ c < 12 ∧ C 2 w i 0 = nI κ ∧ C 2 w i 1 = nI b ∧ C 2 w i 2 = nI c
theorem er_at (a : tc h z DD N C) (hw : w < z 2) {i : Nat} (hi : i < N 2 w) : ∃ κ b c, erD C w i κ b c := (a.2.2.2.2.2.2 2 w (by decide) (by decide) hw).2 i hi
theorem c_worthAt {i q κ b c : Nat} {s : Int32} (a : tc h z DD N C) (M : pM h hh k (DD k) w (N 2 w) y) (hw : w < z 2) (hi : i < N 2 w) (E : erD C w i κ b c) (hq0 : q < dH (DD k)) (hq : Ret (some (.long (sp_wa (DD k) κ q s))) hh) : mX10_worthAt g [.ref 77, .int (nI i), .int (nI q), .int s] hh Ret := by
  have t := tc_md M.1 a
  have mb := M.2.1.1.1
  have H12 := mb.2.2.1.1.1
  have s0 := mb.1.1
  have e0 := E.2.2.2.1
  obtain ⟨e1, e2⟩ := mo_we mb.1
  unfold sp_wa at hq
  refine eX10_worthAt ⟨s0, c_merrandOf (j := 0) t.2.1 t.2.2.2.1 t.2.2.2.2 hw M.2.2.1 hi (by decide) ⟨_, rfl, s0, c_mof (i := 8 + κ) mb.1 mb.2.1 mb.2.2.2.1 (by have := E.1; omega) (by rw [e0]; exact ni_c 8 κ) ⟨_, rfl, s0, c_merrandOf (j := 0) t.2.1 t.2.2.2.1 t.2.2.2.2 hw M.2.2.1 hi (by decide) ⟨_, rfl, s0, c_mof (i := 14 + κ) mb.1 mb.2.1 mb.2.2.2.1 (by have := E.1; omega) (by rw [e0]; exact ni_c 14 κ) ⟨_, rfl, c_mtimes ⟨_, rfl, fun q1 => ⟨s0, fun q2 => ?_, fun q2 => ?_⟩, fun q1 => ⟨s0, s0, _, e1, by rw [e2], by rw [e2]; exact vp_in_nI (by omega) (by decide), ?_⟩⟩⟩⟩⟩⟩⟩
  all_goals (try rw [M.2.1.2.2.1])
  · rw [← Nat.add_assoc, mb.2.2.1.2.2.2.2.1 κ E.1]
    rw [if_neg q1, if_neg q2] at hq; exact hq
  · rw [← Nat.add_assoc, ← Nat.add_assoc, mb.2.2.1.2.2.2.2.1 κ E.1, mb.2.2.1.2.2.2.2.2.1 κ E.1]
    rw [if_neg q1, if_pos q2] at hq; exact hq
  · intro z17
    rw [if_pos q1] at hq
    have ez : z17 = (sp_w (DD k) (rul (DD k)) q).toInt64 * (sp_ti (dmo (DD k) κ) 2 - 1).toInt64 := by
      show (ax_i hh (77 + 16) (nI q).toNatClampNeg).toInt64 * (sp_ti (ax_i hh (77 + 6) (164 * k + (14 + κ))) 2 - 1).toInt64 = _
      rw [nI_clamp (by omega), M.2.1.2.1 q hq0, ← Nat.add_assoc, mb.2.2.1.2.2.2.2.2.1 κ E.1]
    rw [ez, ← Nat.add_assoc, mb.2.2.1.2.2.2.2.1 κ E.1]
    exact hq
end
end
