section
variable {g : ax_G} {Ret : Option Value → ax_H → Prop} {h : ax_H} {z : Nat → Nat} {DD : Nat → rD} {N : Nat → Nat → Nat} {C : Nat → Nat → Nat → Nat → Int32} {S : sT} {Im : Nat → Option sT} {tp : Nat → Nat} {B : Nat}
section
variable {hh : ax_H} {k w : Nat} {y : Int32}
/-- a place of the table -/
def tb (hh : ax_H) (i m : Nat) : Int64 := ax_l hh 95 (4096 * i + m)
/-- from which hour on -/
def loF (C : Nat → Nat → Nat → Nat → Int32) (w : Nat) (y : Int32) (i q : Nat) : Prop := y = 0 → ∀ b, C 2 w i 1 = nI b → b < 12 → b ≤ q
def att (hh : ax_H) (C : Nat → Nat → Nat → Nat → Int32) (D : rD) (w : Nat) (y s : Int32) (i m : Nat) (v : Int64) : Prop := ∃ q κ : Nat, κ < 6 ∧ C 2 w i 0 = nI κ ∧ loF C w y i q ∧ q < dH D ∧ ¬ hasB (nI m) (nI q) ∧ tb hh (i + 1) (m ||| 2 ^ q) ≠ cN ∧ tb hh (i + 1) (m ||| 2 ^ q) + sp_wa D κ q s = v
def bQ (n i : Nat) (v : Int64) : Prop := bL (1000000000000 + 21384 * ((n - i : Nat) : Int)) v
theorem c_bestFrom {i m : Nat} {s : Int32} (a : tc h z DD N C) (ok : rd_ok (DD k)) (M : pM h hh k (DD k) w (N 2 w) y) (hw : w < z 2) (hi : i < N 2 w) (hm : m < 2 ^ dH (DD k)) (nx : ∀ m', m' < 2 ^ dH (DD k) → bQ (N 2 w) (i + 1) (tb hh (i + 1) m')) (hq : ∀ v, bQ (N 2 w) i v → (v = cN ∨ att hh C (DD k) w y s i m v) → Ret (some (.long v)) hh) : mX10_bestFrom g 8 [.ref 77, .int (nI i), .int (nI m), .int s] hh Ret := by
  have t := tc_md M.1 a
  have mb := M.2.1.1.1
  have s0 := mb.1.1
  have H12 := ok.1.2
  have pH := p_12 (dH (DD k)) H12
  have n6 : N 2 w ≤ 6 := (a.2.2.2.2.2.2 2 w (by decide) (by decide) hw).1
  obtain ⟨κ, b, c, E⟩ := er_at a hw hi
  obtain ⟨e1, e2⟩ := mo_tl mb.1
  refine uX10_bestFrom (fun A hA => vX10_bestFrom_0 hA ⟨s0, ?_⟩)
  have key : ∀ f q : Nat, q + f = 13 → loF C w y i q → ∀ (x4 : Int64) (o7 o8 o9 o10 : Option Value), bQ (N 2 w) i x4 → (x4 = cN ∨ att hh C (DD k) w y s i m x4) → A (12, [some (.ref 77), some (.int (nI i)), some (.int (nI m)), some (.int s), some (.long x4), none, some (.int (nI q)), o7, o8, o9, o10], [], hh, 0, 0) := by
    intro f
    induction f with
    | zero =>
      intro q hf lo x4 o7 o8 o9 o10 bx ax
      have gt : ∀ x : Int32, x = nI c ∨ x = 11 → x < nI q := fun x hx => by
        rcases hx with rfl | rfl
        · exact nI_lt (by have := E.2.2.1; omega) (by omega)
        · exact nI_lt (a := 11) (by omega) (by omega)
      refine vX10_bestFrom_12 hA ⟨s0, eX10_toOf ⟨s0, fun _ => ⟨s0, c_merrandOf (j := 2) t.2.1 t.2.2.2.1 t.2.2.2.2 hw M.2.2.1 hi (by decide) ⟨_, rfl, _, rfl, fun _ => hq _ bx ax, fun q1 => ?_⟩⟩, fun _ => ⟨_, rfl, fun _ => hq _ bx ax, fun q1 => ?_⟩⟩⟩
      · exact absurd (gt _ (Or.inl E.2.2.2.2.2)) q1
      · exact absurd (gt _ (Or.inr rfl)) q1
    | succ f ih =>
      intro q hf lo x4 o7 o8 o9 o10 bx ax
      have lo1 : loF C w y i (q + 1) := fun h1 b h2 h3 => Nat.le_succ_of_le (lo h1 b h2 h3)
      have K : ∀ (x4 : Int64) (o7 o8 o9 o10 : Option Value), bQ (N 2 w) i x4 → (x4 = cN ∨ att hh C (DD k) w y s i m x4) → A (12, [some (.ref 77), some (.int (nI i)), some (.int (nI m)), some (.int s), some (.long x4), none, some (.int (nI q + 1)), o7, o8, o9, o10], [], hh, 0, 0) := fun x4 o7 o8 o9 o10 bx ax => by rw [← nI_succ]; exact ih (q + 1) (by omega) lo1 _ _ _ _ _ bx ax
      have bc : bQ (N 2 w) i cN := by unfold bQ bL cN; constructor <;> (have : (-1000000000000 : Int64).toInt = -1000000000000 := by decide); all_goals omega
      refine vX10_bestFrom_12 hA ⟨s0, eX10_toOf ⟨s0, fun _ => ⟨s0, c_merrandOf (j := 2) t.2.1 t.2.2.2.1 t.2.2.2.2 hw M.2.2.1 hi (by decide) ⟨_, rfl, _, rfl, ?_⟩⟩, fun _ => ⟨_, rfl, ?_⟩⟩⟩
      all_goals
        refine ⟨fun _ => hq _ bx ax, fun _ => ⟨s0, fun _ => hq _ bx ax, fun qH => c_mhas (fun nh => ⟨_, rfl, fun q0 => absurd rfl q0, fun _ => ⟨s0, _, e1, ?_⟩⟩) (fun _ => ⟨_, rfl, fun _ => K _ _ _ _ _ bx ax, fun q0 => absurd q0 (by decide)⟩)⟩⟩
        rw [mb.2.2.2.2.1] at qH
        have qlt : q < dH (DD k) := Nat.lt_of_not_le (fun e => qH (nI_le e (by omega)))
        have ml := or_lt hm qlt
        intro z11
        have ez : z11 = nI (4096 * (i + 1) + (m ||| 2 ^ q)) := by
          show (4096 : Int32) * (nI i + 1) + (nI m ||| ((1 : Int32) <<< (nI q &&& 31))) = _
          rw [← nI_succ, show (4096 : Int32) * nI (i + 1) = nI (4096 * (i + 1)) from ni_mul, sh_12 q (by omega), or_nI, nI_add]
        have et : ax_l hh (77 + 18) z11.toNatClampNeg = tb hh (i + 1) (m ||| 2 ^ q) := by rw [ez, nI_clamp (by omega)]; rfl
        refine ⟨by rw [e2], by rw [ez, e2]; exact vp_in_nI (by omega) (by decide), fun ne => ⟨s0, c_worthAt a M hw hi E qlt ⟨_, rfl, fun _ => K _ _ _ _ _ bx ax, fun _ => ?_⟩⟩, fun _ => ⟨fun _ => K _ _ _ _ _ bx ax, fun _ => K _ _ _ _ _ bc (Or.inl rfl)⟩⟩
        rw [et] at ne ⊢
        refine K _ _ _ _ _ ?_ (Or.inr ⟨q, κ, E.1, E.2.2.2.1, lo, qlt, nh, fun e => ne (cmp_eq.mpr e), rfl⟩)
        have b1 := nx _ ml
        unfold bQ at b1 ⊢
        exact bL_mono (bL_add b1 (wa_bd ok E.1 s) (by omega)) (by omega)
  have bc : bQ (N 2 w) i cN := by unfold bQ bL cN; constructor <;> (have : (-1000000000000 : Int64).toInt = -1000000000000 := by decide); all_goals omega
  refine eX10_fromOf ⟨s0, fun e => ⟨s0, c_merrandOf (j := 1) t.2.1 t.2.2.2.1 t.2.2.2.2 hw M.2.2.1 hi (by decide) ⟨_, rfl, _, rfl, ?_⟩⟩, fun e => ⟨_, rfl, ?_⟩⟩
  · rw [E.2.2.2.2.1]
    refine key (13 - b) b (by have := E.2.1; have := E.2.2.1; omega) (fun _ b' eb hb' => ?_) _ _ _ _ _ bc (Or.inl rfl)
    have := (nI_eq (by have := E.2.1; have := E.2.2.1; omega) (by omega)).mp (E.2.2.2.2.1.symm.trans eb)
    omega
  · refine key 13 0 (by decide) (fun y0 => ?_) _ _ _ _ _ bc (Or.inl rfl)
    rw [M.2.2.2.2] at e
    exact absurd y0 e
end
end
