section
variable {g : ax_G} {Ret : Option Value → ax_H → Prop} {h : ax_H} {z : Nat → Nat} {DD : Nat → rD} {N : Nat → Nat → Nat} {C : Nat → Nat → Nat → Nat → Int32} {S : sT} {Im : Nat → Option sT} {tp : Nat → Nat} {B : Nat}
/-! HOPE and DOOM, of the reference -/
theorem c_mplus {x b : Int64} {L τ c d : Int} (s1 : (ax_s h 77).1 = 10) (hL : 0 < L) (hL2 : L < 9223372036854775808) (hτ : 0 < τ) (hc : 0 ≤ c) (hd : 0 ≤ d) (big : (c + d) * L < 9223372036854775807 * τ) (f : fOk (ax_l h 77 56) (ax_l h 77 57) L τ c) (b0 : 0 < b.toInt) (bL' : b.toInt ∣ L) (hx : x.toInt.natAbs * τ ≤ d * b.toInt) (hq : ∀ h', mr (fun j => j = 56 ∨ j = 57) (fun _ => False) 77 h h' → fOk (ax_l h' 77 56) (ax_l h' 77 57) L τ (c + d) → Ret none h') : mX10_plus g [.ref 77, .long x, .long b] h Ret := by
  obtain ⟨n0, f1, bg⟩ := f_add hL hL2 hτ hc hd big f b0 bL' hx
  refine eX10_plus ⟨s1, c_common (by have := f.1; omega) b0 ⟨_, rfl, s1, n0, s1, n0, s1, ?_⟩⟩
  intro u4
  refine ⟨s1, n0, s1, ?_⟩
  intro u5
  have e56 : ax_l u5 77 56 = ax_l h 77 56 * (b / gL (ax_l h 77 57) b) + x * (ax_l h 77 57 / gL (ax_l h 77 57) b) := by
    show ax_l (ax_pl (ax_pl h 77 56 _) 77 57 _) 77 56 = _
    rw [al_pl, if_neg (by decide), al_pl, if_pos ⟨rfl, rfl⟩]
  have e57 : ax_l u5 77 57 = ax_l h 77 57 * (b / gL (ax_l h 77 57) b) := by
    show ax_l (ax_pl (ax_pl h 77 56 _) 77 57 (ax_l (ax_pl h 77 56 _) 77 57 * _)) 77 57 = _
    rw [al_pl, if_pos ⟨rfl, rfl⟩, al_pl, if_neg (by decide)]
  refine ⟨s1, s1, c_common (by rw [e56]; exact bg) (by rw [e57]; exact f1.1) ⟨_, rfl, rfl, s1, ?_⟩⟩
  rw [e56, e57]
  have g0 := gL_ne0 (a := ax_l h 77 56 * (b / gL (ax_l h 77 57) b) + x * (ax_l h 77 57 / gL (ax_l h 77 57) b)) f1.1
  refine ⟨g0, s1, ?_⟩
  intro u9
  refine ⟨rfl, s1, g0, s1, ?_⟩
  intro u10
  have r : mr (fun j => j = 56 ∨ j = 57) (fun _ => False) 77 h u10 := mr_tr (mr_tr (mr_tr (mr_l (Or.inl rfl)) (mr_l (Or.inr rfl))) (mr_l (Or.inl rfl))) (mr_l (Or.inr rfl))
  refine hq u10 r ?_
  have d56 : ax_l u10 77 56 = ax_l u5 77 56 / gL (ax_l h 77 56 * (b / gL (ax_l h 77 57) b) + x * (ax_l h 77 57 / gL (ax_l h 77 57) b)) (ax_l h 77 57 * (b / gL (ax_l h 77 57) b)) := by
    show ax_l (ax_pl (ax_pl u5 77 56 _) 77 57 _) 77 56 = _
    rw [al_pl, if_neg (by decide), al_pl, if_pos ⟨rfl, rfl⟩, e56]
  have d57 : ax_l u10 77 57 = ax_l u5 77 57 / gL (ax_l h 77 56 * (b / gL (ax_l h 77 57) b) + x * (ax_l h 77 57 / gL (ax_l h 77 57) b)) (ax_l h 77 57 * (b / gL (ax_l h 77 57) b)) := by
    show ax_l (ax_pl (ax_pl u5 77 56 _) 77 57 (ax_l (ax_pl u5 77 56 _) 77 57 / _)) 77 57 = _
    rw [al_pl, if_pos ⟨rfl, rfl⟩, al_pl, if_neg (by decide)]
  rw [d56, d57, e56, e57]
  exact f_put bg f1
/-- the told purses again -/
theorem c_mbegin {hh : ax_H} {k : Nat} (ok : rd_ok (DD k)) (L : lvm h hh k (DD k)) (hq : ∀ h', mr (fun j => j = 32 ∨ j = 33) (fun a => a = 90 ∨ a = 93) 77 hh h' → ax_same md_F h h' → hm_at h' k (DD k) → Ret none h') : mX10_begin g [.ref 77] hh Ret := by
  have P6 := ok.2.1
  obtain ⟨s, pu, mc, mw⟩ := L
  refine uX10_begin (fun A hA => vX10_begin_0 hA ?_)
  have key : ∀ f i : Nat, i + f = dP (DD k) → ∀ h3, mr noJ (fun a => a = 90) 77 hh h3 → (∀ p, p < i → ax_i h3 90 p = dpu (DD k) p) → A (2, [some (.ref 77), some (.int (nI i))], [], h3, 0, 0) := by
    intro f
    induction f with
    | zero =>
      intro i hi h3 r3 e3
      have mb := mb_at_mr r3 (by unfold noJ; decide) (by decide) mc.1
      refine vX10_begin_2 hA ⟨mb.1.1, fun _ => ⟨mb.1.1, c_mlayOdds (pu := dpu (DD k)) mb (fun p hp => e3 p (by omega)) (fun h4 r4 w4 => ⟨rfl, ?_⟩)⟩, fun q => ?_⟩
      · have r : mr (fun j => j = 32 ∨ j = 33) (fun a => a = 90 ∨ a = 93) 77 hh h4 := mr_tr (mr_mono r3 (fun _ x => x.elim) (fun _ x => Or.inl x)) (mr_mono r4 (fun _ x => x) (fun _ x => Or.inr x))
        refine hq h4 r (sm_tr s (sm_mono r.1 (fun x e => by unfold md_F; omega))) ⟨⟨mb_at_mr r (by decide) (by decide) mc.1, fun p hp => ?_, fun p q hp hq => ?_, fun p q hp hq => ?_⟩, w4⟩
        · rw [mr_e r4 (by decide) (by decide)]; exact e3 p (by omega)
        · rw [mr_e r (by decide) (by decide)]; exact mc.2.2.1 p q hp hq
        · rw [mr_e r (by decide) (by decide)]; exact mc.2.2.2 p q hp hq
      · rw [mb.2.2.2.2.2.1] at q; exact absurd (nI_le (by omega) (by omega)) q
    | succ f ih =>
      intro i hi h3 r3 e3
      have mb := mb_at_mr r3 (by unfold noJ; decide) (by decide) mc.1
      obtain ⟨e1, e2⟩ := mo_pu mb.1
      refine vX10_begin_2 hA ⟨mb.1.1, fun q => ?_, fun _ => ⟨mb.1.1, _, e1, mb.1.1, c_mof (i := 2 + i) mb.1 mb.2.1 mb.2.2.2.1 (by omega) (ni_c 2 i) ⟨_, rfl, by rw [e2], by rw [e2]; exact vp_in_nI (by omega) (by decide), ?_⟩⟩⟩
      · rw [mb.2.2.2.2.2.1] at q; exact absurd q (nI_ge (by omega) (by omega))
      · intro u7
        rw [← nI_succ]
        refine ih (i + 1) (by omega) u7 (mr_tr r3 (mr_c rfl (by decide))) (fun p hp => ?_)
        show ax_i (ax_pi h3 90 (nI i).toNatClampNeg _) 90 p = _
        rw [nI_clamp (by omega), ai_pi]
        by_cases e : p = i
        · rw [if_pos ⟨rfl, e⟩, e, ← Nat.add_assoc, mb.2.2.1.2.2.2.1 i (by omega)]
        · rw [if_neg (fun w => e w.2)]; exact e3 p (by omega)
  exact key (dP (DD k)) 0 (by omega) hh mr_rf (fun p hp => absurd hp (Nat.not_lt_zero _))
end
