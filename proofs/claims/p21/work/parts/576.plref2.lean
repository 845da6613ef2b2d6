section
variable {g : ax_G} {Ret : Option Value → ax_H → Prop} {h : ax_H} {z : Nat → Nat} {DD : Nat → rD} {N : Nat → Nat → Nat} {C : Nat → Nat → Nat → Nat → Int32} {S : sT} {Im : Nat → Option sT} {tp : Nat → Nat} {B : Nat}
section
variable {hh : ax_H} {k w : Nat} {y : Int32}
theorem god_96 {n H j : Nat} {may : Nat → Nat → Bool} {sc : Nat → Nat → Int} {v : Int32} (G : godE hh n H may sc) : godE (ax_pi hh 96 j v) n H may sc := G
theorem c_choose10E {s : Int32} {sc : Nat → Nat → Int} {u : Int} (a : tc h z DD N C) (ok : rd_ok (DD k)) (M : pM h hh k (DD k) w (N 2 w) 0) (hw : w < z 2) (A0 : scA C (DD k) w (N 2 w) s sc) (G : godE hh (N 2 w) (dH (DD k)) (mayC (C 2 w) 0) sc) (eu : rBx (N 2 w) (dH (DD k)) (mayC (C 2 w) 0) sc (N 2 w) 0 = some u) (hq : ∀ h2, pM h h2 k (DD k) w (N 2 w) 0 → (∀ j, ax_l h2 77 j = ax_l hh 77 j) → (∀ i, i < N 2 w → ax_i h2 96 i = nI (gf (N 2 w) (dH (DD k)) (mayC (C 2 w) 0) sc (N 2 w) 0 i)) → Ret none h2) : mX10_choose g [.ref 77, .int s] hh Ret := by
  have H12 := ok.1.2
  have pH := p_12 (dH (DD k)) H12
  have n6 : N 2 w ≤ 6 := (a.2.2.2.2.2.2 2 w (by decide) (by decide) hw).1
  have ix : ∀ i m : Nat, (4096 : Int32) * nI i + nI m = nI (4096 * i + m) := fun i m => by rw [show (4096 : Int32) * nI i = nI (4096 * i) from ni_mul, nI_add]
  have scb : ∀ j q, j < N 2 w → q < dH (DD k) → -1300000 ≤ sc j q ∧ sc j q ≤ 1300000 := fun j q hj hq => by
    obtain ⟨κ', b', c', E'⟩ := er_at a hw hj
    exact (A0 j κ' q hj E'.1 E'.2.2.2.1 hq).2
  have rbd : ∀ d m v, d ≤ N 2 w → rBx (N 2 w) (dH (DD k)) (mayC (C 2 w) 0) sc d m = some v → -10000000 ≤ v ∧ v ≤ 10000000 := fun d m v hd e => by
    have := rB_bd (b := 1300000) (by decide) d m hd scb v e
    omega
  refine uX10_choose (fun A hA => vX10_choose_0 hA ?_)
  have key : ∀ f i m : Nat, i + f = N 2 w → m < 2 ^ dH (DD k) → ∀ h3, pM h h3 k (DD k) w (N 2 w) 0 → (∀ j, ax_l h3 77 j = ax_l hh 77 j) → godE h3 (N 2 w) (dH (DD k)) (mayC (C 2 w) 0) sc → (∃ v, rBx (N 2 w) (dH (DD k)) (mayC (C 2 w) 0) sc f m = some v) → (∀ j, i ≤ j → j < N 2 w → gf (N 2 w) (dH (DD k)) (mayC (C 2 w) 0) sc (N 2 w) 0 j = gf (N 2 w) (dH (DD k)) (mayC (C 2 w) 0) sc f m j) → (∀ j, j < i → ax_i h3 96 j = nI (gf (N 2 w) (dH (DD k)) (mayC (C 2 w) 0) sc (N 2 w) 0 j)) → ∀ o4 : Option Value, A (4, [some (.ref 77), some (.int s), some (.int (nI m)), some (.int (nI i)), o4], [], h3, 0, 0) := by
    intro f
    induction f with
    | zero =>
      intro i m hi hm h3 M3 l3 G3 n3 g3 d3 o4
      refine vX10_choose_4 hA ⟨M3.2.1.1.1.1.1, fun _ => hq h3 M3 l3 (fun j hj => d3 j (by omega)), fun q => ?_⟩
      rw [M3.2.2.2.1] at q; exact absurd (nI_le (by omega) (by omega)) q
    | succ f ih =>
      intro i m hi hm h3 M3 l3 G3 ⟨v, ev⟩ g3 d3 o4
      have t := tc_md M3.1 a
      have s0 := M3.2.1.1.1.1.1
      have iN : i < N 2 w := by omega
      obtain ⟨e1, e2⟩ := mo_tl M3.2.1.1.1.1
      obtain ⟨f1, f2⟩ := mo_ch M3.2.1.1.1.1
      obtain ⟨κ, b, c, E⟩ := er_at a hw iN
      have bc := E.2.1
      have c12 := E.2.2.1
      have ni : N 2 w - (f + 1) = i := by omega
      obtain ⟨R, eR⟩ : ∃ R, R = rBx (N 2 w) (dH (DD k)) (mayC (C 2 w) 0) sc f := ⟨_, rfl⟩
      obtain ⟨qs, eqs⟩ : ∃ q, q = gh (N 2 w) (dH (DD k)) (mayC (C 2 w) 0) sc f m := ⟨_, rfl⟩
      obtain ⟨x1, x2, x3⟩ := gh_lt ev
      rw [ni, ← eR, ← eqs] at x2
      rw [ni, ← eR, ← eqs] at x3
      rw [← eqs] at x1
      obtain ⟨y1, y2, r0, y3, y4⟩ := rcn_some x2
      have brng : b ≤ qs ∧ qs ≤ c := by
        unfold mayC at y1
        rw [if_pos rfl, E.2.2.2.2.1, E.2.2.2.2.2, Bool.and_eq_true, Bool.not_eq_true', Bool.not_eq_true'] at y1
        exact ⟨Nat.le_of_not_lt (fun e => of_decide_eq_false y1.1 (nI_lt e (by omega))), Nat.le_of_not_lt (fun e => of_decide_eq_false y1.2 (nI_lt e (by omega)))⟩
      have mayq : ∀ q, b ≤ q → q ≤ qs → mayC (C 2 w) 0 i q = true := fun q h1 h2 => by
        unfold mayC
        rw [if_pos rfl, E.2.2.2.2.1, E.2.2.2.2.2, decide_eq_false (nI_nlt h1 (by omega)), decide_eq_false (nI_nlt (show q ≤ c by omega) (by omega))]; rfl
      have gT : ∀ m', m' < 2 ^ dH (DD k) → tb h3 (i + 1) m' = encN (R m') := fun m' hm' => by
        rw [G3 (i + 1) m' (by omega) hm', eR, show N 2 w - (i + 1) = f by omega]
      have gT0 : tb h3 i m = Int64.ofInt v := by
        rw [G3 i m (by omega) hm, show N 2 w - i = f + 1 by omega, ev]; rfl
      have bv := rbd _ _ _ (by omega) ev
      have ggf : gf (N 2 w) (dH (DD k)) (mayC (C 2 w) 0) sc (N 2 w) 0 i = qs := by
        rw [g3 i (Nat.le_refl _) iN, eqs]
        show (if i = N 2 w - (f + 1) then _ else _) = _
        rw [if_pos ni.symm]
      have ggn : ∀ j, i + 1 ≤ j → j < N 2 w → gf (N 2 w) (dH (DD k)) (mayC (C 2 w) 0) sc (N 2 w) 0 j = gf (N 2 w) (dH (DD k)) (mayC (C 2 w) 0) sc f (m ||| 2 ^ qs) j := fun j h1 h2 => by
        rw [g3 j (by omega) h2, eqs]
        show (if j = N 2 w - (f + 1) then _ else _) = _
        rw [if_neg (by omega)]
      have k20 : ∀ d q : Nat, q + d = qs → b ≤ q → A (20, [some (.ref 77), some (.int s), some (.int (nI m)), some (.int (nI i)), some (.int (nI q))], [], h3, 0, 0) := by
        intro d
        induction d with
        | zero =>
          intro q hd hb
          have eq : q = qs := by omega
          subst eq
          have ml := or_lt hm x1
          have ez : (4096 : Int32) * (nI i + 1) + (nI m ||| ((1 : Int32) <<< (nI q &&& 31))) = nI (4096 * (i + 1) + (m ||| 2 ^ q)) := by rw [← nI_succ, sh_12 q (by omega), or_nI, ix]
          have vz : vp_in ((4096 : Int32) * (nI i + 1) + (nI m ||| ((1 : Int32) <<< (nI q &&& 31)))) (ax_s h3 (77 + 18)).2 := by rw [ez, e2]; exact vp_in_nI (by omega) (by decide)
          have br := rbd f _ r0 (by omega) (by rw [← eR]; exact y3)
          have et : ax_l h3 (77 + 18) ((4096 : Int32) * (nI i + 1) + (nI m ||| ((1 : Int32) <<< (nI q &&& 31)))).toNatClampNeg = Int64.ofInt r0 := by
            rw [ez, nI_clamp (by omega)]
            show tb h3 (i + 1) (m ||| 2 ^ q) = _
            rw [gT _ ml, y3]; rfl
          have s14 : (ax_s h3 (77 + 18)).1 = 14 := by rw [e2]
          obtain ⟨ea, sb1, sb2⟩ := A0 i κ q iN E.1 E.2.2.2.1 x1
          refine vX10_choose_20 hA (c_mhas (fun nh => ⟨_, rfl, fun q0 => absurd rfl q0, fun _ => ⟨s0, _, e1, s14, vz, fun qc => ?_, fun qc => ⟨s0, _, e1, s14, vz, s0, c_worthAt a M3 hw iN E x1 ⟨_, rfl, s0, _, e1, s14, by rw [ix, e2]; exact vp_in_nI (by omega) (by decide), fun z0 => ⟨s0, _, f1, by rw [f2], by rw [f2]; exact vp_in_nI (by omega) (by decide), ?_⟩, fun z0 => ?_⟩⟩⟩⟩) (fun hb => ?_))
          · rw [et] at qc; exact absurd (cmp_eq.mp qc) (ofN_ne (by omega))
          · intro u17
            rw [← nI_succ, sh_12 q (by omega), or_nI]
            refine ih (i + 1) (m ||| 2 ^ q) (by omega) ml u17 (pM_96 M3) l3 G3 ⟨r0, by rw [← eR]; exact y3⟩ ggn (fun j hj => ?_) _
            show ax_i (ax_pi h3 96 (nI i).toNatClampNeg (nI q)) 96 j = _
            rw [nI_clamp (by omega), ai_pi]
            by_cases e : j = i
            · rw [if_pos ⟨rfl, e⟩, e, ggf]
            · rw [if_neg (fun q => e q.2)]; exact d3 j (by omega)
          · refine absurd (cmp_eq.mpr ?_) z0
            rw [et, ix, nI_clamp (by omega)]
            show Int64.ofInt r0 + sp_wa (DD k) κ q s = tb h3 i m
            rw [gT0]
            refine ofI_eq (by omega) (by omega) ?_
            rw [i64_add (by rw [ofI (by omega) (by omega), ea]; omega) (by rw [ofI (by omega) (by omega), ea]; omega), ofI (by omega) (by omega), ea, y4]
          · have := (hasB_tb (by omega) (by omega)).mp hb
            rw [y2] at this; cases this
        | succ d ihd =>
          intro q hd hb
          have qH : q < dH (DD k) := by omega
          have ml := or_lt hm qH
          have ez : (4096 : Int32) * (nI i + 1) + (nI m ||| ((1 : Int32) <<< (nI q &&& 31))) = nI (4096 * (i + 1) + (m ||| 2 ^ q)) := by rw [← nI_succ, sh_12 q (by omega), or_nI, ix]
          have vz : vp_in ((4096 : Int32) * (nI i + 1) + (nI m ||| ((1 : Int32) <<< (nI q &&& 31)))) (ax_s h3 (77 + 18)).2 := by rw [ez, e2]; exact vp_in_nI (by omega) (by decide)
          have et : ax_l h3 (77 + 18) ((4096 : Int32) * (nI i + 1) + (nI m ||| ((1 : Int32) <<< (nI q &&& 31)))).toNatClampNeg = encN (R (m ||| 2 ^ q)) := by rw [ez, nI_clamp (by omega)]; exact gT _ ml
          have s14 : (ax_s h3 (77 + 18)).1 = 14 := by rw [e2]
          have K : A (20, [some (.ref 77), some (.int s), some (.int (nI m)), some (.int (nI i)), some (.int (nI q + 1))], [], h3, 0, 0) := by rw [← nI_succ]; exact ihd (q + 1) (by omega) (by omega)
          obtain ⟨ea, sb1, sb2⟩ := A0 i κ q iN E.1 E.2.2.2.1 qH
          refine vX10_choose_20 hA (c_mhas (fun nh => ⟨_, rfl, fun q0 => absurd rfl q0, fun _ => ⟨s0, _, e1, s14, vz, fun qc => K, fun qc => ⟨s0, _, e1, s14, vz, s0, c_worthAt a M3 hw iN E qH ⟨_, rfl, s0, _, e1, s14, by rw [ix, e2]; exact vp_in_nI (by omega) (by decide), fun z0 => ?_, fun z0 => K⟩⟩⟩⟩) (fun hb => ⟨_, rfl, fun _ => K, fun q0 => absurd q0 (by decide)⟩))
          exfalso
          have nb : m.testBit q = false := by cases e : m.testBit q with
            | false => rfl
            | true => exact absurd ((hasB_tb (by omega) (by omega)).mpr e) nh
          cases er : R (m ||| 2 ^ q) with
          | none => exact qc (cmp_eq.mpr (by rw [et, er]; rfl))
          | some r =>
            have br := rbd f _ r (by omega) (by rw [← eR]; exact er)
            refine x3 q (by omega) ?_
            rw [rcn_mk (mayq q hb (by omega)) nb er]
            have z1 := cmp_eq.mp z0
            rw [et, er, ix, nI_clamp (by omega)] at z1
            have z2 : Int64.ofInt r + sp_wa (DD k) κ q s = tb h3 i m := z1
            rw [gT0] at z2
            have z3 := congrArg Int64.toInt z2
            rw [i64_add (by rw [ofI (by omega) (by omega), ea]; omega) (by rw [ofI (by omega) (by omega), ea]; omega), ofI (by omega) (by omega), ofI (by omega) (by omega), ea] at z3
            rw [z3]
      refine vX10_choose_4 hA ⟨s0, fun q => ?_, fun _ => ⟨s0, c_merrandOf (j := 1) t.2.1 t.2.2.2.1 t.2.2.2.2 hw M3.2.2.1 iN (by decide) ⟨_, rfl, ?_⟩⟩⟩
      · rw [M3.2.2.2.1] at q; exact absurd q (nI_ge (by omega) (by omega))
      · rw [E.2.2.2.2.1]
        exact k20 (qs - b) b (by omega) (Nat.le_refl _)
  exact key (N 2 w) 0 0 (by omega) (by omega) hh M (fun _ => rfl) G ⟨u, eu⟩ (fun _ _ _ => rfl) (fun j hj => absurd hj (Nat.not_lt_zero _)) _
theorem c_chosenByE {q : Nat} {F : Nat → Nat} (a : tc h z DD N C) (ok : rd_ok (DD k)) (M : pM h hh k (DD k) w (N 2 w) y) (hw : w < z 2) (hq12 : q < 12) (hF : ∀ i, i < N 2 w → ax_i hh 96 i = nI (F i) ∧ F i < dH (DD k)) (hq : Ret (some (.long (Int64.ofInt ((sp_t (DD k) (rul (DD k))).toInt * sumI (blK (DD k) (fun i => C 2 w i 0) (N 2 w) F q) (N 2 w))))) hh) : mX10_chosenBy g [.ref 77, .int (nI q)] hh Ret := by
  have n6 : N 2 w ≤ 6 := (a.2.2.2.2.2.2 2 w (by decide) (by decide) hw).1
  have H12 := ok.1.2
  have s0 := M.2.1.1.1.1.1
  have bt := sp_t_bd ok (rul (DD k))
  obtain ⟨f1, f2⟩ := mo_ch M.2.1.1.1.1
  have bb : ∀ m, m ≤ 6 → -8000000 ≤ (sp_t (DD k) (rul (DD k))).toInt * sumI (blK (DD k) (fun i => C 2 w i 0) (N 2 w) F q) m ∧ (sp_t (DD k) (rul (DD k))).toInt * sumI (blK (DD k) (fun i => C 2 w i 0) (N 2 w) F q) m ≤ 8000000 := fun m hm => by
    have h1 := blK_bd (n := N 2 w) ok (K := fun i => C 2 w i 0) (F := F) (q := q) m
    have h2 := abs_mul (a := 108) (b := 69498) (x := (sp_t (DD k) (rul (DD k))).toInt) (y := sumI (blK (DD k) (fun i => C 2 w i 0) (N 2 w) F q) m) (by decide) (by decide) (by omega) (by omega)
    omega
  refine uX10_chosenBy (fun A hA => vX10_chosenBy_0 hA ?_)
  have key : ∀ f i : Nat, i + f = N 2 w → ∀ x2 : Int64, x2.toInt = (sp_t (DD k) (rul (DD k))).toInt * sumI (blK (DD k) (fun i => C 2 w i 0) (N 2 w) F q) i → A (5, [some (.ref 77), some (.int (nI q)), some (.long x2), none, some (.int (nI i))], [], hh, 0, 0) := by
    intro f
    induction f with
    | zero =>
      intro i hi x2 e2
      have ei : i = N 2 w := by omega
      rw [ei] at e2
      have b0 := bb (N 2 w) n6
      refine vX10_chosenBy_5 hA ⟨s0, fun _ => ?_, fun q => ?_⟩
      · rw [ofI_eq (by omega) (by omega) e2]; exact hq
      · rw [M.2.2.2.1] at q; exact absurd (nI_le (by omega) (by omega)) q
    | succ f ih =>
      intro i hi x2 e2
      have iN : i < N 2 w := by omega
      obtain ⟨κ, b, c, E⟩ := er_at a hw iN
      obtain ⟨eF, lF⟩ := hF i iN
      refine vX10_chosenBy_5 hA ⟨s0, fun q => ?_, fun _ => ⟨s0, _, f1, by rw [f2], by rw [f2]; exact vp_in_nI (by omega) (by decide), s0, ?_⟩⟩
      · rw [M.2.2.2.1] at q; exact absurd q (nI_ge (by omega) (by omega))
      · rw [nI_clamp (by omega), show (77 + 19 : Nat) = 96 from rfl, eF]
        refine c_worthAt a M hw iN E lF ⟨_, rfl, ?_⟩
        rw [← nI_succ]
        refine ih (i + 1) (by omega) _ ?_
        have ek := wa_known ok (K := fun i => C 2 w i 0) (i := i) (q := F i) (s := q) E.1 E.2.2.2.1 (by omega) (by omega)
        have b0 := bb i (by omega)
        have b1 := bb (i + 1) (by omega)
        have es : (sp_t (DD k) (rul (DD k))).toInt * sumI (blK (DD k) (fun i => C 2 w i 0) (N 2 w) F q) (i + 1) = (sp_t (DD k) (rul (DD k))).toInt * sumI (blK (DD k) (fun i => C 2 w i 0) (N 2 w) F q) i + (sp_t (DD k) (rul (DD k))).toInt * scC (DD k) (fun i => C 2 w i 0) (wK q) 1 i (F i) := by
          show _ * (_ + _) = _
          rw [Int.mul_add]; rfl
        rw [es] at b1 ⊢
        rw [i64_add (by rw [e2, ek]; omega) (by rw [e2, ek]; omega), e2, ek]
  exact key (N 2 w) 0 (by omega) _ (by show (0 : Int) = _ * (0 : Int); rw [Int.mul_zero])
theorem scA_blind (ok : rd_ok (DD k)) : scA C (DD k) w (N 2 w) (-1) (scC (DD k) (fun i => C 2 w i 0) (sp_w (DD k) (rul (DD k))) (sp_t (DD k) (rul (DD k)))) := fun i κ q hi hκ eκ hq => by
  have bt := sp_t_bd ok (rul (DD k))
  have b := sc_bd ok (K := fun i => C 2 w i 0) (w := sp_w (DD k) (rul (DD k))) (t := sp_t (DD k) (rul (DD k))) (q := q) (by omega) (sp_w_bd ok _ q) i
  exact ⟨wa_blind ok hκ eκ, by omega, by omega⟩
theorem scA_known (ok : rd_ok (DD k)) {s : Nat} (hs : s < 12) : scA C (DD k) w (N 2 w) (nI s) (fun i q => (sp_t (DD k) (rul (DD k))).toInt * scC (DD k) (fun i => C 2 w i 0) (wK s) 1 i q) := fun i κ q hi hκ eκ hq => by
  have bt := sp_t_bd ok (rul (DD k))
  have b := sc_bd ok (K := fun i => C 2 w i 0) (w := wK s) (t := 1) (q := q) one_bd (wK_bd s q) i
  have H12 := ok.1.2
  have m := abs_mul (a := 108) (b := 11583) (x := (sp_t (DD k) (rul (DD k))).toInt) (y := scC (DD k) (fun i => C 2 w i 0) (wK s) 1 i q) (by decide) (by decide) (by omega) b
  refine ⟨wa_known ok hκ eκ (by omega) (by omega), ?_, ?_⟩
  · show -1300000 ≤ (sp_t (DD k) (rul (DD k))).toInt * scC (DD k) (fun i => C 2 w i 0) (wK s) 1 i q; omega
  · show (sp_t (DD k) (rul (DD k))).toInt * scC (DD k) (fun i => C 2 w i 0) (wK s) 1 i q ≤ 1300000; omega
theorem c_ruedE {F : Nat → Nat} (a : tc h z DD N C) (ok : rd_ok (DD k)) (M : pM h hh k (DD k) w (N 2 w) 0) (hw : w < z 2) (hF : ∀ i, i < N 2 w → ax_i hh 96 i = nI (F i) ∧ F i < dH (DD k)) (fe : ∀ sc : Nat → Nat → Int, ∃ u, rBx (N 2 w) (dH (DD k)) (mayC (C 2 w) 0) sc (N 2 w) 0 = some u) (hq : ∀ h2, pM h h2 k (DD k) w (N 2 w) 0 → ax_l h2 77 46 = Int64.ofInt ((sp_t (DD k) (rul (DD k))).toInt * sumI (kwT (DD k) (C 2 w) (N 2 w) (sp_w (DD k) (rul (DD k)))) (dH (DD k))) → Ret (some (.int (rgr (sp_w (DD k) (rul (DD k))) (vKn (DD k) (C 2 w) (N 2 w)) (fun q => sumI (blK (DD k) (fun i => C 2 w i 0) (N 2 w) F q) (N 2 w)) (dH (DD k))).2)) h2) : mX10_rued g [.ref 77] hh Ret := by
  have H12 := ok.1.2
  have n6 : N 2 w ≤ 6 := (a.2.2.2.2.2.2 2 w (by decide) (by decide) hw).1
  have bt := sp_t_bd ok (rul (DD k))
  obtain ⟨T, eT⟩ : ∃ T, T = (sp_t (DD k) (rul (DD k))).toInt := ⟨_, rfl⟩
  obtain ⟨V, eV⟩ : ∃ V, V = vKn (DD k) (C 2 w) (N 2 w) := ⟨_, rfl⟩
  obtain ⟨Bl, eB⟩ : ∃ Bl : Nat → Int, Bl = fun q => sumI (blK (DD k) (fun i => C 2 w i 0) (N 2 w) F q) (N 2 w) := ⟨_, rfl⟩
  obtain ⟨W, eW⟩ : ∃ W, W = sp_w (DD k) (rul (DD k)) := ⟨_, rfl⟩
  obtain ⟨RG, eRG⟩ : ∃ R, R = rgr W V Bl := ⟨_, rfl⟩
  obtain ⟨KW, eKW⟩ : ∃ K, K = kwT (DD k) (C 2 w) (N 2 w) W := ⟨_, rfl⟩
  rw [← eW, ← eV, ← eB, ← eRG, ← eKW, ← eT] at hq
  have rs : ∀ q, RG (q + 1) = if W q = 0 then RG q else if (RG q).1 < V q - Bl q then (V q - Bl q, nI q) else RG q := fun q => by rw [eRG]; rfl
  have Vb : ∀ q, -69498 ≤ V q ∧ V q ≤ 69498 := fun q => by rw [eV]; exact vKn_bd ok n6 q
  have Bb : ∀ q, -69498 ≤ Bl q ∧ Bl q ≤ 69498 := fun q => by
    have := blK_bd (n := N 2 w) ok (K := fun i => C 2 w i 0) (F := F) (q := q) (N 2 w)
    rw [eB]
    show -69498 ≤ sumI (blK (DD k) (fun i => C 2 w i 0) (N 2 w) F q) (N 2 w) ∧ sumI (blK (DD k) (fun i => C 2 w i 0) (N 2 w) F q) (N 2 w) ≤ 69498
    omega
  have rb : ∀ q, 0 ≤ (RG q).1 ∧ (RG q).1 ≤ 200000 := fun q => by
    rw [eRG]
    exact ⟨rgr_nn _ _ _ q, rgr_bd (by decide) (fun q => by have := Vb q; have := Bb q; omega) q⟩
  have Wb : ∀ q, 0 ≤ (W q).toInt ∧ (W q).toInt ≤ 9 := fun q => by rw [eW]; exact sp_w_bd ok _ q
  have ks : ∀ q, sumI KW (q + 1) = sumI KW q + (W q).toInt * V q := fun q => by rw [eKW, eV]; rfl
  have kb : ∀ q : Nat, -(700000 * (q : Int)) ≤ sumI KW q ∧ sumI KW q ≤ 700000 * (q : Int) := fun q => by
    induction q with
    | zero => show -(700000 * 0) ≤ (0 : Int) ∧ (0 : Int) ≤ 700000 * 0; omega
    | succ q ih =>
      have m := abs_mul (a := 9) (b := 69498) (x := (W q).toInt) (y := V q) (by decide) (by decide) (by have := Wb q; omega) (Vb q)
      rw [ks]
      omega
  have Tb : ∀ x : Int, -10000000 ≤ x ∧ x ≤ 10000000 → -1080000000 ≤ T * x ∧ T * x ≤ 1080000000 := fun x hx => by
    have := abs_mul (a := 108) (b := 10000000) (x := T) (y := x) (by decide) (by decide) (by omega) hx
    omega
  have T0 : 0 < T := by omega
  refine uX10_rued (fun A hA => vX10_rued_0 hA ⟨M.2.1.1.1.1.1, ?_⟩)
  intro u1
  have key : ∀ f i : Nat, i + f = dH (DD k) → ∀ h3, pM h h3 k (DD k) w (N 2 w) 0 → (∀ i, i < N 2 w → ax_i h3 96 i = nI (F i) ∧ F i < dH (DD k)) → ax_l h3 77 46 = Int64.ofInt (T * sumI KW i) → ∀ (x1 : Int32) (x2 : Int64) (o5 o6 o7 o8 : Option Value), x1 = (RG i).2 → x2 = Int64.ofInt (T * (RG i).1) → A (12, [some (.ref 77), some (.int x1), some (.long x2), none, some (.int (nI i)), o5, o6, o7, o8], [], h3, 0, 0) := by
    intro f
    induction f with
    | zero =>
      intro i hi h3 M3 F3 b3 x1 x2 o5 o6 o7 o8 y1 y2
      have ei : i = dH (DD k) := by omega
      refine vX10_rued_12 hA ⟨M3.2.1.1.1.1.1, fun _ => ?_, fun q => ?_⟩
      · rw [y1, ei]; exact hq h3 M3 (by rw [← ei]; exact b3)
      · rw [M3.2.1.1.1.2.2.2.2.1] at q; exact absurd (nI_le (by omega) (by omega)) q
    | succ f ih =>
      intro i hi h3 M3 F3 b3 x1 x2 o5 o6 o7 o8 y1 y2
      have iH : i < dH (DD k) := by omega
      obtain ⟨u, eu⟩ := fe (scC (DD k) (fun i => C 2 w i 0) (wK i) 1)
      have eVi : V i = u := by rw [eV]; unfold vKn; rw [eu]; rfl
      have eRB : rBx (N 2 w) (dH (DD k)) (mayC (C 2 w) 0) (fun j q => (sp_t (DD k) (rul (DD k))).toInt * scC (DD k) (fun i => C 2 w i 0) (wK i) 1 j q) (N 2 w) 0 = some (T * V i) := by
        rw [rB_osm (sc := scC (DD k) (fun i => C 2 w i 0) (wK i) 1) bt.1 (N 2 w) 0 (Nat.le_refl _) (fun _ _ _ _ => rfl), eu, eVi, ← eT]; rfl
      have Vi := Vb i
      have Bi := Bb i
      have TV := Tb (V i) (by omega)
      have TB := Tb (Bl i) (by omega)
      have Ri := rb i
      have TR := Tb (RG i).1 (by omega)
      have TD := Tb (V i - Bl i) (by omega)
      have Wi := Wb i
      have Ki := kb i
      have Ki1 := kb (i + 1)
      have TK := Tb (sumI KW i) (by omega)
      have TK1 := Tb (sumI KW (i + 1)) (by omega)
      have ksi := ks i
      refine vX10_rued_12 hA ⟨M3.2.1.1.1.1.1, fun q => ?_, fun _ => ⟨M3.2.1.1.1.1.1, c_findBestE a ok M3 hw (scA_known ok (by omega)) (fun h4 M4 r4 _ => ⟨_, rfl, rfl, M4.2.1.1.1.1.1, M4.2.1.1.1.1.1, ?_⟩)⟩⟩
      · rw [M3.2.1.1.1.2.2.2.2.1] at q; exact absurd q (nI_ge (by omega) (by omega))
      · rw [eRB]
        obtain ⟨e1, e2⟩ := mo_we M4.2.1.1.1.1
        have s11 : (ax_s h4 (77 + 16)).1 = 11 := by rw [e2]
        have v12 : vp_in (nI i) (ax_s h4 (77 + 16)).2 := by rw [e2]; exact vp_in_nI (by omega) (by decide)
        have ew : ax_i h4 (77 + 16) (nI i).toNatClampNeg = W i := by rw [nI_clamp (by omega), M4.2.1.2.1 i iH, eW]
        refine ⟨_, e1, s11, v12, M4.2.1.1.1.1.1, ?_⟩
        intro u6
        have M6 : pM h u6 k (DD k) w (N 2 w) 0 := pM_46 M4
        have F6 : ∀ i, i < N 2 w → ax_i u6 96 i = nI (F i) ∧ F i < dH (DD k) := fun j hj => by
          have e : ax_i h4 96 j = ax_i h3 96 j := (r4.1.2.2.2 96 (by decide)).1 j
          exact ⟨by show ax_i h4 96 j = _; rw [e]; exact (F3 j hj).1, (F3 j hj).2⟩
        have b6 : ax_l u6 77 46 = Int64.ofInt (T * sumI KW (i + 1)) := by
          show ax_l (ax_pl h4 77 46 (ax_l h4 77 46 + (ax_i h4 (77 + 16) (nI i).toNatClampNeg).toInt64 * Int64.ofInt (T * V i))) 77 46 = _
          rw [al_pl, if_pos ⟨rfl, rfl⟩, ew, (r4.2 46 id).2, b3]
          have mm := abs_mul (a := 9) (b := 1080000000) (x := (W i).toInt) (y := T * V i) (by decide) (by decide) (by omega) TV
          have x1' : ((W i).toInt64 * Int64.ofInt (T * V i)).toInt = (W i).toInt * (T * V i) := by rw [i64_mul (by rw [i_64, ofI (by omega) (by omega)]; omega) (by rw [i_64, ofI (by omega) (by omega)]; omega), i_64, ofI (by omega) (by omega)]
          refine ofI_eq (by omega) (by omega) ?_
          rw [i64_add (by rw [x1', ofI (by omega) (by omega)]; omega) (by rw [x1', ofI (by omega) (by omega)]; omega), x1', ofI (by omega) (by omega), ksi, Int.mul_add]
          congr 1
          ac_rfl
        have K : ∀ (x1 : Int32) (x2 : Int64) (o5 o6 o7 o8 : Option Value), x1 = (RG (i + 1)).2 → x2 = Int64.ofInt (T * (RG (i + 1)).1) → A (12, [some (.ref 77), some (.int x1), some (.long x2), none, some (.int (nI i + 1)), o5, o6, o7, o8], [], u6, 0, 0) := fun x1 x2 o5 o6 o7 o8 z1 z2 => by rw [← nI_succ]; exact ih (i + 1) (by omega) u6 M6 F6 b6 _ _ _ _ _ _ z1 z2
        have ew6 : ax_i u6 (77 + 16) (nI i).toNatClampNeg = W i := ew
        refine ⟨M6.2.1.1.1.1.1, _, e1, s11, v12, fun w0 => ⟨M6.2.1.1.1.1.1, c_chosenByE a ok M6 hw (by omega) F6 ⟨_, rfl, ?_⟩⟩, fun w0 => ?_⟩
        · rw [ew6] at w0
          have eBl : sumI (blK (DD k) (fun i => C 2 w i 0) (N 2 w) F i) (N 2 w) = Bl i := by rw [eB]
          rw [eBl, ← eT]
          have es : encN (some (T * V i)) - Int64.ofInt (T * Bl i) = Int64.ofInt (T * (V i - Bl i)) := by
            refine ofI_eq (by omega) (by omega) ?_
            show (Int64.ofInt (T * V i) - Int64.ofInt (T * Bl i)).toInt = _
            rw [i64_sub (by rw [ofI (by omega) (by omega), ofI (by omega) (by omega)]; omega) (by rw [ofI (by omega) (by omega), ofI (by omega) (by omega)]; omega), ofI (by omega) (by omega), ofI (by omega) (by omega), Int.mul_sub]
          rw [es, y2]
          have cm : lg_cmp (Int64.ofInt (T * (V i - Bl i))) (Int64.ofInt (T * (RG i).1)) ≤ 0 ↔ ¬ (RG i).1 < V i - Bl i := by
            rw [cmp_le0, ofI (by omega) (by omega), ofI (by omega) (by omega)]
            constructor
            · intro le lt
              have := Int.mul_lt_mul_of_pos_left lt T0
              omega
            · intro nl
              exact Int.mul_le_mul_of_nonneg_left (by omega) (Int.le_of_lt T0)
          have er := rs i
          rw [if_neg w0] at er
          refine ⟨fun c1 => ⟨fun _ => K _ _ _ _ _ _ ?_ ?_, fun c2 => absurd c1 c2⟩, fun c1 => ⟨fun c2 => absurd c2 c1, fun _ => K _ _ _ _ _ _ ?_ ?_⟩⟩
          · rw [er, if_neg (cm.mp c1)]; exact y1
          · rw [er, if_neg (cm.mp c1)]
          · have lt : (RG i).1 < V i - Bl i := by
              by_cases q : (RG i).1 < V i - Bl i
              · exact q
              · exact absurd (cm.mpr q) c1
            rw [er, if_pos lt]
          · have lt : (RG i).1 < V i - Bl i := by
              by_cases q : (RG i).1 < V i - Bl i
              · exact q
              · exact absurd (cm.mpr q) c1
            rw [er, if_pos lt]
        · rw [ew6] at w0
          have er := rs i
          rw [if_pos w0] at er
          have c0 : lg_cmp (0 : Int64) x2 ≤ 0 := by
            refine cmp_le0.mpr ?_
            rw [y2, ofI (by omega) (by omega), l_0]
            exact Int.mul_nonneg (Int.le_of_lt T0) Ri.1
          exact ⟨fun _ => ⟨fun _ => K _ _ _ _ _ _ (by rw [er]; exact y1) (by rw [er]; exact y2), fun c2 => absurd c0 c2⟩, fun c1 => absurd c0 c1⟩
  refine key (dH (DD k)) 0 (by omega) u1 (pM_46 M) (fun i hi => hF i hi) ?_ _ _ _ _ _ _ (by rw [eRG]; rfl) (by rw [eRG]; show (0 : Int64) = Int64.ofInt (T * 0); rw [Int.mul_zero]; rfl)
  show ax_l (ax_pl hh 77 46 0) 77 46 = Int64.ofInt (T * 0)
  rw [al_pl, if_pos ⟨rfl, rfl⟩, Int.mul_zero]; rfl
end
end
