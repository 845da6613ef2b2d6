section
variable {g : ax_G} {Ret : Option Value → ax_H → Prop} {h : ax_H}
section
variable {n H : Nat} {may : Nat → Nat → Bool} {Sx : Nat → Nat → Int}
theorem cB_bd {b : Int} (hb : 0 ≤ b) (hn : n ≤ 6) {q s : Nat} (hq : q ≤ H) (hs : s < 2 ^ n) (bS : ∀ i j, i < n → j < H → -b ≤ Sx i j ∧ Sx i j ≤ b) {v : Int} (e : cB n may Sx q s = some v) : -(b * n) ≤ v ∧ v ≤ b * n := by
  obtain ⟨f, V, ef⟩ := ((cB_ok hn q s hs).2 v e).1
  rw [← ef]
  have k : ∀ m, m ≤ n → -(b * (m : Int)) ≤ sumI (pCt Sx s f) m ∧ sumI (pCt Sx s f) m ≤ b * (m : Int) := fun m => by
    induction m with
    | zero => intro _; show -(b * 0) ≤ 0 ∧ 0 ≤ b * 0; rw [Int.mul_zero]; omega
    | succ m ih =>
      intro hm
      have i1 := ih (by omega)
      have t : -b ≤ pCt Sx s f m ∧ pCt Sx s f m ≤ b := by
        unfold pCt
        split
        · rename_i bt
          have := (V m (by omega) bt).2.1
          exact bS m _ (by omega) (by omega)
        · omega
      show -(b * ((m + 1 : Nat) : Int)) ≤ sumI (pCt Sx s f) m + pCt Sx s f m ∧ sumI (pCt Sx s f) m + pCt Sx s f m ≤ b * ((m + 1 : Nat) : Int)
      rw [show b * ((m + 1 : Nat) : Int) = b * (m : Int) + b from by rw [Int.natCast_add, Int.natCast_one, Int.mul_add, Int.mul_one]]
      omega
  exact k n (Nat.le_refl _)
end
theorem lc_at {n j : Nat} {C1 : Nat → Nat → Int32} (hn : n ≤ 6) (hj : j < n) : sp_lc n (lw 2) C1 (nI j) 0 = C1 j 0 ∧ sp_lc n (lw 2) C1 (nI j) 1 = C1 j 1 ∧ sp_lc n (lw 2) C1 (nI j) 2 = C1 j 2 := by
  have e : sp_in (nI j) n = true := sp_in_nI (by omega) hj
  have e0 : sp_in (0 : Int32) (lw 2) = true := by decide
  have e1 : sp_in (1 : Int32) (lw 2) = true := by decide
  have e2 : sp_in (2 : Int32) (lw 2) = true := by decide
  unfold sp_lc
  rw [e, e0, e1, e2, nI_clamp (by omega)]
  exact ⟨rfl, rfl, rfl⟩
section
variable {r l n o : Nat} {D : rD} {C1 : Nat → Nat → Int32} {w : Nat → Int32} {t : Int32}
theorem c_chooseE {x : Int32} (ok : rd_ok D) (pl : pl_st h 59) (rc : rc_at h r D) (hr : r + 6 ≤ 59) (od : od_at h o (dH D) w t) (ho : o = 55 ∨ o = 64) (L : li_at h l 2 n C1) (hl : l + 2 ≤ 59) (ht : 0 ≤ t.toInt ∧ t.toInt ≤ 108) (hw : ∀ q, q < dH D → 0 ≤ (w q).toInt ∧ (w q).toInt ≤ 9) (h0 : ∀ h', chQ h h' → rBx n (dH D) (mayC C1 x) (scC D (fun i => C1 i 0) w t) n 0 = none → Ret (some (.int 0)) h') (h1 : ∀ h' v, chQ h h' → rBx n (dH D) (mayC C1 x) (scC D (fun i => C1 i 0) w t) n 0 = some v → -100000 ≤ v ∧ v ≤ 100000 → ax_l h' 59 4 = Int64.ofInt v → (∀ i, i < n → ax_i h' 61 i = nI (gf n (dH D) (mayC C1 x) (scC D (fun i => C1 i 0) w t) n 0 i)) → Ret (some (.int 1)) h') : mX4_choose g [.ref 59, .ref r, .ref o, .ref l, .int x] h Ret := by
  have n6 : n ≤ 6 := L.2.1
  have H12 := ok.1.2
  have p2 : ∀ m, m ≤ 6 → 1 ≤ 2 ^ m ∧ 2 ^ m ≤ 64 := by decide
  have pn := p2 n n6
  have kp : ∀ hh, chQ h hh → pl_st hh 59 ∧ rc_at hh r D ∧ od_at hh o (dH D) w t ∧ li_at hh l 2 n C1 := fun hh c => ⟨pl_st_same c.1.1 pl, rc_at_same c.1.1 (fun j hj q => by unfold chF at q; omega) rc, od_at_same c.1.1 (by refine ⟨?_, ?_⟩ <;> (intro q; unfold chF at q; omega)) od, li_at_same c.1.1 (by refine ⟨?_, ?_⟩ <;> (intro q; unfold chF at q; omega)) L⟩
  obtain ⟨may, emay⟩ : ∃ m, m = mayC C1 x := ⟨_, rfl⟩
  obtain ⟨sc, esc⟩ : ∃ s, s = scC D (fun i => C1 i 0) w t := ⟨_, rfl⟩
  rw [← emay, ← esc] at h0 h1
  have scb : ∀ i q, q < dH D → -11583 ≤ sc i q ∧ sc i q ≤ 11583 := fun i q hq => by rw [esc]; exact sc_bd ok ht (hw q hq) i
  have pkb : ∀ i q, i < n → q < dH D → -200000000000 ≤ pk sc i q ∧ pk sc i q ≤ 200000000000 := fun i q hi hq => pk_bd (scb i q hq) (by omega) (by omega)
  have cb : ∀ q s v, q ≤ dH D → s < 2 ^ n → cB n may (pk sc) q s = some v → -500000000000000 ≤ v ∧ v ≤ 500000000000000 := fun q s v hq hs e => by
    have := cB_bd (b := 200000000000) (by decide) n6 hq hs pkb e
    omega
  refine uX4_choose (fun A hA => vX4_choose_0 hA ⟨L.1.1, ?_⟩)
  rw [L.2.2.1, if_neg (show ¬ (6 : Int32) < nI n from nI_nlt (a := 6) (b := n) n6 (by decide)), sh_1 n n6]
  have ea : nI (2 ^ n) - 1 = nI (2 ^ n - 1) := by
    obtain ⟨j, hj⟩ : ∃ j, 2 ^ n = j + 1 := ⟨2 ^ n - 1, by omega⟩
    rw [hj]; exact nI_pred j
  intro z1
  rw [show z1 - 1 = nI (2 ^ n - 1) from ea]
  have k55 : ∀ m i : Nat, i + m = dH D → ∀ hh, chQ h hh → (∀ s, s < 2 ^ n → ax_l hh 62 s = encC (cB n may (pk sc) i s)) → ∀ o8 o9 : Option Value, A (55, [some (.ref 59), some (.ref r), some (.ref o), some (.ref l), some (.int x), some (.int (nI n)), some (.int (nI (2 ^ n - 1))), some (.int (nI i)), o8, o9], [], hh, 0, 0) := by
    intro m
    induction m with
    | zero =>
      intro i hi hh c T o8 o9
      obtain ⟨p, rc, od, L⟩ := kp hh c
      have s62 : (ax_s hh (59 + 3)).1 = 14 := by rw [p.2.2.2.2.1]
      have v64 : vp_in (nI (2 ^ n - 1)) (ax_s hh (59 + 3)).2 := by rw [p.2.2.2.2.1]; exact vp_in_nI (by omega) (by decide)
      have eT : ax_l hh (59 + 3) (nI (2 ^ n - 1)).toNatClampNeg = encC (cB n may (pk sc) (dH D) (2 ^ n - 1)) := by rw [nI_clamp (by omega), ← hi]; exact T _ (by omega)
      refine vX4_choose_55 hA ⟨rc.1.1, fun _ => ⟨p.1, _, p.2.1.2.2.1, s62, v64, fun ne => ⟨p.1, _, p.2.1.2.2.1, s62, v64, p.1, ?_⟩, fun e0 => ⟨Or.inl rfl, h0 hh c ?_⟩⟩, fun q => ?_⟩
      · cases er : rBx n (dH D) may sc n 0 with
        | none => exact absurd (cmp_eq.mpr (by rw [eT, cB_none n6 er]; rfl)) ne
        | some v =>
          have bv := rB_bd (b := 11583) (by decide) n 0 (Nat.le_refl _) (fun i q _ hq => scb i q hq) v er
          have bv2 : -100000 ≤ v ∧ v ≤ 100000 := by omega
          obtain ⟨g0, gz, g1⟩ := gr_bd n6 H12 n 0 (Nat.le_refl _) v er
          have g2 : gr n (dH D) may sc n 0 < 16777216 := by
            rcases Nat.eq_zero_or_pos n with e | e
            · have := gz e; omega
            · have := g1 e; rw [Nat.sub_self] at this; exact this
          rw [eT, cB_some n6 H12 er]
          refine c_keepE p bv2 ⟨g0, g2⟩ (fun h2 c2 e4 d2 => ⟨rfl, Or.inr rfl, h1 h2 v (chQ_tr c c2) er bv2 e4 (fun i hi => ?_)⟩)
          rw [d2 i (by omega), gr_sum er, dig_at n6 (fun i hi => by have := gf_lt (H := dH D) H12 n 0 (Nat.le_refl _) v er i (by omega) hi; omega) i (by omega)]
          unfold dig
          rw [if_pos hi]; rfl
      · have e1 := cmp_eq.mp e0
        rw [eT] at e1
        cases er : rBx n (dH D) may sc n 0 with
        | none => rfl
        | some v =>
          rw [cB_some n6 H12 er] at e1
          have := cb (dH D) (2 ^ n - 1) _ (Nat.le_refl _) (by omega) (cB_some n6 H12 er)
          exact absurd e1 (ofI_ne (by omega))
      · rw [rc.2.2.1.1] at q; exact absurd (nI_le (by omega) (by omega)) q
    | succ m ih =>
      intro i hi hh c T o8 o9
      have iH : i < dH D := by omega
      obtain ⟨p, rc, od, L⟩ := kp hh c
      have k154 : ∀ f h3, f ≤ 2 ^ n - 1 → chQ h h3 → (∀ s, s ≤ f → ax_l h3 62 s = encC (cB n may (pk sc) i s)) → (∀ s, f < s → s < 2 ^ n → ax_l h3 62 s = encC (cB n may (pk sc) (i + 1) s)) → (∀ j, j < n → ax_l h3 63 j = if may j i = true then Int64.ofInt (pk sc j i) else cC) → ∀ o9 : Option Value, A (154, [some (.ref 59), some (.ref r), some (.ref o), some (.ref l), some (.int x), some (.int (nI n)), some (.int (nI (2 ^ n - 1))), some (.int (nI i)), some (.int (nI f)), o9], [], h3, 0, 0) := by
        intro f
        induction f with
        | zero =>
          intro h3 hf c3 T1 T2 S3 o9
          refine vX4_choose_154 hA ⟨fun _ => ?_, fun q => absurd (by rw [nI_0]; decide) q⟩
          rw [← nI_succ]
          refine ih (i + 1) (by omega) h3 c3 (fun s hs => ?_) _ _
          rcases Nat.eq_zero_or_pos s with e | e
          · rw [e, T1 0 (Nat.le_refl _)]
            congr 1
            have z : ∀ m, cfl (cB n may (pk sc) i 0) (ccn may (pk sc) i 0 (cB n may (pk sc) i)) m = cB n may (pk sc) i 0 := fun m => by
              induction m with
              | zero => rfl
              | succ m ihm =>
                show omax (cfl _ _ m) (ccn may (pk sc) i 0 (cB n may (pk sc) i) m) = _
                rw [ihm]
                have : ccn may (pk sc) i 0 (cB n may (pk sc) i) m = none := by unfold ccn; rw [Nat.zero_testBit, Bool.false_and, if_neg (by decide)]
                rw [this]
                cases cB n may (pk sc) i 0 <;> rfl
            exact (z n).symm
          · exact T2 s e hs
        | succ f ihf =>
          intro h3 hf c3 T1 T2 S3 o9
          have p3 := (kp h3 c3).1
          refine vX4_choose_154 hA ⟨fun q => absurd q (nI_nle (by omega) (by omega)), fun _ => ⟨p3.1, _, p3.2.1.2.2.1, p3.1, c_bestOfE (s := f + 1) (q := i) (R := cB n may (pk sc) i) (may := may) (Sx := pk sc) p3 n6 (by omega) T1 S3 (fun s' v hs' e => cb i s' v (by omega) (by omega) e) (fun j hj => pkb j i hj iH) ⟨_, rfl, by rw [p3.2.2.2.2.1], by rw [p3.2.2.2.2.1]; exact vp_in_nI (by omega) (by decide), ?_⟩⟩⟩
          intro u56
          rw [show nI (f + 1) + (-1) = nI f from by rw [nI_succ, Int32.add_assoc, show (1 : Int32) + (-1) = 0 from by decide, Int32.add_zero]]
          refine ihf u56 (by omega) (chQ_tr c3 (chQ_l (Or.inl rfl))) (fun s hs => ?_) (fun s hs hs2 => ?_) (fun j hj => ?_) _
          · show ax_l (ax_pl h3 62 (nI (f + 1)).toNatClampNeg _) 62 s = _
            rw [nI_clamp (by omega), al_pl, if_neg (fun q => by omega)]; exact T1 s (by omega)
          · show ax_l (ax_pl h3 62 (nI (f + 1)).toNatClampNeg _) 62 s = _
            rw [nI_clamp (by omega), al_pl]
            by_cases e : s = f + 1
            · rw [if_pos ⟨rfl, e⟩, e]; rfl
            · rw [if_neg (fun q => e q.2)]; exact T2 s (by omega) hs2
          · show ax_l (ax_pl h3 62 (nI (f + 1)).toNatClampNeg _) 63 j = _
            rw [al_pl, if_neg (fun q => by omega)]; exact S3 j hj
      have k67 : ∀ f j : Nat, j + f = n → ∀ h3, chQ h h3 → (∀ s, s < 2 ^ n → ax_l h3 62 s = encC (cB n may (pk sc) i s)) → (∀ a, a < j → ax_l h3 63 a = if may a i = true then Int64.ofInt (pk sc a i) else cC) → ∀ o9 : Option Value, A (67, [some (.ref 59), some (.ref r), some (.ref o), some (.ref l), some (.int x), some (.int (nI n)), some (.int (nI (2 ^ n - 1))), some (.int (nI i)), some (.int (nI j)), o9], [], h3, 0, 0) := by
        intro f
        induction f with
        | zero =>
          intro j hj h3 c3 T3 S3 o9
          exact vX4_choose_67 hA ⟨fun _ => k154 _ h3 (Nat.le_refl _) c3 (fun s hs => T3 s (by omega)) (fun s h1 h2 => by omega) (fun a ha => S3 a (by omega)) _, fun q => absurd (nI_le (by omega) (by omega)) q⟩
        | succ f ihf =>
          intro j hj h3 c3 T3 S3 o9
          obtain ⟨p3, rc3, od3, L3⟩ := kp h3 c3
          have s63 : (ax_s h3 (59 + 4)).1 = 14 := by rw [p3.2.2.2.2.2.1]
          have v6 : vp_in (nI j) (ax_s h3 (59 + 4)).2 := by rw [p3.2.2.2.2.2.1]; exact vp_in_nI (by omega) (by decide)
          obtain ⟨lc0, lc1, lc2⟩ := lc_at (C1 := C1) n6 (show j < n by omega)
          have K : ∀ (v : Int64) (o9 : Option Value), v = (if may j i = true then Int64.ofInt (pk sc j i) else cC) → A (67, [some (.ref 59), some (.ref r), some (.ref o), some (.ref l), some (.int x), some (.int (nI n)), some (.int (nI (2 ^ n - 1))), some (.int (nI i)), some (.int (nI j + 1)), o9], [], ax_pl h3 63 (nI j).toNatClampNeg v, 0, 0) := fun v o9 ev => by
            rw [← nI_succ]
            refine ihf (j + 1) (by omega) _ (chQ_tr c3 (chQ_l (Or.inr rfl))) (fun s hs => ?_) (fun a ha => ?_) _
            · rw [al_pl, if_neg (fun q => by omega)]; exact T3 s hs
            · rw [nI_clamp (by omega), al_pl]
              by_cases e : a = j
              · rw [if_pos ⟨rfl, e⟩, e]; exact ev
              · rw [if_neg (fun q => e q.2)]; exact S3 a (by omega)
          have yes : may j i = true → ∀ K2 : Option Value → ax_H → Prop, (∀ v : Int64, v = (if may j i = true then Int64.ofInt (pk sc j i) else cC) → K2 (some (.long v)) h3) → mX4_scoreOf g [.ref r, .ref o, .int (sp_lc n (lw 2) C1 (nI j) 0), .int (nI j), .int (nI i)] h3 K2 := fun my K2 hK => by
            rw [lc0]
            exact c_scoreOfE ok rc3 od3 iH (by omega) ht (hw i iH) (hK _ (by rw [if_pos my, esc]))
          have no : ¬ may j i = true → (-1152921504606846976 : Int64) = (if may j i = true then Int64.ofInt (pk sc j i) else cC) := fun nm => by rw [if_neg nm]; rfl
          refine vX4_choose_67 hA ⟨fun q => absurd q (nI_ge (by omega) (by omega)), fun _ => ⟨fun x0 => ⟨p3.1, _, p3.2.1.2.2.2.1, fun e => absurd e (by decide), fun _ => ⟨L3.1.1, c_lcell (by decide) (by decide) L3 ⟨_, rfl, yes ?_ _ (fun v ev => ⟨_, rfl, s63, v6, K _ _ ev⟩)⟩⟩⟩, fun x0 => ⟨L3.1.1, c_lcell (by decide) (by decide) L3 ⟨_, rfl, fun q1 => ⟨p3.1, _, p3.2.1.2.2.2.1, fun _ => ⟨s63, v6, K _ _ (no ?_)⟩, fun e => absurd rfl e⟩, fun q1 => ⟨L3.1.1, c_lcell (by decide) (by decide) L3 ⟨_, rfl, fun q2 => ⟨p3.1, _, p3.2.1.2.2.2.1, fun _ => ⟨s63, v6, K _ _ (no ?_)⟩, fun e => absurd rfl e⟩, fun q2 => ⟨p3.1, _, p3.2.1.2.2.2.1, fun e => absurd e (by decide), fun _ => ⟨L3.1.1, c_lcell (by decide) (by decide) L3 ⟨_, rfl, yes ?_ _ (fun v ev => ⟨_, rfl, s63, v6, K _ _ ev⟩)⟩⟩⟩⟩⟩⟩⟩⟩⟩
          · rw [emay]; unfold mayC; rw [if_neg x0]
          · rw [lc1] at q1
            rw [emay]; unfold mayC
            rw [if_pos x0, decide_eq_true q1, Bool.not_true, Bool.false_and]; decide
          · rw [lc2] at q2
            rw [emay]; unfold mayC
            rw [if_pos x0, decide_eq_true q2, Bool.not_true, Bool.and_false]; decide
          · rw [lc1] at q1
            rw [lc2] at q2
            rw [emay]; unfold mayC
            rw [if_pos x0, decide_eq_false q1, decide_eq_false q2]; rfl
      refine vX4_choose_55 hA ⟨rc.1.1, fun q => ?_, fun _ => k67 n 0 (by omega) hh c T (fun a ha => absurd ha (Nat.not_lt_zero _)) _⟩
      rw [rc.2.2.1.1] at q; exact absurd q (nI_ge (by omega) (by omega))
  have k22 : ∀ f j : Nat, 1 ≤ j → j + f = 2 ^ n → ∀ hh, chQ h hh → (∀ s, 1 ≤ s → s < j → ax_l hh 62 s = cC) → ∀ o8 o9 : Option Value, A (22, [some (.ref 59), some (.ref r), some (.ref o), some (.ref l), some (.int x), some (.int (nI n)), some (.int (nI (2 ^ n - 1))), some (.int (nI j)), o8, o9], [], hh, 0, 0) := by
    intro f
    induction f with
    | zero =>
      intro j h1j hj hh c T o8 o9
      have p := (kp hh c).1
      refine vX4_choose_22 hA ⟨fun _ => ⟨p.1, _, p.2.1.2.2.1, by rw [p.2.2.2.2.1], by rw [p.2.2.2.2.1]; exact vp_in_nI (n := 0) (by decide) (by decide), ?_⟩, fun q => absurd (nI_lt (by omega) (by omega)) q⟩
      intro u3
      refine k55 (dH D) 0 (by omega) u3 (chQ_tr c (chQ_l (Or.inl rfl))) (fun s hs => ?_) _ _
      show ax_l (ax_pl hh 62 0 0) 62 s = encC (if s = 0 then some 0 else none)
      rw [al_pl]
      by_cases e : s = 0
      · rw [if_pos ⟨rfl, e⟩, if_pos e]; rfl
      · rw [if_neg (fun q => e q.2), if_neg e]; exact T s (by omega) (by omega)
    | succ f ih =>
      intro j h1j hj hh c T o8 o9
      have p := (kp hh c).1
      refine vX4_choose_22 hA ⟨fun q => absurd q (nI_nlt (by omega) (by omega)), fun _ => ⟨p.1, _, p.2.1.2.2.1, by rw [p.2.2.2.2.1], by rw [p.2.2.2.2.1]; exact vp_in_nI (by omega) (by decide), ?_⟩⟩
      intro u5
      rw [← nI_succ]
      refine ih (j + 1) (by omega) (by omega) u5 (chQ_tr c (chQ_l (Or.inl rfl))) (fun s h1 h2 => ?_) _ _
      show ax_l (ax_pl hh 62 (nI j).toNatClampNeg _) 62 s = cC
      rw [nI_clamp (by omega), al_pl]
      by_cases e : s = j
      · rw [if_pos ⟨rfl, e⟩]; rfl
      · rw [if_neg (fun q => e q.2)]; exact T s h1 (by omega)
  exact k22 (2 ^ n - 1) 1 (by decide) (by omega) h chQ_rf (fun s h1 h2 => by omega) _ _
end
end
