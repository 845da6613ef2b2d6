section
variable {g : ax_G} {Ret : Option Value → ax_H → Prop} {h : ax_H} {z : Nat → Nat} {DD : Nat → rD} {N : Nat → Nat → Nat} {C : Nat → Nat → Nat → Nat → Int32} {S : sT} {Im : Nat → Option sT} {tp : Nat → Nat} {B : Nat}
section
variable {hh : ax_H} {k w : Nat} {y : Int32}
theorem tb_pl {i m i2 m2 : Nat} {v : Int64} (h1 : m < 4096) (h2 : m2 < 4096) : tb (ax_pl hh 95 (4096 * i + m) v) i2 m2 = if i2 = i ∧ m2 = m then v else tb hh i2 m2 := by
  unfold tb
  rw [al_pl]
  by_cases e : i2 = i ∧ m2 = m
  · rw [if_pos e, if_pos ⟨rfl, by rw [e.1, e.2]⟩]
  · rw [if_neg e, if_neg (fun q => e (by omega))]
theorem att_pl {i m i2 m2 : Nat} {s : Int32} {v v2 : Int64} {D : rD} (hH : dH D ≤ 12) (h1 : m < 4096) (h2 : m2 < 2 ^ dH D) (hi : i ≤ i2) (a : att hh C D w y s i2 m2 v2) : att (ax_pl hh 95 (4096 * i + m) v) C D w y s i2 m2 v2 := by
  obtain ⟨q, κ, a1, a2, a3, a4, a5, a6, a7⟩ := a
  have l := or_lt h2 a4
  have p := p_12 (dH D) hH
  have e : tb (ax_pl hh 95 (4096 * i + m) v) (i2 + 1) (m2 ||| 2 ^ q) = tb hh (i2 + 1) (m2 ||| 2 ^ q) := by rw [tb_pl h1 (by omega), if_neg (by omega)]
  exact ⟨q, κ, a1, a2, a3, a4, a5, by rw [e]; exact a6, by rw [e]; exact a7⟩
/-- rows above, and the row at hand below a place, are filled -/
def fil (hh : ax_H) (C : Nat → Nat → Nat → Nat → Int32) (D : rD) (w n : Nat) (y s : Int32) (i m0 : Nat) : Prop := ∀ i2 m, i2 ≤ n → m < 2 ^ dH D → (i < i2 ∨ (i2 = i ∧ m < m0)) → bQ n i2 (tb hh i2 m) ∧ (i2 < n → tb hh i2 m = cN ∨ att hh C D w y s i2 m (tb hh i2 m))
def goodT (hh : ax_H) (C : Nat → Nat → Nat → Nat → Int32) (D : rD) (w n : Nat) (y s : Int32) : Prop := ∀ i m, i < n → m < 2 ^ dH D → tb hh i m = cN ∨ att hh C D w y s i m (tb hh i m)
theorem r95 {h2 h3 : ax_H} {j : Nat} {v : Int64} (r : mr (fun _ => False) (fun a => a = 95) 77 h2 h3) : mr (fun _ => False) (fun a => a = 95) 77 h2 (ax_pl h3 95 j v) := mr_tr r mr_95
theorem c_findBest {s : Int32} (a : tc h z DD N C) (ok : rd_ok (DD k)) (M : pM h hh k (DD k) w (N 2 w) y) (hw : w < z 2) (hq : ∀ h2, pM h h2 k (DD k) w (N 2 w) y → mr (fun _ => False) (fun a => a = 95) 77 hh h2 → bQ (N 2 w) 0 (tb h2 0 0) → goodT h2 C (DD k) w (N 2 w) y s → Ret (some (.long (tb h2 0 0))) h2) : mX10_findBest g [.ref 77, .int s] hh Ret := by
  have H12 := ok.1.2
  have pH := p_12 (dH (DD k)) H12
  have n6 : N 2 w ≤ 6 := (a.2.2.2.2.2.2 2 w (by decide) (by decide) hw).1
  have e2H : ∀ h3, pM h h3 k (DD k) w (N 2 w) y → (1 : Int32) <<< (ax_i h3 77 26 &&& 31) = nI (2 ^ dH (DD k)) := fun h3 M3 => by rw [M3.2.1.1.1.2.2.2.2.1]; exact sh_12 _ H12
  have ix : ∀ i m : Nat, (4096 : Int32) * nI i + nI m = nI (4096 * i + m) := fun i m => by rw [show (4096 : Int32) * nI i = nI (4096 * i) from ni_mul, nI_add]
  refine uX10_findBest (fun A hA => vX10_findBest_0 hA ?_)
  have k41 : ∀ j : Nat, j ≤ N 2 w → ∀ h3, pM h h3 k (DD k) w (N 2 w) y → mr (fun _ => False) (fun a => a = 95) 77 hh h3 → fil h3 C (DD k) w (N 2 w) y s j (2 ^ dH (DD k)) → ∀ o3 : Option Value, A (41, [some (.ref 77), some (.int s), some (.int (nI j - 1)), o3], [], h3, 0, 0) := by
    intro j
    induction j with
    | zero =>
      intro hj h3 M3 r3 F o3
      have s0 := M3.2.1.1.1.1.1
      obtain ⟨e1, e2⟩ := mo_tl M3.2.1.1.1.1
      refine vX10_findBest_41 hA ⟨fun _ => ⟨s0, _, e1, by rw [e2], by rw [e2]; exact vp_in_nI (n := 0) (by decide) (by decide), ?_⟩, fun q => absurd (by rw [nI_0]; decide) q⟩
      exact hq h3 M3 r3 (F 0 0 (Nat.zero_le _) (by omega) (Or.inr ⟨rfl, by omega⟩)).1 (fun i m hi hm => (F i m (by omega) hm (by rcases Nat.eq_zero_or_pos i with e | e; exact Or.inr ⟨e, hm⟩; exact Or.inl e)).2 hi)
    | succ i ih =>
      intro hj h3 M3 r3 F o3
      rw [nI_pred]
      have k47 : ∀ f m : Nat, m + f = 2 ^ dH (DD k) → ∀ h4, pM h h4 k (DD k) w (N 2 w) y → mr (fun _ => False) (fun a => a = 95) 77 hh h4 → fil h4 C (DD k) w (N 2 w) y s i m → A (47, [some (.ref 77), some (.int s), some (.int (nI i)), some (.int (nI m))], [], h4, 0, 0) := by
        intro f
        induction f with
        | zero =>
          intro m hm h4 M4 r4 F4
          have s0 := M4.2.1.1.1.1.1
          refine vX10_findBest_47 hA ⟨s0, fun _ => ?_, fun q => ?_⟩
          · rw [← Int32.sub_eq_add_neg]
            exact ih (by omega) h4 M4 r4 (by rw [show 2 ^ dH (DD k) = m by omega]; exact F4) _
          · rw [e2H h4 M4] at q; exact absurd (nI_le (by omega) (by omega)) q
        | succ f ihf =>
          intro m hm h4 M4 r4 F4
          have s0 := M4.2.1.1.1.1.1
          obtain ⟨e1, e2⟩ := mo_tl M4.2.1.1.1.1
          refine vX10_findBest_47 hA ⟨s0, fun q => ?_, fun _ => ⟨s0, _, e1, s0, c_bestFrom a ok M4 hw (by omega) (by omega) (fun m' hm' => (F4 (i + 1) m' (by omega) hm' (Or.inl (by omega))).1) (fun v bv av => ⟨_, rfl, by rw [e2], by rw [ix, e2]; exact vp_in_nI (by omega) (by decide), ?_⟩)⟩⟩
          · rw [e2H h4 M4] at q; exact absurd q (nI_ge (by omega) (by omega))
          · intro u8
            rw [← nI_succ]
            have eu : u8 = ax_pl h4 95 (4096 * i + m) v := by
              show ax_pl h4 95 ((4096 : Int32) * nI i + nI m).toNatClampNeg v = _
              rw [ix, nI_clamp (by omega)]
            rw [eu]
            refine ihf (m + 1) (by omega) _ (pM_95 M4) (r95 r4) (fun i2 m2 h1 h2 h3' => ?_)
            rw [tb_pl (by omega) (by omega)]
            by_cases e : i2 = i ∧ m2 = m
            · rw [if_pos e, e.1, e.2]
              exact ⟨bv, fun _ => av.imp id (att_pl H12 (by omega) (by omega) (Nat.le_refl _))⟩
            · rw [if_neg e]
              have := F4 i2 m2 h1 h2 (by omega)
              exact ⟨this.1, fun hn => (this.2 hn).imp id (att_pl H12 (by omega) h2 (by omega))⟩
      exact vX10_findBest_41 hA ⟨fun q => absurd q (nI_pos (by omega)), fun _ => k47 (2 ^ dH (DD k)) 0 (by omega) h3 M3 r3 (fun i2 m h1 h2 h3' => F i2 m h1 h2 (by omega))⟩
  have k2 : ∀ f m : Nat, m + f = 2 ^ dH (DD k) → ∀ h3, pM h h3 k (DD k) w (N 2 w) y → mr (fun _ => False) (fun a => a = 95) 77 hh h3 → (∀ m', m' < m → tb h3 (N 2 w) m' = 0) → ∀ o3 : Option Value, A (2, [some (.ref 77), some (.int s), some (.int (nI m)), o3], [], h3, 0, 0) := by
    intro f
    induction f with
    | zero =>
      intro m hm h3 M3 r3 F o3
      have s0 := M3.2.1.1.1.1.1
      refine vX10_findBest_2 hA ⟨s0, fun _ => ⟨s0, ?_⟩, fun q => ?_⟩
      · rw [M3.2.2.2.1]
        refine k41 (N 2 w) (Nat.le_refl _) h3 M3 r3 (fun i2 m2 h1 h2 h3' => ?_) _
        have ei : i2 = N 2 w := by omega
        rw [ei, F m2 (by omega)]
        refine ⟨?_, fun q => absurd q (Nat.lt_irrefl _)⟩
        unfold bQ bL
        rw [l_0]; omega
      · rw [e2H h3 M3] at q; exact absurd (nI_le (by omega) (by omega)) q
    | succ f ih =>
      intro m hm h3 M3 r3 F o3
      have s0 := M3.2.1.1.1.1.1
      obtain ⟨e1, e2⟩ := mo_tl M3.2.1.1.1.1
      refine vX10_findBest_2 hA ⟨s0, fun q => ?_, fun _ => ⟨s0, _, e1, s0, by rw [e2], by rw [M3.2.2.2.1, ix, e2]; exact vp_in_nI (by omega) (by decide), ?_⟩⟩
      · rw [e2H h3 M3] at q; exact absurd q (nI_ge (by omega) (by omega))
      · intro u2
        have eu : u2 = ax_pl h3 95 (4096 * N 2 w + m) 0 := by
          show ax_pl h3 95 ((4096 : Int32) * ax_i h3 77 42 + nI m).toNatClampNeg 0 = _
          rw [M3.2.2.2.1, ix, nI_clamp (by omega)]
        rw [eu, ← nI_succ]
        refine ih (m + 1) (by omega) _ (pM_95 M3) (r95 r3) (fun m' hm' => ?_) _
        rw [tb_pl (by omega) (by omega)]
        by_cases e : m' = m
        · rw [if_pos ⟨rfl, e⟩]
        · rw [if_neg (fun q => e q.2)]; exact F m' (by omega)
  exact k2 (2 ^ dH (DD k)) 0 (by omega) hh M mr_rf (fun m' h' => absurd h' (Nat.not_lt_zero _)) _
end
theorem t10_free {x1 x2 x3 : Int32} (a : tc h z DD N C) (hq : ∀ (v : Int32) h', ax_same md_F h h' → Ret (some (.int v)) h') : mX10_free g [.ref 77, .int x1, .int x2, .int x3] h Ret := by
  obtain ⟨a1, T1, hs1⟩ := q_code (v := 0) a.2.1 a.2.2.2.1
  refine eX10_free ⟨a.2.1.1, ?_⟩
  intro u1
  refine ⟨a.2.1.1, c_mhasErrands a1 T1 a.2.2.2.2 (fun h2 r2 e41 e45 e42 => ⟨_, rfl, fun _ => hq _ _ (sm_tr hs1 (sm_mono r2.1 (fun x e => Or.inl (e.resolve_right id)))), fun q => ?_⟩)⟩
  have hs2 : ax_same md_F h h2 := sm_tr hs1 (sm_mono r2.1 (fun x e => Or.inl (e.resolve_right id)))
  have b := tc_md hs2 a
  refine ⟨b.2.1.1, q_handR b.2.1 b.2.2.2.1 b.2.2.2.2 (fun _ => ⟨_, rfl, fun q => absurd rfl q, fun _ => hq _ _ hs2⟩) (fun k hk ex ok h' hs hm => ⟨_, rfl, fun _ => ⟨hm.1.1.1.1, ?_⟩, fun q => absurd q (by decide)⟩)⟩
  obtain ⟨w, hw, ew⟩ := sp_in_ix (by have := a.2.2.2.2.1 2 (by decide); omega) (b2i_n0.mp q)
  subst ew
  rw [sp_in_nI (by have := a.2.2.2.2.1 2 (by decide); omega) hw, if_pos rfl, nI_clamp (by have := a.2.2.2.2.1 2 (by decide); omega)] at e42
  have n6 : N 2 w ≤ 6 := (a.2.2.2.2.2.2 2 w (by decide) (by decide) hw).1
  have M : pM h h' k (DD k) w (N 2 w) 0 := ⟨sm_tr hs2 (hd_md hs), hm, by rw [(hs.2 41 (by unfold hd_J; decide)).1]; exact e41, by rw [(hs.2 42 (by unfold hd_J; decide)).1]; exact e42, by rw [(hs.2 45 (by unfold hd_J; decide)).1]; exact e45⟩
  have f45 : ∀ (h3 : ax_H) (y v : Int32), pM h h3 k (DD k) w (N 2 w) y → pM h (ax_pi h3 77 45 v) k (DD k) w (N 2 w) v := fun h3 y v M3 => ⟨sm_tr M3.1 (sm_pi (Or.inl rfl)), hm_mr M3.2.1 (mr_f (J := fun j => j = 45) (F := fun _ => False) rfl) (fun j hj => by omega) (fun a ha => ha.elim), by rw [ai_pi, if_neg (by decide)]; exact M3.2.2.1, by rw [ai_pi, if_neg (by decide)]; exact M3.2.2.2.1, by rw [ai_pi, if_pos ⟨rfl, rfl⟩]⟩
  refine c_findBest a ok M hw (fun h3 M3 r3 b3 _ => ⟨_, rfl, Or.inr rfl, M3.2.1.1.1.1.1, ?_⟩)
  intro u11
  have M11 : pM h u11 k (DD k) w (N 2 w) 1 := f45 h3 0 1 M3
  refine ⟨M11.2.1.1.1.1.1, c_findBest a ok M11 hw (fun h4 M4 r4 b4 _ => ⟨_, rfl, Or.inl rfl, M4.2.1.1.1.1.1, ?_⟩)⟩
  intro u15
  have M15 : pM h u15 k (DD k) w (N 2 w) 0 := f45 h4 1 0 M4
  refine ⟨fun _ => hq _ _ M15.1, fun _ => ⟨fun _ => ⟨M15.2.1.1.1.1.1, ?_⟩, fun _ => hq _ _ M15.1⟩⟩
  rw [M15.2.1.2.2.1]
  refine c_part ?_ (t_pos ok) ⟨_, rfl, hq _ _ M15.1⟩
  unfold bQ bL at b3 b4
  rw [i64_sub (by omega) (by omega)]; omega
theorem n_free (a : IV h S Im tp) (b : 103 ≤ h.1 ∧ h.1 ≤ B) (x1 x2 x3 : Int32) : prN (mX9_free g) (mX10_free g) [.ref 0, .int x1, .int x2, .int x3] [.ref 77, .int x1, .int x2, .int x3] h (inv B) := pr_n a b (fun Ret k => t9_free (iv_tc a) a.1.1.2.2.2.1 k) (fun h1 Ret a1 k => t10_free (iv_tc a1) k)
end
