section
/-! the odds of a day: hours, weights, their sum -/
def od_F (o : Nat) : Nat → Prop := fun a => a = o ∨ a = o + 1
def od_st (h : ax_H) (o : Nat) : Prop := (ax_s h o).1 = 3 ∧ ax_r h o 0 = some (o + 1) ∧ ax_s h (o + 1) = (11, 12)
def od_at (h : ax_H) (o H : Nat) (w : Nat → Int32) (t : Int32) : Prop := od_st h o ∧ H ≤ 12 ∧ ax_i h o 1 = nI H ∧ ax_i h o 2 = t ∧ ∀ q, q < H → ax_i h (o + 1) q = w q
theorem od_st_same {F : Nat → Prop} {h h' : ax_H} {o : Nat} (hs : ax_same F h h') (a : od_st h o) : od_st h' o := ⟨by rw [hs.2.1]; exact a.1, by rw [hs.2.2.1]; exact a.2.1, by rw [hs.2.1]; exact a.2.2⟩
theorem od_at_same {F : Nat → Prop} {h h' : ax_H} {o H : Nat} {w : Nat → Int32} {t : Int32} (hs : ax_same F h h') (hF : ¬ F o ∧ ¬ F (o + 1)) (a : od_at h o H w t) : od_at h' o H w t := ⟨od_st_same hs a.1, a.2.1, by rw [(hs.2.2.2 _ hF.1).1]; exact a.2.2.1, by rw [(hs.2.2.2 _ hF.1).1]; exact a.2.2.2.1, fun q hq => by rw [(hs.2.2.2 _ hF.2).1]; exact a.2.2.2.2 q hq⟩
/-- the weights by the lots of a ruler (or of nobody) -/
def sp_ws (D : rD) (x : Int32) : Int32 := sumN (fun q => sp_lo D x (nI q)) (dH D)
def sp_w (D : rD) (x : Int32) (q : Nat) : Int32 := if sp_ws D x = 0 then 1 else sp_lo D x (nI q)
def sp_t (D : rD) (x : Int32) : Int32 := if sp_ws D x = 0 then nI (dH D) else sp_ws D x
variable {g : ax_G} {Ret : Option Value → ax_H → Prop} {h : ax_H} {r o : Nat} {D : rD}
theorem c_weigh {x : Int32} (hO : od_st h o) (hD : rc_at h r D) (hne : ∀ j, j < 6 → ¬ od_F o (r + j)) (hq : ∀ h', ax_same (od_F o) h h' → od_at h' o (dH D) (sp_w D x) (sp_t D x) → Ret none h') : mX3_weigh g [.ref o, .ref r, .int x] h Ret := by
  have hH := hD.2.1.1
  have hoF : od_F o o := Or.inl rfl
  have hoF1 : od_F o (o + 1) := Or.inr rfl
  refine uX3_weigh (fun A hA => vX3_weigh_0 hA ⟨hD.1.1, hO.1, ?_⟩)
  intro h1
  refine ⟨hO.1, ?_⟩
  intro h2
  -- the second loop: all weights one
  have loop2 : ∀ n i : Nat, ∀ (hh : ax_H) (o1 o2 : Option Value), i + n = dH D → sp_ws D x = 0 → ax_same (od_F o) h hh → ax_i hh o 1 = nI (dH D) → (∀ q, q < i → ax_i hh (o + 1) q = 1) → A (65, [some (.ref o), o1, o2, some (.int (nI i))], [], hh, 0, 0) := by
    intro n
    induction n with
    | zero =>
      intro i hh o1 o2 hi h0 hs hr hw
      have hO' := od_st_same hs hO
      refine vX3_weigh_65 hA ⟨hO'.1, fun _ => ⟨hO'.1, hO'.1, ?_⟩, fun q => ?_⟩
      · intro h10
        refine hq h10 (sm_tr hs (sm_pi hoF)) ⟨od_st_same (sm_pi hoF) hO', hH, ?_, ?_, fun q hq' => ?_⟩
        · show ax_i (ax_pi hh o 2 (ax_i hh o 1)) o 1 = _
          rw [ai_pi, if_neg (by omega)]; exact hr
        · show ax_i (ax_pi hh o 2 (ax_i hh o 1)) o 2 = _
          rw [ai_pi, if_pos ⟨rfl, rfl⟩, hr]; unfold sp_t; rw [if_pos h0]
        · show ax_i (ax_pi hh o 2 (ax_i hh o 1)) (o + 1) q = _
          rw [ai_pi, if_neg (by omega), hw q (by omega)]; unfold sp_w; rw [if_pos h0]
      · rw [hr] at q; exact absurd (nI_le (by omega) (by omega)) q
    | succ n ih =>
      intro i hh o1 o2 hi h0 hs hr hw
      have hO' := od_st_same hs hO
      refine vX3_weigh_65 hA ⟨hO'.1, fun q => ?_, fun _ => ⟨hO'.1, _, hO'.2.1, by rw [hO'.2.2], by rw [hO'.2.2]; exact vp_in_nI (by omega) (by decide), ?_⟩⟩
      · rw [hr] at q; exact absurd q (nI_ge (by omega) (by omega))
      · intro h12
        have := ih (i + 1) h12 o1 (ax_k2 o2) (by omega) h0 (sm_tr hs (sm_pi hoF1)) (by show ax_i (ax_pi hh (o + 1) (nI i).toNatClampNeg 1) o 1 = _; rw [ai_pi, if_neg (by omega)]; exact hr) (fun q hq' => by
          show ax_i (ax_pi hh (o + 1) (nI i).toNatClampNeg 1) (o + 1) q = _
          rw [ai_pi, nI_clamp (by omega)]
          by_cases e : q = i
          · rw [if_pos ⟨rfl, e⟩]
          · rw [if_neg (fun z => e z.2)]; exact hw q (by omega))
        rw [nI_succ] at this
        exact this
  have loop1 : ∀ n i : Nat, ∀ hh : ax_H, i + n = dH D → ax_same (od_F o) h hh → ax_i hh o 1 = nI (dH D) → ax_i hh o 2 = sumN (fun q => sp_lo D x (nI q)) i → (∀ q, q < i → ax_i hh (o + 1) q = sp_lo D x (nI q)) → A (15, [some (.ref o), some (.ref r), some (.int x), some (.int (nI i))], [], hh, 0, 0) := by
    intro n
    induction n with
    | zero =>
      intro i hh hi hs hr ht hw
      have hO' := od_st_same hs hO
      obtain rfl : i = dH D := by omega
      refine vX3_weigh_15 hA ⟨hO'.1, fun _ => ⟨hO'.1, fun q => ?_, fun q => ?_⟩, fun q => ?_⟩
      · rw [ht] at q
        have q : ¬ sp_ws D x = 0 := q
        refine hq hh hs ⟨hO', hH, hr, by rw [ht]; unfold sp_t; rw [if_neg q]; rfl, fun k hk => by rw [hw k hk]; unfold sp_w; rw [if_neg q]⟩
      · rw [ht] at q
        exact loop2 (dH D) 0 hh _ _ (by omega) q hs hr (fun k hk => absurd hk (Nat.not_lt_zero k))
      · rw [hr] at q; exact absurd (nI_le (Nat.le_refl _) (by omega)) q
    | succ n ih =>
      intro i hh hi hs hr ht hw
      have hO' := od_st_same hs hO
      have hD' := rc_at_same hs hne hD
      have e1 : ax_s hh (o + 1) = (11, 12) := hO'.2.2
      refine vX3_weigh_15 hA ⟨hO'.1, fun q => ?_, fun _ => ⟨hO'.1, _, hO'.2.1, hD'.1.1, c_lotAt hD' ⟨_, rfl, by rw [e1], by rw [e1]; exact vp_in_nI (by omega) (by decide), ?_⟩⟩⟩
      · rw [hr] at q; exact absurd q (nI_ge (by omega) (by omega))
      · intro h7
        have hs7 : ax_same (od_F o) hh h7 := sm_pi hoF1
        have hO7 := od_st_same hs7 hO'
        have e7 : ax_s h7 (o + 1) = (11, 12) := hO7.2.2
        refine ⟨rfl, hO7.1, hO7.1, _, hO7.2.1, by rw [e7], by rw [e7]; exact vp_in_nI (by omega) (by decide), hO7.1, ?_⟩
        intro h9
        have r1 : ax_i h7 o 2 = sumN (fun q => sp_lo D x (nI q)) i := by
          show ax_i (ax_pi hh (o + 1) (nI i).toNatClampNeg _) o 2 = _
          rw [ai_pi, if_neg (by omega)]; exact ht
        have r2 : ax_i h7 (o + 1) (nI i).toNatClampNeg = sp_lo D x (nI i) := by
          show ax_i (ax_pi hh (o + 1) (nI i).toNatClampNeg _) (o + 1) (nI i).toNatClampNeg = _
          rw [ai_pi, if_pos ⟨rfl, rfl⟩]
        have := ih (i + 1) h9 (by omega) (sm_tr hs (sm_tr hs7 (sm_pi hoF))) (by
            show ax_i (ax_pi h7 o 2 _) o 1 = _
            rw [ai_pi, if_neg (by omega)]
            show ax_i (ax_pi hh (o + 1) (nI i).toNatClampNeg _) o 1 = _
            rw [ai_pi, if_neg (by omega)]; exact hr) (by
            show ax_i (ax_pi h7 o 2 (ax_i h7 o 2 + ax_i h7 (o + 1) (nI i).toNatClampNeg)) o 2 = _
            rw [ai_pi, if_pos ⟨rfl, rfl⟩, r1, r2]; rfl) (fun q hq' => by
            show ax_i (ax_pi h7 o 2 _) (o + 1) q = _
            rw [ai_pi, if_neg (by omega)]
            show ax_i (ax_pi hh (o + 1) (nI i).toNatClampNeg _) (o + 1) q = _
            rw [ai_pi, nI_clamp (by omega)]
            by_cases e : q = i
            · rw [if_pos ⟨rfl, e⟩, e]
            · rw [if_neg (fun z => e z.2)]; exact hw q (by omega))
        rw [nI_succ] at this
        exact this
  refine loop1 (dH D) 0 h2 (by omega) (sm_tr (sm_pi hoF) (sm_pi hoF)) ?_ ?_ (fun q hq' => absurd hq' (Nat.not_lt_zero q))
  · show ax_i (ax_pi h1 o 2 0) o 1 = _
    rw [ai_pi, if_neg (by omega)]
    show ax_i (ax_pi h o 1 (ax_i h r 5)) o 1 = _
    rw [ai_pi, if_pos ⟨rfl, rfl⟩]
    exact hD.2.2.1.1
  · show ax_i (ax_pi h1 o 2 0) o 2 = _
    rw [ai_pi, if_pos ⟨rfl, rfl⟩]
    rfl
end
