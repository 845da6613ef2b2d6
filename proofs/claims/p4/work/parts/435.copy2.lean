section
variable {g : ax_G} {Ret : Option Value → ax_H → Prop} {h : ax_H} {S : sT}
theorem to_st_F {F : Nat → Prop} {h' : ax_H} {t : Nat} (hs : ax_same F h h') (hl : ∀ s k, 1 ≤ s → s < 5 → k < 2 → li_st h' (lnp t s k) s) (a : to_st h t) : to_st h' t := by
  obtain ⟨c1, ⟨c2, c3, c4, c5⟩, ⟨d1, d2, d3, d4⟩, f1, f2⟩ := a
  exact ⟨by rw [hs.2.1]; exact c1, ⟨by rw [hs.2.2.1]; exact c2, by rw [hs.2.2.1]; exact c3, by rw [hs.2.2.1]; exact c4, by rw [hs.2.2.1]; exact c5⟩, ⟨by rw [hs.2.1]; exact d1, by rw [hs.2.1]; exact d2, by rw [hs.2.1]; exact d3, by rw [hs.2.1]; exact d4⟩, fun k hk => ⟨by rw [hs.2.2.1]; exact (f1 k hk).1, rc_st_same hs (f1 k hk).2⟩, fun q k h1 h5 hk => ⟨by rw [hs.2.2.1]; exact (f2 q k h1 h5 hk).1, hl q k h1 h5 hk⟩⟩
theorem to_li {t s k : Nat} (a : to_st h t) (h1 : 1 ≤ s) (h5 : s < 5) (hk : k < 2) : li_st h (lnp t s k) s := (a.2.2.2.2 s k h1 h5 hk).2
theorem c_copy8 {t t' : Nat} (a : to_st h t) (n0 : ax_r h (t + 4) 0 = none) (n1 : ax_r h (t + 4) 1 = none) (b : tl_at h t' S) (ok : tyb (s_t S)) (hd : t + 33 ≤ t' ∨ t' + 33 ≤ t) (hq : ∀ h', ax_same (to_F t) h h' → tl_at h' t S → Ret none h') : mX8_copy g [.ref t, .ref t'] h Ret := by
  have src : ∀ hh : ax_H, ax_same (to_F t) h hh → tl_at hh t' S := fun hh hs => tl_at_ag (P := fun x => t' ≤ x ∧ x < t' + 33) (ag_same hs (fun x hx q => by unfold to_F at q; omega)) (fun x h1 h2 => ⟨h1, h2⟩) b
  have zb : ∀ s, s < 5 → s_z S s ≤ 2 := fun s hs => (b.1.2.1 s hs).1
  refine uX8_copy (fun A hA => ?_)
  have loop2 : ∀ n i : Nat, i + n = 10 → ∀ hh : ax_H, ax_same (to_F t) h hh → to_st hh t → (∀ j, j < 600 → ax_i hh (t + 1) j = s_t S j) → (∀ s, s < 5 → ax_i hh (t + 2) s = nI (s_z S s)) → (∀ k, k < s_z S 0 → rc_at hh (t + 5 + 14 * k) (s_D S k)) → (∀ s k, 1 ≤ s → s < 5 → s * 2 + k < i → k < s_z S s → li_at hh (lnp t s k) s (s_N S s k) (s_C S s k)) → A (60, [some (.ref t), some (.ref t'), some (.int (nI i))], [], hh, 0, 0) := by
    intro n
    induction n with
    | zero =>
      intro i hi hh hs st et ez er el
      obtain ⟨⟨⟨t1, -, -, -, -⟩, -, -, -⟩, b4, b5, b6, -, -, -⟩ := src hh hs
      refine vX8_copy_60 hA ⟨fun _ => ⟨t1, st.1, t1, st.1, t1, st.1, ?_⟩, fun q => absurd (nI_le (a := 10) (b := i) (by omega) (by omega)) q⟩
      have e4 : ax_i hh t' 4 = nI (s_n S) := b4
      have e5 : ax_i (ax_pi hh t 4 (ax_i hh t' 4)) t' 5 = s_f S := by rw [ai_ne (by omega)]; exact b5
      have e6 : ax_i (ax_pi (ax_pi hh t 4 (ax_i hh t' 4)) t 5 (ax_i (ax_pi hh t 4 (ax_i hh t' 4)) t' 5)) t' 6 = s_p S := by rw [ai_ne (by omega), ai_ne (by omega)]; exact b6
      have hF : to_F t t := by unfold to_F; omega
      have hs3 : ax_same (fun x => x = t) hh (ax_pi (ax_pi (ax_pi hh t 4 (ax_i hh t' 4)) t 5 (ax_i (ax_pi hh t 4 (ax_i hh t' 4)) t' 5)) t 6 (ax_i (ax_pi (ax_pi hh t 4 (ax_i hh t' 4)) t 5 (ax_i (ax_pi hh t 4 (ax_i hh t' 4)) t' 5)) t' 6)) := sm_tr (sm_tr (sm_pi rfl) (sm_pi rfl)) (sm_pi rfl)
      have g3 : ag (fun x => x ≠ t) hh _ := ag_same hs3 (fun x hx => hx)
      refine hq _ (sm_tr hs (sm_mono hs3 (fun x hx => by rw [hx]; exact hF))) ⟨⟨to_st_F hs3 (fun s k h1 h5 hk => li_st_same hs3 (by unfold lnp; omega) (to_li st h1 h5 hk)) st, fun s hs5 => ⟨zb s hs5, by rw [(g3 (t + 2) (by omega)).2.1]; exact ez s hs5⟩, fun k hk => rc_at_ag g3 (fun j hj => by omega) (er k hk), fun s k h1 h5 hk => li_at_ag g3 (by unfold lnp; omega) (el s k h1 h5 (by have := zb s h5; omega) hk)⟩, ?_, ?_, ?_, fun j hj => by rw [(g3 (t + 1) (by omega)).2.1]; exact et j hj, by rw [hs3.2.2.1, hs.2.2.1]; exact n0, by rw [hs3.2.2.1, hs.2.2.1]; exact n1⟩
      · rw [ai_ne (by omega), ai_ne (by omega), ai_eq]; exact e4
      · rw [ai_ne (by omega), ai_eq]; exact e5
      · rw [ai_eq]; exact e6
    | succ n ih =>
      intro i hi hh hs st et ez er el
      have sb := src hh hs
      obtain ⟨⟨⟨t1, ⟨-, -, -, r3⟩, ⟨-, -, -, s4⟩, -, l4⟩, -, -, -⟩, -, -, -, -, m0, m1⟩ := id sb
      obtain ⟨u1, ⟨-, -, -, v3⟩, ⟨-, -, -, w4⟩, -, y4⟩ := id st
      have in1 : vp_in (nI i) (ax_s hh (t' + 4)).2 := by rw [s4]; exact vp_in_nI (by omega) (by decide)
      have in2 : vp_in (nI i) (ax_s hh (t + 4)).2 := by rw [w4]; exact vp_in_nI (by omega) (by decide)
      refine vX8_copy_60 hA ⟨fun q => absurd q (nI_ge (a := i) (b := 10) (by omega) (by decide)), fun _ => ⟨t1, _, r3, sh_k s4, in1, fun b1 hb1 => ⟨u1, _, v3, sh_k w4, in2, fun b2 hb2 => ?_, fun hb2 => ?_⟩, fun hb1 => ⟨u1, _, v3, sh_k w4, in2, fun b2 hb2 => ?_, fun hb2 => ?_⟩⟩⟩
      · rw [nI_clamp (by omega)] at hb1 hb2
        rcases Nat.lt_or_ge i 2 with i2 | i2
        · exfalso
          rcases (show i = 0 ∨ i = 1 by omega) with rfl | rfl
          · rw [m0] at hb1; cases hb1
          · rw [m1] at hb1; cases hb1
        obtain ⟨s, k, h1, h5, hk, rfl⟩ : ∃ s k, 1 ≤ s ∧ s < 5 ∧ k < 2 ∧ i = s * 2 + k := ⟨i / 2, i % 2, by omega, by omega, by omega, by omega⟩
        obtain ⟨p1, p2⟩ := l4 s k h1 h5 hk
        obtain ⟨p3, p4⟩ := y4 s k h1 h5 hk
        rw [p1] at hb1; cases hb1
        rw [p3] at hb2; cases hb2
        refine c_copyLin h1 h5 p4 p2 (by unfold lnp; omega) (fun h' hs' st' cp => ⟨rfl, ?_⟩)
        rw [← nI_succ]
        have g' : ag (fun x => ¬ (x = lnp t s k ∨ x = lnp t s k + 1)) hh h' := ag_same hs' (fun x hx => hx)
        refine ih (s * 2 + k + 1) (by omega) h' (sm_tr hs (sm_mono hs' (fun x hx => by unfold to_F; unfold lnp at hx; omega))) (to_st_F hs' (fun s' k' h1' h5' hk' => ?_) st) (fun j hj => by rw [(g' (t + 1) (by unfold lnp; omega)).2.1]; exact et j hj) (fun s' hs5 => by rw [(g' (t + 2) (by unfold lnp; omega)).2.1]; exact ez s' hs5) (fun k' hk' => rc_at_ag g' (fun j hj => by
          have z2 := zb 0 (by decide)
          have k2 : k' = 0 ∨ k' = 1 := by omega
          unfold lnp
          clear hi hs' cp hs st et ez er el ih sb
          rcases k2 with rfl | rfl <;> omega) (er k' hk')) (fun s' k' h1' h5' hlt hk' => ?_)
        · by_cases e : s' = s ∧ k' = k
          · obtain ⟨rfl, rfl⟩ := e; exact st'
          · exact li_st_same hs' (by unfold lnp; omega) (to_li st h1' h5' hk')
        · by_cases e : s' = s ∧ k' = k
          · obtain ⟨rfl, rfl⟩ := e
            exact cp _ _ (sb.1.2.2.2 s' k' h1' h5' hk')
          · have := zb s' h5'
            exact li_at_ag g' (by unfold lnp; omega) (el s' k' h1' h5' (by omega) hk')
      · exfalso
        rw [nI_clamp (by omega)] at hb1 hb2
        rcases Nat.lt_or_ge i 2 with i2 | i2
        · rcases (show i = 0 ∨ i = 1 by omega) with rfl | rfl
          · rw [m0] at hb1; cases hb1
          · rw [m1] at hb1; cases hb1
        · have := (y4 (i / 2) (i % 2) (by omega) (by omega) (by omega)).1
          rw [show i / 2 * 2 + i % 2 = i by omega, hb2] at this
          cases this
      · exfalso
        rw [nI_clamp (by omega)] at hb1 hb2
        rcases Nat.lt_or_ge i 2 with i2 | i2
        · rcases (show i = 0 ∨ i = 1 by omega) with rfl | rfl
          · rw [hs.2.2.1, n0] at hb2; cases hb2
          · rw [hs.2.2.1, n1] at hb2; cases hb2
        · have := (l4 (i / 2) (i % 2) (by omega) (by omega) (by omega)).1
          rw [show i / 2 * 2 + i % 2 = i by omega, hb1] at this
          cases this
      · rw [nI_clamp (by omega)] at hb1
        refine c_copyNull ⟨rfl, ?_⟩
        rw [← nI_succ]
        have i2 : i < 2 := by
          rcases Nat.lt_or_ge i 2 with i2 | i2
          · exact i2
          · have := (l4 (i / 2) (i % 2) (by omega) (by omega) (by omega)).1
            rw [show i / 2 * 2 + i % 2 = i by omega, hb1] at this
            cases this
        exact ih (i + 1) (by omega) hh hs st et ez er (fun s k h1 h5 hlt hk => absurd hlt (by omega))
  have loop1 : ∀ n i : Nat, i + n = 2 → ∀ hh : ax_H, ax_same (to_F t) h hh → to_st hh t → (∀ j, j < 600 → ax_i hh (t + 1) j = s_t S j) → (∀ s, s < 5 → ax_i hh (t + 2) s = nI (s_z S s)) → (∀ k, k < i → k < s_z S 0 → rc_at hh (t + 5 + 14 * k) (s_D S k)) → A (32, [some (.ref t), some (.ref t'), some (.int (nI i))], [], hh, 0, 0) := by
    intro n
    induction n with
    | zero =>
      intro i hi hh hs st et ez er
      refine vX8_copy_32 hA ⟨fun _ => ?_, fun q => absurd (nI_le (a := 2) (b := i) (by omega) (by omega)) q⟩
      exact loop2 10 0 (by omega) hh hs st et ez (fun k hk => er k (by have := zb 0 (by decide); omega) hk) (fun s k h1 h5 hlt hk => absurd hlt (by omega))
    | succ n ih =>
      intro i hi hh hs st et ez er
      have sb := src hh hs
      obtain ⟨⟨⟨t1, ⟨-, -, r3, -⟩, ⟨-, -, s4, -⟩, l4, -⟩, -, -, -⟩, -, -, -, -, -, -⟩ := id sb
      obtain ⟨u1, ⟨-, -, v3, -⟩, ⟨-, -, w4, -⟩, y4, -⟩ := id st
      obtain ⟨p1, p2⟩ := l4 i (by omega)
      obtain ⟨p3, p4⟩ := y4 i (by omega)
      refine vX8_copy_32 hA ⟨fun q => absurd q (nI_ge (a := i) (b := 2) (by omega) (by decide)), fun _ => ⟨t1, _, r3, sh_k s4, by rw [s4]; exact vp_in_nI (by omega) (by decide), _, by rw [nI_clamp (by omega)]; exact p1, u1, _, v3, sh_k w4, by rw [w4]; exact vp_in_nI (by omega) (by decide), _, by rw [nI_clamp (by omega)]; exact p3, c_copyRep p4 p2 (by omega) (fun h' hs' cp => ⟨rfl, ?_⟩)⟩⟩
      rw [← nI_succ]
      have g' : ag (fun x => ¬ rc_F (t + 5 + 14 * i) x) hh h' := ag_same hs' (fun x hx => hx)
      refine ih (i + 1) (by omega) h' (sm_tr hs (sm_mono hs' (fun x hx => by unfold to_F; unfold rc_F at hx; omega))) (to_st_F hs' (fun s' k' h1' h5' hk' => li_st_same hs' (by unfold rc_F lnp; omega) (to_li st h1' h5' hk')) st) (fun j hj => by rw [(g' (t + 1) (by unfold rc_F; omega)).2.1]; exact et j hj) (fun s' hs5 => by rw [(g' (t + 2) (by unfold rc_F; omega)).2.1]; exact ez s' hs5) (fun k' hlt hk' => ?_)
      by_cases e : k' = i
      · subst e; exact cp _ (sb.1.2.2.1 k' hk')
      · exact rc_at_ag g' (fun j hj => by unfold rc_F; omega) (er k' (by omega) hk')
  obtain ⟨⟨⟨t1, ⟨r0, r1, -, -⟩, ⟨s1, s2, -, -⟩, -, -⟩, ez, -, -⟩, -, -, -, et, -, -⟩ := id b
  obtain ⟨u1, ⟨v0, v1, -, -⟩, ⟨w1, w2, -, -⟩, -, -⟩ := id a
  refine vX8_copy_0 hA ⟨t1, _, r0, u1, _, v0, sh_k w1, sh_k s1, ⟨by decide, by decide, by decide, sh_le s1, sh_le w1⟩, Or.inr (fun i hi => by rw [Nat.zero_add, et i hi]; exact ok i hi), by decide, t1, _, r1, u1, _, v1, sh_k w2, sh_k s2, ⟨by decide, by decide, by decide, sh_le s2, sh_le w2⟩, Or.inl rfl, by decide, ?_⟩
  have hs2 : ax_same (fun x => x = t + 1 ∨ x = t + 2) h (ax_row (ax_row h (t + 1) (va_cpy (ax_i h (t' + 1)) (ax_i h (t + 1)) 0 0 600)) (t + 2) (va_cpy (ax_i (ax_row h (t + 1) (va_cpy (ax_i h (t' + 1)) (ax_i h (t + 1)) 0 0 600)) (t' + 2)) (ax_i (ax_row h (t + 1) (va_cpy (ax_i h (t' + 1)) (ax_i h (t + 1)) 0 0 600)) (t + 2)) 0 0 5)) := sm_tr (sm_row (Or.inl rfl)) (sm_row (Or.inr rfl))
  refine loop1 2 0 (by omega) _ (sm_mono hs2 (fun x hx => by unfold to_F; omega)) (to_st_F hs2 (fun s' k' h1' h5' hk' => li_st_same hs2 (by unfold lnp; omega) (to_li a h1' h5' hk')) a) (fun j hj => ?_) (fun s hs5 => ?_) (fun k hk => absurd hk (Nat.not_lt_zero k))
  · rw [ai_row, if_neg (by omega), ai_row, if_pos rfl, cpy0 hj]; exact et j hj
  · rw [ai_row, if_pos rfl, cpy0 hs5, ai_row, if_neg (by omega)]; exact (ez s hs5).2
end
