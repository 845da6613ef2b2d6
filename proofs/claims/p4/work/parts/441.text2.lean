section
variable {g : ax_G} {Ret : Option Value → ax_H → Prop} {h : ax_H} {S : sT} {Im : Nat → Option sT} {tp : Nat → Nat}
/-- a call of the class leaves the reference -/
def fr_c (h h' : ax_H) : Prop := h'.1 = h.1 ∧ ag (fun b => 77 ≤ b ∧ b ≤ 102) h h'
theorem ci_new {h' : ax_H} {S' : sT} (s : ax_same (fun b => 1 ≤ b ∧ b ≤ 51) h h') (a : ci_at h S Im tp) (t : tl_at h' 1 S') (r : re_st h' 35 2) : ci_at h' S' Im tp ∧ fr_c h h' := by
  obtain ⟨⟨x1, x2, x3, x4, x5, x6, x7, x8⟩, a2, a3, a4⟩ := a
  have gg : ag (fun b => 52 ≤ b) h h' := ag_same s (fun x hx => by omega)
  refine ⟨⟨⟨xs_st_same s x1, t.1.1, r, pl_st_same s x4, se_st_same s x5, by rw [s.2.1]; exact x6, by rw [s.2.2.1]; exact x7, by rw [s.2.2.1]; exact x8⟩, t, fun k hk => ⟨fun e => by rw [s.2.2.1]; exact (a3 k hk).1 e, fun S' e => ?_⟩, a4⟩, s.1, ag_mono gg (fun x hx => by omega)⟩
  obtain ⟨b1, b2, b3, b4⟩ := (a3 k hk).2 S' e
  exact ⟨by rw [s.2.2.1]; exact b1, b2, by rw [s.1]; exact b3, tl_at_ag gg (fun b h1 _ => by omega) b4⟩
theorem q9_text {x1 x2 : Int32} {PR : Nat → rT} (a : ci_at h S Im tp) (ok : s_ok S)
    (rd : ∀ (s : Nat) (h0 : ax_H) (Ret' : Option Value → ax_H → Prop), s < 5 → re_st h0 35 2 → ax_s h0 2 = (12, 600) → (∀ i, i < 600 → ax_i h0 2 i = s_t S i) → (∀ h', ax_same re_F h0 h' → re_st h' 35 2 → rp_at h' s (PR s) → Ret' none h') → mX5_read g [.ref 35, .int (nI (s_n S)), .int (nI s)] h0 Ret')
    (hno : (sp_in x1 5 = false ∨ ∃ s, s < 5 ∧ x1 = nI s ∧ s_at S s x2 = none) → ∀ h', fr_c h h' → ci_at h' (s_flt S 0 (-1)) Im tp → Ret (some (.int (-2))) h')
    (hflt : ∀ s k, s < 5 → x1 = nI s → s_at S s x2 = some k → r_f (PR s) ≠ 0 → ∀ h', fr_c h h' → ci_at h' (s_flt S (r_f (PR s)) (r_p (PR s))) Im tp → Ret (some (.int (-1))) h')
    (hput : ∀ s k, s < 5 → x1 = nI s → s_at S s x2 = some k → r_f (PR s) = 0 → ∀ h', fr_c h h' → ci_at h' (s_put S s k (PR s)) Im tp → Ret (some (.int (nI k))) h') : mX9_text g [.ref 0, .int x1, .int x2] h Ret := by
  obtain ⟨⟨X, x2', x3, x4, x5, x6, x7, x8⟩, a2, a3, a4⟩ := id a
  have t1 := a2.1.1.1
  have e4 : ax_i h 1 4 = nI (s_n S) := a2.2.1
  refine uX9_text (fun A hA => vX9_text_0 hA ⟨X.1, _, X.2.1.1, t1, X.1, _, X.2.1.1, t1, X.1, _, X.2.1.1, t1, X.1, _, X.2.1.1, t1, ?_⟩)
  rw [e4]
  have hs7 : ax_same (fun a => a = 1 ∨ a = 2) h (ax_pi (ax_pi (ax_pi h 1 4 0) 1 5 0) 1 6 (-1)) := sm_tr (sm_tr (sm_pi (Or.inl rfl)) (sm_pi (Or.inl rfl))) (sm_pi (Or.inl rfl))
  have tl7 : tl_at (ax_pi (ax_pi (ax_pi h 1 4 0) 1 5 0) 1 6 (-1)) 1 (s_flt S 0 (-1)) := tl_flt hs7 a2 (by rw [ai_ne (by omega), ai_ne (by omega), ai_eq]) (by rw [ai_ne (by omega), ai_eq]) ai_eq (fun i hi => by rw [ai_ne (by omega), ai_ne (by omega), ai_ne (by omega)])
  revert hs7 tl7
  generalize ax_pi (ax_pi (ax_pi h 1 4 0) 1 5 0) 1 6 (-1) = h7
  intro hs7 tl7
  have re7 : re_st h7 35 2 := re_st_same hs7 (fun q _ _ => by omega) x3
  obtain ⟨ci7, fr7⟩ := ci_new (sm_mono hs7 (fun x hx => by omega)) a tl7 re7
  have X7 := xs_st_same hs7 X
  obtain ⟨⟨v1, ⟨v2, v3, -, -⟩, ⟨v6, v7, -, -⟩, -, -⟩, ez, -, -⟩ := tl7.1
  -- with a place
  have go : ∀ (s k : Nat) (o2 o4 o6 : Option Value), s < 5 → x1 = nI s → s_at S s x2 = some k → A (102, [some (.ref 0), some (.int (nI s)), o2, some (.int (nI (s_n S))), o4, some (.int (nI k)), o6], [.int 1], h7, 0, 0) := by
    intro s k o2 o4 o6 hs5 ex hat
    have hk : k < 2 ∧ k ≤ s_z S s := by
      have z2 : s_z S s ≤ 2 := ok.1.1 s hs5
      unfold s_at at hat
      split at hat
      · split at hat
        · cases hat; omega
        · cases hat
      · split at hat
        · rename_i q
          obtain ⟨j, hj, rfl⟩ := sp_in_ix (by omega) q
          cases hat
          rw [nI_clamp (by omega)]; omega
        · cases hat
    refine vX9_text_102 hA ⟨fun _ => ⟨X7.1, _, X7.2.1.2.2.1, re7.1, ?_⟩, fun q => absurd q (by decide)⟩
    refine rd s h7 _ hs5 re7 v6 tl7.2.2.2.2.1 (fun h11 hs11 re11 rp => ⟨rfl, ?_⟩)
    have X11 := xs_st_same hs11 X7
    have g11 : ag (fun b => b ≤ 33) h7 h11 := ag_same hs11 (fun x hx q => by unfold re_F at q; omega)
    have tl11 : tl_at h11 1 (s_flt S 0 (-1)) := tl_at_ag g11 (fun b _ hb => by omega) tl7
    have t11 := tl11.1.1.1
    refine ⟨X11.1, _, X11.2.1.1, X11.1, _, X11.2.1.2.2.1, re11.1, t11, X11.1, _, X11.2.1.1, X11.1, _, X11.2.1.2.2.1, re11.1, t11, X11.1, _, X11.2.1.1, t11, ?_⟩
    have e5 : ax_i (ax_pi h11 1 5 (ax_i h11 35 4)) 35 5 = r_p (PR s) := by rw [ai_ne (by omega)]; exact rp.2.1
    rw [e5, rp.1]
    have hs18 : ax_same (fun a => a = 1 ∨ a = 2) h11 (ax_pi (ax_pi h11 1 5 (r_f (PR s))) 1 6 (r_p (PR s))) := sm_tr (sm_pi (Or.inl rfl)) (sm_pi (Or.inl rfl))
    have f5 : ax_i (ax_pi (ax_pi h11 1 5 (r_f (PR s))) 1 6 (r_p (PR s))) 1 5 = r_f (PR s) := by rw [ai_ne (by omega), ai_eq]
    have tl18 : tl_at (ax_pi (ax_pi h11 1 5 (r_f (PR s))) 1 6 (r_p (PR s))) 1 (s_flt S (r_f (PR s)) (r_p (PR s))) := tl_flt (S := s_flt S 0 (-1)) hs18 tl11 (by rw [ai_ne (by omega), ai_ne (by omega)]; exact tl11.2.1) f5 ai_eq (fun i hi => by rw [ai_ne (by omega), ai_ne (by omega)])
    revert hs18 f5 tl18
    generalize ax_pi (ax_pi h11 1 5 (r_f (PR s))) 1 6 (r_p (PR s)) = h18
    intro hs18 f5 tl18
    have re18 : re_st h18 35 2 := re_st_same hs18 (fun q _ _ => by omega) re11
    have X18 := xs_st_same hs18 X11
    have H18 : ax_same (fun b => 1 ≤ b ∧ b ≤ 51) h h18 := sm_tr (sm_mono hs7 (fun x hx => by omega)) (sm_tr (sm_mono hs11 (fun x hx => by unfold re_F at hx; omega)) (sm_mono hs18 (fun x hx => by omega)))
    rw [f5]
    refine ⟨fun q => ⟨X18.1, _, X18.2.1.1, X18.1, _, X18.2.1.2.2.1, tl18.1.1.1, ?_⟩, fun q => ?_⟩
    · have tl18' : tl_at h18 1 (s_flt S 0 (r_p (PR s))) := by rw [q] at tl18; exact tl18
      have g18 : ag (fun b => 35 ≤ b) h11 h18 := ag_same hs18 (fun x hx => by omega)
      have hR := rp.2.2 q
      refine c_take (S := s_flt S 0 (r_p (PR s))) (R := PR s) tl18' re18 tl18'.2.1 tl18'.2.2.1 tl18'.2.2.2.1 hs5 hk.1 hk.2 ⟨fun z => rc_at_ag g18 (fun j hj => by omega) (hR.1 z), fun z => li_at_ag g18 (by omega) (hR.2 z)⟩ (fun h22 hs22 tl22 => ⟨rfl, ?_⟩)
      have re22 : re_st h22 35 2 := re_st_same hs22 (fun q _ _ => by omega) re18
      obtain ⟨c, f⟩ := ci_new (sm_tr H18 (sm_mono hs22 (fun x hx => by omega))) a tl22 re22
      exact hput s k hs5 ex hat q h22 f c
    · obtain ⟨c, f⟩ := ci_new H18 a tl18 re18
      exact hflt s k hs5 ex hat q h18 f c
  have stop : ∀ (o1 x3' : Int32) (o2 o4 o6 : Option Value) (x5' : Int32), (∃ s, s < 5 ∧ x1 = nI s ∧ s_at S s x2 = none) → A (102, [some (.ref 0), some (.int o1), o2, some (.int x3'), o4, some (.int x5'), o6], [.int 0], h7, 0, 0) := fun o1 x3' o2 o4 o6 x5' hn => vX9_text_102 hA ⟨fun q => absurd rfl q, fun _ => hno (Or.inr hn) h7 fr7 ci7⟩
  refine ⟨fun q => hno (Or.inl (dec_f (Or.inl q))) h7 fr7 ci7, fun q => ⟨fun q2 => ?_, fun q2 => hno (Or.inl (dec_f (Or.inr (nt_lt.mp q2)))) h7 fr7 ci7⟩⟩
  obtain ⟨s, hs5, rfl⟩ := (ni_ix (n := 5) (by decide)).mp ⟨q, nt_le.mpr q2⟩
  have z2 : s_z S s ≤ 2 := ok.1.1 s hs5
  have ez7 : ax_i h7 3 s = nI (s_z S s) := (ez s hs5).2
  refine ⟨X7.1, _, X7.2.1.1, v1, _, v3, sh_k v7, by rw [v7]; exact vp_in_nI hs5 (by decide), ?_⟩
  rw [nI_clamp (by omega), show (1 + 2 : Nat) = 3 from rfl, ez7]
  refine ⟨fun q => vX9_text_66 hA ⟨fun _ => ⟨fun q3 => vX9_text_101 hA (stop _ _ _ _ _ _ ⟨s, hs5, rfl, ?_⟩), fun q3 => ⟨fun q4 => vX9_text_101 hA (stop _ _ _ _ _ _ ⟨s, hs5, rfl, ?_⟩), fun q4 => ?_⟩⟩, fun e => absurd e q⟩, fun q => vX9_text_66 hA ⟨fun e => absurd q e, fun _ => ⟨fun q4 => stop _ _ _ _ _ _ ⟨s, hs5, rfl, ?_⟩, fun q4 => ?_⟩⟩⟩
  · unfold s_at; rw [if_neg q, dec_f (Or.inl q3)]; rfl
  · unfold s_at; rw [if_neg q, dec_f (Or.inr q4)]; rfl
  · obtain ⟨j, hj, rfl⟩ := (ni_ix (n := s_z S s) (by omega)).mp ⟨q3, q4⟩
    refine go s j _ _ _ hs5 rfl ?_
    unfold s_at; rw [if_neg q, sp_in_nI (by omega) hj, if_pos rfl, nI_clamp (by omega)]
  · unfold s_at; rw [if_pos q, if_neg]
    intro z
    exact absurd q4 (nI_ge (a := s_z S s) (b := 2) z (by decide))
  · refine go s (s_z S s) _ _ _ hs5 rfl ?_
    unfold s_at; rw [if_pos q, if_pos]
    rcases Nat.lt_or_ge (s_z S s) 2 with z | z
    · exact z
    · exact absurd (nI_le (a := 2) (b := s_z S s) z (by omega)) q4
end
