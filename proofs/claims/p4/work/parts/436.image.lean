section
variable {g : ax_G} {Ret : Option Value → ax_H → Prop} {h : ax_H} {S : sT} {Im : Nat → Option sT} {tp : Nat → Nat}
def im_set (Im : Nat → Option sT) (k : Nat) (S : sT) : Nat → Option sT := fun j => if j = k then some S else Im j
theorem xs_st_ag' {n : Nat} {h h' : ax_H} (s : ag (fun b => b ≠ 34 ∧ b < n) h h') (hn : 77 ≤ n) (a : xs_st h) : xs_st h' := by
  obtain ⟨a1, ⟨b0, b1, b2, b3, b4, b5, b6, b7, b8⟩, c1, c2, c3, c4⟩ := a
  have e0 := s 0 (by omega)
  exact ⟨by rw [e0.1]; exact a1, ⟨by rw [e0.2.2.2]; exact b0, by rw [e0.2.2.2]; exact b1, by rw [e0.2.2.2]; exact b2, by rw [e0.2.2.2]; exact b3, by rw [e0.2.2.2]; exact b4, by rw [e0.2.2.2]; exact b5, by rw [e0.2.2.2]; exact b6, by rw [e0.2.2.2]; exact b7, by rw [e0.2.2.2]; exact b8⟩, co_st_ag s (by omega) c1, od_st_ag s (by omega) c2, od_st_ag s (by omega) c3, by rw [(s 76 (by omega)).1]; exact c4⟩
theorem ix3 {x : Int32} (h1 : ¬ x < 0) (h2 : x < 3) : ∃ k : Nat, k < 3 ∧ x = nI k := (ni_ix (n := 3) (by decide)).mp ⟨h1, nt_le.mpr h2⟩
theorem q9_image {x : Int32} (a : ci_at h S Im tp) (ok : s_ok S) (hz : 103 ≤ h.1) (hz2 : h.1 < 700000) (hno : (x < 0 ∨ 3 ≤ x) → Ret (some (.int 0)) h) (hq : ∀ k, k < 3 → x = nI k → ∀ h' tp', h.1 ≤ h'.1 → h'.1 ≤ h.1 + 33 → ag (fun b => 77 ≤ b ∧ b ≤ 102) h h' → ci_at h' S (im_set Im k S) tp' → Ret (some (.int 1)) h') : mX9_image g [.ref 0, .int x] h Ret := by
  obtain ⟨⟨x1, x2, x3, x4, x5, x6, x7, x8⟩, a2, a3, a4⟩ := id a
  refine eX9_image ⟨fun q => ⟨⟨by decide, by decide⟩, Or.inl rfl, hno (Or.inl q)⟩, fun q => ⟨fun q2 => ⟨x1.1, _, x1.2.1.2.1, sh_k x6, ?_, fun b2 hb2 => ⟨x1.1, _, x1.2.1.1, ⟨by decide, by decide, by decide⟩, ?_⟩, fun hb2 => ⟨⟨by omega, by decide, by decide⟩, rfl, ⟨by simp [Value.category], by decide, by decide⟩, by rw [as_nw, if_pos rfl], ?_⟩⟩, fun q2 => ⟨⟨by decide, by decide⟩, Or.inl rfl, hno (Or.inr (nt_lt.mp q2))⟩⟩⟩
  · obtain ⟨k, hk, rfl⟩ := ix3 q q2
    rw [x6]; exact vp_in_nI hk (by decide)
  · obtain ⟨k, hk, rfl⟩ := ix3 q q2
    rw [nI_clamp (by omega)] at hb2
    cases hI : Im k with
    | none => rw [(a3 k hk).1 hI] at hb2; cases hb2
    | some S' =>
      obtain ⟨b1, b2', b3, b4⟩ := (a3 k hk).2 S' hI
      rw [b1] at hb2; cases hb2
      refine ⟨b4.1.1.1, c_copy8 b4.1.1 b4.2.2.2.2.2.1 b4.2.2.2.2.2.2 a2 ok.2.2 (by omega) (fun h' hs tl => ⟨rfl, ⟨by decide, by decide⟩, Or.inr rfl, ?_⟩)⟩
      have gg : ag (fun b => ¬ to_F (tp k) b) h h' := ag_same hs (fun x hx => hx)
      refine hq k hk rfl h' tp (by rw [hs.1]; exact Nat.le_refl _) (by rw [hs.1]; omega) (ag_mono gg (fun x hx => by unfold to_F; omega)) ⟨cs_st_ag gg (fun b hb => by unfold to_F; omega) a.1, tl_at_ag gg (fun b _ hb => by unfold to_F; omega) a2, fun j hj => ?_, fun i j hi hj hne h1 h2 => a4 i j hi hj hne (fun e => h1 ?_) (fun e => h2 ?_)⟩
      · unfold im_set
        by_cases e : j = k
        · subst e
          rw [if_pos rfl]
          refine ⟨fun z => (by cases z), fun S'' z => ?_⟩
          cases z
          exact ⟨by rw [hs.2.2.1]; exact b1, b2', by rw [hs.1]; exact b3, tl⟩
        · rw [if_neg e]
          refine ⟨fun z => by rw [hs.2.2.1]; exact (a3 j hj).1 z, fun S'' z => ?_⟩
          obtain ⟨c1, c2, c3, c4⟩ := (a3 j hj).2 S'' z
          have hdd := a4 j k hj hk e (by rw [z]; intro q; cases q) (by rw [hI]; intro q; cases q)
          exact ⟨by rw [hs.2.2.1]; exact c1, c2, by rw [hs.1]; exact c3, tl_at_ag gg (fun b h1 h2 => by unfold to_F; omega) c4⟩
      · unfold im_set
        by_cases e2 : i = k
        · subst e2; rw [hI] at e; cases e
        · rw [if_neg e2]; exact e
      · unfold im_set
        by_cases e2 : j = k
        · subst e2; rw [hI] at e; cases e
        · rw [if_neg e2]; exact e
  · obtain ⟨k, hk, rfl⟩ := ix3 q q2
    rw [nI_clamp (by omega)] at hb2
    have hI : Im k = none := by
      cases hI : Im k with
      | none => rfl
      | some S' => rw [((a3 k hk).2 S' hI).1] at hb2; cases hb2
    have hnw : (ax_nw h 8 0).1 = h.1 + 1 := rfl
    refine c_init8 (t := h.1) hnw (by omega) (by rw [as_nw, if_pos rfl]) (fun h2 g2 n2 st2 z2 m0 m1 => ⟨rfl, ?_⟩)
    have g2' : ag (fun b => b < h.1) h h2 := ag_tr (ag_nw (by omega)) g2
    have X2 := xs_st_ag g2' (fun b hb => by omega) x1
    have s34 : ax_s h2 34 = (18, 3) := by rw [(g2' 34 (by omega)).1]; exact x6
    refine ⟨X2.1, _, X2.2.1.2.1, sh_k s34, st2.1, by rw [s34]; exact vp_in_nI hk (by decide), ?_⟩
    rw [nI_clamp (by omega)]
    have hp : ag (fun b => b ≠ 34) h2 (ax_pr h2 34 k (some h.1)) := ag_pr (fun q => q rfl)
    have gp : ag (fun b => b ≠ 34 ∧ b < h.1) h (ax_pr h2 34 k (some h.1)) := ag_tr (ag_mono g2' (fun x hx => hx.2)) (ag_mono hp (fun x hx => hx.1))
    have sz : (ax_pr h2 34 k (some h.1)).1 = h.1 + 33 := n2
    have r34 : ∀ j, ax_r (ax_pr h2 34 k (some h.1)) 34 j = if j = k then some h.1 else ax_r h 34 j := by
      intro j
      rw [ar_pr]
      by_cases e : j = k
      · rw [if_pos ⟨rfl, e⟩, if_pos e]
      · rw [if_neg (fun q => e q.2), if_neg e, (g2' 34 (by omega)).2.2.2]
    have s34' : ax_s (ax_pr h2 34 k (some h.1)) 34 = (18, 3) := s34
    have st3 : to_st (ax_pr h2 34 k (some h.1)) h.1 := to_st_ag hp (fun b h1 _ => by omega) st2
    have m0' : ax_r (ax_pr h2 34 k (some h.1)) (h.1 + 4) 0 = none := by rw [(hp _ (by omega)).2.2.2]; exact m0
    have m1' : ax_r (ax_pr h2 34 k (some h.1)) (h.1 + 4) 1 = none := by rw [(hp _ (by omega)).2.2.2]; exact m1
    revert gp sz r34 s34' st3 m0' m1'
    generalize ax_pr h2 34 k (some h.1) = h10
    intro gp sz r34 s34' st3 m0' m1'
    have e0 := gp 0 (by omega)
    have tl1 := tl_at_ag gp (t := 1) (fun b _ hb => by omega) a2
    refine ⟨by rw [e0.1]; exact x1.1, 1, by rw [e0.2.2.2]; exact x1.2.1.1, ⟨by decide, by decide, by decide⟩, st3.1, c_copy8 st3 m0' m1' tl1 ok.2.2 (by omega) (fun h' hs tl => ⟨rfl, ⟨by decide, by decide⟩, Or.inr rfl, ?_⟩)⟩
    have gg : ag (fun b => ¬ to_F h.1 b) h10 h' := ag_same hs (fun x hx => hx)
    have G : ag (fun b => b ≠ 34 ∧ b < h.1) h h' := ag_tr gp (ag_mono gg (fun x hx => by unfold to_F; omega))
    refine hq k hk rfl h' (fun j => if j = k then h.1 else tp j) (by rw [hs.1]; omega) (by rw [hs.1]; omega) (ag_mono G (fun x hx => by omega)) ⟨⟨xs_st_ag' G (by omega) x1, to_st_ag G (fun b _ hb => by omega) x2, re_n_ag G (fun j hj => by omega) (fun q h1 h2 => by omega) x3, pl_st_ag G (fun j hj => by omega) x4, se_n_ag G (fun j hj => by omega) x5, by rw [hs.2.1]; exact s34', by rw [(G 5 (by omega)).2.2.2]; exact x7, by rw [(G 5 (by omega)).2.2.2]; exact x8⟩, tl_at_ag G (fun b _ hb => by omega) a2, fun j hj => ?_, fun i j hi hj hne h1 h2 => ?_⟩
    · unfold im_set
      by_cases e : j = k
      · subst e
        rw [if_pos rfl]
        refine ⟨fun z => (by cases z), fun S'' z => ?_⟩
        cases z
        dsimp only
        rw [if_pos rfl]
        exact ⟨by rw [hs.2.2.1, r34, if_pos rfl], hz, by rw [hs.1]; omega, tl⟩
      · rw [if_neg e]
        dsimp only
        rw [if_neg e]
        refine ⟨fun z => by rw [hs.2.2.1, r34, if_neg e]; exact (a3 j hj).1 z, fun S'' z => ?_⟩
        obtain ⟨c1, c2, c3, c4⟩ := (a3 j hj).2 S'' z
        exact ⟨by rw [hs.2.2.1, r34, if_neg e]; exact c1, c2, by rw [hs.1]; omega, tl_at_ag G (fun b h1 h2 => by omega) c4⟩
    · unfold im_set at h1 h2
      dsimp only
      by_cases ei : i = k
      · subst ei
        have ej : j ≠ i := fun e => hne e.symm
        rw [if_neg ej] at h2
        rw [if_pos rfl, if_neg ej]
        cases hj' : Im j with
        | none => exact absurd hj' h2
        | some S'' =>
          have := ((a3 j hj).2 S'' hj').2.2.1
          omega
      · rw [if_neg ei] at h1
        rw [if_neg ei]
        by_cases ej : j = k
        · subst ej
          rw [if_pos rfl]
          cases hi' : Im i with
          | none => exact absurd hi' h1
          | some S'' =>
            have := ((a3 i hi).2 S'' hi').2.2.1
            omega
        · rw [if_neg ej] at h2
          rw [if_neg ej]
          exact a4 i j hi hj hne h1 h2
theorem q9_again {x : Int32} (a : ci_at h S Im tp) (iok : im_ok Im) (hno : ((x < 0 ∨ 3 ≤ x) ∨ ∃ k, k < 3 ∧ x = nI k ∧ Im k = none) → Ret (some (.int 0)) h) (hq : ∀ k S', k < 3 → x = nI k → Im k = some S' → ∀ h', h'.1 = h.1 → ag (fun b => 77 ≤ b ∧ b ≤ 102) h h' → ci_at h' S' Im tp → Ret (some (.int 1)) h') : mX9_again g [.ref 0, .int x] h Ret := by
  obtain ⟨⟨x1, x2, x3, x4, x5, x6, x7, x8⟩, a2, a3, a4⟩ := id a
  refine eX9_again ⟨fun q => ⟨Or.inl rfl, hno (Or.inl (Or.inl q))⟩, fun q => ⟨fun q2 => ⟨x1.1, _, x1.2.1.2.1, sh_k x6, ?_, fun b2 hb2 => ⟨x1.1, _, x1.2.1.1, x2.1, ?_⟩, fun hb2 => ⟨Or.inl rfl, ?_⟩⟩, fun q2 => ⟨Or.inl rfl, hno (Or.inl (Or.inr (nt_lt.mp q2)))⟩⟩⟩
  · obtain ⟨k, hk, rfl⟩ := ix3 q q2
    rw [x6]; exact vp_in_nI hk (by decide)
  · obtain ⟨k, hk, rfl⟩ := ix3 q q2
    rw [nI_clamp (by omega)] at hb2
    cases hI : Im k with
    | none => rw [(a3 k hk).1 hI] at hb2; cases hb2
    | some S' =>
      obtain ⟨b1, b2', b3, b4⟩ := (a3 k hk).2 S' hI
      rw [b1] at hb2; cases hb2
      refine c_copy8 x2 x7 x8 b4 (iok k S' hk hI).2.2 (by omega) (fun h' hs tl => ⟨rfl, Or.inr rfl, ?_⟩)
      have gg : ag (fun b => ¬ to_F 1 b) h h' := ag_same hs (fun x hx => hx)
      refine hq k S' hk rfl hI h' hs.1 (ag_mono gg (fun x hx => by unfold to_F; omega)) ⟨⟨xs_st_same hs x1, tl.1.1, re_n_ag gg (fun j hj => by unfold to_F; omega) (fun q h1 h2 => by unfold to_F; omega) x3, pl_st_same hs x4, se_st_same hs x5, by rw [hs.2.1]; exact x6, by rw [hs.2.2.1]; exact x7, by rw [hs.2.2.1]; exact x8⟩, tl, fun j hj => ⟨fun z => by rw [hs.2.2.1]; exact (a3 j hj).1 z, fun S'' z => ?_⟩, a4⟩
      obtain ⟨c1, c2, c3, c4⟩ := (a3 j hj).2 S'' z
      exact ⟨by rw [hs.2.2.1]; exact c1, c2, by rw [hs.1]; exact c3, tl_at_ag gg (fun b h1 h2 => by unfold to_F; omega) c4⟩
  · obtain ⟨k, hk, rfl⟩ := ix3 q q2
    rw [nI_clamp (by omega)] at hb2
    refine hno (Or.inr ⟨k, hk, rfl, ?_⟩)
    cases hI : Im k with
    | none => rfl
    | some S' => rw [((a3 k hk).2 S' hI).1] at hb2; cases hb2
end
