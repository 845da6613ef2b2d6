section
variable {g : ax_G} {Ret : Option Value → ax_H → Prop} {h : ax_H}
theorem c_draftOf {s : Nat} (a : re_st h 35 2) (hs5 : s < 5) (h0 : s = 0 → Ret (some .null) h) (h1 : 1 ≤ s → Ret (some (.ref (42 + 2 * s))) h) : mX5_draftOf g [.ref 35, .int (nI s)] h Ret := by
  obtain ⟨r0, ⟨-, -, r2, -⟩, -, r6, -, r8, r9⟩ := id a
  refine eX5_draftOf ⟨fun q => absurd q (nI_pos (by omega)), fun _ => ⟨fun _ => ⟨r0, _, r2, sh_k r6, by rw [r6]; exact vp_in_nI hs5 (by decide), fun b hb => ?_, fun hb => ?_⟩, fun q => absurd (nI_lt (a := s) (b := 5) hs5 (by decide)) q⟩⟩
  · rw [nI_clamp (by omega)] at hb
    rcases Nat.eq_zero_or_pos s with z | z
    · subst z; rw [r8] at hb; cases hb
    · rw [(r9 s z hs5).1] at hb; cases hb; exact h1 z
  · rw [nI_clamp (by omega)] at hb
    rcases Nat.eq_zero_or_pos s with z | z
    · exact h0 z
    · rw [(r9 s z hs5).1] at hb; cases hb
/-- the reader at its beginning -/
def rb_at (h : ax_H) (n s : Nat) : Prop := ax_i h 35 11 = nI n ∧ ax_i h 35 8 = 0 ∧ ax_i h 35 4 = 0 ∧ ax_i h 35 5 = -1 ∧ ax_i h 35 12 = -1 ∧ ax_i h 35 13 = -1 ∧ rc_clr h 36 ∧ (1 ≤ s → ax_i h (42 + 2 * s) 3 = 0)
theorem c_begin5 {n s : Nat} (a : re_st h 35 2) (s2 : ax_s h 2 = (12, 600)) (hn : n ≤ 600) (hs5 : s < 5) (hq : ∀ h', ax_same re_F h h' → re_st h' 35 2 → rb_at h' n s → Ret none h') : mX5_begin g [.ref 35, .int (nI n), .int (nI s)] h Ret := by
  obtain ⟨r0, ⟨rt, r1, r2, r3⟩, r5, r6, r7, r8, r9⟩ := id a
  have ez : (if Int32.ofNat (ax_s h 2).2 < nI n then Int32.ofNat (ax_s h 2).2 else nI n) = nI n := by
    rw [s2]
    exact if_neg (nI_nlt (a := 600) (b := n) hn (by decide))
  have ez2 : (if 0 < nI n then nI n else (0 : Int32)) = nI n := by
    rcases Nat.eq_zero_or_pos n with z | z
    · subst z; rfl
    · exact if_pos (nI_lt (a := 0) (b := n) z (by omega))
  have hF : re_F 35 := by unfold re_F; omega
  refine eX5_begin ⟨r0, _, rt, sh_k s2, r0, r0, r0, r0, r0, r0, r0, _, r1, r5.1, ?_⟩
  rw [ez, ez2]
  have hs8 : ax_same (fun a => a = 35) h (ax_pi (ax_pi (ax_pi (ax_pi (ax_pi (ax_pi h 35 11 (nI n)) 35 8 0) 35 4 0) 35 5 (-1)) 35 12 (-1)) 35 13 (-1)) := sm_tr (sm_tr (sm_tr (sm_tr (sm_tr (sm_pi rfl) (sm_pi rfl)) (sm_pi rfl)) (sm_pi rfl)) (sm_pi rfl)) (sm_pi rfl)
  have f1 : ax_i (ax_pi (ax_pi (ax_pi (ax_pi (ax_pi (ax_pi h 35 11 (nI n)) 35 8 0) 35 4 0) 35 5 (-1)) 35 12 (-1)) 35 13 (-1)) 35 11 = nI n := by simp [ai_pi]
  have f2 : ax_i (ax_pi (ax_pi (ax_pi (ax_pi (ax_pi (ax_pi h 35 11 (nI n)) 35 8 0) 35 4 0) 35 5 (-1)) 35 12 (-1)) 35 13 (-1)) 35 8 = 0 := by simp [ai_pi]
  have f3 : ax_i (ax_pi (ax_pi (ax_pi (ax_pi (ax_pi (ax_pi h 35 11 (nI n)) 35 8 0) 35 4 0) 35 5 (-1)) 35 12 (-1)) 35 13 (-1)) 35 4 = 0 := by simp [ai_pi]
  have f4 : ax_i (ax_pi (ax_pi (ax_pi (ax_pi (ax_pi (ax_pi h 35 11 (nI n)) 35 8 0) 35 4 0) 35 5 (-1)) 35 12 (-1)) 35 13 (-1)) 35 5 = -1 := by simp [ai_pi]
  have f5 : ax_i (ax_pi (ax_pi (ax_pi (ax_pi (ax_pi (ax_pi h 35 11 (nI n)) 35 8 0) 35 4 0) 35 5 (-1)) 35 12 (-1)) 35 13 (-1)) 35 12 = -1 := by simp [ai_pi]
  have f6 : ax_i (ax_pi (ax_pi (ax_pi (ax_pi (ax_pi (ax_pi h 35 11 (nI n)) 35 8 0) 35 4 0) 35 5 (-1)) 35 12 (-1)) 35 13 (-1)) 35 13 = -1 := by simp [ai_pi]
  revert hs8 f1 f2 f3 f4 f5 f6
  generalize ax_pi (ax_pi (ax_pi (ax_pi (ax_pi (ax_pi h 35 11 (nI n)) 35 8 0) 35 4 0) 35 5 (-1)) 35 12 (-1)) 35 13 (-1) = h8
  intro hs8 f1 f2 f3 f4 f5 f6
  have re8 := re_st_same hs8 (fun q _ _ => by omega) a
  refine c_clear re8.2.2.1 (fun h10 hs10 _ cl => ⟨rfl, ?_⟩)
  have re10 : re_st h10 35 2 := re_st_same hs10 (fun q _ _ => by unfold rc_F; omega) re8
  have e35 : ∀ k, ax_i h10 35 k = ax_i h8 35 k := (hs10.2.2.2 35 (by unfold rc_F; omega)).1
  have H10 : ax_same re_F h h10 := sm_tr (sm_mono hs8 (fun x hx => by rw [hx]; exact hF)) (sm_mono hs10 (fun x hx => by unfold rc_F at hx; unfold re_F; omega))
  refine ⟨re10.1, c_draftOf re10 hs5 (fun z => Or.inr ⟨rfl, hq h10 H10 re10 ⟨by rw [e35]; exact f1, by rw [e35]; exact f2, by rw [e35]; exact f3, by rw [e35]; exact f4, by rw [e35]; exact f5, by rw [e35]; exact f6, cl, fun q => by omega⟩⟩) (fun z => Or.inl ⟨_, rfl, (re10.2.2.2.2.2.2 s z hs5).2.1, ?_⟩)⟩
  have hs15 : ax_same (fun a => a = 42 + 2 * s) h10 (ax_pi h10 (42 + 2 * s) 3 0) := sm_pi rfl
  have g15 : ag (fun b => b ≤ 42) h10 (ax_pi h10 (42 + 2 * s) 3 0) := ag_same hs15 (fun x hx => by omega)
  have E35 : ∀ k, ax_i (ax_pi h10 (42 + 2 * s) 3 0) 35 k = ax_i h8 35 k := fun k => by rw [ai_ne (by omega)]; exact e35 k
  refine hq _ (sm_tr H10 (sm_mono hs15 (fun x hx => by unfold re_F; omega))) ?_ ⟨by rw [E35]; exact f1, by rw [E35]; exact f2, by rw [E35]; exact f3, by rw [E35]; exact f4, by rw [E35]; exact f5, by rw [E35]; exact f6, ?_, fun _ => ai_eq⟩
  · obtain ⟨a1, ⟨b1, b2, b3, b4⟩, c1, c2, c3, c4, d⟩ := re10
    refine ⟨a1, ⟨b1, b2, b3, b4⟩, rc_st_same hs15 c1, c2, c3, c4, fun q h1 hq => ⟨(d q h1 hq).1, ?_⟩⟩
    obtain ⟨l1, l2, l3, l4, l5⟩ := (d q h1 hq).2
    exact ⟨l1, l2, by rw [ai_ne (by omega)]; exact l3, by rw [ai_ne (by omega)]; exact l4, l5⟩
  · obtain ⟨k1, k2, k3, k4⟩ := cl
    exact ⟨by rw [ai_ne (by omega)]; exact k1, by rw [ai_ne (by omega)]; exact k2, fun k hk => ⟨by rw [ai_ne (by omega)]; exact (k3 k hk).1, by rw [ai_ne (by omega)]; exact (k3 k hk).2⟩, fun k hk => ⟨by rw [ai_ne (by omega)]; exact (k4 k hk).1, by rw [ai_ne (by omega)]; exact (k4 k hk).2⟩⟩
end
