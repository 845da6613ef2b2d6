section
variable {g : ax_G} {Ret : Option Value → ax_H → Prop} {h : ax_H}
/-! an empty tape, read by the class -/
def D0 : rD := (8, 0, fun _ => 0, fun _ => 0, fun _ => 0, fun _ _ => -1, fun _ _ => 1)
def R0 : rT := (0, -1, D0, 0, fun _ _ => 0)
theorem D0_ok : rd_ok D0 := ⟨⟨by decide, by decide⟩, by decide, fun k _ => ⟨show (-99 : Int) ≤ (0 : Int32).toInt by decide, show (0 : Int32).toInt ≤ 99 by decide⟩, fun k _ => Or.inl rfl, fun p hp => absurd hp (Nat.not_lt_zero p), fun p q hp => absurd hp (Nat.not_lt_zero p), fun p q hp => absurd hp (Nat.not_lt_zero p)⟩
theorem R0_ok (s : Nat) : r_ok s R0 := fun _ => ⟨fun _ => D0_ok, fun _ => ⟨Nat.zero_le _, fun i hi => absurd hi (Nat.not_lt_zero i)⟩⟩
theorem c_step0 (r0 : (ax_s h 35).1 = 5) (e : ax_i h 35 11 = 0) (e8 : ax_i h 35 8 = 0) (hq : ∀ h', ax_same (fun a => a = 35) h h' → (∀ k, k ≠ 6 → k ≠ 7 → ax_i h' 35 k = ax_i h 35 k) → ax_i h' 35 6 = 0 → Ret none h') : mX5_step g [.ref 35] h Ret := by
  have le : ax_i h 35 11 ≤ ax_i h 35 8 := by rw [e, e8]; decide
  refine uX5_step (fun A hA => vX5_step_0 hA ⟨r0, r0, fun _ => ⟨r0, r0, r0, r0, fun q => ?_, fun _ => ⟨r0, ?_⟩⟩, fun q => absurd le q⟩)
  · rw [ai_ne (by omega), ai_ne (by omega), e, e8] at q; exact absurd q (by decide)
  · refine hq _ (sm_tr (sm_pi rfl) (sm_pi rfl)) (fun k h6 h7 => ?_) ai_eq
    rw [ai_ne (by omega), ai_ne (by omega)]
theorem c_read0 {s : Nat} (a : re_st h 35 2) (s2 : ax_s h 2 = (12, 600)) (hs5 : s < 5) (hq : ∀ h', ax_same re_F h h' → re_st h' 35 2 → rp_at h' s R0 → Ret none h') : mX5_read g [.ref 35, .int (nI 0), .int (nI s)] h Ret := by
  refine uX5_read (fun A hA => vX5_read_0 hA ⟨a.1, c_begin5 a s2 (by omega) hs5 (fun h1 s1 re1 rb => ⟨rfl, re1.1, ?_⟩)⟩)
  obtain ⟨b1, b2, b3, b4, b5, b6, ⟨c1, c2, c3, c4⟩, b8⟩ := rb
  refine c_step0 re1.1 (b1.trans rfl) b2 (fun h3 s3 e3 t3 => ⟨rfl, ?_⟩)
  have re3 : re_st h3 35 2 := re_st_same s3 (fun q _ _ => by omega) re1
  have g3 : ag (fun b => b ≠ 35) h1 h3 := ag_same s3 (fun x hx => hx)
  have S3 : ax_same re_F h h3 := sm_tr s1 (sm_mono s3 (fun x hx => by unfold re_F; omega))
  have r36 := re3.2.2.1
  have e5 : ax_i h3 36 5 = 8 := by rw [(g3 36 (by decide)).2.1]; exact c1
  have e6 : ax_i h3 36 6 = 0 := by rw [(g3 36 (by decide)).2.1]; exact c2
  have e12 : ax_i h3 35 12 = -1 := by rw [e3 12 (by decide) (by decide)]; exact b5
  have e13 : ax_i h3 35 13 = -1 := by rw [e3 13 (by decide) (by decide)]; exact b6
  refine vX5_read_12 hA ⟨fun q => absurd q (by decide), fun _ => ⟨re3.1, fun _ => ⟨re3.1, re3.1, _, re3.2.1.2.1, r36.1, fun q => ?_, fun _ => ⟨re3.1, re3.1, _, re3.2.1.2.1, r36.1, fun _ => ?_, fun q => ?_⟩⟩, fun q => absurd t3 q⟩⟩
  · rw [show (35 + 1 : Nat) = 36 from rfl, e5, e12] at q; exact absurd q (by decide)
  · refine hq h3 S3 re3 ⟨by rw [e3 4 (by decide) (by decide)]; exact b3, by rw [e3 5 (by decide) (by decide)]; exact b4, fun _ => ⟨fun _ => ?_, fun z => ?_⟩⟩
    · refine ⟨r36, ⟨by decide, by decide⟩, ⟨e5, e6⟩, fun k hk => ?_, fun k hk => ?_, fun p hp => absurd hp (Nat.not_lt_zero p), fun p q hp => absurd hp (Nat.not_lt_zero p), fun p q hp => absurd hp (Nat.not_lt_zero p)⟩
      · rw [(g3 (36 + 1) (by decide)).2.1]; exact (c3 k hk).1
      · rw [(g3 (36 + 2) (by decide)).2.1]; exact (c3 k hk).2
    · refine ⟨(re3.2.2.2.2.2.2 s z hs5).2, Nat.zero_le _, ?_, fun i j hi => absurd hi (Nat.not_lt_zero i)⟩
      rw [(g3 (42 + 2 * s) (by omega)).2.1]; exact b8 z
  · rw [show (35 + 1 : Nat) = 36 from rfl, e6, e13] at q; exact absurd (by decide) q
end
