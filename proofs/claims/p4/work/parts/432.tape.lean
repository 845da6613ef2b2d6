section
variable {g : ax_G} {Ret : Option Value → ax_H → Prop} {h : ax_H} {S : sT}
/-! bytes behind the tape -/
def bytT (v x : Int32) : Int32 := ((v >>> (x &&& 31)).toInt8.toInt32).toInt8.toInt32
def tq (T : Nat → Int32) (n : Nat) (v x : Int32) : Nat → Int32 := fun i => if i = n then bytT v x else T i
def ap4 (T : Nat → Int32) (n : Nat) (v : Int32) : Nat → Int32 := tq (tq (tq (tq T n v 24) (n + 1) v (24 + -8)) (n + 2) v (24 + -8 + -8)) (n + 3) v (24 + -8 + -8 + -8)
def ap20 (T : Nat → Int32) (n : Nat) (a b c d e : Int32) : Nat → Int32 := ap4 (ap4 (ap4 (ap4 (ap4 T n a) (n + 4) b) (n + 8) c) (n + 12) d) (n + 16) e
def tyb (T : Nat → Int32) : Prop := ∀ i, i < 600 → fits .byte (.int (T i)) = true
theorem tq_ok {T : Nat → Int32} {n : Nat} {v x : Int32} (a : tyb T) : tyb (tq T n v x) := fun i hi => by
  unfold tq
  split
  · exact pk_fb _
  · exact a i hi
theorem ap4_ok {T : Nat → Int32} {n : Nat} {v : Int32} (a : tyb T) : tyb (ap4 T n v) := tq_ok (tq_ok (tq_ok (tq_ok a)))
theorem ap20_ok {T : Nat → Int32} {n : Nat} {a b c d e : Int32} (i : tyb T) : tyb (ap20 T n a b c d e) := ap4_ok (ap4_ok (ap4_ok (ap4_ok (ap4_ok i))))
theorem c_append {t n : Nat} {T : Nat → Int32} {v : Int32} (s0 : (ax_s h t).1 = 8) (r0 : ax_r h t 0 = some (t + 1)) (s1 : ax_s h (t + 1) = (12, 600)) (hn : n + 4 ≤ 600) (el : ax_i h t 4 = nI n) (et : ∀ i, i < 600 → ax_i h (t + 1) i = T i) (hq : ∀ h', ax_same (fun a => a = t ∨ a = t + 1) h h' → ax_i h' t 4 = nI (n + 4) → (∀ i, i < 600 → ax_i h' (t + 1) i = ap4 T n v i) → ax_i h' t 5 = ax_i h t 5 → ax_i h' t 6 = ax_i h t 6 → Ret none h') : mX8_append g [.ref t, .int v] h Ret := by
  refine uX8_append (fun A hA => vX8_append_0 hA ?_)
  have step : ∀ (x : Int32) (k : Nat) (U : Nat → Int32) (hh : ax_H), ¬ x < 0 → k < 600 → ax_same (fun a => a = t ∨ a = t + 1) h hh → ax_i hh t 4 = nI k → (∀ i, i < 600 → ax_i hh (t + 1) i = U i) → ax_i hh t 5 = ax_i h t 5 → ax_i hh t 6 = ax_i h t 6 → (∀ h', ax_same (fun a => a = t ∨ a = t + 1) h h' → ax_i h' t 4 = nI (k + 1) → (∀ i, i < 600 → ax_i h' (t + 1) i = tq U k v x i) → ax_i h' t 5 = ax_i h t 5 → ax_i h' t 6 = ax_i h t 6 → A (3, [some (.ref t), some (.int v), some (.int (x + -8))], [], h', 0, 0)) → A (3, [some (.ref t), some (.int v), some (.int x)], [], hh, 0, 0) := by
    intro x k U hh hx hk hs e4 eu e5 e6 go
    have s0' : (ax_s hh t).1 = 8 := by rw [hs.2.1]; exact s0
    have r0' : ax_r hh t 0 = some (t + 1) := by rw [hs.2.2.1]; exact r0
    have s1' : ax_s hh (t + 1) = (12, 600) := by rw [hs.2.1]; exact s1
    refine vX8_append_3 hA ⟨fun q => absurd q hx, fun _ => ⟨s0', fun q => ?_, fun _ => ⟨s0', _, r0', s0', by rw [s1'], by rw [e4, s1']; exact vp_in_nI hk (by decide), rfl, s0', s0', ?_⟩⟩⟩
    · rw [e4] at q; exact absurd q (nI_ge (a := k) (b := 600) hk (by decide))
    · rw [e4, nI_clamp (by omega)]
      refine go _ (sm_tr hs (sm_tr (sm_pi (Or.inr rfl)) (sm_pi (Or.inl rfl)))) ?_ (fun i hi => ?_) ?_ ?_
      · rw [ai_eq, ai_ne (by omega), e4, nI_succ]
      · rw [ai_ne (by omega), ai_pi]
        unfold tq bytT
        by_cases e : i = k
        · rw [if_pos ⟨rfl, e⟩, if_pos e]
        · rw [if_neg (fun q => e q.2), if_neg e]; exact eu i hi
      · rw [ai_ne (by omega), ai_ne (by omega)]; exact e5
      · rw [ai_ne (by omega), ai_ne (by omega)]; exact e6
  refine step 24 n T h (by decide) (by omega) sm_rf el et rfl rfl (fun h1 a1 b1 c1 d1 f1 => ?_)
  refine step _ (n + 1) _ h1 (by decide) (by omega) a1 b1 c1 d1 f1 (fun h2 a2 b2 c2 d2 f2 => ?_)
  refine step _ (n + 2) _ h2 (by decide) (by omega) a2 b2 c2 d2 f2 (fun h3 a3 b3 c3 d3 f3 => ?_)
  refine step _ (n + 3) _ h3 (by decide) (by omega) a3 b3 c3 d3 f3 (fun h4 a4 b4 c4 d4 f4 => ?_)
  exact vX8_append_3 hA ⟨fun _ => hq h4 a4 b4 c4 d4 f4, fun q => absurd (by decide) q⟩
/-- the same in the reference -/
theorem c_mfour {n : Nat} {T : Nat → Int32} {v : Int32} (a : mo_st h 77) (hn : n + 4 ≤ 600) (el : ax_i h 79 0 = nI n) (et : ∀ i, i < 600 → ax_i h 78 i = T i) (hq : ∀ h', ax_same (fun a => a = 78 ∨ a = 79) h h' → ax_i h' 79 0 = nI (n + 4) → (∀ i, i < 600 → ax_i h' 78 i = ap4 T n v i) → (∀ i, 600 ≤ i → ax_i h' 78 i = ax_i h 78 i) → (∀ i, 1 ≤ i → ax_i h' 79 i = ax_i h 79 i) → Ret none h') : mX10_four g [.ref 77, .int v] h Ret := by
  refine uX10_four (fun A hA => vX10_four_0 hA ?_)
  have step : ∀ (x : Int32) (k : Nat) (U : Nat → Int32) (hh : ax_H), ¬ x < 0 → k < 600 → ax_same (fun a => a = 78 ∨ a = 79) h hh → ax_i hh 79 0 = nI k → (∀ i, i < 600 → ax_i hh 78 i = U i) → (∀ i, 600 ≤ i → ax_i hh 78 i = ax_i h 78 i) → (∀ i, 1 ≤ i → ax_i hh 79 i = ax_i h 79 i) → (∀ h', ax_same (fun a => a = 78 ∨ a = 79) h h' → ax_i h' 79 0 = nI (k + 1) → (∀ i, i < 600 → ax_i h' 78 i = tq U k v x i) → (∀ i, 600 ≤ i → ax_i h' 78 i = ax_i h 78 i) → (∀ i, 1 ≤ i → ax_i h' 79 i = ax_i h 79 i) → A (3, [some (.ref 77), some (.int v), some (.int (x + -8))], [], h', 0, 0)) → A (3, [some (.ref 77), some (.int v), some (.int x)], [], hh, 0, 0) := by
    intro x k U hh hx hk hs e4 eu e5 e6 go
    have a' := mo_st_same hs a
    have s0' := a'.1
    obtain ⟨r0', s1'⟩ : ax_r hh 77 1 = some 78 ∧ ax_s hh 78 = (12, 2400) := a'.2 0 _ rfl
    obtain ⟨r2', s2'⟩ : ax_r hh 77 2 = some 79 ∧ ax_s hh 79 = (11, 4) := a'.2 1 _ rfl
    have in0 : vp_in (0 : Int32) 4 := vp_in_nI (n := 0) (N := 4) (by decide) (by decide)
    refine vX10_four_3 hA ⟨fun q => absurd q hx, fun _ => ⟨s0', _, r0', s0', _, r2', by rw [s2'], by rw [s2']; exact in0, by rw [s1'], by rw [e4, s1']; exact vp_in_nI (by omega) (by decide), s0', _, r2', ⟨rfl, rfl⟩, by rw [as_pi, s2'], by rw [as_pi, s2']; exact in0, by rw [as_pi, s2'], by rw [as_pi, s2']; exact in0, ?_⟩⟩
    rw [e4, nI_clamp (by omega)]
    refine go _ (sm_tr hs (sm_tr (sm_pi (Or.inl rfl)) (sm_pi (Or.inr rfl)))) ?_ (fun i hi => ?_) (fun i hi => ?_) (fun i hi => ?_)
    · rw [ai_eq, ai_ne (by omega), e4, nI_succ]
    · rw [ai_ne (by omega), ai_pi]
      unfold tq bytT
      by_cases e : i = k
      · rw [if_pos ⟨rfl, e⟩, if_pos e]
      · rw [if_neg (fun q => e q.2), if_neg e]; exact eu i hi
    · rw [ai_ne (by omega), ai_ne (by omega)]; exact e5 i hi
    · rw [ai_ne (by omega), ai_ne (by omega)]; exact e6 i hi
  refine step 24 n T h (by decide) (by omega) sm_rf el et (fun _ _ => rfl) (fun _ _ => rfl) (fun h1 a1 b1 c1 d1 f1 => ?_)
  refine step _ (n + 1) _ h1 (by decide) (by omega) a1 b1 c1 d1 f1 (fun h2 a2 b2 c2 d2 f2 => ?_)
  refine step _ (n + 2) _ h2 (by decide) (by omega) a2 b2 c2 d2 f2 (fun h3 a3 b3 c3 d3 f3 => ?_)
  refine step _ (n + 3) _ h3 (by decide) (by omega) a3 b3 c3 d3 f3 (fun h4 a4 b4 c4 d4 f4 => ?_)
  exact vX10_four_3 hA ⟨fun _ => hq h4 a4 b4 c4 d4 f4, fun q => absurd (by decide) q⟩
/-! FEED -/
def s_feed (S : sT) (a b c d e : Int32) : sT := (s_n S + 20, ap20 (s_t S) (s_n S) a b c d e, S.2.2)
theorem tl_tape {t n : Nat} {T : Nat → Int32} {h' : ax_H} (hs : ax_same (fun a => a = t ∨ a = t + 1) h h') (a : tl_at h t S) (e4 : ax_i h' t 4 = nI n) (e5 : ax_i h' t 5 = ax_i h t 5) (e6 : ax_i h' t 6 = ax_i h t 6) (et : ∀ i, i < 600 → ax_i h' (t + 1) i = T i) : tl_at h' t (n, T, S.2.2) := by
  obtain ⟨⟨a1, a2, a3, a4⟩, b1, b2, b3, b4, b5, b6⟩ := a
  have g : ag (fun b => ¬ (b = t ∨ b = t + 1)) h h' := ag_same hs (fun x hx => hx)
  have z0 := (a2 0 (by decide)).1
  refine ⟨⟨?_, fun q hq => ⟨(a2 q hq).1, by rw [(g (t + 2) (by omega)).2.1]; exact (a2 q hq).2⟩, fun k hk => rc_at_ag g (fun j hj => ?_) (a3 k hk), fun q k h1 h5 hk => li_at_ag g ?_ (a4 q k h1 h5 hk)⟩, e4, by rw [e5]; exact b2, by rw [e6]; exact b3, et, by rw [hs.2.2.1]; exact b5, by rw [hs.2.2.1]; exact b6⟩
  · obtain ⟨c1, ⟨c2, c3, c4, c5⟩, ⟨d1, d2, d3, d4⟩, f1, f2⟩ := a1
    exact ⟨by rw [hs.2.1]; exact c1, ⟨by rw [hs.2.2.1]; exact c2, by rw [hs.2.2.1]; exact c3, by rw [hs.2.2.1]; exact c4, by rw [hs.2.2.1]; exact c5⟩, ⟨by rw [hs.2.1]; exact d1, by rw [hs.2.1]; exact d2, by rw [hs.2.1]; exact d3, by rw [hs.2.1]; exact d4⟩, fun k hk => ⟨by rw [hs.2.2.1]; exact (f1 k hk).1, rc_st_same hs (f1 k hk).2⟩, fun q k h1 h5 hk => ⟨by rw [hs.2.2.1]; exact (f2 q k h1 h5 hk).1, li_st_same hs (by unfold lnp; omega) (f2 q k h1 h5 hk).2⟩⟩
  · omega
  · unfold lnp; omega
theorem q9_feed {x1 x2 x3 x4 x5 : Int32} (hx : xs_st h) (a : tl_at h 1 S) (hn : s_n S ≤ 600) (hno : ¬ s_n S + 20 ≤ 600 → Ret (some (.int (-1))) h) (hq : s_n S + 20 ≤ 600 → ∀ h', ax_same (fun a => a = 1 ∨ a = 2) h h' → tl_at h' 1 (s_feed S x1 x2 x3 x4 x5) → Ret (some (.int (nI (s_n S + 20)))) h') : mX9_feed g [.ref 0, .int x1, .int x2, .int x3, .int x4, .int x5] h Ret := by
  obtain ⟨⟨⟨t1, ⟨t2, -, -, -⟩, ⟨t6, -, -, -⟩, -, -⟩, -, -, -⟩, e4, e5, e6, et, -, -⟩ := id a
  have ec : ax_i h 1 4 + 20 = nI (s_n S + 20) := by rw [e4, show (20 : Int32) = nI 20 from rfl, nI_add]
  have hF : ∀ {h1 h2 : ax_H}, ax_same (fun a => a = 1 ∨ a = 1 + 1) h1 h2 → ax_same (fun a => a = 1 ∨ a = 2) h1 h2 := fun s => s
  refine eX9_feed ⟨hx.1, _, hx.2.1.1, t1, fun q => ?_, fun q => ?_⟩
  · rw [ec] at q
    have hle : s_n S + 20 ≤ 600 := by
      rcases Nat.lt_or_ge 600 (s_n S + 20) with z | z
      · exact absurd q (nI_ge (a := 600) (b := s_n S + 20) z (by omega))
      · exact z
    refine ⟨hx.1, _, hx.2.1.1, t1, c_append t1 t2 t6 (by omega) e4 et (fun h1 s1 l1 u1 f1 p1 => ⟨rfl, ?_⟩)⟩
    have x1' := xs_st_same s1 hx
    refine ⟨x1'.1, _, x1'.2.1.1, by rw [s1.2.1]; exact t1, c_append (by rw [s1.2.1]; exact t1) (by rw [s1.2.2.1]; exact t2) (by rw [s1.2.1]; exact t6) (by omega) l1 u1 (fun h2 s2 l2 u2 f2 p2 => ⟨rfl, ?_⟩)⟩
    replace s2 := sm_tr s1 s2
    have x2' := xs_st_same s2 hx
    refine ⟨x2'.1, _, x2'.2.1.1, by rw [s2.2.1]; exact t1, c_append (by rw [s2.2.1]; exact t1) (by rw [s2.2.2.1]; exact t2) (by rw [s2.2.1]; exact t6) (by omega) l2 u2 (fun h3 s3 l3 u3 f3 p3 => ⟨rfl, ?_⟩)⟩
    replace s3 := sm_tr s2 s3
    have x3' := xs_st_same s3 hx
    refine ⟨x3'.1, _, x3'.2.1.1, by rw [s3.2.1]; exact t1, c_append (by rw [s3.2.1]; exact t1) (by rw [s3.2.2.1]; exact t2) (by rw [s3.2.1]; exact t6) (by omega) l3 u3 (fun h4 s4 l4 u4 f4 p4 => ⟨rfl, ?_⟩)⟩
    replace s4 := sm_tr s3 s4
    have x4' := xs_st_same s4 hx
    refine ⟨x4'.1, _, x4'.2.1.1, by rw [s4.2.1]; exact t1, c_append (by rw [s4.2.1]; exact t1) (by rw [s4.2.2.1]; exact t2) (by rw [s4.2.1]; exact t6) (by omega) l4 u4 (fun h5 s5 l5 u5 f5 p5 => ⟨rfl, ?_⟩)⟩
    replace s5 := sm_tr s4 s5
    have x5' := xs_st_same s5 hx
    refine ⟨x5'.1, _, x5'.2.1.1, by rw [s5.2.1]; exact t1, ?_⟩
    rw [l5]
    exact hq hle h5 s5 (tl_tape s5 a l5 (f5.trans (f4.trans (f3.trans (f2.trans f1)))) (p5.trans (p4.trans (p3.trans (p2.trans p1)))) u5)
  · rw [ec] at q
    exact hno (fun z => q (nI_le z (by decide)))
theorem ml_tape {n : Nat} {T : Nat → Int32} {h' : ax_H} {Im : Nat → Option sT} (hs : ax_same (fun a => a = 77 ∨ a = 78 ∨ a = 79) h h') (a : mi_at h S Im) (e4 : ax_i h' 79 0 = nI n) (et : ∀ i, i < 600 → ax_i h' 78 i = T i) (eu : ∀ i, 600 ≤ i → ax_i h' 78 i = ax_i h 78 i) (ev : ∀ i, 1 ≤ i → ax_i h' 79 i = ax_i h 79 i) : mi_at h' (n, T, S.2.2) Im := by
  obtain ⟨a1, ⟨a2, b1, b2, b3, b4⟩, a3⟩ := a
  have g : ag (fun b => 80 ≤ b) h h' := ag_same hs (fun x hx => by omega)
  refine ⟨mo_st_same hs a1, ⟨tm_at_ag g (fun j _ => by omega) a2, e4, by rw [(g 80 (by omega)).2.1]; exact b2, by rw [(g 81 (by omega)).2.1]; exact b3, fun i hi => by rw [Nat.mul_zero, Nat.zero_add]; exact et i hi⟩, fun k hk => ⟨fun e => by rw [(g 102 (by omega)).2.1]; exact (a3 k hk).1 e, fun S' e => ?_⟩⟩
  obtain ⟨c1, c2, d1, d2, d3, d4⟩ := (a3 k hk).2 S' e
  exact ⟨by rw [(g 102 (by omega)).2.1]; exact c1, tm_at_ag g (fun j _ => by omega) c2, by rw [ev _ (by omega)]; exact d1, by rw [(g 80 (by omega)).2.1]; exact d2, by rw [(g 81 (by omega)).2.1]; exact d3, fun i hi => by rw [eu _ (by omega)]; exact d4 i hi⟩
theorem q10_feed {x1 x2 x3 x4 x5 : Int32} {Im : Nat → Option sT} (a : mi_at h S Im) (hn : s_n S ≤ 600) (hno : ¬ s_n S + 20 ≤ 600 → ∀ h', ax_same md_F h h' → Ret (some (.int (-1))) h') (hq : s_n S + 20 ≤ 600 → ∀ h', ax_same (fun a => a = 77 ∨ a = 78 ∨ a = 79) h h' → mi_at h' (s_feed S x1 x2 x3 x4 x5) Im → Ret (some (.int (nI (s_n S + 20)))) h') : mX10_feed g [.ref 77, .int x1, .int x2, .int x3, .int x4, .int x5] h Ret := by
  have hs1 : ax_same md_F h (ax_pi h 77 0 0) := sm_pi (Or.inl rfl)
  have a1 := mi_md hs1 a
  have hs0 : ax_same (fun a => a = 77 ∨ a = 78 ∨ a = 79) h (ax_pi h 77 0 0) := sm_pi (Or.inl rfl)
  refine eX10_feed ⟨a.1.1, ?_⟩
  revert hs1 a1 hs0
  generalize ax_pi h 77 0 0 = h1
  intro hs1 a1 hs0
  obtain ⟨m1, ⟨-, e4, -, -, et⟩, -⟩ := id a1
  simp only [Nat.mul_zero, Nat.zero_add] at et
  obtain ⟨r2, s2⟩ : ax_r h1 77 2 = some 79 ∧ ax_s h1 79 = (11, 4) := m1.2 1 _ rfl
  have in0 : vp_in (0 : Int32) 4 := vp_in_nI (n := 0) (N := 4) (by decide) (by decide)
  have ec : ax_i h1 79 0 + 20 = nI (s_n S + 20) := by rw [e4, show (20 : Int32) = nI 20 from rfl, nI_add]
  refine ⟨m1.1, _, r2, by rw [s2], by rw [s2]; exact in0, fun q => ⟨m1.1, ?_⟩, fun q => ?_⟩
  · rw [ec] at q
    have hle : s_n S + 20 ≤ 600 := by
      rcases Nat.lt_or_ge 600 (s_n S + 20) with z | z
      · exact absurd q (nI_ge (a := 600) (b := s_n S + 20) z (by omega))
      · exact z
    refine c_mfour m1 (by omega) e4 et (fun h2 q2 l2 u2 v2 w2 => ⟨rfl, ?_⟩)
    have m2 := mo_st_same q2 m1
    refine ⟨m2.1, c_mfour m2 (by omega) l2 u2 (fun h3 q3 l3 u3 v3 w3 => ⟨rfl, ?_⟩)⟩
    have m3 := mo_st_same q3 m2
    refine ⟨m3.1, c_mfour m3 (by omega) l3 u3 (fun h4 q4 l4 u4 v4 w4 => ⟨rfl, ?_⟩)⟩
    have m4 := mo_st_same q4 m3
    refine ⟨m4.1, c_mfour m4 (by omega) l4 u4 (fun h5 q5 l5 u5 v5 w5 => ⟨rfl, ?_⟩)⟩
    have m5 := mo_st_same q5 m4
    refine ⟨m5.1, c_mfour m5 (by omega) l5 u5 (fun h6 q6 l6 u6 v6 w6 => ⟨rfl, ?_⟩)⟩
    have m6 := mo_st_same q6 m5
    obtain ⟨r6, s6⟩ : ax_r h6 77 2 = some 79 ∧ ax_s h6 79 = (11, 4) := m6.2 1 _ rfl
    refine ⟨m6.1, _, r6, by rw [s6], by rw [s6]; exact in0, ?_⟩
    have hs : ax_same (fun a => a = 77 ∨ a = 78 ∨ a = 79) h1 h6 := sm_mono (sm_tr q2 (sm_tr q3 (sm_tr q4 (sm_tr q5 q6)))) (fun x hx => by omega)
    rw [show ax_i h6 79 0 = nI (s_n S + 20) from l6]
    exact hq hle h6 (sm_tr hs0 hs) (ml_tape hs a1 l6 u6 (fun i hi => (v6 i hi).trans ((v5 i hi).trans ((v4 i hi).trans ((v3 i hi).trans (v2 i hi))))) (fun i hi => (w6 i hi).trans ((w5 i hi).trans ((w4 i hi).trans ((w3 i hi).trans (w2 i hi))))))
  · rw [ec] at q
    exact hno (fun z => q (nI_le z (by decide))) h1 hs1
end
