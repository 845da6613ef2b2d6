section
variable {g : ax_G} {Ret : Option Value → ax_H → Prop} {h : ax_H} {T : Nat → Int32} {n a s : Nat} {st : lS}
/-- step() from the token at place a to the next -/
theorem c_next (t : tp_at h T) (hn : n ≤ 600) (ha : a ≤ n) (k : tk_at h T n a) (hq : ∀ h', rf (fun k => 6 ≤ k ∧ k ≤ 9) h h' → tk_at h' T n (tkb T n a) → Ret none h') : mX5_step g [.ref 35] h Ret :=
  c_step5 t hn (tk_bd (T := T) ha).2.2.1 k.1 k.2.2.2.1 (fun h' r e6 e7 e8 e9 => hq h' r ⟨by rw [r.2 11 (by omega)]; exact k.1, e6, e7, e8, e9⟩)
theorem tk_rf {J : Nat → Prop} {h1 : ax_H} (x : rf J h h1) (i : ∀ k, J k → ¬ (6 ≤ k ∧ k ≤ 9) ∧ k ≠ 11) (k : tk_at h T n a) : tk_at h1 T n a := ⟨by rw [x.2 11 (fun q => (i 11 q).2 rfl)]; exact k.1, by rw [x.2 6 (fun q => (i 6 q).1 (by omega))]; exact k.2.1, by rw [x.2 7 (fun q => (i 7 q).1 (by omega))]; exact k.2.2.1, by rw [x.2 8 (fun q => (i 8 q).1 (by omega))]; exact k.2.2.2.1, fun z => by rw [x.2 9 (fun q => (i 9 q).1 (by omega))]; exact k.2.2.2.2 z⟩
theorem tk_43 {k : Nat} {v : Int32} (x : tk_at h T n a) : tk_at (ax_pi h 43 k v) T n a := by
  unfold tk_at at *
  simp only [ai_ne (h := h) (a := 43) (k := k) (b := 35) (v := v) (Or.inl (by decide))]
  exact x
/-- the mode that the token at place a names -/
def mdw (T : Nat → Int32) (n a : Nat) : Option Nat := if tw T n a 0 = true then some 0 else if tw T n a 1 = true then some 1 else if tw T n a 2 = true then some 2 else none
theorem mdw_lt {m : Nat} (e : mdw T n a = some m) : m < 3 := by
  unfold mdw at e
  split at e
  · cases e; decide
  · split at e
    · cases e; decide
    · split at e
      · cases e; decide
      · cases e
theorem c_readMode (t : tp_at h T) (hn : n ≤ 600) (ha : a ≤ n) (k : tk_at h T n a) (h0 : mdw T n (tkb T n a) = none → ∀ h', rf (fun k => 6 ≤ k ∧ k ≤ 10) h h' → tk_at h' T n (tkb T n a) → Ret (some (.int 0)) h') (h1 : ∀ m, mdw T n (tkb T n a) = some m → ∀ h', rf (fun k => 6 ≤ k ∧ k ≤ 10) h h' → tk_at h' T n (tkb T n a) → ax_i h' 35 10 = nI m → Ret (some (.int 1)) h') : mX5_readMode g [.ref 35] h Ret := by
  have hb := (tk_bd (T := T) ha).2.2.1
  unfold mdw at h0 h1
  refine eX5_readMode ⟨t.1, c_next t hn ha k (fun h1' r1 k1 => ⟨rfl, ?_⟩)⟩
  have r1' : rf (fun k => 6 ≤ k ∧ k ≤ 10) h h1' := rf_mono r1 (fun x hx => by omega)
  have t1 := rf_tp r1 t
  have put : ∀ m : Nat, (if tw T n (tkb T n a) 0 = true then some 0 else if tw T n (tkb T n a) 1 = true then some 1 else if tw T n (tkb T n a) 2 = true then some 2 else none) = some m → Ret (some (.int 1)) (ax_pi h1' 35 10 (nI m)) := fun m e => h1 m e _ (rf_tr r1' (rf_pi ⟨by decide, by decide⟩)) (tk_rf (J := fun k => k = 10) (rf_pi rfl) (fun x hx => by omega) k1) ai_eq
  refine ⟨t1.1, c_isWord (i := 0) t1 hn hb (by decide) k1.2.1 k1.2.2.1 k1.2.2.2.1 ⟨_, rfl, fun q => ⟨t1.1, c_isWord (i := 1) t1 hn hb (by decide) k1.2.1 k1.2.2.1 k1.2.2.2.1 ⟨_, rfl, fun q1 => ⟨t1.1, c_isWord (i := 2) t1 hn hb (by decide) k1.2.1 k1.2.2.1 k1.2.2.2.1 ⟨_, rfl, fun q2 => ⟨Or.inl rfl, h0 ?_ h1' r1' k1⟩, fun q2 => ⟨t1.1, Or.inr rfl, put 2 ?_⟩⟩⟩, fun q1 => ⟨t1.1, Or.inr rfl, put 1 ?_⟩⟩⟩, fun q => ⟨t1.1, Or.inr rfl, put 0 ?_⟩⟩⟩
  · rw [b2i_0.mp q, b2i_0.mp q1, b2i_0.mp q2]; rfl
  · rw [b2i_0.mp q, b2i_0.mp q1, b2i_n0.mp q2]; rfl
  · rw [b2i_0.mp q, b2i_n0.mp q1]; rfl
  · rw [b2i_n0.mp q]; rfl
theorem c_ladd {l N : Nat} {C : Nat → Nat → Int32} {w : Nat → Int32} (h1s : 1 ≤ s) (h5s : s < 5) (hL : li_at h l s N C) (hN : N < lm s) (h43 : ax_s h 43 = (11, 3)) (hl : l ≠ 43 ∧ l + 1 ≠ 43) (hw : ∀ j, j < lw s → ax_i h 43 j = w j) (hq : ∀ h', ax_same (fun b => b = l ∨ b = l + 1) h h' → li_at h' l s (N + 1) (fun i j => if i = N then w j else C i j) → Ret none h') : mX2_add g [.ref l, .ref 43] h Ret := by
  obtain ⟨⟨a1, a2, a3, a4, a5⟩, b1, b2, b3⟩ := id hL
  have lb := lm_lw h1s h5s
  have hlt : N * lw s + lw s ≤ lm s * lw s := by
    have : (N + 1) * lw s ≤ lm s * lw s := Nat.mul_le_mul_right _ hN
    rw [Nat.succ_mul] at this
    exact this
  have em : nI N * nI (lw s) = nI (N * lw s) := pk_mul N (lw s)
  refine eX2_add ⟨a1, c_isFull h1s h5s hL ⟨_, rfl, fun q => ?_, fun q => ⟨sh_k h43, a1, fun q2 => ⟨a1, _, a2, a1, a1, a1, sh_k a5, sh_k h43, ?_, Or.inl rfl, Nat.le_of_ble_eq_true rfl, rfl, a1, a1, ?_⟩, fun q2 => ?_⟩⟩⟩
  · have := of_decide_eq_true (b2i_n0.mp q); omega
  · rw [b2, a4, em, nI_clamp (by omega), nI_clamp (by omega), h43, a5]
    exact ⟨by decide, nI_pos (by omega), nI_pos (by omega), by show 0 + lw s ≤ 3; omega, hlt⟩
  · rw [b2, a4, em, nI_clamp (by omega), nI_clamp (by omega)]
    have s5 : ax_same (fun b => b = l ∨ b = l + 1) h (ax_row h (l + 1) (va_cpy (ax_i h 43) (ax_i h (l + 1)) 0 (N * lw s) (lw s))) := sm_row (Or.inr rfl)
    refine hq _ (sm_tr s5 (sm_pi (Or.inl rfl))) ⟨⟨a1, a2, ?_, ?_, a5⟩, hN, ?_, fun i j hi hj => ?_⟩
    · rw [ai_ne (by omega), ai_row, if_neg (by omega)]; exact a3
    · rw [ai_ne (by omega), ai_row, if_neg (by omega)]; exact a4
    · rw [ai_eq, ai_row, if_neg (by omega), b2, ← nI_succ]
    · rw [ai_ne (by omega), ai_row, if_pos rfl]
      unfold va_cpy
      show _ = (if i = N then w j else C i j)
      by_cases e : i = N
      · subst e
        rw [if_pos ⟨by omega, by omega⟩, if_pos rfl, show 0 + (i * lw s + j - i * lw s) = j by omega]
        exact hw j hj
      · rw [if_neg e, if_neg (fun q => ?_)]
        · exact b3 i j (by omega) hj
        · have : (i + 1) * lw s ≤ N * lw s := Nat.mul_le_mul_right _ (by omega)
          rw [Nat.succ_mul] at this
          omega
  · rw [a4, h43] at q2; exact absurd (nI_le (a := lw s) (b := 3) (by omega) (by decide)) q2
theorem lnu_lw : ∀ v, 6 ≤ v → v < 11 → lnu v = lw (lvs v) ∧ 1 ≤ lvs v ∧ lvs v < 5 := by
  intro v h1 h2
  rcases (by omega : v = 6 ∨ v = 7 ∨ v = 8 ∨ v = 9 ∨ v = 10) with rfl | rfl | rfl | rfl | rfl <;> decide
theorem c_tellLine {v : Nat} {x : Nat → Nat} (d : dr_at h s st) (h6 : 6 ≤ v) (hv : v < 11) (hs : lvs v = s) (e43 : ∀ j, j < lnu v → ax_i h 43 j = nI (x j)) (too : ltoo v st = false) (hq : ∀ h', ax_same re_F h h' → (∀ k, ax_i h' 35 k = ax_i h 35 k) → dr_at h' s (l_add v x st) → Ret none h') : mX5_tellLine g [.ref 35, .int (nI v)] h Ret := by
  obtain ⟨d1, d2, d3, d4, d5⟩ := id d
  obtain ⟨r0, ⟨-, r1, r2, r3⟩, rc, r42, r43, r8, r9⟩ := id d1
  obtain ⟨w1, w2, w3⟩ := lnu_lw v h6 hv
  obtain ⟨ev, -⟩ := tab_vs v hv
  rw [hs] at w1 w2 w3 ev
  have L := d5 w2
  have hN : l_N st < lm s := by
    unfold ltoo at too
    rw [if_neg (by omega), hs, if_neg (by omega)] at too
    have := of_decide_eq_false too
    omega
  have i2 : vp_in (2 : Int32) (ax_s h 43).2 := by rw [show ax_s h 43 = (11, 3) from r43]; exact vp_in_nI (n := 2) (N := 3) (by decide) (by decide)
  -- the line is added
  have add : ∀ h2 : ax_H, ax_same (fun b => b = 43) h h2 → (∀ j, j < lw s → ax_i h2 43 j = lval v x j) → mX5_draftOf g [.ref 35, .int (nI s)] h2 (fun v3 h3 => (∃ r4 : Nat, v3 = some (.ref r4) ∧ (ax_s h3 35).1 = 5 ∧ ∃ b5 : Nat, ax_r h3 35 3 = some b5 ∧ (ax_s h3 r4).1 = 2 ∧ mX2_add g [.ref r4, .ref b5] h3 (fun v7 h6 => v7 = none ∧ Ret none h6)) ∨ (v3 = some .null ∧ Ret none h3)) := by
    intro h2 sm ew
    have g2 : ag (fun b => b ≠ 43) h h2 := ag_same sm (fun b hb => hb)
    have d1' : re_st h2 35 2 := re_st_same sm (fun q _ _ => by omega) d1
    have L2 : li_at h2 (42 + 2 * s) s (l_N st) (l_C st) := li_at_ag g2 (by omega) L
    refine c_draftOf d1' w3 (fun z => by omega) (fun _ => Or.inl ⟨_, rfl, d1'.1, 43, d1'.2.1.2.2.2, L2.1.1, c_ladd w2 w3 L2 hN d1'.2.2.2.2.1 (by omega) ew (fun h6 sm6 L6 => ⟨rfl, ?_⟩)⟩)
    have g6 : ag (fun b => b ≠ 43 ∧ b ≠ 42 + 2 * s ∧ b ≠ 42 + 2 * s + 1) h h6 := ag_tr (ag_mono g2 (fun b hb => hb.1)) (ag_same sm6 (fun b hb => by omega))
    have e35 := (g6 35 (by omega)).2.1
    have re6 : re_st h6 35 2 := by
      obtain ⟨a1, b1, c1, c2, c3, c4, dd⟩ := d1'
      refine ⟨by rw [sm6.2.1]; exact a1, ⟨by rw [sm6.2.2.1]; exact b1.1, by rw [sm6.2.2.1]; exact b1.2.1, by rw [sm6.2.2.1]; exact b1.2.2.1, by rw [sm6.2.2.1]; exact b1.2.2.2⟩, rc_st_same sm6 c1, by rw [sm6.2.1]; exact c2, by rw [sm6.2.1]; exact c3, by rw [sm6.2.2.1]; exact c4, fun q q1 q5 => ⟨by rw [sm6.2.2.1]; exact (dd q q1 q5).1, ?_⟩⟩
      by_cases e : q = s
      · subst e; exact L6.1
      · exact li_st_same sm6 (by omega) (dd q q1 q5).2
    exact hq h6 (sm_tr (sm_mono sm (fun b hb => by unfold re_F; omega)) (sm_mono sm6 (fun b hb => by unfold re_F; omega))) e35 ⟨re6, by rw [e35]; exact d2, by rw [e35]; exact d3, rF_ag g6 (fun j hj => by omega) d4, fun _ => L6⟩
  refine eX5_tellLine ⟨fun q => ⟨rfl, vp_in_nI (N := 11) hv (by decide), ?_⟩, fun q => ⟨r0, 43, r3, r0, 43, r3, sh_k r43, i2, sh_k r43, i2, rfl, vp_in_nI (N := 11) hv (by decide), ?_⟩⟩
  · dsimp only
    rw [nI_clamp (by omega), ev]
    refine ⟨r0, add h sm_rf (fun j hj => ?_)⟩
    unfold lval
    rw [if_neg (fun z => q (by rw [z.1]; rfl))]
    exact e43 j (by omega)
  · have e : v = 10 := (nI_eq (b := 10) (by omega) (by decide)).mp q
    dsimp only
    rw [nI_clamp (by omega), ev]
    refine ⟨r0, add _ (sm_pi rfl) (fun j hj => ?_)⟩
    unfold lval
    by_cases z : j = 2
    · rw [if_pos ⟨e, z⟩, z, ai_eq, e43 2 (by omega)]
    · rw [if_neg (fun y => z y.2), ai_ne (by omega)]
      exact e43 j (by omega)
/-- tell(): a line without a fault goes to the draft -/
theorem c_tell {v md : Nat} {x : Nat → Nat} (d : dr_at h s st) (ok : okL s st) (hv : v < 11) (hs : lvs v = s) (e43 : ∀ j, j < lnu v → ax_i h 43 j = nI (x j)) (e10 : (v = 1 ∨ v = 2) → ax_i h 35 10 = nI md) (too : ltoo v st = false) (bad : ∀ j, j < lnu v → lbad v x j = false) (hq : ∀ h', ax_same re_F h h' → (∀ k, k ≠ 12 → k ≠ 13 → ax_i h' 35 k = ax_i h 35 k) → dr_at h' s (l_tell v x md st) → Ret none h') : mX5_tell g [.ref 35, .int (nI v)] h Ret := by
  obtain ⟨d1, d2, d3, d4, d5⟩ := id d
  obtain ⟨r0, ⟨-, r1, r2, r3⟩, rc, r42, r43, r8, r9⟩ := id d1
  obtain ⟨c0, ⟨c1, c2, c3, c4, c5⟩, c6, c7, c8, c9, c10⟩ := id rc
  obtain ⟨x1, x2, x3, x4, x5, x6, x7⟩ := id d4
  have F36 : ∀ k, 35 ≤ k → k ≤ 51 → re_F k := fun k h1 h2 => ⟨h1, h2⟩
  have i0 : vp_in (0 : Int32) (ax_s h 43).2 := by rw [show ax_s h 43 = (11, 3) from r43]; exact vp_in_nI (n := 0) (N := 3) (by decide) (by decide)
  have i1 : vp_in (1 : Int32) (ax_s h 43).2 := by rw [show ax_s h 43 = (11, 3) from r43]; exact vp_in_nI (n := 1) (N := 3) (by decide) (by decide)
  have i2 : vp_in (2 : Int32) (ax_s h 43).2 := by rw [show ax_s h 43 = (11, 3) from r43]; exact vp_in_nI (n := 2) (N := 3) (by decide) (by decide)
  have s43 : (ax_s h 43).1 = 11 := sh_k r43
  -- what of the draft a write into the republic leaves
  have keep : ∀ {h' : ax_H}, ax_same (fun b => 36 ≤ b ∧ b ≤ 41) h h' → re_st h' 35 2 ∧ (∀ k, ax_i h' 35 k = ax_i h 35 k) ∧ (1 ≤ s → li_at h' (42 + 2 * s) s (l_N st) (l_C st)) := fun {h'} sm => by
    have gg : ag (fun b => ¬ (36 ≤ b ∧ b ≤ 41)) h h' := ag_same sm (fun b hb => hb)
    exact ⟨re_st_same sm (fun q _ _ => by omega) d1, (gg 35 (by omega)).2.1, fun s1 => li_at_ag gg (by omega) (d5 s1)⟩
  refine uX5_tell (fun A hA => ?_)
  have one : ∀ (b : Nat) (o1 o2 : Option Value), ax_s h b = (11, 72) → (b = 40 ∨ b = 41) → x 0 ≤ 5 → x 1 ≤ 11 → lnu v = 3 → Ret none (ax_pi (ax_pi (ax_pi h b (x 0 * 12 + x 1) (nI (x 2))) 35 13 (mx (l_o st) (nI (x 0)))) 35 12 (mx (l_h st) (nI (x 1)))) → A (183, [some (.ref 35), o1, o2], [.ref b], h, 0, 0) := by
    intro b o1 o2 sb hb h0 h1 l3 fin
    have f0 : ax_i h 43 0 = nI (x 0) := e43 0 (by omega)
    have f1 : ax_i h 43 1 = nI (x 1) := e43 1 (by omega)
    have f2 : ax_i h 43 2 = nI (x 2) := e43 2 (by omega)
    unfold mx at fin
    refine vX5_tell_183 hA ⟨r0, 43, r3, s43, i0, r0, 43, r3, s43, i1, r0, 43, r3, s43, i2, sh_k sb, ?_, r0, r0, 43, r3, s43, i0, r0, r0, r0, 43, r3, s43, i1, r0, ?_⟩
    · rw [f0, f1, ni_12, sb]; exact vp_in_nI (by omega) (by decide)
    · rw [f0, f1, f2, ni_12, nI_clamp (by omega)]
      have p1 : ∀ k, ax_i (ax_pi h b (x 0 * 12 + x 1) (nI (x 2))) 35 k = ax_i h 35 k := fun k => ai_ne (by omega)
      have p2 : ∀ k, ax_i (ax_pi h b (x 0 * 12 + x 1) (nI (x 2))) 43 k = ax_i h 43 k := fun k => ai_ne (by omega)
      have p3 : ∀ w k, ax_i (ax_pi (ax_pi h b (x 0 * 12 + x 1) (nI (x 2))) 35 13 w) 43 k = ax_i h 43 k := fun w k => by rw [ai_ne (by omega)]; exact p2 k
      have p4 : ∀ w, ax_i (ax_pi (ax_pi h b (x 0 * 12 + x 1) (nI (x 2))) 35 13 w) 35 12 = ax_i h 35 12 := fun w => by rw [ai_ne (by omega)]; exact p1 12
      rw [p3, p4, p2, p1, f0, f1, d2, d3]
      exact fin
  rcases (by omega : v = 0 ∨ v = 1 ∨ v = 2 ∨ v = 3 ∨ v = 4 ∨ v = 5 ∨ 6 ≤ v) with rfl | rfl | rfl | rfl | rfl | rfl | v6
  · refine vX5_tell_0 hA ⟨fun _ => ⟨r0, 36, r1, r0, 43, r3, s43, i0, c0, ?_⟩, fun q => absurd rfl q⟩
    have sm : ax_same (fun b => 36 ≤ b ∧ b ≤ 41) h (ax_pi h 36 5 (ax_i h 43 0)) := sm_pi ⟨by decide, by decide⟩
    obtain ⟨k1, k2, k3⟩ := keep sm
    refine hq _ (sm_mono sm (fun b hb => by unfold re_F; omega)) (fun k _ _ => k2 k) ⟨k1, by rw [k2]; exact d2, by rw [k2]; exact d3, ⟨by rw [ai_eq]; exact e43 0 (by decide), by rw [ai_ne (by omega)]; exact x2, fun k hk => by rw [ai_ne (by omega)]; exact x3 k hk, fun k hk => by rw [ai_ne (by omega)]; exact x4 k hk, fun p hp => by rw [ai_ne (by omega)]; exact x5 p hp, fun p q hp hq => by rw [ai_ne (by omega)]; exact x6 p q hp hq, fun p q hp hq => by rw [ai_ne (by omega)]; exact x7 p q hp hq⟩, k3⟩
  · have b0 : x 0 ≤ 5 := (lbad_f (bad 0 (by decide))).2.1
    have f0 : ax_i h 43 0 = nI (x 0) := e43 0 (by decide)
    have f1 : ax_i h 43 1 = nI (x 1) := e43 1 (by decide)
    refine vX5_tell_0 hA ⟨fun q => absurd q (by decide), fun _ => ⟨fun _ => ⟨r0, 36, r1, c0, 37, c1, r0, 43, r3, s43, i0, fun q => absurd rfl q, fun _ => ⟨r0, 43, r3, s43, i1, ?_⟩⟩, fun q => absurd rfl q⟩⟩
    rw [f0, f1]
    have v0 : vp_in (nI (x 0)) 6 := vp_in_nI (by omega) (by decide)
    refine vX5_tell_90 hA ⟨sh_k c6, by rw [show ax_s h 37 = (11, 6) from c6]; exact v0, r0, 36, r1, c0, 38, c2, r0, 43, r3, s43, i0, r0, sh_k c7, ?_, ?_⟩
    · rw [nI_clamp (by omega), ai_ne (by omega), f0]
      show vp_in (nI (x 0)) (ax_s h 38).2
      rw [show ax_s h 38 = (11, 6) from c7]; exact v0
    rw [nI_clamp (by omega), ai_ne (h := h) (a := 37) (b := 43) (by omega), f0, nI_clamp (by omega), ai_ne (h := h) (a := 37) (b := 35) (by omega), e10 (Or.inl rfl)]
    have sm : ax_same (fun b => 36 ≤ b ∧ b ≤ 41) h (ax_pi (ax_pi h 37 (x 0) (nI (x 1))) 38 (x 0) (nI md)) := sm_tr (sm_pi ⟨by decide, by decide⟩) (sm_pi ⟨by decide, by decide⟩)
    obtain ⟨k1, k2, k3⟩ := keep sm
    refine hq _ (sm_mono sm (fun b hb => by unfold re_F; omega)) (fun k _ _ => k2 k) ⟨k1, by rw [k2]; exact d2, by rw [k2]; exact d3, ⟨by rw [ai_ne (by omega), ai_ne (by omega)]; exact x1, by rw [ai_ne (by omega), ai_ne (by omega)]; exact x2, fun k hk => ?_, fun k hk => ?_, fun p hp => by rw [ai_ne (by omega), ai_ne (by omega)]; exact x5 p hp, fun p q hp hq => by rw [ai_ne (by omega), ai_ne (by omega)]; exact x6 p q hp hq, fun p q hp hq => by rw [ai_ne (by omega), ai_ne (by omega)]; exact x7 p q hp hq⟩, k3⟩
    · rw [ai_ne (by omega)]
      show _ = (if k = x 0 then nI (x 1) else dwo (l_D st) k)
      by_cases e : k = x 0
      · rw [if_pos e, e, ai_eq]
      · rw [if_neg e, ai_ne (by omega)]; exact x3 k hk
    · show _ = (if k = x 0 then nI md else dmo (l_D st) k)
      by_cases e : k = x 0
      · rw [if_pos e, e, ai_eq]
      · rw [if_neg e, ai_ne (by omega), ai_ne (by omega)]; exact x4 k hk
  · have b0 : x 0 ≤ 5 := (lbad_f (bad 0 (by decide))).2.1
    have f0 : ax_i h 43 0 = nI (x 0) := e43 0 (by decide)
    have f1 : ax_i h 43 1 = nI (x 1) := e43 1 (by decide)
    refine vX5_tell_0 hA ⟨fun q => absurd q (by decide), fun _ => ⟨fun q => absurd q (by decide), fun _ => ⟨fun _ => ⟨r0, 36, r1, c0, 37, c1, r0, 43, r3, s43, i0, fun _ => ⟨r0, 43, r3, s43, i1, ?_⟩, fun q => absurd q (by decide)⟩, fun q => absurd rfl q⟩⟩⟩
    rw [f0, f1]
    have v0 : vp_in (nI (x 0)) 6 := vp_in_nI (by omega) (by decide)
    refine vX5_tell_90 hA ⟨sh_k c6, by rw [show ax_s h 37 = (11, 6) from c6]; exact v0, r0, 36, r1, c0, 38, c2, r0, 43, r3, s43, i0, r0, sh_k c7, ?_, ?_⟩
    · rw [nI_clamp (by omega), ai_ne (by omega), f0]
      show vp_in (nI (x 0)) (ax_s h 38).2
      rw [show ax_s h 38 = (11, 6) from c7]; exact v0
    rw [nI_clamp (by omega), ai_ne (h := h) (a := 37) (b := 43) (by omega), f0, nI_clamp (by omega), ai_ne (h := h) (a := 37) (b := 35) (by omega), e10 (Or.inr rfl)]
    have sm : ax_same (fun b => 36 ≤ b ∧ b ≤ 41) h (ax_pi (ax_pi h 37 (x 0) (-(nI (x 1)))) 38 (x 0) (nI md)) := sm_tr (sm_pi ⟨by decide, by decide⟩) (sm_pi ⟨by decide, by decide⟩)
    obtain ⟨k1, k2, k3⟩ := keep sm
    refine hq _ (sm_mono sm (fun b hb => by unfold re_F; omega)) (fun k _ _ => k2 k) ⟨k1, by rw [k2]; exact d2, by rw [k2]; exact d3, ⟨by rw [ai_ne (by omega), ai_ne (by omega)]; exact x1, by rw [ai_ne (by omega), ai_ne (by omega)]; exact x2, fun k hk => ?_, fun k hk => ?_, fun p hp => by rw [ai_ne (by omega), ai_ne (by omega)]; exact x5 p hp, fun p q hp hq => by rw [ai_ne (by omega), ai_ne (by omega)]; exact x6 p q hp hq, fun p q hp hq => by rw [ai_ne (by omega), ai_ne (by omega)]; exact x7 p q hp hq⟩, k3⟩
    · rw [ai_ne (by omega)]
      show _ = (if k = x 0 then -(nI (x 1)) else dwo (l_D st) k)
      by_cases e : k = x 0
      · rw [if_pos e, e, ai_eq]
      · rw [if_neg e, ai_ne (by omega)]; exact x3 k hk
    · show _ = (if k = x 0 then nI md else dmo (l_D st) k)
      by_cases e : k = x 0
      · rw [if_pos e, e, ai_eq]
      · rw [if_neg e, ai_ne (by omega), ai_ne (by omega)]; exact x4 k hk
  · have hp : dP (l_D st) < 6 := by have := of_decide_eq_false too; omega
    have f6 : ax_i h 36 6 = nI (dP (l_D st)) := x2
    refine vX5_tell_0 hA ⟨fun q => absurd q (by decide), fun _ => ⟨fun q => absurd q (by decide), fun _ => ⟨fun q => absurd q (by decide), fun _ => ⟨fun _ => ⟨r0, 36, r1, c0, fun q => ?_, fun _ => ⟨r0, 36, r1, c0, 39, c3, r0, 36, r1, c0, r0, 43, r3, s43, i0, sh_k c8, ?_, r0, 36, r1, rfl, c0, c0, ?_⟩⟩, fun q => absurd rfl q⟩⟩⟩⟩
    · rw [f6] at q; exact absurd q (nI_ge (a := dP (l_D st)) (b := 6) hp (by decide))
    · rw [f6, show ax_s h 39 = (11, 6) from c8]; exact vp_in_nI hp (by decide)
    rw [f6, nI_clamp (by omega), e43 0 (by decide), ai_ne (h := h) (a := 39) (b := 36) (by omega), f6, ← nI_succ]
    have sm : ax_same (fun b => 36 ≤ b ∧ b ≤ 41) h (ax_pi (ax_pi h 39 (dP (l_D st)) (nI (x 0))) 36 6 (nI (dP (l_D st) + 1))) := sm_tr (sm_pi ⟨by decide, by decide⟩) (sm_pi ⟨by decide, by decide⟩)
    obtain ⟨k1, k2, k3⟩ := keep sm
    refine hq _ (sm_mono sm (fun b hb => by unfold re_F; omega)) (fun k _ _ => k2 k) ⟨k1, by rw [k2]; exact d2, by rw [k2]; exact d3, ⟨by rw [ai_ne (by omega), ai_ne (by omega)]; exact x1, ai_eq, fun k hk => by rw [ai_ne (by omega), ai_ne (by omega)]; exact x3 k hk, fun k hk => by rw [ai_ne (by omega), ai_ne (by omega)]; exact x4 k hk, fun p hp' => ?_, fun p q hp hq => by rw [ai_ne (by omega), ai_ne (by omega)]; exact x6 p q hp hq, fun p q hp hq => by rw [ai_ne (by omega), ai_ne (by omega)]; exact x7 p q hp hq⟩, k3⟩
    rw [ai_ne (by omega)]
    show _ = (if p = dP (l_D st) then nI (x 0) else dpu (l_D st) p)
    by_cases e : p = dP (l_D st)
    · rw [if_pos e, e, ai_eq]
    · rw [if_neg e, ai_ne (by omega)]
      have hp' : p < dP (l_D st) + 1 := hp'
      exact x5 p (by omega)
  · have h0 : x 0 ≤ 5 := (lbad_f (bad 0 (by decide))).2.1
    have h1 : x 1 ≤ 11 := (lbad_f (bad 1 (by decide))).2.1
    have fin : A (183, [some (.ref 35), some (.int (nI 4)), none], [.ref 40], h, 0, 0) := by
      refine one 40 _ _ c9 (by omega) h0 h1 rfl ?_
      have sm : ax_same (fun b => b = 35 ∨ b = 40) h (ax_pi (ax_pi (ax_pi h 40 (x 0 * 12 + x 1) (nI (x 2))) 35 13 (mx (l_o st) (nI (x 0)))) 35 12 (mx (l_h st) (nI (x 1)))) := sm_tr (sm_tr (sm_pi (Or.inr rfl)) (sm_pi (Or.inl rfl))) (sm_pi (Or.inl rfl))
      have gg : ag (fun b => b ≠ 35 ∧ b ≠ 40) h (ax_pi (ax_pi (ax_pi h 40 (x 0 * 12 + x 1) (nI (x 2))) 35 13 (mx (l_o st) (nI (x 0)))) 35 12 (mx (l_h st) (nI (x 1)))) := ag_same sm (fun b hb => by omega)
      refine hq _ (sm_mono sm (fun b hb => by unfold re_F; omega)) (fun k k1 k2 => by rw [ai_ne (by omega), ai_ne (by omega), ai_ne (by omega)]) ⟨re_st_same sm (fun q _ _ => by omega) d1, ai_eq, by rw [ai_ne (by omega), ai_eq]; rfl, ⟨by rw [(gg 36 (by omega)).2.1]; exact x1, by rw [(gg 36 (by omega)).2.1]; exact x2, fun k hk => by rw [(gg 37 (by omega)).2.1]; exact x3 k hk, fun k hk => by rw [(gg 38 (by omega)).2.1]; exact x4 k hk, fun p hp => by rw [(gg 39 (by omega)).2.1]; exact x5 p hp, ?_, ?_⟩, fun s1 => li_at_ag gg (by omega) (d5 s1)⟩
      · intro p q hp hq
        rw [ai_ne (by omega), ai_ne (by omega)]
        show _ = (if p = x 0 ∧ q = x 1 then nI (x 2) else dde (l_D st) p q)
        by_cases e : p = x 0 ∧ q = x 1
        · rw [if_pos e, e.1, e.2, ai_eq]
        · rw [if_neg e, ai_ne (by omega)]; exact x6 p q hp hq
      · exact fun p q hp hq => by rw [(gg 41 (by omega)).2.1]; exact x7 p q hp hq
    exact vX5_tell_0 hA ⟨fun q => absurd q (by decide), fun _ => ⟨fun q => absurd q (by decide), fun _ => ⟨fun q => absurd q (by decide), fun _ => ⟨fun q => absurd q (by decide), fun _ => ⟨fun _ => ⟨fun q => absurd rfl q, fun _ => ⟨r0, 36, r1, c0, 40, c4, fin⟩⟩, fun q => absurd rfl q⟩⟩⟩⟩⟩
  · have h0 : x 0 ≤ 5 := (lbad_f (bad 0 (by decide))).2.1
    have h1 : x 1 ≤ 11 := (lbad_f (bad 1 (by decide))).2.1
    have fin : A (183, [some (.ref 35), some (.int (nI 5)), none], [.ref 41], h, 0, 0) := by
      refine one 41 _ _ c10 (by omega) h0 h1 rfl ?_
      have sm : ax_same (fun b => b = 35 ∨ b = 41) h (ax_pi (ax_pi (ax_pi h 41 (x 0 * 12 + x 1) (nI (x 2))) 35 13 (mx (l_o st) (nI (x 0)))) 35 12 (mx (l_h st) (nI (x 1)))) := sm_tr (sm_tr (sm_pi (Or.inr rfl)) (sm_pi (Or.inl rfl))) (sm_pi (Or.inl rfl))
      have gg : ag (fun b => b ≠ 35 ∧ b ≠ 41) h (ax_pi (ax_pi (ax_pi h 41 (x 0 * 12 + x 1) (nI (x 2))) 35 13 (mx (l_o st) (nI (x 0)))) 35 12 (mx (l_h st) (nI (x 1)))) := ag_same sm (fun b hb => by omega)
      refine hq _ (sm_mono sm (fun b hb => by unfold re_F; omega)) (fun k k1 k2 => by rw [ai_ne (by omega), ai_ne (by omega), ai_ne (by omega)]) ⟨re_st_same sm (fun q _ _ => by omega) d1, ai_eq, by rw [ai_ne (by omega), ai_eq]; rfl, ⟨by rw [(gg 36 (by omega)).2.1]; exact x1, by rw [(gg 36 (by omega)).2.1]; exact x2, fun k hk => by rw [(gg 37 (by omega)).2.1]; exact x3 k hk, fun k hk => by rw [(gg 38 (by omega)).2.1]; exact x4 k hk, fun p hp => by rw [(gg 39 (by omega)).2.1]; exact x5 p hp, ?_, ?_⟩, fun s1 => li_at_ag gg (by omega) (d5 s1)⟩
      · exact fun p q hp hq => by rw [(gg 40 (by omega)).2.1]; exact x6 p q hp hq
      · intro p q hp hq
        rw [ai_ne (by omega), ai_ne (by omega)]
        show _ = (if p = x 0 ∧ q = x 1 then nI (x 2) else dlo (l_D st) p q)
        by_cases e : p = x 0 ∧ q = x 1
        · rw [if_pos e, e.1, e.2, ai_eq]
        · rw [if_neg e, ai_ne (by omega)]; exact x7 p q hp hq
    exact vX5_tell_0 hA ⟨fun q => absurd q (by decide), fun _ => ⟨fun q => absurd q (by decide), fun _ => ⟨fun q => absurd q (by decide), fun _ => ⟨fun q => absurd q (by decide), fun _ => ⟨fun q => absurd q (by decide), fun _ => ⟨fun _ => ⟨fun _ => ⟨r0, 36, r1, c0, 41, c5, fin⟩, fun q => absurd q (by decide)⟩, fun q => absurd rfl q⟩⟩⟩⟩⟩⟩
  · have e : l_tell v x md st = l_add v x st := by
      match v, v6 with
      | n + 6, _ => rfl
    rw [e] at hq
    have ne : ∀ k : Nat, k < 6 → ¬ nI v = nI k := fun k hk q => by have := (nI_eq (by omega) (by omega)).mp q; omega
    exact vX5_tell_0 hA ⟨fun q => absurd q (ne 0 (by decide)), fun _ => ⟨fun q => absurd q (ne 1 (by decide)), fun _ => ⟨fun q => absurd q (ne 2 (by decide)), fun _ => ⟨fun q => absurd q (ne 3 (by decide)), fun _ => ⟨fun q => absurd q (ne 4 (by decide)), fun _ => ⟨fun q => absurd q (ne 5 (by decide)), fun _ => ⟨r0, c_tellLine d v6 hv hs e43 too (fun h' sm e35 dr => ⟨rfl, hq h' sm (fun k _ _ => e35 k) dr⟩)⟩⟩⟩⟩⟩⟩⟩
end
