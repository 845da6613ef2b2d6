section
variable {g : ax_G} {Ret : Option Value → ax_H → Prop} {h : ax_H} {T : Nat → Int32} {n a s : Nat} {st : lS}
/-! the class's reader, line by line -/
def ps (T : Nat → Int32) (n a : Nat) : Nat → Nat
  | 0 => a
  | i + 1 => tkb T n (ps T n a i)
theorem ps_le (ha : a ≤ n) : ∀ i, a ≤ ps T n a i ∧ ps T n a i ≤ n
  | 0 => ⟨Nat.le_refl _, ha⟩
  | i + 1 => by
    obtain ⟨h1, h2⟩ := ps_le ha i
    obtain ⟨b1, b2, b3, -⟩ := tk_bd (T := T) h2
    exact ⟨by show a ≤ tkb T n (ps T n a i); omega, b3⟩
def rF_at (h : ax_H) (r : Nat) (D : rD) : Prop := ax_i h r 5 = nI (dH D) ∧ ax_i h r 6 = nI (dP D) ∧ (∀ k, k < 6 → ax_i h (r + 1) k = dwo D k) ∧ (∀ k, k < 6 → ax_i h (r + 2) k = dmo D k) ∧ (∀ p, p < dP D → ax_i h (r + 3) p = dpu D p) ∧ (∀ p q, p < 6 → q < 12 → ax_i h (r + 4) (p * 12 + q) = dde D p q) ∧ ∀ p q, p < 6 → q < 12 → ax_i h (r + 5) (p * 12 + q) = dlo D p q
theorem rF_ag {P : Nat → Prop} {h' : ax_H} {r : Nat} {D : rD} (e : ag P h h') (i : ∀ j, j < 6 → P (r + j)) (x : rF_at h r D) : rF_at h' r D := by
  have e0 := (e r (i 0 (by decide))).2.1
  obtain ⟨x1, x2, x3, x4, x5, x6, x7⟩ := x
  exact ⟨by rw [e0]; exact x1, by rw [e0]; exact x2, fun k hk => by rw [(e _ (i 1 (by decide))).2.1]; exact x3 k hk, fun k hk => by rw [(e _ (i 2 (by decide))).2.1]; exact x4 k hk, fun p hp => by rw [(e _ (i 3 (by decide))).2.1]; exact x5 p hp, fun p q hp hq => by rw [(e _ (i 4 (by decide))).2.1]; exact x6 p q hp hq, fun p q hp hq => by rw [(e _ (i 5 (by decide))).2.1]; exact x7 p q hp hq⟩
def fp_at (h : ax_H) (fp : Nat × Nat) : Prop := ax_i h 35 4 = nI fp.1 ∧ ax_i h 35 5 = (if fp.1 = 0 then -1 else nI fp.2)
/-- the draft without its fault -/
def dr_at (h : ax_H) (s : Nat) (st : lS) : Prop := re_st h 35 2 ∧ ax_i h 35 12 = l_h st ∧ ax_i h 35 13 = l_o st ∧ rF_at h 36 (l_D st) ∧ (1 ≤ s → li_at h (42 + 2 * s) s (l_N st) (l_C st))
def cs_at (h : ax_H) (s : Nat) (st : lS) : Prop := dr_at h s st ∧ fp_at h (l_f st, l_p st)
/-- what stays while a line is read: all but tokens, numbers, mode (6 .. 10) and J -/
def rg (J : Nat → Prop) (h h' : ax_H) : Prop := ax_same (fun b => b = 35 ∨ b = 43) h h' ∧ ∀ k, ¬ (6 ≤ k ∧ k ≤ 10) → ¬ J k → ax_i h' 35 k = ax_i h 35 k
theorem rg_rf {J : Nat → Prop} : rg J h h := ⟨sm_rf, fun _ _ _ => rfl⟩
theorem rg_tr {J : Nat → Prop} {h1 h2 : ax_H} (x : rg J h h1) (y : rg J h1 h2) : rg J h h2 := ⟨sm_tr x.1 y.1, fun k hk hj => (y.2 k hk hj).trans (x.2 k hk hj)⟩
theorem rg_of {J J' : Nat → Prop} {h1 : ax_H} (x : rf J h h1) (i : ∀ k, J k → (6 ≤ k ∧ k ≤ 10) ∨ J' k) : rg J' h h1 := ⟨sm_mono x.1 (fun b hb => Or.inl hb), fun k hk hj => x.2 k (fun q => (i k q).elim hk hj)⟩
theorem rg_mono {J J' : Nat → Prop} {h1 : ax_H} (x : rg J h h1) (i : ∀ k, J k → J' k) : rg J' h h1 := ⟨x.1, fun k hk hj => x.2 k hk (fun q => hj (i k q))⟩
theorem rg_43 {J : Nat → Prop} {k : Nat} {v : Int32} : rg J h (ax_pi h 43 k v) := ⟨sm_pi (Or.inr rfl), fun j _ _ => ai_ne (Or.inl (by decide))⟩
theorem rg_tp {J : Nat → Prop} {h1 : ax_H} (x : rg J h h1) (t : tp_at h T) : tp_at h1 T := tp_same x.1 (by omega) t
theorem dr_rg {J : Nat → Prop} {h1 : ax_H} (x : rg J h h1) (i : ¬ J 12 ∧ ¬ J 13) (d : dr_at h s st) : dr_at h1 s st := by
  obtain ⟨d1, d2, d3, d4, d5⟩ := d
  have gg : ag (fun b => b ≠ 35 ∧ b ≠ 43) h h1 := ag_same x.1 (fun b hb => by omega)
  exact ⟨re_st_same x.1 (fun q _ _ => by omega) d1, by rw [x.2 12 (by omega) i.1]; exact d2, by rw [x.2 13 (by omega) i.2]; exact d3, rF_ag gg (fun j hj => by omega) d4, fun s1 => li_at_ag gg (by omega) (d5 s1)⟩
theorem fp_rg {J : Nat → Prop} {h1 : ax_H} {fp : Nat × Nat} (x : rg J h h1) (i : ¬ J 4 ∧ ¬ J 5) (d : fp_at h fp) : fp_at h1 fp := ⟨by rw [x.2 4 (by omega) i.1]; exact d.1, by rw [x.2 5 (by omega) i.2]; exact d.2⟩
theorem c_note {fp : Nat × Nat} {w q : Nat} (r0 : (ax_s h 35).1 = 5) (f : fp_at h fp) (hf : fp.1 < 2 ^ 31) (hw : w ≠ 0) (hq : ∀ h', rf (fun k => k = 4 ∨ k = 5) h h' → fp_at h' (nt fp true w q) → Ret none h') : mX5_note g [.ref 35, .int (nI w), .int (nI q)] h Ret := by
  unfold nt at hq
  refine eX5_note ⟨r0, fun z => ?_, fun z => ⟨r0, r0, ?_⟩⟩
  · rw [if_neg (fun y => z (by rw [f.1, y.1]; rfl))] at hq
    exact hq h rf_rf f
  · have z0 : fp.1 = 0 := (nI_eq (b := 0) hf (by decide)).mp (by rw [← f.1]; exact z)
    rw [if_pos ⟨z0, rfl⟩] at hq
    refine hq _ (rf_tr (rf_pi (Or.inl rfl)) (rf_pi (Or.inr rfl))) ⟨by rw [ai_ne (by omega), ai_eq], ?_⟩
    rw [ai_eq, if_neg hw]
/-- the verb of the token at place a -/
def vbr (T : Nat → Int32) (n s a : Nat) : Nat → Nat → Option Nat
  | 0, _ => none
  | k + 1, v => if lvs v = s ∧ tw T n a (v + 3) = true then some v else vbr T n s a k (v + 1)
def vb (T : Nat → Int32) (n s a : Nat) : Option Nat := vbr T n s a 11 0
theorem vbr_some : ∀ {k v w : Nat}, vbr T n s a k v = some w → v ≤ w ∧ w < v + k ∧ lvs w = s ∧ tw T n a (w + 3) = true
  | 0, v, w, e => by cases e
  | k + 1, v, w, e => by
    unfold vbr at e
    by_cases z : lvs v = s ∧ tw T n a (v + 3) = true
    · rw [if_pos z] at e; cases e; exact ⟨Nat.le_refl _, by omega, z⟩
    · rw [if_neg z] at e
      obtain ⟨h1, h2, h3⟩ := vbr_some e
      exact ⟨by omega, by omega, h3⟩
theorem vbr_none : ∀ {k v : Nat}, vbr T n s a k v = none → ∀ w, v ≤ w → w < v + k → lvs w = s → tw T n a (w + 3) = false
  | 0, v, e => fun w h1 h2 => by omega
  | k + 1, v, e => fun w h1 h2 hs => by
    unfold vbr at e
    by_cases z : lvs v = s ∧ tw T n a (v + 3) = true
    · rw [if_pos z] at e; cases e
    · rw [if_neg z] at e
      by_cases ev : w = v
      · subst ev
        cases ht : tw T n a (w + 3) with
        | false => rfl
        | true => exact absurd ⟨hs, ht⟩ z
      · exact vbr_none e w (by omega) (by omega) hs
theorem tab_vs : ∀ v, v < 11 → List.getD (α := Int32) [0, 0, 0, 0, 0, 0, 1, 2, 3, 4, 4] v 0 = nI (lvs v) ∧ lvs v < 5 := by decide
theorem tab_nu : ∀ v, v < 11 → List.getD (α := Int32) [1, 2, 2, 1, 3, 3, 1, 3, 2, 3, 3] v 0 = nI (lnu v) ∧ 1 ≤ lnu v ∧ lnu v ≤ 3 := by decide
theorem tab_lo : ∀ v, v < 11 → ∀ i, i < 3 → List.getD (α := Int32) [2, 0, 0, 0, 0, 0, 0, 0, 0, 0, 0, 0, 0, 0, 0, 0, 0, 0, 0, 0, 0, 0, 0, 0, 0, 1, 0, 1, 0, 0, 1, 0, 0] (v * 3 + i) 0 = nI (llo v i) ∧ llo v i < 3 := by decide
theorem tab_hi : ∀ v, v < 11 → ∀ i, i < 3 → List.getD (α := Int32) [12, 0, 0, 5, 99, 0, 5, 99, 0, 999, 0, 0, 5, 11, 5, 5, 11, 9, 11, 0, 0, 5, 11, 11, 11, 9, 0, 3, 5, 999, 3, 5, 999] (v * 3 + i) 0 = nI (lhi v i) ∧ lhi v i < 1000 := by decide
theorem c_wordOf {v : Nat} (hv : v < 11) (hq : Ret (some (.ref (1000100 + (v + 3)))) h) : mX5_wordOf g [.int (nI v)] h Ret := by
  refine eX5_wordOf ⟨fun q => ?_, fun q => ⟨fun q1 => ?_, fun q1 => ⟨fun q2 => ?_, fun q2 => ⟨fun q3 => ?_, fun q3 => ⟨fun q4 => ?_, fun q4 => ⟨fun q5 => ?_, fun q5 => ⟨fun q6 => ?_, fun q6 => ⟨fun q7 => ?_, fun q7 => ⟨fun q8 => ?_, fun q8 => ⟨fun q9 => ?_, fun q9 => ?_⟩⟩⟩⟩⟩⟩⟩⟩⟩⟩
  · rw [(nI_eq (b := 0) (by omega) (by decide)).mp q] at hq; exact hq
  · rw [(nI_eq (b := 1) (by omega) (by decide)).mp q1] at hq; exact hq
  · rw [(nI_eq (b := 2) (by omega) (by decide)).mp q2] at hq; exact hq
  · rw [(nI_eq (b := 3) (by omega) (by decide)).mp q3] at hq; exact hq
  · rw [(nI_eq (b := 4) (by omega) (by decide)).mp q4] at hq; exact hq
  · rw [(nI_eq (b := 5) (by omega) (by decide)).mp q5] at hq; exact hq
  · rw [(nI_eq (b := 6) (by omega) (by decide)).mp q6] at hq; exact hq
  · rw [(nI_eq (b := 7) (by omega) (by decide)).mp q7] at hq; exact hq
  · rw [(nI_eq (b := 8) (by omega) (by decide)).mp q8] at hq; exact hq
  · rw [(nI_eq (b := 9) (by omega) (by decide)).mp q9] at hq; exact hq
  · have e : v = 10 := by
      have f : ∀ k : Nat, k < 10 → v ≠ k := by
        intro k hk e
        subst e
        rcases (by omega : v = 0 ∨ v = 1 ∨ v = 2 ∨ v = 3 ∨ v = 4 ∨ v = 5 ∨ v = 6 ∨ v = 7 ∨ v = 8 ∨ v = 9) with rfl | rfl | rfl | rfl | rfl | rfl | rfl | rfl | rfl | rfl
        · exact q rfl
        · exact q1 rfl
        · exact q2 rfl
        · exact q3 rfl
        · exact q4 rfl
        · exact q5 rfl
        · exact q6 rfl
        · exact q7 rfl
        · exact q8 rfl
        · exact q9 rfl
      have := f 0 (by decide); have := f 1 (by decide); have := f 2 (by decide); have := f 3 (by decide); have := f 4 (by decide); have := f 5 (by decide); have := f 6 (by decide); have := f 7 (by decide); have := f 8 (by decide); have := f 9 (by decide)
      omega
    rw [e] at hq; exact hq
/-- the token read last is that at place a -/
def tk_at (h : ax_H) (T : Nat → Int32) (n a : Nat) : Prop := ax_i h 35 11 = nI n ∧ ax_i h 35 6 = nI (tkk T n a) ∧ ax_i h 35 7 = nI (tks T n a) ∧ ax_i h 35 8 = nI (tkb T n a) ∧ (tkk T n a = 2 → ax_i h 35 9 = nI (tkn T n a))
theorem c_verbOf (t : tp_at h T) (hn : n ≤ 600) (ha : a ≤ n) (hs : s < 5) (k : tk_at h T n a) (h0 : vb T n s a = none → Ret (some (.int (-1))) h) (h1 : ∀ v, vb T n s a = some v → Ret (some (.int (nI v))) h) : mX5_verbOf g [.ref 35, .int (nI s)] h Ret := by
  refine uX5_verbOf (fun A hA => vX5_verbOf_0 hA ?_)
  have key : ∀ m v : Nat, v + m = 11 → vbr T n s a m v = vb T n s a → A (2, [some (.ref 35), some (.int (nI s)), some (.int (nI v))], [], h, 0, 0) := by
    intro m
    induction m with
    | zero =>
      intro v hv e
      obtain rfl : v = 11 := by omega
      exact vX5_verbOf_2 hA ⟨fun _ => h0 e.symm, fun q => absurd (by decide) q⟩
    | succ m ih =>
      intro v hv e
      obtain ⟨ev, ev5⟩ := tab_vs v (by omega)
      refine vX5_verbOf_2 hA ⟨fun q => absurd q (nI_ge (a := v) (b := 11) (by omega) (by decide)), fun _ => ⟨rfl, vp_in_nI (N := 11) (by omega) (by decide), ?_⟩⟩
      dsimp only
      rw [nI_clamp (by omega), ev, ← nI_succ]
      unfold vbr at e
      refine ⟨fun q => ih (v + 1) (by omega) ?_, fun q => c_wordOf (by omega) (Or.inl ⟨_, rfl, t.1, c_isWord t hn ha (by omega) k.2.1 k.2.2.1 k.2.2.2.1 ⟨_, rfl, fun q2 => ih (v + 1) (by omega) ?_, fun q2 => h1 v ?_⟩⟩)⟩
      · rw [if_neg (fun z => q (by rw [z.1]))] at e; exact e
      · rw [if_neg (fun z => by rw [b2i_0.mp q2] at z; exact absurd z.2 (by decide))] at e; exact e
      · rw [if_pos ⟨(nI_eq (by omega) (by omega)).mp q, b2i_n0.mp q2⟩] at e; exact e.symm
  exact key 11 0 (by omega) rfl
theorem c_isFull {l : Nat} (h1s : 1 ≤ s) (h5s : s < 5) {N : Nat} {C : Nat → Nat → Int32} (hL : li_at h l s N C) (hq : Ret (some (.int (b2i (decide (lm s ≤ N))))) h) : mX2_isFull g [.ref l] h Ret := by
  have e0 : ax_i h l 0 = nI (lm s) := hL.1.2.2.1
  have e3 : ax_i h l 3 = nI N := hL.2.2.1
  have := lm_lw h1s h5s
  have nb := hL.2.1
  refine eX2_isFull ⟨hL.1.1, hL.1.1, fun q => ⟨Or.inl rfl, ?_⟩, fun q => ⟨Or.inr rfl, ?_⟩⟩
  · rw [e0, e3] at q
    have q := (nI_ltI (by omega) (by omega)).mp q
    rw [decide_eq_false (by omega)] at hq; exact hq
  · rw [e0, e3] at q
    rw [decide_eq_true (Nat.not_lt.mp (fun z => q (nI_lt z (by omega))))] at hq; exact hq
theorem c_tooMany {v : Nat} (d : dr_at h s st) (ok : okL s st) (hv : v < 11) (hs : lvs v = s) (hq : Ret (some (.int (b2i (ltoo v st)))) h) : mX5_isOneTooMany g [.ref 35, .int (nI v)] h Ret := by
  obtain ⟨ev, ev5⟩ := tab_vs v hv
  obtain ⟨d1, d2, d3, d4, d5⟩ := id d
  unfold ltoo at hq
  refine eX5_isOneTooMany ⟨fun q => ⟨rfl, vp_in_nI (N := 11) hv (by decide), ?_⟩, fun q => ⟨d1.1, 36, d1.2.1.2.1, d1.2.2.1.1, fun q2 => ⟨Or.inl rfl, ?_⟩, fun q2 => ⟨Or.inr rfl, ?_⟩⟩⟩
  · dsimp only
    rw [nI_clamp (by omega), ev, hs]
    rw [if_neg (fun z => q (by rw [z]; rfl)), hs] at hq
    refine ⟨d1.1, c_draftOf d1 (by omega) (fun z => Or.inr ⟨rfl, Or.inl rfl, ?_⟩) (fun z => Or.inl ⟨_, rfl, (d5 z).1.1, c_isFull z (by omega) (d5 z) ⟨_, rfl, fun q2 => ⟨Or.inl rfl, ?_⟩, fun q2 => ⟨Or.inr rfl, ?_⟩⟩⟩)⟩
    · rw [if_pos z] at hq; exact hq
    · rw [if_neg (by omega), b2i_0.mp q2] at hq; exact hq
    · rw [if_neg (by omega), b2i_n0.mp q2] at hq; exact hq
  · have e : v = 3 := (nI_eq (b := 3) (by omega) (by decide)).mp q
    rw [show ax_i h 36 6 = nI (dP (l_D st)) from d4.2.1] at q2
    have q2 := (nI_ltI (a := dP (l_D st)) (b := 6) (by have := ok.1.2.1; omega) (by decide)).mp q2
    rw [if_pos e, decide_eq_false (by omega)] at hq; exact hq
  · have e : v = 3 := (nI_eq (b := 3) (by omega) (by decide)).mp q
    rw [show ax_i h 36 6 = nI (dP (l_D st)) from d4.2.1] at q2
    rw [if_pos e, decide_eq_true (Nat.not_lt.mp (fun z => q2 (nI_lt (a := dP (l_D st)) (b := 6) z (by decide))))] at hq; exact hq
theorem c_checkNumber {v i : Nat} {x : Nat → Nat} {fp : Nat × Nat} {q : Nat} (d : dr_at h s st) (f : fp_at h fp) (hf : fp.1 < 2 ^ 31) (hv : v < 11) (hi : i < 3) (hx : ∀ j, x j ≤ 999) (e9 : ax_i h 35 9 = nI (x i)) (e7 : ax_i h 35 7 = nI q) (e1 : i = 2 → ax_i h 43 1 = nI (x 1)) (hq : ∀ h', rf (fun k => k = 4 ∨ k = 5) h h' → fp_at h' (nt fp (lbad v x i) 2 q) → Ret none h') : mX5_checkNumber g [.ref 35, .int (nI v), .int (nI i)] h Ret := by
  obtain ⟨l1, l2⟩ := tab_lo v hv i hi
  obtain ⟨u1, u2⟩ := tab_hi v hv i hi
  obtain ⟨r0, ⟨-, -, -, r3⟩, -, -, r43, -, -⟩ := d.1
  have ei : nI v * 3 + nI i = nI (v * 3 + i) := by rw [show (3 : Int32) = nI 3 from rfl, pk_mul, nI_add]
  have hxi := hx i
  have hx1 := hx 1
  have bad : lbad v x i = true → ∀ h2 : ax_H, h2 = h → mX5_note g [.ref 35, .int 2, .int (nI q)] h2 (fun v3 h2 => v3 = none ∧ Ret none h2) := by
    intro b h2 e
    subst e
    refine c_note (w := 2) r0 f hf (by decide) (fun h' r' f' => ⟨rfl, hq h' r' ?_⟩)
    rw [b]; exact f'
  have good : lbad v x i = false → Ret none h := by
    intro b
    refine hq h rf_rf ?_
    rw [b]
    unfold nt
    rw [if_neg (fun z => absurd z.2 (by decide))]
    exact f
  refine eX5_checkNumber ⟨r0, rfl, by rw [ei]; exact vp_in_nI (N := 33) (by omega) (by decide), ?_⟩
  dsimp only
  rw [ei, nI_clamp (by omega), l1, e9, e7]
  refine ⟨fun z => ⟨fun _ => ⟨r0, r0, bad (decide_eq_true (Or.inl ((nI_ltI (by omega) (by omega)).mp z))) _ rfl⟩, fun y => absurd rfl y⟩, fun z => ⟨r0, rfl, vp_in_nI (N := 33) (by omega) (by decide), ?_⟩⟩
  have z := Nat.not_lt.mp (fun y => z (nI_lt (a := x i) (b := llo v i) y (by omega)))
  rw [u1]
  refine ⟨fun y => ⟨fun _ => ⟨r0, r0, bad (decide_eq_true (Or.inr (Or.inl ((nI_ltI (by omega) (by omega)).mp y)))) _ rfl⟩, fun y => absurd rfl y⟩, fun y => ⟨fun w => absurd w (by decide), fun _ => ⟨fun w => good ?_, fun w => ⟨fun w2 => good ?_, fun w2 => ⟨r0, r0, 43, r3, sh_k r43, ?_, ?_⟩⟩⟩⟩⟩
  · have y := Nat.not_lt.mp (fun w => y (nI_lt (a := lhi v i) (b := x i) w (by omega)))
    exact decide_eq_false (fun o => o.elim (fun p => by omega) (fun p => p.elim (fun p => by omega) (fun p => w (by rw [p.1]; rfl))))
  · have y := Nat.not_lt.mp (fun w => y (nI_lt (a := lhi v i) (b := x i) w (by omega)))
    exact decide_eq_false (fun o => o.elim (fun p => by omega) (fun p => p.elim (fun p => by omega) (fun p => w2 (by rw [p.2.1]; rfl))))
  · rw [show ax_s h 43 = (11, 3) from r43]; exact vp_in_nI (n := 1) (N := 3) (by decide) (by decide)
  · have y := Nat.not_lt.mp (fun w => y (nI_lt (a := lhi v i) (b := x i) w (by omega)))
    have v7 : v = 7 := (nI_eq (b := 7) (by omega) (by decide)).mp w
    have i2 : i = 2 := (nI_eq (b := 2) (by omega) (by decide)).mp w2
    rw [e1 i2]
    refine ⟨fun o => good ?_, fun o => ⟨r0, r0, bad ?_ _ rfl⟩⟩
    · have o := (nI_leI (by omega) (by omega)).mp o
      subst i2
      exact decide_eq_false (fun o => by omega)
    · have o := Nat.not_le.mp (fun c => o (nI_le (a := x 1) (b := x i) c (by omega)))
      subst i2
      exact decide_eq_true (Or.inr (Or.inr ⟨v7, rfl, o⟩))
end
