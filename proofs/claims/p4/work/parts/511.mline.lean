section
variable {g : ax_G} {Ret : Option Value → ax_H → Prop} {h : ax_H} {T : Nat → Int32} {n a s v : Nat} {st : lS}
/-- a line up to its semicolon -/
def lpx (T : Nat → Int32) (n s a : Nat) : Nat ⊕ (Nat × Nat) := match vb T n s a with
  | none => .inl (tks T n a)
  | some v => match nf T n a (lnu v) 0 with
    | some i => .inl (tks T n (ps T n a i))
    | none => if v = 1 ∨ v = 2 then (match mdw T n (ps T n a (lnu v + 1)) with
        | none => .inl (tks T n (ps T n a (lnu v + 1)))
        | some m => .inr (v, m))
      else .inr (v, 0)
theorem lsx_lpx : lsx T n s a = match lpx T n s a with
    | .inl p => .inl p
    | .inr (v, md) => if tkk T n (ps T n a (l_m v)) = 3 then .inr (v, md) else .inl (tks T n (ps T n a (l_m v))) := by
  unfold lsx lpx
  cases vb T n s a with
  | none => rfl
  | some v =>
    dsimp only
    cases nf T n a (lnu v) 0 with
    | some i => rfl
    | none =>
      dsimp only
      by_cases z : v = 1 ∨ v = 2
      · rw [if_pos z, if_pos z]
        cases mdw T n (ps T n a (lnu v + 1)) with
        | none => rfl
        | some m =>
          dsimp only
          unfold l_m
          rw [if_pos z]
      · rw [if_neg z, if_neg z]
        dsimp only
        unfold l_m
        rw [if_neg z]
/-! what the reference has told -/
def fq_at (h : ax_H) (D : rD) : Prop := ax_i h 88 0 = nI (dH D) ∧ ax_i h 88 1 = nI (dP D) ∧ (∀ p, p < dP D → ax_i h 88 (2 + p) = dpu D p) ∧ (∀ k, k < 6 → ax_i h 88 (8 + k) = dwo D k) ∧ (∀ k, k < 6 → ax_i h 88 (14 + k) = dmo D k) ∧ (∀ p q, p < 6 → q < 12 → ax_i h 88 (20 + 12 * p + q) = dde D p q) ∧ ∀ p q, p < 6 → q < 12 → ax_i h 88 (92 + 12 * p + q) = dlo D p q
def tb_at (h : ax_H) (s : Nat) (st : lS) : Prop := (l_f st = 0 → ax_i h 77 22 = l_h st ∧ ax_i h 77 23 = l_o st ∧ (s = 0 → fq_at h (l_D st)) ∧ (1 ≤ s → rl_at h s (l_N st) (l_C st))) ∧ (l_f st ≠ 0 → (s = 0 → ∃ k, k ≤ 6 ∧ ax_i h 88 1 = nI k) ∧ (1 ≤ s → ∃ k, k ≤ lm s ∧ ax_i h 88 0 = nI k))
theorem tb_mg {J : Nat → Prop} {h1 : ax_H} (x : mg J h h1) (i : ¬ J 22 ∧ ¬ J 23) (t : tb_at h s st) : tb_at h1 s st := by
  have e88 : ∀ k, ax_i h1 88 k = ax_i h 88 k := (x.1.2.2.2 88 (by omega)).1
  unfold tb_at fq_at rl_at at *
  simp only [e88, x.2 22 (by omega) i.1, x.2 23 (by omega) i.2]
  exact t
theorem tb_n1 (h1s : 1 ≤ s) (t : tb_at h s st) : ∃ k, k ≤ lm s ∧ ax_i h 88 0 = nI k ∧ (l_f st = 0 → k = l_N st) := by
  by_cases z : l_f st = 0
  · obtain ⟨-, -, -, r⟩ := t.1 z
    exact ⟨l_N st, (r h1s).1, (r h1s).2.1, fun _ => rfl⟩
  · obtain ⟨k, h1, h2⟩ := (t.2 z).2 h1s
    exact ⟨k, h1, h2, fun w => absurd w z⟩
theorem tb_n0 (ok : okL 0 st) (t : tb_at h 0 st) : ∃ k, k ≤ 6 ∧ ax_i h 88 1 = nI k ∧ (l_f st = 0 → k = dP (l_D st)) := by
  by_cases z : l_f st = 0
  · obtain ⟨-, -, r, -⟩ := t.1 z
    exact ⟨dP (l_D st), ok.1.2.1, (r rfl).2.1, fun _ => rfl⟩
  · obtain ⟨k, h1, h2⟩ := (t.2 z).1 rfl
    exact ⟨k, h1, h2, fun w => absurd w z⟩
theorem c_full2 {cnt k most q : Nat} {fp : Nat × Nat} (m : mo_st h 77) (hc : cnt < 2) (hk : ax_i h 88 cnt = nI k) (km : k ≤ most) (mb : most ≤ 14) (f : lp_at h fp) (fl : fp.1 ≤ 4) (hq31 : q < 2 ^ 31) (pl : fp.1 ≠ 0 → fp.2 < q) (hq : ∀ h', mf (fun k => k = 18 ∨ k = 19) h h' → lp_at h' (nt fp (decide (k = most)) 3 q) → Ret none h') : mX10_full g [.ref 77, .int (nI cnt), .int (nI most), .int (nI q)] h Ret := by
  obtain ⟨r20, s20⟩ : ax_r h 77 20 = some 88 ∧ ax_s h 88 = (11, 164) := m.2 10 _ rfl
  refine eX10_full ⟨m.1, 88, r20, sh_k s20, by rw [s20]; exact vp_in_nI (by omega) (by decide), ?_⟩
  rw [nI_clamp (by omega), hk]
  refine ⟨fun z => hq h mf_rf ?_, fun z => ⟨m.1, ?_⟩⟩
  · rw [decide_eq_false (fun w => z (by rw [w])), nt_f]; exact f
  · have z := (nI_eq (by omega) (by omega)).mp z
    refine c_later (w := 3) m.1 f fl (by decide) hq31 pl (fun h' r' f' => ⟨rfl, hq h' r' ?_⟩)
    rw [decide_eq_true z]; exact f'
/-- the line is full, on both sides -/
theorem nt_too1 {k q0 : Nat} (h1s : 1 ≤ s) (hs : lvs v = s) (km : k ≤ lm s) (e : l_f st = 0 → k = l_N st) : nt (l_f st, l_p st) (decide (k = lm s)) 3 q0 = nt (l_f st, l_p st) (ltoo v st) 3 q0 := by
  by_cases z : l_f st = 0
  · have : ltoo v st = decide (k = lm s) := by
      unfold ltoo
      rw [if_neg (fun w => by rw [w] at hs; have : (0 : Nat) = s := hs; omega), hs, if_neg (by omega), ← e z]
      exact decide_eq_decide.mpr (by omega)
    rw [this]
  · rw [nt_ne z, nt_ne z]
theorem nt_too3 {k q0 : Nat} (km : k ≤ 6) (e : l_f st = 0 → k = dP (l_D st)) : nt (l_f st, l_p st) (decide (k = 6)) 3 q0 = nt (l_f st, l_p st) (ltoo 3 st) 3 q0 := by
  by_cases z : l_f st = 0
  · have : ltoo 3 st = decide (k = 6) := by
      unfold ltoo
      rw [if_pos rfl, ← e z]
      exact decide_eq_decide.mpr (by omega)
    rw [this]
  · rw [nt_ne z, nt_ne z]
def gdr (v : Nat) (x : Nat → Nat) : Nat → Bool
  | 0 => true
  | i + 1 => gdr v x i && !lbad v x i
theorem gdr_t {x : Nat → Nat} : ∀ {i : Nat}, gdr v x i = true → ∀ j, j < i → lbad v x j = false
  | 0, _ => fun j hj => absurd hj (Nat.not_lt_zero j)
  | i + 1, h => fun j hj => by
    have h : (gdr v x i && !lbad v x i) = true := h
    rw [Bool.and_eq_true] at h
    by_cases e : j = i
    · rw [e]; simpa using h.2
    · exact gdr_t h.1 j (by omega)
theorem gdr_o {x : Nat → Nat} : ∀ {i : Nat}, (∀ j, j < i → lbad v x j = false) → gdr v x i = true
  | 0, _ => rfl
  | i + 1, h => by
    show (gdr v x i && !lbad v x i) = true
    rw [gdr_o (fun j hj => h j (by omega)), h i (by omega)]; rfl
theorem tks_lt {i : Nat} (ha : a ≤ n) (hk : tkk T n (ps T n a i) ≠ 0) : tks T n (ps T n a i) < tks T n (ps T n a (i + 1)) := by
  obtain ⟨b1, b2, b3, b4⟩ := tk_bd (T := T) (ps_le (T := T) ha i).2
  obtain ⟨c1, -, -, -⟩ := tk_bd (T := T) (ps_le (T := T) ha (i + 1)).2
  have e : ps T n a (i + 1) = tkb T n (ps T n a i) := rfl
  have := b4 hk
  omega
/-- the i-th number of the line at place a is taken -/
theorem c_takeV {i LO HI : Nat} {fp : Nat × Nat} (t : mt_at h T n) (hT : tyb T) (hn : n ≤ 600) (ha : a ≤ n) (hv : v < 11) (hi : i < lnu v) (eL : LO = (if v = 7 ∧ i = 2 then l_x T n a 1 else llo v i)) (eH : HI = lhi v i) (kk : mk_at h T n (ps T n a (i + 1))) (nz : tkk T n (ps T n a i) ≠ 0) (f : lp_at h (lfp v (l_x T n a) (l_q T n a) fp i)) (fl : fp.1 ≤ 4) (pl : (lfp v (l_x T n a) (l_q T n a) fp i).1 ≠ 0 → (lfp v (l_x T n a) (l_q T n a) fp i).2 ≤ tks T n (ps T n a i)) (e24 : ax_i h 77 24 = b2i (gdr v (l_x T n a) i))
    (h0 : tkk T n (ps T n a (i + 1)) ≠ 2 → ∀ h', mf (fun k => k = 17) h h' → ax_i h' 77 17 = nI (tks T n (ps T n a (i + 1))) → Ret (some (.int 0)) h')
    (h1 : tkk T n (ps T n a (i + 1)) = 2 → ∀ h', mg (fun k => k = 18 ∨ k = 19 ∨ k = 24) h h' → (∀ j, ax_i h' 89 j = if j = i then nI (l_x T n a i) else ax_i h 89 j) → mk_at h' T n (ps T n a (i + 2)) → lp_at h' (lfp v (l_x T n a) (l_q T n a) fp (i + 1)) → ((lfp v (l_x T n a) (l_q T n a) fp (i + 1)).1 ≠ 0 → (lfp v (l_x T n a) (l_q T n a) fp (i + 1)).2 ≤ tks T n (ps T n a (i + 1))) → ax_i h' 77 24 = b2i (gdr v (l_x T n a) (i + 1)) → Ret (some (.int 1)) h') : mX10_take g [.ref 77, .int (nI i), .int (nI LO), .int (nI HI)] h Ret := by
  obtain ⟨-, n1, n3⟩ := tab_nu v hv
  obtain ⟨-, u2⟩ := tab_lo v hv i (by omega)
  obtain ⟨-, w2⟩ := tab_hi v hv i (by omega)
  have x1 := l_x_le (T := T) ha 1
  have hLO : LO < 2 ^ 31 := by rw [eL]; split <;> omega
  have lt := tks_lt (T := T) (i := i) ha nz
  refine c_take2 t hT hn (ps_le ha (i + 1)).2 kk f (lfp_le fl i) (fun z => Nat.lt_of_le_of_lt (pl z) lt) (by omega) hLO (by omega) h0 (fun e2 h' r' e89 k' f' e24' => ?_)
  have ex : tkn T n (ps T n a (i + 1)) = l_x T n a i := by unfold l_x; rw [if_pos e2]
  rw [ex] at e89 f' e24'
  have eb : decide (l_x T n a i < LO ∨ HI < l_x T n a i) = lbad v (l_x T n a) i := by
    unfold lbad
    rw [eL, eH]
    by_cases z : v = 7 ∧ i = 2
    · rw [if_pos z]
      obtain ⟨rfl, rfl⟩ := z
      exact decide_eq_decide.mpr (by have : llo 7 2 = 0 := rfl; omega)
    · rw [if_neg z]
      exact decide_eq_decide.mpr (by omega)
  rw [eb] at f'
  have f' : lp_at h' (lfp v (l_x T n a) (l_q T n a) fp (i + 1)) := f'
  refine h1 e2 h' r' e89 k' f' (fun z => ?_) ?_
  · have e : lfp v (l_x T n a) (l_q T n a) fp (i + 1) = nt (lfp v (l_x T n a) (l_q T n a) fp i) (lbad v (l_x T n a) i) 2 (l_q T n a i) := rfl
    rw [e] at z ⊢
    unfold nt at z ⊢
    split
    · exact Nat.le_refl _
    · rename_i y
      rw [if_neg y] at z
      have := pl z
      omega
  · rw [e24', e24]
    show _ = b2i (gdr v (l_x T n a) i && !lbad v (l_x T n a) i)
    by_cases z : l_x T n a i < LO ∨ HI < l_x T n a i
    · rw [if_pos z, ← eb, decide_eq_true z]; simp [b2i]
    · rw [if_neg z, ← eb, decide_eq_false z]; simp
/-- keep(): the line is kept, if it isn't full -/
theorem c_mkeep {k : Nat} (m : mo_st h 77) (h1s : 1 ≤ s) (h5s : s < 5) (ek : ax_i h 88 0 = nI k) (hk : k ≤ lm s) (hq : ∀ h', ax_same (fun b => b = 88) h h' → ((k = lm s ∧ ∀ j, ax_i h' 88 j = ax_i h 88 j) ∨ (k < lm s ∧ ax_i h' 88 0 = nI (k + 1) ∧ (∀ j, j < lw s → ax_i h' 88 (1 + lw s * k + j) = ax_i h 89 j) ∧ ∀ j, j ≠ 0 → ¬ (1 + lw s * k ≤ j ∧ j < 1 + lw s * k + lw s) → ax_i h' 88 j = ax_i h 88 j)) → Ret none h') : mX10_keep g [.ref 77, .int 1, .int (nI (lw s)), .int (nI (lm s))] h Ret := by
  have lb := lm_lw h1s h5s
  have i0 : vp_in (0 : Int32) 164 := vp_in_nI (n := 0) (N := 164) (by decide) (by decide)
  obtain ⟨r20, s20⟩ : ax_r h 77 20 = some 88 ∧ ax_s h 88 = (11, 164) := m.2 10 _ rfl
  refine uX10_keep (fun A hA => vX10_keep_0 hA ⟨m.1, 88, r20, sh_k s20, by rw [s20]; exact i0, ?_⟩)
  rw [ek]
  refine ⟨fun q => ?_, fun q => hq h sm_rf (Or.inl ⟨(nI_eq (by omega) (by omega)).mp q, fun _ => rfl⟩)⟩
  have kl : k < lm s := Nat.lt_of_le_of_ne hk (fun e => q (by rw [e]))
  have hlt : lw s * k + lw s ≤ 18 := by
    have : lw s * (k + 1) ≤ lw s * lm s := Nat.mul_le_mul_left _ kl
    rw [Nat.mul_succ, Nat.mul_comm (lw s) (lm s)] at this
    omega
  have key : ∀ m' i : Nat, i + m' = lw s → ∀ (hh : ax_H) (o3 : Option Value), ax_same (fun b => b = 88) h hh → (∀ j, j < i → ax_i hh 88 (1 + lw s * k + j) = ax_i h 89 j) → (∀ j, ¬ (1 + lw s * k ≤ j ∧ j < 1 + lw s * k + i) → ax_i hh 88 j = ax_i h 88 j) → A (18, [some (.ref 77), some (.int 1), some (.int (nI (lw s))), o3, some (.int (nI k)), some (.int (nI i))], [], hh, 0, 0) := by
    intro m'
    induction m' with
    | zero =>
      intro i hi hh o3 sm e1 e2
      have m1 := mo_st_same sm m
      obtain ⟨r20', s20'⟩ : ax_r hh 77 20 = some 88 ∧ ax_s hh 88 = (11, 164) := m1.2 10 _ rfl
      refine vX10_keep_18 hA ⟨fun _ => ⟨m1.1, 88, r20', ⟨rfl, rfl⟩, sh_k s20', by rw [s20']; exact i0, sh_k s20', by rw [s20']; exact i0, ?_⟩, fun q => absurd (nI_le (by omega) (by omega)) q⟩
      have e0 : ax_i hh 88 0 = nI k := by rw [e2 0 (by omega)]; exact ek
      rw [e0, ← nI_succ]
      refine hq _ (sm_tr sm (sm_pi rfl)) (Or.inr ⟨kl, ai_eq, fun j hj => ?_, fun j hj hr => ?_⟩)
      · rw [ai_ne (by omega)]; exact e1 j (by omega)
      · rw [ai_ne (by omega)]; exact e2 j (by omega)
    | succ m' ih =>
      intro i hi hh o3 sm e1 e2
      have m1 := mo_st_same sm m
      obtain ⟨r20', s20'⟩ : ax_r hh 77 20 = some 88 ∧ ax_s hh 88 = (11, 164) := m1.2 10 _ rfl
      obtain ⟨r21, s21⟩ : ax_r hh 77 21 = some 89 ∧ ax_s hh 89 = (11, 3) := m1.2 11 _ rfl
      have ei : (1 : Int32) + nI (lw s) * nI k + nI i = nI (1 + lw s * k + i) := by rw [show (1 : Int32) = nI 1 from rfl, pk_mul, nI_add, nI_add]
      refine vX10_keep_18 hA ⟨fun q => absurd q (nI_ge (by omega) (by omega)), fun _ => ⟨m1.1, 88, r20', m1.1, 89, r21, sh_k s21, by rw [s21]; exact vp_in_nI (by omega) (by decide), sh_k s20', by rw [ei, s20']; exact vp_in_nI (by omega) (by decide), ?_⟩⟩
      rw [ei, nI_clamp (by omega), nI_clamp (by omega), ← nI_succ, (sm.2.2.2 89 (by omega)).1]
      refine ih (i + 1) (by omega) _ o3 (sm_tr sm (sm_pi rfl)) (fun j hj => ?_) (fun j hj => ?_)
      · by_cases e : j = i
        · rw [e, ai_eq]
        · rw [ai_ne (by omega)]; exact e1 j (by omega)
      · rw [ai_ne (by omega)]; exact e2 j (by omega)
  exact key (lw s) 0 (by omega) h _ sm_rf (fun j hj => absurd hj (Nat.not_lt_zero j)) (fun j _ => rfl)
/-- a kept line is the told one -/
theorem tb_keep {h' : ax_H} {k md q0 : Nat} {x q : Nat → Nat} (h6 : 6 ≤ v) (hv : v < 11) (hs : lvs v = s) (t : tb_at h s st) (ek : ax_i h 88 0 = nI k) (hk : k ≤ lm s) (ef : l_f st = 0 → k = l_N st) (e77 : ∀ j, ax_i h' 77 j = ax_i h 77 j) (e89 : ∀ j, j < lw s → ax_i h 89 j = lval v x j) (c : (k = lm s ∧ ∀ j, ax_i h' 88 j = ax_i h 88 j) ∨ (k < lm s ∧ ax_i h' 88 0 = nI (k + 1) ∧ (∀ j, j < lw s → ax_i h' 88 (1 + lw s * k + j) = ax_i h 89 j) ∧ ∀ j, j ≠ 0 → ¬ (1 + lw s * k ≤ j ∧ j < 1 + lw s * k + lw s) → ax_i h' 88 j = ax_i h 88 j)) : tb_at h' s (l_line v x md q0 q st) := by
  obtain ⟨w1, w2, w3⟩ := lnu_lw v h6 hv
  rw [hs] at w2 w3
  have lb := lm_lw w2 w3
  unfold l_line
  by_cases z : (l_fp v x q0 q st).1 = 0
  · rw [if_pos z]
    obtain ⟨z1, z2, z3⟩ := l_fp_0 z
    have e : l_tell v x md st = l_add v x st := by
      match v, h6 with
      | n + 6, _ => rfl
    rw [e]
    have kN := ef z1
    have hN : l_N st < lm s := by
      unfold ltoo at z2
      rw [if_neg (by omega), hs, if_neg (by omega)] at z2
      have := of_decide_eq_false z2
      omega
    obtain ⟨y1, y2, -, y4⟩ := t.1 z1
    obtain ⟨n1, n2, n3⟩ := y4 w2
    refine ⟨fun _ => ⟨by rw [e77]; exact y1, by rw [e77]; exact y2, fun q => by omega, fun _ => ⟨hN, ?_, fun i j hi hj => ?_⟩⟩, fun q => absurd z1 q⟩
    · rcases c with ⟨c1, -⟩ | ⟨-, c2, -, -⟩
      · omega
      · rw [c2, kN]; rfl
    · rcases c with ⟨c1, -⟩ | ⟨-, -, c3, c4⟩
      · omega
      show _ = (if i = l_N st then lval v x j else l_C st i j)
      by_cases ei : i = l_N st
      · rw [if_pos ei, ei, ← kN, c3 j hj]; exact e89 j hj
      · have hi : i < l_N st + 1 := hi
        have : lw s * (i + 1) ≤ lw s * l_N st := Nat.mul_le_mul_left _ (by omega)
        rw [Nat.mul_succ] at this
        rw [if_neg ei, c4 _ (by omega) (by rw [kN]; omega)]
        exact n3 i j (by omega) hj
  · rw [if_neg z]
    refine ⟨fun w => absurd w z, fun _ => ⟨fun q => by omega, fun _ => ?_⟩⟩
    rcases c with ⟨c1, c2⟩ | ⟨c1, c2, -, -⟩
    · exact ⟨k, hk, by rw [c2]; exact ek⟩
    · exact ⟨k + 1, c1, c2⟩
end
