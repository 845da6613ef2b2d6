section
variable {g : ax_G} {Ret : Option Value → ax_H → Prop} {h : ax_H} {T : Nat → Int32} {n a s : Nat} {st : lS}
/-! the class's read() -/
def l_st0 : lS := (0, 0, D0, -1, -1, 0, fun _ _ => 0)
theorem okL_0 : okL s l_st0 := ⟨okD_0, fun _ => ⟨⟨Nat.zero_le _, fun i hi => absurd hi (Nat.not_lt_zero i)⟩, rfl, rfl, rfl, rfl⟩⟩
/-- a text: where it doesn't go on, or what its lines told -/
def txf (T : Nat → Int32) (n s : Nat) : Nat → Nat → lS → Nat ⊕ lS
  | 0, _, st => .inr st
  | k + 1, a, st => if tkk T n a = 0 then .inr st else match lsx T n s a with
    | .inl p => .inl p
    | .inr (v, md) => txf T n s k (ps T n a (l_m v + 1)) (l_line v (l_x T n a) md (tks T n a) (l_q T n a) st)
def rdT (T : Nat → Int32) (n s : Nat) : rT := match txf T n s 601 0 l_st0 with
  | .inl p => (1, nI p, D0, 0, fun _ _ => 0)
  | .inr st => if l_f st = 0 then (if nI (dH (l_D st)) ≤ l_h st ∨ nI (dP (l_D st)) ≤ l_o st then (4, nI n, D0, 0, fun _ _ => 0) else (0, -1, l_D st, l_N st, l_C st)) else (nI (l_f st), nI (l_p st), D0, 0, fun _ _ => 0)
theorem ps_mono (ha : a ≤ n) : ∀ i j, i ≤ j → ps T n a i ≤ ps T n a j := by
  intro i j hij
  induction j with
  | zero => rw [show i = 0 by omega]; exact Nat.le_refl _
  | succ j ih =>
    by_cases e : i = j + 1
    · rw [e]; exact Nat.le_refl _
    · have h1 := ih (by omega)
      obtain ⟨b1, b2, -, -⟩ := tk_bd (T := T) (ps_le (T := T) ha j).2
      exact Nat.le_trans h1 (by show ps T n a j ≤ tkb T n (ps T n a j); omega)
theorem l_m_pos (v : Nat) : 1 ≤ l_m v := by unfold l_m; split <;> omega
/-- a line goes on -/
theorem lsx_ps (ha : a ≤ n) {v md : Nat} (hk : tkk T n a ≠ 0) : a + 1 ≤ ps T n a (l_m v + 1) ∧ ps T n a (l_m v + 1) ≤ n := by
  obtain ⟨b1, b2, b3, b4⟩ := tk_bd (T := T) ha
  have := b4 hk
  have h1 : ps T n a 1 ≤ ps T n a (l_m v + 1) := ps_mono ha 1 _ (by omega)
  have h2 : ps T n a 1 = tkb T n a := rfl
  exact ⟨by omega, (ps_le ha _).2⟩
theorem lsx_inr {v md : Nat} (e : lsx T n s a = .inr (v, md)) : v < 11 ∧ lvs v = s ∧ md < 3 ∧ vb T n s a = some v := by
  unfold lsx at e
  cases ev : vb T n s a with
  | none => rw [ev] at e; cases e
  | some w =>
    rw [ev] at e
    obtain ⟨-, h2, h3, -⟩ := vbr_some ev
    dsimp only at e
    cases en : nf T n a (lnu w) 0 with
    | some i => rw [en] at e; cases e
    | none =>
      rw [en] at e
      dsimp only at e
      by_cases z : w = 1 ∨ w = 2
      · rw [if_pos z] at e
        cases em : mdw T n (ps T n a (lnu w + 1)) with
        | none => rw [em] at e; cases e
        | some m =>
          rw [em] at e
          dsimp only at e
          split at e
          · cases e; exact ⟨by omega, h3, mdw_lt em, rfl⟩
          · cases e
      · rw [if_neg z] at e
        split at e
        · cases e; exact ⟨by omega, h3, by decide, rfl⟩
        · cases e
theorem txf_ok : ∀ (k a : Nat) (st : lS), okL s st → l_f st ≤ 4 → ∀ st', txf T n s k a st = .inr st' → okL s st' ∧ l_f st' ≤ 4 := by
  intro k
  induction k with
  | zero => intro a st ok hf st' e; cases e; exact ⟨ok, hf⟩
  | succ k ih =>
    intro a st ok hf st' e
    unfold txf at e
    by_cases z : tkk T n a = 0
    · rw [if_pos z] at e; cases e; exact ⟨ok, hf⟩
    · rw [if_neg z] at e
      cases el : lsx T n s a with
      | inl p => rw [el] at e; cases e
      | inr vm =>
        obtain ⟨v, md⟩ := vm
        rw [el] at e
        obtain ⟨h1, h2, h3, -⟩ := lsx_inr el
        exact ih _ _ (okL_line ok h1 h2 h3) (l_line_le hf) st' e
theorem rdT_ok (s : Nat) : r_ok s (rdT T n s) := by
  unfold rdT r_ok
  cases e : txf T n s 601 0 l_st0 with
  | inl p => intro z; exact absurd z (by show ¬ ((1 : Int32) = 0); decide)
  | inr st =>
    obtain ⟨ok, hf⟩ := txf_ok 601 0 l_st0 okL_0 (by decide) st e
    dsimp only
    by_cases z : l_f st = 0
    · rw [if_pos z]
      by_cases y : nI (dH (l_D st)) ≤ l_h st ∨ nI (dP (l_D st)) ≤ l_o st
      · rw [if_pos y]; intro w; exact absurd w (by show ¬ ((4 : Int32) = 0); decide)
      · rw [if_neg y]; intro _; exact ⟨fun _ => okD_rd ok.1, fun s1 => (ok.2 s1).1⟩
    · rw [if_neg z]; intro w; exact absurd w (by show ¬ (nI (l_f st) = 0); exact nI_ne0 (by omega) (by omega))
theorem c_read {s : Nat} (a : re_st h 35 2) (s2 : ax_s h 2 = (12, 600)) (et : ∀ i, i < 600 → ax_i h 2 i = T i) (hn : n ≤ 600) (hs5 : s < 5) (hq : ∀ h', ax_same re_F h h' → re_st h' 35 2 → rp_at h' s (rdT T n s) → Ret none h') : mX5_read g [.ref 35, .int (nI n), .int (nI s)] h Ret := by
  refine uX5_read (fun A hA => vX5_read_0 hA ⟨a.1, c_begin5 a s2 hn hs5 (fun h1 s1 re1 rb => ⟨rfl, re1.1, ?_⟩)⟩)
  obtain ⟨b1, b2, b3, b4, b5, b6, ⟨c1, c2, c3, c4⟩, b8⟩ := rb
  have t1 : tp_at h1 T := ⟨re1.1, re1.2.1.1, by rw [s1.2.1]; exact s2, fun i hi => by rw [(s1.2.2.2 2 (by unfold re_F; omega)).1]; exact et i hi⟩
  have cs1 : cs_at h1 s l_st0 := ⟨⟨re1, b5, b6, ⟨c1, c2, fun k hk => (c3 k hk).1, fun k hk => (c3 k hk).2, fun p hp => absurd hp (Nat.not_lt_zero p), fun p q hp hq => (c4 (p * 12 + q) (by omega)).1, fun p q hp hq => (c4 (p * 12 + q) (by omega)).2⟩, fun z => ⟨(re1.2.2.2.2.2.2 s z hs5).2, Nat.zero_le _, b8 z, fun i j hi => absurd hi (Nat.not_lt_zero i)⟩⟩, b3, b4⟩
  refine c_step5 (a := 0) t1 hn (Nat.zero_le _) b1 b2 (fun h3 r3 e6 e7 e8 e9 => ⟨rfl, ?_⟩)
  have k3 : tk_at h3 T n 0 := ⟨by rw [r3.2 11 (by omega)]; exact b1, e6, e7, e8, e9⟩
  have g3 : rg (fun _ => False) h1 h3 := rg_of r3 (fun x hx => Or.inl (by omega))
  have cs3 : cs_at h3 s l_st0 := ⟨dr_rg g3 (by simp) cs1.1, fp_rg g3 (by simp) cs1.2⟩
  have S3 : ax_same re_F h h3 := sm_tr s1 (sm_mono r3.1 (fun b hb => by unfold re_F; omega))
  have key : ∀ m i : Nat, i + m = 601 → ∀ (hh : ax_H) (p : Nat) (st : lS) (o1 : Option Value), i ≤ p → p ≤ n → ax_same re_F h hh → tp_at hh T → tk_at hh T n p → cs_at hh s st → okL s st → l_f st ≤ 4 → txf T n s m p st = txf T n s 601 0 l_st0 → A (12, [some (.ref 35), o1, some (.int (nI s)), some (.int (nI i))], [], hh, 0, 0) := by
    intro m
    induction m with
    | zero => intro i hi hh p st o1 hip hpn; omega
    | succ m ih =>
      intro i hi hh p st o1 hip hpn S t k cs ok hf ex
      have ex : (if tkk T n p = 0 then .inr st else match lsx T n s p with
        | .inl p => .inl p
        | .inr (v, md) => txf T n s m (ps T n p (l_m v + 1)) (l_line v (l_x T n p) md (tks T n p) (l_q T n p) st)) = txf T n s 601 0 l_st0 := ex
      obtain ⟨d1, d2, d3, d4, d5⟩ := id cs.1
      refine vX5_read_12 hA ⟨fun q => absurd q (nI_nlt (a := 600) (b := i) (by omega) (by decide)), fun _ => ⟨t.1, fun q => ?_, fun q => ⟨t.1, c_readLine t hn hpn hs5 k cs ok hf (fun pl el h2 sm2 re2 t2 e7 => ⟨_, rfl, fun z => absurd rfl z, fun _ => ⟨t2.1, t2.1, t2.1, ?_⟩⟩) (fun v md el hv hvs hmd h2 sm2 t2 k2 cs2 => ⟨_, rfl, fun _ => ⟨t2.1, ?_⟩, fun z => absurd z (by decide)⟩)⟩⟩⟩
      · -- the end
        have e0 : tkk T n p = 0 := (nI_eq (b := 0) tkk_lt (by decide)).mp (by rw [← k.2.1]; exact q)
        rw [if_pos e0] at ex
        have hH : ax_i hh 36 5 = nI (dH (l_D st)) := d4.1
        have hP : ax_i hh 36 6 = nI (dP (l_D st)) := d4.2.1
        have okd := ok.1
        -- the fault is there already, or is noted
        have flt : (nI (dH (l_D st)) ≤ l_h st ∨ nI (dP (l_D st)) ≤ l_o st) → mX5_note g [.ref 35, .int 4, .int (ax_i hh 35 11)] hh (fun v7 h6 => v7 = none ∧ Ret none h6) := by
          intro y
          rw [k.1]
          refine c_note (w := 4) (q := n) t.1 cs.2 (by show l_f st < 2 ^ 31; omega) (by decide) (fun h6 r6 f6 => ⟨rfl, hq h6 (sm_tr S (sm_mono r6.1 (fun b hb => by unfold re_F; omega))) (re_st_same r6.1 (fun q _ _ => by omega) d1) ?_⟩)
          unfold rdT
          rw [← ex]
          dsimp only
          by_cases z : l_f st = 0
          · rw [if_pos z, if_pos y]
            unfold nt at f6
            rw [if_pos ⟨z, rfl⟩] at f6
            exact ⟨f6.1, f6.2, fun w => absurd w (by show ¬ ((4 : Int32) = 0); decide)⟩
          · rw [if_neg z]
            unfold nt at f6
            rw [if_neg (fun w => z w.1)] at f6
            exact ⟨f6.1, by rw [f6.2, if_neg z]; rfl, fun w => absurd w (by show ¬ (nI (l_f st) = 0); exact nI_ne0 (by omega) (by omega))⟩
        refine ⟨t.1, t.1, 36, d1.2.1.2.1, d1.2.2.1.1, fun q1 => ⟨t.1, t.1, flt (Or.inl ?_)⟩, fun q1 => ⟨t.1, t.1, 36, d1.2.1.2.1, d1.2.2.1.1, fun q2 => ?_, fun q2 => ⟨t.1, t.1, flt (Or.inr ?_)⟩⟩⟩
        · rw [← hH, ← d2]; exact q1
        · have y : ¬ (nI (dH (l_D st)) ≤ l_h st ∨ nI (dP (l_D st)) ≤ l_o st) := fun y => y.elim (fun w => q1 (by rw [hH, d2]; exact w)) (fun w => by rw [hP, d3] at q2; exact absurd q2 (nt_lt.mpr w))
          refine hq hh S d1 ?_
          unfold rdT
          rw [← ex]
          dsimp only
          by_cases z : l_f st = 0
          · rw [if_pos z, if_neg y]
            have f := cs.2
            refine ⟨by rw [f.1]; show nI (l_f st) = _; rw [z]; rfl, by rw [f.2, if_pos z]; rfl, fun _ => ⟨fun _ => ⟨d1.2.2.1, ⟨okd.1.2, okd.2.1⟩, ⟨d4.1, d4.2.1⟩, d4.2.2.1, d4.2.2.2.1, d4.2.2.2.2.1, fun p q hp hq => d4.2.2.2.2.2.1 p q (Nat.lt_of_lt_of_le hp okd.2.1) (Nat.lt_of_lt_of_le hq okd.1.2), fun p q hp hq => d4.2.2.2.2.2.2 p q (Nat.lt_of_lt_of_le hp okd.2.1) (Nat.lt_of_lt_of_le hq okd.1.2)⟩, fun z1 => d5 z1⟩⟩
          · rw [if_neg z]
            have f := cs.2
            exact ⟨f.1, by rw [f.2, if_neg z]; rfl, fun w => absurd w (by show ¬ (nI (l_f st) = 0); exact nI_ne0 (by omega) (by omega))⟩
        · rw [hP, d3] at q2; exact nt_lt.mp q2
      · -- no text goes on
        have ne0 : tkk T n p ≠ 0 := fun z => q (by rw [k.2.1, z]; rfl)
        rw [if_neg ne0, el] at ex
        have e75 : ax_i (ax_pi h2 35 4 1) 35 7 = nI pl := by rw [ai_ne (by omega)]; exact e7
        rw [e75]
        refine hq _ (sm_tr S (sm_tr sm2 (sm_tr (sm_pi (by unfold re_F; omega)) (sm_pi (by unfold re_F; omega))))) ?_ ?_
        · exact re_st_same (F := fun b => b = 35) (sm_tr (sm_pi rfl) (sm_pi rfl)) (fun q _ _ => by omega) re2
        · unfold rdT
          rw [← ex]
          exact ⟨by rw [ai_ne (by omega), ai_eq]; rfl, by rw [ai_eq]; rfl, fun w => absurd w (by show ¬ ((1 : Int32) = 0); decide)⟩
      · -- a line
        have ne0 : tkk T n p ≠ 0 := fun z => q (by rw [k.2.1, z]; rfl)
        rw [if_neg ne0, el] at ex
        obtain ⟨l1, l2⟩ := lsx_ps (v := v) (md := md) hpn ne0
        refine c_next t2 hn (ps_le hpn (l_m v)).2 k2 (fun h3 r3 k3 => ⟨rfl, ?_⟩)
        have g3 : rg (fun _ => False) h2 h3 := rg_of r3 (fun x hx => Or.inl (by omega))
        rw [← nI_succ]
        exact ih (i + 1) (by omega) h3 (ps T n p (l_m v + 1)) _ o1 (by omega) l2 (sm_tr S (sm_tr sm2 (sm_mono r3.1 (fun b hb => by unfold re_F; omega)))) (rf_tp r3 t2) k3 ⟨dr_rg g3 (by simp) cs2.1, fp_rg g3 (by simp) cs2.2⟩ (okL_line ok hv hvs hmd) (l_line_le hf) ex
  exact key 601 0 (by omega) h3 0 l_st0 _ (Nat.le_refl _) (Nat.zero_le _) S3 (rf_tp r3 t1) k3 cs3 okL_0 (by decide) rfl
end
