section
variable {g : ax_G} {Ret : Option Value → ax_H → Prop} {h : ax_H} {T : Nat → Int32} {n a s : Nat} {st : lS}
/-! words, told apart by their packed bytes -/
def wN (i : Nat) : Nat := pkF (fun j => ((ax_sb.getD i []).getD j 0).toInt.toNat) (ax_sl.getD i 0)
def wL (i : Nat) : Int64 := Int64.ofNat (wN i)
theorem wN_bd : ∀ i, i < 14 → 0 < wN i ∧ wN i < 2 ^ 63 := by decide +kernel
theorem sb_bd : ∀ i, i < 14 → ∀ j, j < ax_sl.getD i 0 → 1 ≤ ((ax_sb.getD i []).getD j 0).toInt.toNat ∧ ((ax_sb.getD i []).getD j 0).toInt.toNat < 256 ∧ (ax_sb.getD i []).getD j 0 = nI ((ax_sb.getD i []).getD j 0).toInt.toNat := by decide +kernel
theorem wL_ne : ∀ i, i < 14 → ∀ j, j < 14 → i ≠ j → wL i ≠ wL j := by decide +kernel
def mw (T : Nat → Int32) (n a : Nat) : Int64 := if tkk T n a = 1 then mwd T n a else 0
theorem tk1 (h1 : tkk T n a = 1) : tks T n a < n ∧ isL (T (tks T n a)) = true ∧ tkb T n a = rn isL T n (tks T n a) := by
  unfold tkk at h1
  by_cases hs : tks T n a < n
  · rw [if_pos hs] at h1
    by_cases l : isL (T (tks T n a)) = true
    · exact ⟨hs, l, by unfold tkb; rw [if_pos hs, if_pos l]⟩
    · rw [if_neg l] at h1
      split at h1
      · split at h1 <;> cases h1
      · split at h1 <;> cases h1
  · rw [if_neg hs] at h1; cases h1
theorem oL_inj {x y : Nat} (hx : x < 2 ^ 63) (hy : y < 2 ^ 63) (e : Int64.ofNat x = Int64.ofNat y) : x = y := by
  have := congrArg Int64.toInt e
  rw [Int64.toInt_ofNat_of_lt hx, Int64.toInt_ofNat_of_lt hy] at this
  omega
theorem wL_0 {i : Nat} (hi : i < 14) : (0 : Int64) ≠ wL i := by
  intro e
  have e := congrArg Int64.toInt e
  have w := wN_bd i hi
  have e2 : (wL i).toInt = (wN i : Int) := Int64.toInt_ofNat_of_lt w.2
  rw [e2] at e
  have e3 : (0 : Int64).toInt = 0 := l_0
  rw [e3] at e
  omega
theorem pk_cong {F f : Nat → Nat} : ∀ {m : Nat}, (∀ j, j < m → F j = f j) → pkF F m = pkF f m
  | 0, _ => rfl
  | m + 1, h => by
    show pkF F m * 256 + F m = pkF f m * 256 + f m
    rw [pk_cong (fun j hj => h j (by omega)), h m (by omega)]
theorem mw_t1 {i : Nat} (hi : i < 14) (h1 : tkk T n a = 1) (al : ∀ j, j < tkb T n a - tks T n a → isL (T (tks T n a + j)) = true) (e : mwd T n a = wL i) : tw T n a i = true := by
  unfold mwd at e
  by_cases z : tkb T n a - tks T n a ≤ 8
  · rw [if_pos z] at e
    have pb := (pkF_b (F := bN T (tks T n a)) z (fun j hj => (isL_b (al j hj)).2.2)).1
    have e := oL_inj pb (wN_bd i hi).2 e
    obtain ⟨k1, k2⟩ := pkF_inj (fun j hj => by have := isL_b (al j hj); unfold bN; omega) (fun j hj => by have := sb_bd i hi j hj; omega) e
    refine decide_eq_true ⟨h1, k1, fun j hj => ?_⟩
    have e2 := k2 j (by omega)
    have e3 := (isL_b (al j (by omega))).1
    unfold bN at e2
    rw [e2] at e3
    rw [e3, ← (sb_bd i hi j hj).2.2]
  · rw [if_neg z] at e; exact absurd e (wL_0 hi)
theorem mw_t2 {i : Nat} (hi : i < 14) (e : tw T n a i = true) : mwd T n a = wL i := by
  obtain ⟨-, k1, k2⟩ := of_decide_eq_true e
  have hl := sl_bd i hi
  unfold mwd
  rw [if_pos (by omega), k1]
  unfold wL wN
  rw [pk_cong (F := bN T (tks T n a)) (fun j hj => by unfold bN; rw [k2 j hj])]
theorem mw_tw {i : Nat} (hi : i < 14) : mw T n a = wL i ↔ tw T n a i = true := by
  unfold mw
  by_cases h1 : tkk T n a = 1
  · rw [if_pos h1]
    obtain ⟨t1, t2, t3⟩ := tk1 h1
    exact ⟨mw_t1 hi h1 (fun j hj => rn_P (P := isL) (T := T) (n := n) (a := tks T n a) (j := tks T n a + j) (by omega) (by omega) (by omega)), mw_t2 hi⟩
  · rw [if_neg h1]
    exact ⟨fun e => absurd e (wL_0 hi), fun e => absurd (of_decide_eq_true e).1 h1⟩
theorem lg_0 {x y : Int64} : lg_cmp x y = 0 ↔ x = y := by
  constructor
  · intro e
    unfold lg_cmp at e
    split at e
    · cases e
    · split at e
      · assumption
      · cases e
  · intro e; rw [e]; unfold lg_cmp; simp
theorem vb_w {v : Nat} (e : vb T n s a = some v) : v < 11 ∧ lvs v = s ∧ mw T n a = wL (v + 3) := by
  obtain ⟨-, h2, h3, h4⟩ := vbr_some e
  exact ⟨by omega, h3, (mw_tw (by omega)).mpr h4⟩
theorem vb_nw (e : vb T n s a = none) {w : Nat} (hw : w < 11) (hs : lvs w = s) : mw T n a ≠ wL (w + 3) := fun q => by
  have := vbr_none e w (Nat.zero_le _) (by omega) hs
  rw [(mw_tw (by omega)).mp q] at this
  cases this
theorem vb_of {v : Nat} (hv : v < 11) (e : mw T n a = wL (v + 3)) (hs : lvs v = s) : vb T n s a = some v := by
  cases ev : vb T n s a with
  | none => exact absurd e (vb_nw ev hv hs)
  | some w =>
    obtain ⟨w1, w2, w3⟩ := vb_w ev
    by_cases z : w = v
    · rw [z]
    · exact absurd (w3.symm.trans e) (wL_ne (w + 3) (by omega) (v + 3) (by omega) (by omega))
/-! faults of the reference -/
def lp_at (h : ax_H) (fp : Nat × Nat) : Prop := ax_i h 77 18 = nI fp.1 ∧ (fp.1 ≠ 0 → ax_i h 77 19 = nI fp.2)
theorem nt_ne {fp : Nat × Nat} {b : Bool} {w q : Nat} (hf : fp.1 ≠ 0) : nt fp b w q = fp := if_neg (fun z => hf z.1)
theorem nt_f {fp : Nat × Nat} {w q : Nat} : nt fp false w q = fp := if_neg (fun z => absurd z.2 (by decide))
theorem c_later {fp : Nat × Nat} {w q : Nat} (m : (ax_s h 77).1 = 10) (f : lp_at h fp) (fl : fp.1 ≤ 4) (hw : w ≠ 0) (hq31 : q < 2 ^ 31) (pl : fp.1 ≠ 0 → fp.2 < q) (hq : ∀ h', mf (fun k => k = 18 ∨ k = 19) h h' → lp_at h' (nt fp true w q) → Ret none h') : mX10_later g [.ref 77, .int (nI w), .int (nI q)] h Ret := by
  refine eX10_later ⟨m, fun z => ⟨m, m, ?_⟩, fun z => ⟨m, fun y => ?_, fun y => ⟨m, fun x => ?_, fun x => ?_⟩⟩⟩
  · have z0 : fp.1 = 0 := (nI_eq (b := 0) (by omega) (by decide)).mp (by rw [← f.1]; exact z)
    refine hq _ (mf_tr (mf_pi (Or.inl rfl)) (mf_pi (Or.inr rfl))) ?_
    unfold nt
    rw [if_pos ⟨z0, rfl⟩]
    exact ⟨by rw [ai_ne (by omega), ai_eq], fun _ => ai_eq⟩
  · have z0 : fp.1 ≠ 0 := fun w => z (by rw [f.1, w]; rfl)
    rw [f.2 z0] at y
    have := pl z0
    exact absurd y (nI_nlt (by omega) (by omega))
  · have z0 : fp.1 ≠ 0 := fun w => z (by rw [f.1, w]; rfl)
    exact hq h mf_rf (by rw [nt_ne z0]; exact f)
  · have z0 : fp.1 ≠ 0 := fun w => z (by rw [f.1, w]; rfl)
    rw [f.2 z0] at x
    have := pl z0
    have := (nI_eq (by omega) (by omega)).mp x
    omega
/-- what stays while the reference reads a line: all but tokens (11, 13 .. 15), its reading (89), and J -/
def mg (J : Nat → Prop) (h h' : ax_H) : Prop := ax_same (fun b => b = 77 ∨ b = 89) h h' ∧ ∀ k, ¬ (11 ≤ k ∧ k ≤ 15 ∧ k ≠ 12) → ¬ J k → ax_i h' 77 k = ax_i h 77 k
theorem mg_rf {J : Nat → Prop} : mg J h h := ⟨sm_rf, fun _ _ _ => rfl⟩
theorem mg_tr {J : Nat → Prop} {h1 h2 : ax_H} (x : mg J h h1) (y : mg J h1 h2) : mg J h h2 := ⟨sm_tr x.1 y.1, fun k hk hj => (y.2 k hk hj).trans (x.2 k hk hj)⟩
theorem mg_of {J J' : Nat → Prop} {h1 : ax_H} (x : mf J h h1) (i : ∀ k, J k → (11 ≤ k ∧ k ≤ 15 ∧ k ≠ 12) ∨ J' k) : mg J' h h1 := ⟨sm_mono x.1 (fun b hb => Or.inl hb), fun k hk hj => x.2 k (fun q => (i k q).elim hk hj)⟩
theorem mg_89 {J : Nat → Prop} {k : Nat} {v : Int32} : mg J h (ax_pi h 89 k v) := ⟨sm_pi (Or.inr rfl), fun j _ _ => ai_ne (Or.inl (by decide))⟩
theorem mg_mono {J J' : Nat → Prop} {h1 : ax_H} (x : mg J h h1) (i : ∀ k, J k → J' k) : mg J' h h1 := ⟨x.1, fun k hk hj => x.2 k hk (fun q => hj (i k q))⟩
theorem mg_mt {J : Nat → Prop} {h1 : ax_H} (x : mg J h h1) (i : ¬ J 12) (t : mt_at h T n) : mt_at h1 T n := ⟨mo_st_same x.1 t.1, fun j hj => by rw [(x.1.2.2.2 78 (by omega)).1]; exact t.2.1 j hj, by rw [x.2 12 (by omega) i]; exact t.2.2⟩
theorem mkd_3 {k : Nat} (hk : k ≤ 4) : nI (mkd k) = 3 ↔ k = 2 := by
  rcases (by omega : k = 0 ∨ k = 1 ∨ k = 2 ∨ k = 3 ∨ k = 4) with rfl | rfl | rfl | rfl | rfl <;> decide
theorem mkd_2 {k : Nat} (hk : k ≤ 4) : nI (mkd k) = 2 ↔ k = 1 := by
  rcases (by omega : k = 0 ∨ k = 1 ∨ k = 2 ∨ k = 3 ∨ k = 4) with rfl | rfl | rfl | rfl | rfl <;> decide
theorem mkd_4 {k : Nat} (hk : k ≤ 4) : nI (mkd k) = 4 ↔ k = 3 := by
  rcases (by omega : k = 0 ∨ k = 1 ∨ k = 2 ∨ k = 3 ∨ k = 4) with rfl | rfl | rfl | rfl | rfl <;> decide
theorem mkd_0 {k : Nat} (hk : k ≤ 4) : nI (mkd k) = 0 ↔ k = 0 := by
  rcases (by omega : k = 0 ∨ k = 1 ∨ k = 2 ∨ k = 3 ∨ k = 4) with rfl | rfl | rfl | rfl | rfl <;> decide
theorem tkk_le : tkk T n a ≤ 4 := by
  unfold tkk
  repeat' split
  all_goals decide
theorem c_mfails (m : (ax_s h 77).1 = 10) (hq : ∀ h', mf (fun k => k = 17) h h' → ax_i h' 77 17 = ax_i h 77 13 → Ret (some (.int 0)) h') : mX10_fails g [.ref 77] h Ret := eX10_fails ⟨m, m, Or.inl rfl, hq _ (mf_pi rfl) ai_eq⟩
/-- token() from the token at place b to the next -/
theorem c_mnext {b : Nat} (t : mt_at h T n) (hT : tyb T) (hn : n ≤ 600) (hb : b ≤ n) (k : mk_at h T n b) (hq : ∀ h', mf (fun k => 11 ≤ k ∧ k ≤ 15 ∧ k ≠ 12) h h' → mk_at h' T n (tkb T n b) → Ret none h') : mX10_token g [.ref 77] h Ret := c_mtoken t hT hn k.2.1 (tk_bd (T := T) hb).2.2.1 hq
theorem c_take2 {b k LO HI : Nat} {fp : Nat × Nat} (t : mt_at h T n) (hT : tyb T) (hn : n ≤ 600) (hb : b ≤ n) (kk : mk_at h T n b) (f : lp_at h fp) (fl : fp.1 ≤ 4) (pl : fp.1 ≠ 0 → fp.2 < tks T n b) (hk : k < 3) (hL : LO < 2 ^ 31) (hH : HI < 2 ^ 31)
    (h0 : tkk T n b ≠ 2 → ∀ h', mf (fun k => k = 17) h h' → ax_i h' 77 17 = nI (tks T n b) → Ret (some (.int 0)) h')
    (h1 : tkk T n b = 2 → ∀ h', mg (fun k => k = 18 ∨ k = 19 ∨ k = 24) h h' → (∀ j, ax_i h' 89 j = if j = k then nI (tkn T n b) else ax_i h 89 j) → mk_at h' T n (tkb T n b) → lp_at h' (nt fp (decide (tkn T n b < LO ∨ HI < tkn T n b)) 2 (tks T n b)) → ax_i h' 77 24 = (if tkn T n b < LO ∨ HI < tkn T n b then 0 else ax_i h 77 24) → Ret (some (.int 1)) h') : mX10_take g [.ref 77, .int (nI k), .int (nI LO), .int (nI HI)] h Ret := by
  obtain ⟨r21, s21⟩ : ax_r h 77 21 = some 89 ∧ ax_s h 89 = (11, 3) := t.1.2 11 _ rfl
  obtain ⟨b1, b2, b3, b4⟩ := tk_bd (T := T) hb
  refine eX10_take ⟨t.1.1, fun q => ⟨t.1.1, 89, r21, t.1.1, sh_k s21, by rw [s21]; exact vp_in_nI hk (by decide), t.1.1, ?_⟩, fun q => ⟨t.1.1, c_mfails t.1.1 (fun h' r' e' => ⟨_, rfl, Or.inl rfl, ?_⟩)⟩⟩
  · have e2 : tkk T n b = 2 := (mkd_3 tkk_le).mp (by rw [← kk.2.2.1]; exact q)
    have ex := kk.2.2.2.1 e2
    have xb := tkn_le hb e2
    rw [nI_clamp (by omega), ai_ne (by omega), ex]
    have r1 : mg (fun k => k = 18 ∨ k = 19 ∨ k = 24) h (ax_pi h 89 k (nI (tkn T n b))) := mg_89
    have t1 := mg_mt r1 (by omega) t
    have e89 : ∀ j, ax_i (ax_pi h 89 k (nI (tkn T n b))) 89 j = if j = k then nI (tkn T n b) else ax_i h 89 j := fun j => by
      by_cases e : j = k
      · rw [if_pos e, e, ai_eq]
      · rw [if_neg e, ai_ne (by omega)]
    have k1 : mk_at (ax_pi h 89 k (nI (tkn T n b))) T n b := ⟨by rw [ai_ne (by omega)]; exact kk.1, by rw [ai_ne (by omega)]; exact kk.2.1, by rw [ai_ne (by omega)]; exact kk.2.2.1, fun z => by rw [ai_ne (by omega)]; exact kk.2.2.2.1 z, fun z => kk.2.2.2.2 z⟩
    have f1 : lp_at (ax_pi h 89 k (nI (tkn T n b))) fp := ⟨by rw [ai_ne (by omega)]; exact f.1, fun z => by rw [ai_ne (by omega)]; exact f.2 z⟩
    have e24 : ax_i (ax_pi h 89 k (nI (tkn T n b))) 77 24 = ax_i h 77 24 := ai_ne (by omega)
    revert r1 t1 e89 k1 f1 e24
    generalize ax_pi h 89 k (nI (tkn T n b)) = h2
    intro r1 t1 e89 k1 f1 e24
    refine c_min ⟨_, rfl, fun q2 => ⟨t1.1.1, c_mnext t1 hT hn hb k1 (fun h3 r3 k3 => ⟨rfl, Or.inr rfl, ?_⟩)⟩, fun q2 => ⟨t1.1.1, t1.1.1, ?_⟩⟩
    · have q2 := of_decide_eq_true (b2i_n0.mp q2)
      have g1 := (nI_leI hL (by omega)).mp q2.1
      have g2 := (nI_leI (by omega) hH).mp q2.2
      have nb : ¬ (tkn T n b < LO ∨ HI < tkn T n b) := by omega
      rw [decide_eq_false nb, nt_f, if_neg nb] at h1
      refine h1 e2 h3 (mg_tr r1 (mg_of r3 (fun x hx => Or.inl hx))) (fun j => by rw [(r3.1.2.2.2 89 (by omega)).1]; exact e89 j) k3 ⟨by rw [r3.2 18 (by omega)]; exact f1.1, fun z => by rw [r3.2 19 (by omega)]; exact f1.2 z⟩ (by rw [r3.2 24 (by omega)]; exact e24)
    · have q2 := of_decide_eq_false (b2i_0.mp q2)
      have nb : tkn T n b < LO ∨ HI < tkn T n b := by
        rcases Nat.lt_or_ge (tkn T n b) LO with z | z
        · exact Or.inl z
        · rcases Nat.lt_or_ge HI (tkn T n b) with y | y
          · exact Or.inr y
          · exact absurd ⟨nI_le z (by omega), nI_le y hH⟩ q2
      rw [decide_eq_true nb, if_pos nb] at h1
      rw [k1.1]
      refine c_later (w := 2) (q := tks T n b) t1.1.1 f1 fl (by decide) (by omega) pl (fun h4 r4 f4 => ⟨rfl, Or.inl rfl, (mf_mt r4 (by omega) t1).1.1, (mf_mt r4 (by omega) t1).1.1, ?_⟩)
      have r5 : mf (fun k => k = 18 ∨ k = 19 ∨ k = 24) h2 (ax_pi h4 77 24 0) := mf_tr (mf_mono r4 (fun x hx => by omega)) (mf_pi (by omega))
      have t5 := mf_mt r5 (by omega) t1
      have k5 : mk_at (ax_pi h4 77 24 0) T n b := ⟨by rw [r5.2 13 (by omega)]; exact k1.1, by rw [r5.2 11 (by omega)]; exact k1.2.1, by rw [r5.2 14 (by omega)]; exact k1.2.2.1, fun z => by rw [r5.2 15 (by omega)]; exact k1.2.2.2.1 z, fun z => by omega⟩
      refine c_mnext t5 hT hn hb k5 (fun h6 r6 k6 => ⟨rfl, Or.inr rfl, ?_⟩)
      refine h1 e2 h6 (mg_tr r1 (mg_tr (mg_of r5 (fun x hx => Or.inr hx)) (mg_of r6 (fun x hx => Or.inl hx)))) (fun j => by rw [(r6.1.2.2.2 89 (by omega)).1, (r5.1.2.2.2 89 (by omega)).1]; exact e89 j) k6 ⟨by rw [r6.2 18 (by omega), ai_ne (by omega)]; exact f4.1, fun z => by rw [r6.2 19 (by omega), ai_ne (by omega)]; exact f4.2 z⟩ (by rw [r6.2 24 (by omega), ai_eq])
  · have ne2 : tkk T n b ≠ 2 := fun z => q (by rw [kk.2.2.1]; exact (mkd_3 tkk_le).mpr z)
    exact h0 ne2 h' r' (by rw [e']; exact kk.1)
end
