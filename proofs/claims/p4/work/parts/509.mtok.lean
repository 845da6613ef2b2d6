section
variable {g : ax_G} {Ret : Option Value → ax_H → Prop} {h : ax_H} {T : Nat → Int32} {n a s : Nat}
/-! the reference's token() -/
theorem b8_tab : ∀ k, k < 256 → 0 ≤ ((nI k - 128) &&& 255) ∧ (((nI k - 128) &&& 255) = 10 ↔ (nI k - 128) = 10) ∧ (((nI k - 128) &&& 255) = 32 ↔ (nI k - 128) = 32) ∧ (((nI k - 128) &&& 255) = 59 ↔ (nI k - 128) = 59) ∧ ((97 ≤ ((nI k - 128) &&& 255) ∧ ((nI k - 128) &&& 255) ≤ 122) ↔ (97 ≤ (nI k - 128) ∧ (nI k - 128) ≤ 122)) ∧ ((48 ≤ ((nI k - 128) &&& 255) ∧ ((nI k - 128) &&& 255) ≤ 57) ↔ (48 ≤ (nI k - 128) ∧ (nI k - 128) ≤ 57)) ∧ (48 ≤ (nI k - 128) → ((nI k - 128) &&& 255) = (nI k - 128)) := by decide +kernel
theorem b8 {x : Int32} (hx : fits .byte (.int x) = true) : 0 ≤ (x &&& 255) ∧ ((x &&& 255) = 10 ↔ x = 10) ∧ ((x &&& 255) = 32 ↔ x = 32) ∧ ((x &&& 255) = 59 ↔ x = 59) ∧ ((97 ≤ (x &&& 255) ∧ (x &&& 255) ≤ 122) ↔ (97 ≤ x ∧ x ≤ 122)) ∧ ((48 ≤ (x &&& 255) ∧ (x &&& 255) ≤ 57) ↔ (48 ≤ x ∧ x ≤ 57)) ∧ (48 ≤ x → (x &&& 255) = x) := by
  have hx : (-128 ≤ x ∧ x ≤ 127) := by simpa [fits] using hx
  have h1 := i_le.mp hx.1
  have h2 := i_le.mp hx.2
  have h1 : (-128 : Int) ≤ x.toInt := h1
  have h2 : x.toInt ≤ (127 : Int) := h2
  have e : x = nI (x.toInt + 128).toNat - 128 := by
    apply i_inj
    have e1 : (nI (x.toInt + 128).toNat).toInt = x.toInt + 128 := by rw [nI_toInt (by omega)]; omega
    rw [i32_sub (by rw [e1]; show -2147483648 ≤ x.toInt + 128 - (128 : Int); omega) (by rw [e1]; show x.toInt + 128 - (128 : Int) < 2147483648; omega), e1]
    show x.toInt = x.toInt + 128 - (128 : Int)
    omega
  have := b8_tab (x.toInt + 128).toNat (by omega)
  rw [← e] at this
  exact this
def mt_at (h : ax_H) (T : Nat → Int32) (n : Nat) : Prop := mo_st h 77 ∧ (∀ i, i < 600 → ax_i h 78 i = T i) ∧ ax_i h 77 12 = nI n
/-- fields of the reference's object alone; those with J k may change (ints), and its long 16 -/
def mf (J : Nat → Prop) (h h' : ax_H) : Prop := ax_same (fun b => b = 77) h h' ∧ ∀ k, ¬ J k → ax_i h' 77 k = ax_i h 77 k
theorem mf_rf {J : Nat → Prop} : mf J h h := ⟨sm_rf, fun _ _ => rfl⟩
theorem mf_tr {J : Nat → Prop} {h1 h2 : ax_H} (x : mf J h h1) (y : mf J h1 h2) : mf J h h2 := ⟨sm_tr x.1 y.1, fun k hk => (y.2 k hk).trans (x.2 k hk)⟩
theorem mf_pi {J : Nat → Prop} {k : Nat} {v : Int32} (hJ : J k) : mf J h (ax_pi h 77 k v) := ⟨sm_pi rfl, fun j hj => ai_ne (Or.inr (fun e => hj (e ▸ hJ)))⟩
theorem mf_pl {J : Nat → Prop} {k : Nat} {v : Int64} : mf J h (ax_pl h 77 k v) := ⟨sm_pl rfl, fun j _ => ai_pl⟩
theorem mf_mono {J J' : Nat → Prop} {h1 : ax_H} (x : mf J h h1) (i : ∀ k, J k → J' k) : mf J' h h1 := ⟨x.1, fun k hk => x.2 k (fun q => hk (i k q))⟩
theorem mf_mt {J : Nat → Prop} {h1 : ax_H} (x : mf J h h1) (i : ¬ J 12) (t : mt_at h T n) : mt_at h1 T n := ⟨mo_st_same x.1 t.1, fun j hj => by rw [(x.1.2.2.2 78 (by omega)).1]; exact t.2.1 j hj, by rw [x.2 12 i]; exact t.2.2⟩
def b255 (x : Int32) : Int32 := x &&& 255
theorem c_see {p : Nat} (t : mt_at h T n) (hn : n ≤ 600) (e11 : ax_i h 77 11 = nI p) (hp : p ≤ n) (hq : Ret (some (.int (if p < n then b255 (T p) else -1))) h) : mX10_see g [.ref 77] h Ret := by
  obtain ⟨r1, s1⟩ : ax_r h 77 1 = some 78 ∧ ax_s h 78 = (12, 2400) := t.1.2 0 _ rfl
  refine eX10_see ⟨t.1.1, t.1.1, fun q => ?_, fun q => ⟨t.1.1, 78, r1, t.1.1, sh_k s1, ?_, ?_⟩⟩
  · rw [t.2.2, e11] at q
    have q := (nI_leI (by omega) (by omega)).mp q
    rw [if_neg (by omega)] at hq; exact hq
  · rw [t.2.2, e11] at q
    have q := Nat.not_le.mp (fun z => q (nI_le (a := n) (b := p) z (by omega)))
    rw [e11, s1]; exact vp_in_nI (by omega) (by decide)
  · rw [t.2.2, e11] at q
    have q := Nat.not_le.mp (fun z => q (nI_le (a := n) (b := p) z (by omega)))
    rw [if_pos q] at hq
    rw [e11, nI_clamp (by omega), t.2.1 p (by omega)]; exact hq
def mkd (k : Nat) : Nat := [0, 2, 3, 4, 1].getD k 0
def bN (T : Nat → Int32) (s : Nat) : Nat → Nat := fun j => (T (s + j)).toInt.toNat
def mwd (T : Nat → Int32) (n a : Nat) : Int64 := if tkb T n a - tks T n a ≤ 8 then Int64.ofNat (pkF (bN T (tks T n a)) (tkb T n a - tks T n a)) else 0
/-- the token read last is that at place a -/
def mk_at (h : ax_H) (T : Nat → Int32) (n a : Nat) : Prop := ax_i h 77 13 = nI (tks T n a) ∧ ax_i h 77 11 = nI (tkb T n a) ∧ ax_i h 77 14 = nI (mkd (tkk T n a)) ∧ (tkk T n a = 2 → ax_i h 77 15 = nI (tkn T n a)) ∧ (tkk T n a = 1 → ax_l h 77 16 = mwd T n a)
theorem isL_b {x : Int32} (hx : isL x = true) : x = nI x.toInt.toNat ∧ 97 ≤ x.toInt.toNat ∧ x.toInt.toNat ≤ 122 := by
  obtain ⟨h1, h2⟩ := of_decide_eq_true hx
  have h1 : (97 : Int) ≤ x.toInt := i_le.mp h1
  have h2 : x.toInt ≤ (122 : Int) := i_le.mp h2
  refine ⟨i_inj ?_, by omega, by omega⟩
  rw [nI_toInt (by omega)]; omega
theorem c_mtoken (t : mt_at h T n) (hT : tyb T) (hn : n ≤ 600) (e11 : ax_i h 77 11 = nI a) (ha : a ≤ n) (hq : ∀ h', mf (fun k => 11 ≤ k ∧ k ≤ 15 ∧ k ≠ 12) h h' → mk_at h' T n a → Ret none h') : mX10_token g [.ref 77] h Ret := by
  refine uX10_token (fun A hA => ?_)
  -- letters
  have lets : ∀ m k : Nat, tks T n a + k + m = n → ∀ (hh : ax_H) (o1 : Option Value), mf (fun k => 11 ≤ k ∧ k ≤ 15 ∧ k ≠ 12) h hh → ax_i hh 77 13 = nI (tks T n a) → ax_i hh 77 11 = nI (tks T n a + k) → (k ≤ 8 → ax_l hh 77 16 = Int64.ofNat (pkF (bN T (tks T n a)) k)) → (∀ j, j < k → isL (T (tks T n a + j)) = true) → rn isL T n (tks T n a + k) = tkb T n a → tkk T n a = 1 → A (74, [some (.ref 77), o1, some (.int (nI k))], [], hh, 0, 0) := by
    intro m
    induction m with
    | zero =>
      intro k hk hh o1 r f13 f11 f16 al er ek
      have t1 := mf_mt r (by omega) t
      rw [rn_no (by omega)] at er
      refine vX10_token_74 hA ⟨t1.1.1, c_see t1 hn f11 (by omega) ⟨_, rfl, ?_⟩⟩
      rw [if_neg (by omega)]
      refine c_min ⟨_, rfl, fun _ => ⟨fun q => ⟨t1.1.1, t1.1.1, t1.1.1, ?_⟩, fun q => ⟨t1.1.1, t1.1.1, ?_⟩⟩, fun q => absurd rfl q⟩
      · have q := (nI_leI (a := k) (b := 8) (by omega) (by decide)).mp q
        refine hq _ (mf_tr r (mf_tr mf_pl (mf_pi (by omega)))) ⟨by rw [ai_ne (by omega), ai_pl]; exact f13, by rw [ai_ne (by omega), ai_pl, f11, er], by rw [ai_eq, ek]; rfl, fun z => by omega, fun _ => ?_⟩
        rw [al_pi, al_pl, if_pos ⟨rfl, rfl⟩, f16 q]
        unfold mwd; rw [← er, show tks T n a + k - tks T n a = k by omega, if_pos q]
      · have q := Nat.not_le.mp (fun z => q (nI_le (a := k) (b := 8) z (by decide)))
        refine hq _ (mf_tr r (mf_tr mf_pl (mf_pi (by omega)))) ⟨by rw [ai_ne (by omega), ai_pl]; exact f13, by rw [ai_ne (by omega), ai_pl, f11, er], by rw [ai_eq, ek]; rfl, fun z => by omega, fun _ => ?_⟩
        rw [al_pi, al_pl, if_pos ⟨rfl, rfl⟩]
        unfold mwd; rw [← er, show tks T n a + k - tks T n a = k by omega, if_neg (by omega)]
    | succ m ih =>
      intro k hk hh o1 r f13 f11 f16 al er ek
      have t1 := mf_mt r (by omega) t
      have hb := hT (tks T n a + k) (by omega)
      obtain ⟨-, -, -, -, bl, -, bi⟩ := b8 hb
      refine vX10_token_74 hA ⟨t1.1.1, c_see t1 hn f11 (by omega) ⟨_, rfl, ?_⟩⟩
      rw [if_pos (by omega)]
      refine c_min ⟨_, rfl, fun q => ?_, fun q => ⟨t1.1.1, t1.1.1, c_see t1 hn f11 (by omega) ⟨_, rfl, t1.1.1, rfl, t1.1.1, t1.1.1, ?_⟩⟩⟩
      · have nl : isL (T (tks T n a + k)) = false := decide_eq_false (fun z => of_decide_eq_false (b2i_0.mp q) (bl.mpr z))
        rw [rn_no (fun z => by rw [nl] at z; exact absurd z.2 (by decide))] at er
        refine ⟨fun q => ⟨t1.1.1, t1.1.1, t1.1.1, ?_⟩, fun q => ⟨t1.1.1, t1.1.1, ?_⟩⟩
        · have q := (nI_leI (a := k) (b := 8) (by omega) (by decide)).mp q
          refine hq _ (mf_tr r (mf_tr mf_pl (mf_pi (by omega)))) ⟨by rw [ai_ne (by omega), ai_pl]; exact f13, by rw [ai_ne (by omega), ai_pl, f11, er], by rw [ai_eq, ek]; rfl, fun z => by omega, fun _ => ?_⟩
          rw [al_pi, al_pl, if_pos ⟨rfl, rfl⟩, f16 q]
          unfold mwd; rw [← er, show tks T n a + k - tks T n a = k by omega, if_pos q]
        · have q := Nat.not_le.mp (fun z => q (nI_le (a := k) (b := 8) z (by decide)))
          refine hq _ (mf_tr r (mf_tr mf_pl (mf_pi (by omega)))) ⟨by rw [ai_ne (by omega), ai_pl]; exact f13, by rw [ai_ne (by omega), ai_pl, f11, er], by rw [ai_eq, ek]; rfl, fun z => by omega, fun _ => ?_⟩
          rw [al_pi, al_pl, if_pos ⟨rfl, rfl⟩]
          unfold mwd; rw [← er, show tks T n a + k - tks T n a = k by omega, if_neg (by omega)]
      · have yl : isL (T (tks T n a + k)) = true := decide_eq_true (bl.mp (of_decide_eq_true (b2i_n0.mp q)))
        obtain ⟨il, i1, i2⟩ := isL_b yl
        have e255 : b255 (T (tks T n a + k)) = nI (bN T (tks T n a) k) := by
          unfold b255
          rw [bi (by rw [il]; exact nI_le (a := 48) (by omega) (by omega))]
          exact il
        rw [if_pos (by omega), e255, ← nI_succ]
        refine ih (k + 1) (by omega) _ _ (mf_tr r (mf_tr mf_pl (mf_pi (by omega)))) ?_ ?_ (fun k8 => ?_) (fun j hj => ?_) ?_ ek
        · rw [ai_ne (by omega), ai_pl]; exact f13
        · rw [ai_eq, ai_pl, f11, ← nI_succ]; rfl
        · rw [al_pi, al_pl, if_pos ⟨rfl, rfl⟩, f16 (by omega)]
          have hb2 := (pkF_b (F := bN T (tks T n a)) (k := k) (by omega) (fun j hj => (isL_b (al j hj)).2.2)).2 (by omega)
          exact pk_sh hb2 (by show bN T (tks T n a) k < 256; unfold bN; omega)
        · by_cases ej : j = k
          · rw [ej]; exact yl
          · exact al j (by omega)
        · rw [← er, rn_go (a := tks T n a + k) (by omega) yl]; rfl
  -- digits
  have digs : ∀ m k : Nat, tks T n a + k + m = n → ∀ (hh : ax_H) (o1 : Option Value), mf (fun k => 11 ≤ k ∧ k ≤ 15 ∧ k ≠ 12) h hh → ax_i hh 77 13 = nI (tks T n a) → ax_i hh 77 11 = nI (tks T n a + k) → (k ≤ 3 → ax_i hh 77 15 = nI (dval T (tks T n a) k)) → rn isD T n (tks T n a + k) = tkb T n a → tkk T n a = (if tkb T n a - tks T n a ≤ 3 then 2 else 4) → A (163, [some (.ref 77), o1, some (.int (nI k))], [], hh, 0, 0) := by
    intro m
    have fin : ∀ (k : Nat) (hh : ax_H), tks T n a + k ≤ n → mf (fun k => 11 ≤ k ∧ k ≤ 15 ∧ k ≠ 12) h hh → ax_i hh 77 13 = nI (tks T n a) → ax_i hh 77 11 = nI (tks T n a + k) → (k ≤ 3 → ax_i hh 77 15 = nI (dval T (tks T n a) k)) → tks T n a + k = tkb T n a → tkk T n a = (if tkb T n a - tks T n a ≤ 3 then 2 else 4) → (nI k ≤ 3 → (ax_s hh 77).1 = 10 ∧ Ret none (ax_pi hh 77 14 3)) ∧ (¬ (nI k ≤ 3) → (ax_s hh 77).1 = 10 ∧ Ret none (ax_pi hh 77 14 1)) := by
      intro k hh hk r f13 f11 f15 er ek
      have t1 := mf_mt r (by omega) t
      rw [← er, show tks T n a + k - tks T n a = k by omega] at ek
      refine ⟨fun q => ⟨t1.1.1, ?_⟩, fun q => ⟨t1.1.1, ?_⟩⟩
      · have q := (nI_leI (a := k) (b := 3) (by omega) (by decide)).mp q
        rw [if_pos q] at ek
        refine hq _ (mf_tr r (mf_pi (by omega))) ⟨by rw [ai_ne (by omega)]; exact f13, by rw [ai_ne (by omega), f11, er], by rw [ai_eq, ek]; rfl, fun _ => ?_, fun z => by omega⟩
        rw [ai_ne (by omega), f15 q]
        unfold tkn; rw [← er, show tks T n a + k - tks T n a = k by omega]
      · have q := Nat.not_le.mp (fun z => q (nI_le (a := k) (b := 3) z (by decide)))
        rw [if_neg (by omega)] at ek
        exact hq _ (mf_tr r (mf_pi (by omega))) ⟨by rw [ai_ne (by omega)]; exact f13, by rw [ai_ne (by omega), f11, er], by rw [ai_eq, ek]; rfl, fun z => by omega, fun z => by omega⟩
    induction m with
    | zero =>
      intro k hk hh o1 r f13 f11 f15 er ek
      have t1 := mf_mt r (by omega) t
      rw [rn_no (by omega)] at er
      refine vX10_token_163 hA ⟨t1.1.1, c_see t1 hn f11 (by omega) ⟨_, rfl, ?_⟩⟩
      rw [if_neg (by omega)]
      exact c_min ⟨_, rfl, fun _ => fin k hh (by omega) r f13 f11 f15 er ek, fun q => absurd rfl q⟩
    | succ m ih =>
      intro k hk hh o1 r f13 f11 f15 er ek
      have t1 := mf_mt r (by omega) t
      have hb := hT (tks T n a + k) (by omega)
      obtain ⟨-, -, -, -, -, bd, bi⟩ := b8 hb
      refine vX10_token_163 hA ⟨t1.1.1, c_see t1 hn f11 (by omega) ⟨_, rfl, ?_⟩⟩
      rw [if_pos (by omega)]
      refine c_min ⟨_, rfl, fun q => ?_, fun q => ?_⟩
      · have nd : isD (T (tks T n a + k)) = false := decide_eq_false (fun z => of_decide_eq_false (b2i_0.mp q) (bd.mpr z))
        rw [rn_no (fun z => by rw [nd] at z; exact absurd z.2 (by decide))] at er
        exact fin k hh (by omega) r f13 f11 f15 er ek
      · have yd : isD (T (tks T n a + k)) = true := decide_eq_true (bd.mp (of_decide_eq_true (b2i_n0.mp q)))
        have er' : rn isD T n (tks T n a + (k + 1)) = tkb T n a := by rw [← er, rn_go (a := tks T n a + k) (by omega) yd]; rfl
        refine ⟨fun q2 => ⟨t1.1.1, t1.1.1, rfl, t1.1.1, t1.1.1, ?_⟩, fun q2 => ⟨t1.1.1, t1.1.1, c_see t1 hn f11 (by omega) ⟨_, rfl, t1.1.1, rfl, t1.1.1, t1.1.1, ?_⟩⟩⟩
        · have q2 := (nI_leI (a := 3) (b := k) (by decide) (by omega)).mp q2
          rw [← nI_succ]
          refine ih (k + 1) (by omega) _ _ (mf_tr r (mf_tr (mf_pi (by omega)) (mf_pi (by omega)))) ?_ ?_ (fun z => by omega) er' ek
          · rw [ai_ne (by omega), ai_ne (by omega)]; exact f13
          · rw [ai_eq, ai_ne (by omega), f11, ← nI_succ]; rfl
        · have q2 := Nat.not_le.mp (fun z => q2 (nI_le (a := 3) (b := k) z (by omega)))
          have e255 : b255 (T (tks T n a + k)) = T (tks T n a + k) := bi (of_decide_eq_true yd).1
          rw [if_pos (by omega), e255, f15 (by omega), ← nI_succ, show (10 : Int32) * nI (dval T (tks T n a) k) = nI (dval T (tks T n a) k) * 10 from Int32.mul_comm _ _, dval_nI yd]
          refine ih (k + 1) (by omega) _ _ (mf_tr r (mf_tr (mf_pi (by omega)) (mf_pi (by omega)))) ?_ ?_ (fun _ => ?_) er' ek
          · rw [ai_ne (by omega), ai_ne (by omega)]; exact f13
          · rw [ai_eq, ai_ne (by omega), f11, ← nI_succ]; rfl
          · rw [ai_ne (by omega), ai_eq]
  -- blanks
  have key : ∀ m k : Nat, k + m = n → ∀ (hh : ax_H) (o1 o2 : Option Value), mf (fun k => 11 ≤ k ∧ k ≤ 15 ∧ k ≠ 12) h hh → ax_i hh 77 11 = nI k → rn isB T n k = tks T n a → A (0, [some (.ref 77), o1, o2], [], hh, 0, 0) := by
    intro m
    induction m with
    | zero =>
      intro k hk hh o1 o2 r f11 er
      have t1 := mf_mt r (by omega) t
      rw [rn_no (by omega)] at er
      have e0 : tkk T n a = 0 := by unfold tkk; rw [if_neg (by omega)]
      have eb : tkb T n a = k := by unfold tkb; rw [if_neg (by omega), ← er]
      refine vX10_token_0 hA ⟨t1.1.1, c_see t1 hn f11 (by omega) ⟨_, rfl, fun q => ?_, fun _ => ⟨t1.1.1, c_see t1 hn f11 (by omega) ⟨_, rfl, fun _ => ⟨t1.1.1, t1.1.1, t1.1.1, ?_⟩, fun q => ?_⟩⟩⟩⟩
      · rw [if_neg (by omega)] at q; exact absurd q (by decide)
      · have r2 : mf (fun k => 11 ≤ k ∧ k ≤ 15 ∧ k ≠ 12) h (ax_pi hh 77 13 (ax_i hh 77 11)) := mf_tr r (mf_pi (by omega))
        have t2 := mf_mt r2 (by omega) t
        refine c_see t2 hn (by rw [ai_ne (by omega)]; exact f11) (by omega) ⟨_, rfl, t2.1.1, fun q => ?_, fun _ => ⟨t2.1.1, ?_⟩⟩
        · rw [if_neg (by omega)] at q; exact absurd q (by decide)
        · refine hq _ (mf_tr r2 (mf_tr mf_pl (mf_pi (by omega)))) ⟨?_, ?_, by rw [ai_eq, e0]; rfl, fun z => by omega, fun z => by omega⟩
          · rw [ai_ne (by omega), ai_pl, ai_eq, f11, er]
          · rw [ai_ne (by omega), ai_pl, ai_ne (by omega), f11, eb]
      · rw [if_neg (by omega)] at q; exact absurd q (by decide)
    | succ m ih =>
      intro k hk hh o1 o2 r f11 er
      have t1 := mf_mt r (by omega) t
      have hb := hT k (by omega)
      obtain ⟨b0, b10, b32, b59, bl, bd, bi⟩ := b8 hb
      have again : isB (T k) = true → A (0, [some (.ref 77), o1, o2], [], ax_pi hh 77 11 (ax_i hh 77 11 + 1), 0, 0) := fun b => ih (k + 1) (by omega) _ o1 o2 (mf_tr r (mf_pi (by omega))) (by rw [ai_eq, f11, ← nI_succ]) (by rw [← er, rn_go (by omega) b])
      refine vX10_token_0 hA ⟨t1.1.1, c_see t1 hn f11 (by omega) ⟨_, rfl, fun q => ⟨rfl, t1.1.1, t1.1.1, ?_⟩, fun q => ⟨t1.1.1, c_see t1 hn f11 (by omega) ⟨_, rfl, fun q2 => ⟨t1.1.1, t1.1.1, t1.1.1, ?_⟩, fun q2 => ⟨rfl, t1.1.1, t1.1.1, ?_⟩⟩⟩⟩⟩
      · rw [if_pos (by omega)] at q
        exact again (decide_eq_true (Or.inl (b10.mp q)))
      · rw [if_pos (by omega)] at q q2
        have nb : ¬ (k < n ∧ isB (T k) = true) := fun z => (of_decide_eq_true z.2).elim (fun w => q (b10.mpr w)) (fun w => q2 (b32.mpr w))
        rw [rn_no nb] at er
        have hs : tks T n a < n := by omega
        have r2 : mf (fun k => 11 ≤ k ∧ k ≤ 15 ∧ k ≠ 12) h (ax_pi hh 77 13 (ax_i hh 77 11)) := mf_tr r (mf_pi (by omega))
        have t2 := mf_mt r2 (by omega) t
        refine c_see t2 hn (by rw [ai_ne (by omega)]; exact f11) (by omega) ⟨_, rfl, t2.1.1, ?_⟩
        rw [if_pos (by omega)]
        have r3 : mf (fun k => 11 ≤ k ∧ k ≤ 15 ∧ k ≠ 12) h (ax_pl (ax_pi hh 77 13 (ax_i hh 77 11)) 77 16 0) := mf_tr r2 mf_pl
        have t3 := mf_mt r3 (by omega) t
        have g13 : ax_i (ax_pl (ax_pi hh 77 13 (ax_i hh 77 11)) 77 16 0) 77 13 = nI (tks T n a) := by rw [ai_pl, ai_eq, f11, er]
        have g11 : ax_i (ax_pl (ax_pi hh 77 13 (ax_i hh 77 11)) 77 16 0) 77 11 = nI k := by rw [ai_pl, ai_ne (by omega)]; exact f11
        have g16 : ax_l (ax_pl (ax_pi hh 77 13 (ax_i hh 77 11)) 77 16 0) 77 16 = 0 := by rw [al_pl, if_pos ⟨rfl, rfl⟩]
        revert r3 t3 g13 g11 g16
        generalize ax_pl (ax_pi hh 77 13 (ax_i hh 77 11)) 77 16 0 = h3
        intro r3 t3 g13 g11 g16
        refine ⟨fun _ => c_min ⟨_, rfl, fun q3 => ?_, fun q3 => ?_⟩, fun z => absurd b0 z⟩
        · have nl : isL (T k) = false := decide_eq_false (fun z => of_decide_eq_false (b2i_0.mp q3) (bl.mpr z))
          refine c_min ⟨_, rfl, fun q4 => ⟨rfl, t3.1.1, t3.1.1, ?_⟩, fun q4 => ⟨t3.1.1, ?_⟩⟩
          · have nd : isD (T k) = false := decide_eq_false (fun z => of_decide_eq_false (b2i_0.mp q4) (bd.mpr z))
            have eb : tkb T n a = k + 1 := by unfold tkb; rw [if_pos hs, ← er, nl, nd]; rfl
            refine ⟨fun q5 => ⟨t3.1.1, ?_⟩, fun q5 => ⟨t3.1.1, ?_⟩⟩
            · have ek : tkk T n a = 4 := by unfold tkk; rw [if_pos hs, ← er, nl, nd, if_neg (fun w => q5 (b59.mpr w))]; rfl
              refine hq _ (mf_tr r3 (mf_tr (mf_pi (by omega)) (mf_pi (by omega)))) ⟨by rw [ai_ne (by omega), ai_ne (by omega)]; exact g13, ?_, by rw [ai_eq, ek]; rfl, fun z => by omega, fun z => by omega⟩
              rw [ai_ne (by omega), ai_eq, g11, eb, ← nI_succ]
            · have ek : tkk T n a = 3 := by unfold tkk; rw [if_pos hs, ← er, nl, nd, if_pos (b59.mp q5)]; rfl
              refine hq _ (mf_tr r3 (mf_tr (mf_pi (by omega)) (mf_pi (by omega)))) ⟨by rw [ai_ne (by omega), ai_ne (by omega)]; exact g13, ?_, by rw [ai_eq, ek]; rfl, fun z => by omega, fun z => by omega⟩
              rw [ai_ne (by omega), ai_eq, g11, eb, ← nI_succ]
          · have yd : isD (T k) = true := decide_eq_true (bd.mp (of_decide_eq_true (b2i_n0.mp q4)))
            have eb : tkb T n a = rn isD T n (tks T n a) := by unfold tkb; rw [if_pos hs, ← er, nl, yd]; rfl
            have ek : tkk T n a = (if tkb T n a - tks T n a ≤ 3 then 2 else 4) := by rw [eb]; unfold tkk; rw [if_pos hs, ← er, nl, yd]; rfl
            refine digs (n - tks T n a) 0 (by omega) _ _ (mf_tr r3 (mf_pi (by omega))) (by rw [ai_ne (by omega)]; exact g13) (by rw [ai_ne (by omega), g11, er]; rfl) (fun _ => ai_eq) eb.symm ek
        · have yl : isL (T k) = true := decide_eq_true (bl.mp (of_decide_eq_true (b2i_n0.mp q3)))
          have eb : tkb T n a = rn isL T n (tks T n a) := by unfold tkb; rw [if_pos hs, ← er, if_pos yl]
          have ek : tkk T n a = 1 := by unfold tkk; rw [if_pos hs, ← er, if_pos yl]
          exact lets (n - tks T n a) 0 (by omega) _ _ r3 g13 (by rw [g11, er]; rfl) (fun _ => g16) (fun j hj => absurd hj (Nat.not_lt_zero j)) eb.symm ek
      · rw [if_pos (by omega)] at q2
        exact again (decide_eq_true (Or.inr (b32.mp q2)))
  exact key (n - a) a (by omega) h _ _ mf_rf e11 rfl
end
