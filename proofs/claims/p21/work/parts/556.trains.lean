section
variable {g : ax_G} {Ret : Option Value → ax_H → Prop} {h : ax_H} {z : Nat → Nat} {DD : Nat → rD} {N : Nat → Nat → Nat} {C : Nat → Nat → Nat → Nat → Int32} {S : sT} {Im : Nat → Option sT} {tp : Nat → Nat} {B : Nat}
/-! a republic and lines of a sort -/
def qw (z0 zs : Nat) (x1 x2 d : Int32) (f : Nat → Nat → Int32) : Int32 := if sp_in x1 z0 && sp_in x2 zs then f x1.toNatClampNeg x2.toNatClampNeg else d
theorem qw_n1 {z0 zs : Nat} {x1 x2 d : Int32} {f : Nat → Nat → Int32} (e : sp_in x1 z0 = false) : qw z0 zs x1 x2 d f = d := by unfold qw; rw [e]; rfl
theorem qw_n2 {z0 zs : Nat} {x1 x2 d : Int32} {f : Nat → Nat → Int32} (e : sp_in x2 zs = false) : qw z0 zs x1 x2 d f = d := by unfold qw; rw [e, Bool.and_false]; rfl
theorem qw_y {z0 zs k w : Nat} {x1 x2 d : Int32} {f : Nat → Nat → Int32} (h0 : z0 ≤ 2) (h1 : zs ≤ 2) (hk : k < z0) (e1 : x1 = nI k) (hw : w < zs) (e2 : x2 = nI w) : qw z0 zs x1 x2 d f = f k w := by
  unfold qw
  rw [e1, e2, sp_in_nI (by omega) hk, sp_in_nI (by omega) hw, nI_clamp (by omega), nI_clamp (by omega)]; rfl
/-! trains -/
def ldT (C1 : Nat → Nat → Int32) (s : Int32) (k : Nat) : Int32 := sp_ld (C1 k 0) (C1 k 1) (C1 (k + 1) 0) s
def slk (C1 : Nat → Nat → Int32) (k : Nat) : Nat → Int32
  | 0 => 1000
  | j + 1 => if ldT C1 (nI j) k < slk C1 k j then ldT C1 (nI j) k else slk C1 k j
def hdk (C1 : Nat → Nat → Int32) (H : Nat) : Nat → Int32
  | 0 => 1000
  | k + 1 => if slk C1 k H < hdk C1 H k then slk C1 k H else hdk C1 H k
def sbk (C1 : Nat → Nat → Int32) (s : Int32) : Nat → Int32
  | 0 => 1000
  | k + 1 => if ldT C1 s k ≤ sbk C1 s k then ldT C1 s k else sbk C1 s k
def hdm (C1 : Nat → Nat → Int32) (K : Nat) : Nat → Int32
  | 0 => 1000
  | j + 1 => if sbk C1 (nI j) K ≤ hdm C1 K j then sbk C1 (nI j) K else hdm C1 K j
/-- the least of 1000 and of what stands at the places of P -/
def mnP (P : Int32 → Prop) (V : Int32) : Prop := (V = 1000 ∨ P V) ∧ V.toInt ≤ 1000 ∧ ∀ x, P x → V.toInt ≤ x.toInt
theorem mnP_u {P : Int32 → Prop} {V W : Int32} (a : mnP P V) (b : mnP P W) : V = W := by
  have t : (1000 : Int32).toInt = 1000 := rfl
  have a1 : W.toInt ≤ V.toInt := by
    rcases a.1 with e | e
    · rw [e, t]; exact b.2.1
    · exact b.2.2 V e
  have a2 : V.toInt ≤ W.toInt := by
    rcases b.1 with e | e
    · rw [e, t]; exact a.2.1
    · exact a.2.2 W e
  exact i_inj (by omega)
theorem mnP_0 {P : Int32 → Prop} (n : ∀ x, ¬ P x) : mnP P 1000 := ⟨Or.inl rfl, Int.le_refl _, fun x q => absurd q (n x)⟩
/-- one more place -/
theorem mnP_s {P Q R : Int32 → Prop} {V W X : Int32} (a : mnP P V) (b : mnP Q W) (r : ∀ x, R x ↔ P x ∨ Q x) (e : X = V ∧ V.toInt ≤ W.toInt ∨ X = W ∧ W.toInt ≤ V.toInt) : mnP R X := by
  rcases e with ⟨rfl, l⟩ | ⟨rfl, l⟩
  · refine ⟨a.1.imp id (fun q => (r _).mpr (Or.inl q)), a.2.1, fun x q => ?_⟩
    rcases (r x).mp q with w | w
    · exact a.2.2 x w
    · have := b.2.2 x w; omega
  · refine ⟨b.1.imp id (fun q => (r _).mpr (Or.inr q)), b.2.1, fun x q => ?_⟩
    rcases (r x).mp q with w | w
    · have := a.2.2 x w; omega
    · exact b.2.2 x w
theorem if_lt_min {x y : Int32} : (if x < y then x else y) = y ∧ y.toInt ≤ x.toInt ∨ (if x < y then x else y) = x ∧ x.toInt ≤ y.toInt := by
  by_cases c : x < y
  · rw [if_pos c]; rw [i_lt] at c; exact Or.inr ⟨rfl, by omega⟩
  · rw [if_neg c]; rw [i_lt] at c; exact Or.inl ⟨rfl, by omega⟩
theorem if_le_min {x y : Int32} : (if x ≤ y then x else y) = y ∧ y.toInt ≤ x.toInt ∨ (if x ≤ y then x else y) = x ∧ x.toInt ≤ y.toInt := by
  by_cases c : x ≤ y
  · rw [if_pos c]; rw [i_le] at c; exact Or.inr ⟨rfl, by omega⟩
  · rw [if_neg c]; rw [i_le] at c; exact Or.inl ⟨rfl, by omega⟩
/-- leads are small -/
theorem ld_bd {C1 : Nat → Nat → Int32} {n k j : Nat} (ok : ln_ok 3 n C1) (hk : k + 1 < n) (hj : j < 12) : -100 ≤ (ldT C1 (nI j) k).toInt ∧ (ldT C1 (nI j) k).toInt ≤ 100 := by
  obtain ⟨a0, b0, ha, hb1, hb, ea, eb⟩ := ok.2 k (by omega)
  obtain ⟨a1, b1, ha1, hb11, hb2, ea1, eb1⟩ := ok.2 (k + 1) hk
  unfold ldT sp_ld
  rw [ea, eb, ea1, tt_nI (by omega) (by omega), tt_nI (by omega) (by omega)]
  have u1 : (if a1 ≤ j then a1 else a1 + 1) ≤ 13 := by split <;> omega
  have u2 : (if a0 ≤ j then a0 else a0 + 1) ≤ 13 := by split <;> omega
  generalize (if a1 ≤ j then a1 else a1 + 1) = p at u1 ⊢
  generalize (if a0 ≤ j then a0 else a0 + 1) = q at u2 ⊢
  have e1 := pk_sub_toInt (a := p) (b := q) (by omega) (by omega)
  have e2 := nI_toInt (n := b0) (by omega)
  rw [i32_sub (by rw [e1, e2]; omega) (by rw [e1, e2]; omega), e1, e2]
  omega
theorem mn_1 {x : Int32} (l : x.toInt ≤ 1000) : mnP (fun y => y = x) x := ⟨Or.inr rfl, l, fun y e => by rw [e]; exact Int.le_refl _⟩
theorem slk_mn {C1 : Nat → Nat → Int32} {n k : Nat} (ok : ln_ok 3 n C1) (hk : k + 1 < n) : ∀ J, J ≤ 12 → mnP (fun x => ∃ j, j < J ∧ x = ldT C1 (nI j) k) (slk C1 k J)
  | 0, _ => mnP_0 (fun x ⟨j, hj, _⟩ => Nat.not_lt_zero j hj)
  | J + 1, hJ => mnP_s (slk_mn ok hk J (by omega)) (mn_1 (x := ldT C1 (nI J) k) (by have := ld_bd ok hk (j := J) (by omega); omega)) (fun x => ⟨fun ⟨j, hj, e⟩ => by
      rcases Nat.lt_or_ge j J with q | q
      · exact Or.inl ⟨j, q, e⟩
      · rw [show j = J by omega] at e; exact Or.inr e, fun q => q.elim (fun ⟨j, hj, e⟩ => ⟨j, by omega, e⟩) (fun e => ⟨J, by omega, e⟩)⟩) if_lt_min
theorem hdk_mn {C1 : Nat → Nat → Int32} {n H : Nat} (ok : ln_ok 3 n C1) (hH : H ≤ 12) : ∀ K, K ≤ n - 1 → mnP (fun x => ∃ k, k < K ∧ ∃ j, j < H ∧ x = ldT C1 (nI j) k) (hdk C1 H K)
  | 0, _ => mnP_0 (fun x ⟨k, hk, _⟩ => Nat.not_lt_zero k hk)
  | K + 1, hK => mnP_s (hdk_mn ok hH K (by omega)) (slk_mn ok (by omega) H hH) (fun x => ⟨fun ⟨k, hk, e⟩ => by
      rcases Nat.lt_or_ge k K with q | q
      · exact Or.inl ⟨k, q, e⟩
      · rw [show k = K by omega] at e; exact Or.inr e, fun q => q.elim (fun ⟨k, hk, e⟩ => ⟨k, by omega, e⟩) (fun e => ⟨K, by omega, e⟩)⟩) if_lt_min
theorem sbk_mn {C1 : Nat → Nat → Int32} {n j : Nat} (ok : ln_ok 3 n C1) (hj : j < 12) : ∀ K, K ≤ n - 1 → mnP (fun x => ∃ k, k < K ∧ x = ldT C1 (nI j) k) (sbk C1 (nI j) K)
  | 0, _ => mnP_0 (fun x ⟨k, hk, _⟩ => Nat.not_lt_zero k hk)
  | K + 1, hK => mnP_s (sbk_mn ok hj K (by omega)) (mn_1 (x := ldT C1 (nI j) K) (by have := ld_bd ok (k := K) (j := j) (by omega) hj; omega)) (fun x => ⟨fun ⟨k, hk, e⟩ => by
      rcases Nat.lt_or_ge k K with q | q
      · exact Or.inl ⟨k, q, e⟩
      · rw [show k = K by omega] at e; exact Or.inr e, fun q => q.elim (fun ⟨k, hk, e⟩ => ⟨k, by omega, e⟩) (fun e => ⟨K, by omega, e⟩)⟩) if_le_min
theorem hdm_mn {C1 : Nat → Nat → Int32} {n K : Nat} (ok : ln_ok 3 n C1) (hK : K ≤ n - 1) : ∀ J, J ≤ 12 → mnP (fun x => ∃ j, j < J ∧ ∃ k, k < K ∧ x = ldT C1 (nI j) k) (hdm C1 K J)
  | 0, _ => mnP_0 (fun x ⟨j, hj, _⟩ => Nat.not_lt_zero j hj)
  | J + 1, hJ => mnP_s (hdm_mn ok hK J (by omega)) (sbk_mn ok (by omega) K hK) (fun x => ⟨fun ⟨j, hj, e⟩ => by
      rcases Nat.lt_or_ge j J with q | q
      · exact Or.inl ⟨j, q, e⟩
      · rw [show j = J by omega] at e; exact Or.inr e, fun q => q.elim (fun ⟨j, hj, e⟩ => ⟨j, by omega, e⟩) (fun e => ⟨J, by omega, e⟩)⟩) if_le_min
theorem hd_eq {C1 : Nat → Nat → Int32} {n H : Nat} (ok : ln_ok 3 n C1) (hH : H ≤ 12) : hdm C1 (n - 1) H = hdk C1 H (n - 1) := by
  have a := hdm_mn ok (Nat.le_refl (n - 1)) H hH
  have b := hdk_mn ok hH (n - 1) (Nat.le_refl _)
  refine mnP_u (P := fun x => ∃ k, k < n - 1 ∧ ∃ j, j < H ∧ x = ldT C1 (nI j) k) ⟨a.1.imp id (fun ⟨j, hj, k, hk, e⟩ => ⟨k, hk, j, hj, e⟩), a.2.1, fun x ⟨k, hk, j, hj, e⟩ => a.2.2 x ⟨j, hj, k, hk, e⟩⟩ b
theorem sb_nn {C1 : Nat → Nat → Int32} {s : Int32} : ∀ K, (¬ sbk C1 s K < 0) ↔ ∀ k, k < K → 0 ≤ ldT C1 s k
  | 0 => ⟨fun _ k hk => absurd hk (Nat.not_lt_zero k), fun _ => by show ¬ (1000 : Int32) < 0; decide⟩
  | K + 1 => by
    have ih := sb_nn (C1 := C1) (s := s) K
    have z0 : (0 : Int32).toInt = 0 := rfl
    have m : sbk C1 s (K + 1) = sbk C1 s K ∧ (sbk C1 s K).toInt ≤ (ldT C1 s K).toInt ∨ sbk C1 s (K + 1) = ldT C1 s K ∧ (ldT C1 s K).toInt ≤ (sbk C1 s K).toInt := if_le_min
    constructor
    · intro q k hk
      rw [i_lt, z0] at q
      have a : ¬ sbk C1 s K < 0 := by rw [i_lt, z0]; rcases m with ⟨e, l⟩ | ⟨e, l⟩ <;> rw [e] at q <;> omega
      have b : 0 ≤ ldT C1 s K := by rw [i_le, z0]; rcases m with ⟨e, l⟩ | ⟨e, l⟩ <;> rw [e] at q <;> omega
      rcases Nat.lt_or_ge k K with w | w
      · exact ih.mp a k w
      · rw [show k = K by omega]; exact b
    · intro all
      have a := ih.mpr (fun k hk => all k (by omega))
      have b := all K (by omega)
      rw [i_lt, z0] at a ⊢
      rw [i_le, z0] at b
      rcases m with ⟨e, l⟩ | ⟨e, l⟩ <;> rw [e] <;> omega
section
variable {l n : Nat} {C1 : Nat → Nat → Int32} {r : Nat} {D : rD}
theorem c_leadOfE {k : Nat} {s : Int32} (L : li_at h l 3 n C1) (hk : k + 1 < n) (hq : Ret (some (.int (ldT C1 s k))) h) : mX9_leadOf g [.ref l, .int (nI k), .int s] h Ret := by
  have n8 : n ≤ 8 := L.2.1
  refine eX9_leadOf ⟨L.1.1, c_lcell (by decide) (by decide) L ⟨_, rfl, L.1.1, c_lcell (by decide) (by decide) L ⟨_, rfl, L.1.1, ?_⟩⟩⟩
  rw [← nI_succ, show sp_lc n (lw 3) C1 (nI k) 0 = C1 k 0 from lc_in (j := 0) (by omega) (by decide) (by omega) (by decide), show sp_lc n (lw 3) C1 (nI k) 1 = C1 k 1 from lc_in (j := 1) (by omega) (by decide) (by omega) (by decide)]
  refine c_lcell (by decide) (by decide) L ⟨_, rfl, ?_⟩
  rw [show sp_lc n (lw 3) C1 (nI (k + 1)) 0 = C1 (k + 1) 0 from lc_in (j := 0) (by omega) (by decide) (by omega) (by decide)]
  exact c_lead ⟨_, rfl, hq⟩
theorem c_keepsByE {s : Int32} (L : li_at h l 3 n C1) (h1 : ¬ sbk C1 s (n - 1) < 0 → Ret (some (.int 1)) h) (h0 : sbk C1 s (n - 1) < 0 → Ret (some (.int 0)) h) : mX9_keepsBy g [.ref l, .int s] h Ret := by
  have n8 : n ≤ 8 := L.2.1
  refine uX9_keepsBy (fun A hA => vX9_keepsBy_0 hA ?_)
  have key : ∀ k i : Nat, n ≤ i + 1 + k → i ≤ 8 → (∀ j, j < i → j + 1 < n → 0 ≤ ldT C1 s j) → A (2, [some (.ref l), some (.int s), some (.int (nI i))], [], h, 0, 0) := by
    intro k
    induction k with
    | zero =>
      intro i hi i8 al
      refine vX9_keepsBy_2 hA ⟨L.1.1, fun _ => ⟨Or.inr rfl, h1 ((sb_nn _).mpr (fun j hj => al j (by omega) (by omega)))⟩, fun q => ?_⟩
      rw [L.2.2.1, ← nI_succ] at q; exact absurd (nI_le (by omega) (by omega)) q
    | succ k ih =>
      intro i hi i8 al
      refine vX9_keepsBy_2 hA ⟨L.1.1, fun q => ⟨Or.inr rfl, h1 ((sb_nn _).mpr (fun j hj => ?_))⟩, fun q => ?_⟩
      · rw [L.2.2.1, ← nI_succ, nI_leI (by omega) (by omega)] at q
        exact al j (by omega) (by omega)
      · rw [L.2.2.1, ← nI_succ, nI_leI (by omega) (by omega)] at q
        refine c_leadOfE L (by omega) ⟨_, rfl, fun c => ?_, fun c => ⟨Or.inl rfl, h0 ?_⟩⟩
        · rw [← nI_succ]
          refine ih (i + 1) (by omega) (by omega) (fun j hj hn => ?_)
          rcases Nat.lt_or_ge j i with w | w
          · exact al j w hn
          · rw [show j = i by omega]; exact c
        · rcases Classical.em (sbk C1 s (n - 1) < 0) with w | w
          · exact w
          · exact absurd ((sb_nn _).mp w i (by omega)) c
  exact key 8 0 (by omega) (by omega) (fun j hj _ => absurd hj (Nat.not_lt_zero j))
theorem c_slackOfE {k : Nat} (rc : rc_at h r D) (L : li_at h l 3 n C1) (hk : k + 1 < n) (hq : Ret (some (.int (slk C1 k (dH D)))) h) : mX9_slackOf g [.ref r, .ref l, .int (nI k)] h Ret := by
  have H12 := rc.2.1.1
  refine uX9_slackOf (fun A hA => vX9_slackOf_0 hA ?_)
  have key : ∀ m i : Nat, i + m = dH D → A (7, [some (.ref r), some (.ref l), some (.int (nI k)), some (.int (slk C1 k i)), some (.int (nI i))], [], h, 0, 0) := by
    intro m
    induction m with
    | zero =>
      intro i hi
      refine vX9_slackOf_7 hA ⟨rc.1.1, fun _ => by rw [show i = dH D by omega]; exact hq, fun q => ?_⟩
      rw [rc.2.2.1.1] at q; exact absurd (nI_le (by omega) (by omega)) q
    | succ m ih =>
      intro i hi
      refine vX9_slackOf_7 hA ⟨rc.1.1, fun q => ?_, fun _ => c_leadOfE L hk ⟨_, rfl, ?_⟩⟩
      · rw [rc.2.2.1.1] at q; exact absurd q (nI_ge (by omega) (by omega))
      · rw [← nI_succ]; exact ih (i + 1) (by omega)
  exact key (dH D) 0 (by omega)
end
/-! the table and the republic, of the reference -/
def tbE (h hh : ax_H) (k : Nat) (D : rD) (w : Nat) : Prop := lmE h hh k D (dpu D) ∧ ax_i hh 77 47 = nI w
theorem q_tabE {x1 x2 d : Int32} {P : Int32 → ax_H → Prop} (a : tc h z DD N C) (h1 : ∀ k w h', k < z 0 → x1 = nI k → w < z 3 → x2 = nI w → rd_ok (DD k) → tbE h h' k (DD k) w → P 1 h') (h0 : ∀ h', ax_same md_F h h' → sp_in x1 (z 0) = false → P 0 h') (h2 : ∀ h', ax_same md_F h h' → sp_in x2 (z 3) = false → Ret (some (.int d)) h') : mX10_hasTable g [.ref 77, .int x2] (ax_pi h 77 0 0) (fun v3 h2 => ∃ r4 : Int32, v3 = some (.int r4) ∧ ((r4 = 0 → Ret (some (.int d)) h2) ∧ (¬ (r4 = 0) → ((ax_s h2 77).1 = 10 ∧ mX10_hand g [.ref 77, .int x1] h2 (fun v6 h5 => ∃ r7 : Int32, v6 = some (.int r7) ∧ P r7 h5))))) := by
  obtain ⟨a1, T1, hs1⟩ := q_code (v := 0) a.2.1 a.2.2.2.1
  obtain ⟨a2, T2, hs2⟩ := mf_keep (k := 47) (v := x2) a1 T1
  refine c_mhasTable a1 T1 a.2.2.2.2 ⟨_, rfl, fun q => h2 _ (sm_tr hs1 hs2) (b2i_0.mp q), fun q => ⟨a2.1, q_handR a2 T2 a.2.2.2.2 (fun e => ⟨_, rfl, h0 _ (sm_tr hs1 hs2) e⟩) (fun k hk ex ok h' hs hm => ⟨_, rfl, ?_⟩)⟩⟩
  obtain ⟨w, hw, ew⟩ := sp_in_ix (by have := a.2.2.2.2.1 3 (by decide); omega) (b2i_n0.mp q)
  exact h1 k w h' hk ex hw ew ok ⟨lm_hm (sm_tr hs1 (sm_tr hs2 (hd_md hs))) hm, by rw [(hs.2 47 (by unfold hd_J; decide)).1, ← ew]; exact ai_eq⟩
theorem c_mslackByE {hh : ax_H} {k w : Nat} {s : Int32} (a : tc h z DD N C) (T : tbE h hh k (DD k) w) (hw : w < z 3) (hq : Ret (some (.int (sbk (C 3 w) s (N 3 w - 1)))) hh) : mX10_slackBy g [.ref 77, .int s] hh Ret := by
  have c := tc_md T.1.1 a
  have n8 : N 3 w ≤ 8 := (a.2.2.2.2.2.2 3 w (by decide) (by decide) hw).1
  have s0 := c.2.1.1
  refine uX10_slackBy (fun A hA => vX10_slackBy_0 hA ?_)
  have key : ∀ m i : Nat, N 3 w ≤ i + 1 + m → i ≤ 8 → i ≤ N 3 w - 1 → A (6, [some (.ref 77), some (.int s), some (.int (sbk (C 3 w) s i)), some (.int (nI i))], [], hh, 0, 0) := by
    intro m
    induction m with
    | zero =>
      intro i hi i8 ii
      refine vX10_slackBy_6 hA ⟨s0, c_mtrains c.2.1 c.2.2.2.1 c.2.2.2.2 hw T.2 ⟨_, rfl, fun _ => by rw [show i = N 3 w - 1 by omega]; exact hq, fun q => ?_⟩⟩
      rw [← nI_succ] at q; exact absurd (nI_le (by omega) (by omega)) q
    | succ m ih =>
      intro i hi i8 ii
      refine vX10_slackBy_6 hA ⟨s0, c_mtrains c.2.1 c.2.2.2.1 c.2.2.2.2 hw T.2 ⟨_, rfl, fun q => ?_, fun q => ⟨s0, ?_⟩⟩⟩
      · rw [← nI_succ, nI_leI (by omega) (by omega)] at q
        rw [show i = N 3 w - 1 by omega]; exact hq
      · rw [← nI_succ, nI_leI (by omega) (by omega)] at q
        rw [← nI_succ]
        have st := ih (i + 1) (by omega) (by omega) (by omega)
        refine c_mtrainOf (j := 0) c.2.1 c.2.2.2.1 c.2.2.2.2 hw T.2 (by omega) (by decide) ⟨_, rfl, c_trueAt ⟨_, rfl, s0, c_mtrainOf (j := 0) c.2.1 c.2.2.2.1 c.2.2.2.2 hw T.2 (by omega) (by decide) ⟨_, rfl, c_trueAt ⟨_, rfl, s0, c_mtrainOf (j := 1) c.2.1 c.2.2.2.1 c.2.2.2.2 hw T.2 (by omega) (by decide) ⟨_, rfl, eX10_lesser ⟨fun d => ⟨_, rfl, ?_⟩, fun d => ⟨_, rfl, ?_⟩⟩⟩⟩⟩⟩⟩
        · rw [show sbk (C 3 w) s (i + 1) = ldT (C 3 w) s i from if_pos d] at st
          exact st
        · rw [show sbk (C 3 w) s (i + 1) = sbk (C 3 w) s i from if_neg d] at st
          exact st
  exact key 8 0 (by omega) (by omega) (by omega)
/-! HOLDS: the same answer -/
def s_holds (DD : Nat → rD) (N : Nat → Nat → Nat) (C : Nat → Nat → Nat → Nat → Int32) (x3 : Int32) (k w : Nat) : Int32 := if x3 = -1 then hdk (C 3 w) (dH (DD k)) (N 3 w - 1) else if sp_in x3 (dH (DD k)) then (if sbk (C 3 w) x3 (N 3 w - 1) < 0 then 0 else 1) else -1000
theorem q9_holds {x1 x2 x3 : Int32} (a : tc h z DD N C) (hq : ∀ h', ax_same cl_F h h' → Ret (some (.int (qw (z 0) (z 3) x1 x2 (-1000) (s_holds DD N C x3)))) h') : mX9_holds g [.ref 0, .int x1, .int x2, .int x3] h Ret := by
  have z0 := a.2.2.2.2.1 0 (by decide)
  have z3 := a.2.2.2.2.1 3 (by decide)
  have hv := hq h sm_rf
  have b1 : sp_in x1 (z 0) = false → Ret (some (.int (-1000))) h := fun e => by rw [qw_n1 e] at hv; exact hv
  have b2 : sp_in x2 (z 3) = false → Ret (some (.int (-1000))) h := fun e => by rw [qw_n2 e] at hv; exact hv
  refine uX9_holds (fun A hA => vX9_holds_0 hA ⟨a.1.1, _, a.1.2.1.1, a.2.2.1.1.1, c_republicAt a.2.2.1 (fun q => Or.inr ⟨rfl, a.1.1, _, a.1.2.1.1, a.2.2.1.1.1, c_linesAt (s0 := 3) a.2.2.1 (by decide) (by decide) (fun _ => Or.inr ⟨rfl, b1 q⟩) (fun k hk ex => Or.inl ⟨_, rfl, b1 q⟩)⟩) (fun k hk ex => Or.inl ⟨_, rfl, a.1.1, _, a.1.2.1.1, a.2.2.1.1.1, c_linesAt (s0 := 3) a.2.2.1 (by decide) (by decide) (fun q => Or.inr ⟨rfl, b2 q⟩) (fun w hw ew => Or.inl ⟨_, rfl, ?_⟩)⟩)⟩)
  rw [qw_y z0 z3 hk ex hw ew] at hv
  unfold s_holds at hv
  have rc := a.2.2.1.2.2.1 k hk
  have L := a.2.2.1.2.2.2 3 w (by decide) (by decide) hw
  have n8 : N 3 w ≤ 8 := L.2.1
  refine ⟨fun e => ⟨fun _ => ?_, fun q => absurd e q⟩, fun e => ⟨rc.1.1, c_hasHour rc ⟨_, rfl, fun q1 => ⟨fun q => absurd q e, fun _ => c_keepsByE L (fun c => ⟨_, rfl, fun q => absurd q (by decide), fun _ => ?_⟩) (fun c => ⟨_, rfl, fun _ => ?_, fun q => absurd rfl q⟩)⟩, fun q1 => ?_⟩⟩⟩
  · rw [if_pos e] at hv
    have key : ∀ m i : Nat, N 3 w ≤ i + 1 + m → i ≤ 8 → i ≤ N 3 w - 1 → A (77, [some (.ref 0), some (.int x1), some (.int x2), some (.int x3), some (.ref (1 + 5 + 14 * k)), some (.ref (lnp 1 3 w)), some (.int (hdk (C 3 w) (dH (DD k)) i)), some (.int (nI i))], [], h, 0, 0) := by
      intro m
      induction m with
      | zero =>
        intro i hi i8 ii
        refine vX9_holds_77 hA ⟨L.1.1, fun _ => by rw [show i = N 3 w - 1 by omega]; exact hv, fun q => ?_⟩
        rw [L.2.2.1, ← nI_succ] at q; exact absurd (nI_le (by omega) (by omega)) q
      | succ m ih =>
        intro i hi i8 ii
        refine vX9_holds_77 hA ⟨L.1.1, fun q => ?_, fun q => ?_⟩
        · rw [L.2.2.1, ← nI_succ, nI_leI (by omega) (by omega)] at q
          rw [show i = N 3 w - 1 by omega]; exact hv
        · rw [L.2.2.1, ← nI_succ, nI_leI (by omega) (by omega)] at q
          refine c_slackOfE rc L (by omega) ⟨_, rfl, ?_⟩
          rw [← nI_succ]; exact ih (i + 1) (by omega) (by omega) (by omega)
    exact key 8 0 (by omega) (by omega) (by omega)
  · rw [if_neg e, if_pos (b2i_n0.mp q1), if_neg c] at hv; exact hv
  · rw [if_neg e, if_pos (b2i_n0.mp q1), if_pos c] at hv; exact hv
  · rw [if_neg e, b2i_0.mp q1, if_neg Bool.false_ne_true] at hv; exact hv
theorem q10_holds {x1 x2 x3 : Int32} (a : tc h z DD N C) (hq : ∀ h', ax_same md_F h h' → Ret (some (.int (qw (z 0) (z 3) x1 x2 (-1000) (s_holds DD N C x3)))) h') : mX10_holds g [.ref 77, .int x1, .int x2, .int x3] h Ret := by
  have z0 := a.2.2.2.2.1 0 (by decide)
  have z3 := a.2.2.2.2.1 3 (by decide)
  refine uX10_holds (fun A hA => vX10_holds_0 hA ⟨a.2.1.1, ?_⟩)
  intro u1
  refine ⟨a.2.1.1, q_tabE a (fun k w h' hk ex hw ew ok T => ?_) (fun h' s e => ⟨fun _ => by have hv := hq h' s; rw [qw_n1 e] at hv; exact hv, fun q => absurd rfl q⟩) (fun h' s e => by have hv := hq h' s; rw [qw_n2 e] at hv; exact hv)⟩
  have hv := hq h' T.1.1
  rw [qw_y z0 z3 hk ex hw ew] at hv
  unfold s_holds at hv
  have mc := T.1.2.1
  have s0 := mc.1.1.1
  have H12 := ok.1.2
  have lo := a.2.2.2.2.2.2 3 w (by decide) (by decide) hw
  refine ⟨fun q => absurd q (by decide), fun _ => ⟨fun e => ⟨fun _ => ?_, fun q => absurd e q⟩, fun e => ⟨s0, c_misHour mc.1 ⟨_, rfl, fun q1 => ⟨fun q => absurd q e, fun _ => ⟨s0, c_mslackByE a T hw ⟨_, rfl, fun c => ?_, fun c => ?_⟩⟩⟩, fun q1 => ?_⟩⟩⟩⟩
  · rw [if_pos e, ← hd_eq lo H12] at hv
    have key : ∀ m i : Nat, i + m = dH (DD k) → ∀ (o3 : Option Value), A (65, [some (.ref 77), some (.int x1), some (.int x2), o3, some (.int (hdm (C 3 w) (N 3 w - 1) i)), some (.int (nI i))], [], h', 0, 0) := by
      intro m
      induction m with
      | zero =>
        intro i hi o3
        refine vX10_holds_65 hA ⟨s0, fun _ => by rw [show i = dH (DD k) by omega]; exact hv, fun q => ?_⟩
        rw [mc.1.2.2.2.2.1] at q; exact absurd (nI_le (by omega) (by omega)) q
      | succ m ih =>
        intro i hi o3
        have st := ih (i + 1) (by omega)
        refine vX10_holds_65 hA ⟨s0, fun q => ?_, fun _ => ⟨s0, c_mslackByE a T hw ⟨_, rfl, eX10_lesser ⟨fun d => ⟨_, rfl, ?_⟩, fun d => ⟨_, rfl, ?_⟩⟩⟩⟩⟩
        · rw [mc.1.2.2.2.2.1] at q; exact absurd q (nI_ge (by omega) (by omega))
        · rw [show hdm (C 3 w) (N 3 w - 1) (i + 1) = sbk (C 3 w) (nI i) (N 3 w - 1) from if_pos d] at st
          rw [← nI_succ]; exact st _
        · rw [show hdm (C 3 w) (N 3 w - 1) (i + 1) = hdm (C 3 w) (N 3 w - 1) i from if_neg d] at st
          rw [← nI_succ]; exact st _
    exact key (dH (DD k)) 0 (by omega) _
  · rw [if_neg e, if_pos (b2i_n0.mp q1), if_pos c] at hv; exact hv
  · rw [if_neg e, if_pos (b2i_n0.mp q1), if_neg c] at hv; exact hv
  · rw [if_neg e, b2i_0.mp q1, if_neg Bool.false_ne_true] at hv; exact hv
theorem g_holds (a : IV h S Im tp) (b : 103 ≤ h.1 ∧ h.1 ≤ B) (x1 x2 x3 : Int32) : prI (mX9_holds g) (mX10_holds g) [.ref 0, .int x1, .int x2, .int x3] [.ref 77, .int x1, .int x2, .int x3] h (inv B) := pr_q _ a b (fun Ret k => q9_holds (iv_tc a) k) (fun h1 Ret a1 k => q10_holds (iv_tc a1) k)
/-! TRUST: the same answer -/
def trS (D : rD) (C1 : Nat → Nat → Int32) (K : Nat) : Nat → Int64
  | 0 => 0
  | i + 1 => if sbk C1 (nI i) K < 0 then trS D C1 K i else trS D C1 K i + (sp_w D (rul D) i).toInt64
theorem trS_bd {D : rD} (ok : rd_ok D) {C1 : Nat → Nat → Int32} {K : Nat} : ∀ i, i ≤ 12 → 0 ≤ (trS D C1 K i).toInt ∧ (trS D C1 K i).toInt ≤ 9 * i
  | 0, _ => by show 0 ≤ (0 : Int64).toInt ∧ (0 : Int64).toInt ≤ 9 * (0 : Nat); decide
  | i + 1, hi => by
    have ih := trS_bd ok (C1 := C1) (K := K) i (by omega)
    have bw := sp_w_bd ok (rul D) i
    unfold trS
    split
    · omega
    · rw [i64_add (by rw [i_64]; omega) (by rw [i_64]; omega), i_64]; omega
def s_trust (DD : Nat → rD) (N : Nat → Nat → Nat) (C : Nat → Nat → Nat → Nat → Int32) (x3 : Int32) (k w : Nat) : Int32 := (sp_sd (trS (DD k) (C 3 w) (N 3 w - 1) (dH (DD k))) (sp_t (DD k) (rul (DD k))).toInt64 x3).toInt32
theorem q9_trust {x1 x2 x3 : Int32} (a : tc h z DD N C) (hq : ∀ h', ax_same cl_F h h' → Ret (some (.int (qw (z 0) (z 3) x1 x2 (-1) (s_trust DD N C x3)))) h') : mX9_trust g [.ref 0, .int x1, .int x2, .int x3] h Ret := by
  have z0 := a.2.2.2.2.1 0 (by decide)
  have z3 := a.2.2.2.2.1 3 (by decide)
  have b1 : ∀ h', ax_same cl_F h h' → sp_in x1 (z 0) = false → Ret (some (.int (-1))) h' := fun h' s e => by have hv := hq h' s; rw [qw_n1 e] at hv; exact hv
  have b2 : ∀ h', ax_same cl_F h h' → sp_in x2 (z 3) = false → Ret (some (.int (-1))) h' := fun h' s e => by have hv := hq h' s; rw [qw_n2 e] at hv; exact hv
  refine uX9_trust (fun A hA => vX9_trust_0 hA ⟨a.1.1, q_begun a (fun q => Or.inr ⟨rfl, a.1.1, _, a.1.2.1.1, a.2.2.1.1.1, c_linesAt (s0 := 3) a.2.2.1 (by decide) (by decide) (fun _ => Or.inr ⟨rfl, b1 h sm_rf q⟩) (fun k hk ex => Or.inl ⟨_, rfl, b1 h sm_rf q⟩)⟩) (fun k hk ex ok h' hs xs hc => Or.inl ⟨_, rfl, ?_⟩)⟩)
  have b := tc_cl hs a
  refine ⟨b.1.1, _, b.1.2.1.1, b.2.2.1.1.1, c_linesAt (s0 := 3) b.2.2.1 (by decide) (by decide) (fun q => Or.inr ⟨rfl, b2 h' hs q⟩) (fun w hw ew => Or.inl ⟨_, rfl, ?_⟩)⟩
  have hv := hq h' hs
  rw [qw_y z0 z3 hk ex hw ew] at hv
  unfold s_trust at hv
  have L := b.2.2.1.2.2.2 3 w (by decide) (by decide) hw
  have H12 := ok.1.2
  have od := hc.2.2
  have key : ∀ m i : Nat, i + m = dH (DD k) → A (36, [some (.ref 0), some (.int x1), some (.int x2), some (.int x3), some (.ref (6 + 14 * k)), some (.ref (lnp 1 3 w)), some (.long (trS (DD k) (C 3 w) (N 3 w - 1) i)), none, some (.int (nI i))], [], h', 0, 0) := by
    intro m
    induction m with
    | zero =>
      intro i hi
      have bd := trS_bd ok (C1 := C 3 w) (K := N 3 w - 1) i (by omega)
      refine vX9_trust_36 hA ⟨hc.1.1.1, fun _ => ⟨xs.1, _, xs.2.1.2.2.2.2.1, od.1.1, ?_⟩, fun q => ?_⟩
      · rw [od.2.2.2.1]; refine c_side (by omega) (t_pos ok) ⟨_, rfl, ?_⟩
        rw [show i = dH (DD k) by omega]; exact hv
      · rw [hc.1.2.2.1.1] at q; exact absurd (nI_le (by omega) (by omega)) q
    | succ m ih =>
      intro i hi
      have st := ih (i + 1) (by omega)
      refine vX9_trust_36 hA ⟨hc.1.1.1, fun q => ?_, fun q => c_keepsByE L (fun c => ⟨_, rfl, fun q => absurd q (by decide), fun _ => ⟨xs.1, _, xs.2.1.2.2.2.2.1, od.1.1, _, od.1.2.1, by rw [od.1.2.2], by rw [od.1.2.2]; exact vp_in_nI (by omega) (by decide), ?_⟩⟩) (fun c => ⟨_, rfl, fun _ => ?_, fun q => absurd rfl q⟩)⟩
      · rw [hc.1.2.2.1.1] at q; exact absurd q (nI_ge (by omega) (by omega))
      · rw [show trS (DD k) (C 3 w) (N 3 w - 1) (i + 1) = trS (DD k) (C 3 w) (N 3 w - 1) i + (sp_w (DD k) (rul (DD k)) i).toInt64 from if_neg c] at st
        rw [nI_clamp (by omega), od.2.2.2.2 i (by omega), ← nI_succ]
        exact st
      · rw [show trS (DD k) (C 3 w) (N 3 w - 1) (i + 1) = trS (DD k) (C 3 w) (N 3 w - 1) i from if_pos c] at st
        rw [← nI_succ, Int64.add_zero]; exact st
  exact key (dH (DD k)) 0 (by omega)
theorem q10_trust {x1 x2 x3 : Int32} (a : tc h z DD N C) (hq : ∀ h', ax_same md_F h h' → Ret (some (.int (qw (z 0) (z 3) x1 x2 (-1) (s_trust DD N C x3)))) h') : mX10_trust g [.ref 77, .int x1, .int x2, .int x3] h Ret := by
  have z0 := a.2.2.2.2.1 0 (by decide)
  have z3 := a.2.2.2.2.1 3 (by decide)
  refine uX10_trust (fun A hA => vX10_trust_0 hA ⟨a.2.1.1, ?_⟩)
  intro u1
  refine ⟨a.2.1.1, q_tabE a (fun k w h' hk ex hw ew ok T => ⟨fun _ => ?_, fun q => absurd q (by decide)⟩) (fun h' s e => ⟨fun q => absurd rfl q, fun _ => by have hv := hq h' s; rw [qw_n1 e] at hv; exact hv⟩) (fun h' s e => by have hv := hq h' s; rw [qw_n2 e] at hv; exact hv)⟩
  have hv := hq h' T.1.1
  rw [qw_y z0 z3 hk ex hw ew] at hv
  unfold s_trust at hv
  have mc := T.1.2.1
  have mw : mw_at h' 77 (dH (DD k)) (sp_w (DD k) (rul (DD k))) (sp_t (DD k) (rul (DD k))) (rul (DD k)) := T.1.2.2
  have s0 := mc.1.1.1
  have H12 := ok.1.2
  obtain ⟨e1, e2⟩ := mo_we mc.1.1
  have key : ∀ m i : Nat, i + m = dH (DD k) → A (29, [some (.ref 77), some (.int x1), some (.int x2), some (.int x3), some (.long (trS (DD k) (C 3 w) (N 3 w - 1) i)), none, some (.int (nI i))], [], h', 0, 0) := by
    intro m
    induction m with
    | zero =>
      intro i hi
      have bd := trS_bd ok (C1 := C 3 w) (K := N 3 w - 1) i (by omega)
      refine vX10_trust_29 hA ⟨s0, fun _ => ⟨s0, ?_⟩, fun q => ?_⟩
      · rw [mw.2.1]; refine c_part (by omega) (t_pos ok) ⟨_, rfl, ?_⟩
        rw [show i = dH (DD k) by omega]; exact hv
      · rw [mc.1.2.2.2.2.1] at q; exact absurd (nI_le (by omega) (by omega)) q
    | succ m ih =>
      intro i hi
      have st := ih (i + 1) (by omega)
      refine vX10_trust_29 hA ⟨s0, fun q => ?_, fun q => ⟨s0, c_mslackByE a T hw ⟨_, rfl, fun c => ?_, fun c => ⟨s0, _, e1, by rw [e2], by rw [e2]; exact vp_in_nI (by omega) (by decide), ?_⟩⟩⟩⟩
      · rw [mc.1.2.2.2.2.1] at q; exact absurd q (nI_ge (by omega) (by omega))
      · rw [show trS (DD k) (C 3 w) (N 3 w - 1) (i + 1) = trS (DD k) (C 3 w) (N 3 w - 1) i from if_pos c] at st
        rw [← nI_succ, Int64.add_zero]; exact st
      · rw [show trS (DD k) (C 3 w) (N 3 w - 1) (i + 1) = trS (DD k) (C 3 w) (N 3 w - 1) i + (sp_w (DD k) (rul (DD k)) i).toInt64 from if_neg c] at st
        rw [nI_clamp (by omega), mw.1 i (by omega), ← nI_succ]
        exact st
  exact key (dH (DD k)) 0 (by omega)
theorem g_trust (a : IV h S Im tp) (b : 103 ≤ h.1 ∧ h.1 ≤ B) (x1 x2 x3 : Int32) : prI (mX9_trust g) (mX10_trust g) [.ref 0, .int x1, .int x2, .int x3] [.ref 77, .int x1, .int x2, .int x3] h (inv B) := pr_q _ a b (fun Ret k => q9_trust (iv_tc a) k) (fun h1 Ret a1 k => q10_trust (iv_tc a1) k)
/-! TIGHT: the same answer -/
def tgK (C1 : Nat → Nat → Int32) (H : Nat) : Nat → Nat
  | 0 => 0
  | k + 1 => if slk C1 (tgK C1 H k) H ≤ slk C1 (k + 1) H then tgK C1 H k else k + 1
theorem tgK_le (C1 : Nat → Nat → Int32) (H : Nat) : ∀ k, tgK C1 H k ≤ k
  | 0 => Nat.le_refl _
  | k + 1 => by
    unfold tgK
    have := tgK_le C1 H k
    split <;> omega
def btK (C1 : Nat → Nat → Int32) (H : Nat) : Nat → Int32
  | 0 => -1
  | k + 1 => if slk C1 k H < hdk C1 H k then nI k else btK C1 H k
theorem slk_lt {C1 : Nat → Nat → Int32} {n k J : Nat} (ok : ln_ok 3 n C1) (hk : k + 1 < n) (hJ : J + 1 ≤ 12) : (slk C1 k (J + 1)).toInt ≤ 100 := by
  have a := (slk_mn ok hk (J + 1) hJ).2.2 (ldT C1 (nI J) k) ⟨J, by omega, rfl⟩
  have b := ld_bd ok hk (j := J) (by omega)
  omega
theorem tg_eq {C1 : Nat → Nat → Int32} {n H : Nat} (ok : ln_ok 3 n C1) (hH : H + 1 ≤ 12) : ∀ k, k + 1 < n → hdk C1 (H + 1) (k + 1) = slk C1 (tgK C1 (H + 1) k) (H + 1) ∧ btK C1 (H + 1) (k + 1) = nI (tgK C1 (H + 1) k)
  | 0, hk => by
    have l := slk_lt ok (k := 0) hk hH
    have t : slk C1 0 (H + 1) < (1000 : Int32) := by rw [i_lt, show (1000 : Int32).toInt = 1000 from rfl]; omega
    exact ⟨if_pos t, if_pos t⟩
  | k + 1, hk => by
    obtain ⟨i1, i2⟩ := tg_eq ok hH k (by omega)
    have u1 : hdk C1 (H + 1) (k + 1 + 1) = (if slk C1 (k + 1) (H + 1) < hdk C1 (H + 1) (k + 1) then slk C1 (k + 1) (H + 1) else hdk C1 (H + 1) (k + 1)) := rfl
    have u2 : btK C1 (H + 1) (k + 1 + 1) = (if slk C1 (k + 1) (H + 1) < hdk C1 (H + 1) (k + 1) then nI (k + 1) else btK C1 (H + 1) (k + 1)) := rfl
    have u3 : tgK C1 (H + 1) (k + 1) = (if slk C1 (tgK C1 (H + 1) k) (H + 1) ≤ slk C1 (k + 1) (H + 1) then tgK C1 (H + 1) k else k + 1) := rfl
    rw [u1, u2, u3, i1, i2]
    by_cases c : slk C1 (tgK C1 (H + 1) k) (H + 1) ≤ slk C1 (k + 1) (H + 1)
    · rw [if_pos c, if_neg (Int32.not_lt.mpr c), if_neg (Int32.not_lt.mpr c)]
      exact ⟨rfl, rfl⟩
    · rw [if_neg c, if_pos (Int32.not_le.mp c), if_pos (Int32.not_le.mp c)]
      exact ⟨rfl, rfl⟩
theorem tg_a {s l v : Int32} (d : (if s < l then s else l) ≤ v) (x y : Int32) : (if (if v < s then v else s) < l then x else y) = (if s < l then x else y) := by
  by_cases c : s < l
  · rw [if_pos c] at d
    rw [if_neg (Int32.not_lt.mpr d)]
  · rw [if_neg c] at d
    rw [if_neg c]
    by_cases e : v < s
    · rw [if_pos e, if_neg (Int32.not_lt.mpr d)]
    · rw [if_neg e, if_neg c]
theorem tg_a2 {s l v : Int32} (d : (if s < l then s else l) ≤ v) : (if (if v < s then v else s) < l then (if v < s then v else s) else l) = (if s < l then s else l) := by
  by_cases c : s < l
  · rw [if_pos c] at d
    rw [if_neg (Int32.not_lt.mpr d)]
  · rw [if_neg c] at d
    rw [if_neg c]
    by_cases e : v < s
    · rw [if_pos e, if_neg (Int32.not_lt.mpr d)]
    · rw [if_neg e, if_neg c]
theorem tg_b {s l v : Int32} (d : ¬ (if s < l then s else l) ≤ v) : (if v < s then v else s) = v ∧ (if v < s then v else s) < l := by
  have f := Int32.not_le.mp d
  have g : v < s ∧ v < l := by
    by_cases c : s < l
    · rw [if_pos c] at f
      exact ⟨f, Int32.lt_trans f c⟩
    · rw [if_neg c] at f
      exact ⟨Int32.lt_of_lt_of_le f (Int32.not_lt.mp c), f⟩
  rw [if_pos g.1]
  exact ⟨rfl, g.2⟩
def s_tight (DD : Nat → rD) (N : Nat → Nat → Nat) (C : Nat → Nat → Nat → Nat → Int32) (k w : Nat) : Int32 := if 2 ≤ N 3 w then nI (tgK (C 3 w) (dH (DD k)) (N 3 w - 2)) else -1
theorem q9_tight {x1 x2 : Int32} (a : tc h z DD N C) (hq : ∀ h', ax_same cl_F h h' → Ret (some (.int (qw (z 0) (z 3) x1 x2 (-1) (s_tight DD N C)))) h') : mX9_tight g [.ref 0, .int x1, .int x2] h Ret := by
  have z0 := a.2.2.2.2.1 0 (by decide)
  have z3 := a.2.2.2.2.1 3 (by decide)
  have hv := hq h sm_rf
  have b1 : sp_in x1 (z 0) = false → Ret (some (.int (-1))) h := fun e => by rw [qw_n1 e] at hv; exact hv
  have b2 : sp_in x2 (z 3) = false → Ret (some (.int (-1))) h := fun e => by rw [qw_n2 e] at hv; exact hv
  refine uX9_tight (fun A hA => vX9_tight_0 hA ⟨a.1.1, _, a.1.2.1.1, a.2.2.1.1.1, c_republicAt a.2.2.1 (fun q => Or.inr ⟨rfl, a.1.1, _, a.1.2.1.1, a.2.2.1.1.1, c_linesAt (s0 := 3) a.2.2.1 (by decide) (by decide) (fun _ => Or.inr ⟨rfl, b1 q⟩) (fun k hk ex => Or.inl ⟨_, rfl, b1 q⟩)⟩) (fun k hk ex => Or.inl ⟨_, rfl, a.1.1, _, a.1.2.1.1, a.2.2.1.1.1, c_linesAt (s0 := 3) a.2.2.1 (by decide) (by decide) (fun q => Or.inr ⟨rfl, b2 q⟩) (fun w hw ew => Or.inl ⟨_, rfl, ?_⟩)⟩)⟩)
  rw [qw_y z0 z3 hk ex hw ew] at hv
  unfold s_tight at hv
  have rc := a.2.2.1.2.2.1 k hk
  have L := a.2.2.1.2.2.2 3 w (by decide) (by decide) hw
  have n8 : N 3 w ≤ 8 := L.2.1
  refine ⟨L.1.1, fun q2 => ?_, fun q2 => ?_⟩
  · rw [L.2.2.1] at q2
    have n2 : 2 ≤ N 3 w := (nI_leI (a := 2) (by decide) (by omega)).mp q2
    rw [if_pos n2] at hv
    have key : ∀ m i : Nat, N 3 w ≤ i + 2 + m → i ≤ N 3 w - 2 → A (46, [some (.ref 0), some (.int x1), some (.int x2), some (.ref (1 + 5 + 14 * k)), some (.ref (lnp 1 3 w)), some (.int (nI (tgK (C 3 w) (dH (DD k)) i))), some (.int (nI (i + 1)))], [], h, 0, 0) := by
      intro m
      induction m with
      | zero =>
        intro i hi ii
        refine vX9_tight_46 hA ⟨L.1.1, fun _ => by rw [show i = N 3 w - 2 by omega]; exact hv, fun q => ?_⟩
        rw [L.2.2.1, ← nI_succ] at q; exact absurd (nI_le (by omega) (by omega)) q
      | succ m ih =>
        intro i hi ii
        have tl := tgK_le (C 3 w) (dH (DD k)) i
        have st := ih (i + 1) (by omega)
        refine vX9_tight_46 hA ⟨L.1.1, fun q => ?_, fun q => ?_⟩
        · rw [L.2.2.1, ← nI_succ, nI_leI (by omega) (by omega)] at q
          rw [show i = N 3 w - 2 by omega]; exact hv
        · rw [L.2.2.1, ← nI_succ, nI_leI (by omega) (by omega)] at q
          have st := st (by omega)
          refine c_slackOfE rc L (by omega) ⟨_, rfl, c_slackOfE rc L (by omega) ⟨_, rfl, fun c => ?_, fun c => ?_⟩⟩
          · rw [show tgK (C 3 w) (dH (DD k)) (i + 1) = tgK (C 3 w) (dH (DD k)) i from if_pos c] at st
            rw [← nI_succ]; exact st
          · rw [show tgK (C 3 w) (dH (DD k)) (i + 1) = i + 1 from if_neg c] at st
            rw [← nI_succ]; exact st
    exact key 8 0 (by omega) (by omega)
  · rw [L.2.2.1] at q2
    rw [if_neg (fun w => q2 (nI_le (a := 2) w (by omega)))] at hv
    exact hv
theorem q10_tight {x1 x2 : Int32} (a : tc h z DD N C) (hq : ∀ h', ax_same md_F h h' → Ret (some (.int (qw (z 0) (z 3) x1 x2 (-1) (s_tight DD N C)))) h') : mX10_tight g [.ref 77, .int x1, .int x2] h Ret := by
  have z0 := a.2.2.2.2.1 0 (by decide)
  have z3 := a.2.2.2.2.1 3 (by decide)
  refine uX10_tight (fun A hA => vX10_tight_0 hA ⟨a.2.1.1, ?_⟩)
  intro u1
  refine ⟨a.2.1.1, q_tabE a (fun k w h' hk ex hw ew ok T => ⟨fun _ => ?_, fun q => absurd q (by decide)⟩) (fun h' s e => ⟨fun q => absurd rfl q, fun _ => by have hv := hq h' s; rw [qw_n1 e] at hv; exact hv⟩) (fun h' s e => by have hv := hq h' s; rw [qw_n2 e] at hv; exact hv)⟩
  have hv := hq h' T.1.1
  rw [qw_y z0 z3 hk ex hw ew] at hv
  have mc := T.1.2.1
  have c := tc_md T.1.1 a
  have s0 := mc.1.1.1
  have H12 := ok.1.2
  have H2 := ok.1.1
  have lo := a.2.2.2.2.2.2 3 w (by decide) (by decide) hw
  have n8 : N 3 w ≤ 8 := lo.1
  have hb : Ret (some (.int (btK (C 3 w) (dH (DD k)) (N 3 w - 1)))) h' := by
    unfold s_tight at hv
    rcases Nat.lt_or_ge (N 3 w) 2 with q | q
    · rw [if_neg (by omega)] at hv
      rw [show N 3 w - 1 = 0 by omega]
      exact hv
    · rw [if_pos q] at hv
      obtain ⟨n, en⟩ : ∃ n, N 3 w = n + 2 := ⟨N 3 w - 2, by omega⟩
      obtain ⟨Hq, eH⟩ : ∃ Hq, dH (DD k) = Hq + 1 := ⟨dH (DD k) - 1, by omega⟩
      have t := (tg_eq lo (H := Hq) (by omega) n (by omega)).2
      rw [← eH] at t
      rw [show N 3 w - 1 = n + 1 by omega, t]
      rw [show N 3 w - 2 = n by omega] at hv
      exact hv
  have key : ∀ m i : Nat, N 3 w ≤ i + 1 + m → i ≤ N 3 w - 1 → ∀ (o2 o6 o7 : Option Value), A (33, [some (.ref 77), some (.int x1), o2, some (.int (btK (C 3 w) (dH (DD k)) i)), some (.int (hdk (C 3 w) (dH (DD k)) i)), some (.int (nI i)), o6, o7], [], h', 0, 0) := by
    intro m
    induction m with
    | zero =>
      intro i hi ii o2 o6 o7
      refine vX10_tight_33 hA ⟨s0, c_mtrains c.2.1 c.2.2.2.1 c.2.2.2.2 hw T.2 ⟨_, rfl, fun _ => by rw [show i = N 3 w - 1 by omega]; exact hb, fun q => ?_⟩⟩
      rw [← nI_succ] at q; exact absurd (nI_le (by omega) (by omega)) q
    | succ m ih =>
      intro i hi ii o2 o6 o7
      refine vX10_tight_33 hA ⟨s0, c_mtrains c.2.1 c.2.2.2.1 c.2.2.2.2 hw T.2 ⟨_, rfl, fun q => ?_, fun q => ?_⟩⟩
      · rw [← nI_succ, nI_leI (by omega) (by omega)] at q
        rw [show i = N 3 w - 1 by omega]; exact hb
      · rw [← nI_succ, nI_leI (by omega) (by omega)] at q
        have st := ih (i + 1) (by omega) (by omega)
        have hm := (hdk_mn lo H12 i (by omega)).2.1
        have inn : ∀ f j : Nat, j + f = dH (DD k) → ∀ (x3 x4 : Int32) (o2 o7 : Option Value), x3 = (if slk (C 3 w) i j < hdk (C 3 w) (dH (DD k)) i then nI i else btK (C 3 w) (dH (DD k)) i) → x4 = (if slk (C 3 w) i j < hdk (C 3 w) (dH (DD k)) i then slk (C 3 w) i j else hdk (C 3 w) (dH (DD k)) i) → A (47, [some (.ref 77), some (.int x1), o2, some (.int x3), some (.int x4), some (.int (nI i)), some (.int (nI j)), o7], [], h', 0, 0) := by
          intro f
          induction f with
          | zero =>
            intro j hj x3 x4 o2 o7 e3 e4
            refine vX10_tight_47 hA ⟨s0, fun _ => ?_, fun q => ?_⟩
            · rw [← nI_succ, e3, e4, show j = dH (DD k) by omega]
              exact st _ _ _
            · rw [mc.1.2.2.2.2.1] at q; exact absurd (nI_le (by omega) (by omega)) q
          | succ f ihf =>
            intro j hj x3 x4 o2 o7 e3 e4
            refine vX10_tight_47 hA ⟨s0, fun q => ?_, fun _ => ⟨s0, ?_⟩⟩
            · rw [mc.1.2.2.2.2.1] at q; exact absurd q (nI_ge (by omega) (by omega))
            · rw [← nI_succ]
              subst e3
              subst e4
              refine c_mtrainOf (j := 0) c.2.1 c.2.2.2.1 c.2.2.2.2 hw T.2 (by omega) (by decide) ⟨_, rfl, c_trueAt ⟨_, rfl, s0, c_mtrainOf (j := 0) c.2.1 c.2.2.2.1 c.2.2.2.2 hw T.2 (by omega) (by decide) ⟨_, rfl, c_trueAt ⟨_, rfl, s0, c_mtrainOf (j := 1) c.2.1 c.2.2.2.1 c.2.2.2.2 hw T.2 (by omega) (by decide) ⟨_, rfl, fun d => eX10_lesser ⟨fun e => ⟨_, rfl, ?_⟩, fun e => ⟨_, rfl, ?_⟩⟩, fun d => eX10_lesser ⟨fun e => ⟨_, rfl, ?_⟩, fun e => absurd (Int32.le_of_lt (Int32.not_le.mp d)) e⟩⟩⟩⟩⟩⟩
              · rw [← nI_succ]
                exact ihf (j + 1) (by omega) _ _ _ _ (tg_a (v := ldT (C 3 w) (nI j) i) d _ _).symm ((Int32.le_antisymm e d).trans (tg_a2 (v := ldT (C 3 w) (nI j) i) d).symm)
              · rw [← nI_succ]
                exact ihf (j + 1) (by omega) _ _ _ _ (tg_a (v := ldT (C 3 w) (nI j) i) d _ _).symm (tg_a2 (v := ldT (C 3 w) (nI j) i) d).symm
              · rw [← nI_succ]
                exact ihf (j + 1) (by omega) _ _ _ _ (if_pos (tg_b (v := ldT (C 3 w) (nI j) i) d).2).symm ((if_pos (tg_b (v := ldT (C 3 w) (nI j) i) d).2).trans (tg_b (v := ldT (C 3 w) (nI j) i) d).1).symm
        exact inn (dH (DD k)) 0 (by omega) _ _ _ _ (by rw [show slk (C 3 w) i 0 = 1000 from rfl, if_neg (by rw [i_lt, show (1000 : Int32).toInt = 1000 from rfl]; omega)]) (by rw [show slk (C 3 w) i 0 = 1000 from rfl, if_neg (by rw [i_lt, show (1000 : Int32).toInt = 1000 from rfl]; omega)])
  exact key 8 0 (by omega) (by omega) _ _ _
theorem g_tight (a : IV h S Im tp) (b : 103 ≤ h.1 ∧ h.1 ≤ B) (x1 x2 : Int32) : prI (mX9_tight g) (mX10_tight g) [.ref 0, .int x1, .int x2] [.ref 77, .int x1, .int x2] h (inv B) := pr_q _ a b (fun Ret k => q9_tight (iv_tc a) k) (fun h1 Ret a1 k => q10_tight (iv_tc a1) k)
end
