section
variable {g : ax_G} {Ret : Option Value → ax_H → Prop} {h : ax_H} {z : Nat → Nat} {DD : Nat → rD} {N : Nat → Nat → Nat} {C : Nat → Nat → Nat → Nat → Int32} {S : sT} {Im : Nat → Option sT} {tp : Nat → Nat} {B : Nat}
/-! sums and sets by digits -/
def orN (f : Nat → Nat) : Nat → Nat
  | 0 => 0
  | n + 1 => orN f n ||| f n
theorem sNn_congr {f k : Nat → Nat} : ∀ {n : Nat}, (∀ i, i < n → f i = k i) → sNn f n = sNn k n
  | 0, _ => rfl
  | n + 1, h => by
    show sNn f n + f n = sNn k n + k n
    rw [sNn_congr (n := n) (fun i hi => h i (by omega)), h n (by omega)]
theorem sNn_split {f : Nat → Nat} {a : Nat} : ∀ b, sNn f (a + b) = sNn f a + sNn (fun i => f (a + i)) b
  | 0 => rfl
  | b + 1 => by
    show sNn f (a + b) + f (a + b) = sNn f a + (sNn (fun i => f (a + i)) b + f (a + b))
    rw [sNn_split b]; omega
theorem sNn_add {f k : Nat → Nat} : ∀ n, sNn (fun i => f i + k i) n = sNn f n + sNn k n
  | 0 => rfl
  | n + 1 => by
    show sNn (fun i => f i + k i) n + (f n + k n) = (sNn f n + f n) + (sNn k n + k n)
    rw [sNn_add n]; omega
theorem sNn_dig {H : Nat} (hH : 0 < H) (G : Nat → Nat → Nat) : ∀ M, sNn (fun x => G (x % H) (x / H)) (H * M) = sNn (fun i => sNn (G i) M) H
  | 0 => by
    have e : ∀ n, sNn (fun i => sNn (G i) 0) n = 0 := fun n => by
      induction n with
      | zero => rfl
      | succ n ih => show sNn (fun i => sNn (G i) 0) n + 0 = 0; rw [ih]
    rw [e, Nat.mul_zero]; rfl
  | M + 1 => by
    rw [Nat.mul_succ, sNn_split, sNn_dig hH G M]
    have e : sNn (fun i => G ((H * M + i) % H) ((H * M + i) / H)) H = sNn (fun i => G i M) H := sNn_congr (fun i hi => by
      rw [Nat.mul_add_mod, Nat.mod_eq_of_lt hi, Nat.mul_add_div hH, Nat.div_eq_of_lt hi, Nat.add_zero])
    rw [e, ← sNn_add]
    rfl
theorem orN_congr {f k : Nat → Nat} : ∀ {n : Nat}, (∀ i, i < n → f i = k i) → orN f n = orN k n
  | 0, _ => rfl
  | n + 1, h => by
    show orN f n ||| f n = orN k n ||| k n
    rw [orN_congr (n := n) (fun i hi => h i (by omega)), h n (by omega)]
theorem orN_split {f : Nat → Nat} {a : Nat} : ∀ b, orN f (a + b) = orN f a ||| orN (fun i => f (a + i)) b
  | 0 => (Nat.or_zero _).symm
  | b + 1 => by
    show orN f (a + b) ||| f (a + b) = orN f a ||| (orN (fun i => f (a + i)) b ||| f (a + b))
    rw [orN_split b, Nat.or_assoc]
theorem or_4 (a b c d : Nat) : (a ||| b) ||| (c ||| d) = (a ||| c) ||| (b ||| d) := by
  rw [Nat.or_assoc, Nat.or_assoc, ← Nat.or_assoc b c d, Nat.or_comm b c, Nat.or_assoc c b d]
theorem orN_or {f k : Nat → Nat} : ∀ n, orN (fun i => f i ||| k i) n = orN f n ||| orN k n
  | 0 => (Nat.or_zero _).symm
  | n + 1 => by
    show orN (fun i => f i ||| k i) n ||| (f n ||| k n) = (orN f n ||| f n) ||| (orN k n ||| k n)
    rw [orN_or n, or_4]
theorem orN_dig {H : Nat} (hH : 0 < H) (G : Nat → Nat → Nat) : ∀ M, orN (fun x => G (x % H) (x / H)) (H * M) = orN (fun i => orN (G i) M) H
  | 0 => by
    have e : ∀ n, orN (fun i => orN (G i) 0) n = 0 := fun n => by
      induction n with
      | zero => rfl
      | succ n ih => show orN (fun i => orN (G i) 0) n ||| 0 = 0; rw [ih]; rfl
    rw [e, Nat.mul_zero]; rfl
  | M + 1 => by
    rw [Nat.mul_succ, orN_split, orN_dig hH G M]
    have e : orN (fun i => G ((H * M + i) % H) ((H * M + i) / H)) H = orN (fun i => G i M) H := orN_congr (fun i hi => by
      rw [Nat.mul_add_mod, Nat.mod_eq_of_lt hi, Nat.mul_add_div hH, Nat.div_eq_of_lt hi, Nat.add_zero])
    rw [e, ← orN_or]
    rfl
theorem orN_lt {f : Nat → Nat} {b : Nat} : ∀ n, (∀ i, i < n → f i < 2 ^ b) → orN f n < 2 ^ b
  | 0, _ => Nat.two_pow_pos b
  | n + 1, h => Nat.or_lt_two_pow (orN_lt n (fun i hi => h i (by omega))) (h n (by omega))
/-! what is seen -/
def seenB (D : rD) (C1 : Nat → Nat → Int32) (hv : Nat → Int32) (gone : Nat) : Nat → Bool
  | 0 => true
  | i + 1 => seenB D C1 hv gone i && (if C1 i 0 = nI gone then sp_in (C1 i 1) (dP D) && decide (hv (C1 i 1).toNatClampNeg = C1 i 2) else true)
theorem seen_mono {D : rD} {C1 : Nat → Nat → Int32} {hv : Nat → Int32} {gone i : Nat} : ∀ m, seenB D C1 hv gone i = false → seenB D C1 hv gone (i + m) = false
  | 0, h => h
  | m + 1, h => by
    show (seenB D C1 hv gone (i + m) && _) = false
    rw [seen_mono m h]; rfl
def okB (D : rD) (n : Nat) (C1 : Nat → Nat → Int32) (hv : Nat → Int32) (gone q : Nat) : Bool := !decide (sp_w D (sp_po (dP D) hv) q = 0) && seenB D C1 (fun p => hv p + sp_vl D p q) (gone + 1) n
def updN (ρ : Nat → Nat) (d q : Nat) : Nat → Nat := fun t => if t = d then q else ρ t
def cnt (D : rD) (n : Nat) (C1 : Nat → Nat → Int32) : Nat → Nat → (Nat → Int32) → Nat
  | 0, _, _ => 1
  | m + 1, gone, hv => sNn (fun q => if okB D n C1 hv gone q then cnt D n C1 m (gone + 1) (fun p => hv p + sp_vl D p q) else 0) (dH D)
def bF (D : rD) (n : Nat) (C1 : Nat → Nat → Int32) (t : Nat) : Nat → Nat → (Nat → Int32) → (Nat → Nat) → Nat
  | 0, _, _, ρ => 2 ^ ρ t
  | m + 1, gone, hv, ρ => orN (fun q => if okB D n C1 hv gone q then bF D n C1 t m (gone + 1) (fun p => hv p + sp_vl D p q) (updN ρ gone q) else 0) (dH D)
def rB (D : rD) (n : Nat) (C1 : Nat → Nat → Int32) : Nat → Nat → (Nat → Int32) → Nat → Bool
  | 0, _, _, _ => true
  | m + 1, gone, hv, c => okB D n C1 hv gone (c % dH D) && rB D n C1 m (gone + 1) (fun p => hv p + sp_vl D p (c % dH D)) (c / dH D)
def rF (H : Nat) : Nat → Nat → (Nat → Nat) → Nat → Nat → Nat
  | 0, _, ρ, _ => ρ
  | m + 1, gone, ρ, c => rF H m (gone + 1) (updN ρ gone (c % H)) (c / H)
theorem cnt_eq {D : rD} {n : Nat} {C1 : Nat → Nat → Int32} (hH : 0 < dH D) : ∀ m gone hv, sNn (fun c => if rB D n C1 m gone hv c then 1 else 0) (dH D ^ m) = cnt D n C1 m gone hv
  | 0, _, _ => rfl
  | m + 1, gone, hv => by
    rw [Nat.pow_succ, Nat.mul_comm]
    have e := sNn_dig hH (fun q c => if okB D n C1 hv gone q && rB D n C1 m (gone + 1) (fun p => hv p + sp_vl D p q) c then 1 else 0) (dH D ^ m)
    have e2 : sNn (fun c => if rB D n C1 (m + 1) gone hv c then 1 else 0) (dH D * dH D ^ m) = sNn (fun i => sNn ((fun q c => if okB D n C1 hv gone q && rB D n C1 m (gone + 1) (fun p => hv p + sp_vl D p q) c then 1 else 0) i) (dH D ^ m)) (dH D) := e
    rw [e2]
    show _ = sNn (fun q => if okB D n C1 hv gone q then cnt D n C1 m (gone + 1) (fun p => hv p + sp_vl D p q) else 0) (dH D)
    refine sNn_congr (fun q hq => ?_)
    show sNn (fun c => if okB D n C1 hv gone q && rB D n C1 m (gone + 1) (fun p => hv p + sp_vl D p q) c then 1 else 0) (dH D ^ m) = (if okB D n C1 hv gone q then cnt D n C1 m (gone + 1) (fun p => hv p + sp_vl D p q) else 0)
    rw [← cnt_eq hH m (gone + 1) (fun p => hv p + sp_vl D p q)]
    cases okB D n C1 hv gone q
    · have z : ∀ M, sNn (fun c => if (false && rB D n C1 m (gone + 1) (fun p => hv p + sp_vl D p q) c) = true then 1 else 0) M = 0 := fun M => by
        induction M with
        | zero => rfl
        | succ M ih => show sNn _ M + 0 = 0; rw [ih]
      rw [z]; rfl
    · exact sNn_congr (fun c _ => by rw [Bool.true_and])
theorem bF_eq {D : rD} {n : Nat} {C1 : Nat → Nat → Int32} {t : Nat} (hH : 0 < dH D) : ∀ m gone hv ρ, orN (fun c => if rB D n C1 m gone hv c then 2 ^ rF (dH D) m gone ρ c t else 0) (dH D ^ m) = bF D n C1 t m gone hv ρ
  | 0, _, _, ρ => by
    show 0 ||| 2 ^ ρ t = 2 ^ ρ t
    exact Nat.zero_or _
  | m + 1, gone, hv, ρ => by
    rw [Nat.pow_succ, Nat.mul_comm]
    have e := orN_dig hH (fun q c => if okB D n C1 hv gone q && rB D n C1 m (gone + 1) (fun p => hv p + sp_vl D p q) c then 2 ^ rF (dH D) m (gone + 1) (updN ρ gone q) c t else 0) (dH D ^ m)
    have e2 : orN (fun c => if rB D n C1 (m + 1) gone hv c then 2 ^ rF (dH D) (m + 1) gone ρ c t else 0) (dH D * dH D ^ m) = orN (fun i => orN ((fun q c => if okB D n C1 hv gone q && rB D n C1 m (gone + 1) (fun p => hv p + sp_vl D p q) c then 2 ^ rF (dH D) m (gone + 1) (updN ρ gone q) c t else 0) i) (dH D ^ m)) (dH D) := e
    rw [e2]
    show _ = orN (fun q => if okB D n C1 hv gone q then bF D n C1 t m (gone + 1) (fun p => hv p + sp_vl D p q) (updN ρ gone q) else 0) (dH D)
    refine orN_congr (fun q hq => ?_)
    show orN (fun c => if okB D n C1 hv gone q && rB D n C1 m (gone + 1) (fun p => hv p + sp_vl D p q) c then 2 ^ rF (dH D) m (gone + 1) (updN ρ gone q) c t else 0) (dH D ^ m) = (if okB D n C1 hv gone q then bF D n C1 t m (gone + 1) (fun p => hv p + sp_vl D p q) (updN ρ gone q) else 0)
    rw [← bF_eq hH m (gone + 1) (fun p => hv p + sp_vl D p q) (updN ρ gone q)]
    cases okB D n C1 hv gone q
    · have z : ∀ M, orN (fun c => if (false && rB D n C1 m (gone + 1) (fun p => hv p + sp_vl D p q) c) = true then 2 ^ rF (dH D) m (gone + 1) (updN ρ gone q) c t else 0) M = 0 := fun M => by
        induction M with
        | zero => rfl
        | succ M ih => show orN _ M ||| 0 = 0; rw [ih]; rfl
      rw [z]; rfl
    · exact orN_congr (fun c _ => by rw [Bool.true_and])
theorem bF_lt {D : rD} {n : Nat} {C1 : Nat → Nat → Int32} {t : Nat} : ∀ m gone hv ρ, (t < gone → ρ t < dH D) → t < gone + m → bF D n C1 t m gone hv ρ < 2 ^ dH D
  | 0, gone, _, ρ, h, ht => Nat.pow_lt_pow_right (by decide) (h (by omega))
  | m + 1, gone, hv, ρ, h, ht => orN_lt (dH D) (fun q hq => by
    show (if okB D n C1 hv gone q then bF D n C1 t m (gone + 1) (fun p => hv p + sp_vl D p q) (updN ρ gone q) else 0) < _
    split
    · refine bF_lt m (gone + 1) _ _ (fun ht2 => ?_) (by omega)
      unfold updN
      by_cases c : t = gone
      · rw [if_pos c]; exact hq
      · rw [if_neg c]; exact h (by omega)
    · exact Nat.two_pow_pos _)
def dN (C1 : Nat → Nat → Int32) : Nat → Nat
  | 0 => 0
  | i + 1 => if dN C1 i < (C1 i 0).toNatClampNeg then (C1 i 0).toNatClampNeg else dN C1 i
theorem dN_le {C1 : Nat → Nat → Int32} {n : Nat} (lo : ln_ok 4 n C1) : ∀ i, i ≤ n → dN C1 i ≤ 3
  | 0, _ => Nat.zero_le _
  | i + 1, hi => by
    obtain ⟨a, b, a1, a4, b6, ea, eb, -⟩ := lo.2 i (by omega)
    have := dN_le lo i (by omega)
    unfold dN
    rw [ea, nI_clamp (by omega)]
    split <;> omega
/-! FITS, of the class, exactly -/
def fG (k : Nat) : Nat → Prop := fun a => a = 53 ∨ a = 66 ∨ a = 67 ∨ a = 68 ∨ (70 + 2 * k ≤ a ∧ a ≤ 75)
def fX (h hh : ax_H) (dd : Nat) (D : rD) (hv : Nat → Int32) (c : Nat) (mb ρ : Nat → Nat) (gone : Nat) : Prop := ax_same fF h hh ∧ co_at hh 52 (dP D) (dH D) hv (sp_vl D) ∧ ax_i hh 66 1 = nI dd ∧ ax_i hh 66 2 = nI c ∧ (∀ t, t < dd → ax_i hh 67 t = nI (mb t)) ∧ ∀ t, t < gone → ax_i hh 68 t = nI (ρ t)
section
variable {r l n dd : Nat} {D : rD} {C1 : Nat → Nat → Int32} {hh : ax_H} {hv : Nat → Int32}
theorem sh_or {a q : Nat} (hq : q ≤ 12) : nI a ||| (1 : Int32) <<< (nI q &&& 31) = nI (a ||| 2 ^ q) := by rw [sh_12 q hq, or_nI]
def mbU (mb ρ : Nat → Nat) (i t : Nat) : Nat := if t < i then mb t ||| 2 ^ ρ t else mb t
theorem mbU_1 {mb ρ : Nat → Nat} {i t : Nat} (h : t < i) : mbU mb ρ i t = mb t ||| 2 ^ ρ t := if_pos h
theorem mbU_0 {mb ρ : Nat → Nat} {i t : Nat} (h : ¬ t < i) : mbU mb ρ i t = mb t := if_neg h
theorem c_keepRowE {c : Nat} {mb ρ : Nat → Nat} (se : se_st h 66) (hd : dd ≤ 3) (hρ : ∀ t, t < dd → ρ t ≤ 12) (F : fX h hh dd D hv c mb ρ dd) (hq : ∀ h', ax_same (fun a => a = 66 ∨ a = 67) hh h' → fX h h' dd D hv (c + 1) (fun t => mb t ||| 2 ^ ρ t) ρ dd → Ret none h') : mX7_keepRow g [.ref 66] hh Ret := by
  have se1 := se_st_same F.1 se
  refine uX7_keepRow (fun A hA => vX7_keepRow_0 hA ⟨rfl, se1.1, se1.1, ?_⟩)
  intro u1
  have key : ∀ m i : Nat, i + m = dd → ∀ h3, ax_same (fun a => a = 66 ∨ a = 67) hh h3 → fX h h3 dd D hv (c + 1) (mbU mb ρ i) ρ dd → A (12, [some (.ref 66), some (.int (nI i))], [], h3, 0, 0) := by
    intro m
    induction m with
    | zero =>
      intro i hi h3 fr F3
      have s3 := se_st_same F3.1 se
      refine vX7_keepRow_12 hA ⟨s3.1, fun _ => hq h3 fr ⟨F3.1, F3.2.1, F3.2.2.1, F3.2.2.2.1, fun t ht => ?_, F3.2.2.2.2.2⟩, fun q => ?_⟩
      · rw [F3.2.2.2.2.1 t ht, mbU_1 (by omega)]
      · rw [F3.2.2.1] at q; exact absurd (nI_le (by omega) (by omega)) q
    | succ m ih =>
      intro i hi h3 fr F3
      have s3 := se_st_same F3.1 se
      have a1 : (ax_s h3 (66 + 1)).1 = 11 := by rw [s3.2.2.1.1]
      have a2 : vp_in (nI i) (ax_s h3 (66 + 1)).2 := by rw [s3.2.2.1.1]; exact vp_in_nI (by omega) (by decide)
      refine vX7_keepRow_12 hA ⟨s3.1, fun q => ?_, fun _ => ⟨s3.1, _, s3.2.1.1, ⟨rfl, rfl⟩, a1, a2, s3.1, _, s3.2.1.2.1, by rw [s3.2.2.1.2.1], by rw [s3.2.2.1.2.1]; exact vp_in_nI (by omega) (by decide), ?_⟩⟩
      · rw [F3.2.2.1] at q; exact absurd q (nI_ge (by omega) (by omega))
      · intro z4
        have ez : z4 = nI (mb i ||| 2 ^ ρ i) := by
          show ax_i h3 67 (nI i).toNatClampNeg ||| (1 : Int32) <<< (ax_i h3 68 (nI i).toNatClampNeg &&& 31) = _
          rw [nI_clamp (by omega), F3.2.2.2.2.1 i (by omega), mbU_0 (by omega), F3.2.2.2.2.2 i (by omega), sh_or (hρ i (by omega))]
        refine ⟨a1, a2, ?_⟩
        intro u5
        rw [← nI_succ]
        refine ih (i + 1) (by omega) u5 (sm_tr fr (sm_pi (Or.inr rfl))) ⟨sm_tr F3.1 (sm_pi (by unfold fF; omega)), co_at_same (F := fun x => x = 67) (sm_pi rfl) (by decide) F3.2.1, ?_, ?_, fun t ht => ?_, fun t ht => ?_⟩
        · show ax_i (ax_pi h3 67 _ _) 66 1 = _
          rw [ai_pi, if_neg (by omega)]; exact F3.2.2.1
        · show ax_i (ax_pi h3 67 _ _) 66 2 = _
          rw [ai_pi, if_neg (by omega)]; exact F3.2.2.2.1
        · show ax_i (ax_pi h3 67 (nI i).toNatClampNeg z4) 67 t = _
          rw [nI_clamp (by omega), ai_pi]
          by_cases e : t = i
          · rw [if_pos ⟨rfl, e⟩, ez, mbU_1 (by omega), e]
          · rw [if_neg (fun w => e w.2), F3.2.2.2.2.1 t ht]
            by_cases e2 : t < i
            · rw [mbU_1 e2, mbU_1 (by omega)]
            · rw [mbU_0 e2, mbU_0 (by omega)]
        · show ax_i (ax_pi h3 67 _ _) 68 t = _
          rw [ai_pi, if_neg (by omega)]; exact F3.2.2.2.2.2 t ht
  refine key dd 0 (by omega) u1 (sm_pi (Or.inl rfl)) ⟨sm_tr F.1 (sm_pi (by unfold fF; omega)), co_at_same (F := fun x => x = 66) (sm_pi rfl) (by decide) F.2.1, ?_, ?_, fun t ht => ?_, fun t ht => ?_⟩
  · show ax_i (ax_pi hh 66 2 _) 66 1 = _
    rw [ai_pi, if_neg (by omega)]; exact F.2.2.1
  · show ax_i (ax_pi hh 66 2 (ax_i hh 66 2 + 1)) 66 2 = _
    rw [ai_pi, if_pos ⟨rfl, rfl⟩, F.2.2.2.1, ← nI_succ]
  · show ax_i (ax_pi hh 66 2 _) 67 t = _
    rw [ai_pi, if_neg (by omega), mbU_0 (by omega)]; exact F.2.2.2.2.1 t ht
  · show ax_i (ax_pi hh 66 2 _) 68 t = _
    rw [ai_pi, if_neg (by omega)]; exact F.2.2.2.2.2 t ht
theorem c_isAsSeenE {gone : Nat} (rc : rc_at hh r D) (co : co_at hh 52 (dP D) (dH D) hv (sp_vl D)) (L : li_at hh l 4 n C1) (hq : Ret (some (.int (b2i (seenB D C1 hv gone n)))) hh) : mX7_isAsSeen g [.ref r, .ref 52, .ref l, .int (nI gone)] hh Ret := by
  have n6 : n ≤ 6 := L.2.1
  have P6 := rc.2.1.2
  refine uX7_isAsSeen (fun A hA => vX7_isAsSeen_0 hA ?_)
  have key : ∀ m i : Nat, i + m = n → seenB D C1 hv gone i = true → ∀ o5 : Option Value, A (3, [some (.ref r), some (.ref 52), some (.ref l), some (.int (nI gone)), some (.int (nI i)), o5], [], hh, 0, 0) := by
    intro m
    induction m with
    | zero =>
      intro i hi al o5
      refine vX7_isAsSeen_3 hA ⟨L.1.1, fun _ => ⟨Or.inr rfl, ?_⟩, fun q => ?_⟩
      · rw [show n = i by omega, al] at hq; exact hq
      · rw [L.2.2.1] at q; exact absurd (nI_le (by omega) (by omega)) q
    | succ m ih =>
      intro i hi al o5
      have un : seenB D C1 hv gone (i + 1) = (if C1 i 0 = nI gone then sp_in (C1 i 1) (dP D) && decide (hv (C1 i 1).toNatClampNeg = C1 i 2) else true) := by
        show (seenB D C1 hv gone i && _) = _
        rw [al, Bool.true_and]
      have K : seenB D C1 hv gone (i + 1) = true → ∀ o5 : Option Value, A (3, [some (.ref r), some (.ref 52), some (.ref l), some (.int (nI gone)), some (.int (nI i + 1)), o5], [], hh, 0, 0) := fun e o5 => by rw [← nI_succ]; exact ih (i + 1) (by omega) e _
      have bad : seenB D C1 hv gone (i + 1) = false → Ret (some (.int 0)) hh := fun e => by
        have t := seen_mono m e
        rw [show i + 1 + m = n by omega] at t
        rw [t] at hq
        exact hq
      have e0 : sp_lc n (lw 4) C1 (nI i) 0 = C1 i 0 := lc_in (j := 0) (by omega) (by decide) (by omega) (by decide)
      have e1 : sp_lc n (lw 4) C1 (nI i) 1 = C1 i 1 := lc_in (j := 1) (by omega) (by decide) (by omega) (by decide)
      have e2 : sp_lc n (lw 4) C1 (nI i) 2 = C1 i 2 := lc_in (j := 2) (by omega) (by decide) (by omega) (by decide)
      refine vX7_isAsSeen_3 hA ⟨L.1.1, fun q => ?_, fun _ => ⟨L.1.1, c_lcell (by decide) (by decide) L ⟨_, rfl, L.1.1, c_lcell (by decide) (by decide) L ⟨_, rfl, ?_⟩⟩⟩⟩
      · rw [L.2.2.1] at q; exact absurd q (nI_ge (by omega) (by omega))
      · rw [e0, e1]
        refine ⟨fun c => K (by rw [un, if_neg c]) _, fun c => ⟨rc.1.1, c_hasPerson rc ⟨_, rfl, fun q => ⟨Or.inl rfl, bad ?_⟩, fun q => ⟨co.1.1, _, co.1.2.1, by rw [co.1.2.2.2.1], ?_, L.1.1, c_lcell (by decide) (by decide) L ⟨_, rfl, ?_⟩⟩⟩⟩⟩
        · rw [un, if_pos c, b2i_0.mp q, Bool.false_and]
        · obtain ⟨p, hp, ep⟩ := sp_in_ix (by omega) (b2i_n0.mp q)
          rw [ep, co.1.2.2.2.1]; exact vp_in_nI (by omega) (by decide)
        · rw [e2]
          obtain ⟨p, hp, ep⟩ := sp_in_ix (by omega) (b2i_n0.mp q)
          have ev : ax_i hh (52 + 1) (C1 i 1).toNatClampNeg = hv (C1 i 1).toNatClampNeg := by rw [ep, nI_clamp (by omega)]; exact co.2.2.2.2.1 p hp
          refine ⟨fun d => K ?_ _, fun d => ⟨Or.inl rfl, bad ?_⟩⟩
          · have d : ax_i hh (52 + 1) (C1 i 1).toNatClampNeg = C1 i 2 := d
            rw [ev] at d
            rw [un, if_pos c, b2i_n0.mp q, Bool.true_and]; exact decide_eq_true d
          · have d : ¬ ax_i hh (52 + 1) (C1 i 1).toNatClampNeg = C1 i 2 := d
            rw [ev] at d
            rw [un, if_pos c, b2i_n0.mp q, Bool.true_and]; exact decide_eq_false d
  exact key n 0 (by omega) rfl _
theorem c_followE (ok : rd_ok D) (se : se_st h 66) (rc : rc_at h r D) (hr : r + 6 ≤ 52) (L : li_at h l 4 n C1) (hl : l + 2 ≤ 52) (hd : dd ≤ 3) : ∀ (e gone d : Nat) (hh : ax_H) (hv : Nat → Int32) (c : Nat) (mb ρ : Nat → Nat) (Ret : Option Value → ax_H → Prop), gone + e = dd → e ≤ d → (∀ t, t < gone → ρ t ≤ 12) → fX h hh dd D hv c mb ρ gone → (∀ h', ax_same (fG gone) hh h' → fX h h' dd D hv (c + cnt D n C1 e gone hv) (fun t => mb t ||| bF D n C1 t e gone hv ρ) ρ gone → Ret none h') → mX7_follow g d [.ref 66, .ref r, .ref 52, .ref l, .int (nI gone)] hh Ret := by
  have H12 := rc.2.1.1
  have P6 := rc.2.1.2
  have kp : ∀ h3, ax_same fF h h3 → se_st h3 66 ∧ rc_at h3 r D ∧ li_at h3 l 4 n C1 := fun h3 F => ⟨se_st_same F se, rc_at_same F (fun j hj q => by unfold fF at q; omega) rc, li_at_same F (by refine ⟨?_, ?_⟩ <;> (intro q; unfold fF at q; omega)) L⟩
  intro e
  induction e with
  | zero =>
    intro gone d hh hv c mb ρ Ret hg he hρ F hq
    obtain ⟨s, rc1, L1⟩ := kp hh F.1
    have eg : gone = dd := by omega
    subst eg
    refine uX7_follow (fun A hA => vX7_follow_0 hA ⟨s.1, fun _ => ⟨s.1, c_keepRowE se hd hρ F (fun h2 f2 F2 => ⟨rfl, hq h2 (sm_mono f2 (fun x e => by unfold fG; omega)) F2⟩)⟩, fun q => ?_⟩)
    rw [F.2.2.1] at q; exact absurd (nI_le (by omega) (by omega)) q
  | succ e ihe =>
    intro gone d hh hv c mb ρ Ret hg he hρ F hq
    obtain ⟨s, rc1, L1⟩ := kp hh F.1
    have co := F.2.1
    obtain ⟨d, rfl⟩ : ∃ d', d = d' + 1 := ⟨d - 1, by omega⟩
    have od := (s.2.2.2 gone (by omega)).2
    refine uX7_follow (fun A hA => vX7_follow_0 hA ⟨s.1, fun q => ?_, fun q => ⟨fun _ => ⟨s.1, _, s.2.1.2.2, by rw [s.2.2.1.2.2], by rw [s.2.2.1.2.2]; exact vp_in_nI (by omega) (by decide), 66 + 4 + 2 * gone, by rw [nI_clamp (by omega)]; exact (s.2.2.2 gone (by omega)).1, co.1.1, c_poorest co ⟨_, rfl, od.1, c_weigh od rc1 (fun j hj q => by unfold od_F at q; omega) (fun h2 s2 o2 => ⟨rfl, ?_⟩)⟩⟩, fun q3 => absurd (nI_lt (a := gone) (b := 3) (by omega) (by decide)) q3⟩⟩)
    · rw [F.2.2.1] at q; exact absurd q (nI_ge (by omega) (by omega))
    have n66 : ∀ x j, (x = 66 ∨ x = 67 ∨ x = 68) → ax_i h2 x j = ax_i hh x j := fun x j hx => (s2.2.2.2 x (by unfold od_F; omega)).1 j
    have F2 : fX h h2 dd D hv c mb ρ gone := ⟨sm_tr F.1 (sm_mono s2 (fun x e => by unfold od_F at e; unfold fF; omega)), co_at_same s2 (by refine ⟨?_, ?_, ?_⟩ <;> (intro q; unfold od_F at q; omega)) co, by rw [n66 _ _ (Or.inl rfl)]; exact F.2.2.1, by rw [n66 _ _ (Or.inl rfl)]; exact F.2.2.2.1, fun t ht => by rw [n66 _ _ (Or.inr (Or.inl rfl))]; exact F.2.2.2.2.1 t ht, fun t ht => by rw [n66 _ _ (Or.inr (Or.inr rfl))]; exact F.2.2.2.2.2 t ht⟩
    have key : ∀ m i : Nat, i + m = dH D → ∀ h3, ax_same (fG gone) hh h3 → od_at h3 (66 + 4 + 2 * gone) (dH D) (sp_w D (sp_po (dP D) hv)) (sp_t D (sp_po (dP D) hv)) → fX h h3 dd D hv (c + sNn (fun q => if okB D n C1 hv gone q then cnt D n C1 e (gone + 1) (fun p => hv p + sp_vl D p q) else 0) i) (fun t => mb t ||| orN (fun q => if okB D n C1 hv gone q then bF D n C1 t e (gone + 1) (fun p => hv p + sp_vl D p q) (updN ρ gone q) else 0) i) ρ gone → A (48, [some (.ref 66), some (.ref r), some (.ref 52), some (.ref l), some (.int (nI gone)), some (.ref (66 + 4 + 2 * gone)), some (.int (nI i))], [], h3, 0, 0) := by
      intro m
      induction m with
      | zero =>
        intro i hi h3 fr o3 F3
        obtain ⟨s3, rc3, L3⟩ := kp h3 F3.1
        refine vX7_follow_48 hA ⟨rc3.1.1, fun _ => hq h3 fr (by rw [show i = dH D by omega] at F3; exact F3), fun q => ?_⟩
        rw [rc3.2.2.1.1] at q; exact absurd (nI_le (by omega) (by omega)) q
      | succ m ih =>
        intro i hi h3 fr o3 F3
        obtain ⟨s3, rc3, L3⟩ := kp h3 F3.1
        have co3 := F3.2.1
        have ew : ax_i h3 (66 + 4 + 2 * gone + 1) (nI i).toNatClampNeg = sp_w D (sp_po (dP D) hv) i := by rw [nI_clamp (by omega)]; exact o3.2.2.2.2 i (by omega)
        have no : okB D n C1 hv gone i = false → ∀ h4, ax_same (fG gone) hh h4 → od_at h4 (66 + 4 + 2 * gone) (dH D) (sp_w D (sp_po (dP D) hv)) (sp_t D (sp_po (dP D) hv)) → fX h h4 dd D hv (c + sNn (fun q => if okB D n C1 hv gone q then cnt D n C1 e (gone + 1) (fun p => hv p + sp_vl D p q) else 0) i) (fun t => mb t ||| orN (fun q => if okB D n C1 hv gone q then bF D n C1 t e (gone + 1) (fun p => hv p + sp_vl D p q) (updN ρ gone q) else 0) i) ρ gone → A (48, [some (.ref 66), some (.ref r), some (.ref 52), some (.ref l), some (.int (nI gone)), some (.ref (66 + 4 + 2 * gone)), some (.int (nI i + 1))], [], h4, 0, 0) := fun eo h4 f4 o4 F4 => by
          rw [← nI_succ]
          refine ih (i + 1) (by omega) h4 f4 o4 ⟨F4.1, F4.2.1, F4.2.2.1, ?_, fun t ht => ?_, F4.2.2.2.2.2⟩
          · rw [F4.2.2.2.1]
            show nI (c + sNn _ i) = nI (c + (sNn _ i + (if okB D n C1 hv gone i = true then _ else 0)))
            rw [eo, if_neg Bool.false_ne_true]
            rfl
          · rw [F4.2.2.2.2.1 t ht]
            show nI (mb t ||| orN _ i) = nI (mb t ||| (orN _ i ||| (if okB D n C1 hv gone i = true then _ else 0)))
            rw [eo, if_neg Bool.false_ne_true, Nat.or_zero]
        have un : ∀ (h4 : ax_H) (c4 : Nat) (mb4 ρ4 : Nat → Nat) (g4 : Nat), fX h h4 dd D (fun p => hv p + sp_vl D p i) c4 mb4 ρ4 g4 → ∀ {R : Option Value → ax_H → Prop}, (∀ h5, ax_same (fun a => a = 53) h4 h5 → fX h h5 dd D hv c4 mb4 ρ4 g4 → R none h5) → (ax_s h4 52).1 = 0 ∧ mX0_unlive g [.ref 52, .int (nI i)] h4 R := fun h4 c4 mb4 ρ4 g4 F4 {R} K => by
          refine ⟨F4.2.1.1.1, c_unlive F4.2.1 (fun h5 s5 c5 => K h5 s5 ⟨sm_tr F4.1 (sm_mono s5 (fun x e => by unfold fF; omega)), co_congr c5 (fun p hp => ?_), by rw [(s5.2.2.2 66 (by decide)).1]; exact F4.2.2.1, by rw [(s5.2.2.2 66 (by decide)).1]; exact F4.2.2.2.1, fun t ht => by rw [(s5.2.2.2 67 (by decide)).1]; exact F4.2.2.2.2.1 t ht, fun t ht => by rw [(s5.2.2.2 68 (by decide)).1]; exact F4.2.2.2.2.2 t ht⟩)⟩
          show (hv p + sp_vl D p i) - sp_br (dP D) (dH D) (sp_vl D) (nI p) (nI i) = hv p
          rw [sp_br_in hp (by omega) P6 H12, Int32.add_sub_cancel]
        refine vX7_follow_48 hA ⟨rc3.1.1, fun q => ?_, fun _ => ⟨o3.1.1, _, o3.1.2.1, by rw [o3.1.2.2], by rw [o3.1.2.2]; exact vp_in_nI (by omega) (by decide), fun w0 => ⟨co3.1.1, c_live co3 (fun h4 s4 c4 => ⟨rfl, ?_⟩)⟩, fun w0 => ?_⟩⟩
        · rw [rc3.2.2.1.1] at q; exact absurd q (nI_ge (by omega) (by omega))
        · have w0 : ¬ ax_i h3 (66 + 4 + 2 * gone + 1) (nI i).toNatClampNeg = 0 := w0
          rw [ew] at w0
          have c4' : co_at h4 52 (dP D) (dH D) (fun p => hv p + sp_vl D p i) (sp_vl D) := co_congr c4 (fun p hp => by rw [sp_br_in hp (by omega) P6 H12])
          have s5 := (kp h4 (sm_tr F3.1 (sm_mono s4 (fun x e => by unfold fF; omega)))).1
          refine ⟨s5.1, _, s5.2.1.2.1, by rw [s5.2.2.1.2.1], by rw [s5.2.2.1.2.1]; exact vp_in_nI (by omega) (by decide), ?_⟩
          intro u16
          have su : ax_same (fun a => a = 53 ∨ a = 68) h3 u16 := sm_tr (sm_mono s4 (fun x e => Or.inl e)) (sm_pi (Or.inr rfl))
          have fu : ax_same fF h u16 := sm_tr F3.1 (sm_mono su (fun x e => by unfold fF; omega))
          obtain ⟨s6, rc6, L6⟩ := kp u16 fu
          have cu : co_at u16 52 (dP D) (dH D) (fun p => hv p + sp_vl D p i) (sp_vl D) := co_at_same (F := fun x => x = 68) (sm_pi rfl) (by decide) c4'
          have ou : od_at u16 (66 + 4 + 2 * gone) (dH D) (sp_w D (sp_po (dP D) hv)) (sp_t D (sp_po (dP D) hv)) := od_at_same su (by refine ⟨?_, ?_⟩ <;> (intro q; omega)) o3
          have k66 : ∀ x j, (x = 66 ∨ x = 67) → ax_i u16 x j = ax_i h3 x j := fun x j hx => (su.2.2.2 x (by omega)).1 j
          have r68 : ∀ t, t < gone + 1 → ax_i u16 68 t = nI (updN ρ gone i t) := fun t ht => by
            show ax_i (ax_pi h4 68 (nI gone).toNatClampNeg (nI i)) 68 t = _
            rw [nI_clamp (by omega), ai_pi]
            unfold updN
            by_cases e1 : t = gone
            · rw [if_pos ⟨rfl, e1⟩, if_pos e1]
            · rw [if_neg (fun w => e1 w.2), if_neg e1, (s4.2.2.2 68 (by decide)).1]; exact F3.2.2.2.2.2 t (by omega)
          have Fu : fX h u16 dd D (fun p => hv p + sp_vl D p i) (c + sNn (fun q => if okB D n C1 hv gone q then cnt D n C1 e (gone + 1) (fun p => hv p + sp_vl D p q) else 0) i) (fun t => mb t ||| orN (fun q => if okB D n C1 hv gone q then bF D n C1 t e (gone + 1) (fun p => hv p + sp_vl D p q) (updN ρ gone q) else 0) i) (updN ρ gone i) (gone + 1) := ⟨fu, cu, by rw [k66 _ _ (Or.inl rfl)]; exact F3.2.2.1, by rw [k66 _ _ (Or.inl rfl)]; exact F3.2.2.2.1, fun t ht => by rw [k66 _ _ (Or.inr rfl)]; exact F3.2.2.2.2.1 t ht, r68⟩
          have back : ∀ {h5 : ax_H} {c5 : Nat} {mb5 : Nat → Nat}, fX h h5 dd D hv c5 mb5 (updN ρ gone i) (gone + 1) → fX h h5 dd D hv c5 mb5 ρ gone := fun {h5 c5 mb5} F5 => ⟨F5.1, F5.2.1, F5.2.2.1, F5.2.2.2.1, F5.2.2.2.2.1, fun t ht => by rw [F5.2.2.2.2.2 t (by omega), show updN ρ gone i t = ρ t from if_neg (by omega)]⟩
          rw [← nI_succ]
          refine c_isAsSeenE rc6 cu L6 ⟨_, rfl, fun q0 => un u16 _ _ _ _ Fu (fun h5 s5 F5 => ⟨rfl, no ?_ h5 (sm_tr fr (sm_mono (sm_tr (sm_mono su (fun x e => e)) (sm_mono s5 (fun x e => Or.inl e))) (fun x e => by unfold fG; omega))) (od_at_same s5 (by refine ⟨?_, ?_⟩ <;> (intro q; omega)) ou) (back F5)⟩), fun q0 => ⟨s6.1, ?_⟩⟩
          · unfold okB
            rw [b2i_0.mp q0, Bool.and_false]
          · have yes : okB D n C1 hv gone i = true := by
              unfold okB
              rw [b2i_n0.mp q0, decide_eq_false w0]; rfl
            refine ihe (gone + 1) d u16 _ _ _ _ _ (by omega) (by omega) (fun t ht => ?_) Fu (fun h7 f7 F7 => ⟨rfl, un h7 _ _ _ _ F7 (fun h5 s5 F5 => ⟨rfl, ?_⟩)⟩)
            · unfold updN
              by_cases e1 : t = gone
              · rw [if_pos e1]; omega
              · rw [if_neg e1]; exact hρ t (by omega)
            · rw [← nI_succ]
              have f5 : ax_same (fG gone) hh h5 := sm_tr fr (sm_tr (sm_mono su (fun x e => by unfold fG; omega)) (sm_tr (sm_mono f7 (fun x e => by unfold fG at e ⊢; omega)) (sm_mono s5 (fun x e => by unfold fG; omega))))
              have o7 : od_at h7 (66 + 4 + 2 * gone) (dH D) (sp_w D (sp_po (dP D) hv)) (sp_t D (sp_po (dP D) hv)) := od_at_same f7 (by refine ⟨?_, ?_⟩ <;> (intro q; unfold fG at q; omega)) ou
              refine ih (i + 1) (by omega) h5 f5 (od_at_same s5 (by refine ⟨?_, ?_⟩ <;> (intro q; omega)) o7) ?_
              have B5 := back F5
              refine ⟨B5.1, B5.2.1, B5.2.2.1, ?_, fun t ht => ?_, B5.2.2.2.2.2⟩
              · rw [B5.2.2.2.1]
                show _ = nI (c + (sNn _ i + (if okB D n C1 hv gone i = true then cnt D n C1 e (gone + 1) (fun p => hv p + sp_vl D p i) else 0)))
                rw [yes, if_pos rfl, Nat.add_assoc]
              · rw [B5.2.2.2.2.1 t ht]
                show nI ((mb t ||| orN (fun q => if okB D n C1 hv gone q then bF D n C1 t e (gone + 1) (fun p => hv p + sp_vl D p q) (updN ρ gone q) else 0) i) ||| bF D n C1 t e (gone + 1) (fun p => hv p + sp_vl D p i) (updN ρ gone i)) = nI (mb t ||| (orN (fun q => if okB D n C1 hv gone q then bF D n C1 t e (gone + 1) (fun p => hv p + sp_vl D p q) (updN ρ gone q) else 0) i ||| (if okB D n C1 hv gone i = true then bF D n C1 t e (gone + 1) (fun p => hv p + sp_vl D p i) (updN ρ gone i) else 0)))
                rw [yes, if_pos rfl, Nat.or_assoc]
        · have w0 : ax_i h3 (66 + 4 + 2 * gone + 1) (nI i).toNatClampNeg = 0 := w0
          rw [ew] at w0
          refine no ?_ h3 fr o3 F3
          unfold okB
          rw [decide_eq_true w0]; rfl
    refine key (dH D) 0 (by omega) h2 (sm_mono s2 (fun x e => by unfold od_F at e; unfold fG; omega)) o2 ⟨F2.1, F2.2.1, F2.2.2.1, F2.2.2.2.1, fun t ht => ?_, F2.2.2.2.2.2⟩
    rw [F2.2.2.2.2.1 t ht]
    show nI (mb t) = nI (mb t ||| 0)
    rw [Nat.or_zero]
theorem c_runE (ok : rd_ok D) (se : se_st h 66) (rc : rc_at h r D) (hr : r + 6 ≤ 52) (co : co_at h 52 (dP D) (dH D) (dpu D) (sp_vl D)) (L : li_at h l 4 n C1) (lo : ln_ok 4 n C1) (hl : l + 2 ≤ 52) (hq : ∀ h', fX h h' (dN C1 n) D (dpu D) (cnt D n C1 (dN C1 n) 0 (dpu D)) (fun t => bF D n C1 t (dN C1 n) 0 (dpu D) (fun _ => 0)) (fun _ => 0) 0 → Ret none h') : mX7_run g [.ref 66, .ref r, .ref 52, .ref l] h Ret := by
  have n6 : n ≤ 6 := L.2.1
  refine uX7_run (fun A hA => vX7_run_0 hA ⟨se.1, ?_⟩)
  intro u1
  refine ⟨se.1, ?_⟩
  intro u2
  have dle := dN_le lo n (Nat.le_refl _)
  have k53 : ∀ m i : Nat, i + m = 3 → ∀ h3, fX h h3 (dN C1 n) D (dpu D) 0 (fun _ => 0) (fun _ => 0) 0 ∨ (ax_same fF h h3 ∧ co_at h3 52 (dP D) (dH D) (dpu D) (sp_vl D) ∧ ax_i h3 66 1 = nI (dN C1 n) ∧ ax_i h3 66 2 = nI 0 ∧ ∀ t, t < i → ax_i h3 67 t = nI 0) → A (53, [some (.ref 66), some (.ref r), some (.ref 52), some (.ref l), some (.int (nI i))], [], h3, 0, 0) := by
    intro m
    induction m with
    | zero =>
      intro i hi h3 F
      have F : fX h h3 (dN C1 n) D (dpu D) 0 (fun _ => 0) (fun _ => 0) 0 := by
        rcases F with F | ⟨a1, a2, a3, a4, a5⟩
        · exact F
        · exact ⟨a1, a2, a3, a4, fun t ht => a5 t (by omega), fun t ht => absurd ht (Nat.not_lt_zero t)⟩
      have s3 := se_st_same F.1 se
      refine vX7_run_53 hA ⟨fun _ => ⟨s3.1, c_followE ok se rc hr L hl dle (dN C1 n) 0 7 h3 _ _ _ _ _ (by omega) (by omega) (fun t ht => absurd ht (Nat.not_lt_zero t)) F (fun h4 _ F4 => ⟨rfl, hq h4 ⟨F4.1, F4.2.1, F4.2.2.1, ?_, fun t ht => ?_, F4.2.2.2.2.2⟩⟩)⟩, fun q => absurd (nI_le (a := 3) (b := i) (by omega) (by omega)) q⟩
      · rw [F4.2.2.2.1, Nat.zero_add]
      · rw [F4.2.2.2.2.1 t ht]
        show nI (0 ||| bF D n C1 t (dN C1 n) 0 (dpu D) (fun _ => 0)) = nI (bF D n C1 t (dN C1 n) 0 (dpu D) (fun _ => 0))
        rw [Nat.zero_or]
    | succ m ih =>
      intro i hi h3 F
      have G : ax_same fF h h3 ∧ co_at h3 52 (dP D) (dH D) (dpu D) (sp_vl D) ∧ ax_i h3 66 1 = nI (dN C1 n) ∧ ax_i h3 66 2 = nI 0 ∧ ((∀ t, t < i → ax_i h3 67 t = nI 0) ∨ ∀ t, t < dN C1 n → ax_i h3 67 t = nI 0) := by
        rcases F with F | ⟨a1, a2, a3, a4, a5⟩
        · exact ⟨F.1, F.2.1, F.2.2.1, F.2.2.2.1, Or.inr F.2.2.2.2.1⟩
        · exact ⟨a1, a2, a3, a4, Or.inl a5⟩
      obtain ⟨a1, a2, a3, a4, a5⟩ := G
      have s3 := se_st_same a1 se
      refine vX7_run_53 hA ⟨fun q => absurd q (nI_ge (a := i) (b := 3) (by omega) (by decide)), fun _ => ⟨s3.1, _, s3.2.1.1, by rw [s3.2.2.1.1], by rw [s3.2.2.1.1]; exact vp_in_nI (by omega) (by decide), ?_⟩⟩
      intro u11
      rw [← nI_succ]
      have b1 : ax_same fF h u11 := sm_tr a1 (sm_pi (by unfold fF; omega))
      have b2 : co_at u11 52 (dP D) (dH D) (dpu D) (sp_vl D) := co_at_same (F := fun x => x = 67) (sm_pi rfl) (by decide) a2
      have b3 : ax_i u11 66 1 = nI (dN C1 n) := by
        show ax_i (ax_pi h3 67 _ _) 66 1 = _
        rw [ai_pi, if_neg (by omega)]; exact a3
      have b4 : ax_i u11 66 2 = nI 0 := by
        show ax_i (ax_pi h3 67 _ _) 66 2 = _
        rw [ai_pi, if_neg (by omega)]; exact a4
      have b5 : ∀ t, ax_i u11 67 t = if t = i then nI 0 else ax_i h3 67 t := fun t => by
        show ax_i (ax_pi h3 67 (nI i).toNatClampNeg 0) 67 t = _
        rw [nI_clamp (by omega), ai_pi]
        by_cases w : t = i
        · rw [if_pos ⟨rfl, w⟩, if_pos w]; rfl
        · rw [if_neg (fun v => w v.2), if_neg w]
      refine ih (i + 1) (by omega) u11 ?_
      rcases a5 with a5 | a5
      · refine Or.inr ⟨b1, b2, b3, b4, fun t ht => ?_⟩
        rw [b5]
        split
        · rfl
        · exact a5 t (by omega)
      · refine Or.inl ⟨b1, b2, b3, b4, fun t ht => ?_, fun t ht => absurd ht (Nat.not_lt_zero t)⟩
        rw [b5]
        split
        · rfl
        · exact a5 t ht
  have k13 : ∀ m i : Nat, i + m = n → ∀ h3, ax_same fF h h3 → co_at h3 52 (dP D) (dH D) (dpu D) (sp_vl D) → ax_i h3 66 1 = nI (dN C1 i) → ax_i h3 66 2 = nI 0 → A (13, [some (.ref 66), some (.ref r), some (.ref 52), some (.ref l), some (.int (nI i))], [], h3, 0, 0) := by
    intro m
    induction m with
    | zero =>
      intro i hi h3 a1 a2 a3 a4
      have L3 := li_at_same a1 (by refine ⟨?_, ?_⟩ <;> (intro q; unfold fF at q; omega)) L
      have e : i = n := by omega
      subst e
      refine vX7_run_13 hA ⟨L3.1.1, fun _ => k53 3 0 (by decide) h3 (Or.inr ⟨a1, a2, a3, a4, fun t ht => absurd ht (Nat.not_lt_zero t)⟩), fun q => ?_⟩
      rw [L3.2.2.1] at q; exact absurd (nI_le (by omega) (by omega)) q
    | succ m ih =>
      intro i hi h3 a1 a2 a3 a4
      have s3 := se_st_same a1 se
      have L3 := li_at_same a1 (by refine ⟨?_, ?_⟩ <;> (intro q; unfold fF at q; omega)) L
      obtain ⟨a, b, h1, h4, b6, ea, eb, -⟩ := lo.2 i (by omega)
      have di := dN_le lo i (by omega)
      refine vX7_run_13 hA ⟨L3.1.1, fun q => ?_, fun _ => ⟨s3.1, L3.1.1, c_lcell (by decide) (by decide) L3 ⟨_, rfl, ?_⟩⟩⟩
      · rw [L3.2.2.1] at q; exact absurd q (nI_ge (by omega) (by omega))
      · intro z6
        have ez : z6 = nI (dN C1 (i + 1)) := by
          show (if ax_i h3 66 1 < (if 3 < sp_lc n (lw 4) C1 (nI i) 0 then 3 else sp_lc n (lw 4) C1 (nI i) 0) then (if 3 < sp_lc n (lw 4) C1 (nI i) 0 then 3 else sp_lc n (lw 4) C1 (nI i) 0) else ax_i h3 66 1) = nI (if dN C1 i < (C1 i 0).toNatClampNeg then (C1 i 0).toNatClampNeg else dN C1 i)
          rw [show sp_lc n (lw 4) C1 (nI i) 0 = C1 i 0 from lc_in (j := 0) (by omega) (by decide) (by omega) (by decide), ea, if_neg (show ¬ (3 : Int32) < nI a from nI_nlt (a := 3) (b := a) (by omega) (by decide)), a3, nI_clamp (by omega)]
          by_cases w : dN C1 i < a
          · rw [if_pos w, if_pos (nI_lt w (by omega))]
          · rw [if_neg w, if_neg (nI_nlt (by omega) (by omega))]
        refine ⟨s3.1, ?_⟩
        intro u7
        rw [← nI_succ]
        refine ih (i + 1) (by omega) u7 (sm_tr a1 (sm_pi (by unfold fF; omega))) (co_at_same (F := fun x => x = 66) (sm_pi rfl) (by decide) a2) ?_ ?_
        · show ax_i (ax_pi h3 66 1 z6) 66 1 = _
          rw [ai_pi, if_pos ⟨rfl, rfl⟩, ez]
        · show ax_i (ax_pi h3 66 1 z6) 66 2 = _
          rw [ai_pi, if_neg (by omega)]; exact a4
  refine k13 n 0 (by omega) u2 (sm_tr (sm_pi (by unfold fF; omega)) (sm_pi (by unfold fF; omega))) (co_at_same (F := fun x => x = 66) (sm_tr (sm_pi rfl) (sm_pi rfl)) (by decide) co) ?_ ?_
  · show ax_i (ax_pi (ax_pi h 66 1 0) 66 2 0) 66 1 = _
    rw [ai_pi, if_neg (by omega), ai_pi, if_pos ⟨rfl, rfl⟩]; rfl
  · show ax_i (ax_pi (ax_pi h 66 1 0) 66 2 0) 66 2 = _
    rw [ai_pi, if_pos ⟨rfl, rfl⟩]; rfl
end
/-- the hour that a set is, from i on, of those below L -/
def srF (m : Nat) : Nat → Nat → Int32
  | 0, _ => -1
  | f + 1, i => if m = 2 ^ i then nI i else srF m f (i + 1)
theorem srF_none {m b : Nat} (hm : m < 2 ^ b) : ∀ f i, b ≤ i → srF m f i = -1
  | 0, _, _ => rfl
  | f + 1, i, hi => by
    unfold srF
    rw [if_neg (fun e => by
      have := Nat.pow_le_pow_right (n := 2) (by decide) hi
      omega)]
    exact srF_none hm f (i + 1) (by omega)
theorem srF_cut {m b : Nat} (hm : m < 2 ^ b) : ∀ f i, i ≤ b → b ≤ i + f → srF m f i = srF m (b - i) i
  | 0, i, h1, h2 => by rw [show b - i = 0 by omega]
  | f + 1, i, h1, h2 => by
    rcases Nat.lt_or_ge i b with c | c
    · obtain ⟨e, he⟩ : ∃ e, b - i = e + 1 := ⟨b - i - 1, by omega⟩
      rw [he]
      show (if m = 2 ^ i then nI i else srF m f (i + 1)) = (if m = 2 ^ i then nI i else srF m e (i + 1))
      rw [srF_cut hm f (i + 1) (by omega) (by omega), show b - (i + 1) = e by omega]
    · rw [srF_none hm (f + 1) i c, show b - i = 0 by omega]; rfl
theorem pow_nI {m i : Nat} (hm : m < 2 ^ 12) (hi : i ≤ 12) : nI m = (1 : Int32) <<< (nI i &&& 31) ↔ m = 2 ^ i := by
  rw [sh_12 i hi]
  have := p_12 i hi
  exact nI_eq (by have : (2 : Nat) ^ 12 = 4096 := rfl; omega) (by omega)
theorem c_sureHourE {d m : Nat} (se : se_st h 66) (hd : d < 3) (e : ax_i h 67 d = nI m) (hm : m < 2 ^ 12) (hq : Ret (some (.int (srF m 12 0))) h) : mX7_sureHour g [.ref 66, .int (nI d)] h Ret := by
  refine uX7_sureHour (fun A hA => vX7_sureHour_0 hA ⟨fun q => absurd q (nI_pos (by omega)), fun _ => ⟨fun _ => ?_, fun q => absurd (nI_lt (b := 3) hd (by decide)) q⟩⟩)
  have key : ∀ f i : Nat, i + f = 12 → Ret (some (.int (srF m f i))) h → A (13, [some (.ref 66), some (.int (nI d)), some (.int (nI i))], [], h, 0, 0) := by
    intro f
    induction f with
    | zero =>
      intro i hi r
      exact vX7_sureHour_13 hA ⟨fun _ => r, fun q => absurd (nI_le (a := 12) (b := i) (by omega) (by omega)) q⟩
    | succ f ih =>
      intro i hi r
      unfold srF at r
      refine vX7_sureHour_13 hA ⟨fun q => absurd q (nI_ge (a := i) (b := 12) (by omega) (by decide)), fun _ => ⟨se.1, _, se.2.1.1, by rw [se.2.2.1.1], by rw [se.2.2.1.1]; exact vp_in_nI (by omega) (by decide), fun c => ?_, fun c => ?_⟩⟩
      · have c : ¬ ax_i h 67 (nI d).toNatClampNeg = (1 : Int32) <<< (nI i &&& 31) := c
        rw [nI_clamp (by omega), e, pow_nI hm (by omega)] at c
        rw [if_neg c] at r
        rw [← nI_succ]; exact ih (i + 1) (by omega) r
      · have c : ax_i h 67 (nI d).toNatClampNeg = (1 : Int32) <<< (nI i &&& 31) := c
        rw [nI_clamp (by omega), e, pow_nI hm (by omega)] at c
        rw [if_pos c] at r
        exact r
  exact key 12 0 (by decide) hq
def s_fits (DD : Nat → rD) (N : Nat → Nat → Nat) (C : Nat → Nat → Nat → Nat → Int32) (x3 : Int32) (k w : Nat) : Int32 := if x3 = 0 then nI (cnt (DD k) (N 4 w) (C 4 w) (dN (C 4 w) (N 4 w)) 0 (dpu (DD k))) else if 10 ≤ x3 ∧ x3 < nI (10 + dN (C 4 w) (N 4 w)) then srF (bF (DD k) (N 4 w) (C 4 w) (x3 - 10).toNatClampNeg (dN (C 4 w) (N 4 w)) 0 (dpu (DD k)) (fun _ => 0)) (dH (DD k)) 0 else if 20 ≤ x3 ∧ x3 < nI (20 + dN (C 4 w) (N 4 w)) then nI (bF (DD k) (N 4 w) (C 4 w) (x3 - 20).toNatClampNeg (dN (C 4 w) (N 4 w)) 0 (dpu (DD k)) (fun _ => 0)) else -2
theorem rng_ix {b d : Nat} {x : Int32} (hb : b ≤ 50) (hd : d ≤ 3) (h1 : nI b ≤ x) (h2 : x < nI (b + d)) : ∃ i, i < d ∧ x = nI (b + i) := by
  have q3 := i_lt.mp h2
  have q4 := i_le.mp h1
  rw [nI_toInt (by omega)] at q3 q4
  obtain ⟨m, m1, m2, rfl⟩ := i_rng (a := b) (b := b + d) (by omega) (by omega) h1 (by rw [i_le, nI_toInt (by omega)]; omega)
  obtain ⟨i, rfl⟩ := Nat.exists_eq_add_of_le m1
  rw [nI_toInt (by omega)] at q3
  exact ⟨i, by omega, rfl⟩
theorem q9_fits {x1 x2 x3 : Int32} (a : tc h z DD N C) (se : se_st h 66) (hq : ∀ h', ax_same cl_F h h' → Ret (some (.int (qw (z 0) (z 4) x1 x2 (-2) (s_fits DD N C x3)))) h') : mX9_fits g [.ref 0, .int x1, .int x2, .int x3] h Ret := by
  have z0 := a.2.2.2.2.1 0 (by decide)
  have z4 := a.2.2.2.2.1 4 (by decide)
  have b1 : ∀ h', ax_same cl_F h h' → sp_in x1 (z 0) = false → Ret (some (.int (-2))) h' := fun h' s e => by have hv := hq h' s; rw [qw_n1 e] at hv; exact hv
  have b2 : ∀ h', ax_same cl_F h h' → sp_in x2 (z 4) = false → Ret (some (.int (-2))) h' := fun h' s e => by have hv := hq h' s; rw [qw_n2 e] at hv; exact hv
  refine eX9_fits ⟨a.1.1, q_begun a (fun q => Or.inr ⟨rfl, a.1.1, _, a.1.2.1.1, a.2.2.1.1.1, c_linesAt (s0 := 4) a.2.2.1 (by decide) (by decide) (fun _ => Or.inr ⟨rfl, b1 h sm_rf q⟩) (fun k hk ex => Or.inl ⟨_, rfl, b1 h sm_rf q⟩)⟩) (fun k hk ex ok h' hs xs hc => Or.inl ⟨_, rfl, ?_⟩)⟩
  have b := tc_cl hs a
  refine ⟨b.1.1, _, b.1.2.1.1, b.2.2.1.1.1, c_linesAt (s0 := 4) b.2.2.1 (by decide) (by decide) (fun q => Or.inr ⟨rfl, b2 h' hs q⟩) (fun w hw ew => Or.inl ⟨_, rfl, ?_⟩)⟩
  have L := b.2.2.1.2.2.2 4 w (by decide) (by decide) hw
  have lo := a.2.2.2.2.2.2 4 w (by decide) (by decide) hw
  have s := se_st_same hs se
  have H12 := ok.1.2
  have dle := dN_le lo (N 4 w) (Nat.le_refl _)
  refine ⟨b.1.1, _, b.1.2.1.2.2.2.2.2.2.2.1, b.1.1, _, b.1.2.1.2.2.2.1, s.1, c_runE ok s hc.1 (by omega) hc.2.1 L lo (by unfold lnp; omega) (fun h2 F => ⟨rfl, ?_⟩)⟩
  have s2 := se_st_same F.1 s
  have x2' := xs_st_same F.1 xs
  have hv := hq h2 (sm_tr hs (sm_mono F.1 (fun x e => by unfold fF at e; unfold cl_F; omega)))
  rw [qw_y z0 z4 hk ex hw ew] at hv
  unfold s_fits at hv
  have r0 := x2'.1
  have r7 := x2'.2.1.2.2.2.2.2.2.2.1
  have e20 : (20 : Int32) + ax_i h2 66 1 = nI (20 + dN (C 4 w) (N 4 w)) := by rw [F.2.2.1]; exact ni_c 20 _
  have e10 : (10 : Int32) + ax_i h2 66 1 = nI (10 + dN (C 4 w) (N 4 w)) := by rw [F.2.2.1]; exact ni_c 10 _
  have late : (¬ x3 = 0) → ¬ (10 ≤ x3 ∧ x3 < nI (10 + dN (C 4 w) (N 4 w))) → ¬ x3 < 20 → ¬ 20 + ax_i h2 66 1 ≤ x3 → vp_in (x3 - 20) (ax_s h2 (66 + 1)).2 ∧ Ret (some (.int (ax_i h2 (66 + 1) (x3 - 20).toNatClampNeg))) h2 := fun n0 n10 q1 q2 => by
    rw [e20] at q2
    rw [if_neg n0, if_neg n10, if_pos ⟨nt_lt.mp q1, nt_le.mp q2⟩] at hv
    obtain ⟨i, hi, rfl⟩ := rng_ix (b := 20) (by decide) dle (nt_lt.mp q1) (nt_le.mp q2)
    have es : nI (20 + i) - 20 = nI i := ni_sb
    rw [es, nI_clamp (by omega)] at hv
    rw [es, s2.2.2.1.1, nI_clamp (by omega), show ax_i h2 (66 + 1) i = _ from F.2.2.2.2.1 i hi]
    exact ⟨vp_in_nI (by omega) (by decide), hv⟩
  have none2 : (¬ x3 = 0) → ¬ (10 ≤ x3 ∧ x3 < nI (10 + dN (C 4 w) (N 4 w))) → ¬ (20 ≤ x3 ∧ x3 < nI (20 + dN (C 4 w) (N 4 w))) → Ret (some (.int (-2))) h2 := fun n0 n10 n20 => by
    rw [if_neg n0, if_neg n10, if_neg n20] at hv; exact hv
  refine ⟨fun n0 => ⟨fun q10 => ⟨fun q20 => none2 n0 (fun w => absurd q10 (Int32.not_lt.mpr w.1)) (fun w => absurd q20 (Int32.not_lt.mpr w.1)), fun q => ⟨r0, _, r7, s2.1, fun q2 => ?_, fun q2 => ⟨r0, _, r7, s2.1, _, s2.2.1.1, by rw [s2.2.2.1.1], late n0 (fun w => absurd q10 (Int32.not_lt.mpr w.1)) q q2⟩⟩⟩, fun q10 => ⟨r0, _, r7, s2.1, fun q11 => ⟨fun q20 => ?_, fun q => ⟨r0, _, r7, s2.1, fun q2 => ?_, fun q2 => ⟨r0, _, r7, s2.1, _, s2.2.1.1, by rw [s2.2.2.1.1], late n0 ?_ q q2⟩⟩⟩, fun q11 => ⟨r0, _, r7, s2.1, ?_⟩⟩⟩, fun e0 => ⟨r0, _, r7, s2.1, ?_⟩⟩
  · rw [e20] at q2
    exact none2 n0 (fun w => absurd q10 (Int32.not_lt.mpr w.1)) (fun w => absurd q2 (nt_le.mpr w.2))
  · rw [e10] at q11
    exact none2 n0 (fun w => absurd q11 (nt_le.mpr w.2)) (fun w => absurd q20 (Int32.not_lt.mpr w.1))
  · rw [e10] at q11
    rw [e20] at q2
    exact none2 n0 (fun w => absurd q11 (nt_le.mpr w.2)) (fun w => absurd q2 (nt_le.mpr w.2))
  · rw [e10] at q11
    exact fun w => absurd q11 (nt_le.mpr w.2)
  · rw [e10] at q11
    rw [if_neg n0, if_pos ⟨nt_lt.mp q10, nt_le.mp q11⟩] at hv
    obtain ⟨i, hi, rfl⟩ := rng_ix (b := 10) (by decide) dle (nt_lt.mp q10) (nt_le.mp q11)
    have es : nI (10 + i) - 10 = nI i := ni_sb
    rw [es, nI_clamp (by omega)] at hv
    rw [es]
    have bl := bF_lt (D := DD k) (n := N 4 w) (C1 := C 4 w) (t := i) (dN (C 4 w) (N 4 w)) 0 (dpu (DD k)) (fun _ => 0) (fun q => absurd q (Nat.not_lt_zero i)) (by omega)
    have bl12 : bF (DD k) (N 4 w) (C 4 w) i (dN (C 4 w) (N 4 w)) 0 (dpu (DD k)) (fun _ => 0) < 2 ^ 12 := Nat.lt_of_lt_of_le bl (Nat.pow_le_pow_right (by decide) H12)
    refine c_sureHourE s2 (by omega) (F.2.2.2.2.1 i hi) bl12 ⟨_, rfl, ?_⟩
    rw [srF_cut bl 12 0 (Nat.zero_le _) (by omega), Nat.sub_zero]
    exact hv
  · rw [if_pos e0] at hv
    rw [F.2.2.2.1]; exact hv
end
