section
variable {g : ax_G} {Ret : Option Value → ax_H → Prop} {h : ax_H} {z : Nat → Nat} {DD : Nat → rD} {N : Nat → Nat → Nat} {C : Nat → Nat → Nat → Nat → Int32} {S : sT} {Im : Nat → Option sT} {tp : Nat → Nat} {B : Nat}
/-! HOPE and DOOM, of the class -/
theorem c_put76 {a b : Int64} (s1 : (ax_s h 76).1 = 1) (ha : -9223372036854775808 < a.toInt) (hb : 0 < b.toInt) (hq : ∀ h', ax_same (fun x => x = 76) h h' → ax_l h' 76 0 = a / gL a b → ax_l h' 76 1 = b / gL a b → Ret none h') : mX1_put g [.ref 76, .long a, .long b] h Ret := by
  refine eX1_put (c_side ha hb ⟨_, rfl, s1, ?_⟩)
  intro u4
  refine c_side ha hb ⟨_, rfl, s1, ?_⟩
  intro u8
  refine hq u8 (sm_tr (sm_pl rfl) (sm_pl rfl)) ?_ ?_
  · show ax_l (ax_pl (ax_pl h 76 0 _) 76 1 _) 76 0 = _
    rw [al_pl, if_neg (by decide), al_pl, if_pos ⟨rfl, rfl⟩]; rfl
  · show ax_l (ax_pl (ax_pl h 76 0 _) 76 1 _) 76 1 = _
    rw [al_pl, if_pos ⟨rfl, rfl⟩]; rfl
theorem c_add76 {x b : Int64} {L τ c d : Int} (s1 : (ax_s h 76).1 = 1) (hL : 0 < L) (hL2 : L < 9223372036854775808) (hτ : 0 < τ) (hc : 0 ≤ c) (hd : 0 ≤ d) (big : (c + d) * L < 9223372036854775807 * τ) (f : fOk (ax_l h 76 0) (ax_l h 76 1) L τ c) (b0 : 0 < b.toInt) (bL' : b.toInt ∣ L) (hx : x.toInt.natAbs * τ ≤ d * b.toInt) (hq : ∀ h', ax_same (fun x => x = 76) h h' → fOk (ax_l h' 76 0) (ax_l h' 76 1) L τ (c + d) → Ret none h') : mX1_add g [.ref 76, .long x, .long b] h Ret := by
  obtain ⟨n0, f1, bg⟩ := f_add hL hL2 hτ hc hd big f b0 bL' hx
  refine eX1_add ⟨s1, c_divisor (by have := f.1; omega) b0 ⟨_, rfl, n0, s1, s1, n0, s1, s1, c_put76 s1 bg f1.1 (fun h2 s2 e0 e1 => ⟨rfl, hq h2 s2 ?_⟩)⟩⟩
  rw [e0, e1]; exact f_put bg f1
theorem wd_bd {D : rD} (ok : rd_ok D) (x : Int32) : -1188 ≤ (sp_wd D x).toInt ∧ (sp_wd D x).toInt ≤ 1188 := by
  have H := ok.1.2
  have := sumN_bd (f := fun q => sp_wo D (sp_de D x (nI q))) (a := -99) (b := 99) (n := dH D) (fun i _ => wo_bd ok _) (by decide) (by decide) (by omega) (by omega)
  unfold sp_wd
  omega
theorem vl_bd {D : rD} (ok : rd_ok D) (p q : Nat) : -1287 ≤ (sp_vl D p q).toInt ∧ (sp_vl D p q).toInt ≤ 1287 := by
  have a := wd_bd ok (nI p)
  have b := ex_bd ok (sp_de D (nI p) (nI q)) (sp_mo D (sp_de D (nI p) (nI q)))
  unfold sp_vl sp_ex
  rw [i32_add (by omega) (by omega)]; omega
/-- purses within a bound -/
def hB (b : Int) (P : Nat) (hv : Nat → Int32) : Prop := ∀ p, p < P → -b ≤ (hv p).toInt ∧ (hv p).toInt ≤ b
theorem hB_live {D : rD} {hv : Nat → Int32} {b : Int} {q : Nat} (ok : rd_ok D) (hb : b ≤ 100000) (hq : q < dH D) (a : hB b (dP D) hv) : hB (b + 1287) (dP D) (fun p => hv p + sp_br (dP D) (dH D) (sp_vl D) (nI p) (nI q)) := fun p hp => by
  have h1 := a p hp
  have h2 := vl_bd ok p q
  show -(b + 1287) ≤ (hv p + sp_br (dP D) (dH D) (sp_vl D) (nI p) (nI q)).toInt ∧ (hv p + sp_br (dP D) (dH D) (sp_vl D) (nI p) (nI q)).toInt ≤ b + 1287
  rw [sp_br_in hp hq ok.2.1 ok.1.2, i32_add (by omega) (by omega)]; omega
theorem me_bd {P p : Nat} {hv : Nat → Int32} {b : Int} {x : Int32} (hb : 1 ≤ b) (hP : P ≤ 6) (hp : p < P) (a : hB b P hv) : -b ≤ (sp_me P hv (nI p) x).toInt ∧ (sp_me P hv (nI p) x).toInt ≤ b := by
  unfold sp_me
  split
  · rw [if_neg (by rintro (q | q); exact nI_pos (by omega) q; exact nI_ge hp (by omega) q), nI_clamp (by omega)]; exact a p hp
  · split
    · show -b ≤ (1 : Int) ∧ (1 : Int) ≤ b; omega
    · show -b ≤ (0 : Int) ∧ (0 : Int) ≤ b; omega
theorem c_nextDay {o p r : Nat} {D : rD} {hv : Nat → Int32} {W : Nat → Nat} {t x : Int32} {b : Int} (ok : rd_ok D) (ho : o = 55 ∨ o = 57) (xs : xs_st h) (rc : rc_at h r D) (hr : r + 6 ≤ 52) (co : co_at h 52 (dP D) (dH D) hv (sp_vl D)) (od : od_at h o (dH D) (fun q => nI (W q)) t) (hW : ∀ q, W q ≤ 9) (hp : p < dP D) (b1 : 1 ≤ b) (b2 : b ≤ 100000) (hb : ∀ q, q < dH D → hB b (dP D) (fun p => hv p + sp_br (dP D) (dH D) (sp_vl D) (nI p) (nI q))) (hq : ∀ v h', ax_same (fun a => a = 53) h h' → co_at h' 52 (dP D) (dH D) hv (sp_vl D) → bL (b * (sNn W (dH D) : Int)) v → Ret (some (.long v)) h') : mX9_nextDay g [.ref 0, .ref r, .ref o, .int (nI p), .int x] h Ret := by
  have H12 := ok.1.2
  have s9 : ∀ n, sNn W n ≤ 9 * n := fun n => by
    induction n with
    | zero => exact Nat.le_refl _
    | succ n ih => show sNn W n + W n ≤ 9 * (n + 1); have := hW n; omega
  have bl : ∀ n : Nat, n ≤ 12 → b * (sNn W n : Int) ≤ 10800000 := fun n hn => by
    have h1 : (sNn W n : Int) ≤ 108 := by have := s9 n; omega
    have h2 : b * (sNn W n : Int) ≤ 100000 * (sNn W n : Int) := Int.mul_le_mul_of_nonneg_right b2 (by omega)
    omega
  refine uX9_nextDay (fun A hA => vX9_nextDay_0 hA ?_)
  have key : ∀ f i : Nat, i + f = dH D → ∀ hh, ax_same (fun a => a = 53) h hh → co_at hh 52 (dP D) (dH D) hv (sp_vl D) → ∀ x5 : Int64, bL (b * (sNn W i : Int)) x5 → A (6, [some (.ref 0), some (.ref r), some (.ref o), some (.int (nI p)), some (.int x), some (.long x5), none, some (.int (nI i))], [], hh, 0, 0) := by
    intro f
    induction f with
    | zero =>
      intro i hi hh s c x5 b5
      have rc1 := rc_at_same s (fun j hj q => by omega) rc
      refine vX9_nextDay_6 hA ⟨rc1.1.1, fun _ => hq _ hh s c (by rw [show dH D = i by omega]; exact b5), fun q => ?_⟩
      rw [rc1.2.2.1.1] at q; exact absurd (nI_le (by omega) (by omega)) q
    | succ f ih =>
      intro i hi hh s c x5 b5
      have rc1 := rc_at_same s (fun j hj q => by omega) rc
      have x1 := xs_st_same s xs
      refine vX9_nextDay_6 hA ⟨rc1.1.1, fun q => ?_, fun _ => ⟨x1.1, _, x1.2.1.2.2.2.1, c.1.1, c_live c (fun h2 s2 c2 => ⟨rfl, ?_⟩)⟩⟩
      · rw [rc1.2.2.1.1] at q; exact absurd q (nI_ge (by omega) (by omega))
      · have x2 := xs_st_same s2 x1
        have od2 := od_at_same (sm_tr s s2) (by omega) od
        refine ⟨od2.1.1, _, od2.1.2.1, by rw [od2.1.2.2], by rw [od2.1.2.2]; exact vp_in_nI (by omega) (by decide), x2.1, _, x2.2.1.2.2.2.1, c2.1.1, c_measure c2 ⟨_, rfl, x2.1, _, x2.2.1.2.2.2.1, c2.1.1, c_unlive c2 (fun h3 s3 c3 => ⟨rfl, ?_⟩)⟩⟩
        rw [nI_clamp (by omega), od2.2.2.2.2 i (by omega), ← nI_succ]
        have ef : (fun p => hv p + sp_br (dP D) (dH D) (sp_vl D) (nI p) (nI i) - sp_br (dP D) (dH D) (sp_vl D) (nI p) (nI i)) = hv := funext (fun p => Int32.add_sub_cancel _ _)
        have c4 : co_at h3 52 (dP D) (dH D) hv (sp_vl D) := by rw [← ef]; exact c3
        refine ih (i + 1) (by omega) h3 (sm_tr s (sm_tr s2 s3)) c4 _ ?_
        have mb := me_bd (x := x) b1 ok.2.1 hp (hb i (by omega))
        have bi := bl i (by omega)
        have w9 := hW i
        have eW : (nI (W i)).toInt = (W i : Int) := nI_toInt (by omega)
        have m1 := bL_mul (a := (W i : Int)) (b := b) (by omega) (by omega) (bL_32 (x := nI (W i)) (by rw [eW]; omega)) (bL_32 mb) (by have : (W i : Int) * b ≤ 9 * b := Int.mul_le_mul_of_nonneg_right (by omega) (by omega); omega)
        have mm : (W i : Int) * b ≤ 900000 := by have : (W i : Int) * b ≤ 9 * b := Int.mul_le_mul_of_nonneg_right (by omega) (by omega); omega
        refine bL_mono (bL_add b5 m1 (by omega)) ?_
        show b * (sNn W i : Int) + (W i : Int) * b ≤ b * ((sNn W i + W i : Nat) : Int)
        rw [Int.natCast_add, Int.mul_add, Int.mul_comm (W i : Int)]
        exact Int.le_refl _
  exact key (dH D) 0 (by omega) h sm_rf co _ (by show bL (b * 0) 0; rw [Int.mul_zero]; unfold bL; decide)
end
