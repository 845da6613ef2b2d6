section
variable {g : ax_G} {Ret : Option Value → ax_H → Prop} {h : ax_H} {z : Nat → Nat} {DD : Nat → rD} {N : Nat → Nat → Nat} {C : Nat → Nat → Nat → Nat → Int32} {S : sT} {Im : Nat → Option sT} {tp : Nat → Nat} {B : Nat}
section
variable {hh : ax_H} {k : Nat}
/-- a row's end: its term goes to the sum -/
theorem fin68 {A : ax_S → Prop} (hA : ax_HA (tX10_expect g) Ret A) {i p n tot : Nat} {b x10 : Int32} {X Y : Int64} {c d : Int} {pu : Nat → Int32} (ok : rd_ok (DD k)) (L : lvm h hh k (DD k)) (mc : mc_at hh 77 k (DD k) (dmo (DD k)) pu (sp_vl (DD k))) (hb : hB 3573 (dP (DD k)) pu) (hp : p < dP (DD k)) (hn : n ≤ 2) (f : fOk (ax_l hh 77 56) (ax_l hh 77 57) (sL (DD k)) (sp_t (DD k) (rul (DD k))).toInt c) (hc0 : 0 ≤ c) (hd0 : 0 ≤ d) (big : c + d ≤ 42876 * (sp_t (DD k) (rul (DD k))).toInt) (X0 : 0 ≤ X.toInt ∧ X.toInt ≤ 10000) (Y0 : 0 < Y.toInt) (YL : Y.toInt ∣ sL (DD k)) (hx : X.toInt * 3573 * (sp_t (DD k) (rul (DD k))).toInt ≤ d * Y.toInt) (o12 : Option Value) (K : ∀ h2, lvm h h2 k (DD k) → fOk (ax_l h2 77 56) (ax_l h2 77 57) (sL (DD k)) (sp_t (DD k) (rul (DD k))).toInt (c + d) → ∀ o6 o7 o8 o9 o10 o11 o12 : Option Value, A (44, [some (.ref 77), some (.int (nI p)), some (.int (nI n)), some (.int b), some (.int (nI tot)), some (.int (nI i + 1)), o6, o7, o8, o9, o10, o11, o12], [], h2, 0, 0)) : A (68, [some (.ref 77), some (.int (nI p)), some (.int (nI n)), some (.int b), some (.int (nI tot)), some (.int (nI i)), some (.long X), none, some (.long Y), none, some (.int x10), some (.int (nI n)), o12], [], hh, 0, 0) := by
  have tb0 := sp_t_bd ok (rul (DD k))
  have L0 := sL_bd ok
  have s0 := mc.1.1.1
  have P6 := ok.2.1
  have mX : ∀ m : Int64, bL 3573 m → ((X * m).toInt.natAbs : Int) * (sp_t (DD k) (rul (DD k))).toInt ≤ d * Y.toInt := fun m bm => by
    have h1 := bL_mul (a := X.toInt) (b := 3573) X0.1 (by decide) ⟨by omega, Int.le_refl _⟩ bm (by omega)
    unfold bL at h1
    have h2 : ((X * m).toInt.natAbs : Int) ≤ X.toInt * 3573 := by omega
    exact Int.le_trans (Int.mul_le_mul_of_nonneg_right h2 (Int.le_of_lt tb0.1)) hx
  have pl : ∀ (m : Int64) (K2 : Option Value → ax_H → Prop), bL 3573 m → (∀ h2, lvm h h2 k (DD k) → fOk (ax_l h2 77 56) (ax_l h2 77 57) (sL (DD k)) (sp_t (DD k) (rul (DD k))).toInt (c + d) → K2 none h2) → mX10_plus g [.ref 77, .long (X * m), .long Y] hh K2 := fun m K2 bm hK => c_mplus s0 L0.1 (by omega) tb0.1 hc0 hd0 (s_big ok tb0.1 big) f Y0 YL (mX m bm) (fun h2 r2 f2 => hK h2 (lvm_mr L r2 (fun j hj => by omega) (fun a ha => ha.elim)) f2)
  obtain ⟨e1, e2⟩ := mo_pu mc.1.1
  refine vX10_expect_68 hA ⟨fun _ => ⟨fun _ => ⟨s0, _, e1, by rw [e2], by rw [e2]; exact vp_in_nI (by omega) (by decide), s0, pl _ _ ?_ (fun h2 L2 f2 => ⟨rfl, K h2 L2 f2 _ _ _ _ _ _ _⟩)⟩, fun _ => ⟨s0, fun _ => ⟨s0, pl _ _ (by unfold bL; decide) (fun h2 L2 f2 => ⟨rfl, K h2 L2 f2 _ _ _ _ _ _ _⟩)⟩, fun _ => ⟨s0, pl _ _ (by unfold bL; decide) (fun h2 L2 f2 => ⟨rfl, K h2 L2 f2 _ _ _ _ _ _ _⟩)⟩⟩⟩, fun q => absurd (nI_le (Nat.le_refl n) (by omega)) q⟩
  rw [nI_clamp (by omega), mc.2.1 p hp]
  exact bL_32 (hb p hp)
end
end
