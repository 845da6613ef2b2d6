section
variable {g : ax_G} {Ret : Option Value → ax_H → Prop} {h : ax_H} {z : Nat → Nat} {DD : Nat → rD} {N : Nat → Nat → Nat} {C : Nat → Nat → Nat → Nat → Int32} {S : sT} {Im : Nat → Option sT} {tp : Nat → Nat} {B : Nat}
/-- the weights of the terms so far -/
def oM (W : Nat → Nat) (H i : Nat) : Nat := i / H * sNn W H + sNn W (i % H)
theorem oM_succ {W : Nat → Nat} {H i : Nat} (hH : 0 < H) : oM W H (i + 1) = oM W H i + W (i % H) := by
  have m := Nat.mod_lt i hH
  have e := Nat.div_add_mod i H
  unfold oM
  by_cases q : i % H + 1 < H
  · have d1 : (i + 1) / H = i / H := by
      rw [show i + 1 = (i % H + 1) + H * (i / H) by omega, Nat.add_mul_div_left _ _ hH, Nat.div_eq_of_lt q, Nat.zero_add]
    have d2 : (i + 1) % H = i % H + 1 := by
      rw [show i + 1 = (i % H + 1) + H * (i / H) by omega, Nat.add_mul_mod_self_left, Nat.mod_eq_of_lt q]
    rw [d1, d2]
    show _ + (sNn W (i % H) + W (i % H)) = _
    omega
  · have e2 : i % H + 1 = H := by omega
    have d0 : i + 1 = H * (i / H + 1) := by rw [Nat.mul_add, Nat.mul_one]; omega
    have d1 : (i + 1) / H = i / H + 1 := by rw [d0, Nat.mul_div_cancel_left _ hH]
    have d2 : (i + 1) % H = 0 := by rw [d0, Nat.mul_mod_right]
    have d3 : sNn W H = sNn W (i % H) + W (i % H) := by
      have : sNn W (i % H + 1) = sNn W (i % H) + W (i % H) := rfl
      rw [e2] at this; exact this
    rw [d1, d2, Nat.add_mul, Nat.one_mul]
    show _ + sNn W H + 0 = _
    rw [d3]; omega
theorem oM_le {W : Nat → Nat} {H i : Nat} (hH : 0 < H) (hi : i ≤ H * H) : oM W H i ≤ H * sNn W H := by
  unfold oM
  by_cases q : i / H < H
  · have h1 : sNn W (i % H) ≤ sNn W H := sNn_mono (Nat.le_of_lt (Nat.mod_lt _ hH))
    have h2 : (i / H + 1) * sNn W H ≤ H * sNn W H := Nat.mul_le_mul_right _ q
    rw [Nat.add_mul, Nat.one_mul] at h2
    omega
  · have d : i / H ≤ H := by have := Nat.div_le_div_right (c := H) hi; rwa [Nat.mul_div_cancel _ hH] at this
    have e : i / H = H := by omega
    have e2 : i % H = 0 := by
      have := Nat.div_add_mod i H
      rw [e] at this
      omega
    rw [e, e2]
    exact Nat.le_refl _
section
variable {hh : ax_H} {k : Nat}
/-- one day of a row -/
theorem day68 {A : ax_S → Prop} (hA : ax_HA (tX10_expect g) Ret A) {i p n c j tot : Nat} {b : Int32} {X Y : Int64} (ok : rd_ok (DD k)) (L : lvm h hh k (DD k)) (hc : c < 1000) (hj : j < n) (hn : n ≤ 2) (o12 : Option Value) (K : ∀ h2 pu x, mc_at hh 77 k (DD k) (dmo (DD k)) pu (sp_vl (DD k)) → x = sp_po (dP (DD k)) pu → mw_at hh 77 (dH (DD k)) (sp_w (DD k) x) (sp_t (DD k) x) x → lvm h h2 k (DD k) → mc_at h2 77 k (DD k) (dmo (DD k)) (fun p => pu p + sp_vl (DD k) p (c % dH (DD k))) (sp_vl (DD k)) → mw_at h2 77 (dH (DD k)) (sp_w (DD k) (sp_po (dP (DD k)) (fun p => pu p + sp_vl (DD k) p (c % dH (DD k))))) (sp_t (DD k) (sp_po (dP (DD k)) (fun p => pu p + sp_vl (DD k) p (c % dH (DD k))))) (sp_po (dP (DD k)) (fun p => pu p + sp_vl (DD k) p (c % dH (DD k)))) → lvR hh h2 → A (68, [some (.ref 77), some (.int (nI p)), some (.int (nI n)), some (.int b), some (.int (nI tot)), some (.int (nI i)), some (.long (X * (sp_w (DD k) x (c % dH (DD k))).toInt64)), none, some (.long (Y * (sp_t (DD k) x).toInt64)), none, some (.int (nI (c / dH (DD k)))), some (.int (nI (j + 1))), o12], [], h2, 0, 0)) : A (68, [some (.ref 77), some (.int (nI p)), some (.int (nI n)), some (.int b), some (.int (nI tot)), some (.int (nI i)), some (.long X), none, some (.long Y), none, some (.int (nI c)), some (.int (nI j)), o12], [], hh, 0, 0) := by
  have H12 := ok.1.2
  have H2 := ok.1.1
  obtain ⟨s, pu, mc, mw⟩ := L
  have s0 := mc.1.1.1
  have e26 := mc.1.2.2.2.2.1
  obtain ⟨e1, e2⟩ := mo_we mc.1.1
  have ne : ¬ ax_i hh 77 26 = 0 := by rw [e26]; exact nI_ne0 (by omega) (by omega)
  have er : nI c - nI c / ax_i hh 77 26 * ax_i hh 77 26 = nI (c % dH (DD k)) := by rw [e26]; exact pk_rem (by omega) (by omega) (by omega)
  have cm : c % dH (DD k) < dH (DD k) := Nat.mod_lt _ (by omega)
  refine vX10_expect_68 hA ⟨fun q => absurd q (nI_ge (by omega) (by omega)), fun _ => ⟨s0, _, e1, s0, ne, by rw [e2], by rw [er, e2]; exact vp_in_nI (by omega) (by decide), ?_⟩⟩
  intro z13
  refine ⟨s0, s0, ne, s0, ?_⟩
  rw [er]
  refine c_mlive mc cm (fun h2 r2 c2 w2 => ⟨rfl, c2.1.1.1, ?_, ?_⟩)
  · rw [c2.1.2.2.2.2.1]; exact nI_ne0 (by omega) (by omega)
  · rw [c2.1.2.2.2.2.1, pk_div (by omega) (by omega) (by omega), ← nI_succ]
    have ez : z13 = sp_w (DD k) (sp_po (dP (DD k)) pu) (c % dH (DD k)) := by
      show ax_i hh (77 + 16) (nI c - nI c / ax_i hh 77 26 * ax_i hh 77 26).toNatClampNeg = _
      rw [er, nI_clamp (by omega)]; exact mw.1 _ cm
    rw [ez, mw.2.1]
    exact K h2 pu _ mc rfl mw ⟨sm_tr s (sm_mono r2.1 (fun x e => by unfold md_F; omega)), _, c2, w2⟩ c2 w2 r2
end
end
