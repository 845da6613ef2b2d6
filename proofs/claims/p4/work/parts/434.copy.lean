section
variable {g : ax_G} {Ret : Option Value → ax_H → Prop} {h : ax_H} {S : sT}
/-! copies -/
theorem sh_le {h : ax_H} {b k n : Nat} (e : ax_s h b = (k, n)) : 0 + n ≤ (ax_s h b).2 := by rw [e, Nat.zero_add]; exact Nat.le_refl n
theorem sh_k {h : ax_H} {b k n : Nat} (e : ax_s h b = (k, n)) : (ax_s h b).1 = k := by rw [e]
theorem cpy0 {f f' : Nat → Int32} {n k : Nat} (hk : k < n) : va_cpy f f' 0 0 n k = f k := by
  rw [pk_cpy_in (Nat.zero_le k) (by omega), Nat.zero_add, Nat.sub_zero]
theorem c_copy6 {r r' : Nat} (a : rc_st h r) (b : rc_st h r') (hd : r + 6 ≤ r' ∨ r' + 6 ≤ r) (hq : ∀ h', ax_same (rc_F r) h h' → ax_i h' r 5 = ax_i h r' 5 → ax_i h' r 6 = ax_i h r' 6 → (∀ k, k < 6 → ax_i h' (r + 1) k = ax_i h (r' + 1) k) → (∀ k, k < 6 → ax_i h' (r + 2) k = ax_i h (r' + 2) k) → (∀ k, k < 6 → ax_i h' (r + 3) k = ax_i h (r' + 3) k) → (∀ k, k < 72 → ax_i h' (r + 4) k = ax_i h (r' + 4) k) → (∀ k, k < 72 → ax_i h' (r + 5) k = ax_i h (r' + 5) k) → Ret none h') : mX6_copy g [.ref r, .ref r'] h Ret := by
  obtain ⟨a0, ⟨ar0, ar1, ar2, ar3, ar4⟩, as1, as2, as3, as4, as5⟩ := id a
  obtain ⟨b0, ⟨br0, br1, br2, br3, br4⟩, bs1, bs2, bs3, bs4, bs5⟩ := id b
  have hF : ∀ j, j < 6 → rc_F r (r + j) := fun j hj => by unfold rc_F; omega
  refine eX6_copy ⟨b0, _, br0, a0, _, ar0, sh_k as1, sh_k bs1, ⟨by decide, by decide, by decide, sh_le bs1, sh_le as1⟩, Or.inl rfl, by decide, b0, _, br1, a0, _, ar1, sh_k as2, sh_k bs2, ⟨by decide, by decide, by decide, sh_le bs2, sh_le as2⟩, Or.inl rfl, by decide, b0, _, br2, a0, _, ar2, sh_k as3, sh_k bs3, ⟨by decide, by decide, by decide, sh_le bs3, sh_le as3⟩, Or.inl rfl, by decide, b0, _, br3, a0, _, ar3, sh_k as4, sh_k bs4, ⟨by decide, by decide, by decide, sh_le bs4, sh_le as4⟩, Or.inl rfl, by decide, b0, _, br4, a0, _, ar4, sh_k as5, sh_k bs5, ⟨by decide, by decide, by decide, sh_le bs5, sh_le as5⟩, Or.inl rfl, by decide, b0, a0, b0, a0, hq _ (sm_tr (sm_tr (sm_tr (sm_tr (sm_tr (sm_tr (sm_row (hF 1 (by decide))) (sm_row (hF 2 (by decide)))) (sm_row (hF 3 (by decide)))) (sm_row (hF 4 (by decide)))) (sm_row (hF 5 (by decide)))) (sm_pi (hF 0 (by decide)))) (sm_pi (hF 0 (by decide)))) ?_ ?_ (fun k hk => ?_) (fun k hk => ?_) (fun k hk => ?_) (fun k hk => ?_) (fun k hk => ?_)⟩
  · rw [ai_ne (by omega), ai_eq, ai_row, if_neg (by omega), ai_row, if_neg (by omega), ai_row, if_neg (by omega), ai_row, if_neg (by omega), ai_row, if_neg (by omega)]
  · rw [ai_eq, ai_ne (by omega), ai_row, if_neg (by omega), ai_row, if_neg (by omega), ai_row, if_neg (by omega), ai_row, if_neg (by omega), ai_row, if_neg (by omega)]
  · rw [ai_ne (by omega), ai_ne (by omega), ai_row, if_neg (by omega), ai_row, if_neg (by omega), ai_row, if_neg (by omega), ai_row, if_neg (by omega), ai_row, if_pos rfl, cpy0 hk]
  · rw [ai_ne (by omega), ai_ne (by omega), ai_row, if_neg (by omega), ai_row, if_neg (by omega), ai_row, if_neg (by omega), ai_row, if_pos rfl, cpy0 hk, ai_row, if_neg (by omega)]
  · rw [ai_ne (by omega), ai_ne (by omega), ai_row, if_neg (by omega), ai_row, if_neg (by omega), ai_row, if_pos rfl, cpy0 hk, ai_row, if_neg (by omega), ai_row, if_neg (by omega)]
  · rw [ai_ne (by omega), ai_ne (by omega), ai_row, if_neg (by omega), ai_row, if_pos rfl, cpy0 hk, ai_row, if_neg (by omega), ai_row, if_neg (by omega), ai_row, if_neg (by omega)]
  · rw [ai_ne (by omega), ai_ne (by omega), ai_row, if_pos rfl, cpy0 hk, ai_row, if_neg (by omega), ai_row, if_neg (by omega), ai_row, if_neg (by omega), ai_row, if_neg (by omega)]
/-- a republic copied -/
theorem rc_copied {h' : ax_H} {r r' : Nat} {D : rD} (st : rc_st h' r) (b : rc_at h r' D) (e5 : ax_i h' r 5 = ax_i h r' 5) (e6 : ax_i h' r 6 = ax_i h r' 6) (e1 : ∀ k, k < 6 → ax_i h' (r + 1) k = ax_i h (r' + 1) k) (e2 : ∀ k, k < 6 → ax_i h' (r + 2) k = ax_i h (r' + 2) k) (e3 : ∀ k, k < 6 → ax_i h' (r + 3) k = ax_i h (r' + 3) k) (e4 : ∀ k, k < 72 → ax_i h' (r + 4) k = ax_i h (r' + 4) k) (e7 : ∀ k, k < 72 → ax_i h' (r + 5) k = ax_i h (r' + 5) k) : rc_at h' r D := by
  obtain ⟨-, a2, a3, a4, a5, a6, a7, a8⟩ := b
  exact ⟨st, a2, ⟨by rw [e5]; exact a3.1, by rw [e6]; exact a3.2⟩, fun k hk => by rw [e1 k hk]; exact a4 k hk, fun k hk => by rw [e2 k hk]; exact a5 k hk, fun p hp => by rw [e3 p (by omega)]; exact a6 p hp, fun p q hp hq => by rw [e4 _ (by omega)]; exact a7 p q hp hq, fun p q hp hq => by rw [e7 _ (by omega)]; exact a8 p q hp hq⟩
theorem c_copy2 {l l' s : Nat} (h1 : 1 ≤ s) (h5 : s < 5) (a : li_st h l s) (b : li_st h l' s) (hd : l + 2 ≤ l' ∨ l' + 2 ≤ l) (hq : ∀ h', ax_same (fun x => x = l ∨ x = l + 1) h h' → li_st h' l s → ax_i h' l 3 = ax_i h l' 3 → (∀ k, k < lm s * lw s → ax_i h' (l + 1) k = ax_i h (l' + 1) k) → Ret none h') : mX2_copy g [.ref l, .ref l'] h Ret := by
  obtain ⟨a0, ar, ai0, ai1, as1⟩ := id a
  obtain ⟨b0, br, bi0, bi1, bs1⟩ := id b
  have hb := lm_lw h1 h5
  have el : Int32.ofNat (ax_s h (l + 1)).2 = nI (lm s * lw s) := by rw [as1]; rfl
  refine eX2_copy ⟨b0, _, br, sh_k bs1, a0, _, ar, sh_k as1, fun q => absurd (by rw [as1, bs1]) q, fun _ => ⟨b0, _, br, a0, _, ar, a0, _, ar, sh_k as1, sh_k as1, sh_k bs1, ?_⟩⟩
  rw [el, nI_clamp (by omega)]
  refine ⟨⟨by decide, by decide, nI_pos (by omega), sh_le bs1, sh_le as1⟩, Or.inl rfl, by decide, b0, a0, hq _ (sm_tr (sm_row (Or.inr rfl)) (sm_pi (Or.inl rfl))) ⟨a0, ar, ?_, ?_, as1⟩ ?_ (fun k hk => ?_)⟩
  · rw [ai_ne (by omega), ai_row, if_neg (by omega)]; exact ai0
  · rw [ai_ne (by omega), ai_row, if_neg (by omega)]; exact ai1
  · rw [ai_eq, ai_row, if_neg (by omega)]
  · rw [ai_ne (by omega), ai_row, if_pos rfl, cpy0 hk]
theorem li_copied {h' : ax_H} {l l' s n : Nat} {C : Nat → Nat → Int32} (st : li_st h' l s) (b : li_at h l' s n C) (e3 : ax_i h' l 3 = ax_i h l' 3) (ec : ∀ k, k < lm s * lw s → ax_i h' (l + 1) k = ax_i h (l' + 1) k) : li_at h' l s n C := by
  obtain ⟨-, b1, b2, b3⟩ := b
  refine ⟨st, b1, by rw [e3]; exact b2, fun i j hi hj => ?_⟩
  have hlt : i * lw s + j < lm s * lw s := by
    have : (i + 1) * lw s ≤ lm s * lw s := Nat.mul_le_mul_right _ (by omega)
    rw [Nat.succ_mul] at this
    omega
  rw [ec _ hlt]; exact b3 i j hi hj
theorem c_copyRep {r r' : Nat} (a : rc_st h r) (b : rc_st h r') (hd : r + 6 ≤ r' ∨ r' + 6 ≤ r) (hq : ∀ h', ax_same (rc_F r) h h' → (∀ D, rc_at h r' D → rc_at h' r D) → Ret none h') : mX8_copyRepublic g [.ref r', .ref r] h Ret :=
  eX8_copyRepublic ⟨a.1, c_copy6 a b hd (fun h' hs e5 e6 e1 e2 e3 e4 e7 => ⟨rfl, hq h' hs (fun D hD => rc_copied (rc_st_same hs a) hD e5 e6 e1 e2 e3 e4 e7)⟩)⟩
theorem c_copyLin {l l' s : Nat} (h1 : 1 ≤ s) (h5 : s < 5) (a : li_st h l s) (b : li_st h l' s) (hd : l + 2 ≤ l' ∨ l' + 2 ≤ l) (hq : ∀ h', ax_same (fun x => x = l ∨ x = l + 1) h h' → li_st h' l s → (∀ n C, li_at h l' s n C → li_at h' l s n C) → Ret none h') : mX8_copyLines g [.ref l', .ref l] h Ret :=
  eX8_copyLines ⟨a.1, c_copy2 h1 h5 a b hd (fun h' hs st e3 ec => ⟨rfl, hq h' hs st (fun n C hL => li_copied st hL e3 ec)⟩)⟩
theorem c_copyNull (hq : Ret none h) : mX8_copyLines g [.null, .null] h Ret := ax_meth (tbl := tX8_copyLines g) (by decide +kernel) (Nat.le_of_ble_eq_true rfl) (oX8_copyLines g) (fun A hA => ax_go1 hA (fun _ => false) 900 _ hq)
end
