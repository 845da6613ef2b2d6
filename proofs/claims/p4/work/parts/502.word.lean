section
variable {g : ax_G} {Ret : Option Value → ax_H → Prop} {h : ax_H} {T : Nat → Int32} {n a : Nat}
theorem sl_sh : ∀ i, i < 14 → (Int32.ofNat (ax_sl.getD i 0)) >>> ((0 : Int32) &&& 31) = Int32.ofNat (ax_sl.getD i 0) := by decide
theorem sb_ch : ∀ i, i < 14 → ∀ j, j < ax_sl.getD i 0 → ((((ax_sb.getD i []).getD j 0) &&& (255 : Int32)).toUInt32 % 65536).toInt32 = (ax_sb.getD i []).getD j 0 ∧ narrow .char (.int ((ax_sb.getD i []).getD j 0)) = .int ((ax_sb.getD i []).getD j 0) := by decide
theorem sl_bd : ∀ i, i < 14 → 3 ≤ ax_sl.getD i 0 ∧ ax_sl.getD i 0 ≤ 6 := by decide
theorem c_slen {i : Nat} (hi : i < 14) (hq : Ret (some (.int (nI (ax_sl.getD i 0)))) h) : mJ0_length_8abf5 g [.ref (1000100 + i)] h Ret := by
  refine eJ0_length_8abf5 ⟨⟨by omega, by omega⟩, ⟨by omega, by omega⟩, ⟨i, [], hi, rfl⟩, ⟨Nat.le_of_ble_eq_true rfl, rfl, rfl⟩, eJ0_coder_7d493 ⟨fun q => absurd q (by decide), fun _ => ⟨⟨by omega, by omega⟩, ⟨Nat.le_refl _, Nat.le_refl _⟩, by decide, _, rfl, ?_⟩⟩⟩
  rw [show 1000100 + i + 100 - 1000200 = i by omega, sl_sh i hi]
  exact hq
theorem c_charAt {i j : Nat} (hi : i < 14) (hj : j < ax_sl.getD i 0) (hq : Ret (some (.int ((ax_sb.getD i []).getD j 0))) h) : mJ0_charAt_5068e g [.ref (1000100 + i), .int (nI j)] h Ret := by
  have hl := sl_bd i hi
  obtain ⟨e1, e2⟩ := sb_ch i hi j hj
  refine eJ0_charAt_5068e ⟨⟨i, [], hi, rfl⟩, ⟨Nat.le_of_ble_eq_true rfl, rfl, rfl⟩, eJ0_isLatin1_aae02 ⟨fun q => absurd q (by decide), fun _ => ⟨⟨by omega, by omega⟩, fun q => absurd rfl q, fun _ => ⟨Or.inr rfl, _, rfl, fun q => absurd q (by decide), fun _ => ⟨⟨by omega, by omega⟩, ?_⟩⟩⟩⟩⟩
  refine eJ1_charAt_3b067 ⟨⟨by omega, by omega⟩, eJ0_ci ⟨fun q => nI_pos (by omega) q, fun _ => ⟨fun _ => ⟨rfl, ⟨by omega, by omega⟩, ?_, ⟨Nat.le_refl _, Nat.le_refl _⟩, ?_⟩, fun q => q ?_⟩⟩⟩
  · rw [show 1000100 + i + 100 - 1000200 = i by omega]; exact vp_in_nI hj (by omega)
  · rw [show 1000100 + i + 100 - 1000200 = i by omega, nI_clamp (by omega), e1]
    exact ⟨e2, _, rfl, ⟨Nat.le_refl _, Nat.le_refl _⟩, e2, hq⟩
  · rw [show 1000100 + i + 100 - 1000200 = i by omega]; exact nI_lt hj (by omega)
/-- the token at place a is the word i -/
def tw (T : Nat → Int32) (n a i : Nat) : Bool := decide (tkk T n a = 1 ∧ tkb T n a - tks T n a = ax_sl.getD i 0 ∧ ∀ j, j < ax_sl.getD i 0 → T (tks T n a + j) = (ax_sb.getD i []).getD j 0)
theorem c_isWord {i : Nat} (t : tp_at h T) (hn : n ≤ 600) (ha : a ≤ n) (hi : i < 14) (e6 : ax_i h 35 6 = nI (tkk T n a)) (e7 : ax_i h 35 7 = nI (tks T n a)) (e8 : ax_i h 35 8 = nI (tkb T n a)) (hq : Ret (some (.int (b2i (tw T n a i)))) h) : mX5_isWord g [.ref 35, .ref (1000100 + i)] h Ret := by
  obtain ⟨t1, t2, t3, t4⟩ := id t
  obtain ⟨b1, b2, b3, b4⟩ := tk_bd (T := T) ha
  have hl := sl_bd i hi
  have ed : nI (tkb T n a) - nI (tks T n a) = nI (tkb T n a - tks T n a) := by
    rw [show nI (tkb T n a) = nI ((tkb T n a - tks T n a) + tks T n a) by rw [Nat.sub_add_cancel b2], ← nI_add]; exact Int32.add_sub_cancel _ _
  have kb : tkk T n a < 2 ^ 31 := by unfold tkk; repeat' split
                                     all_goals decide
  refine uX5_isWord (fun A hA => vX5_isWord_0 hA ⟨t1, fun q => ⟨Or.inl rfl, ?_⟩, fun q => ⟨t1, t1, ⟨i, [], hi, rfl⟩, ⟨Nat.le_of_ble_eq_true rfl, rfl, rfl⟩, c_slen hi ⟨_, rfl, fun q2 => ?_, fun q2 => ⟨Or.inl rfl, ?_⟩⟩⟩⟩)
  · unfold tw at hq
    rw [decide_eq_false (fun z => q (by rw [e6, z.1]; rfl))] at hq; exact hq
  · have k1 : tkk T n a = 1 := (nI_eq (b := 1) kb (by decide)).mp (by rw [← e6]; exact q)
    rw [e8, e7, ed] at q2
    have k2 := (nI_eq (by omega) (by omega)).mp q2
    have key : ∀ m j : Nat, j + m = ax_sl.getD i 0 → (∀ l, l < j → T (tks T n a + l) = (ax_sb.getD i []).getD l 0) → A (28, [some (.ref 35), some (.ref (1000100 + i)), some (.int (nI j))], [], h, 0, 0) := by
      intro m
      induction m with
      | zero =>
        intro j hj ok
        refine vX5_isWord_28 hA ⟨⟨i, [], hi, rfl⟩, ⟨Nat.le_of_ble_eq_true rfl, rfl, rfl⟩, c_slen hi ⟨_, rfl, fun _ => ⟨Or.inr rfl, ?_⟩, fun q => ?_⟩⟩
        · unfold tw at hq
          rw [decide_eq_true ⟨k1, k2, fun l hl => ok l (by omega)⟩] at hq; exact hq
        · exact absurd (nI_le (by omega) (by omega)) q
      | succ m ih =>
        intro j hj ok
        refine vX5_isWord_28 hA ⟨⟨i, [], hi, rfl⟩, ⟨Nat.le_of_ble_eq_true rfl, rfl, rfl⟩, c_slen hi ⟨_, rfl, fun q => ?_, fun _ => ⟨t1, 2, t2, t1, sh_k t3, ?_, ⟨i, [.int (nI j)], hi, rfl⟩, ⟨Nat.le_of_ble_eq_true rfl, rfl, rfl⟩, c_charAt hi (by omega) ⟨_, rfl, fun q => ?_, fun q => ⟨Or.inl rfl, ?_⟩⟩⟩⟩⟩
        · exact absurd q (nI_ge (by omega) (by omega))
        · rw [e7, nI_add, t3]; exact vp_in_nI (by omega) (by decide)
        · rw [e7, nI_add, nI_clamp (by omega), t4 _ (by omega)] at q
          rw [← nI_succ]
          refine ih (j + 1) (by omega) (fun l hl => ?_)
          by_cases e : l = j
          · rw [e]; exact q
          · exact ok l (by omega)
        · rw [e7, nI_add, nI_clamp (by omega), t4 _ (by omega)] at q
          unfold tw at hq
          rw [decide_eq_false (fun z => q (z.2.2 j (by omega)))] at hq; exact hq
    exact key (ax_sl.getD i 0) 0 (by omega) (fun l hl => absurd hl (Nat.not_lt_zero l))
  · rw [e8, e7, ed] at q2
    unfold tw at hq
    rw [decide_eq_false (fun z => q2 (by rw [z.2.1]))] at hq; exact hq
end
