section
variable {g : ax_G} {Ret : Option Value → ax_H → Prop} {h : ax_H} {m : Nat}
def hd_J : Nat → Prop := fun j => j = 25 ∨ j = 26 ∨ j = 27 ∨ j = 32 ∨ j = 33 ∨ j = 34
def hd_F (m : Nat) : Nat → Prop := fun a => a = m + 13 ∨ a = m + 14 ∨ a = m + 15 ∨ a = m + 16
theorem nI_nm1 {k : Nat} (hk : k < 2 ^ 31) : ¬ nI k = -1 := by
  intro q
  have := congrArg Int32.toInt q
  rw [nI_toInt hk] at this
  exact absurd this (by show ¬ ((_ : Int) = -1); omega)
/-- the reference takes a republic in hand -/
theorem c_mhand {n : Nat} {x : Int32} {DD : Nat → rD} (a : mo_st h m) (hn : n ≤ 2) (hm : ax_i h (m + 5) 0 = nI n) (hR : ∀ ρ, ρ < n → rm_at h m (164 * ρ) (DD ρ) ∧ rd_de (DD ρ))
    (h0 : sp_in x n = false → Ret (some (.int 0)) h)
    (h1 : ∀ ρ, ρ < n → x = nI ρ → ∀ h', mr hd_J (hd_F m) m h h' → mc_at h' m ρ (DD ρ) (dmo (DD ρ)) (dpu (DD ρ)) (fun p q => sp_vb (DD ρ) (dmo (DD ρ)) p (nI q) (-1)) → mw_at h' m (dH (DD ρ)) (sp_w (DD ρ) (sp_po (dP (DD ρ)) (dpu (DD ρ)))) (sp_t (DD ρ) (sp_po (dP (DD ρ)) (dpu (DD ρ)))) (sp_po (dP (DD ρ)) (dpu (DD ρ))) → Ret (some (.int 1)) h') : mX10_hand g [.ref m, .int x] h Ret := by
  refine uX10_hand (fun A hA => vX10_hand_0 hA ⟨a.1, c_mis (s := 0) a (by decide) hn hm ⟨_, rfl, fun q => ?_, fun q => ⟨Or.inl rfl, h0 (b2i_0.mp q)⟩⟩⟩)
  rw [b2i_n0] at q
  obtain ⟨ρ, hρ, rfl⟩ := sp_in_ix (by omega) q
  obtain ⟨hrm, hde⟩ := hR ρ hρ
  have hq := h1 ρ hρ rfl
  clear h0 h1 hR
  generalize DD ρ = D at hrm hde hq
  obtain ⟨hH, hP⟩ := id hrm.1
  have J : ∀ k, (k = 25 ∨ k = 26 ∨ k = 27 ∨ k = 32 ∨ k = 33 ∨ k = 34) → hd_J k := fun k hk => hk
  refine ⟨a.1, ?_⟩
  intro h4
  have hs4 : mr hd_J (hd_F m) m h h4 := mr_f (J 25 (by decide))
  have a4 := mr_st hs4 a
  have r4 : rm_at h4 m (164 * ρ) D := rm_at_same hs4.1 (by rintro (z | z | z | z | z) <;> omega) hrm
  have e4 : ax_i h4 m 25 = nI ρ := by show ax_i (ax_pi h m 25 _) m 25 = _; rw [ai_pi, if_pos ⟨rfl, rfl⟩]
  refine ⟨a4.1, c_mof (i := 0) (ρ := ρ) a4 (by omega) e4 (by omega) rfl ⟨_, rfl, a4.1, ?_⟩⟩
  rw [show ax_i h4 (m + 6) (164 * ρ + 0) = nI (dH D) from r4.2.1]
  intro h8
  have hs8 : mr hd_J (hd_F m) m h h8 := mr_tr hs4 (mr_f (J 26 (by decide)))
  have a8 := mr_st hs8 a
  have r8 : rm_at h8 m (164 * ρ) D := rm_at_same hs8.1 (by rintro (z | z | z | z | z) <;> omega) hrm
  have e8 : ax_i h8 m 25 = nI ρ := by show ax_i (ax_pi h4 m 26 _) m 25 = _; rw [ai_pi, if_neg (by omega)]; exact e4
  have f8 : ax_i h8 m 26 = nI (dH D) := by show ax_i (ax_pi h4 m 26 _) m 26 = _; rw [ai_pi, if_pos ⟨rfl, rfl⟩]
  refine ⟨a8.1, c_mof (i := 1) (ρ := ρ) a8 (by omega) e8 (by omega) rfl ⟨_, rfl, a8.1, ?_⟩⟩
  rw [r8.2.2.1]
  intro h12
  have hs12 : mr hd_J (hd_F m) m h h12 := mr_tr hs8 (mr_f (J 27 (by decide)))
  refine ⟨(mr_st hs12 a).1, ?_⟩
  intro h13
  have hs13 : mr hd_J (hd_F m) m h h13 := mr_tr hs12 (mr_f (J 34 (by decide)))
  have b13 : mb_at h13 m ρ D (dmo D) := by
    refine ⟨mr_st hs13 a, by omega, rm_at_same hs13.1 (by rintro (z | z | z | z | z) <;> omega) hrm, ?_, ?_, ?_, fun k hk => ?_⟩
    · show ax_i (ax_pi h12 m 34 _) m 25 = _
      rw [ai_pi, if_neg (by omega)]
      show ax_i (ax_pi h8 m 27 _) m 25 = _
      rw [ai_pi, if_neg (by omega)]; exact e8
    · show ax_i (ax_pi h12 m 34 _) m 26 = _
      rw [ai_pi, if_neg (by omega)]
      show ax_i (ax_pi h8 m 27 _) m 26 = _
      rw [ai_pi, if_neg (by omega)]; exact f8
    · show ax_i (ax_pi h12 m 34 _) m 27 = _
      rw [ai_pi, if_neg (by omega)]
      show ax_i (ax_pi h8 m 27 _) m 27 = _
      rw [ai_pi, if_pos ⟨rfl, rfl⟩]
    · rw [if_neg]
      show ¬ nI k = ax_i (ax_pi h12 m 34 _) m 34
      rw [ai_pi, if_pos ⟨rfl, rfl⟩]
      exact nI_nm1 (by omega)
  clear_value h13
  have key : ∀ k i : Nat, ∀ (hh : ax_H) (o1 o3 : Option Value), i + k = dP D → mr hd_J (hd_F m) m h hh → mb_at hh m ρ D (dmo D) → (∀ p, p < i → ax_i hh (m + 13) p = dpu D p) → (∀ p q, p < i → q < dH D → ax_i hh (m + 14) (12 * p + q) = dde D p q) → (∀ p q, p < i → q < dH D → ax_i hh (m + 15) (12 * p + q) = sp_vb D (dmo D) p (nI q) (-1)) → A (41, [some (.ref m), o1, some (.int (nI i)), o3], [], hh, 0, 0) := by
    intro k
    induction k with
    | zero =>
      intro i hh o1 o3 hi hs b c1 c2 c3
      obtain rfl : i = dP D := by omega
      refine vX10_hand_41 hA ⟨b.1.1, fun _ => ⟨b.1.1, c_mlayOdds b c1 (fun h' hs' hw => ⟨rfl, Or.inr rfl, ?_⟩)⟩, fun q => ?_⟩
      · refine hq h' (mr_tr hs (mr_mono hs' (fun z hz => J z (by omega)) (fun z hz => Or.inr (Or.inr (Or.inr hz))))) ⟨mb_at_mr hs' (by decide) (by omega) b, fun p hp => ?_, fun p q hp hq' => ?_, fun p q hp hq' => ?_⟩ hw
        · rw [mr_e hs' (by omega) (by omega)]; exact c1 p hp
        · rw [mr_e hs' (by omega) (by omega)]; exact c2 p q hp hq'
        · rw [mr_e hs' (by omega) (by omega)]; exact c3 p q hp hq'
      · rw [b.2.2.2.2.2.1] at q; exact absurd (nI_le (Nat.le_refl _) (by omega)) q
    | succ k ih =>
      intro i hh o1 o3 hi hs b c1 c2 c3
      obtain ⟨e1, e2⟩ := mo_pu b.1
      refine vX10_hand_41 hA ⟨b.1.1, fun q => ?_, fun _ => ⟨b.1.1, _, e1, b.1.1, c_mof (i := 2 + i) b.1 b.2.1 b.2.2.2.1 (by omega) (ni_c 2 i) ⟨_, rfl, by rw [e2], by rw [e2]; exact vp_in_nI (by omega) (by decide), ?_⟩⟩⟩
      · rw [b.2.2.2.2.2.1] at q; exact absurd q (nI_ge (by omega) (by omega))
      · rw [← Nat.add_assoc, b.2.2.1.2.2.2.1 i (by omega)]
        intro h20
        have hs20' : mr noJ (hd_F m) m hh h20 := mr_c (Or.inl rfl) (by omega)
        have b20 := mb_at_mr hs20' ⟨id, id, id, id, id⟩ (by rintro (z | z | z | z) <;> omega) b
        have inner : ∀ k2 j : Nat, ∀ (hj : ax_H) (o1 : Option Value), j + k2 = dH D → mr hd_J (hd_F m) m h hj → mb_at hj m ρ D (dmo D) → (∀ p, p < i + 1 → ax_i hj (m + 13) p = dpu D p) → (∀ p q, (p < i ∧ q < dH D) ∨ (p = i ∧ q < j) → ax_i hj (m + 14) (12 * p + q) = dde D p q) → (∀ p q, p < i → q < dH D → ax_i hj (m + 15) (12 * p + q) = sp_vb D (dmo D) p (nI q) (-1)) → A (64, [some (.ref m), o1, some (.int (nI i)), some (.int (nI j))], [], hj, 0, 0) := by
          intro k2
          induction k2 with
          | zero =>
            intro j hj o1 hjk hsj bj d1 d2 d3
            obtain rfl : j = dH D := by omega
            refine vX10_hand_64 hA ⟨bj.1.1, fun _ => ⟨bj.1.1, c_mlayValues bj hde (by omega) (fun q hq' => d2 i q (by omega)) (fun h' hs' hv => ⟨rfl, ?_⟩)⟩, fun q => ?_⟩
            · rw [← nI_succ]
              refine ih (i + 1) h' _ _ (by omega) (mr_tr hsj (mr_mono hs' (fun z hz => hz.elim) (fun z hz => Or.inr (Or.inr (Or.inl hz))))) (mb_at_mr hs' ⟨id, id, id, id, id⟩ (by omega) bj) (fun p hp => ?_) (fun p q hp hq' => ?_) (fun p q hp hq' => ?_)
              · rw [mr_e hs' (by omega) (by omega)]; exact d1 p hp
              · rw [mr_e hs' (by omega) (by omega)]; exact d2 p q (by omega)
              · rw [hv]
                by_cases e : p = i
                · subst e
                  rw [if_pos (by omega), Nat.add_sub_cancel_left]
                · rw [if_neg (by omega)]; exact d3 p q (by omega) hq'
            · rw [bj.2.2.2.2.1] at q; exact absurd (nI_le (Nat.le_refl _) (by omega)) q
          | succ k2 ihk =>
            intro j hj o1 hjk hsj bj d1 d2 d3
            obtain ⟨f1, f2⟩ := mo_de bj.1
            have ei : (12 : Int32) * nI i + nI j = nI (12 * i + j) := ni_21
            refine vX10_hand_64 hA ⟨bj.1.1, fun q => ?_, fun _ => ⟨bj.1.1, _, f1, bj.1.1, c_mof (i := 20 + 12 * i + j) bj.1 bj.2.1 bj.2.2.2.1 (by omega) (by rw [show (12 : Int32) = nI 12 from rfl, show (20 : Int32) = nI 20 from rfl, pk_mul, nI_add, nI_add]) ⟨_, rfl, by rw [f2], by rw [ei, f2]; exact vp_in_nI (by omega) (by decide), ?_⟩⟩⟩
            · rw [bj.2.2.2.2.1] at q; exact absurd q (nI_ge (by omega) (by omega))
            · rw [show 164 * ρ + (20 + 12 * i + j) = 164 * ρ + 20 + 12 * i + j by omega, bj.2.2.1.2.2.2.2.2.2.1 i j (by omega) (by omega)]
              intro h27
              have hs27 : mr noJ (hd_F m) m hj h27 := mr_c (Or.inr (Or.inl rfl)) (by omega)
              have b27 := mb_at_mr hs27 ⟨id, id, id, id, id⟩ (by rintro (z | z | z | z) <;> omega) bj
              have := ihk (j + 1) h27 o1 (by omega) (mr_tr hsj (mr_mono hs27 (fun z hz => hz.elim) (fun z hz => hz))) b27 (fun p hp => by
                  show ax_i (ax_pi hj (m + 14) _ _) (m + 13) p = _
                  rw [ai_pi, if_neg (by omega)]; exact d1 p hp) (fun p q hpq => by
                  show ax_i (ax_pi hj (m + 14) (12 * nI i + nI j).toNatClampNeg _) (m + 14) _ = _
                  rw [ai_pi, ei, nI_clamp (by omega)]
                  by_cases e : p = i ∧ q = j
                  · rw [if_pos ⟨rfl, by rw [e.1, e.2]⟩, e.1, e.2]
                  · rw [if_neg (by rintro ⟨-, z⟩; omega)]; exact d2 p q (by omega)) (fun p q hp hq' => by
                  show ax_i (ax_pi hj (m + 14) _ _) (m + 15) _ = _
                  rw [ai_pi, if_neg (by omega)]; exact d3 p q hp hq')
              rw [nI_succ] at this
              exact this
        refine inner (dH D) 0 h20 _ (by omega) (mr_tr hs (mr_mono hs20' (fun z hz => hz.elim) (fun z hz => hz))) b20 (fun p hp => ?_) (fun p q hpq => ?_) (fun p q hp hq' => ?_)
        · show ax_i (ax_pi hh (m + 13) (nI i).toNatClampNeg _) (m + 13) p = _
          rw [ai_pi, nI_clamp (by omega)]
          by_cases e : p = i
          · rw [if_pos ⟨rfl, e⟩, e]
          · rw [if_neg (fun z => e z.2)]; exact c1 p (by omega)
        · show ax_i (ax_pi hh (m + 13) _ _) (m + 14) _ = _
          rw [ai_pi, if_neg (by omega)]; exact c2 p q (by omega) (by omega)
        · show ax_i (ax_pi hh (m + 13) _ _) (m + 15) _ = _
          rw [ai_pi, if_neg (by omega)]; exact c3 p q hp hq'
  exact key (dP D) 0 h13 _ _ (by omega) hs13 b13 (fun p hp => absurd hp (Nat.not_lt_zero p)) (fun p q hp => absurd hp (Nat.not_lt_zero p)) (fun p q hp => absurd hp (Nat.not_lt_zero p))
/-! both sides' values are one -/
theorem sumN_one {f e : Nat → Int32} {q : Nat} : ∀ {n : Nat}, sumN (fun i => f i + (if i = q then e i else 0)) n = sumN f n + (if q < n then e q else 0)
  | 0 => rfl
  | n + 1 => by
    show sumN (fun i => f i + (if i = q then e i else 0)) n + (f n + (if n = q then e n else 0)) = sumN f n + f n + _
    rw [sumN_one (n := n)]
    by_cases e1 : n = q
    · subst e1
      rw [if_neg (Nat.lt_irrefl n), if_pos rfl, if_pos (Nat.lt_succ_self n), Int32.add_zero, Int32.add_assoc]
    · rw [if_neg e1, Int32.add_zero]
      by_cases e2 : q < n
      · rw [if_pos e2, if_pos (by omega), Int32.add_assoc, Int32.add_comm (e q), ← Int32.add_assoc]
      · rw [if_neg e2, if_neg (by omega), Int32.add_zero, Int32.add_zero]
theorem mw_one {D : rD} {mo : Nat → Int32} {p q : Nat} (hd : rd_de D) (hp : p < dP D) (hq : q < dH D) (hH : dH D ≤ 12) (hP : dP D ≤ 6) : sp_mw D mo p q 1 = sp_wo D (sp_de D (nI p) (nI q)) := by
  unfold sp_mw sp_de
  rw [sp_in_nI (by omega) hp, sp_in_nI (by omega) hq, nI_clamp (by omega), nI_clamp (by omega), if_pos rfl, Int32.mul_one]
  show _ = sp_wo D (dde D p q)
  unfold sp_wo
  rcases hd p q hp hq with e | ⟨k, hk, e⟩
  · rw [e, if_pos rfl, if_pos (Or.inl (by decide))]
  · rw [e, if_neg (nI_nm1 (by omega)), if_neg]
    rintro (z | z)
    · exact nI_pos (by omega) z
    · exact nI_ge (a := k) (b := 6) hk (by decide) z
theorem mw_two {D : rD} {p q : Nat} (hd : rd_de D) (hp : p < dP D) (hq : q < dH D) (hH : dH D ≤ 12) (hP : dP D ≤ 6) (hmo : ∀ k, k < 6 → dmo D k = 0 ∨ dmo D k = 1 ∨ dmo D k = 2) : sp_mw D (dmo D) p q 2 = sp_wo D (sp_de D (nI p) (nI q)) + sp_ex D (sp_de D (nI p) (nI q)) := by
  rw [← mw_one hd hp hq hH hP (mo := dmo D)]
  unfold sp_de sp_ex sp_xb sp_mo
  rw [sp_in_nI (by omega) hp, sp_in_nI (by omega) hq, nI_clamp (by omega), nI_clamp (by omega)]
  show _ = _ + (if (if dde D p q < 0 ∨ 6 ≤ dde D p q then 1 else dmo D (dde D p q).toNatClampNeg) = 0 then sp_wo D (dde D p q) else if (if dde D p q < 0 ∨ 6 ≤ dde D p q then 1 else dmo D (dde D p q).toNatClampNeg) = 2 then -(sp_wo D (dde D p q)) else 0)
  unfold sp_mw sp_wo
  rcases hd p q hp hq with e | ⟨k, hk, e⟩
  · rw [e, if_pos rfl, if_pos rfl, if_pos (Or.inl (by decide)), if_neg (by decide), if_neg (by decide)]
    rfl
  · have hn : ¬ (nI k < 0 ∨ 6 ≤ nI k) := by
      rintro (z | z)
      · exact nI_pos (by omega) z
      · exact nI_ge (a := k) (b := 6) hk (by decide) z
    rw [e, if_neg (nI_nm1 (by omega)), if_neg (nI_nm1 (by omega)), if_neg hn, if_neg hn, nI_clamp (by omega), if_pos rfl, if_neg (by decide)]
    unfold sp_ti
    rcases hmo k hk with z | z | z
    · rw [z, if_pos rfl, if_pos rfl, Int32.mul_one, show (2 : Int32) = 1 + 1 from rfl, Int32.mul_add, Int32.mul_one]
    · rw [z, if_neg (by decide), if_pos rfl, if_neg (by decide), if_neg (by decide), Int32.mul_one, Int32.add_zero]
    · rw [z, if_neg (by decide), if_neg (by decide), if_neg (by decide), if_pos rfl, Int32.mul_one, Int32.mul_zero, Int32.add_right_neg]
theorem vb_vl {D : rD} {p q : Nat} (hd : rd_de D) (hp : p < dP D) (hq : q < dH D) (hH : dH D ≤ 12) (hP : dP D ≤ 6) (hmo : ∀ k, k < 6 → dmo D k = 0 ∨ dmo D k = 1 ∨ dmo D k = 2) : sp_vb D (dmo D) p (nI q) (-1) = sp_vl D p q := by
  unfold sp_vb sp_vl sp_wd
  have := sumN_one (f := fun i => sp_wo D (sp_de D (nI p) (nI i))) (e := fun i => sp_ex D (sp_de D (nI p) (nI i))) (q := q) (n := dH D)
  rw [if_pos hq] at this
  rw [← this]
  refine sumN_congr (fun i hi => ?_)
  unfold sp_lv
  rw [if_neg (nI_nm1 (by omega))]
  by_cases e : i = q
  · subst e
    rw [if_pos rfl, if_pos rfl, show ((1 : Int32) + 1 + 0) = 2 from rfl]
    exact mw_two hd hp hq hH hP hmo
  · rw [if_neg (fun z => e ((nI_eq (by omega) (by omega)).mp z)), if_neg e, show ((1 : Int32) + 0 + 0) = 1 from rfl, Int32.add_zero]
    exact mw_one hd hp hi hH hP
end
