section
variable {g : ax_G} {Ret : Option Value → ax_H → Prop} {h : ax_H} {z : Nat → Nat} {DD : Nat → rD} {N : Nat → Nat → Nat} {C : Nat → Nat → Nat → Nat → Int32} {S : sT} {Im : Nat → Option sT} {tp : Nat → Nat} {B : Nat}
/-! a republic with other deeds of one -/
def swr (D : rD) (p : Nat) (e : Nat → Int32) : rD := (dH D, dP D, dpu D, dwo D, dmo D, fun p' q => if p' = p then e q else dde D p' q, dlo D)
theorem swr_de (D : rD) (p : Nat) (e : Nat → Int32) (q : Nat) : dde (swr D p e) p q = e q := if_pos rfl
theorem swr_ok {D : rD} {p : Nat} {e : Nat → Int32} (ok : rd_ok D) (he : ∀ q, q < dH D → dOk (e q)) : rd_ok (swr D p e) := by
  refine ⟨ok.1, ok.2.1, ok.2.2.1, ok.2.2.2.1, ok.2.2.2.2.1, fun p' q hp hq => ?_, ok.2.2.2.2.2.2⟩
  by_cases c : p' = p
  · rw [c, swr_de]; exact he q hq
  · rw [show dde (swr D p e) p' q = dde D p' q from if_neg c]; exact ok.2.2.2.2.2.1 p' q hp hq
theorem de_in {D : rD} {p q : Nat} (hp : p < dP D) (hq : q < dH D) (hP : dP D ≤ 6) (hH : dH D ≤ 12) : sp_de D (nI p) (nI q) = dde D p q := by
  unfold sp_de
  rw [sp_in_nI (by omega) hp, sp_in_nI (by omega) hq, nI_clamp (by omega), nI_clamp (by omega)]; rfl
section
variable {m ρ : Nat} {D : rD} {mo : Nat → Int32} {e : Nat → Int32} {p : Nat}
theorem x_mworth {q : Nat} {l : Int32} (a : mb_at h m ρ D mo) (a9 : ax_i h (m + 14) (12 * p + q) = e q) (hd : dOk (e q)) (hp : p < dP D) (hq0 : q < dH D) (hq : Ret (some (.int (sp_mw (swr D p e) mo p q l))) h) : mX10_worthOf g [.ref m, .int (nI p), .int (nI q), .int l] h Ret := by
  obtain ⟨a1, a2, a3, a4, -, -, -⟩ := id a
  obtain ⟨e1, e2⟩ := mo_de a1
  have hb := a3.1
  have hq : Ret (some (.int (if e q = -1 then 0 else dwo D (e q).toNatClampNeg * (if l = 1 then 1 else sp_ti (mo (e q).toNatClampNeg) l)))) h := by
    have t := hq
    unfold sp_mw at t
    rw [swr_de] at t
    exact t
  have ei : (12 : Int32) * nI p + nI q = nI (12 * p + q) := ni_21
  refine eX10_worthOf ⟨a1.1, _, e1, by rw [e2], ?_, fun h1 => ?_, fun h1 => ?_⟩
  · rw [ei, e2]; exact vp_in_nI (by omega) (by decide)
  · rw [ei, nI_clamp (by omega), a9] at h1 ⊢
    obtain ⟨k, hk, hd⟩ := hd.resolve_left h1
    rw [if_neg h1, hd, nI_clamp (by omega)] at hq
    rw [hd]
    refine ⟨a1.1, c_mof (i := 8 + k) a1 a2 a4 (by omega) (ni_c 8 k) ⟨_, rfl, ?_⟩⟩
    rw [← Nat.add_assoc, a3.2.2.2.2.1 k hk]
    refine ⟨fun h2 => ⟨a1.1, c_mmode a hk ⟨_, rfl, c_mtimes ⟨_, rfl, ?_⟩⟩⟩, fun h2 => ?_⟩
    · rw [if_neg h2] at hq; exact hq
    · rw [if_pos h2] at hq; exact hq
  · rw [ei, nI_clamp (by omega), a9] at h1
    rw [if_pos h1] at hq; exact hq
theorem x_mvalueBy {x y : Int32} (a : mb_at h m ρ D mo) (hd : ∀ q, q < dH D → dOk (e q)) (hp : p < dP D) (a9 : ∀ q, q < dH D → ax_i h (m + 14) (12 * p + q) = e q) (hq : Ret (some (.int (sp_vb (swr D p e) mo p x y))) h) : mX10_valueBy g [.ref m, .int (nI p), .int x, .int y] h Ret := by
  have s0 := a.1.1
  have e26 := a.2.2.2.2.1
  have hH := a.2.2.1.1.1
  refine uX10_valueBy (fun A hA => vX10_valueBy_0 hA ?_)
  have key : ∀ n i : Nat, ∀ o6 : Option Value, i + n = dH D → A (6, [some (.ref m), some (.int (nI p)), some (.int x), some (.int y), some (.int (sumN (fun q => sp_mw (swr D p e) mo p q (sp_lv x y q)) i)), some (.int (nI i)), o6], [], h, 0, 0) := by
    intro n
    induction n with
    | zero =>
      intro i o6 hi
      refine vX10_valueBy_6 hA ⟨s0, fun _ => ?_, fun q => ?_⟩
      · rw [show i = dH D by omega]; exact hq
      · rw [e26] at q; exact absurd (nI_le (by omega) (by omega)) q
    | succ n ih =>
      intro i o6 hi
      have nx : ∀ l : Int32, l = sp_lv x y i → A (6, [some (.ref m), some (.int (nI p)), some (.int x), some (.int y), some (.int (sumN (fun q => sp_mw (swr D p e) mo p q (sp_lv x y q)) i + sp_mw (swr D p e) mo p i l)), some (.int (nI i + 1)), some (.int l)], [], h, 0, 0) := by
        rintro l rfl
        have := ih (i + 1) (some (.int (sp_lv x y i))) (by omega)
        rw [nI_succ] at this
        exact this
      refine vX10_valueBy_6 hA ⟨s0, fun q => ?_, fun _ => ⟨fun h1 => ⟨fun h2 => ⟨s0, x_mworth a (a9 i (by omega)) (hd i (by omega)) hp (by omega) ⟨_, rfl, nx _ ?_⟩⟩, fun h2 => ⟨s0, x_mworth a (a9 i (by omega)) (hd i (by omega)) hp (by omega) ⟨_, rfl, nx _ ?_⟩⟩⟩, fun h1 => ⟨fun h2 => ⟨s0, x_mworth a (a9 i (by omega)) (hd i (by omega)) hp (by omega) ⟨_, rfl, nx _ ?_⟩⟩, fun h2 => ⟨s0, x_mworth a (a9 i (by omega)) (hd i (by omega)) hp (by omega) ⟨_, rfl, nx _ ?_⟩⟩⟩⟩⟩
      · rw [e26] at q; exact absurd q (nI_ge (by omega) (by omega))
      · unfold sp_lv; rw [if_neg h1, if_neg h2]
      · unfold sp_lv; rw [if_neg h1, if_pos h2]
      · unfold sp_lv; rw [if_pos h1, if_neg h2]
      · unfold sp_lv; rw [if_pos h1, if_pos h2]
  exact key (dH D) 0 _ (by omega)
theorem x_mlayValues (a : mb_at h m ρ D mo) (hd : ∀ q, q < dH D → dOk (e q)) (hp : p < dP D) (a9 : ∀ q, q < dH D → ax_i h (m + 14) (12 * p + q) = e q) (hq : ∀ h', mr noJ (fun a => a = m + 15) m h h' → (∀ q, q < dH D → ax_i h' (m + 15) (12 * p + q) = sp_vb (swr D p e) mo p (nI q) (-1)) → Ret none h') : mX10_layValues g [.ref m, .int (nI p)] h Ret := by
  have hb := a.2.2.1.1
  refine uX10_layValues (fun A hA => vX10_layValues_0 hA ?_)
  have key : ∀ n i : Nat, ∀ hh : ax_H, i + n = dH D → mr noJ (fun a => a = m + 15) m h hh → (∀ q, q < i → ax_i hh (m + 15) (12 * p + q) = sp_vb (swr D p e) mo p (nI q) (-1)) → A (2, [some (.ref m), some (.int (nI p)), some (.int (nI i))], [], hh, 0, 0) := by
    intro n
    induction n with
    | zero =>
      intro i hh hi hs hv
      have a' : mb_at hh m ρ D mo := mb_at_mr hs ⟨id, id, id, id, id⟩ (by omega) a
      refine vX10_layValues_2 hA ⟨a'.1.1, fun _ => hq hh hs (by rw [← show i = dH D by omega]; exact hv), fun q => ?_⟩
      rw [a'.2.2.2.2.1] at q; exact absurd (nI_le (by omega) (by omega)) q
    | succ n ih =>
      intro i hh hi hs hv
      have a' : mb_at hh m ρ D mo := mb_at_mr hs ⟨id, id, id, id, id⟩ (by omega) a
      obtain ⟨e1, e2⟩ := mo_va a'.1
      have s0 := a'.1.1
      have ei : (12 : Int32) * nI p + nI i = nI (12 * p + i) := ni_21
      refine vX10_layValues_2 hA ⟨s0, fun q => ?_, fun _ => ⟨s0, _, e1, s0, x_mvalueBy a' hd hp (fun q hq' => by rw [mr_e hs (by omega) (by omega)]; exact a9 q hq') ⟨_, rfl, by rw [e2], by rw [ei, e2]; exact vp_in_nI (by omega) (by decide), ?_⟩⟩⟩
      · rw [a'.2.2.2.2.1] at q; exact absurd q (nI_ge (by omega) (by omega))
      · intro h5
        have := ih (i + 1) h5 (by omega) (mr_tr hs (mr_c rfl (by omega))) (fun q hq => by
          show ax_i (ax_pi hh (m + 15) (12 * nI p + nI i).toNatClampNeg _) (m + 15) (12 * p + q) = _
          rw [ai_pi, ei, nI_clamp (by omega)]
          by_cases c : q = i
          · rw [if_pos ⟨rfl, by omega⟩, c]
          · rw [if_neg (fun z => c (by omega))]; exact hv q (by omega))
        rw [nI_succ] at this
        exact this
  exact key (dH D) 0 h (by omega) mr_rf (fun q hq => absurd hq (Nat.not_lt_zero q))
theorem x_mmeanOf {w : Nat → Int32} {t po : Int32} {vl : Nat → Nat → Int32} (a : mb_at h m ρ D mo) (va : ∀ q, q < dH D → ax_i h (m + 15) (12 * p + q) = vl p q) (b : mw_at h m (dH D) w t po) (hp : p < dP D) (hq : Ret (some (.long (sp_we (dP D) (dH D) vl w (nI p)))) h) : mX10_meanOf g [.ref m, .int (nI p)] h Ret := by
  obtain ⟨hH, hP⟩ := a.2.2.1.1
  have s0 := a.1.1
  have e26 := a.2.2.2.2.1
  obtain ⟨e1, e2⟩ := mo_we a.1
  obtain ⟨f1, f2⟩ := mo_va a.1
  refine uX10_meanOf (fun A hA => vX10_meanOf_0 hA ?_)
  have key : ∀ n i : Nat, i + n = dH D → A (5, [some (.ref m), some (.int (nI p)), some (.long (sumL (fun q => (w q).toInt64 * (sp_br (dP D) (dH D) vl (nI p) (nI q)).toInt64) i)), none, some (.int (nI i))], [], h, 0, 0) := by
    intro n
    induction n with
    | zero =>
      intro i hi
      refine vX10_meanOf_5 hA ⟨s0, fun _ => ?_, fun q => ?_⟩
      · rw [show i = dH D by omega]; exact hq
      · rw [e26] at q; exact absurd (nI_le (by omega) (by omega)) q
    | succ n ih =>
      intro i hi
      have ei : (12 : Int32) * nI p + nI i = nI (12 * p + i) := ni_21
      refine vX10_meanOf_5 hA ⟨s0, fun q => ?_, fun _ => ⟨s0, _, e1, by rw [e2], by rw [e2]; exact vp_in_nI (by omega) (by decide), s0, _, f1, by rw [f2], by rw [ei, f2]; exact vp_in_nI (by omega) (by decide), ?_⟩⟩
      · rw [e26] at q; exact absurd q (nI_ge (by omega) (by omega))
      · rw [ei, nI_clamp (by omega), nI_clamp (by omega), b.1 i (by omega), va i (by omega), ← sp_br_in (vl := vl) hp (show i < dH D by omega) hP hH, ← nI_succ]
        exact ih (i + 1) (by omega)
  exact key (dH D) 0 (by omega)
end
/-! sums with two places exchanged -/
theorem sumI_u1 {f k : Nat → Int} {a : Nat} : ∀ n, (∀ q, q < n → q ≠ a → k q = f q) → a < n → sumI k n = sumI f n + (k a - f a)
  | 0, _, h => absurd h (Nat.not_lt_zero a)
  | n + 1, e, h => by
    show sumI k n + k n = sumI f n + f n + (k a - f a)
    rcases Nat.lt_or_ge a n with c | c
    · rw [sumI_u1 n (fun q hq => e q (by omega)) c, e n (by omega) (by omega)]; omega
    · have ea : a = n := by omega
      have t : sumI k n = sumI f n := sumI_congr (fun q hq => e q (by omega) (by omega))
      rw [t, ea]; omega
theorem sumI_u2 {f k : Nat → Int} {a b n : Nat} (hn : ∀ q, q < n → q ≠ a → q ≠ b → k q = f q) (ha : a < n) (hb : b < n) (ab : a ≠ b) : sumI k n = sumI f n + (k a - f a) + (k b - f b) := by
  have t1 := sumI_u1 (f := fun q => if q = a then f a else k q) (k := k) (a := a) n (fun q hq c => by show k q = (if q = a then f a else k q); rw [if_neg c]) ha
  have t2 := sumI_u1 (f := f) (k := fun q => if q = a then f a else k q) (a := b) n (fun q hq c => by
    show (if q = a then f a else k q) = f q
    by_cases d : q = a
    · rw [if_pos d, d]
    · rw [if_neg d]; exact hn q hq d c) hb
  have t1 : sumI k n = sumI (fun q => if q = a then f a else k q) n + (k a - (if a = a then f a else k a)) := t1
  have t2 : sumI (fun q => if q = a then f a else k q) n = sumI f n + ((if b = a then f a else k b) - f b) := t2
  rw [t1, t2, if_pos rfl, if_neg (fun w => ab w.symm)]
  omega
theorem sumI_ext {f k : Nat → Int} {n : Nat} (e : ∀ i, i < n → f i = k i) : sumI f n = sumI k n := sumI_congr e
/-- a day's mean, as an integer -/
theorem we_int {D : rD} (ok : rd_ok D) {vl : Nat → Nat → Int32} {p : Nat} {x : Int32} (hp : p < dP D) (bv : ∀ q, q < dH D → -1287 ≤ (vl p q).toInt ∧ (vl p q).toInt ≤ 1287) : (sp_we (dP D) (dH D) vl (sp_w D x) (nI p)).toInt = sumI (fun q => (sp_w D x q).toInt * (vl p q).toInt) (dH D) ∧ -138996 ≤ (sp_we (dP D) (dH D) vl (sp_w D x) (nI p)).toInt ∧ (sp_we (dP D) (dH D) vl (sp_w D x) (nI p)).toInt ≤ 138996 := by
  have H12 := ok.1.2
  have P6 := ok.2.1
  have pr : ∀ q, q < dH D → ((sp_w D x q).toInt64 * (sp_br (dP D) (dH D) vl (nI p) (nI q)).toInt64).toInt = (sp_w D x q).toInt * (vl p q).toInt ∧ -11583 ≤ (sp_w D x q).toInt * (vl p q).toInt ∧ (sp_w D x q).toInt * (vl p q).toInt ≤ 11583 := fun q hq => by
    rw [sp_br_in hp hq P6 H12]
    have w1 := sp_w_bd ok x q
    have v1 := bv q hq
    have t := abs_mul (a := 9) (b := 1287) (by decide) (by decide) (x := (sp_w D x q).toInt) (y := (vl p q).toInt) (by omega) v1
    refine ⟨?_, by omega, by omega⟩
    rw [i64_mul (by rw [i_64, i_64]; omega) (by rw [i_64, i_64]; omega), i_64, i_64]
  have sl := sumL_int (f := fun q => (sp_w D x q).toInt64 * (sp_br (dP D) (dH D) vl (nI p) (nI q)).toInt64) (b := 11583) (n := dH D) (by decide) (fun q hq => by
    have := pr q hq
    show -11583 ≤ ((sp_w D x q).toInt64 * (sp_br (dP D) (dH D) vl (nI p) (nI q)).toInt64).toInt ∧ _
    rw [this.1]; omega) (by omega)
  unfold sp_we
  refine ⟨?_, by omega, by omega⟩
  rw [sl.1]
  exact sumI_congr (fun q hq => (pr q hq).1)
theorem vl_int {D : rD} (ok : rd_ok D) {p q : Nat} (hp : p < dP D) (hq : q < dH D) : (sp_vl D p q).toInt = (sp_wd D (nI p)).toInt + (sp_ex D (dde D p q)).toInt := by
  have a := wd_bd ok (nI p)
  have b := ex_bd ok (sp_de D (nI p) (nI q)) (sp_mo D (sp_de D (nI p) (nI q)))
  unfold sp_vl
  rw [i32_add (by unfold sp_ex; omega) (by unfold sp_ex; omega), de_in hp hq ok.2.1 ok.1.2]
theorem wd_int {D : rD} (ok : rd_ok D) {p : Nat} (hp : p < dP D) : (sp_wd D (nI p)).toInt = sumI (fun q => (sp_wo D (dde D p q)).toInt) (dH D) := by
  have H12 := ok.1.2
  have t := sumN_int (f := fun q => sp_wo D (sp_de D (nI p) (nI q))) (b := 99) (n := dH D) (by decide) (fun q _ => wo_bd ok _) (by omega)
  unfold sp_wd
  rw [t.1]
  exact sumI_congr (fun q hq => by rw [de_in hp hq ok.2.1 H12])
theorem ex_no (D : rD) : sp_ex D (-1) = 0 := by
  unfold sp_ex sp_mo
  rw [if_pos (Or.inl (by decide))]
  unfold sp_xb
  rw [if_neg (by decide), if_neg (by decide)]
/-- deeds of one, with two exchanged -/
def exd (e : Nat → Int32) (a b q : Nat) : Int32 := if q = b then e a else if q = a then e b else e q
theorem we_sw {D : rD} (ok : rd_ok D) {p a b : Nat} {x : Int32} (hp : p < dP D) (ha : a < dH D) (hb : b < dH D) (ab : a ≠ b) (eb : dde D p b = -1) : (sp_we (dP D) (dH D) (sp_vl (swr D p (exd (dde D p) a b))) (sp_w D x) (nI p)).toInt = (sp_we (dP D) (dH D) (sp_vl D) (sp_w D x) (nI p)).toInt + (sp_ex D (dde D p a)).toInt * ((sp_w D x b).toInt - (sp_w D x a).toInt) := by
  have ok2 : rd_ok (swr D p (exd (dde D p) a b)) := swr_ok ok (fun q hq => by
    unfold exd
    split
    · exact rd_de_of ok p a hp ha
    · split
      · exact rd_de_of ok p b hp hb
      · exact rd_de_of ok p q hp hq)
  have i1 := (we_int ok (vl := sp_vl D) (x := x) hp (fun q _ => vl_bd ok p q)).1
  have i2 := (we_int ok (vl := sp_vl (swr D p (exd (dde D p) a b))) (x := x) hp (fun q _ => vl_bd ok2 p q)).1
  have wdE : (sp_wd (swr D p (exd (dde D p) a b)) (nI p)).toInt = (sp_wd D (nI p)).toInt := by
    rw [wd_int ok2 (p := p) hp, wd_int ok hp]
    show sumI (fun q => (sp_wo D (dde (swr D p (exd (dde D p) a b)) p q)).toInt) (dH D) = _
    have t := sumI_u2 (f := fun q => (sp_wo D (dde D p q)).toInt) (k := fun q => (sp_wo D (dde (swr D p (exd (dde D p) a b)) p q)).toInt) (a := a) (b := b) (n := dH D) (fun q _ c d => by
      show (sp_wo D (dde (swr D p (exd (dde D p) a b)) p q)).toInt = (sp_wo D (dde D p q)).toInt
      rw [swr_de]; unfold exd; rw [if_neg d, if_neg c]) ha hb ab
    have ea : dde (swr D p (exd (dde D p) a b)) p a = dde D p b := by rw [swr_de]; unfold exd; rw [if_neg ab, if_pos rfl]
    have eb2 : dde (swr D p (exd (dde D p) a b)) p b = dde D p a := by rw [swr_de]; unfold exd; rw [if_pos rfl]
    rw [t]
    show _ + ((sp_wo D (dde (swr D p (exd (dde D p) a b)) p a)).toInt - (sp_wo D (dde D p a)).toInt) + ((sp_wo D (dde (swr D p (exd (dde D p) a b)) p b)).toInt - (sp_wo D (dde D p b)).toInt) = _
    rw [ea, eb2]; omega
  have v2 : ∀ q, q < dH D → (sp_vl (swr D p (exd (dde D p) a b)) p q).toInt = (sp_wd D (nI p)).toInt + (sp_ex D (exd (dde D p) a b q)).toInt := fun q hq => by
    rw [vl_int ok2 (p := p) hp hq, wdE, swr_de]; rfl
  rw [i1, i2]
  have t := sumI_u2 (f := fun q => (sp_w D x q).toInt * (sp_vl D p q).toInt) (k := fun q => (sp_w D x q).toInt * (sp_vl (swr D p (exd (dde D p) a b)) p q).toInt) (a := a) (b := b) (n := dH D) (fun q hq c d => by
    show (sp_w D x q).toInt * (sp_vl (swr D p (exd (dde D p) a b)) p q).toInt = (sp_w D x q).toInt * (sp_vl D p q).toInt
    rw [v2 q hq, vl_int ok hp hq]; unfold exd; rw [if_neg d, if_neg c]) ha hb ab
  rw [t]
  show _ + ((sp_w D x a).toInt * (sp_vl (swr D p (exd (dde D p) a b)) p a).toInt - (sp_w D x a).toInt * (sp_vl D p a).toInt) + ((sp_w D x b).toInt * (sp_vl (swr D p (exd (dde D p) a b)) p b).toInt - (sp_w D x b).toInt * (sp_vl D p b).toInt) = _
  rw [v2 a ha, v2 b hb, vl_int ok hp ha, vl_int ok hp hb, show exd (dde D p) a b a = -1 from by unfold exd; rw [if_neg ab, if_pos rfl, eb], show exd (dde D p) a b b = dde D p a from if_pos rfl, eb, ex_no]
  have z0 : (0 : Int32).toInt = 0 := rfl
  rw [z0]
  generalize (sp_w D x a).toInt = u
  generalize (sp_w D x b).toInt = v
  generalize (sp_ex D (dde D p a)).toInt = y
  generalize (sp_wd D (nI p)).toInt = t0
  rw [Int.mul_add, Int.mul_add, Int.mul_add, Int.mul_add, Int.mul_sub, Int.mul_comm y v, Int.mul_comm y u]
  omega
/-! SHIFT: the same answer -/
def shR (D : rD) (p a b : Nat) : Int64 := (sp_ex D (dde D p a)).toInt64 * (sp_w D (rul D) b - sp_w D (rul D) a).toInt64
theorem shR_bd {D : rD} (ok : rd_ok D) (p a b : Nat) : (shR D p a b).toInt = (sp_ex D (dde D p a)).toInt * ((sp_w D (rul D) b).toInt - (sp_w D (rul D) a).toInt) ∧ bL 1782 (shR D p a b) := by
  have b1 := sp_w_bd ok (rul D) a
  have b2 := sp_w_bd ok (rul D) b
  have b3 := ex_bd ok (dde D p a) (sp_mo D (dde D p a))
  have e1 : (sp_w D (rul D) b - sp_w D (rul D) a).toInt = (sp_w D (rul D) b).toInt - (sp_w D (rul D) a).toInt := i32_sub (by omega) (by omega)
  have t := abs_mul (a := 99) (b := 18) (by decide) (by decide) (x := (sp_ex D (dde D p a)).toInt) (y := (sp_w D (rul D) b).toInt - (sp_w D (rul D) a).toInt) b3 (by omega)
  have e : (shR D p a b).toInt = (sp_ex D (dde D p a)).toInt * ((sp_w D (rul D) b).toInt - (sp_w D (rul D) a).toInt) := by
    unfold shR
    rw [i64_mul (by rw [i_64, i_64, e1]; omega) (by rw [i_64, i_64, e1]; omega), i_64, i_64, e1]
  exact ⟨e, by unfold bL; rw [e]; omega⟩
def shS (D : rD) (p : Nat) : Nat → Option Nat × Int64
  | 0 => (none, 0)
  | k + 1 => if k % 12 < dH D ∧ dde D p (k % 12) = -1 ∧ ¬ lg_cmp (shR D p (k / 12) (k % 12)) (shS D p k).2 ≤ 0 then (some k, shR D p (k / 12) (k % 12)) else shS D p k
theorem shS_bd {D : rD} (ok : rd_ok D) (p : Nat) : ∀ k, 0 ≤ (shS D p k).2.toInt ∧ (shS D p k).2.toInt ≤ 1782
  | 0 => by show 0 ≤ (0 : Int64).toInt ∧ (0 : Int64).toInt ≤ 1782; decide
  | k + 1 => by
    have ih := shS_bd ok p k
    unfold shS
    split
    · rename_i c
      have c := c.2.2
      rw [cmp_le0] at c
      have t := (shR_bd ok p (k / 12) (k % 12)).2
      unfold bL at t
      show 0 ≤ (shR D p (k / 12) (k % 12)).toInt ∧ (shR D p (k / 12) (k % 12)).toInt ≤ 1782
      omega
    · exact ih
theorem shS_skip {D : rD} (p a : Nat) : ∀ j, dH D + j ≤ 12 → shS D p (12 * a + (dH D + j)) = shS D p (12 * a + dH D)
  | 0, _ => rfl
  | j + 1, hj => by
    rw [show 12 * a + (dH D + (j + 1)) = (12 * a + (dH D + j)) + 1 by omega]
    have un : shS D p (12 * a + (dH D + j) + 1) = shS D p (12 * a + (dH D + j)) := if_neg (fun w => by have := w.1; omega)
    rw [un]
    exact shS_skip (D := D) p a j (by omega)
def frm : Option Nat → Int32
  | none => -1
  | some k => nI (k / 12)
def tto : Option Nat → Int32
  | none => -1
  | some k => nI (k % 12)
def bsO : Option Nat → Int32
  | none => -1
  | some k => nI k
def shA (x3 : Int32) (D : rD) (p : Nat) (s : Option Nat × Int64) : Int32 := if 2 ≤ x3 then (sp_sd (sp_we (dP D) (dH D) (sp_vl D) (sp_w D (rul D)) (nI p) + s.2) (sp_t D (rul D)).toInt64 (if x3 = 3 then 1 else 0)).toInt32 else if x3 = 0 then frm s.1 else tto s.1
def s_shift (x2 x3 : Int32) (D : rD) : Int32 := if sp_in x2 (dP D) then (if x3 < 0 then -1000000 else if x3 ≤ 3 then shA x3 D x2.toNatClampNeg (shS D x2.toNatClampNeg (12 * dH D)) else -1000000) else -1000000
theorem q9_shift {x1 x2 x3 : Int32} (a : tc h z DD N C) (hq : ∀ h', ax_same cl_F h h' → Ret (some (.int (qv (z 0) DD x1 (-1000000) (s_shift x2 x3)))) h') : mX9_shift g [.ref 0, .int x1, .int x2, .int x3] h Ret := by
  have z2 := a.2.2.2.2.1 0 (by decide)
  refine uX9_shift (fun A hA => vX9_shift_0 hA ⟨a.1.1, q_begun a (fun q => Or.inr ⟨rfl, ?_⟩) (fun k hk ex ok h' hs xs hc => Or.inl ⟨_, rfl, hc.1.1.1, c_hasPerson hc.1 ⟨_, rfl, fun q1 => ?_, fun q1 => ⟨fun q2 => ?_, fun q2 => ⟨fun q3 => ?_, fun q3 => ?_⟩⟩⟩⟩)⟩)
  · have := hq h sm_rf; rwa [qv_no q] at this
  all_goals
    have hv := hq h' hs
    rw [qv_yes z2 hk ex] at hv
    unfold s_shift at hv
  · rw [b2i_0.mp q1, if_neg Bool.false_ne_true] at hv; exact hv
  · rw [if_pos (b2i_n0.mp q1), if_pos q2] at hv; exact hv
  · rw [if_pos (b2i_n0.mp q1), if_neg q2, if_pos q3] at hv
    obtain ⟨p, hp, rfl⟩ := sp_in_ix (by have := ok.2.1; omega) (b2i_n0.mp q1)
    have P6 := ok.2.1
    rw [nI_clamp (by omega)] at hv
    have H12 := ok.1.2
    have od := hc.2.2
    have e5 := hc.1.2.2.1.1
    have key : ∀ m i : Nat, i + m = dH (DD k) → ∀ (o10 o11 o12 o13 : Option Value), A (45, [some (.ref 0), some (.int x1), some (.int (nI p)), some (.int x3), some (.ref (6 + 14 * k)), some (.int (frm (shS (DD k) p (12 * i)).1)), some (.int (tto (shS (DD k) p (12 * i)).1)), some (.long (shS (DD k) p (12 * i)).2), none, some (.int (nI i)), o10, o11, o12, o13], [], h', 0, 0) := by
      intro m
      induction m with
      | zero =>
        intro i hi o10 o11 o12 o13
        rw [show i = dH (DD k) by omega]
        have bd := shS_bd ok p (12 * dH (DD k))
        have wb := (we_int ok (vl := sp_vl (DD k)) (x := rul (DD k)) hp (fun q _ => vl_bd ok p q)).2
        have big : -9223372036854775808 < (sp_we (dP (DD k)) (dH (DD k)) (sp_vl (DD k)) (sp_w (DD k) (rul (DD k))) (nI p) + (shS (DD k) p (12 * dH (DD k))).2).toInt := by rw [i64_add (by omega) (by omega)]; omega
        unfold shA at hv
        refine vX9_shift_45 hA ⟨hc.1.1.1, fun _ => ⟨fun c2 => ⟨xs.1, _, xs.2.1.2.2.2.1, xs.1, _, xs.2.1.2.2.2.2.1, hc.2.1.1.1, c_weighed hc.2.1 od (Nat.le_refl _) ⟨_, rfl, xs.1, _, xs.2.1.2.2.2.2.1, od.1.1, fun n3 => ?_, fun e3 => ?_⟩⟩, fun c2 => ⟨fun n0 => ?_, fun e0 => ?_⟩⟩, fun q => ?_⟩
        · rw [if_pos c2, if_neg n3] at hv
          rw [od.2.2.2.1]; exact c_side big (t_pos ok) ⟨_, rfl, hv⟩
        · rw [if_pos c2, if_pos e3] at hv
          rw [od.2.2.2.1]; exact c_side big (t_pos ok) ⟨_, rfl, hv⟩
        · rw [if_neg c2, if_neg n0] at hv; exact hv
        · rw [if_neg c2, if_pos e0] at hv; exact hv
        · rw [e5] at q; exact absurd (nI_le (by omega) (by omega)) q
      | succ m ih =>
        intro i hi o10 o11 o12 o13
        have nx := ih (i + 1) (by omega)
        have inn : ∀ f j : Nat, j + f = dH (DD k) → ∀ (o12 o13 : Option Value), A (73, [some (.ref 0), some (.int x1), some (.int (nI p)), some (.int x3), some (.ref (6 + 14 * k)), some (.int (frm (shS (DD k) p (12 * i + j)).1)), some (.int (tto (shS (DD k) p (12 * i + j)).1)), some (.long (shS (DD k) p (12 * i + j)).2), none, some (.int (nI i)), some (.int (sp_ex (DD k) (dde (DD k) p i))), some (.int (nI j)), o12, o13], [], h', 0, 0) := by
          intro f
          induction f with
          | zero =>
            intro j hj o12 o13
            refine vX9_shift_73 hA ⟨hc.1.1.1, fun _ => ?_, fun q => ?_⟩
            · have sk := shS_skip (D := DD k) p i (12 - dH (DD k)) (by omega)
              rw [show 12 * i + (dH (DD k) + (12 - dH (DD k))) = 12 * (i + 1) by omega] at sk
              rw [← nI_succ, show j = dH (DD k) by omega, ← sk]
              exact nx _ _ _ _
            · rw [e5] at q; exact absurd (nI_le (by omega) (by omega)) q
          | succ f ihf =>
            intro j hj o12 o13
            have st := ihf (j + 1) (by omega)
            have m1 : (12 * i + j) % 12 = j := by omega
            have m2 : (12 * i + j) / 12 = i := by omega
            have un : shS (DD k) p (12 * i + (j + 1)) = (if j < dH (DD k) ∧ dde (DD k) p j = -1 ∧ ¬ lg_cmp (shR (DD k) p i j) (shS (DD k) p (12 * i + j)).2 ≤ 0 then (some (12 * i + j), shR (DD k) p i j) else shS (DD k) p (12 * i + j)) := by
              rw [show 12 * i + (j + 1) = 12 * i + j + 1 by omega]
              show (if (12 * i + j) % 12 < dH (DD k) ∧ dde (DD k) p ((12 * i + j) % 12) = -1 ∧ ¬ lg_cmp (shR (DD k) p ((12 * i + j) / 12) ((12 * i + j) % 12)) (shS (DD k) p (12 * i + j)).2 ≤ 0 then (some (12 * i + j), shR (DD k) p ((12 * i + j) / 12) ((12 * i + j) % 12)) else shS (DD k) p (12 * i + j)) = _
              rw [m1, m2]
            refine vX9_shift_73 hA ⟨hc.1.1.1, fun q => ?_, fun _ => ⟨xs.1, _, xs.2.1.2.2.2.2.1, od.1.1, _, od.1.2.1, by rw [od.1.2.2], by rw [od.1.2.2]; exact vp_in_nI (by omega) (by decide), xs.1, _, xs.2.1.2.2.2.2.1, od.1.1, _, od.1.2.1, by rw [od.1.2.2], by rw [od.1.2.2]; exact vp_in_nI (by omega) (by decide), ?_⟩⟩
            · rw [e5] at q; exact absurd q (nI_ge (by omega) (by omega))
            · intro z29
              have ez : (sp_ex (DD k) (dde (DD k) p i)).toInt64 * z29 = shR (DD k) p i j := by
                show (sp_ex (DD k) (dde (DD k) p i)).toInt64 * (ax_i h' 56 (nI j).toNatClampNeg - ax_i h' 56 (nI i).toNatClampNeg).toInt64 = _
                rw [nI_clamp (by omega), nI_clamp (by omega), od.2.2.2.2 j (by omega), od.2.2.2.2 i (by omega)]
                rfl
              refine ⟨hc.1.1.1, c_deedAt hc.1 ⟨_, rfl, ?_⟩⟩
              rw [de_in hp (show j < dH (DD k) by omega) P6 H12, ez, ← nI_succ]
              refine ⟨fun c => ?_, fun c => ⟨fun d => ?_, fun d => ?_⟩⟩
              · rw [un, if_neg (fun w => c w.2.1)] at st
                exact st _ _
              · rw [un, if_neg (fun w => w.2.2 d)] at st
                exact st _ _
              · rw [un, if_pos ⟨by omega, c, d⟩] at st
                have st := st (some (.long (shR (DD k) p i j))) none
                rw [show frm (some (12 * i + j), shR (DD k) p i j).1 = nI i from by show nI ((12 * i + j) / 12) = nI i; rw [m2], show tto (some (12 * i + j), shR (DD k) p i j).1 = nI j from by show nI ((12 * i + j) % 12) = nI j; rw [m1]] at st
                exact st
        refine vX9_shift_45 hA ⟨hc.1.1.1, fun q => ?_, fun _ => ⟨hc.1.1.1, c_deedAt hc.1 ⟨_, rfl, ?_⟩⟩⟩
        · rw [e5] at q; exact absurd q (nI_ge (by omega) (by omega))
        · rw [de_in hp (show i < dH (DD k) by omega) P6 H12]
          exact ⟨hc.1.1.1, c_extraOf hc.1 ⟨_, rfl, inn (dH (DD k)) 0 (by omega) _ _⟩⟩
    exact key (dH (DD k)) 0 (by omega) _ _ _ _
  · rw [if_pos (b2i_n0.mp q1), if_neg q2, if_neg q3] at hv; exact hv
/-- what SHIFT keeps in the reference -/
def shM (h hh : ax_H) (k : Nat) (D : rD) (p : Nat) (e : Nat → Int32) : Prop := ax_same md_F h hh ∧ mb_at hh 77 k D (dmo D) ∧ mw_at hh 77 (dH D) (sp_w D (rul D)) (sp_t D (rul D)) (rul D) ∧ (∀ q, q < dH D → ax_i hh 91 (12 * p + q) = e q) ∧ ∀ q, q < dH D → ax_i hh 92 (12 * p + q) = sp_vl (swr D p e) p q
theorem c_swapE {hh : ax_H} {k p q r : Nat} {D : rD} {e : Nat → Int32} (ok : rd_ok D) (M : shM h hh k D p e) (he : ∀ q, q < dH D → dOk (e q)) (hp : p < dP D) (hq0 : q < dH D) (hr : r < dH D) (K : ∀ h2, shM h h2 k D p (exd e q r) → Ret none h2) : mX10_swapDeed g [.ref 77, .int (nI p), .int (nI q), .int (nI r)] hh Ret := by
  obtain ⟨s0, b, w, d, v⟩ := M
  obtain ⟨hH, hP⟩ := b.2.2.1.1
  obtain ⟨e1, e2⟩ := mo_de b.1
  have eq : (12 : Int32) * nI p + nI q = nI (12 * p + q) := ni_21
  have er : (12 : Int32) * nI p + nI r = nI (12 * p + r) := ni_21
  have vq : vp_in ((12 : Int32) * nI p + nI q) (ax_s hh (77 + 14)).2 := by rw [eq, e2]; exact vp_in_nI (by omega) (by decide)
  have vr : vp_in ((12 : Int32) * nI p + nI r) (ax_s hh (77 + 14)).2 := by rw [er, e2]; exact vp_in_nI (by omega) (by decide)
  have s11 : (ax_s hh (77 + 14)).1 = 11 := by rw [e2]
  refine eX10_swapDeed ⟨b.1.1, _, e1, s11, vq, b.1.1, _, e1, b.1.1, _, e1, s11, vr, s11, vq, ?_⟩
  intro u4
  refine ⟨b.1.1, _, e1, s11, vr, ?_⟩
  intro u6
  have r6 : mr noJ (fun a => a = 91) 77 hh u6 := mr_tr (mr_c rfl (by decide)) (mr_c rfl (by decide))
  have b6 : mb_at u6 77 k D (dmo D) := mb_at_mr r6 (by unfold noJ; decide) (by decide) b
  have d6 : ∀ j, j < dH D → ax_i u6 91 (12 * p + j) = exd e q r j := fun j hj => by
    show ax_i (ax_pi (ax_pi hh 91 ((12 : Int32) * nI p + nI q).toNatClampNeg (ax_i hh 91 ((12 : Int32) * nI p + nI r).toNatClampNeg)) 91 ((12 : Int32) * nI p + nI r).toNatClampNeg (ax_i hh 91 ((12 : Int32) * nI p + nI q).toNatClampNeg)) 91 (12 * p + j) = _
    rw [eq, er, nI_clamp (by omega), nI_clamp (by omega), d q hq0, d r hr, ai_pi, ai_pi]
    unfold exd
    by_cases c : j = r
    · rw [if_pos ⟨rfl, by omega⟩, if_pos c]
    · rw [if_neg (fun z => c (by omega)), if_neg c]
      by_cases c2 : j = q
      · rw [if_pos ⟨rfl, by omega⟩, if_pos c2]
      · rw [if_neg (fun z => c2 (by omega)), if_neg c2]; exact d j hj
  have he2 : ∀ j, j < dH D → dOk (exd e q r j) := fun j hj => by
    unfold exd
    split
    · exact he q hq0
    · split
      · exact he r hr
      · exact he j hj
  refine ⟨b6.1.1, x_mlayValues (e := exd e q r) b6 he2 hp d6 (fun h2 r2 v2 => ⟨rfl, K h2 ⟨sm_tr s0 (sm_tr (sm_mono r6.1 (fun x e => by unfold md_F; omega)) (sm_mono r2.1 (fun x e => by unfold md_F; omega))), mb_at_mr r2 (by unfold noJ; decide) (by decide) b6, mw_mr r2 (by unfold noJ; decide) (by decide) (mw_mr r6 (by unfold noJ; decide) (by decide) w), fun j hj => by rw [mr_e r2 (by decide) (by decide)]; exact d6 j hj, fun j hj => ?_⟩⟩)⟩
  have ok2 : rd_ok (swr D p (exd e q r)) := swr_ok ok he2
  rw [show ax_i h2 92 (12 * p + j) = _ from v2 j hj]
  exact vb_vl (D := swr D p (exd e q r)) (rd_de_of ok2) hp hj hH hP ok.2.2.2.1
theorem exd_exd {e : Nat → Int32} {a b q : Nat} (ab : a ≠ b) : exd (exd e a b) a b q = e q := by
  unfold exd
  by_cases c : q = b
  · rw [if_pos c, if_neg ab, if_pos rfl, c]
  · rw [if_neg c]
    by_cases d : q = a
    · rw [if_pos d, if_pos rfl, d]
    · rw [if_neg d, if_neg c, if_neg d]
theorem shM_congr {hh : ax_H} {k p : Nat} {D : rD} {e e2 : Nat → Int32} (ok : rd_ok D) (hp : p < dP D) (M : shM h hh k D p e) (c : ∀ q, e q = e2 q) : shM h hh k D p e2 := by
  have : e = e2 := funext c
  rw [← this]; exact M
theorem swr_self {D : rD} {p : Nat} : swr D p (dde D p) = D := by
  have t : (fun p' q => if p' = p then dde D p q else dde D p' q) = dde D := funext fun p' => funext fun q => by
    by_cases c : p' = p
    · rw [if_pos c, c]
    · rw [if_neg c]
  show (dH D, dP D, dpu D, dwo D, dmo D, (fun p' q => if p' = p then dde D p q else dde D p' q), dlo D) = D
  rw [t]
  rfl
theorem q10_shift {x1 x2 x3 : Int32} (a : tc h z DD N C) (hq : ∀ h', ax_same md_F h h' → Ret (some (.int (qv (z 0) DD x1 (-1000000) (s_shift x2 x3)))) h') : mX10_shift g [.ref 77, .int x1, .int x2, .int x3] h Ret := by
  have z2 := a.2.2.2.2.1 0 (by decide)
  obtain ⟨a1, T1, hs1⟩ := q_code (v := 0) a.2.1 a.2.2.2.1
  have bad : ∀ h', ax_same md_F h h' → qv (z 0) DD x1 (-1000000) (s_shift x2 x3) = -1000000 → Ret (some (.int (-1000000))) h' := fun h' hs e => by
    have hv := hq h' hs
    rw [e] at hv
    exact hv
  refine uX10_shift (fun A hA => vX10_shift_0 hA ⟨a.2.1.1, ?_⟩)
  intro h1
  refine c_min ⟨_, rfl, fun q0 => bad _ hs1 ?_, fun q0 => ⟨a1.1, q_handOne a1 T1 a.2.2.2.2 (fun h' hs no => ⟨_, rfl, fun q => absurd rfl q, fun _ => bad _ (sm_tr hs1 hs) ?_⟩) (fun k p hk ex ok hp ep h' hs hm => ⟨_, rfl, fun _ => ⟨hm.1.1.1.1, ?_⟩, fun q => absurd q (by decide)⟩)⟩⟩
  · have n := of_decide_eq_false (b2i_0.mp q0)
    unfold qv
    split
    · unfold s_shift
      split
      · split
        · rfl
        · rename_i c
          split
          · rename_i d
            exact absurd ⟨Int32.not_lt.mp c, d⟩ n
          · rfl
      · rfl
    · rfl
  · unfold qv
    split
    · rename_i c
      obtain ⟨k, hk, ek⟩ := sp_in_ix (by omega) c
      have t := no k hk ek
      unfold s_shift
      rw [ek, nI_clamp (by omega), t, if_neg Bool.false_ne_true]
    · rfl
  subst ep
  obtain ⟨p0, p3⟩ := of_decide_eq_true (b2i_n0.mp q0)
  have H12 := ok.1.2
  have P6 := ok.2.1
  have hv : ∀ hh, ax_same md_F h hh → Ret (some (.int (shA x3 (DD k) p (shS (DD k) p (12 * dH (DD k)))))) hh := fun hh s => by
    have hv := hq hh s
    rw [qv_yes z2 hk ex] at hv
    unfold s_shift at hv
    rw [sp_in_nI (by omega) hp, if_pos rfl, if_neg (Int32.not_lt.mpr p0), if_pos p3, nI_clamp (by omega)] at hv
    exact hv
  have M0 : shM h h' k (DD k) p (dde (DD k) p) := ⟨sm_tr hs1 hs, hm.1.1, hm.2, fun q hq => hm.1.2.2.1 p q hp hq, fun q hq => by rw [swr_self]; exact hm.1.2.2.2 p q hp hq⟩
  have wi := (we_int ok (vl := sp_vl (DD k)) (x := rul (DD k)) hp (fun q _ => vl_bd ok p q)).2
  have cmp : ∀ {r m : Int64}, bL 1782 r → 0 ≤ m.toInt → m.toInt ≤ 1782 → ∀ by' : Int64, by'.toInt = (sp_we (dP (DD k)) (dH (DD k)) (sp_vl (DD k)) (sp_w (DD k) (rul (DD k))) (nI p)).toInt + r.toInt → ((lg_cmp by' (sp_we (dP (DD k)) (dH (DD k)) (sp_vl (DD k)) (sp_w (DD k) (rul (DD k))) (nI p) + m) ≤ 0 ↔ lg_cmp r m ≤ 0) ∧ by' = sp_we (dP (DD k)) (dH (DD k)) (sp_vl (DD k)) (sp_w (DD k) (rul (DD k))) (nI p) + r) := fun {r m} br m0 m1 by' eb => by
    unfold bL at br
    constructor
    · rw [cmp_le0, cmp_le0, i64_add (by omega) (by omega), eb]; omega
    · exact Int64.toInt_inj.mp (by rw [i64_add (by omega) (by omega), eb])
  refine c_mmeanOf hm.1 hm.2 hp ⟨_, rfl, ?_⟩
  have key : ∀ n i : Nat, i + n = 12 * dH (DD k) → ∀ h3, shM h h3 k (DD k) p (dde (DD k) p) → ∀ (o8 o9 o10 o11 : Option Value), A (40, [some (.ref 77), some (.int x1), some (.int (nI p)), some (.int x3), some (.int (bsO (shS (DD k) p i).1)), some (.long (sp_we (dP (DD k)) (dH (DD k)) (sp_vl (DD k)) (sp_w (DD k) (rul (DD k))) (nI p) + (shS (DD k) p i).2)), none, some (.int (nI i)), o8, o9, o10, o11], [], h3, 0, 0) := by
    intro n
    induction n with
    | zero =>
      intro i hi h3 M o8 o9 o10 o11
      have hw := hv h3 M.1
      have e : i = 12 * dH (DD k) := by omega
      rw [← e] at hw
      have mb := M.2.1
      have mw := M.2.2.1
      have s0 := mb.1.1
      have e12 : (12 : Int32) * ax_i h3 77 26 = nI (12 * dH (DD k)) := by rw [mb.2.2.2.2.1]; exact ni_mul
      have bd := shS_bd ok p i
      have big : -9223372036854775808 < (sp_we (dP (DD k)) (dH (DD k)) (sp_vl (DD k)) (sp_w (DD k) (rul (DD k))) (nI p) + (shS (DD k) p i).2).toInt := by rw [i64_add (by omega) (by omega)]; omega
      unfold shA at hw
      have sb : ∀ j, j ≤ 144 → ∀ t, (shS (DD k) p j).1 = some t → t < 144 := by
        intro j
        induction j with
        | zero => intro _ t e; cases e
        | succ j ihj =>
          intro hj t
          unfold shS
          split
          · intro e; cases e; omega
          · exact ihj (by omega) t
      have sbi := sb i (by omega)
      refine vX10_shift_40 hA ⟨s0, fun _ => ⟨fun c1 => ⟨fun nb => ⟨fun n0 => ⟨by decide, ?_⟩, fun e0 => ⟨by decide, ?_⟩⟩, fun eb => ?_⟩, fun c1 => ⟨s0, fun n3 => ?_, fun e3 => ?_⟩⟩, fun q => ?_⟩
      · rw [if_neg (fun w => absurd (Int32.le_trans w c1) (by decide)), if_neg n0] at hw
        cases es : (shS (DD k) p i).1 with
        | none => rw [es] at nb; exact absurd rfl nb
        | some t =>
          rw [es] at hw
          show Ret (some (.int (nI t - nI t / 12 * 12))) h3
          rw [show (12 : Int32) = nI 12 from rfl, pk_rem (by have := sbi t es; omega) (by decide) (by decide)]
          exact hw
      · rw [if_neg (fun w => absurd (Int32.le_trans w c1) (by decide)), if_pos e0] at hw
        cases es : (shS (DD k) p i).1 with
        | none => rw [es] at nb; exact absurd rfl nb
        | some t =>
          rw [es] at hw
          show Ret (some (.int (nI t / 12))) h3
          rw [show (12 : Int32) = nI 12 from rfl, pk_div (by have := sbi t es; omega) (by decide) (by decide)]
          exact hw
      · rw [if_neg (fun w => absurd (Int32.le_trans w c1) (by decide))] at hw
        cases es : (shS (DD k) p i).1 with
        | none =>
          rw [es] at hw
          have : (if x3 = 0 then frm none else tto none) = -1 := by split <;> rfl
          rw [this] at hw
          exact hw
        | some t =>
          rw [es] at eb
          exact absurd eb (nI_nm1 (by have := sbi t es; omega))
      · have c2 : (2 : Int32) ≤ x3 := by
          have z1 : (1 : Int32).toInt = 1 := rfl
          have z2 : (2 : Int32).toInt = 2 := rfl
          rw [i_le] at c1 ⊢
          omega
        rw [if_pos c2, if_neg n3] at hw
        rw [mw.2.1]; exact c_part big (t_pos ok) ⟨_, rfl, hw⟩
      · rw [if_pos (by rw [e3]; decide), if_pos e3] at hw
        rw [mw.2.1]; exact c_part big (t_pos ok) ⟨_, rfl, hw⟩
      · rw [e12] at q; exact absurd (nI_le (by omega) (by omega)) q
    | succ n ih =>
      intro i hi h3 M o8 o9 o10 o11
      have mb := M.2.1
      have mw := M.2.2.1
      have s0 := mb.1.1
      obtain ⟨e1, e2⟩ := mo_de mb.1
      have e12 : (12 : Int32) * ax_i h3 77 26 = nI (12 * dH (DD k)) := by rw [mb.2.2.2.2.1]; exact ni_mul
      have ed : nI i / (12 : Int32) = nI (i / 12) := pk_div (d := 12) (by omega) (by decide) (by decide)
      have er : nI i - nI i / (12 : Int32) * 12 = nI (i % 12) := pk_rem (d := 12) (by omega) (by decide) (by decide)
      have di : i / 12 < dH (DD k) := by omega
      have un : shS (DD k) p (i + 1) = (if i % 12 < dH (DD k) ∧ dde (DD k) p (i % 12) = -1 ∧ ¬ lg_cmp (shR (DD k) p (i / 12) (i % 12)) (shS (DD k) p i).2 ≤ 0 then (some i, shR (DD k) p (i / 12) (i % 12)) else shS (DD k) p i) := rfl
      have bd := shS_bd ok p i
      have rb := shR_bd ok p (i / 12) (i % 12)
      have K0 : (¬ (i % 12 < dH (DD k) ∧ dde (DD k) p (i % 12) = -1 ∧ ¬ lg_cmp (shR (DD k) p (i / 12) (i % 12)) (shS (DD k) p i).2 ≤ 0)) → ∀ h4, shM h h4 k (DD k) p (dde (DD k) p) → ∀ (o8 o9 o10 o11 : Option Value), A (40, [some (.ref 77), some (.int x1), some (.int (nI p)), some (.int x3), some (.int (bsO (shS (DD k) p i).1)), some (.long (sp_we (dP (DD k)) (dH (DD k)) (sp_vl (DD k)) (sp_w (DD k) (rul (DD k))) (nI p) + (shS (DD k) p i).2)), none, some (.int (nI i + 1)), o8, o9, o10, o11], [], h4, 0, 0) := fun no h4 M4 o8 o9 o10 o11 => by
        have st := ih (i + 1) (by omega) h4 M4 o8 o9 o10 o11
        rw [un, if_neg no, nI_succ] at st
        exact st
      have eq : (12 : Int32) * nI p + nI (i / 12) = nI (12 * p + i / 12) := ni_21
      have eq2 : (12 : Int32) * nI p + nI (i % 12) = nI (12 * p + i % 12) := ni_21
      have da : ax_i h3 (77 + 14) ((12 : Int32) * nI p + nI i / 12).toNatClampNeg = dde (DD k) p (i / 12) := by rw [ed, eq, nI_clamp (by omega)]; exact M.2.2.2.1 _ di
      refine vX10_shift_40 hA ⟨s0, fun q => ?_, fun _ => ⟨by decide, by decide, s0, fun qr => ?_, fun qr => ⟨s0, _, e1, by rw [e2], ?_, fun qa => ?_, fun qa => ⟨s0, _, e1, by rw [e2], ?_, ?_⟩⟩⟩⟩
      · rw [e12] at q; exact absurd q (nI_ge (by omega) (by omega))
      · rw [er, mb.2.2.2.2.1, nI_leI (by omega) (by omega)] at qr
        exact K0 (fun w => by have := w.1; omega) h3 M _ _ _ _
      · rw [ed, eq, e2]; exact vp_in_nI (by omega) (by decide)
      · rw [da] at qa
        refine K0 (fun w => w.2.2 ?_) h3 M _ _ _ _
        rw [cmp_le0, rb.1, qa, ex_no, show (0 : Int32).toInt = 0 from rfl, Int.zero_mul]
        exact bd.1
      · rw [er, eq2, e2]; exact vp_in_nI (by omega) (by decide)
      · have rH : i % 12 < dH (DD k) := by
          rw [er, mb.2.2.2.2.1] at qr
          exact Nat.lt_of_not_le (fun w => qr (nI_le w (by omega)))
        intro z19
        have ez : z19 = dde (DD k) p (i % 12) := by
          show ax_i h3 (77 + 14) ((12 : Int32) * nI p + (nI i - nI i / 12 * 12)).toNatClampNeg = _
          rw [er, eq2, nI_clamp (by omega)]; exact M.2.2.2.1 _ rH
        rw [ez]
        rw [da] at qa
        refine ⟨fun c => K0 (fun w => c w.2.1) h3 M _ _ _ _, fun c => ⟨s0, ?_⟩⟩
        have ab : i / 12 ≠ i % 12 := fun w => qa (by rw [w]; exact c)
        rw [er, ed]
        refine c_swapE ok M (fun q hq => rd_de_of ok p q hp hq) hp di rH (fun h4 M4 => ⟨rfl, M4.2.1.1.1, x_mmeanOf M4.2.1 (vl := sp_vl (swr (DD k) p (exd (dde (DD k) p) (i / 12) (i % 12)))) M4.2.2.2.2 M4.2.2.1 hp ⟨_, rfl, M4.2.1.1.1, c_swapE ok M4 (fun q hq => ?_) hp di rH (fun h5 M5 => ⟨rfl, ?_⟩)⟩⟩)
        · unfold exd
          split
          · exact rd_de_of ok p _ hp di
          · split
            · exact rd_de_of ok p _ hp rH
            · exact rd_de_of ok p q hp hq
        · have M6 : shM h h5 k (DD k) p (dde (DD k) p) := shM_congr ok hp M5 (fun q => exd_exd ab)
          obtain ⟨cc, ce⟩ := cmp rb.2 bd.1 bd.2 (sp_we (dP (DD k)) (dH (DD k)) (sp_vl (swr (DD k) p (exd (dde (DD k) p) (i / 12) (i % 12)))) (sp_w (DD k) (rul (DD k))) (nI p)) (by rw [we_sw ok hp di rH ab c, rb.1])
          have st := fun o8 o9 o10 o11 => ih (i + 1) (by omega) h5 M6 o8 o9 o10 o11
          refine ⟨fun u => ⟨fun _ => K0 (fun w => w.2.2 (cc.mp u)) h5 M6 _ _ _ _, fun v => absurd u v⟩, fun u => ⟨fun v => absurd v u, fun _ => ?_⟩⟩
          have st := st (some (.int (nI (i / 12)))) (some (.int (nI (i % 12)))) (some (.long (sp_we (dP (DD k)) (dH (DD k)) (sp_vl (swr (DD k) p (exd (dde (DD k) p) (i / 12) (i % 12)))) (sp_w (DD k) (rul (DD k))) (nI p)))) none
          rw [un, if_pos ⟨rH, c, fun w => u (cc.mpr w)⟩, nI_succ] at st
          rw [ce] at st ⊢
          exact st
  have k0 := key (12 * dH (DD k)) 0 (by omega) h' M0 none none none none
  rw [show (shS (DD k) p 0).2 = 0 from rfl, Int64.add_zero] at k0
  exact k0
theorem g_shift (a : IV h S Im tp) (b : 103 ≤ h.1 ∧ h.1 ≤ B) (x1 x2 x3 : Int32) : prI (mX9_shift g) (mX10_shift g) [.ref 0, .int x1, .int x2, .int x3] [.ref 77, .int x1, .int x2, .int x3] h (inv B) := pr_q _ a b (fun Ret k => q9_shift (iv_tc a) k) (fun h1 Ret a1 k => q10_shift (iv_tc a1) k)
end
