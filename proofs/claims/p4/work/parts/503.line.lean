section
/-! LINES. Verbs: their sort, how many numbers, the least and the most of each -/
def lvs (v : Nat) : Nat := [0, 0, 0, 0, 0, 0, 1, 2, 3, 4, 4].getD v 9
def lnu (v : Nat) : Nat := [1, 2, 2, 1, 3, 3, 1, 3, 2, 3, 3].getD v 0
def llo (v i : Nat) : Nat := [2, 0, 0, 0, 0, 0, 0, 0, 0, 0, 0, 0, 0, 0, 0, 0, 0, 0, 0, 0, 0, 0, 0, 0, 0, 1, 0, 1, 0, 0, 1, 0, 0].getD (v * 3 + i) 0
def lhi (v i : Nat) : Nat := [12, 0, 0, 5, 99, 0, 5, 99, 0, 999, 0, 0, 5, 11, 5, 5, 11, 9, 11, 0, 0, 5, 11, 11, 11, 9, 0, 3, 5, 999, 3, 5, 999].getD (v * 3 + i) 0
/-- a draft: fault, its place, republic, last hour told, last person told, lines -/
abbrev lS : Type := Nat × Nat × rD × Int32 × Int32 × Nat × (Nat → Nat → Int32)
def l_f (st : lS) : Nat := st.1
def l_p (st : lS) : Nat := st.2.1
def l_D (st : lS) : rD := st.2.2.1
def l_h (st : lS) : Int32 := st.2.2.2.1
def l_o (st : lS) : Int32 := st.2.2.2.2.1
def l_N (st : lS) : Nat := st.2.2.2.2.2.1
def l_C (st : lS) : Nat → Nat → Int32 := st.2.2.2.2.2.2
def lbad (v : Nat) (x : Nat → Nat) (i : Nat) : Bool := decide (x i < llo v i ∨ lhi v i < x i ∨ (v = 7 ∧ i = 2 ∧ x 2 < x 1))
def ltoo (v : Nat) (st : lS) : Bool := if v = 3 then decide (6 ≤ dP (l_D st)) else if lvs v = 0 then false else decide (lm (lvs v) ≤ l_N st)
/-- a fault is noted if there is none yet -/
def nt (fp : Nat × Nat) (b : Bool) (w q : Nat) : Nat × Nat := if fp.1 = 0 ∧ b = true then (w, q) else fp
def lfp (v : Nat) (x q : Nat → Nat) (fp : Nat × Nat) : Nat → Nat × Nat
  | 0 => fp
  | i + 1 => nt (lfp v x q fp i) (lbad v x i) 2 (q i)
def up1 (f : Nat → Int32) (k : Nat) (v : Int32) : Nat → Int32 := fun i => if i = k then v else f i
def up2 (f : Nat → Nat → Int32) (p q : Nat) (v : Int32) : Nat → Nat → Int32 := fun i j => if i = p ∧ j = q then v else f i j
def mx (a b : Int32) : Int32 := if a < b then b else a
/-- the numbers of a line as they are kept -/
def lval (v : Nat) (x : Nat → Nat) (j : Nat) : Int32 := if v = 10 ∧ j = 2 then -(nI (x 2)) else nI (x j)
def l_add (v : Nat) (x : Nat → Nat) (st : lS) : lS := (l_f st, l_p st, l_D st, l_h st, l_o st, l_N st + 1, fun i j => if i = l_N st then lval v x j else l_C st i j)
def D_d (D : rD) (p q : Nat) (w : Int32) : rD := (dH D, dP D, dpu D, dwo D, dmo D, up2 (dde D) p q w, dlo D)
def D_l (D : rD) (p q : Nat) (w : Int32) : rD := (dH D, dP D, dpu D, dwo D, dmo D, dde D, up2 (dlo D) p q w)
def D_k (D : rD) (k : Nat) (w m : Int32) : rD := (dH D, dP D, dpu D, up1 (dwo D) k w, up1 (dmo D) k m, dde D, dlo D)
def D_p (D : rD) (w : Int32) : rD := (dH D, dP D + 1, up1 (dpu D) (dP D) w, dwo D, dmo D, dde D, dlo D)
def D_h (D : rD) (k : Nat) : rD := (k, dP D, dpu D, dwo D, dmo D, dde D, dlo D)
def l_tell (v : Nat) (x : Nat → Nat) (md : Nat) (st : lS) : lS := match v with
  | 0 => (l_f st, l_p st, D_h (l_D st) (x 0), st.2.2.2)
  | 1 => (l_f st, l_p st, D_k (l_D st) (x 0) (nI (x 1)) (nI md), st.2.2.2)
  | 2 => (l_f st, l_p st, D_k (l_D st) (x 0) (-(nI (x 1))) (nI md), st.2.2.2)
  | 3 => (l_f st, l_p st, D_p (l_D st) (nI (x 0)), st.2.2.2)
  | 4 => (l_f st, l_p st, D_d (l_D st) (x 0) (x 1) (nI (x 2)), mx (l_h st) (nI (x 1)), mx (l_o st) (nI (x 0)), st.2.2.2.2.2)
  | 5 => (l_f st, l_p st, D_l (l_D st) (x 0) (x 1) (nI (x 2)), mx (l_h st) (nI (x 1)), mx (l_o st) (nI (x 0)), st.2.2.2.2.2)
  | v => l_add v x st
def l_fp (v : Nat) (x : Nat → Nat) (q0 : Nat) (q : Nat → Nat) (st : lS) : Nat × Nat := lfp v x q (nt (l_f st, l_p st) (ltoo v st) 3 q0) (lnu v)
/-- a line told: verb, numbers, mode, places -/
def l_line (v : Nat) (x : Nat → Nat) (md q0 : Nat) (q : Nat → Nat) (st : lS) : lS := if (l_fp v x q0 q st).1 = 0 then l_tell v x md st else ((l_fp v x q0 q st).1, (l_fp v x q0 q st).2, st.2.2)
theorem nt_0 {fp : Nat × Nat} {b : Bool} {w q : Nat} (hw : w ≠ 0) (h : (nt fp b w q).1 = 0) : fp.1 = 0 ∧ b = false ∧ nt fp b w q = fp := by
  unfold nt at h ⊢
  by_cases z : fp.1 = 0 ∧ b = true
  · rw [if_pos z] at h; exact absurd h hw
  · rw [if_neg z] at h ⊢
    refine ⟨h, ?_, rfl⟩
    cases b with
    | false => rfl
    | true => exact absurd ⟨h, rfl⟩ z
theorem lfp_0 {v : Nat} {x q : Nat → Nat} {fp : Nat × Nat} : ∀ {i : Nat}, (lfp v x q fp i).1 = 0 → fp.1 = 0 ∧ lfp v x q fp i = fp ∧ ∀ j, j < i → lbad v x j = false
  | 0, h => ⟨h, rfl, fun j hj => absurd hj (Nat.not_lt_zero j)⟩
  | i + 1, h => by
    obtain ⟨h1, h2, h3⟩ := nt_0 (by decide) h
    obtain ⟨a1, a2, a3⟩ := lfp_0 (i := i) h1
    refine ⟨a1, ?_, fun j hj => ?_⟩
    · show nt (lfp v x q fp i) (lbad v x i) 2 (q i) = fp
      rw [h3, a2]
    · by_cases e : j = i
      · rw [e]; exact h2
      · exact a3 j (by omega)
theorem l_fp_0 {v : Nat} {x : Nat → Nat} {q0 : Nat} {q : Nat → Nat} {st : lS} (h : (l_fp v x q0 q st).1 = 0) : l_f st = 0 ∧ ltoo v st = false ∧ ∀ j, j < lnu v → lbad v x j = false := by
  obtain ⟨a1, a2, a3⟩ := lfp_0 h
  obtain ⟨b1, b2, -⟩ := nt_0 (by decide) a1
  exact ⟨b1, b2, a3⟩
theorem lbad_f {v : Nat} {x : Nat → Nat} {i : Nat} (h : lbad v x i = false) : llo v i ≤ x i ∧ x i ≤ lhi v i ∧ (v = 7 → i = 2 → x 1 ≤ x 2) := by
  have := of_decide_eq_false h
  refine ⟨by omega, by omega, fun a b => by omega⟩
/-- what a draft keeps -/
def okD (D : rD) : Prop := (2 ≤ dH D ∧ dH D ≤ 12) ∧ dP D ≤ 6 ∧ (∀ k, k < 6 → -99 ≤ (dwo D k).toInt ∧ (dwo D k).toInt ≤ 99) ∧ (∀ k, k < 6 → dmo D k = 0 ∨ dmo D k = 1 ∨ dmo D k = 2) ∧ (∀ p, p < dP D → 0 ≤ (dpu D p).toInt ∧ (dpu D p).toInt ≤ 999) ∧ (∀ p q, p < 6 → q < 12 → dde D p q = -1 ∨ ∃ k : Nat, k < 6 ∧ dde D p q = nI k) ∧ (∀ p q, p < 6 → q < 12 → 0 ≤ (dlo D p q).toInt ∧ (dlo D p q).toInt ≤ 9)
theorem okD_rd {D : rD} (a : okD D) : rd_ok D := ⟨a.1, a.2.1, a.2.2.1, a.2.2.2.1, a.2.2.2.2.1, fun p q hp hq => a.2.2.2.2.2.1 p q (by have := a.2.1; omega) (by have := a.1.2; omega), fun p q hp hq => a.2.2.2.2.2.2 p q (by have := a.2.1; omega) (by have := a.1.2; omega)⟩
def okL (s : Nat) (st : lS) : Prop := okD (l_D st) ∧ (1 ≤ s → ln_ok s (l_N st) (l_C st) ∧ dH (l_D st) = 8 ∧ dP (l_D st) = 0 ∧ l_h st = -1 ∧ l_o st = -1)
theorem okD_0 : okD D0 := ⟨⟨by decide, by decide⟩, by decide, fun k _ => ⟨show (-99 : Int) ≤ (0 : Int32).toInt by decide, show (0 : Int32).toInt ≤ 99 by decide⟩, fun k _ => Or.inl rfl, fun p hp => absurd hp (Nat.not_lt_zero p), fun p q _ _ => Or.inl rfl, fun p q _ _ => ⟨show (0 : Int) ≤ (1 : Int32).toInt by decide, show (1 : Int32).toInt ≤ 9 by decide⟩⟩
theorem nI_bd {k m : Nat} (h : k ≤ m) (hm : m < 2 ^ 31) : 0 ≤ (nI k).toInt ∧ (nI k).toInt ≤ m := by rw [nI_toInt (by omega)]; omega
/-- a told line keeps it -/
theorem okL_line {s v : Nat} {x : Nat → Nat} {md q0 : Nat} {q : Nat → Nat} {st : lS} (a : okL s st) (hv : v < 11) (hs : lvs v = s) (hmd : md < 3) : okL s (l_line v x md q0 q st) := by
  unfold l_line
  by_cases z : (l_fp v x q0 q st).1 = 0
  · rw [if_pos z]
    obtain ⟨z1, z2, z3⟩ := l_fp_0 z
    obtain ⟨⟨d1, d2, d3, d4, d5, d6, d7⟩, a2⟩ := id a
    have md3 : nI md = 0 ∨ nI md = 1 ∨ nI md = 2 := by
      rcases (by omega : md = 0 ∨ md = 1 ∨ md = 2) with rfl | rfl | rfl
      · exact Or.inl rfl
      · exact Or.inr (Or.inl rfl)
      · exact Or.inr (Or.inr rfl)
    have lin : 6 ≤ v → okL s (l_add v x st) := by
      intro v6
      refine ⟨a.1, fun s1 => ⟨?_, (a2 s1).2⟩⟩
      have hn : l_N st < lm s := by
        unfold ltoo at z2
        rw [if_neg (by omega), hs, if_neg (by omega)] at z2
        have := of_decide_eq_false z2
        omega
      refine ⟨hn, fun i hi => ?_⟩
      by_cases e : i = l_N st
      · have e2 : ∀ j, (l_C (l_add v x st)) i j = lval v x j := fun j => if_pos e
        have b0 := lbad_f (z3 0 (by have : v = 6 ∨ v = 7 ∨ v = 8 ∨ v = 9 ∨ v = 10 := by omega
                                    rcases this with rfl | rfl | rfl | rfl | rfl <;> decide))
        rcases (by omega : v = 6 ∨ v = 7 ∨ v = 8 ∨ v = 9 ∨ v = 10) with rfl | rfl | rfl | rfl | rfl <;> subst hs
        · exact ⟨x 0, by have : x 0 ≤ 11 := b0.2.1; omega, (e2 0).trans rfl⟩
        · have b1 := lbad_f (z3 1 (by decide))
          have b2 := lbad_f (z3 2 (by decide))
          exact ⟨x 0, x 1, x 2, by have : x 0 ≤ 5 := b0.2.1; omega, b2.2.2 rfl rfl, by have : x 2 ≤ 11 := b2.2.1; omega, (e2 0).trans rfl, (e2 1).trans rfl, (e2 2).trans rfl⟩
        · have b1 := lbad_f (z3 1 (by decide))
          exact ⟨x 0, x 1, by have : x 0 ≤ 11 := b0.2.1; omega, b1.1, by have : x 1 ≤ 9 := b1.2.1; omega, (e2 0).trans rfl, (e2 1).trans rfl⟩
        · have b1 := lbad_f (z3 1 (by decide))
          have b2 := lbad_f (z3 2 (by decide))
          have b29 : x 2 ≤ 999 := b2.2.1
          have := nI_bd b29 (by decide)
          refine ⟨x 0, x 1, b0.1, by have : x 0 ≤ 3 := b0.2.1; omega, by have : x 1 ≤ 5 := b1.2.1; omega, (e2 0).trans rfl, (e2 1).trans rfl, ?_⟩
          rw [e2 2]
          show -999 ≤ (nI (x 2)).toInt ∧ (nI (x 2)).toInt ≤ 999
          omega
        · have b1 := lbad_f (z3 1 (by decide))
          have b2 := lbad_f (z3 2 (by decide))
          have b29 : x 2 ≤ 999 := b2.2.1
          have := nI_bd b29 (by decide)
          refine ⟨x 0, x 1, b0.1, by have : x 0 ≤ 3 := b0.2.1; omega, by have : x 1 ≤ 5 := b1.2.1; omega, (e2 0).trans rfl, (e2 1).trans rfl, ?_⟩
          rw [e2 2]
          show -999 ≤ (-(nI (x 2))).toInt ∧ (-(nI (x 2))).toInt ≤ 999
          rw [i32_neg (by omega)]
          omega
      · have hi : i < l_N st + 1 := hi
        have := (a2 s1).1.2 i (by omega)
        have e2 : l_C (l_add v x st) i = l_C st i := funext (fun j => if_neg e)
        rw [e2]; exact this
    have b0 : lnu v ≠ 0 → x 0 ≤ lhi v 0 ∧ llo v 0 ≤ x 0 := fun q => ⟨(lbad_f (z3 0 (by omega))).2.1, (lbad_f (z3 0 (by omega))).1⟩
    rcases (by omega : v = 0 ∨ v = 1 ∨ v = 2 ∨ v = 3 ∨ v = 4 ∨ v = 5 ∨ 6 ≤ v) with rfl | rfl | rfl | rfl | rfl | rfl | v6
    · subst hs
      have := b0 (by decide)
      exact ⟨⟨⟨this.2, this.1⟩, d2, d3, d4, d5, d6, d7⟩, fun q => absurd q (by decide)⟩
    · subst hs
      have h1 : x 1 ≤ 99 := (lbad_f (z3 1 (by decide))).2.1
      have hb := nI_bd h1 (by decide)
      refine ⟨⟨d1, d2, fun k hk => ?_, fun k hk => ?_, d5, d6, d7⟩, fun q => absurd q (by decide)⟩
      · show -99 ≤ (if k = x 0 then nI (x 1) else dwo (l_D st) k).toInt ∧ (if k = x 0 then nI (x 1) else dwo (l_D st) k).toInt ≤ 99
        split
        · omega
        · exact d3 k hk
      · show (if k = x 0 then nI md else dmo (l_D st) k) = 0 ∨ (if k = x 0 then nI md else dmo (l_D st) k) = 1 ∨ (if k = x 0 then nI md else dmo (l_D st) k) = 2
        split
        · exact md3
        · exact d4 k hk
    · subst hs
      have h1 : x 1 ≤ 99 := (lbad_f (z3 1 (by decide))).2.1
      have hb := nI_bd h1 (by decide)
      refine ⟨⟨d1, d2, fun k hk => ?_, fun k hk => ?_, d5, d6, d7⟩, fun q => absurd q (by decide)⟩
      · show -99 ≤ (if k = x 0 then -(nI (x 1)) else dwo (l_D st) k).toInt ∧ (if k = x 0 then -(nI (x 1)) else dwo (l_D st) k).toInt ≤ 99
        split
        · rw [i32_neg (by omega)]; omega
        · exact d3 k hk
      · show (if k = x 0 then nI md else dmo (l_D st) k) = 0 ∨ (if k = x 0 then nI md else dmo (l_D st) k) = 1 ∨ (if k = x 0 then nI md else dmo (l_D st) k) = 2
        split
        · exact md3
        · exact d4 k hk
    · subst hs
      have h0 : x 0 ≤ 999 := (b0 (by decide)).1
      have hb := nI_bd h0 (by decide)
      have hp : dP (l_D st) < 6 := by
        have := of_decide_eq_false z2
        omega
      refine ⟨⟨d1, hp, d3, d4, fun p hp' => ?_, d6, d7⟩, fun q => absurd q (by decide)⟩
      show 0 ≤ (if p = dP (l_D st) then nI (x 0) else dpu (l_D st) p).toInt ∧ (if p = dP (l_D st) then nI (x 0) else dpu (l_D st) p).toInt ≤ 999
      split
      · omega
      · have hp' : p < dP (l_D st) + 1 := hp'
        exact d5 p (by omega)
    · subst hs
      have h2 : x 2 ≤ 5 := (lbad_f (z3 2 (by decide))).2.1
      refine ⟨⟨d1, d2, d3, d4, d5, fun p q hp hq => ?_, d7⟩, fun q => absurd q (by decide)⟩
      show (if p = x 0 ∧ q = x 1 then nI (x 2) else dde (l_D st) p q) = -1 ∨ ∃ k : Nat, k < 6 ∧ (if p = x 0 ∧ q = x 1 then nI (x 2) else dde (l_D st) p q) = nI k
      split
      · exact Or.inr ⟨x 2, by omega, rfl⟩
      · exact d6 p q hp hq
    · subst hs
      have h2 : x 2 ≤ 9 := (lbad_f (z3 2 (by decide))).2.1
      have hb := nI_bd h2 (by decide)
      refine ⟨⟨d1, d2, d3, d4, d5, d6, fun p q hp hq => ?_⟩, fun q => absurd q (by decide)⟩
      show 0 ≤ (if p = x 0 ∧ q = x 1 then nI (x 2) else dlo (l_D st) p q).toInt ∧ (if p = x 0 ∧ q = x 1 then nI (x 2) else dlo (l_D st) p q).toInt ≤ 9
      split
      · omega
      · exact d7 p q hp hq
    · have e : l_tell v x md st = l_add v x st := by
        match v, v6 with
        | n + 6, _ => rfl
      rw [e]
      exact lin v6
  · rw [if_neg z]; exact a
end
