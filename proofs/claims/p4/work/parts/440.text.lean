section
variable {g : ax_G} {Ret : Option Value → ax_H → Prop} {h : ax_H} {S : sT} {Im : Nat → Option sT} {tp : Nat → Nat}
/-! TEXT: what becomes of what is told -/
/-- what a reading finds: the fault, its place, a republic, or lines -/
abbrev rT : Type := Int32 × Int32 × rD × Nat × (Nat → Nat → Int32)
def r_f (R : rT) : Int32 := R.1
def r_p (R : rT) : Int32 := R.2.1
def r_D (R : rT) : rD := R.2.2.1
def r_N (R : rT) : Nat := R.2.2.2.1
def r_C (R : rT) : Nat → Nat → Int32 := R.2.2.2.2
def r_ok (s : Nat) (R : rT) : Prop := r_f R = 0 → (s = 0 → rd_ok (r_D R)) ∧ (1 ≤ s → ln_ok s (r_N R) (r_C R))
def s_flt (S : sT) (f p : Int32) : sT := (0, s_t S, f, p, S.2.2.2.2)
def s_put (S : sT) (s k : Nat) (R : rT) : sT := (0, s_t S, 0, r_p R, (fun q => if q = s then (if s_z S s < k + 1 then k + 1 else s_z S s) else s_z S q), (fun j => if s = 0 ∧ j = k then r_D R else s_D S j), (fun q j => if q = s ∧ j = k then r_N R else s_N S q j), (fun q j => if q = s ∧ j = k then r_C R else s_C S q j))
/-- the places where a text of sort s may go: at NONE behind the last one, or in the place of one -/
def s_at (S : sT) (s : Nat) (y : Int32) : Option Nat := if y = -1 then (if s_z S s < 2 then some (s_z S s) else none) else if sp_in y (s_z S s) then some y.toNatClampNeg else none
/-- the class's reader behind a reading -/
def rp_at (h : ax_H) (s : Nat) (R : rT) : Prop := ax_i h 35 4 = r_f R ∧ ax_i h 35 5 = r_p R ∧ (r_f R = 0 → (s = 0 → rc_at h 36 (r_D R)) ∧ (1 ≤ s → li_at h (42 + 2 * s) s (r_N R) (r_C R)))
def re_F : Nat → Prop := fun a => 35 ≤ a ∧ a ≤ 51
theorem tl_flt {f p : Int32} {h' : ax_H} (hs : ax_same (fun a => a = 1 ∨ a = 2) h h') (a : tl_at h 1 S) (e4 : ax_i h' 1 4 = 0) (e5 : ax_i h' 1 5 = f) (e6 : ax_i h' 1 6 = p) (et : ∀ i, i < 600 → ax_i h' 2 i = ax_i h 2 i) : tl_at h' 1 (s_flt S f p) := by
  obtain ⟨⟨a1, a2, a3, a4⟩, b1, b2, b3, b4, b5, b6⟩ := a
  have gg : ag (fun b => ¬ (b = 1 ∨ b = 2)) h h' := ag_same hs (fun x hx => hx)
  have z0 := (a2 0 (by decide)).1
  refine ⟨⟨to_st_F hs (fun s k h1 h5 hk => li_st_same hs (by unfold lnp; omega) (to_li a1 h1 h5 hk)) a1, fun q hq => ⟨(a2 q hq).1, by rw [(gg 3 (by omega)).2.1]; exact (a2 q hq).2⟩, fun k hk => rc_at_ag gg (fun j hj => by omega) (a3 k hk), fun q k h1 h5 hk => li_at_ag gg (by unfold lnp; omega) (a4 q k h1 h5 hk)⟩, e4, e5, e6, fun i hi => (et i hi).trans (b4 i hi), by rw [hs.2.2.1]; exact b5, by rw [hs.2.2.1]; exact b6⟩
/-- what was read is taken -/
theorem c_take {s k : Nat} {R : rT} (a : tl_at h 1 S) (hre : re_st h 35 2) (e0 : ax_i h 1 4 = 0) (e5 : ax_i h 1 5 = 0) (e6 : ax_i h 1 6 = r_p R) (hs5 : s < 5) (hk : k < 2) (hkz : k ≤ s_z S s) (hR : (s = 0 → rc_at h 36 (r_D R)) ∧ (1 ≤ s → li_at h (42 + 2 * s) s (r_N R) (r_C R))) (hq : ∀ h', ax_same (fun a => 3 ≤ a ∧ a ≤ 33) h h' → tl_at h' 1 (s_put S s k R) → Ret none h') : mX8_take g [.ref 1, .ref 35, .int (nI s), .int (nI k)] h Ret := by
  obtain ⟨⟨a1, a2, a3, a4⟩, b1, b2, b3, b4, b5, b6⟩ := id a
  obtain ⟨t1, ⟨-, t3, t4, t5⟩, ⟨-, t7, t8, t9⟩, t10, t11⟩ := id a1
  have zs := (a2 s hs5).1
  have in5 : vp_in (nI s) (ax_s h 3).2 := by rw [t7]; exact vp_in_nI hs5 (by decide)
  have ez : ax_i h 3 s = nI (s_z S s) := (a2 s hs5).2
  have em : (if nI (s_z S s) < nI k + 1 then nI k + 1 else nI (s_z S s)) = nI (if s_z S s < k + 1 then k + 1 else s_z S s) := by
    rw [← nI_succ]
    by_cases q : s_z S s < k + 1
    · rw [if_pos q, if_pos (nI_lt q (by omega))]
    · rw [if_neg q, if_neg (nI_nlt (by omega) (by omega))]
  refine eX8_take ⟨fun q => absurd q (nI_pos (by omega)), fun _ => ⟨fun q => absurd q (nI_ge (a := s) (b := 5) hs5 (by decide)), fun _ => ⟨fun q => absurd q (nI_pos (by omega)), fun _ => ⟨fun _ => ⟨t1, _, t3, t1, _, t3, sh_k t7, in5, sh_k t7, in5, ?_⟩, fun q => absurd (nI_lt (a := k) (b := 2) hk (by decide)) q⟩⟩⟩⟩
  rw [nI_clamp (by omega), show (1 + 2 : Nat) = 3 from rfl, ez, em]
  have hp : ax_same (fun a => a = 3) h (ax_pi h 3 s (nI (if s_z S s < k + 1 then k + 1 else s_z S s))) := sm_pi rfl
  have gp : ag (fun b => b ≠ 3) h (ax_pi h 3 s (nI (if s_z S s < k + 1 then k + 1 else s_z S s))) := ag_same hp (fun x hx => hx)
  have ez' : ∀ q, q < 5 → ax_i (ax_pi h 3 s (nI (if s_z S s < k + 1 then k + 1 else s_z S s))) 3 q = nI (if q = s then (if s_z S s < k + 1 then k + 1 else s_z S s) else s_z S q) := by
    intro q hq
    rw [ai_pi]
    by_cases e : q = s
    · rw [if_pos ⟨rfl, e⟩, if_pos e]
    · rw [if_neg (fun z => e z.2), if_neg e]; exact (a2 q hq).2
  have zb : ∀ q, q < 5 → (if q = s then (if s_z S s < k + 1 then k + 1 else s_z S s) else s_z S q) ≤ 2 := by
    intro q hq
    have := (a2 q hq).1
    split
    · split <;> omega
    · omega
  revert hp gp ez'
  generalize ax_pi h 3 s (nI (if s_z S s < k + 1 then k + 1 else s_z S s)) = h4
  intro hp gp ez'
  have re4 : re_st h4 35 2 := re_n_ag gp (fun j hj => by omega) (fun q _ _ => by omega) hre
  obtain ⟨r0, ⟨-, r1, r2, -⟩, r5, r6, -, -, r9⟩ := id re4
  have st4 : to_st h4 1 := to_st_F hp (fun s k h1 h5 hk => li_st_same hp (by unfold lnp; omega) (to_li a1 h1 h5 hk)) a1
  obtain ⟨u1, ⟨-, -, u4, u5⟩, ⟨-, -, u8, u9⟩, u10, u11⟩ := id st4
  refine ⟨fun q => ?_, fun q => ?_⟩
  · have s1 : 1 ≤ s := by
      rcases Nat.eq_zero_or_pos s with z | z
      · exact absurd (by rw [z]; rfl) q
      · exact z
    have ei : nI s * 2 + nI k = nI (s * 2 + k) := by rw [show (2 : Int32) = nI 2 from rfl, pk_mul, nI_add]
    obtain ⟨w1, w2⟩ := r9 s s1 hs5
    obtain ⟨w3, w4⟩ := u11 s k s1 hs5 hk
    have lR : li_at h4 (42 + 2 * s) s (r_N R) (r_C R) := li_at_ag gp (by omega) (hR.2 s1)
    refine ⟨r0, _, r2, sh_k r6, by rw [r6]; exact vp_in_nI hs5 (by decide), _, w1, u1, _, u5, sh_k u9, by rw [ei, u9]; exact vp_in_nI (by omega) (by decide), _, by rw [ei, nI_clamp (by omega)]; exact w3, ?_⟩
    refine c_copyLin s1 hs5 w4 w2 (by unfold lnp; omega) (fun h9 hs9 st9 cp => ⟨rfl, ?_⟩)
    have g9 : ag (fun b => ¬ (b = lnp 1 s k ∨ b = lnp 1 s k + 1)) h4 h9 := ag_same hs9 (fun x hx => hx)
    have G : ag (fun b => b ≠ 3 ∧ ¬ (b = lnp 1 s k ∨ b = lnp 1 s k + 1)) h h9 := ag_tr (ag_mono gp (fun x hx => hx.1)) (ag_mono g9 (fun x hx => hx.2))
    refine hq h9 (sm_tr (sm_mono hp (fun x hx => by omega)) (sm_mono hs9 (fun x hx => by unfold lnp at hx; omega))) ⟨⟨to_st_F hs9 (fun q j h1 h5 hj => ?_) st4, fun q hq5 => ⟨zb q hq5, by rw [(g9 3 (by unfold lnp; omega)).2.1]; exact ez' q hq5⟩, fun j hj => ?_, fun q j h1 h5 hj => ?_⟩, by rw [(G 1 (by unfold lnp; omega)).2.1]; exact e0, by rw [(G 1 (by unfold lnp; omega)).2.1]; exact e5, by rw [(G 1 (by unfold lnp; omega)).2.1]; exact e6, fun i hi => by rw [(G 2 (by unfold lnp; omega)).2.1]; exact b4 i hi, by rw [(G 5 (by unfold lnp; omega)).2.2.2]; exact b5, by rw [(G 5 (by unfold lnp; omega)).2.2.2]; exact b6⟩
    · by_cases e : q = s ∧ j = k
      · obtain ⟨rfl, rfl⟩ := e; exact st9
      · exact li_st_same hs9 (by unfold lnp; omega) (to_li st4 h1 h5 hj)
    · have hj : j < (if (0 : Nat) = s then (if s_z S s < k + 1 then k + 1 else s_z S s) else s_z S 0) := hj
      rw [if_neg (by omega)] at hj
      have z0 := (a2 0 (by decide)).1
      show rc_at h9 (1 + 5 + 14 * j) (if s = 0 ∧ j = k then r_D R else s_D S j)
      rw [if_neg (fun z => by omega)]
      refine rc_at_ag G (fun i hi => ?_) (a3 j hj)
      have j2 : j = 0 ∨ j = 1 := by omega
      have k2 : k = 0 ∨ k = 1 := by omega
      unfold lnp
      rcases j2 with rfl | rfl <;> rcases k2 with rfl | rfl <;> omega
    · show li_at h9 (lnp 1 q j) q (if q = s ∧ j = k then r_N R else s_N S q j) ((if q = s ∧ j = k then r_C R else s_C S q j))
      by_cases e : q = s ∧ j = k
      · obtain ⟨rfl, rfl⟩ := e
        rw [if_pos ⟨rfl, rfl⟩, if_pos ⟨rfl, rfl⟩]
        exact cp _ _ lR
      · rw [if_neg e, if_neg e]
        have hj : j < (if q = s then (if s_z S s < k + 1 then k + 1 else s_z S s) else s_z S q) := hj
        have hj' : j < s_z S q := by
          by_cases eq : q = s
          · rw [if_pos eq] at hj
            have : j ≠ k := fun z => e ⟨eq, z⟩
            rw [eq]
            by_cases w : s_z S s < k + 1
            · rw [if_pos w] at hj; omega
            · rw [if_neg w] at hj; exact hj
          · rw [if_neg eq] at hj; exact hj
        have zq := (a2 q h5).1
        exact li_at_ag G (by unfold lnp; omega) (a4 q j h1 h5 hj')
  · have s0 : s = 0 := by
      rcases Nat.eq_zero_or_pos s with z | z
      · exact z
      · exact absurd q (nI_ne0 z (by omega))
    subst s0
    obtain ⟨w3, w4⟩ := u10 k hk
    have rR : rc_at h4 36 (r_D R) := rc_at_ag gp (fun j hj => by omega) (hR.1 rfl)
    refine ⟨r0, _, r1, u1, _, u4, sh_k u8, by rw [u8]; exact vp_in_nI hk (by decide), _, by rw [nI_clamp (by omega)]; exact w3, ?_⟩
    refine c_copyRep w4 r5 (by omega) (fun h9 hs9 cp => ⟨rfl, ?_⟩)
    have g9 : ag (fun b => ¬ rc_F (1 + 5 + 14 * k) b) h4 h9 := ag_same hs9 (fun x hx => hx)
    have G : ag (fun b => b ≠ 3 ∧ ¬ rc_F (1 + 5 + 14 * k) b) h h9 := ag_tr (ag_mono gp (fun x hx => hx.1)) (ag_mono g9 (fun x hx => hx.2))
    refine hq h9 (sm_tr (sm_mono hp (fun x hx => by omega)) (sm_mono hs9 (fun x hx => by unfold rc_F at hx; omega))) ⟨⟨to_st_F hs9 (fun q j h1 h5 hj => li_st_same hs9 (by unfold rc_F lnp; omega) (to_li st4 h1 h5 hj)) st4, fun q hq5 => ⟨zb q hq5, by rw [(g9 3 (by unfold rc_F; omega)).2.1]; exact ez' q hq5⟩, fun j hj => ?_, fun q j h1 h5 hj => ?_⟩, by rw [(G 1 (by unfold rc_F; omega)).2.1]; exact e0, by rw [(G 1 (by unfold rc_F; omega)).2.1]; exact e5, by rw [(G 1 (by unfold rc_F; omega)).2.1]; exact e6, fun i hi => by rw [(G 2 (by unfold rc_F; omega)).2.1]; exact b4 i hi, by rw [(G 5 (by unfold rc_F; omega)).2.2.2]; exact b5, by rw [(G 5 (by unfold rc_F; omega)).2.2.2]; exact b6⟩
    · have hj : j < (if (0 : Nat) = 0 then (if s_z S 0 < k + 1 then k + 1 else s_z S 0) else s_z S 0) := hj
      rw [if_pos rfl] at hj
      show rc_at h9 (1 + 5 + 14 * j) (if 0 = 0 ∧ j = k then r_D R else s_D S j)
      by_cases e : j = k
      · subst e
        rw [if_pos ⟨rfl, rfl⟩]; exact cp _ rR
      · rw [if_neg (fun z => e z.2)]
        have hj' : j < s_z S 0 := by
          by_cases w : s_z S 0 < k + 1
          · rw [if_pos w] at hj; omega
          · rw [if_neg w] at hj; exact hj
        refine rc_at_ag G (fun i hi => ?_) (a3 j hj')
        unfold rc_F; omega
    · show li_at h9 (lnp 1 q j) q (if q = 0 ∧ j = k then r_N R else s_N S q j) ((if q = 0 ∧ j = k then r_C R else s_C S q j))
      have hj : j < (if q = 0 then (if s_z S 0 < k + 1 then k + 1 else s_z S 0) else s_z S q) := hj
      rw [if_neg (by omega)] at hj
      rw [if_neg (by omega), if_neg (by omega)]
      have zq := (a2 q h5).1
      refine li_at_ag G ?_ (a4 q j h1 h5 hj)
      have j2 : j = 0 ∨ j = 1 := by omega
      have k2 : k = 0 ∨ k = 1 := by omega
      unfold lnp rc_F
      rcases j2 with rfl | rfl <;> rcases k2 with rfl | rfl <;> omega
end
