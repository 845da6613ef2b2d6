section
variable {g : ax_G} {Ret : Option Value → ax_H → Prop} {h : ax_H} {z : Nat → Nat} {DD : Nat → rD} {N : Nat → Nat → Nat} {C : Nat → Nat → Nat → Nat → Int32} {S : sT} {Im : Nat → Option sT} {tp : Nat → Nat} {B : Nat}
theorem t10_hope {x1 x2 x3 x4 : Int32} (a : tc h z DD N C) (hq : ∀ (v : Int64) h', ax_same md_F h h' → Ret (some (.long v)) h') : mX10_hope g [.ref 77, .int x1, .int x2, .int x3, .int x4] h Ret := by
  obtain ⟨a1, T1, hs1⟩ := q_code (v := 0) a.2.1 a.2.2.2.1
  refine eX10_hope ⟨a.2.1.1, ?_⟩
  intro h1
  refine c_min ⟨_, rfl, fun _ => hq _ _ hs1, fun q2 => ⟨a1.1, q_handOne a1 T1 a.2.2.2.2 (fun h' hs _ => ⟨_, rfl, fun q => absurd rfl q, fun _ => hq _ _ (sm_tr hs1 hs)⟩) (fun k p hk ex ok hp ep h' hs hm => ⟨_, rfl, fun _ => ⟨hm.1.1.1.1, ?_⟩, fun q => absurd q (by decide)⟩)⟩⟩
  subst ep
  obtain ⟨n, _, hn, rfl⟩ := i_rng (a := 0) (b := 2) (by decide) (by decide) (of_decide_eq_true (b2i_n0.mp q2)).1 (of_decide_eq_true (b2i_n0.mp q2)).2
  refine c_expect ok (lvm_hm (sm_tr hs1 hs) hm) hn hp (fun h2 L2 => ⟨rfl, ?_⟩)
  obtain ⟨pu, mc, -⟩ := L2.2
  exact ⟨fun _ => ⟨mc.1.1.1, hq _ _ L2.1⟩, fun _ => ⟨mc.1.1.1, hq _ _ L2.1⟩⟩
theorem t10_doom {x1 x2 x3 x4 : Int32} (a : tc h z DD N C) (hq : ∀ (v : Int64) h', ax_same md_F h h' → Ret (some (.long v)) h') : mX10_doom g [.ref 77, .int x1, .int x2, .int x3, .int x4] h Ret := by
  obtain ⟨a1, T1, hs1⟩ := q_code (v := 0) a.2.1 a.2.2.2.1
  refine eX10_doom ⟨a.2.1.1, ?_⟩
  intro h1
  refine c_min ⟨_, rfl, fun _ => hq _ _ hs1, fun q2 => ⟨a1.1, q_handOne a1 T1 a.2.2.2.2 (fun h' hs _ => ⟨_, rfl, fun q => absurd rfl q, fun _ => hq _ _ (sm_tr hs1 hs)⟩) (fun k p hk ex ok hp ep h' hs hm => ⟨_, rfl, fun _ => ⟨hm.1.1.1.1, ?_⟩, fun q => absurd q (by decide)⟩)⟩⟩
  subst ep
  obtain ⟨n, _, hn, rfl⟩ := i_rng (a := 0) (b := 2) (by decide) (by decide) (of_decide_eq_true (b2i_n0.mp q2)).1 (of_decide_eq_true (b2i_n0.mp q2)).2
  refine c_expect ok (lvm_hm (sm_tr hs1 hs) hm) hn hp (fun h2 L2 => ⟨rfl, ?_⟩)
  obtain ⟨pu, mc, -⟩ := L2.2
  exact ⟨fun _ => ⟨mc.1.1.1, hq _ _ L2.1⟩, fun _ => ⟨mc.1.1.1, hq _ _ L2.1⟩⟩
theorem n_hope (a : IV h S Im tp) (b : 103 ≤ h.1 ∧ h.1 ≤ B) (x1 x2 x3 x4 : Int32) : prM (mX9_hope g) (mX10_hope g) [.ref 0, .int x1, .int x2, .int x3, .int x4] [.ref 77, .int x1, .int x2, .int x3, .int x4] h (inv B) := pr_m a b (fun Ret k => t9_hope (iv_tc a) k) (fun h1 Ret a1 k => t10_hope (iv_tc a1) k)
theorem n_doom (a : IV h S Im tp) (b : 103 ≤ h.1 ∧ h.1 ≤ B) (x1 x2 x3 x4 : Int32) : prM (mX9_doom g) (mX10_doom g) [.ref 0, .int x1, .int x2, .int x3, .int x4] [.ref 77, .int x1, .int x2, .int x3, .int x4] h (inv B) := pr_m a b (fun Ret k => t9_doom (iv_tc a) k) (fun h1 Ret a1 k => t10_doom (iv_tc a1) k)
end
