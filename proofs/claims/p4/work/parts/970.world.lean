section
theorem st_V {p : Program} {s : State} {m : MethodId} {meth : Method} {c : Code} (l : Launch) {b L : Nat} {xs : Nat → Int32} (C0 : lw_At p s m meth c b L xs) (hnm : meth.name = "law") : ∃ g : ax_G, g.1 = l ∧ g.2.1 = s.heap.size ∧ g.2.2.1 300 = b ∧ g.2.2.1 400 = L ∧ ax_V g cL_law 4 (some .boolean) RL "law" p s m #[Value.ref b] meth c := by
  obtain ⟨hx, hb, hr, hml, hown, hts, hX, hbl, hlocks, hgv⟩ := id C0
  have hs : ∀ w ∈ st_fl, w.before #[Value.ref b] s = true := flat_of_before _ hgv
  have hA : ∀ a : Nat, a < s.heap.size → ¬ (fun q : Nat => s.heap.size ≤ q) a := fun a ha => Nat.not_le.mpr ha
  obtain ⟨t, ht⟩ := st_tab (A := fun q : Nat => s.heap.size ≤ q) hs hts hA
  obtain ⟨adK, adV, hS, hK1⟩ := vk_Sof (args := #[Value.ref b]) (s := s) (N := 14) (tm := ax_tm) (len := ax_sl) (byt := ax_sb) (A := fun q : Nat => s.heap.size ≤ q) st_sl (fun i hi => hs _ (st_str i hi).1) (fun i hi => hs _ (st_str i hi).2.1) (fun i hi => hs _ (st_str i hi).2.2.1) (fun i hi => hs _ (st_str i hi).2.2.2.1) (fun i hi j hj => hs _ ((st_str i hi).2.2.2.2 j hj)) (fun i j hi hj hne => (st_hne i hi j hj hne).imp (fun h => hs _ h) (fun h => hs _ h)) hA
  obtain ⟨f, hf⟩ := Classical.axiomOfChoice ax_oN
  obtain ⟨D, ar, hK⟩ := st_K hts
  obtain ⟨fm, hfm⟩ : ∃ fm : Nat, va_Z "jdk/internal/util/Preconditions" "SIOOBE_FORMATTER" "Ljava/util/function/BiFunction;" .null (fun q : Nat => s.heap.size ≤ q) s s.heap ∨ va_Z "jdk/internal/util/Preconditions" "SIOOBE_FORMATTER" "Ljava/util/function/BiFunction;" (.ref fm) (fun q : Nat => s.heap.size ≤ q) s s.heap := by
    rcases va_Zqof (args := #[Value.ref b]) (hts (.laysStatic "jdk/internal/util/Preconditions" "SIOOBE_FORMATTER" "Ljava/util/function/BiFunction;") (by decide +kernel)) (hts (.initialized "jdk/internal/util/Preconditions") (by decide +kernel)) (hs (Cond.isRef (.static "jdk/internal/util/Preconditions" "SIOOBE_FORMATTER" "Ljava/util/function/BiFunction;")) (by decide +kernel)) hA with z | ⟨t, z⟩
    · exact ⟨0, Or.inl z⟩
    · exact ⟨t, Or.inr z⟩
  let out : Nat → Nat := fun k => if k < 100 then t k else if k < 200 then adK (k - 100) else if k < 300 then adV (k - 200) else if k = 300 then b else if k = 301 then fm else if k = 400 then L else f (xs (k - 1000))
  have o0 : ∀ j, j < 6 → ax_ad (l, s.heap.size, out, D, ar) (1000000 + j) = t j := fun j hj => by
    unfold ax_ad
    rw [if_neg (by omega), show 1000000 + j - 1000000 = j by omega]
    show (if j < 100 then t j else _) = t j
    rw [if_pos (by omega)]
  have o1 : ∀ j, j < 14 → ax_ad (l, s.heap.size, out, D, ar) (1000100 + j) = adK j := fun j hj => by
    unfold ax_ad
    rw [if_neg (by omega), show 1000100 + j - 1000000 = 100 + j by omega]
    show (if 100 + j < 100 then _ else if 100 + j < 200 then adK (100 + j - 100) else _) = adK j
    rw [if_neg (by omega), if_pos (by omega), show 100 + j - 100 = j by omega]
  have o2 : ∀ j, j < 14 → ax_ad (l, s.heap.size, out, D, ar) (1000200 + j) = adV j := fun j hj => by
    unfold ax_ad
    rw [if_neg (by omega), show 1000200 + j - 1000000 = 200 + j by omega]
    show (if 200 + j < 100 then _ else if 200 + j < 200 then _ else if 200 + j < 300 then adV (200 + j - 200) else _) = adV j
    rw [if_neg (by omega), if_neg (by omega), if_pos (by omega), show 200 + j - 200 = j by omega]
  have o3 : ax_ad (l, s.heap.size, out, D, ar) 1000300 = b := rfl
  have o4 : out 400 = L := rfl
  have o5 : ∀ j, Int32.ofNat (out (1000 + j)) = xs j := fun j => by
    show Int32.ofNat (if 1000 + j < 100 then _ else if 1000 + j < 200 then _ else if 1000 + j < 300 then _ else if 1000 + j = 300 then _ else if 1000 + j = 301 then _ else if 1000 + j = 400 then _ else f (xs (1000 + j - 1000))) = xs j
    rw [if_neg (by omega), if_neg (by omega), if_neg (by omega), if_neg (by omega), if_neg (by omega), if_neg (by omega), show 1000 + j - 1000 = j by omega]
    exact hf (xs j)
  refine ⟨(l, s.heap.size, out, D, ar), rfl, rfl, rfl, rfl, hx, hb, hr, hlocks, hml, hown, hnm, fun w hw => hts w (List.mem_filter.mp hw).1, hK l _ out, Nat.le_refl _, fun j q hj => ?_, ⟨fun i hi => ?_, fun i j hi hj e => ?_⟩, fun i q hi => ?_, va_Zof (hts (.laysStatic "java/lang/String" "COMPACT_STRINGS" "Z") (by decide +kernel)) (hts (.initialized "java/lang/String") (by decide +kernel)) (va_eqt (hs (Cond.eq (.static "java/lang/String" "COMPACT_STRINGS" "Z") (.int 1)) (by decide +kernel))) hA, ?_, ?_, fun q hq => va_Nw.of rfl (hts _ (st_nf q hq)), fun q hq => va_Nw.of rfl (hts _ (st_nm q hq)), fun C hC => va_AO.of (hts _ (st_ao C hC)), hfm⟩
  · have h6 : j < 6 := (List.getElem?_eq_some_iff.mp hj).1
    rw [o0 j h6]
    exact ht j q hj
  · dsimp only
    rw [o1 i hi, o2 i hi]
    exact hS.1 i hi
  · dsimp only at e
    rw [o1 i hi, o1 j hj] at e
    exact hS.2 i j hi hj e
  · have h14 : i < 14 := (List.getElem?_eq_some_iff.mp hi).1
    have eq : ax_ss.getD i (0, "") = q := by rw [List.getD_eq_getElem?_getD, hi]; rfl
    have r1 := hts _ (st_ref i h14)
    have r2 := hK1 i h14
    unfold ax_tm at r2
    rw [eq] at r1 r2
    rw [o1 i h14]
    exact vk_R.of r1 r2
  · rw [o3]
    show va_X b (out 400) (fun j => Int32.ofNat (out (1000 + j))) s s.heap
    rw [o4, show (fun j => Int32.ofNat (out (1000 + j))) = xs from funext o5]
    exact hX
  · rw [o3]
    exact Nat.not_le.mpr hbl
theorem st_room : ax_rm 2048 600000 7302250 = room_1 := rfl
theorem st_end {g : ax_G} {below : List Frame} {args : Array Value} {s t : State} (hg : g.2.1 = s.heap.size) (q : MQ below (ax_Q g (fun v _ => v = some (.int 1))) args s 600000 7302250 (ax_A g) t) : lw_Z below args s t := by
  obtain ⟨o, h1, h2, ⟨⟨v, h', ho, hv, -⟩, -⟩, L, ⟨-, hW, hS⟩, hL⟩ := q
  subst hv
  have ho : o = .returned (some (.int 1)) := ho
  obtain ⟨a1, a2, a3, a4, a5, a6⟩ := hS
  refine ⟨o, h1, h2, ho, ⟨_, ho⟩, hW, a1, a2, a3, a4, a5, fun a c hc => ?_⟩
  obtain ⟨c', b1, b2, b3, b4⟩ := a6 a c hc
  refine ⟨c', b1, b2, b3, fun i _ => b4 i (fun hm => ?_)⟩
  have : g.2.1 ≤ a := hL _ hm
  rw [hg] at this
  exact absurd (Array.getElem?_eq_some_iff.mp hc).1 (Nat.not_lt.mpr this)
/-- the law out of a walk of the abstract machine -/
theorem st_walk {p : Program} {e : Env} {s : State} {m : MethodId} {below : List Frame} {meth : Method} {c : Code} (l : Launch) {b L : Nat} {xs : Nat → Int32} (C0 : lw_At p s m meth c b L xs) (hnm : meth.name = "law") (hw : ∀ (g : ax_G) (A : ax_S → Prop), ax_HA (tL_law g) (fun v _ => v = some (.int 1)) A → g.2.2.1 400 = L → A (0, ax_en [.ref 1000300] 4, [], h00, 0, 0)) : W p l e room_1 s m #[Value.ref b] below meth c s.heap [] 0 0 (lw_Z below #[Value.ref b] s) (entryFrame m ([Value.ref b] : List Value).toArray 4) := by
  obtain ⟨g, e1, e2, e3, e4, V⟩ := st_V l C0 hnm
  have key := hw g (ax_W g 4 2048 600000 7302250 p e s m #[Value.ref b] below meth c (fun v _ => v = some (.int 1))) (fun σ K ho hK => by
    obtain ⟨pc, L, st, h, u1, u2⟩ := σ
    exact oL_law g pc p e s m _ below meth c V _ L st h u1 u2 _ ho hK) e4
  have eb : ax_ad g 1000300 = b := e3
  have hl := lv_entry ([.ref b]) (n := 4) (Nat.le_of_ble_eq_true rfl)
  rw [lg_entry_eq]
  generalize (lg_sl ([.ref b]) ++ List.replicate (4 - (lg_sl ([.ref b])).length) Slot.unset).toArray = ls at hl ⊢
  have hP0 : va_P g.2.2.2.1 vwCl (ax_w g h00) s.heap := fun k q h => by
    have e0 : (ax_w g h00) = [] := rfl
    rw [e0] at h
    exact absurd h (by simp)
  have hP : ax_P g h00 s.heap := ⟨hP0, by rw [e2]; rfl, by decide⟩
  have k2 := key s.heap [] ls hP va_S.rf ⟨hl.1, hl.2.1, fun q hq => hl.2.2 q ?_⟩
  · intro T hT X
    rw [← e1, ← st_room] at X
    obtain ⟨t, a1, b1⟩ := k2 T hT X
    exact ⟨t, a1, st_end e2 b1⟩
  · have : (List.map (Option.map (ax_v g)) (ax_en [.ref 1000300] 4)) = [some (.ref b), none, none, none] := by
      show [some (Value.ref (ax_ad g 1000300)), none, none, none] = _
      rw [eb]
    have hq : q ∈ ax_as 0 (List.map (Option.map (ax_v g)) (ax_en [.ref 1000300] 4)) := hq
    rw [this] at hq
    exact hq
end
