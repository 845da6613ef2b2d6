section
/-! the abstract heap: what a write leaves -/
theorem as_pi {h : ax_H} {a k b : Nat} {v : Int32} : ax_s (ax_pi h a k v) b = ax_s h b := rfl
theorem as_pl {h : ax_H} {a k b : Nat} {v : Int64} : ax_s (ax_pl h a k v) b = ax_s h b := rfl
theorem as_pr {h : ax_H} {a k b : Nat} {v : Option Nat} : ax_s (ax_pr h a k v) b = ax_s h b := rfl
theorem as_row {h : ax_H} {a b : Nat} {f : Nat → Int32} : ax_s (ax_row h a f) b = ax_s h b := rfl
theorem ar_pi {h : ax_H} {a k b j : Nat} {v : Int32} : ax_r (ax_pi h a k v) b j = ax_r h b j := rfl
theorem ar_pl {h : ax_H} {a k b j : Nat} {v : Int64} : ax_r (ax_pl h a k v) b j = ax_r h b j := rfl
theorem ar_row {h : ax_H} {a b j : Nat} {f : Nat → Int32} : ax_r (ax_row h a f) b j = ax_r h b j := rfl
theorem al_pi {h : ax_H} {a k b j : Nat} {v : Int32} : ax_l (ax_pi h a k v) b j = ax_l h b j := rfl
theorem al_pr {h : ax_H} {a k b j : Nat} {v : Option Nat} : ax_l (ax_pr h a k v) b j = ax_l h b j := rfl
theorem al_row {h : ax_H} {a b j : Nat} {f : Nat → Int32} : ax_l (ax_row h a f) b j = ax_l h b j := rfl
theorem ai_pl {h : ax_H} {a k b j : Nat} {v : Int64} : ax_i (ax_pl h a k v) b j = ax_i h b j := rfl
theorem ai_pr {h : ax_H} {a k b j : Nat} {v : Option Nat} : ax_i (ax_pr h a k v) b j = ax_i h b j := rfl
theorem ai_pi {h : ax_H} {a k b j : Nat} {v : Int32} : ax_i (ax_pi h a k v) b j = if b = a ∧ j = k then v else ax_i h b j := by
  show ax_u h.2.2.1 a k v b j = _
  unfold ax_u
  by_cases h1 : b = a
  · subst h1
    rw [if_pos rfl]
    by_cases h2 : j = k
    · rw [if_pos h2, if_pos ⟨rfl, h2⟩]
    · rw [if_neg h2, if_neg (fun q => h2 q.2)]; rfl
  · rw [if_neg h1, if_neg (fun q => h1 q.1)]; rfl
theorem al_pl {h : ax_H} {a k b j : Nat} {v : Int64} : ax_l (ax_pl h a k v) b j = if b = a ∧ j = k then v else ax_l h b j := by
  show ax_u h.2.2.2.1 a k v b j = _
  unfold ax_u
  by_cases h1 : b = a
  · subst h1
    rw [if_pos rfl]
    by_cases h2 : j = k
    · rw [if_pos h2, if_pos ⟨rfl, h2⟩]
    · rw [if_neg h2, if_neg (fun q => h2 q.2)]; rfl
  · rw [if_neg h1, if_neg (fun q => h1 q.1)]; rfl
theorem ar_pr {h : ax_H} {a k b j : Nat} {v : Option Nat} : ax_r (ax_pr h a k v) b j = if b = a ∧ j = k then v else ax_r h b j := by
  show ax_u h.2.2.2.2 a k v b j = _
  unfold ax_u
  by_cases h1 : b = a
  · subst h1
    rw [if_pos rfl]
    by_cases h2 : j = k
    · rw [if_pos h2, if_pos ⟨rfl, h2⟩]
    · rw [if_neg h2, if_neg (fun q => h2 q.2)]; rfl
  · rw [if_neg h1, if_neg (fun q => h1 q.1)]; rfl
theorem ai_row {h : ax_H} {a b j : Nat} {f : Nat → Int32} : ax_i (ax_row h a f) b j = if b = a then f j else ax_i h b j := by
  show (if b = a then f else h.2.2.1 b) j = _
  by_cases h1 : b = a
  · rw [if_pos h1, if_pos h1]
  · rw [if_neg h1, if_neg h1]; rfl
/-- nothing changed but ints and longs of the cells that F names -/
def ax_same (F : Nat → Prop) (h h' : ax_H) : Prop := h'.1 = h.1 ∧ (∀ a, ax_s h' a = ax_s h a) ∧ (∀ a k, ax_r h' a k = ax_r h a k) ∧ ∀ a, ¬ F a → (∀ k, ax_i h' a k = ax_i h a k) ∧ ∀ k, ax_l h' a k = ax_l h a k
theorem sm_rf {F : Nat → Prop} {h : ax_H} : ax_same F h h := ⟨rfl, fun _ => rfl, fun _ _ => rfl, fun _ _ => ⟨fun _ => rfl, fun _ => rfl⟩⟩
theorem sm_tr {F : Nat → Prop} {h h1 h2 : ax_H} (a : ax_same F h h1) (b : ax_same F h1 h2) : ax_same F h h2 := ⟨b.1.trans a.1, fun x => (b.2.1 x).trans (a.2.1 x), fun x k => (b.2.2.1 x k).trans (a.2.2.1 x k), fun x hx => ⟨fun k => ((b.2.2.2 x hx).1 k).trans ((a.2.2.2 x hx).1 k), fun k => ((b.2.2.2 x hx).2 k).trans ((a.2.2.2 x hx).2 k)⟩⟩
theorem sm_mono {F G : Nat → Prop} {h h1 : ax_H} (a : ax_same F h h1) (i : ∀ x, F x → G x) : ax_same G h h1 := ⟨a.1, a.2.1, a.2.2.1, fun x hx => a.2.2.2 x (fun q => hx (i x q))⟩
theorem sm_pi {F : Nat → Prop} {h : ax_H} {a k : Nat} {v : Int32} (hF : F a) : ax_same F h (ax_pi h a k v) := ⟨rfl, fun _ => rfl, fun _ _ => rfl, fun x hx => ⟨fun j => by rw [ai_pi, if_neg (fun (q : x = a ∧ j = k) => hx (q.1.symm ▸ hF))], fun _ => rfl⟩⟩
theorem sm_pl {F : Nat → Prop} {h : ax_H} {a k : Nat} {v : Int64} (hF : F a) : ax_same F h (ax_pl h a k v) := ⟨rfl, fun _ => rfl, fun _ _ => rfl, fun x hx => ⟨fun _ => rfl, fun j => by rw [al_pl, if_neg (fun (q : x = a ∧ j = k) => hx (q.1.symm ▸ hF))]⟩⟩
theorem sm_row {F : Nat → Prop} {h : ax_H} {a : Nat} {f : Nat → Int32} (hF : F a) : ax_same F h (ax_row h a f) := ⟨rfl, fun _ => rfl, fun _ _ => rfl, fun x hx => ⟨fun j => by rw [ai_row, if_neg (fun (q : x = a) => hx (q.symm ▸ hF))], fun _ => rfl⟩⟩
/-! sums -/
def sumN (f : Nat → Int32) : Nat → Int32
  | 0 => 0
  | n + 1 => sumN f n + f n
def sumL (f : Nat → Int64) : Nat → Int64
  | 0 => 0
  | n + 1 => sumL f n + f n
theorem sumN_congr {f g : Nat → Int32} : ∀ {n : Nat}, (∀ i, i < n → f i = g i) → sumN f n = sumN g n
  | 0, _ => rfl
  | n + 1, h => by show sumN f n + f n = sumN g n + g n; rw [sumN_congr (fun i hi => h i (Nat.lt_succ_of_lt hi)), h n (Nat.lt_succ_self n)]
theorem sumL_congr {f g : Nat → Int64} : ∀ {n : Nat}, (∀ i, i < n → f i = g i) → sumL f n = sumL g n
  | 0, _ => rfl
  | n + 1, h => by show sumL f n + f n = sumL g n + g n; rw [sumL_congr (fun i hi => h i (Nat.lt_succ_of_lt hi)), h n (Nat.lt_succ_self n)]
/-! numbers -/
theorem ni_ix {x : Int32} {n : Nat} (hn : n < 2 ^ 31) : (¬ x < 0 ∧ ¬ nI n ≤ x) ↔ ∃ j : Nat, j < n ∧ x = nI j := by
  constructor
  · rintro ⟨h1, h2⟩
    rcases pk_ix x hn with h | h | h
    · exact absurd h h1
    · exact absurd h h2
    · exact h
  · rintro ⟨j, hj, rfl⟩
    exact ⟨nI_pos (by omega), fun q => absurd ((nI_leI hn (by omega)).mp q) (by omega)⟩
theorem ni_12 {p q : Nat} : nI p * 12 + nI q = nI (p * 12 + q) := by
  rw [show (12 : Int32) = nI 12 from rfl, pk_mul, nI_add]
end
