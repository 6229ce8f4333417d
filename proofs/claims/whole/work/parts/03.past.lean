/-! the past -/
def bk_past (pb pa : Nat → Int32) (s k m : Nat) : Nat → Int32 := fun j =>
  if 64 * s ≤ j ∧ j < 64 * s + min 64 (k + m) then
    (if (k + m - 64) + (j - 64 * s) < k then pb (j + (k + m - 64)) else pa ((k + m - 64) + (j - 64 * s) - k))
  else pb j
theorem bk_past0 (pb pa : Nat → Int32) (s k : Nat) (hk : k ≤ 64) : bk_past pb pa s k 0 = pb := by
  funext j
  unfold bk_past
  split
  · rename_i h
    rw [if_pos (by omega)]
    exact congrArg pb (by omega)
  · rfl
/-- a byte more, while there is room -/
theorem bk_past_lo (pb pa : Nat → Int32) (s k m : Nat) (h : k + m < 64) : upd (bk_past pb pa s k m) (64 * s + (k + m)) (pa m) = bk_past pb pa s k (m + 1) := by
  funext j
  unfold upd bk_past
  by_cases e : j = 64 * s + (k + m)
  · rw [if_pos e, if_pos (by omega), if_neg (by omega)]
    exact congrArg pa (by omega)
  · rw [if_neg e]
    by_cases a : 64 * s ≤ j ∧ j < 64 * s + min 64 (k + m)
    · rw [if_pos a, if_pos (show 64 * s ≤ j ∧ j < 64 * s + min 64 (k + (m + 1)) by omega)]
      by_cases b : (k + m - 64) + (j - 64 * s) < k
      · rw [if_pos b, if_pos (by omega)]
        exact congrArg pb (by omega)
      · rw [if_neg b, if_neg (by omega)]
        exact congrArg pa (by omega)
    · rw [if_neg a, if_neg (by omega)]
/-- a byte more, when it is full -/
theorem bk_past_hi (pb pa : Nat → Int32) (s k m : Nat) (hk : k ≤ 64) (h : 64 ≤ k + m) (f : Nat → Int32) (hf : ∀ j, f j = if 64 * s ≤ j ∧ j < 64 * s + 63 then bk_past pb pa s k m (j + 1) else bk_past pb pa s k m j) :
    upd f (64 * s + 63) (pa m) = bk_past pb pa s k (m + 1) := by
  funext j
  unfold upd
  by_cases e : j = 64 * s + 63
  · rw [if_pos e]
    unfold bk_past
    rw [if_pos (by omega), if_neg (by omega)]
    exact congrArg pa (by omega)
  · rw [if_neg e, hf j]
    by_cases a : 64 * s ≤ j ∧ j < 64 * s + 63
    · rw [if_pos a]
      unfold bk_past
      rw [if_pos (show 64 * s ≤ j + 1 ∧ j + 1 < 64 * s + min 64 (k + m) by omega), if_pos (show 64 * s ≤ j ∧ j < 64 * s + min 64 (k + (m + 1)) by omega)]
      by_cases b : (k + m - 64) + (j + 1 - 64 * s) < k
      · rw [if_pos b, if_pos (by omega)]
        exact congrArg pb (by omega)
      · rw [if_neg b, if_neg (by omega)]
        exact congrArg pa (by omega)
    · rw [if_neg a]
      unfold bk_past
      rw [if_neg (by omega), if_neg (by omega)]
/-- bytes -/
def bk_By (f : Nat → Int32) : Prop := ∀ j, ∃ v : Nat, v < 256 ∧ f j = nI v
theorem bk_By0 : bk_By (fun _ => 0) := fun _ => ⟨0, by omega, rfl⟩
theorem bk_Byu {f : Nat → Int32} (h : bk_By f) {k v : Nat} (hv : v < 256) : bk_By (upd f k (nI v)) := by
  intro j
  unfold upd
  by_cases e : j = k
  · rw [if_pos e]; exact ⟨v, hv, rfl⟩
  · rw [if_neg e]; exact h j
theorem bk_Byx {f : Nat → Int32} (h : bk_By f) {k : Nat} {x : Int32} (hx : ∃ v : Nat, v < 256 ∧ x = nI v) : bk_By (upd f k x) := by
  obtain ⟨v, hv, rfl⟩ := hx
  exact bk_Byu h hv
theorem bk_By_past {pb pa : Nat → Int32} {s k m : Nat} (h : bk_By pb) (h2 : ∀ j, j < m → ∃ v : Nat, v < 256 ∧ pa j = nI v) (hk : k ≤ 64) : bk_By (bk_past pb pa s k m) := by
  intro j
  unfold bk_past
  split
  · split
    · exact h _
    · exact h2 _ (by omega)
  · exact h j
/-! the least cost -/
/-- q is reached from p by a copy from f (all counted from where the past begins; e the end) -/
def bk_M (w : Nat → Int32) (e p f q : Nat) : Prop := p + 2 ≤ q ∧ q ≤ p + 33 ∧ q ≤ e ∧ ∀ i, i < q - p → w (f + i) = w (p + i)
def bk_Cp (w : Nat → Int32) (e p : Nat) (S : Nat → Prop) (c0 c : Nat → Nat) : Prop :=
  ∀ q, ((∃ f, S f ∧ bk_M w e p f q) → c q = min (c0 q) (c0 p + 2)) ∧ ((¬ ∃ f, S f ∧ bk_M w e p f q) → c q = c0 q)
theorem bk_Cp_uniq {w : Nat → Int32} {e p : Nat} {S T : Nat → Prop} {c0 c c' : Nat → Nat} (h : bk_Cp w e p S c0 c) (h' : bk_Cp w e p T c0 c') (st : ∀ f, S f ↔ T f) : c = c' := by
  funext q
  by_cases x : ∃ f, S f ∧ bk_M w e p f q
  · obtain ⟨f, sf, m⟩ := x
    rw [(h q).1 ⟨f, sf, m⟩, (h' q).1 ⟨f, (st f).mp sf, m⟩]
  · rw [(h q).2 x, (h' q).2 (fun ⟨f, tf, m⟩ => x ⟨f, (st f).mpr tf, m⟩)]
theorem bk_Cp_0 {w : Nat → Int32} {e p : Nat} {c0 : Nat → Nat} {S : Nat → Prop} (hS : ∀ f, ¬ S f) : bk_Cp w e p S c0 c0 :=
  fun _ => ⟨fun ⟨f, a, _⟩ => absurd a (hS f), fun _ => rfl⟩
/-- the copies from f with q up to z are in: c is between -/
def bk_Cq (w : Nat → Int32) (e p : Nat) (S : Nat → Prop) (f z : Nat) (c0 c : Nat → Nat) : Prop :=
  ∀ q, (((∃ f', S f' ∧ bk_M w e p f' q) ∨ (bk_M w e p f q ∧ q ≤ z)) → c q = min (c0 q) (c0 p + 2)) ∧ ((¬ ((∃ f', S f' ∧ bk_M w e p f' q) ∨ (bk_M w e p f q ∧ q ≤ z))) → c q = c0 q)
theorem bk_Cq_in {w : Nat → Int32} {e p f : Nat} {S : Nat → Prop} {c0 c : Nat → Nat} (h : bk_Cp w e p S c0 c) {z : Nat} (hz : z ≤ p + 1) : bk_Cq w e p S f z c0 c := by
  intro q
  refine ⟨?_, ?_⟩
  · rintro (x | ⟨x, y⟩)
    · exact (h q).1 x
    · have := x.1; omega
  · intro n
    exact (h q).2 (fun x => n (Or.inl x))
theorem bk_Cq_out {w : Nat → Int32} {e p f : Nat} {S T : Nat → Prop} {c0 c : Nat → Nat} {z : Nat} (h : bk_Cq w e p S f z c0 c) (hz : ∀ q, bk_M w e p f q → q ≤ z) (hT : ∀ f', T f' ↔ (S f' ∨ f' = f)) : bk_Cp w e p T c0 c := by
  intro q
  refine ⟨?_, ?_⟩
  · rintro ⟨f', t, m⟩
    rcases (hT f').mp t with s | rfl
    · exact (h q).1 (Or.inl ⟨f', s, m⟩)
    · exact (h q).1 (Or.inr ⟨m, hz q m⟩)
  · intro n
    refine (h q).2 ?_
    rintro (⟨f', s, m⟩ | ⟨m, _⟩)
    · exact n ⟨f', (hT f').mpr (Or.inl s), m⟩
    · exact n ⟨f, (hT f).mpr (Or.inr rfl), m⟩
/-- one step: q = z + 1 is reached; c' lowers it -/
theorem bk_Cq_step {w : Nat → Int32} {e p f z : Nat} {S : Nat → Prop} {c0 c c' : Nat → Nat} (h : bk_Cq w e p S f z c0 c) (m : bk_M w e p f (z + 1)) (hc : c' (z + 1) = min (c (z + 1)) (c0 p + 2)) (hn : ∀ q, q ≠ z + 1 → c' q = c q) : bk_Cq w e p S f (z + 1) c0 c' := by
  intro q
  by_cases x : q = z + 1
  · subst x
    refine ⟨fun _ => ?_, fun n => absurd (Or.inr ⟨m, Nat.le_refl _⟩) n⟩
    rw [hc]
    by_cases y : (∃ f', S f' ∧ bk_M w e p f' (z + 1)) ∨ (bk_M w e p f (z + 1) ∧ z + 1 ≤ z)
    · rw [(h (z + 1)).1 y]; omega
    · rw [(h (z + 1)).2 y]
  · rw [hn q x]
    refine ⟨?_, ?_⟩
    · rintro (y | ⟨y, k⟩)
      · exact (h q).1 (Or.inl y)
      · exact (h q).1 (Or.inr ⟨y, by omega⟩)
    · intro n
      refine (h q).2 ?_
      rintro (y | ⟨y, k⟩)
      · exact n (Or.inl y)
      · exact n (Or.inr ⟨y, by omega⟩)
