/-! which hold is meant: X looks through its rows, Y through all items -/
def bk_XB (A : Nat → List bk_E) (n : Nat) (V : Nat → Nat → Prop) (o : Int32) : Prop :=
  (o = -1 ∧ ∀ r i p, V r i → (A (3 + r))[i]? = some p → p.2.2 % 256 ≠ n) ∨
  ∃ r i p, V r i ∧ (A (3 + r))[i]? = some p ∧ o = nI (r * 5 + i) ∧ p.2.2 % 256 = n ∧ ∀ r' i' p', V r' i' → (A (3 + r'))[i']? = some p' → p'.2.2 % 256 = n → p.2.2 ≤ p'.2.2
section XB
variable {A : Nat → List bk_E} {n : Nat} {V W : Nat → Nat → Prop} {o : Int32} {r0 i0 : Nat} {p0 : bk_E}
theorem xb_0 (h : ∀ r i, ¬ V r i) : bk_XB A n V (-1) := Or.inl ⟨rfl, fun r i _ v _ => absurd v (h r i)⟩
theorem xb_ext (h : bk_XB A n V o) (e : ∀ r i p, (A (3 + r))[i]? = some p → (V r i ↔ W r i)) : bk_XB A n W o := by
  rcases h with ⟨a, b⟩ | ⟨r, i, p, a, b, c, d, f⟩
  · exact Or.inl ⟨a, fun r i p v q => b r i p ((e r i p q).mpr v) q⟩
  · exact Or.inr ⟨r, i, p, (e r i p b).mp a, b, c, d, fun r' i' p' v q => f r' i' p' ((e r' i' p' q).mpr v) q⟩
theorem xb_no (h : bk_XB A n V o) (hp : (A (3 + r0))[i0]? = some p0) (hn : p0.2.2 % 256 ≠ n) (e : ∀ r i, W r i ↔ (V r i ∨ (r = r0 ∧ i = i0))) : bk_XB A n W o := by
  rcases h with ⟨a, b⟩ | ⟨r, i, p, a, b, c, d, f⟩
  · refine Or.inl ⟨a, fun r i p v q => ?_⟩
    rcases (e r i).mp v with v | ⟨rfl, rfl⟩
    · exact b r i p v q
    · rw [hp] at q; cases q; exact hn
  · refine Or.inr ⟨r, i, p, (e r i).mpr (Or.inl a), b, c, d, fun r' i' p' v q z => ?_⟩
    rcases (e r' i').mp v with v | ⟨rfl, rfl⟩
    · exact f r' i' p' v q z
    · rw [hp] at q; cases q; exact absurd z hn
theorem xb_new (h : bk_XB A n V (-1)) (hp : (A (3 + r0))[i0]? = some p0) (hn : p0.2.2 % 256 = n) (e : ∀ r i, W r i ↔ (V r i ∨ (r = r0 ∧ i = i0))) (hV : ∀ r i, V r i → r * 5 + i < 2 ^ 31) : bk_XB A n W (nI (r0 * 5 + i0)) := by
  rcases h with ⟨_, b⟩ | ⟨r, i, p, a, b, c, d, f⟩
  · refine Or.inr ⟨r0, i0, p0, (e r0 i0).mpr (Or.inr ⟨rfl, rfl⟩), hp, rfl, hn, fun r' i' p' v q z => ?_⟩
    rcases (e r' i').mp v with v | ⟨rfl, rfl⟩
    · exact absurd z (b r' i' p' v q)
    · rw [hp] at q; cases q; exact Nat.le_refl _
  · exact absurd c.symm (bk_nm1 (hV r i a))
theorem xb_at (h : bk_XB A n V o) (ho : ¬ o < 0) : ∃ r i p, V r i ∧ (A (3 + r))[i]? = some p ∧ o = nI (r * 5 + i) ∧ p.2.2 % 256 = n ∧ ∀ r' i' p', V r' i' → (A (3 + r'))[i']? = some p' → p'.2.2 % 256 = n → p.2.2 ≤ p'.2.2 := by
  rcases h with ⟨a, b⟩ | h
  · rw [a] at ho; exact absurd bk_m1lt ho
  · exact h
theorem xb_lt {r i : Nat} {p : bk_E} (f : ∀ r' i' p', V r' i' → (A (3 + r'))[i']? = some p' → p'.2.2 % 256 = n → p.2.2 ≤ p'.2.2) (hp : (A (3 + r0))[i0]? = some p0) (hn : p0.2.2 % 256 = n) (lt : p0.2.2 < p.2.2) (e : ∀ r i, W r i ↔ (V r i ∨ (r = r0 ∧ i = i0))) : bk_XB A n W (nI (r0 * 5 + i0)) := by
  refine Or.inr ⟨r0, i0, p0, (e r0 i0).mpr (Or.inr ⟨rfl, rfl⟩), hp, rfl, hn, fun r' i' p' v q z => ?_⟩
  rcases (e r' i').mp v with v | ⟨rfl, rfl⟩
  · have := f r' i' p' v q z; omega
  · rw [hp] at q; cases q; exact Nat.le_refl _
theorem xb_ge {r i : Nat} {p : bk_E} (a : V r i) (b : (A (3 + r))[i]? = some p) (d : p.2.2 % 256 = n) (f : ∀ r' i' p', V r' i' → (A (3 + r'))[i']? = some p' → p'.2.2 % 256 = n → p.2.2 ≤ p'.2.2) (hp : (A (3 + r0))[i0]? = some p0) (ge : p.2.2 ≤ p0.2.2) (e : ∀ r i, W r i ↔ (V r i ∨ (r = r0 ∧ i = i0))) : bk_XB A n W (nI (r * 5 + i)) := by
  refine Or.inr ⟨r, i, p, (e r i).mpr (Or.inl a), b, rfl, d, fun r' i' p' v q z => ?_⟩
  rcases (e r' i').mp v with v | ⟨rfl, rfl⟩
  · exact f r' i' p' v q z
  · rw [hp] at q; cases q; exact ge
theorem bk_split {l : List bk_E} {i : Nat} {p : bk_E} (h : l[i]? = some p) : ∃ l1 l2, l = l1 ++ p :: l2 ∧ l1.length = i := by
  obtain ⟨hi, e⟩ := List.getElem?_eq_some_iff.mp h
  refine ⟨l.take i, l.drop (i + 1), ?_, by rw [List.length_take]; omega⟩
  rw [← e, List.getElem_cons_drop, List.take_append_drop]
end XB
section ANS
variable {A : Nat → List bk_E} {il it ib wh od tg tr so bd pl : Nat → Int32} {g : Nat → Nat} {fr en : Int}
theorem bk_ans (h : bk_Con A il it ib wh od tg tr so bd pl g fr en) {s n : Nat} {b o : Int32} (hs : s < 4) (hn : n < 256)
    (hY : bk_Best (fun j => nI (3 + 4 * s) ≤ wh j ∧ wh j < nI (3 + 4 * s + 4) ∧ tg j = nI n) (fun j => (od j).toInt) 112 b)
    (hX : bk_XB A n (fun r _ => r / 4 = s ∧ r < 16) o) :
    (b = -1 ∧ o = -1) ∨ ∃ r l1 p l2, r < 16 ∧ r / 4 = s ∧ A (3 + r) = l1 ++ p :: l2 ∧ b = nI p.2.1 ∧ o = nI (r * 5 + l1.length) := by
  have back : ∀ j, j < 112 → (nI (3 + 4 * s) ≤ wh j ∧ wh j < nI (3 + 4 * s + 4) ∧ tg j = nI n) → ∃ r p, r < 16 ∧ r / 4 = s ∧ p ∈ A (3 + r) ∧ p.2.1 = j ∧ p.2.2 % 256 = n := by
    rintro j hj ⟨a, b, c⟩
    rcases h.2.2.1 j hj with w | ⟨L, p, hL, hp, rfl⟩
    · rw [w, Int32.le_iff_toInt_le, nI_toInt (by omega), show (-1 : Int32).toInt = -1 from by decide] at a
      omega
    · rw [(h.1 L p hL hp).2.1, nI_leI (by omega) (by omega)] at a
      rw [(h.1 L p hL hp).2.1, nI_ltI (by omega) (by omega)] at b
      obtain ⟨r, rfl⟩ : ∃ r, L = 3 + r := ⟨L - 3, by omega⟩
      have w := (h.2.2.2.2.2.2.1 r p (by omega) hp).2
      rw [w] at c
      exact ⟨r, p, by omega, by omega, hp, rfl, (nI_eq (by omega) (by omega)).mp c⟩
  have forth : ∀ r p, r < 16 → r / 4 = s → p ∈ A (3 + r) → p.2.2 % 256 = n → p.2.1 < 112 ∧ (nI (3 + 4 * s) ≤ wh p.2.1 ∧ wh p.2.1 < nI (3 + 4 * s + 4) ∧ tg p.2.1 = nI n) := by
    intro r p hr hrs hp e
    have w := h.1 (3 + r) p (by omega) hp
    refine ⟨w.1, ?_, ?_, ?_⟩
    · rw [w.2.1]; exact nI_le (by omega) (by omega)
    · rw [w.2.1]; exact nI_lt (by omega) (by omega)
    · rw [(h.2.2.2.2.2.2.1 r p hr hp).2, e]
  rcases hX with ⟨hx, no⟩ | ⟨r, i, p, ⟨hrs, hr⟩, hp, hx, hpn, least⟩
  · left
    refine ⟨bk_best_none hY ?_, hx⟩
    intro j hj pj
    obtain ⟨r, p, hr, hrs, hp, _, e⟩ := back j hj pj
    obtain ⟨i, hi, e'⟩ := List.getElem_of_mem hp
    exact no r i p ⟨hrs, hr⟩ (List.getElem?_eq_some_iff.mpr ⟨hi, e'⟩) e
  · right
    obtain ⟨l1, l2, hA, hl⟩ := bk_split hp
    have hpm : p ∈ A (3 + r) := by rw [hA]; exact List.mem_append_right l1 List.mem_cons_self
    refine ⟨r, l1, p, l2, hr, hrs, hA, ?_, by rw [hl]; exact hx⟩
    obtain ⟨f1, f2⟩ := forth r p hr hrs hpm hpn
    refine bk_best_uniq hY f1 f2 ?_
    intro j hj pj ne
    obtain ⟨r', p', hr', hrs', hp', ej, e⟩ := back j hj pj
    obtain ⟨i', hi', e'⟩ := List.getElem_of_mem hp'
    have le := least r' i' p' ⟨hrs', hr'⟩ (List.getElem?_eq_some_iff.mpr ⟨hi', e'⟩) e
    have w := h.2.2.2.2.2.2.2 r r' p p' hr hr' (by omega) hpm hp'
    rw [← ej]
    refine w.1.mp ?_
    by_cases q : p.2.2 = p'.2.2
    · exact absurd ((w.2 q).symm.trans rfl) (by rw [ej]; exact fun z => ne z)
    · omega
theorem bk_best_ex (P : Nat → Prop) (key : Nat → Int) : ∀ i, i < 2 ^ 31 → ∃ b, bk_Best P key i b
  | 0, _ => ⟨-1, bk_best0⟩
  | i + 1, hi => by
    obtain ⟨b, hb⟩ := bk_best_ex P key i (by omega)
    by_cases p : P i
    · by_cases n : b < 0
      · exact ⟨nI i, bk_best_new (by omega) hb p n⟩
      · obtain ⟨c, hc, rfl⟩ := bk_best_at hb n
        by_cases lt : key i < key c
        · exact ⟨nI i, bk_best_lt (by omega) hc hb p lt⟩
        · exact ⟨nI c, bk_best_ge (by omega) hc hb (by omega)⟩
    · exact ⟨b, bk_best_no hb p⟩
theorem bk_pos (f : bk_E → Int) {p : bk_E} {l2 l2' : List bk_E} : ∀ (l1 l1' : List bk_E), (l1 ++ p :: l2).Pairwise (fun a b => f a < f b) → l1 ++ p :: l2 = l1' ++ p :: l2' → l1 = l1'
  | [], [], _, _ => rfl
  | [], a :: t, h, e => by
    rw [List.nil_append, List.cons_append] at e
    rw [List.nil_append, List.pairwise_cons] at h
    injection e with e1 e2
    have : p ∈ l2 := by rw [e2]; exact List.mem_append_right _ List.mem_cons_self
    have := h.1 p this
    omega
  | a :: t, [], h, e => by
    rw [List.nil_append, List.cons_append] at e
    rw [List.cons_append, List.pairwise_cons] at h
    injection e with e1 e2
    have := h.1 p (List.mem_append_right _ List.mem_cons_self)
    rw [e1] at this
    omega
  | a :: t, a' :: t', h, e => by
    rw [List.cons_append, List.cons_append] at e
    rw [List.cons_append, List.pairwise_cons] at h
    injection e with e1 e2
    rw [e1, bk_pos f t t' h.2 e2]
theorem bk_ans_ex (h : bk_Con A il it ib wh od tg tr so bd pl g fr en) {s n : Nat} (hs : s < 4) (hn : n < 256) :
    ∃ b o, bk_Best (fun j => nI (3 + 4 * s) ≤ wh j ∧ wh j < nI (3 + 4 * s + 4) ∧ tg j = nI n) (fun j => (od j).toInt) 112 b ∧ bk_XB A n (fun r _ => r / 4 = s ∧ r < 16) o := by
  obtain ⟨b, hY⟩ := bk_best_ex (fun j => nI (3 + 4 * s) ≤ wh j ∧ wh j < nI (3 + 4 * s + 4) ∧ tg j = nI n) (fun j => (od j).toInt) 112 (by omega)
  have forth : ∀ r p, r < 16 → r / 4 = s → p ∈ A (3 + r) → p.2.2 % 256 = n → p.2.1 < 112 ∧ (nI (3 + 4 * s) ≤ wh p.2.1 ∧ wh p.2.1 < nI (3 + 4 * s + 4) ∧ tg p.2.1 = nI n) := by
    intro r p hr hrs hp e
    have w := h.1 (3 + r) p (by omega) hp
    refine ⟨w.1, ?_, ?_, ?_⟩
    · rw [w.2.1]; exact nI_le (by omega) (by omega)
    · rw [w.2.1]; exact nI_lt (by omega) (by omega)
    · rw [(h.2.2.2.2.2.2.1 r p hr hp).2, e]
  rcases hY' : hY with ⟨_, no⟩ | ⟨c, hc, hb, ⟨a1, a2, a3⟩, least⟩
  · refine ⟨b, -1, hY, Or.inl ⟨rfl, fun r i p v q e => ?_⟩⟩
    obtain ⟨f1, f2⟩ := forth r p v.2 v.1 (List.mem_of_getElem? q) e
    exact no _ f1 f2
  · rcases h.2.2.1 c hc with w | ⟨L, p, hL, hp, rfl⟩
    · rw [w, Int32.le_iff_toInt_le, nI_toInt (by omega), show (-1 : Int32).toInt = -1 from by decide] at a1
      omega
    · rw [(h.1 L p hL hp).2.1, nI_leI (by omega) (by omega)] at a1
      rw [(h.1 L p hL hp).2.1, nI_ltI (by omega) (by omega)] at a2
      obtain ⟨r, rfl⟩ : ∃ r, L = 3 + r := ⟨L - 3, by omega⟩
      have w := (h.2.2.2.2.2.2.1 r p (by omega) hp).2
      rw [w] at a3
      have pn : p.2.2 % 256 = n := (nI_eq (by omega) (by omega)).mp a3
      obtain ⟨i, hi, e'⟩ := List.getElem_of_mem hp
      refine ⟨b, nI (r * 5 + i), hY, Or.inr ⟨r, i, p, ⟨by omega, by omega⟩, List.getElem?_eq_some_iff.mpr ⟨hi, e'⟩, rfl, pn, fun r' i' p' v q e => ?_⟩⟩
      have hp' := List.mem_of_getElem? q
      obtain ⟨f1, f2⟩ := forth r' p' v.2 v.1 hp' e
      have le : (od p.2.1).toInt ≤ (od p'.2.1).toInt := least _ f1 f2
      have o := (h.2.2.2.2.2.2.2 r' r p' p v.2 (by omega) (by omega) hp' hp).1
      apply Nat.le_of_not_lt
      intro x
      have := o.mp x
      omega
end ANS
