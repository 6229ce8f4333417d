/-! how X lays the lists out -/
def bk_RQ (A : Nat → List bk_E) (qi qc : Nat → Int32) : Prop :=
  ∀ t, t < 3 → qc t = nI (A t).length ∧ ∀ i p, (A t)[i]? = some p → qi (t * 8 + i) = p.1
def bk_RH (A : Nat → List bk_E) (hi hg hc : Nat → Int32) : Prop :=
  ∀ r, r < 16 → hc r = nI (A (3 + r)).length ∧ ∀ i p, (A (3 + r))[i]? = some p → hi (r * 5 + i) = p.1 ∧ hg (r * 5 + i) = nI p.2.2
def bk_Len (A : Nat → List bk_E) : Prop := (∀ L, L < 3 → (A L).length ≤ 8) ∧ (∀ r, r < 16 → (A (3 + r)).length ≤ 5)
theorem bk_lt_of_some {l : List bk_E} {i : Nat} {p : bk_E} (h : l[i]? = some p) : i < l.length := (List.getElem?_eq_some_iff.mp h).1
section REP
variable {A : Nat → List bk_E} {qi qc hi hg hc : Nat → Int32}
theorem bk_RQ_ring (h : bk_RQ A qi qc) {L : Nat} (hL : 3 ≤ L) (l : List bk_E) : bk_RQ (bk_set A L l) qi qc := by
  intro t ht
  rw [bk_set_n (show t ≠ L by omega)]
  exact h t ht
theorem bk_RH_queue (h : bk_RH A hi hg hc) {t : Nat} (ht : t < 3) (l : List bk_E) : bk_RH (bk_set A t l) hi hg hc := by
  intro r hr
  rw [bk_set_n (show 3 + r ≠ t by omega)]
  exact h r hr
def bk_shl (f : Nat → Int32) (b c : Nat) : Nat → Int32 := fun j => if b ≤ j ∧ j < b + c then f (j + 1) else f j
theorem bk_RQ_pop (h : bk_RQ A qi qc) (hl : bk_Len A) {t : Nat} {p : bk_E} {l : List bk_E} (ht : t < 3) (hA : A t = p :: l) :
    bk_RQ (bk_set A t l) (bk_shl qi (t * 8) l.length) (upd qc t (nI l.length)) := by
  intro t' ht'
  have h8 := hl.1 t ht
  rw [hA, List.length_cons] at h8
  by_cases e : t' = t
  · subst e
    rw [bk_set_s, pk_us]
    refine ⟨rfl, fun i q hq => ?_⟩
    have hi := bk_lt_of_some hq
    have k := (h t' ht').2 (i + 1) q (by rw [hA, List.getElem?_cons_succ]; exact hq)
    unfold bk_shl
    rw [if_pos (by omega)]
    exact k
  · rw [bk_set_n e, pk_un e]
    refine ⟨(h t' ht').1, fun i q hq => ?_⟩
    have hi := bk_lt_of_some hq
    have h8' := hl.1 t' ht'
    unfold bk_shl
    rw [if_neg (by omega)]
    exact (h t' ht').2 i q hq
theorem bk_RQ_back (h : bk_RQ A qi qc) (hl : bk_Len A) {t : Nat} {p : bk_E} (ht : t < 3) (h8 : (A t).length < 8) :
    bk_RQ (bk_set A t (A t ++ [p])) (upd qi (t * 8 + (A t).length) p.1) (upd qc t (nI ((A t).length + 1))) := by
  intro t' ht'
  by_cases e : t' = t
  · subst e
    rw [bk_set_s, pk_us]
    refine ⟨by rw [List.length_append]; rfl, fun i q hq => ?_⟩
    by_cases z : i < (A t').length
    · rw [List.getElem?_append_left z] at hq
      rw [pk_un (by omega)]
      exact (h t' ht').2 i q hq
    · have hi := bk_lt_of_some hq
      rw [List.length_append, List.length_singleton] at hi
      have z : i = (A t').length := by omega
      subst z
      rw [List.getElem?_append_right (Nat.le_refl _), Nat.sub_self] at hq
      rw [pk_us]
      exact congrArg Prod.fst (Option.some.inj hq)
  · rw [bk_set_n e, pk_un e]
    refine ⟨(h t' ht').1, fun i q hq => ?_⟩
    have hi := bk_lt_of_some hq
    have h8' := hl.1 t' ht'
    rw [pk_un (by omega)]
    exact (h t' ht').2 i q hq
def bk_shr (f : Nat → Int32) (b c : Nat) (w : Int32) : Nat → Int32 := fun j => if j = b then w else if b < j ∧ j ≤ b + c then f (j - 1) else f j
theorem bk_RQ_front (h : bk_RQ A qi qc) (hl : bk_Len A) {t : Nat} {p : bk_E} (ht : t < 3) (h8 : (A t).length < 8) :
    bk_RQ (bk_set A t (p :: A t)) (bk_shr qi (t * 8) (A t).length p.1) (upd qc t (nI ((A t).length + 1))) := by
  intro t' ht'
  by_cases e : t' = t
  · subst e
    rw [bk_set_s, pk_us]
    refine ⟨rfl, fun i q hq => ?_⟩
    unfold bk_shr
    cases i with
    | zero =>
      rw [if_pos (by omega)]
      exact congrArg Prod.fst (Option.some.inj hq)
    | succ i =>
      rw [List.getElem?_cons_succ] at hq
      have hi := bk_lt_of_some hq
      rw [if_neg (by omega), if_pos (by omega)]
      exact (h t' ht').2 i q hq
  · rw [bk_set_n e, pk_un e]
    refine ⟨(h t' ht').1, fun i q hq => ?_⟩
    have hi := bk_lt_of_some hq
    have h8' := hl.1 t' ht'
    unfold bk_shr
    rw [if_neg (by omega), if_neg (by omega)]
    exact (h t' ht').2 i q hq
theorem bk_RH_push (h : bk_RH A hi hg hc) (hl : bk_Len A) {r : Nat} {p : bk_E} (hr : r < 16) (h5 : (A (3 + r)).length < 5) :
    bk_RH (bk_set A (3 + r) (A (3 + r) ++ [p])) (upd hi (r * 5 + (A (3 + r)).length) p.1) (upd hg (r * 5 + (A (3 + r)).length) (nI p.2.2)) (upd hc r (nI ((A (3 + r)).length + 1))) := by
  intro r' hr'
  by_cases e : r' = r
  · subst e
    rw [bk_set_s, pk_us]
    refine ⟨by rw [List.length_append]; rfl, fun i q hq => ?_⟩
    by_cases z : i < (A (3 + r')).length
    · rw [List.getElem?_append_left z] at hq
      rw [pk_un (by omega), pk_un (by omega)]
      exact (h r' hr').2 i q hq
    · have hi := bk_lt_of_some hq
      rw [List.length_append, List.length_singleton] at hi
      have z : i = (A (3 + r')).length := by omega
      subst z
      rw [List.getElem?_append_right (Nat.le_refl _), Nat.sub_self] at hq
      rw [pk_us, pk_us]
      have e := Option.some.inj hq
      exact ⟨congrArg Prod.fst e, congrArg (fun p : bk_E => nI p.2.2) e⟩
  · rw [bk_set_n (show 3 + r' ≠ 3 + r by omega), pk_un e]
    refine ⟨(h r' hr').1, fun i q hq => ?_⟩
    have hi := bk_lt_of_some hq
    have h8' := hl.2 r' hr'
    rw [pk_un (by omega), pk_un (by omega)]
    exact (h r' hr').2 i q hq
theorem bk_RH_nil (h : bk_RH A hi hg hc) {r : Nat} (hr : r < 16) : bk_RH (bk_set A (3 + r) []) hi hg (upd hc r 0) := by
  intro r' hr'
  by_cases e : r' = r
  · subst e
    rw [bk_set_s, pk_us]
    refine ⟨rfl, fun i q hq => ?_⟩
    exact absurd (bk_lt_of_some hq) (Nat.not_lt_zero i)
  · rw [bk_set_n (show 3 + r' ≠ 3 + r by omega), pk_un e]
    exact h r' hr'
/-- the holds from..to - 1 of ring r go, those behind move down -/
def bk_cut (f : Nat → Int32) (b i n e : Nat) : Nat → Int32 := fun j => if b + i ≤ j ∧ j + n < b + e then f (j + n) else f j
theorem bk_RH_cut (h : bk_RH A hi hg hc) (hl : bk_Len A) {r : Nat} {l1 l2 l3 : List bk_E} (hr : r < 16) (hA : A (3 + r) = l1 ++ (l2 ++ l3)) :
    bk_RH (bk_set A (3 + r) (l1 ++ l3)) (bk_cut hi (r * 5) l1.length l2.length (A (3 + r)).length) (bk_cut hg (r * 5) l1.length l2.length (A (3 + r)).length) (upd hc r (nI (l1.length + l3.length))) := by
  intro r' hr'
  have h5 := hl.2 r hr
  have len : (A (3 + r)).length = l1.length + (l2.length + l3.length) := by rw [hA, List.length_append, List.length_append]
  by_cases e : r' = r
  · subst e
    rw [bk_set_s, pk_us]
    refine ⟨by rw [List.length_append], fun i q hq => ?_⟩
    have hi' := bk_lt_of_some hq
    rw [List.length_append] at hi'
    unfold bk_cut
    by_cases z : i < l1.length
    · rw [List.getElem?_append_left z] at hq
      rw [if_neg (by omega), if_neg (by omega)]
      refine (h r' hr').2 i q ?_
      rw [hA, List.getElem?_append_left z]
      exact hq
    · rw [List.getElem?_append_right (by omega)] at hq
      rw [if_pos (by omega), if_pos (by omega)]
      have k := (h r' hr').2 (i + l2.length) q (by
        rw [hA, List.getElem?_append_right (by omega), List.getElem?_append_right (by omega), ← hq]
        exact congrArg (fun k => l3[k]?) (by omega))
      rw [Nat.add_assoc]
      exact k
  · rw [bk_set_n (show 3 + r' ≠ 3 + r by omega), pk_un e]
    refine ⟨(h r' hr').1, fun i q hq => ?_⟩
    have hi' := bk_lt_of_some hq
    have h5' := hl.2 r' hr'
    unfold bk_cut
    rw [if_neg (by omega), if_neg (by omega)]
    exact (h r' hr').2 i q hq
end REP
