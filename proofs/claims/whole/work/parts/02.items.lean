/-! the items: lists of entries (slot of X or -1, slot of Y, number of the giving) at places 0..2 and, held, at 3 + ring -/
abbrev bk_E : Type := Int32 × Nat × Nat
theorem bk_nm1 {k : Nat} (h : k < 2 ^ 31) : nI k ≠ -1 := by
  intro e
  have h1 := nI_toInt h
  rw [e] at h1
  have h2 : (-1 : Int32).toInt = -1 := by decide
  omega
theorem bk_m1lt : (-1 : Int32) < 0 := by decide
theorem bk_uu (f : Nat → Int32) (k : Nat) (x y : Int32) : upd (upd f k x) k y = upd f k y := by
  funext j; unfold upd; by_cases h : j = k <;> simp [h]
theorem bk_uid (f : Nat → Int32) (k : Nat) (x : Int32) (h : f k = x) : upd f k x = f := by
  funext j; unfold upd; by_cases e : j = k
  · subst e; simp [h]
  · simp [e]
theorem bk_ucomm (f : Nat → Int32) (k l : Nat) (x y : Int32) (h : k ≠ l) : upd (upd f k x) l y = upd (upd f l y) k x := by
  funext j; unfold upd; by_cases e : j = k
  · subst e; simp [h]
  · simp [e]
/-! scans -/
def bk_Best (P : Nat → Prop) (key : Nat → Int) (i : Nat) (b : Int32) : Prop :=
  (b = -1 ∧ ∀ j, j < i → ¬ P j) ∨ ∃ c, c < i ∧ b = nI c ∧ P c ∧ ∀ j, j < i → P j → key c ≤ key j
theorem bk_best0 {P : Nat → Prop} {key : Nat → Int} : bk_Best P key 0 (-1) := Or.inl ⟨rfl, fun j hj => absurd hj (Nat.not_lt_zero j)⟩
theorem bk_best_no {P : Nat → Prop} {key : Nat → Int} {i : Nat} {b : Int32} (h : bk_Best P key i b) (n : ¬ P i) : bk_Best P key (i + 1) b := by
  rcases h with ⟨hb, h⟩ | ⟨c, hc, hb, hp, h⟩
  · refine Or.inl ⟨hb, fun j hj pj => ?_⟩
    rcases Nat.lt_succ_iff_lt_or_eq.mp hj with hj | rfl
    · exact h j hj pj
    · exact n pj
  · refine Or.inr ⟨c, by omega, hb, hp, fun j hj pj => ?_⟩
    rcases Nat.lt_succ_iff_lt_or_eq.mp hj with hj | rfl
    · exact h j hj pj
    · exact absurd pj n
theorem bk_best_new {P : Nat → Prop} {key : Nat → Int} {i : Nat} {b : Int32} (hi : i < 2 ^ 31) (h : bk_Best P key i b) (p : P i) (hb : b < 0) : bk_Best P key (i + 1) (nI i) := by
  rcases h with ⟨_, h⟩ | ⟨c, hc, e, _, _⟩
  · refine Or.inr ⟨i, by omega, rfl, p, fun j hj pj => ?_⟩
    rcases Nat.lt_succ_iff_lt_or_eq.mp hj with hj | rfl
    · exact absurd pj (h j hj)
    · exact Int.le_refl _
  · rw [e] at hb
    exact absurd hb (nI_pos (by omega))
theorem bk_best_at {P : Nat → Prop} {key : Nat → Int} {i : Nat} {b : Int32} (h : bk_Best P key i b) (hb : ¬ b < 0) : ∃ c, c < i ∧ b = nI c := by
  rcases h with ⟨e, h⟩ | ⟨c, hc, e, _, _⟩
  · rw [e] at hb; exact absurd bk_m1lt hb
  · exact ⟨c, hc, e⟩
theorem bk_best_lt {P : Nat → Prop} {key : Nat → Int} {i : Nat} {c : Nat} (hi : i < 2 ^ 31) (hc : c < i) (h : bk_Best P key i (nI c)) (p : P i) (lt : key i < key c) : bk_Best P key (i + 1) (nI i) := by
  rcases h with ⟨e, _⟩ | ⟨d, hd, e, _, h⟩
  · exact absurd e (bk_nm1 (by omega))
  · have e : c = d := (nI_eq (by omega) (by omega)).mp e
    subst e
    refine Or.inr ⟨i, by omega, rfl, p, fun j hj pj => ?_⟩
    rcases Nat.lt_succ_iff_lt_or_eq.mp hj with hj | rfl
    · have := h j hj pj; omega
    · exact Int.le_refl _
theorem bk_best_ge {P : Nat → Prop} {key : Nat → Int} {i : Nat} {c : Nat} (hi : i < 2 ^ 31) (hc : c < i) (h : bk_Best P key i (nI c)) (ge : key c ≤ key i) : bk_Best P key (i + 1) (nI c) := by
  rcases h with ⟨e, _⟩ | ⟨d, hd, e, hp, h⟩
  · exact absurd e (bk_nm1 (by omega))
  · have e : c = d := (nI_eq (by omega) (by omega)).mp e
    subst e
    refine Or.inr ⟨c, by omega, rfl, hp, fun j hj pj => ?_⟩
    rcases Nat.lt_succ_iff_lt_or_eq.mp hj with hj | rfl
    · exact h j hj pj
    · exact ge
theorem bk_best_none {P : Nat → Prop} {key : Nat → Int} {i : Nat} {b : Int32} (h : bk_Best P key i b) (n : ∀ j, j < i → ¬ P j) : b = -1 := by
  rcases h with ⟨e, _⟩ | ⟨c, hc, _, hp, _⟩
  · exact e
  · exact absurd hp (n c hc)
theorem bk_best_uniq {P : Nat → Prop} {key : Nat → Int} {i : Nat} {b : Int32} {c : Nat} (h : bk_Best P key i b) (hc : c < i) (hp : P c) (hu : ∀ j, j < i → P j → j ≠ c → key c < key j) : b = nI c := by
  rcases h with ⟨_, h⟩ | ⟨d, hd, e, hq, h⟩
  · exact absurd hp (h c hc)
  · by_cases x : d = c
    · rw [e, x]
    · have h1 := hu d hd hq x
      have h2 := h c hc hp
      omega
/-! counts -/
def bk_cnt (wh : Nat → Int32) (a : Int32) : Nat → Nat
  | 0 => 0
  | n + 1 => bk_cnt wh a n + (if wh n = a then 1 else 0)
theorem bk_cnt_le (wh : Nat → Int32) (a : Int32) : ∀ n, bk_cnt wh a n ≤ n
  | 0 => Nat.le_refl 0
  | n + 1 => by have := bk_cnt_le wh a n; unfold bk_cnt; split <;> omega
theorem bk_cnt_eq (wh : Nat → Int32) (a : Int32) : ∀ (n : Nat) (l : List Nat), l.Nodup → (∀ y, y ∈ l ↔ y < n ∧ wh y = a) → bk_cnt wh a n = l.length
  | 0, l, _, h => by
    cases l with
    | nil => rfl
    | cons x l => exact absurd ((h x).mp List.mem_cons_self).1 (Nat.not_lt_zero x)
  | n + 1, l, nd, h => by
    unfold bk_cnt
    by_cases e : wh n = a
    · have hn : n ∈ l := (h n).mpr ⟨Nat.lt_succ_self n, e⟩
      have ih := bk_cnt_eq wh a n (l.erase n) (nd.erase n) (fun y => by
        rw [nd.mem_erase_iff, h y]
        constructor
        · rintro ⟨h1, h2, h3⟩; exact ⟨by omega, h3⟩
        · rintro ⟨h1, h3⟩; exact ⟨by omega, by omega, h3⟩)
      have hl := List.length_erase_of_mem hn
      have hp : 0 < l.length := List.length_pos_of_mem hn
      rw [ih, hl, if_pos e]
      omega
    · have ih := bk_cnt_eq wh a n l nd (fun y => by
        rw [h y]
        constructor
        · rintro ⟨h1, h3⟩
          refine ⟨?_, h3⟩
          rcases Nat.lt_succ_iff_lt_or_eq.mp h1 with h1 | rfl
          · exact h1
          · exact absurd h3 e
        · rintro ⟨h1, h3⟩; exact ⟨by omega, h3⟩)
      rw [ih, if_neg e]
      rfl
/-! the relation of the items -/
def bk_Ok (il it ib tr so bd : Nat → Int32) (p : bk_E) : Prop :=
  ∃ q n t : Nat, q < 104 ∧ p.1 = nI q ∧ 1 ≤ n ∧ n ≤ 16 ∧ t ≤ 2 ∧ il q = nI n ∧ so p.2.1 = nI n ∧ it q = nI t ∧ tr p.2.1 = nI t ∧ ∀ j, j < n → ib (q * 16 + j) = bd (16 * p.2.1 + j)
def bk_Qu (pl : Nat → Int32) (L : Nat) : Prop := L < 3 ∨ pl (L - 3) < 3
def bk_Ct (il it ib tr so bd pl : Nat → Int32) (L : Nat) (p : bk_E) : Prop :=
  (bk_Qu pl L ∧ bk_Ok il it ib tr so bd p) ∨ (¬ bk_Qu pl L ∧ p.1 = -1)
def bk_Con (A : Nat → List bk_E) (il it ib wh od tg tr so bd pl : Nat → Int32) (g : Nat → Nat) (fr en : Int) : Prop :=
  (∀ L p, L < 19 → p ∈ A L → p.2.1 < 112 ∧ wh p.2.1 = nI L ∧ bk_Ct il it ib tr so bd pl L p ∧ fr ≤ (od p.2.1).toInt ∧ (od p.2.1).toInt ≤ en) ∧
  (∀ L, L < 19 → (A L).Pairwise (fun p q => (od p.2.1).toInt < (od q.2.1).toInt)) ∧
  (∀ y, y < 112 → wh y = -1 ∨ ∃ L p, L < 19 ∧ p ∈ A L ∧ p.2.1 = y) ∧
  (∀ L M p q, L < 19 → M < 19 → p ∈ A L → q ∈ A M → p.1 = q.1 → p.1 ≠ -1 → p.2.1 = q.2.1) ∧
  (∀ q, q < 104 → il q = 0 ∨ ∃ L p, L < 19 ∧ p ∈ A L ∧ p.1 = nI q) ∧
  ((∀ L, L < 3 → (A L).length ≤ 8) ∧ (∀ r, r < 16 → (A (3 + r)).length ≤ 5)) ∧
  (∀ r p, r < 16 → p ∈ A (3 + r) → p.2.2 < g (r / 4) ∧ tg p.2.1 = nI (p.2.2 % 256)) ∧
  (∀ r r' p q, r < 16 → r' < 16 → r / 4 = r' / 4 → p ∈ A (3 + r) → q ∈ A (3 + r') → (p.2.2 < q.2.2 ↔ (od p.2.1).toInt < (od q.2.1).toInt) ∧ (p.2.2 = q.2.2 → p.2.1 = q.2.1))
theorem bk_pw_inj (f : bk_E → Int) : ∀ (l : List bk_E), l.Pairwise (fun p q => f p < f q) → ∀ p q, p ∈ l → q ∈ l → f p = f q → p = q
  | [], _, p, _, hp, _, _ => absurd hp List.not_mem_nil
  | a :: l, h, p, q, hp, hq, e => by
    rw [List.pairwise_cons] at h
    rcases List.mem_cons.mp hp with rfl | hp'
    · rcases List.mem_cons.mp hq with rfl | hq'
      · rfl
      · have := h.1 q hq'; omega
    · rcases List.mem_cons.mp hq with rfl | hq'
      · have := h.1 p hp'; omega
      · exact bk_pw_inj f l h.2 p q hp' hq' e
section CON
variable {A : Nat → List bk_E} {il it ib wh od tg tr so bd pl : Nat → Int32} {g : Nat → Nat} {fr en : Int}
theorem bk_inj (h : bk_Con A il it ib wh od tg tr so bd pl g fr en) {L M : Nat} {p q : bk_E} (hL : L < 19) (hM : M < 19) (hp : p ∈ A L) (hq : q ∈ A M) (e : p.2.1 = q.2.1) : L = M ∧ p = q := by
  have a := (h.1 L p hL hp).2.1
  have b := (h.1 M q hM hq).2.1
  rw [e, b] at a
  have lm : M = L := (nI_eq (by omega) (by omega)).mp a
  subst lm
  exact ⟨rfl, bk_pw_inj (fun p => (od p.2.1).toInt) _ (h.2.1 M hM) p q hp hq (by show (od p.2.1).toInt = (od q.2.1).toInt; rw [e])⟩
theorem bk_ynd (h : bk_Con A il it ib wh od tg tr so bd pl g fr en) {L : Nat} (hL : L < 19) : ((A L).map (fun p => p.2.1)).Nodup := by
  have h2 := h.2.1 L hL
  rw [List.nodup_iff_pairwise_ne, List.pairwise_map]
  refine h2.imp ?_
  intro a b hab e
  rw [e] at hab
  omega
/-- what `count` counts -/
theorem bk_count (h : bk_Con A il it ib wh od tg tr so bd pl g fr en) {L : Nat} (hL : L < 19) : bk_cnt wh (nI L) 112 = (A L).length := by
  rw [bk_cnt_eq wh (nI L) 112 ((A L).map (fun p => p.2.1)) (bk_ynd h hL), List.length_map]
  intro y
  rw [List.mem_map]
  constructor
  · rintro ⟨p, hp, rfl⟩
    exact ⟨(h.1 L p hL hp).1, (h.1 L p hL hp).2.1⟩
  · rintro ⟨hy, e⟩
    rcases h.2.2.1 y hy with w | ⟨M, p, hM, hp, rfl⟩
    · rw [w] at e; exact absurd e.symm (bk_nm1 (by omega))
    · have hw := (h.1 M p hM hp).2.1
      rw [e] at hw
      have lm : L = M := (nI_eq (by omega) (by omega)).mp hw
      subst lm
      exact ⟨p, hp, rfl⟩
theorem bk_at (h : bk_Con A il it ib wh od tg tr so bd pl g fr en) {L y : Nat} (hL : L < 19) (hy : y < 112) (e : wh y = nI L) : ∃ p, p ∈ A L ∧ p.2.1 = y := by
  rcases h.2.2.1 y hy with w | ⟨M, p, hM, hp, rfl⟩
  · rw [w] at e; exact absurd e.symm (bk_nm1 (by omega))
  · have hw := (h.1 M p hM hp).2.1
    rw [e] at hw
    have lm : L = M := (nI_eq (by omega) (by omega)).mp hw
    subst lm
    exact ⟨p, hp, rfl⟩
/-- the least order above T at L -/
theorem bk_after (h : bk_Con A il it ib wh od tg tr so bd pl g fr en) {L : Nat} (hL : L < 19) {T : Int32} {l1 l2 : List bk_E} (hA : A L = l1 ++ l2) (h1 : ∀ p, p ∈ l1 → (od p.2.1).toInt ≤ T.toInt) (h2 : ∀ p, p ∈ l2 → T.toInt < (od p.2.1).toInt) {b : Int32}
    (hb : bk_Best (fun j => wh j = nI L ∧ T < od j) (fun j => (od j).toInt) 112 b) : (l2 = [] ∧ b = -1) ∨ ∃ p l, l2 = p :: l ∧ b = nI p.2.1 := by
  cases l2 with
  | nil =>
    refine Or.inl ⟨rfl, bk_best_none hb ?_⟩
    rintro j hj ⟨e, t⟩
    obtain ⟨p, hp, rfl⟩ := bk_at h hL hj e
    rw [hA, List.append_nil] at hp
    have := h1 p hp
    rw [Int32.lt_iff_toInt_lt] at t
    omega
  | cons p l =>
    refine Or.inr ⟨p, l, rfl, ?_⟩
    have hp : p ∈ A L := by rw [hA]; exact List.mem_append_right l1 List.mem_cons_self
    have c := h.1 L p hL hp
    have pw := h.2.1 L hL
    rw [hA, List.pairwise_append, List.pairwise_cons] at pw
    refine bk_best_uniq hb c.1 ⟨c.2.1, Int32.lt_iff_toInt_lt.mpr (h2 p List.mem_cons_self)⟩ ?_
    rintro j hj ⟨e, t⟩ ne
    obtain ⟨q, hq, rfl⟩ := bk_at h hL hj e
    rw [hA] at hq
    rw [Int32.lt_iff_toInt_lt] at t
    rcases List.mem_append.mp hq with hq | hq
    · have := h1 q hq; omega
    · rcases List.mem_cons.mp hq with rfl | hq
      · exact absurd rfl ne
      · exact pw.2.1.1 q hq
/-- the greatest order at L below T -/
theorem bk_below (h : bk_Con A il it ib wh od tg tr so bd pl g fr en) {L : Nat} (hL : L < 19) (P : Nat → Prop) {l1 l2 : List bk_E} (hA : A L = l1 ++ l2) (hP : ∀ j, P j → wh j = nI L) (h1 : ∀ p, p ∈ l1 → P p.2.1) (h2 : ∀ p, p ∈ l2 → ¬ P p.2.1) {b : Int32}
    (hb : bk_Best P (fun j => - (od j).toInt) 112 b) : (l1 = [] ∧ b = -1) ∨ ∃ p l, l1 = l ++ [p] ∧ b = nI p.2.1 := by
  rcases List.eq_nil_or_concat l1 with rfl | ⟨l, p, rfl⟩
  · refine Or.inl ⟨rfl, bk_best_none hb ?_⟩
    intro j hj pj
    obtain ⟨q, hq, rfl⟩ := bk_at h hL hj (hP j pj)
    rw [hA, List.nil_append] at hq
    exact h2 q hq pj
  · rw [List.concat_eq_append] at *
    refine Or.inr ⟨p, l, rfl, ?_⟩
    have hpl : p ∈ l ++ [p] := List.mem_append_right l List.mem_cons_self
    have hp : p ∈ A L := by rw [hA]; exact List.mem_append_left l2 hpl
    have c := h.1 L p hL hp
    have pw := h.2.1 L hL
    rw [hA, List.pairwise_append, List.pairwise_append] at pw
    refine bk_best_uniq hb c.1 (h1 p hpl) ?_
    intro j hj pj ne
    obtain ⟨q, hq, rfl⟩ := bk_at h hL hj (hP j pj)
    rw [hA] at hq
    rcases List.mem_append.mp hq with hq | hq
    · rcases List.mem_append.mp hq with hq | hq
      · have := pw.1.2.2 q hq p List.mem_cons_self
        show - (od p.2.1).toInt < - (od q.2.1).toInt
        omega
      · rw [List.mem_singleton] at hq; subst hq; exact absurd rfl ne
    · exact absurd pj (h2 q hq)
/-! room -/
theorem bk_lenI (hq : ∀ L, L < 3 → (A L).length ≤ 8) (hr : ∀ r, r < 16 → (A (3 + r)).length ≤ 5) (t : Nat) (ht : t < 3 → (A t).length < 8) : ∀ n, n ≤ 19 → ((List.range n).flatMap A).length + (if t < 3 ∧ t < n then 1 else 0) ≤ 8 * min n 3 + 5 * (n - 3)
  | 0, _ => by rw [if_neg (by omega)]; exact Nat.le_refl 0
  | n + 1, hn => by
    have ih := bk_lenI hq hr t ht n (by omega)
    rw [List.range_succ, List.flatMap_append, List.length_append, List.flatMap_singleton]
    by_cases n3 : n < 3
    · have a := hq n n3
      by_cases e : t = n
      · subst e
        have := ht n3
        rw [if_neg (by omega)] at ih
        rw [if_pos (by omega)]
        omega
      · by_cases z : t < 3 ∧ t < n
        · rw [if_pos z] at ih
          rw [if_pos (by omega)]
          omega
        · rw [if_neg z] at ih
          rw [if_neg (by omega)]
          omega
    · have a := hr (n - 3) (by omega)
      rw [show 3 + (n - 3) = n by omega] at a
      by_cases z : t < 3 ∧ t < n
      · rw [if_pos z] at ih
        rw [if_pos (by omega)]
        omega
      · rw [if_neg z] at ih
        rw [if_neg (by omega)]
        omega
theorem bk_len (h : bk_Con A il it ib wh od tg tr so bd pl g fr en) : ((List.range 19).flatMap A).length ≤ 104 ∧ ∀ t, t < 3 → (A t).length < 8 → ((List.range 19).flatMap A).length ≤ 103 := by
  obtain ⟨hq, hr⟩ := h.2.2.2.2.2.1
  refine ⟨?_, fun t ht hl => ?_⟩
  · have := bk_lenI hq hr 3 (fun z => absurd z (by omega)) 19 (by omega)
    rw [if_neg (by omega)] at this
    omega
  · have := bk_lenI hq hr t (fun _ => hl) 19 (by omega)
    rw [if_pos (by omega)] at this
    omega
theorem bk_freeY (h : bk_Con A il it ib wh od tg tr so bd pl g fr en) : ∃ y, y < 112 ∧ wh y = -1 := by
  apply Classical.byContradiction
  intro n
  have sub : List.range 112 ⊆ ((List.range 19).flatMap A).map (fun p => p.2.1) := by
    intro y hy
    have hy := List.mem_range.mp hy
    rcases h.2.2.1 y hy with w | ⟨M, p, hM, hp, rfl⟩
    · exact absurd ⟨y, hy, w⟩ n
    · exact List.mem_map.mpr ⟨p, List.mem_flatMap.mpr ⟨M, List.mem_range.mpr hM, hp⟩, rfl⟩
  have l := List.Nodup.length_le_of_subset List.nodup_range sub
  rw [List.length_range, List.length_map] at l
  have := (bk_len h).1
  omega
theorem bk_freeX (h : bk_Con A il it ib wh od tg tr so bd pl g fr en) {t : Nat} (ht : t < 3) (hl : (A t).length < 8) : ∃ q, q < 104 ∧ il q = 0 := by
  apply Classical.byContradiction
  intro n
  have sub : (List.range 104).map nI ⊆ ((List.range 19).flatMap A).map (fun p => p.1) := by
    intro y hy
    obtain ⟨q, hq, rfl⟩ := List.mem_map.mp hy
    have hq := List.mem_range.mp hq
    rcases h.2.2.2.2.1 q hq with w | ⟨M, p, hM, hp, e⟩
    · exact absurd ⟨q, hq, w⟩ n
    · exact List.mem_map.mpr ⟨p, List.mem_flatMap.mpr ⟨M, List.mem_range.mpr hM, hp⟩, e⟩
  have nd : ((List.range 104).map nI).Nodup := by
    rw [List.nodup_iff_pairwise_ne, List.pairwise_map]
    refine List.Pairwise.imp_of_mem ?_ (List.nodup_iff_pairwise_ne.mp (List.nodup_range (n := 104)))
    intro a b ha hb ne e
    have ha := List.mem_range.mp ha
    have hb := List.mem_range.mp hb
    exact ne ((nI_eq (by omega) (by omega)).mp e)
  have l := List.Nodup.length_le_of_subset nd sub
  rw [List.length_map, List.length_range, List.length_map] at l
  have := (bk_len h).2 t ht hl
  omega
/-! changes of the items -/
def bk_fre (il : Nat → Int32) (x : Int32) : Nat → Int32 := if x = -1 then il else upd il x.toNatClampNeg 0
def bk_set (A : Nat → List bk_E) (L : Nat) (l : List bk_E) : Nat → List bk_E := fun M => if M = L then l else A M
theorem bk_set_s {L : Nat} {l : List bk_E} : bk_set A L l L = l := if_pos rfl
theorem bk_set_n {L M : Nat} {l : List bk_E} (h : M ≠ L) : bk_set A L l M = A M := if_neg h
theorem bk_x (h : bk_Con A il it ib wh od tg tr so bd pl g fr en) {L : Nat} {p : bk_E} (hL : L < 19) (hp : p ∈ A L) : (p.1 = -1 ∧ ¬ bk_Qu pl L) ∨ ∃ q, q < 104 ∧ p.1 = nI q ∧ bk_Qu pl L := by
  rcases (h.1 L p hL hp).2.2.1 with ⟨a, q, n, t, hq, e, _⟩ | ⟨a, e⟩
  · exact Or.inr ⟨q, hq, e, a⟩
  · exact Or.inl ⟨e, a⟩
theorem bk_rm (h : bk_Con A il it ib wh od tg tr so bd pl g fr en) {L : Nat} {p : bk_E} {l1 l2 : List bk_E} (hL : L < 19) (hA : A L = l1 ++ p :: l2) :
    bk_Con (bk_set A L (l1 ++ l2)) (bk_fre il p.1) it ib (upd wh p.2.1 (-1)) od tg tr so bd pl g fr en := by
  have hp : p ∈ A L := by rw [hA]; exact List.mem_append_right l1 List.mem_cons_self
  have sub : ∀ M q, M < 19 → q ∈ bk_set A L (l1 ++ l2) M → q ∈ A M ∧ q.2.1 ≠ p.2.1 := by
    intro M q hM hq
    by_cases e : M = L
    · subst e
      rw [bk_set_s] at hq
      have hq' : q ∈ A M := by
        rw [hA]
        rcases List.mem_append.mp hq with x | x
        · exact List.mem_append_left _ x
        · exact List.mem_append_right _ (List.mem_cons_of_mem p x)
      refine ⟨hq', fun e => ?_⟩
      have pw := h.2.1 M hM
      rw [hA, List.pairwise_append, List.pairwise_cons] at pw
      rcases List.mem_append.mp hq with x | x
      · have := pw.2.2 q x p List.mem_cons_self
        rw [e] at this; omega
      · have := pw.2.1.1 q x
        rw [e] at this; omega
    · rw [bk_set_n e] at hq
      exact ⟨hq, fun x => e (bk_inj h hM hL hq hp x).1⟩
  have sup : ∀ M q, M < 19 → q ∈ A M → q.2.1 ≠ p.2.1 → q ∈ bk_set A L (l1 ++ l2) M := by
    intro M q hM hq ne
    by_cases e : M = L
    · subst e
      rw [bk_set_s]
      rw [hA] at hq
      rcases List.mem_append.mp hq with x | x
      · exact List.mem_append_left _ x
      · rcases List.mem_cons.mp x with rfl | x
        · exact absurd rfl ne
        · exact List.mem_append_right _ x
    · rw [bk_set_n e]; exact hq
  have ilk : ∀ q, q < 104 → p.1 ≠ nI q → bk_fre il p.1 q = il q := by
    intro q hq ne
    unfold bk_fre
    rcases bk_x h hL hp with ⟨x, _⟩ | ⟨q0, h0, x, _⟩
    · rw [if_pos x]
    · rw [if_neg (by rw [x]; exact bk_nm1 (by omega)), x, nI_clamp (by omega)]
      refine pk_un (fun e => ne ?_)
      rw [x, e]
  refine ⟨?_, ?_, ?_, ?_, ?_, ⟨?_, ?_⟩, ?_, ?_⟩
  · intro M q hM hq
    obtain ⟨hq', ne⟩ := sub M q hM hq
    obtain ⟨a, b, c, d, e⟩ := h.1 M q hM hq'
    refine ⟨a, by rw [pk_un ne]; exact b, ?_, d, e⟩
    rcases c with ⟨c0, qq, n, t, c1, c2, c3, c4, c5, c6, c7⟩ | c
    · refine Or.inl ⟨c0, qq, n, t, c1, c2, c3, c4, c5, ?_, c7⟩
      rw [ilk qq c1 ?_]
      · exact c6
      · intro e
        have z : p.1 = q.1 := by rw [e, c2]
        exact ne (h.2.2.2.1 L M p q hL hM hp hq' z (by rw [e]; exact bk_nm1 (by omega))).symm
    · exact Or.inr c
  · intro M hM
    by_cases e : M = L
    · subst e
      rw [bk_set_s]
      have pw := h.2.1 M hM
      rw [hA] at pw
      exact pw.sublist (List.Sublist.append (List.Sublist.refl l1) (List.sublist_cons_self p l2))
    · rw [bk_set_n e]; exact h.2.1 M hM
  · intro y hy
    by_cases e : y = p.2.1
    · left; rw [e]; exact pk_us
    · rcases h.2.2.1 y hy with w | ⟨M, q, hM, hq, e'⟩
      · left; rw [pk_un e]; exact w
      · right; exact ⟨M, q, hM, sup M q hM hq (by rw [e']; exact e), e'⟩
  · intro M N q q' hM hN hq hq' e ne
    exact h.2.2.2.1 M N q q' hM hN (sub M q hM hq).1 (sub N q' hN hq').1 e ne
  · intro q hq
    by_cases e : p.1 = nI q
    · left
      unfold bk_fre
      rw [if_neg (by rw [e]; exact bk_nm1 (by omega)), e, nI_clamp (by omega)]
      exact pk_us
    · rcases h.2.2.2.2.1 q hq with w | ⟨M, q', hM, hq', e'⟩
      · left; rw [ilk q hq e]; exact w
      · right
        refine ⟨M, q', hM, sup M q' hM hq' ?_, e'⟩
        intro x
        have := (bk_inj h hM hL hq' hp x).2
        rw [this] at e'
        exact e e'
  · intro M hM
    have l := h.2.2.2.2.2.1.1 M hM
    by_cases e : M = L
    · subst e
      rw [bk_set_s]
      rw [hA] at l
      simp only [List.length_append, List.length_cons] at l ⊢
      omega
    · rw [bk_set_n e]; exact l
  · intro r hr
    have l := h.2.2.2.2.2.1.2 r hr
    by_cases e : 3 + r = L
    · subst e
      rw [bk_set_s]
      rw [hA] at l
      simp only [List.length_append, List.length_cons] at l ⊢
      omega
    · rw [bk_set_n e]; exact l
  · intro r q hr hq
    exact h.2.2.2.2.2.2.1 r q hr (sub _ q (by omega) hq).1
  · intro r r' q q' hr hr' e hq hq'
    exact h.2.2.2.2.2.2.2 r r' q q' hr hr' e (sub _ q (by omega) hq).1 (sub _ q' (by omega) hq').1
theorem bk_frame (h : bk_Con A il it ib wh od tg tr so bd pl g fr en) {it' ib' od' tg' tr' so' bd' : Nat → Int32} {g' : Nat → Nat} {fr' en' : Int}
    (hX : ∀ q, q < 104 → il q ≠ 0 → it' q = it q ∧ ∀ j, j < 16 → ib' (q * 16 + j) = ib (q * 16 + j))
    (hY : ∀ y, y < 112 → wh y ≠ -1 → od' y = od y ∧ tg' y = tg y ∧ tr' y = tr y ∧ so' y = so y ∧ ∀ j, j < 16 → bd' (16 * y + j) = bd (16 * y + j))
    (hg : ∀ s, g s ≤ g' s) (hf : fr' ≤ fr) (he : en ≤ en') : bk_Con A il it' ib' wh od' tg' tr' so' bd' pl g' fr' en' := by
  have us : ∀ L p, L < 19 → p ∈ A L → od' p.2.1 = od p.2.1 ∧ tg' p.2.1 = tg p.2.1 ∧ tr' p.2.1 = tr p.2.1 ∧ so' p.2.1 = so p.2.1 ∧ ∀ j, j < 16 → bd' (16 * p.2.1 + j) = bd (16 * p.2.1 + j) := by
    intro L p hL hp
    have c := h.1 L p hL hp
    exact hY _ c.1 (by rw [c.2.1]; exact bk_nm1 (by omega))
  refine ⟨?_, ?_, h.2.2.1, h.2.2.2.1, h.2.2.2.2.1, h.2.2.2.2.2.1, ?_, ?_⟩
  · intro L p hL hp
    obtain ⟨a, b, c, d, e⟩ := h.1 L p hL hp
    obtain ⟨u1, u2, u3, u4, u5⟩ := us L p hL hp
    refine ⟨a, b, ?_, by rw [u1]; omega, by rw [u1]; omega⟩
    rcases c with ⟨c0, q, n, t, c1, c2, c3, c4, c5, c6, c7, c8, c9, c10⟩ | c
    · obtain ⟨x1, x2⟩ := hX q c1 (by rw [c6]; exact nI_ne0 (by omega) (by omega))
      refine Or.inl ⟨c0, q, n, t, c1, c2, c3, c4, c5, c6, by rw [u4]; exact c7, by rw [x1]; exact c8, by rw [u3]; exact c9, ?_⟩
      intro j hj
      rw [x2 j (by omega), u5 j (by omega)]
      exact c10 j hj
    · exact Or.inr c
  · intro L hL
    refine List.Pairwise.imp_of_mem ?_ (h.2.1 L hL)
    intro a b ha hb r
    rw [(us L a hL ha).1, (us L b hL hb).1]
    exact r
  · intro r p hr hp
    have c := h.2.2.2.2.2.2.1 r p hr hp
    rw [(us _ p (by omega) hp).2.1]
    exact ⟨Nat.lt_of_lt_of_le c.1 (hg _), c.2⟩
  · intro r r' p q hr hr' e hp hq
    rw [(us _ p (by omega) hp).1, (us _ q (by omega) hq).1]
    exact h.2.2.2.2.2.2.2 r r' p q hr hr' e hp hq
theorem bk_ins (h : bk_Con A il it ib wh od tg tr so bd pl g fr en) {L : Nat} {p : bk_E} {l' : List bk_E} {il' : Nat → Int32} {g' : Nat → Nat} (hL : L < 19)
    (mem : ∀ q, q ∈ l' ↔ q = p ∨ q ∈ A L) (pw : l'.Pairwise (fun p q => (od p.2.1).toInt < (od q.2.1).toInt))
    (len : (L < 3 → l'.length ≤ 8) ∧ (3 ≤ L → l'.length ≤ 5)) (hy : p.2.1 < 112) (hw : wh p.2.1 = -1)
    (ct : (bk_Qu pl L ∧ ∃ q n t : Nat, q < 104 ∧ p.1 = nI q ∧ il q = 0 ∧ il' = upd il q (nI n) ∧ 1 ≤ n ∧ n ≤ 16 ∧ t ≤ 2 ∧ so p.2.1 = nI n ∧ it q = nI t ∧ tr p.2.1 = nI t ∧ ∀ j, j < n → ib (q * 16 + j) = bd (16 * p.2.1 + j)) ∨ (¬ bk_Qu pl L ∧ p.1 = -1 ∧ il' = il))
    (ob : fr ≤ (od p.2.1).toInt ∧ (od p.2.1).toInt ≤ en) (hg : ∀ s, g s ≤ g' s)
    (h7 : ∀ r, L = 3 + r → p.2.2 < g' (r / 4) ∧ tg p.2.1 = nI (p.2.2 % 256))
    (h8 : ∀ r r' q, L = 3 + r → r' < 16 → r / 4 = r' / 4 → q ∈ A (3 + r') → (q.2.2 < p.2.2 ↔ (od q.2.1).toInt < (od p.2.1).toInt) ∧ (p.2.2 < q.2.2 ↔ (od p.2.1).toInt < (od q.2.1).toInt) ∧ q.2.2 ≠ p.2.2) :
    bk_Con (bk_set A L l') il' it ib (upd wh p.2.1 (nI L)) od tg tr so bd pl g' fr en := by
  have sub : ∀ M q, M < 19 → q ∈ bk_set A L l' M → (M = L ∧ q = p) ∨ (q ∈ A M ∧ q.2.1 ≠ p.2.1) := by
    intro M q hM hq
    have old : q ∈ A M → q.2.1 ≠ p.2.1 := by
      intro x e
      have c := (h.1 M q hM x).2.1
      rw [e, hw] at c
      exact bk_nm1 (by omega) c.symm
    by_cases e : M = L
    · subst e
      rw [bk_set_s] at hq
      rcases (mem q).mp hq with x | x
      · exact Or.inl ⟨rfl, x⟩
      · exact Or.inr ⟨x, old x⟩
    · rw [bk_set_n e] at hq
      exact Or.inr ⟨hq, old hq⟩
  have sup : ∀ M q, q ∈ A M → q ∈ bk_set A L l' M := by
    intro M q hq
    by_cases e : M = L
    · subst e; rw [bk_set_s]; exact (mem q).mpr (Or.inr hq)
    · rw [bk_set_n e]; exact hq
  have psup : p ∈ bk_set A L l' L := by rw [bk_set_s]; exact (mem p).mpr (Or.inl rfl)
  have xne : ∀ M q, M < 19 → q ∈ A M → q.1 = p.1 → p.1 = -1 := by
    intro M q hM hq e
    rcases ct with ⟨_, q0, n, t, c1, c2, c3, _⟩ | ⟨_, c, _⟩
    · rcases (h.1 M q hM hq).2.2.1 with ⟨d0, q1, n1, t1, d1, d2, d3, d4, d5, d6, _⟩ | ⟨_, d⟩
      · rw [d2, c2] at e
        have e : q1 = q0 := (nI_eq (by omega) (by omega)).mp e
        subst e
        rw [c3] at d6
        exact absurd d6.symm (nI_ne0 (by omega) (by omega))
      · rw [← e]; exact d
    · exact c
  have ilk : ∀ q, q < 104 → nI q ≠ p.1 → il' q = il q := by
    intro q hq ne
    rcases ct with ⟨_, q0, n, t, c1, c2, c3, c4, _⟩ | ⟨_, c, c4⟩
    · rw [c4]
      refine pk_un (fun e => ne ?_)
      rw [c2, e]
    · rw [c4]
  refine ⟨?_, ?_, ?_, ?_, ?_, ⟨?_, ?_⟩, ?_, ?_⟩
  · intro M q hM hq
    rcases sub M q hM hq with ⟨e1, e2⟩ | ⟨hq', ne⟩
    · subst e1; subst e2
      refine ⟨hy, pk_us, ?_, ob.1, ob.2⟩
      rcases ct with ⟨c0, q0, n, t, c1, c2, c3, c4, c5, c6, c7, c8, c9, c10, c11⟩ | ⟨c0, c1, c2⟩
      · exact Or.inl ⟨c0, q0, n, t, c1, c2, c5, c6, c7, by rw [c4]; exact pk_us, c8, c9, c10, c11⟩
      · exact Or.inr ⟨c0, c1⟩
    · obtain ⟨a, b, c, d, e⟩ := h.1 M q hM hq'
      refine ⟨a, by rw [pk_un ne]; exact b, ?_, d, e⟩
      rcases c with ⟨c0, qq, n, t, c1, c2, c3, c4, c5, c6, c7⟩ | c
      · refine Or.inl ⟨c0, qq, n, t, c1, c2, c3, c4, c5, ?_, c7⟩
        rw [ilk qq c1 ?_]
        · exact c6
        · intro e
          have z := xne M q hM hq' (by rw [c2, e])
          rw [z] at e
          exact bk_nm1 (by omega) e
      · exact Or.inr c
  · intro M hM
    by_cases e : M = L
    · subst e; rw [bk_set_s]; exact pw
    · rw [bk_set_n e]; exact h.2.1 M hM
  · intro y hy'
    by_cases e : y = p.2.1
    · right; exact ⟨L, p, hL, psup, e.symm⟩
    · rcases h.2.2.1 y hy' with w | ⟨M, q, hM, hq, e'⟩
      · left; rw [pk_un e]; exact w
      · right; exact ⟨M, q, hM, sup M q hq, e'⟩
  · intro M N q q' hM hN hq hq' e ne
    rcases sub M q hM hq with ⟨_, x⟩ | ⟨x, _⟩
    · rcases sub N q' hN hq' with ⟨_, z⟩ | ⟨z, _⟩
      · rw [x, z]
      · rw [x] at e ne
        exact absurd (xne N q' hN z e.symm) ne
    · rcases sub N q' hN hq' with ⟨_, z⟩ | ⟨z, _⟩
      · rw [z] at e
        have := xne M q hM x e
        rw [e] at ne
        exact absurd this ne
      · exact h.2.2.2.1 M N q q' hM hN x z e ne
  · intro q hq
    by_cases e : nI q = p.1
    · right; exact ⟨L, p, hL, psup, e.symm⟩
    · rcases h.2.2.2.2.1 q hq with w | ⟨M, q', hM, hq', e'⟩
      · left; rw [ilk q hq e]; exact w
      · right; exact ⟨M, q', hM, sup M q' hq', e'⟩
  · intro M hM
    by_cases e : M = L
    · subst e; rw [bk_set_s]; exact len.1 hM
    · rw [bk_set_n e]; exact h.2.2.2.2.2.1.1 M hM
  · intro r hr
    by_cases e : 3 + r = L
    · subst e; rw [bk_set_s]; exact len.2 (by omega)
    · rw [bk_set_n e]; exact h.2.2.2.2.2.1.2 r hr
  · intro r q hr hq
    rcases sub (3 + r) q (by omega) hq with ⟨e1, e2⟩ | ⟨hq', ne⟩
    · subst e2; exact h7 r e1.symm
    · have c := h.2.2.2.2.2.2.1 r q hr hq'
      exact ⟨Nat.lt_of_lt_of_le c.1 (hg _), c.2⟩
  · intro r r' q q' hr hr' e hq hq'
    rcases sub (3 + r) q (by omega) hq with ⟨e1, e2⟩ | ⟨x, _⟩
    · rcases sub (3 + r') q' (by omega) hq' with ⟨f1, f2⟩ | ⟨z, _⟩
      · rw [e2, f2]
        refine ⟨⟨fun a => ?_, fun a => ?_⟩, fun _ => rfl⟩
        · omega
        · omega
      · rw [e2]
        have w := h8 r r' q' e1.symm hr' e z
        exact ⟨w.2.1, fun x => absurd x.symm w.2.2⟩
    · rcases sub (3 + r') q' (by omega) hq' with ⟨f1, f2⟩ | ⟨z, _⟩
      · rw [f2]
        have w := h8 r' r q f1.symm hr e.symm x
        exact ⟨w.1, fun x => absurd x w.2.2⟩
      · exact h.2.2.2.2.2.2.2 r r' q q' hr hr' e x z
theorem bk_pl (h : bk_Con A il it ib wh od tg tr so bd pl g fr en) {r : Nat} (hr : A (3 + r) = []) (x : Int32) : bk_Con A il it ib wh od tg tr so bd (upd pl r x) g fr en := by
  refine ⟨?_, h.2⟩
  intro L p hL hp
  obtain ⟨a, b, c, d, e⟩ := h.1 L p hL hp
  refine ⟨a, b, ?_, d, e⟩
  have k : bk_Qu (upd pl r x) L ↔ bk_Qu pl L := by
    unfold bk_Qu
    by_cases q : L < 3
    · simp [q]
    · have ne : L - 3 ≠ r := by
        intro e
        have : L = 3 + r := by omega
        rw [this, hr] at hp
        exact absurd hp List.not_mem_nil
      rw [pk_un ne]
  rcases c with ⟨c0, c⟩ | ⟨c0, c⟩
  · exact Or.inl ⟨k.mpr c0, c⟩
  · exact Or.inr ⟨fun z => c0 (k.mp z), c⟩
end CON
